theorem dX2_init_0 : decode cX2_init 0 = .ok (.aload_n 0, 1) := by decide +kernel
theorem dX2_init_1 : decode cX2_init 1 = .ok (.invokespecial 3, 3) := by decide +kernel
theorem dX2_init_4 : decode cX2_init 4 = .ok (.aload_n 0, 1) := by decide +kernel
theorem dX2_init_5 : decode cX2_init 5 = .ok (.bipush 12, 2) := by decide +kernel
theorem dX2_init_7 : decode cX2_init 7 = .ok (.newarray .int, 2) := by decide +kernel
theorem dX2_init_9 : decode cX2_init 9 = .ok (.putfield 9, 3) := by decide +kernel
theorem dX2_init_12 : decode cX2_init 12 = .ok (.aload_n 0, 1) := by decide +kernel
theorem dX2_init_13 : decode cX2_init 13 = .ok (.bipush 12, 2) := by decide +kernel
theorem dX2_init_15 : decode cX2_init 15 = .ok (.newarray .int, 2) := by decide +kernel
theorem dX2_init_17 : decode cX2_init 17 = .ok (.putfield 15, 3) := by decide +kernel
theorem dX2_init_20 : decode cX2_init 20 = .ok (.aload_n 0, 1) := by decide +kernel
theorem dX2_init_21 : decode cX2_init 21 = .ok (.bipush 12, 2) := by decide +kernel
theorem dX2_init_23 : decode cX2_init 23 = .ok (.newarray .int, 2) := by decide +kernel
theorem dX2_init_25 : decode cX2_init 25 = .ok (.putfield 18, 3) := by decide +kernel
theorem dX2_init_28 : decode cX2_init 28 = .ok (.aload_n 0, 1) := by decide +kernel
theorem dX2_init_29 : decode cX2_init 29 = .ok (.bipush 12, 2) := by decide +kernel
theorem dX2_init_31 : decode cX2_init 31 = .ok (.newarray .int, 2) := by decide +kernel
theorem dX2_init_33 : decode cX2_init 33 = .ok (.putfield 21, 3) := by decide +kernel
theorem dX2_init_36 : decode cX2_init 36 = .ok (.aload_n 0, 1) := by decide +kernel
theorem dX2_init_37 : decode cX2_init 37 = .ok (.bipush 6, 2) := by decide +kernel
theorem dX2_init_39 : decode cX2_init 39 = .ok (.newarray .int, 2) := by decide +kernel
theorem dX2_init_41 : decode cX2_init 41 = .ok (.putfield 24, 3) := by decide +kernel
theorem dX2_init_44 : decode cX2_init 44 = .ok (.aload_n 0, 1) := by decide +kernel
theorem dX2_init_45 : decode cX2_init 45 = .ok (.bipush 6, 2) := by decide +kernel
theorem dX2_init_47 : decode cX2_init 47 = .ok (.anewarray 27, 3) := by decide +kernel
theorem dX2_init_50 : decode cX2_init 50 = .ok (.putfield 29, 3) := by decide +kernel
theorem dX2_init_53 : decode cX2_init 53 = .ok (.iconst 0, 1) := by decide +kernel
theorem dX2_init_54 : decode cX2_init 54 = .ok (.istore_n 1, 1) := by decide +kernel
theorem dX2_init_55 : decode cX2_init 55 = .ok (.iload_n 1, 1) := by decide +kernel
theorem dX2_init_56 : decode cX2_init 56 = .ok (.bipush 6, 2) := by decide +kernel
theorem dX2_init_58 : decode cX2_init 58 = .ok (.if_icmp .ge 22, 3) := by decide +kernel
theorem dX2_init_61 : decode cX2_init 61 = .ok (.aload_n 0, 1) := by decide +kernel
theorem dX2_init_62 : decode cX2_init 62 = .ok (.getfield 29, 3) := by decide +kernel
theorem dX2_init_65 : decode cX2_init 65 = .ok (.iload_n 1, 1) := by decide +kernel
theorem dX2_init_66 : decode cX2_init 66 = .ok (.new 27, 3) := by decide +kernel
theorem dX2_init_69 : decode cX2_init 69 = .ok (.dup, 1) := by decide +kernel
theorem dX2_init_70 : decode cX2_init 70 = .ok (.invokespecial 33, 3) := by decide +kernel
theorem dX2_init_73 : decode cX2_init 73 = .ok (.aastore, 1) := by decide +kernel
theorem dX2_init_74 : decode cX2_init 74 = .ok (.iinc 1 1, 3) := by decide +kernel
theorem dX2_init_77 : decode cX2_init 77 = .ok (.goto (-22), 3) := by decide +kernel
theorem dX2_init_80 : decode cX2_init 80 = .ok (.return_, 1) := by decide +kernel
theorem dX2_copyFrom_0 : decode cX2_copyFrom 0 = .ok (.aload_n 0, 1) := by decide +kernel
theorem dX2_copyFrom_1 : decode cX2_copyFrom 1 = .ok (.aload_n 1, 1) := by decide +kernel
theorem dX2_copyFrom_2 : decode cX2_copyFrom 2 = .ok (.getfield 34, 3) := by decide +kernel
theorem dX2_copyFrom_5 : decode cX2_copyFrom 5 = .ok (.putfield 34, 3) := by decide +kernel
theorem dX2_copyFrom_8 : decode cX2_copyFrom 8 = .ok (.aload_n 1, 1) := by decide +kernel
theorem dX2_copyFrom_9 : decode cX2_copyFrom 9 = .ok (.getfield 9, 3) := by decide +kernel
theorem dX2_copyFrom_12 : decode cX2_copyFrom 12 = .ok (.iconst 0, 1) := by decide +kernel
theorem dX2_copyFrom_13 : decode cX2_copyFrom 13 = .ok (.aload_n 0, 1) := by decide +kernel
theorem dX2_copyFrom_14 : decode cX2_copyFrom 14 = .ok (.getfield 9, 3) := by decide +kernel
theorem dX2_copyFrom_17 : decode cX2_copyFrom 17 = .ok (.iconst 0, 1) := by decide +kernel
theorem dX2_copyFrom_18 : decode cX2_copyFrom 18 = .ok (.bipush 12, 2) := by decide +kernel
theorem dX2_copyFrom_20 : decode cX2_copyFrom 20 = .ok (.invokestatic 38, 3) := by decide +kernel
theorem dX2_copyFrom_23 : decode cX2_copyFrom 23 = .ok (.aload_n 1, 1) := by decide +kernel
theorem dX2_copyFrom_24 : decode cX2_copyFrom 24 = .ok (.getfield 15, 3) := by decide +kernel
theorem dX2_copyFrom_27 : decode cX2_copyFrom 27 = .ok (.iconst 0, 1) := by decide +kernel
theorem dX2_copyFrom_28 : decode cX2_copyFrom 28 = .ok (.aload_n 0, 1) := by decide +kernel
theorem dX2_copyFrom_29 : decode cX2_copyFrom 29 = .ok (.getfield 15, 3) := by decide +kernel
theorem dX2_copyFrom_32 : decode cX2_copyFrom 32 = .ok (.iconst 0, 1) := by decide +kernel
theorem dX2_copyFrom_33 : decode cX2_copyFrom 33 = .ok (.bipush 12, 2) := by decide +kernel
theorem dX2_copyFrom_35 : decode cX2_copyFrom 35 = .ok (.invokestatic 38, 3) := by decide +kernel
theorem dX2_copyFrom_38 : decode cX2_copyFrom 38 = .ok (.aload_n 1, 1) := by decide +kernel
theorem dX2_copyFrom_39 : decode cX2_copyFrom 39 = .ok (.getfield 18, 3) := by decide +kernel
theorem dX2_copyFrom_42 : decode cX2_copyFrom 42 = .ok (.iconst 0, 1) := by decide +kernel
theorem dX2_copyFrom_43 : decode cX2_copyFrom 43 = .ok (.aload_n 0, 1) := by decide +kernel
theorem dX2_copyFrom_44 : decode cX2_copyFrom 44 = .ok (.getfield 18, 3) := by decide +kernel
theorem dX2_copyFrom_47 : decode cX2_copyFrom 47 = .ok (.iconst 0, 1) := by decide +kernel
theorem dX2_copyFrom_48 : decode cX2_copyFrom 48 = .ok (.bipush 12, 2) := by decide +kernel
theorem dX2_copyFrom_50 : decode cX2_copyFrom 50 = .ok (.invokestatic 38, 3) := by decide +kernel
theorem dX2_copyFrom_53 : decode cX2_copyFrom 53 = .ok (.aload_n 1, 1) := by decide +kernel
theorem dX2_copyFrom_54 : decode cX2_copyFrom 54 = .ok (.getfield 21, 3) := by decide +kernel
theorem dX2_copyFrom_57 : decode cX2_copyFrom 57 = .ok (.iconst 0, 1) := by decide +kernel
theorem dX2_copyFrom_58 : decode cX2_copyFrom 58 = .ok (.aload_n 0, 1) := by decide +kernel
theorem dX2_copyFrom_59 : decode cX2_copyFrom 59 = .ok (.getfield 21, 3) := by decide +kernel
theorem dX2_copyFrom_62 : decode cX2_copyFrom 62 = .ok (.iconst 0, 1) := by decide +kernel
theorem dX2_copyFrom_63 : decode cX2_copyFrom 63 = .ok (.bipush 12, 2) := by decide +kernel
theorem dX2_copyFrom_65 : decode cX2_copyFrom 65 = .ok (.invokestatic 38, 3) := by decide +kernel
theorem dX2_copyFrom_68 : decode cX2_copyFrom 68 = .ok (.aload_n 0, 1) := by decide +kernel
theorem dX2_copyFrom_69 : decode cX2_copyFrom 69 = .ok (.aload_n 1, 1) := by decide +kernel
theorem dX2_copyFrom_70 : decode cX2_copyFrom 70 = .ok (.getfield 44, 3) := by decide +kernel
theorem dX2_copyFrom_73 : decode cX2_copyFrom 73 = .ok (.putfield 44, 3) := by decide +kernel
theorem dX2_copyFrom_76 : decode cX2_copyFrom 76 = .ok (.aload_n 0, 1) := by decide +kernel
theorem dX2_copyFrom_77 : decode cX2_copyFrom 77 = .ok (.aload_n 1, 1) := by decide +kernel
theorem dX2_copyFrom_78 : decode cX2_copyFrom 78 = .ok (.getfield 47, 3) := by decide +kernel
theorem dX2_copyFrom_81 : decode cX2_copyFrom 81 = .ok (.putfield 47, 3) := by decide +kernel
theorem dX2_copyFrom_84 : decode cX2_copyFrom 84 = .ok (.aload_n 1, 1) := by decide +kernel
theorem dX2_copyFrom_85 : decode cX2_copyFrom 85 = .ok (.getfield 24, 3) := by decide +kernel
theorem dX2_copyFrom_88 : decode cX2_copyFrom 88 = .ok (.iconst 0, 1) := by decide +kernel
theorem dX2_copyFrom_89 : decode cX2_copyFrom 89 = .ok (.aload_n 0, 1) := by decide +kernel
theorem dX2_copyFrom_90 : decode cX2_copyFrom 90 = .ok (.getfield 24, 3) := by decide +kernel
theorem dX2_copyFrom_93 : decode cX2_copyFrom 93 = .ok (.iconst 0, 1) := by decide +kernel
theorem dX2_copyFrom_94 : decode cX2_copyFrom 94 = .ok (.bipush 6, 2) := by decide +kernel
theorem dX2_copyFrom_96 : decode cX2_copyFrom 96 = .ok (.invokestatic 38, 3) := by decide +kernel
theorem dX2_copyFrom_99 : decode cX2_copyFrom 99 = .ok (.aload_n 0, 1) := by decide +kernel
theorem dX2_copyFrom_100 : decode cX2_copyFrom 100 = .ok (.aload_n 1, 1) := by decide +kernel
theorem dX2_copyFrom_101 : decode cX2_copyFrom 101 = .ok (.getfield 50, 3) := by decide +kernel
theorem dX2_copyFrom_104 : decode cX2_copyFrom 104 = .ok (.putfield 50, 3) := by decide +kernel
theorem dX2_copyFrom_107 : decode cX2_copyFrom 107 = .ok (.iconst 0, 1) := by decide +kernel
theorem dX2_copyFrom_108 : decode cX2_copyFrom 108 = .ok (.istore_n 2, 1) := by decide +kernel
theorem dX2_copyFrom_109 : decode cX2_copyFrom 109 = .ok (.iload_n 2, 1) := by decide +kernel
theorem dX2_copyFrom_110 : decode cX2_copyFrom 110 = .ok (.bipush 6, 2) := by decide +kernel
theorem dX2_copyFrom_112 : decode cX2_copyFrom 112 = .ok (.if_icmp .ge 24, 3) := by decide +kernel
theorem dX2_copyFrom_115 : decode cX2_copyFrom 115 = .ok (.aload_n 0, 1) := by decide +kernel
theorem dX2_copyFrom_116 : decode cX2_copyFrom 116 = .ok (.getfield 29, 3) := by decide +kernel
theorem dX2_copyFrom_119 : decode cX2_copyFrom 119 = .ok (.iload_n 2, 1) := by decide +kernel
theorem dX2_copyFrom_120 : decode cX2_copyFrom 120 = .ok (.aaload, 1) := by decide +kernel
theorem dX2_copyFrom_121 : decode cX2_copyFrom 121 = .ok (.aload_n 1, 1) := by decide +kernel
theorem dX2_copyFrom_122 : decode cX2_copyFrom 122 = .ok (.getfield 29, 3) := by decide +kernel
theorem dX2_copyFrom_125 : decode cX2_copyFrom 125 = .ok (.iload_n 2, 1) := by decide +kernel
theorem dX2_copyFrom_126 : decode cX2_copyFrom 126 = .ok (.aaload, 1) := by decide +kernel
theorem dX2_copyFrom_127 : decode cX2_copyFrom 127 = .ok (.invokevirtual 53, 3) := by decide +kernel
theorem dX2_copyFrom_130 : decode cX2_copyFrom 130 = .ok (.iinc 2 1, 3) := by decide +kernel
theorem dX2_copyFrom_133 : decode cX2_copyFrom 133 = .ok (.goto (-24), 3) := by decide +kernel
theorem dX2_copyFrom_136 : decode cX2_copyFrom 136 = .ok (.aload_n 0, 1) := by decide +kernel
theorem dX2_copyFrom_137 : decode cX2_copyFrom 137 = .ok (.aload_n 1, 1) := by decide +kernel
theorem dX2_copyFrom_138 : decode cX2_copyFrom 138 = .ok (.getfield 57, 3) := by decide +kernel
theorem dX2_copyFrom_141 : decode cX2_copyFrom 141 = .ok (.putfield 57, 3) := by decide +kernel
theorem dX2_copyFrom_144 : decode cX2_copyFrom 144 = .ok (.aload_n 0, 1) := by decide +kernel
theorem dX2_copyFrom_145 : decode cX2_copyFrom 145 = .ok (.aload_n 1, 1) := by decide +kernel
theorem dX2_copyFrom_146 : decode cX2_copyFrom 146 = .ok (.getfield 60, 3) := by decide +kernel
theorem dX2_copyFrom_149 : decode cX2_copyFrom 149 = .ok (.putfield 60, 3) := by decide +kernel
theorem dX2_copyFrom_152 : decode cX2_copyFrom 152 = .ok (.return_, 1) := by decide +kernel
theorem dX2_hasFrog_0 : decode cX2_hasFrog 0 = .ok (.iload_n 1, 1) := by decide +kernel
theorem dX2_hasFrog_1 : decode cX2_hasFrog 1 = .ok (.ifCond .lt 15, 3) := by decide +kernel
theorem dX2_hasFrog_4 : decode cX2_hasFrog 4 = .ok (.iload_n 1, 1) := by decide +kernel
theorem dX2_hasFrog_5 : decode cX2_hasFrog 5 = .ok (.aload_n 0, 1) := by decide +kernel
theorem dX2_hasFrog_6 : decode cX2_hasFrog 6 = .ok (.getfield 34, 3) := by decide +kernel
theorem dX2_hasFrog_9 : decode cX2_hasFrog 9 = .ok (.if_icmp .ge 7, 3) := by decide +kernel
theorem dX2_hasFrog_12 : decode cX2_hasFrog 12 = .ok (.iconst 1, 1) := by decide +kernel
theorem dX2_hasFrog_13 : decode cX2_hasFrog 13 = .ok (.goto 4, 3) := by decide +kernel
theorem dX2_hasFrog_16 : decode cX2_hasFrog 16 = .ok (.iconst 0, 1) := by decide +kernel
theorem dX2_hasFrog_17 : decode cX2_hasFrog 17 = .ok (.ireturn, 1) := by decide +kernel
theorem dX2_hasPad_0 : decode cX2_hasPad 0 = .ok (.iload_n 1, 1) := by decide +kernel
theorem dX2_hasPad_1 : decode cX2_hasPad 1 = .ok (.ifCond .lt 15, 3) := by decide +kernel
theorem dX2_hasPad_4 : decode cX2_hasPad 4 = .ok (.iload_n 1, 1) := by decide +kernel
theorem dX2_hasPad_5 : decode cX2_hasPad 5 = .ok (.aload_n 0, 1) := by decide +kernel
theorem dX2_hasPad_6 : decode cX2_hasPad 6 = .ok (.getfield 47, 3) := by decide +kernel
theorem dX2_hasPad_9 : decode cX2_hasPad 9 = .ok (.if_icmp .ge 7, 3) := by decide +kernel
theorem dX2_hasPad_12 : decode cX2_hasPad 12 = .ok (.iconst 1, 1) := by decide +kernel
theorem dX2_hasPad_13 : decode cX2_hasPad 13 = .ok (.goto 4, 3) := by decide +kernel
theorem dX2_hasPad_16 : decode cX2_hasPad 16 = .ok (.iconst 0, 1) := by decide +kernel
theorem dX2_hasPad_17 : decode cX2_hasPad 17 = .ok (.ireturn, 1) := by decide +kernel
theorem dX2_hasMotion_0 : decode cX2_hasMotion 0 = .ok (.iload_n 1, 1) := by decide +kernel
theorem dX2_hasMotion_1 : decode cX2_hasMotion 1 = .ok (.ifCond .lt 15, 3) := by decide +kernel
theorem dX2_hasMotion_4 : decode cX2_hasMotion 4 = .ok (.iload_n 1, 1) := by decide +kernel
theorem dX2_hasMotion_5 : decode cX2_hasMotion 5 = .ok (.aload_n 0, 1) := by decide +kernel
theorem dX2_hasMotion_6 : decode cX2_hasMotion 6 = .ok (.getfield 50, 3) := by decide +kernel
theorem dX2_hasMotion_9 : decode cX2_hasMotion 9 = .ok (.if_icmp .ge 7, 3) := by decide +kernel
theorem dX2_hasMotion_12 : decode cX2_hasMotion 12 = .ok (.iconst 1, 1) := by decide +kernel
theorem dX2_hasMotion_13 : decode cX2_hasMotion 13 = .ok (.goto 4, 3) := by decide +kernel
theorem dX2_hasMotion_16 : decode cX2_hasMotion 16 = .ok (.iconst 0, 1) := by decide +kernel
theorem dX2_hasMotion_17 : decode cX2_hasMotion 17 = .ok (.ireturn, 1) := by decide +kernel
theorem dX2_refusalOfPair_0 : decode cX2_refusalOfPair 0 = .ok (.aload_n 0, 1) := by decide +kernel
theorem dX2_refusalOfPair_1 : decode cX2_refusalOfPair 1 = .ok (.iload_n 1, 1) := by decide +kernel
theorem dX2_refusalOfPair_2 : decode cX2_refusalOfPair 2 = .ok (.invokevirtual 63, 3) := by decide +kernel
theorem dX2_refusalOfPair_5 : decode cX2_refusalOfPair 5 = .ok (.ifCond .ne 7, 3) := by decide +kernel
theorem dX2_refusalOfPair_8 : decode cX2_refusalOfPair 8 = .ok (.getstatic 67, 3) := by decide +kernel
theorem dX2_refusalOfPair_11 : decode cX2_refusalOfPair 11 = .ok (.areturn, 1) := by decide +kernel
theorem dX2_refusalOfPair_12 : decode cX2_refusalOfPair 12 = .ok (.aload_n 0, 1) := by decide +kernel
theorem dX2_refusalOfPair_13 : decode cX2_refusalOfPair 13 = .ok (.iload_n 2, 1) := by decide +kernel
theorem dX2_refusalOfPair_14 : decode cX2_refusalOfPair 14 = .ok (.invokevirtual 73, 3) := by decide +kernel
theorem dX2_refusalOfPair_17 : decode cX2_refusalOfPair 17 = .ok (.ifCond .eq 9, 3) := by decide +kernel
theorem dX2_refusalOfPair_20 : decode cX2_refusalOfPair 20 = .ok (.getstatic 76, 3) := by decide +kernel
theorem dX2_refusalOfPair_23 : decode cX2_refusalOfPair 23 = .ok (.goto 6, 3) := by decide +kernel
theorem dX2_refusalOfPair_26 : decode cX2_refusalOfPair 26 = .ok (.getstatic 79, 3) := by decide +kernel
theorem dX2_refusalOfPair_29 : decode cX2_refusalOfPair 29 = .ok (.areturn, 1) := by decide +kernel
theorem dX2_refusalToAdmit_0 : decode cX2_refusalToAdmit 0 = .ok (.iload_n 1, 1) := by decide +kernel
theorem dX2_refusalToAdmit_1 : decode cX2_refusalToAdmit 1 = .ok (.ifCond .lt 8, 3) := by decide +kernel
theorem dX2_refusalToAdmit_4 : decode cX2_refusalToAdmit 4 = .ok (.iload_n 1, 1) := by decide +kernel
theorem dX2_refusalToAdmit_5 : decode cX2_refusalToAdmit 5 = .ok (.iconst 4, 1) := by decide +kernel
theorem dX2_refusalToAdmit_6 : decode cX2_refusalToAdmit 6 = .ok (.if_icmp .lt 7, 3) := by decide +kernel
theorem dX2_refusalToAdmit_9 : decode cX2_refusalToAdmit 9 = .ok (.getstatic 82, 3) := by decide +kernel
theorem dX2_refusalToAdmit_12 : decode cX2_refusalToAdmit 12 = .ok (.areturn, 1) := by decide +kernel
theorem dX2_refusalToAdmit_13 : decode cX2_refusalToAdmit 13 = .ok (.iload_n 2, 1) := by decide +kernel
theorem dX2_refusalToAdmit_14 : decode cX2_refusalToAdmit 14 = .ok (.iconst 1, 1) := by decide +kernel
theorem dX2_refusalToAdmit_15 : decode cX2_refusalToAdmit 15 = .ok (.if_icmp .lt 9, 3) := by decide +kernel
theorem dX2_refusalToAdmit_18 : decode cX2_refusalToAdmit 18 = .ok (.iload_n 2, 1) := by decide +kernel
theorem dX2_refusalToAdmit_19 : decode cX2_refusalToAdmit 19 = .ok (.bipush 9, 2) := by decide +kernel
theorem dX2_refusalToAdmit_21 : decode cX2_refusalToAdmit 21 = .ok (.if_icmp .le 7, 3) := by decide +kernel
theorem dX2_refusalToAdmit_24 : decode cX2_refusalToAdmit 24 = .ok (.getstatic 85, 3) := by decide +kernel
theorem dX2_refusalToAdmit_27 : decode cX2_refusalToAdmit 27 = .ok (.areturn, 1) := by decide +kernel
theorem dX2_refusalToAdmit_28 : decode cX2_refusalToAdmit 28 = .ok (.aload_n 0, 1) := by decide +kernel
theorem dX2_refusalToAdmit_29 : decode cX2_refusalToAdmit 29 = .ok (.getfield 34, 3) := by decide +kernel
theorem dX2_refusalToAdmit_32 : decode cX2_refusalToAdmit 32 = .ok (.bipush 12, 2) := by decide +kernel
theorem dX2_refusalToAdmit_34 : decode cX2_refusalToAdmit 34 = .ok (.if_icmp .ge 9, 3) := by decide +kernel
theorem dX2_refusalToAdmit_37 : decode cX2_refusalToAdmit 37 = .ok (.getstatic 76, 3) := by decide +kernel
theorem dX2_refusalToAdmit_40 : decode cX2_refusalToAdmit 40 = .ok (.goto 6, 3) := by decide +kernel
theorem dX2_refusalToAdmit_43 : decode cX2_refusalToAdmit 43 = .ok (.getstatic 88, 3) := by decide +kernel
theorem dX2_refusalToAdmit_46 : decode cX2_refusalToAdmit 46 = .ok (.areturn, 1) := by decide +kernel
theorem dX2_admit_0 : decode cX2_admit 0 = .ok (.aload_n 0, 1) := by decide +kernel
theorem dX2_admit_1 : decode cX2_admit 1 = .ok (.getfield 34, 3) := by decide +kernel
theorem dX2_admit_4 : decode cX2_admit 4 = .ok (.istore_n 3, 1) := by decide +kernel
theorem dX2_admit_5 : decode cX2_admit 5 = .ok (.aload_n 0, 1) := by decide +kernel
theorem dX2_admit_6 : decode cX2_admit 6 = .ok (.getfield 9, 3) := by decide +kernel
theorem dX2_admit_9 : decode cX2_admit 9 = .ok (.iload_n 3, 1) := by decide +kernel
theorem dX2_admit_10 : decode cX2_admit 10 = .ok (.iload_n 1, 1) := by decide +kernel
theorem dX2_admit_11 : decode cX2_admit 11 = .ok (.iastore, 1) := by decide +kernel
theorem dX2_admit_12 : decode cX2_admit 12 = .ok (.aload_n 0, 1) := by decide +kernel
theorem dX2_admit_13 : decode cX2_admit 13 = .ok (.getfield 15, 3) := by decide +kernel
theorem dX2_admit_16 : decode cX2_admit 16 = .ok (.iload_n 3, 1) := by decide +kernel
theorem dX2_admit_17 : decode cX2_admit 17 = .ok (.iload_n 2, 1) := by decide +kernel
theorem dX2_admit_18 : decode cX2_admit 18 = .ok (.iastore, 1) := by decide +kernel
theorem dX2_admit_19 : decode cX2_admit 19 = .ok (.aload_n 0, 1) := by decide +kernel
theorem dX2_admit_20 : decode cX2_admit 20 = .ok (.getfield 18, 3) := by decide +kernel
theorem dX2_admit_23 : decode cX2_admit 23 = .ok (.iload_n 3, 1) := by decide +kernel
theorem dX2_admit_24 : decode cX2_admit 24 = .ok (.iconst (-1), 1) := by decide +kernel
theorem dX2_admit_25 : decode cX2_admit 25 = .ok (.iastore, 1) := by decide +kernel
theorem dX2_admit_26 : decode cX2_admit 26 = .ok (.aload_n 0, 1) := by decide +kernel
theorem dX2_admit_27 : decode cX2_admit 27 = .ok (.dup, 1) := by decide +kernel
theorem dX2_admit_28 : decode cX2_admit 28 = .ok (.getfield 34, 3) := by decide +kernel
theorem dX2_admit_31 : decode cX2_admit 31 = .ok (.iconst 1, 1) := by decide +kernel
theorem dX2_admit_32 : decode cX2_admit 32 = .ok (.iadd, 1) := by decide +kernel
theorem dX2_admit_33 : decode cX2_admit 33 = .ok (.putfield 34, 3) := by decide +kernel
theorem dX2_admit_36 : decode cX2_admit 36 = .ok (.iload_n 3, 1) := by decide +kernel
theorem dX2_admit_37 : decode cX2_admit 37 = .ok (.ireturn, 1) := by decide +kernel
theorem dX2_refusalToLay_0 : decode cX2_refusalToLay 0 = .ok (.iload_n 1, 1) := by decide +kernel
theorem dX2_refusalToLay_1 : decode cX2_refusalToLay 1 = .ok (.iconst 1, 1) := by decide +kernel
theorem dX2_refusalToLay_2 : decode cX2_refusalToLay 2 = .ok (.if_icmp .lt 8, 3) := by decide +kernel
theorem dX2_refusalToLay_5 : decode cX2_refusalToLay 5 = .ok (.iload_n 1, 1) := by decide +kernel
theorem dX2_refusalToLay_6 : decode cX2_refusalToLay 6 = .ok (.iconst 4, 1) := by decide +kernel
theorem dX2_refusalToLay_7 : decode cX2_refusalToLay 7 = .ok (.if_icmp .le 7, 3) := by decide +kernel
theorem dX2_refusalToLay_10 : decode cX2_refusalToLay 10 = .ok (.getstatic 91, 3) := by decide +kernel
theorem dX2_refusalToLay_13 : decode cX2_refusalToLay 13 = .ok (.areturn, 1) := by decide +kernel
theorem dX2_refusalToLay_14 : decode cX2_refusalToLay 14 = .ok (.aload_n 0, 1) := by decide +kernel
theorem dX2_refusalToLay_15 : decode cX2_refusalToLay 15 = .ok (.getfield 47, 3) := by decide +kernel
theorem dX2_refusalToLay_18 : decode cX2_refusalToLay 18 = .ok (.bipush 6, 2) := by decide +kernel
theorem dX2_refusalToLay_20 : decode cX2_refusalToLay 20 = .ok (.if_icmp .ge 9, 3) := by decide +kernel
theorem dX2_refusalToLay_23 : decode cX2_refusalToLay 23 = .ok (.getstatic 76, 3) := by decide +kernel
theorem dX2_refusalToLay_26 : decode cX2_refusalToLay 26 = .ok (.goto 6, 3) := by decide +kernel
theorem dX2_refusalToLay_29 : decode cX2_refusalToLay 29 = .ok (.getstatic 88, 3) := by decide +kernel
theorem dX2_refusalToLay_32 : decode cX2_refusalToLay 32 = .ok (.areturn, 1) := by decide +kernel
theorem dX2_lay_0 : decode cX2_lay 0 = .ok (.aload_n 0, 1) := by decide +kernel
theorem dX2_lay_1 : decode cX2_lay 1 = .ok (.getfield 47, 3) := by decide +kernel
theorem dX2_lay_4 : decode cX2_lay 4 = .ok (.istore_n 2, 1) := by decide +kernel
theorem dX2_lay_5 : decode cX2_lay 5 = .ok (.aload_n 0, 1) := by decide +kernel
theorem dX2_lay_6 : decode cX2_lay 6 = .ok (.getfield 24, 3) := by decide +kernel
theorem dX2_lay_9 : decode cX2_lay 9 = .ok (.iload_n 2, 1) := by decide +kernel
theorem dX2_lay_10 : decode cX2_lay 10 = .ok (.iload_n 1, 1) := by decide +kernel
theorem dX2_lay_11 : decode cX2_lay 11 = .ok (.iastore, 1) := by decide +kernel
theorem dX2_lay_12 : decode cX2_lay 12 = .ok (.aload_n 0, 1) := by decide +kernel
theorem dX2_lay_13 : decode cX2_lay 13 = .ok (.dup, 1) := by decide +kernel
theorem dX2_lay_14 : decode cX2_lay 14 = .ok (.getfield 47, 3) := by decide +kernel
theorem dX2_lay_17 : decode cX2_lay 17 = .ok (.iconst 1, 1) := by decide +kernel
theorem dX2_lay_18 : decode cX2_lay 18 = .ok (.iadd, 1) := by decide +kernel
theorem dX2_lay_19 : decode cX2_lay 19 = .ok (.putfield 47, 3) := by decide +kernel
theorem dX2_lay_22 : decode cX2_lay 22 = .ok (.iload_n 2, 1) := by decide +kernel
theorem dX2_lay_23 : decode cX2_lay 23 = .ok (.ireturn, 1) := by decide +kernel
theorem dX2_refusalToSeat_0 : decode cX2_refusalToSeat 0 = .ok (.aload_n 0, 1) := by decide +kernel
theorem dX2_refusalToSeat_1 : decode cX2_refusalToSeat 1 = .ok (.iload_n 1, 1) := by decide +kernel
theorem dX2_refusalToSeat_2 : decode cX2_refusalToSeat 2 = .ok (.invokevirtual 73, 3) := by decide +kernel
theorem dX2_refusalToSeat_5 : decode cX2_refusalToSeat 5 = .ok (.ifCond .ne 7, 3) := by decide +kernel
theorem dX2_refusalToSeat_8 : decode cX2_refusalToSeat 8 = .ok (.getstatic 79, 3) := by decide +kernel
theorem dX2_refusalToSeat_11 : decode cX2_refusalToSeat 11 = .ok (.areturn, 1) := by decide +kernel
theorem dX2_refusalToSeat_12 : decode cX2_refusalToSeat 12 = .ok (.aload_n 0, 1) := by decide +kernel
theorem dX2_refusalToSeat_13 : decode cX2_refusalToSeat 13 = .ok (.iload_n 2, 1) := by decide +kernel
theorem dX2_refusalToSeat_14 : decode cX2_refusalToSeat 14 = .ok (.invokevirtual 94, 3) := by decide +kernel
theorem dX2_refusalToSeat_17 : decode cX2_refusalToSeat 17 = .ok (.ifCond .ne 7, 3) := by decide +kernel
theorem dX2_refusalToSeat_20 : decode cX2_refusalToSeat 20 = .ok (.getstatic 97, 3) := by decide +kernel
theorem dX2_refusalToSeat_23 : decode cX2_refusalToSeat 23 = .ok (.areturn, 1) := by decide +kernel
theorem dX2_refusalToSeat_24 : decode cX2_refusalToSeat 24 = .ok (.aload_n 0, 1) := by decide +kernel
theorem dX2_refusalToSeat_25 : decode cX2_refusalToSeat 25 = .ok (.getfield 18, 3) := by decide +kernel
theorem dX2_refusalToSeat_28 : decode cX2_refusalToSeat 28 = .ok (.iload_n 1, 1) := by decide +kernel
theorem dX2_refusalToSeat_29 : decode cX2_refusalToSeat 29 = .ok (.iaload, 1) := by decide +kernel
theorem dX2_refusalToSeat_30 : decode cX2_refusalToSeat 30 = .ok (.iload_n 2, 1) := by decide +kernel
theorem dX2_refusalToSeat_31 : decode cX2_refusalToSeat 31 = .ok (.if_icmp .ne 7, 3) := by decide +kernel
theorem dX2_refusalToSeat_34 : decode cX2_refusalToSeat 34 = .ok (.getstatic 100, 3) := by decide +kernel
theorem dX2_refusalToSeat_37 : decode cX2_refusalToSeat 37 = .ok (.areturn, 1) := by decide +kernel
theorem dX2_refusalToSeat_38 : decode cX2_refusalToSeat 38 = .ok (.aload_n 0, 1) := by decide +kernel
theorem dX2_refusalToSeat_39 : decode cX2_refusalToSeat 39 = .ok (.iload_n 2, 1) := by decide +kernel
theorem dX2_refusalToSeat_40 : decode cX2_refusalToSeat 40 = .ok (.invokevirtual 103, 3) := by decide +kernel
theorem dX2_refusalToSeat_43 : decode cX2_refusalToSeat 43 = .ok (.aload_n 0, 1) := by decide +kernel
theorem dX2_refusalToSeat_44 : decode cX2_refusalToSeat 44 = .ok (.getfield 24, 3) := by decide +kernel
theorem dX2_refusalToSeat_47 : decode cX2_refusalToSeat 47 = .ok (.iload_n 2, 1) := by decide +kernel
theorem dX2_refusalToSeat_48 : decode cX2_refusalToSeat 48 = .ok (.iaload, 1) := by decide +kernel
theorem dX2_refusalToSeat_49 : decode cX2_refusalToSeat 49 = .ok (.if_icmp .ge 9, 3) := by decide +kernel
theorem dX2_refusalToSeat_52 : decode cX2_refusalToSeat 52 = .ok (.getstatic 76, 3) := by decide +kernel
theorem dX2_refusalToSeat_55 : decode cX2_refusalToSeat 55 = .ok (.goto 6, 3) := by decide +kernel
theorem dX2_refusalToSeat_58 : decode cX2_refusalToSeat 58 = .ok (.getstatic 107, 3) := by decide +kernel
theorem dX2_refusalToSeat_61 : decode cX2_refusalToSeat 61 = .ok (.areturn, 1) := by decide +kernel
theorem dX2_seat_0 : decode cX2_seat 0 = .ok (.aload_n 0, 1) := by decide +kernel
theorem dX2_seat_1 : decode cX2_seat 1 = .ok (.getfield 18, 3) := by decide +kernel
theorem dX2_seat_4 : decode cX2_seat 4 = .ok (.iload_n 1, 1) := by decide +kernel
theorem dX2_seat_5 : decode cX2_seat 5 = .ok (.iload_n 2, 1) := by decide +kernel
theorem dX2_seat_6 : decode cX2_seat 6 = .ok (.iastore, 1) := by decide +kernel
theorem dX2_seat_7 : decode cX2_seat 7 = .ok (.aload_n 0, 1) := by decide +kernel
theorem dX2_seat_8 : decode cX2_seat 8 = .ok (.dup, 1) := by decide +kernel
theorem dX2_seat_9 : decode cX2_seat 9 = .ok (.getfield 44, 3) := by decide +kernel
theorem dX2_seat_12 : decode cX2_seat 12 = .ok (.iconst 1, 1) := by decide +kernel
theorem dX2_seat_13 : decode cX2_seat 13 = .ok (.iload_n 1, 1) := by decide +kernel
theorem dX2_seat_14 : decode cX2_seat 14 = .ok (.ishl, 1) := by decide +kernel
theorem dX2_seat_15 : decode cX2_seat 15 = .ok (.ior, 1) := by decide +kernel
theorem dX2_seat_16 : decode cX2_seat 16 = .ok (.putfield 44, 3) := by decide +kernel
theorem dX2_seat_19 : decode cX2_seat 19 = .ok (.aload_n 0, 1) := by decide +kernel
theorem dX2_seat_20 : decode cX2_seat 20 = .ok (.iload_n 2, 1) := by decide +kernel
theorem dX2_seat_21 : decode cX2_seat 21 = .ok (.invokevirtual 103, 3) := by decide +kernel
theorem dX2_seat_24 : decode cX2_seat 24 = .ok (.ireturn, 1) := by decide +kernel
theorem dX2_refusalToUnseat_0 : decode cX2_refusalToUnseat 0 = .ok (.aload_n 0, 1) := by decide +kernel
theorem dX2_refusalToUnseat_1 : decode cX2_refusalToUnseat 1 = .ok (.iload_n 1, 1) := by decide +kernel
theorem dX2_refusalToUnseat_2 : decode cX2_refusalToUnseat 2 = .ok (.invokevirtual 73, 3) := by decide +kernel
theorem dX2_refusalToUnseat_5 : decode cX2_refusalToUnseat 5 = .ok (.ifCond .ne 7, 3) := by decide +kernel
theorem dX2_refusalToUnseat_8 : decode cX2_refusalToUnseat 8 = .ok (.getstatic 79, 3) := by decide +kernel
theorem dX2_refusalToUnseat_11 : decode cX2_refusalToUnseat 11 = .ok (.areturn, 1) := by decide +kernel
theorem dX2_refusalToUnseat_12 : decode cX2_refusalToUnseat 12 = .ok (.aload_n 0, 1) := by decide +kernel
theorem dX2_refusalToUnseat_13 : decode cX2_refusalToUnseat 13 = .ok (.iload_n 1, 1) := by decide +kernel
theorem dX2_refusalToUnseat_14 : decode cX2_refusalToUnseat 14 = .ok (.invokevirtual 110, 3) := by decide +kernel
theorem dX2_refusalToUnseat_17 : decode cX2_refusalToUnseat 17 = .ok (.ifCond .eq 9, 3) := by decide +kernel
theorem dX2_refusalToUnseat_20 : decode cX2_refusalToUnseat 20 = .ok (.getstatic 76, 3) := by decide +kernel
theorem dX2_refusalToUnseat_23 : decode cX2_refusalToUnseat 23 = .ok (.goto 6, 3) := by decide +kernel
theorem dX2_refusalToUnseat_26 : decode cX2_refusalToUnseat 26 = .ok (.getstatic 113, 3) := by decide +kernel
theorem dX2_refusalToUnseat_29 : decode cX2_refusalToUnseat 29 = .ok (.areturn, 1) := by decide +kernel
theorem dX2_unseat_0 : decode cX2_unseat 0 = .ok (.aload_n 0, 1) := by decide +kernel
theorem dX2_unseat_1 : decode cX2_unseat 1 = .ok (.getfield 18, 3) := by decide +kernel
theorem dX2_unseat_4 : decode cX2_unseat 4 = .ok (.iload_n 1, 1) := by decide +kernel
theorem dX2_unseat_5 : decode cX2_unseat 5 = .ok (.iaload, 1) := by decide +kernel
theorem dX2_unseat_6 : decode cX2_unseat 6 = .ok (.istore_n 2, 1) := by decide +kernel
theorem dX2_unseat_7 : decode cX2_unseat 7 = .ok (.aload_n 0, 1) := by decide +kernel
theorem dX2_unseat_8 : decode cX2_unseat 8 = .ok (.getfield 18, 3) := by decide +kernel
theorem dX2_unseat_11 : decode cX2_unseat 11 = .ok (.iload_n 1, 1) := by decide +kernel
theorem dX2_unseat_12 : decode cX2_unseat 12 = .ok (.iconst (-1), 1) := by decide +kernel
theorem dX2_unseat_13 : decode cX2_unseat 13 = .ok (.iastore, 1) := by decide +kernel
theorem dX2_unseat_14 : decode cX2_unseat 14 = .ok (.aload_n 0, 1) := by decide +kernel
theorem dX2_unseat_15 : decode cX2_unseat 15 = .ok (.dup, 1) := by decide +kernel
theorem dX2_unseat_16 : decode cX2_unseat 16 = .ok (.getfield 44, 3) := by decide +kernel
theorem dX2_unseat_19 : decode cX2_unseat 19 = .ok (.iconst 1, 1) := by decide +kernel
theorem dX2_unseat_20 : decode cX2_unseat 20 = .ok (.iload_n 1, 1) := by decide +kernel
theorem dX2_unseat_21 : decode cX2_unseat 21 = .ok (.ishl, 1) := by decide +kernel
theorem dX2_unseat_22 : decode cX2_unseat 22 = .ok (.iconst (-1), 1) := by decide +kernel
theorem dX2_unseat_23 : decode cX2_unseat 23 = .ok (.ixor, 1) := by decide +kernel
theorem dX2_unseat_24 : decode cX2_unseat 24 = .ok (.iand, 1) := by decide +kernel
theorem dX2_unseat_25 : decode cX2_unseat 25 = .ok (.putfield 44, 3) := by decide +kernel
theorem dX2_unseat_28 : decode cX2_unseat 28 = .ok (.iload_n 2, 1) := by decide +kernel
theorem dX2_unseat_29 : decode cX2_unseat 29 = .ok (.ireturn, 1) := by decide +kernel
theorem dX2_sits_0 : decode cX2_sits 0 = .ok (.aload_n 0, 1) := by decide +kernel
theorem dX2_sits_1 : decode cX2_sits 1 = .ok (.getfield 44, 3) := by decide +kernel
theorem dX2_sits_4 : decode cX2_sits 4 = .ok (.iload_n 1, 1) := by decide +kernel
theorem dX2_sits_5 : decode cX2_sits 5 = .ok (.ishr, 1) := by decide +kernel
theorem dX2_sits_6 : decode cX2_sits 6 = .ok (.iconst 1, 1) := by decide +kernel
theorem dX2_sits_7 : decode cX2_sits 7 = .ok (.iand, 1) := by decide +kernel
theorem dX2_sits_8 : decode cX2_sits 8 = .ok (.ifCond .eq 7, 3) := by decide +kernel
theorem dX2_sits_11 : decode cX2_sits 11 = .ok (.iconst 1, 1) := by decide +kernel
theorem dX2_sits_12 : decode cX2_sits 12 = .ok (.goto 4, 3) := by decide +kernel
theorem dX2_sits_15 : decode cX2_sits 15 = .ok (.iconst 0, 1) := by decide +kernel
theorem dX2_sits_16 : decode cX2_sits 16 = .ok (.ireturn, 1) := by decide +kernel
theorem dX2_sittersOf_0 : decode cX2_sittersOf 0 = .ok (.iconst 0, 1) := by decide +kernel
theorem dX2_sittersOf_1 : decode cX2_sittersOf 1 = .ok (.istore_n 2, 1) := by decide +kernel
theorem dX2_sittersOf_2 : decode cX2_sittersOf 2 = .ok (.iconst 0, 1) := by decide +kernel
theorem dX2_sittersOf_3 : decode cX2_sittersOf 3 = .ok (.istore_n 3, 1) := by decide +kernel
theorem dX2_sittersOf_4 : decode cX2_sittersOf 4 = .ok (.iload_n 3, 1) := by decide +kernel
theorem dX2_sittersOf_5 : decode cX2_sittersOf 5 = .ok (.aload_n 0, 1) := by decide +kernel
theorem dX2_sittersOf_6 : decode cX2_sittersOf 6 = .ok (.getfield 34, 3) := by decide +kernel
theorem dX2_sittersOf_9 : decode cX2_sittersOf 9 = .ok (.if_icmp .ge 25, 3) := by decide +kernel
theorem dX2_sittersOf_12 : decode cX2_sittersOf 12 = .ok (.aload_n 0, 1) := by decide +kernel
theorem dX2_sittersOf_13 : decode cX2_sittersOf 13 = .ok (.getfield 18, 3) := by decide +kernel
theorem dX2_sittersOf_16 : decode cX2_sittersOf 16 = .ok (.iload_n 3, 1) := by decide +kernel
theorem dX2_sittersOf_17 : decode cX2_sittersOf 17 = .ok (.iaload, 1) := by decide +kernel
theorem dX2_sittersOf_18 : decode cX2_sittersOf 18 = .ok (.iload_n 1, 1) := by decide +kernel
theorem dX2_sittersOf_19 : decode cX2_sittersOf 19 = .ok (.if_icmp .ne 9, 3) := by decide +kernel
theorem dX2_sittersOf_22 : decode cX2_sittersOf 22 = .ok (.iload_n 2, 1) := by decide +kernel
theorem dX2_sittersOf_23 : decode cX2_sittersOf 23 = .ok (.iconst 1, 1) := by decide +kernel
theorem dX2_sittersOf_24 : decode cX2_sittersOf 24 = .ok (.iload_n 3, 1) := by decide +kernel
theorem dX2_sittersOf_25 : decode cX2_sittersOf 25 = .ok (.ishl, 1) := by decide +kernel
theorem dX2_sittersOf_26 : decode cX2_sittersOf 26 = .ok (.ior, 1) := by decide +kernel
theorem dX2_sittersOf_27 : decode cX2_sittersOf 27 = .ok (.istore_n 2, 1) := by decide +kernel
theorem dX2_sittersOf_28 : decode cX2_sittersOf 28 = .ok (.iinc 3 1, 3) := by decide +kernel
theorem dX2_sittersOf_31 : decode cX2_sittersOf 31 = .ok (.goto (-27), 3) := by decide +kernel
theorem dX2_sittersOf_34 : decode cX2_sittersOf 34 = .ok (.iload_n 2, 1) := by decide +kernel
theorem dX2_sittersOf_35 : decode cX2_sittersOf 35 = .ok (.ireturn, 1) := by decide +kernel
theorem dX2_countOn_0 : decode cX2_countOn 0 = .ok (.aload_n 0, 1) := by decide +kernel
theorem dX2_countOn_1 : decode cX2_countOn 1 = .ok (.iload_n 1, 1) := by decide +kernel
theorem dX2_countOn_2 : decode cX2_countOn 2 = .ok (.invokevirtual 116, 3) := by decide +kernel
theorem dX2_countOn_5 : decode cX2_countOn 5 = .ok (.invokestatic 119, 3) := by decide +kernel
theorem dX2_countOn_8 : decode cX2_countOn 8 = .ok (.ireturn, 1) := by decide +kernel
theorem dX2_weightOfSet_0 : decode cX2_weightOfSet 0 = .ok (.iconst 0, 1) := by decide +kernel
theorem dX2_weightOfSet_1 : decode cX2_weightOfSet 1 = .ok (.istore_n 2, 1) := by decide +kernel
theorem dX2_weightOfSet_2 : decode cX2_weightOfSet 2 = .ok (.iconst 0, 1) := by decide +kernel
theorem dX2_weightOfSet_3 : decode cX2_weightOfSet 3 = .ok (.istore_n 3, 1) := by decide +kernel
theorem dX2_weightOfSet_4 : decode cX2_weightOfSet 4 = .ok (.iload_n 3, 1) := by decide +kernel
theorem dX2_weightOfSet_5 : decode cX2_weightOfSet 5 = .ok (.aload_n 0, 1) := by decide +kernel
theorem dX2_weightOfSet_6 : decode cX2_weightOfSet 6 = .ok (.getfield 34, 3) := by decide +kernel
theorem dX2_weightOfSet_9 : decode cX2_weightOfSet 9 = .ok (.if_icmp .ge 26, 3) := by decide +kernel
theorem dX2_weightOfSet_12 : decode cX2_weightOfSet 12 = .ok (.iload_n 1, 1) := by decide +kernel
theorem dX2_weightOfSet_13 : decode cX2_weightOfSet 13 = .ok (.iload_n 3, 1) := by decide +kernel
theorem dX2_weightOfSet_14 : decode cX2_weightOfSet 14 = .ok (.ishr, 1) := by decide +kernel
theorem dX2_weightOfSet_15 : decode cX2_weightOfSet 15 = .ok (.iconst 1, 1) := by decide +kernel
theorem dX2_weightOfSet_16 : decode cX2_weightOfSet 16 = .ok (.iand, 1) := by decide +kernel
theorem dX2_weightOfSet_17 : decode cX2_weightOfSet 17 = .ok (.ifCond .eq 12, 3) := by decide +kernel
theorem dX2_weightOfSet_20 : decode cX2_weightOfSet 20 = .ok (.iload_n 2, 1) := by decide +kernel
theorem dX2_weightOfSet_21 : decode cX2_weightOfSet 21 = .ok (.aload_n 0, 1) := by decide +kernel
theorem dX2_weightOfSet_22 : decode cX2_weightOfSet 22 = .ok (.getfield 15, 3) := by decide +kernel
theorem dX2_weightOfSet_25 : decode cX2_weightOfSet 25 = .ok (.iload_n 3, 1) := by decide +kernel
theorem dX2_weightOfSet_26 : decode cX2_weightOfSet 26 = .ok (.iaload, 1) := by decide +kernel
theorem dX2_weightOfSet_27 : decode cX2_weightOfSet 27 = .ok (.iadd, 1) := by decide +kernel
theorem dX2_weightOfSet_28 : decode cX2_weightOfSet 28 = .ok (.istore_n 2, 1) := by decide +kernel
theorem dX2_weightOfSet_29 : decode cX2_weightOfSet 29 = .ok (.iinc 3 1, 3) := by decide +kernel
theorem dX2_weightOfSet_32 : decode cX2_weightOfSet 32 = .ok (.goto (-28), 3) := by decide +kernel
theorem dX2_weightOfSet_35 : decode cX2_weightOfSet 35 = .ok (.iload_n 2, 1) := by decide +kernel
theorem dX2_weightOfSet_36 : decode cX2_weightOfSet 36 = .ok (.ireturn, 1) := by decide +kernel
theorem dX2_refusalToPropose_0 : decode cX2_refusalToPropose 0 = .ok (.iload_n 1, 1) := by decide +kernel
theorem dX2_refusalToPropose_1 : decode cX2_refusalToPropose 1 = .ok (.iconst 1, 1) := by decide +kernel
theorem dX2_refusalToPropose_2 : decode cX2_refusalToPropose 2 = .ok (.if_icmp .lt 9, 3) := by decide +kernel
theorem dX2_refusalToPropose_5 : decode cX2_refusalToPropose 5 = .ok (.iload_n 1, 1) := by decide +kernel
theorem dX2_refusalToPropose_6 : decode cX2_refusalToPropose 6 = .ok (.bipush 15, 2) := by decide +kernel
theorem dX2_refusalToPropose_8 : decode cX2_refusalToPropose 8 = .ok (.if_icmp .le 7, 3) := by decide +kernel
theorem dX2_refusalToPropose_11 : decode cX2_refusalToPropose 11 = .ok (.getstatic 124, 3) := by decide +kernel
theorem dX2_refusalToPropose_14 : decode cX2_refusalToPropose 14 = .ok (.areturn, 1) := by decide +kernel
theorem dX2_refusalToPropose_15 : decode cX2_refusalToPropose 15 = .ok (.aload_n 0, 1) := by decide +kernel
theorem dX2_refusalToPropose_16 : decode cX2_refusalToPropose 16 = .ok (.getfield 50, 3) := by decide +kernel
theorem dX2_refusalToPropose_19 : decode cX2_refusalToPropose 19 = .ok (.bipush 6, 2) := by decide +kernel
theorem dX2_refusalToPropose_21 : decode cX2_refusalToPropose 21 = .ok (.if_icmp .ge 9, 3) := by decide +kernel
theorem dX2_refusalToPropose_24 : decode cX2_refusalToPropose 24 = .ok (.getstatic 76, 3) := by decide +kernel
theorem dX2_refusalToPropose_27 : decode cX2_refusalToPropose 27 = .ok (.goto 6, 3) := by decide +kernel
theorem dX2_refusalToPropose_30 : decode cX2_refusalToPropose 30 = .ok (.getstatic 88, 3) := by decide +kernel
theorem dX2_refusalToPropose_33 : decode cX2_refusalToPropose 33 = .ok (.areturn, 1) := by decide +kernel
theorem dX2_propose_0 : decode cX2_propose 0 = .ok (.aload_n 0, 1) := by decide +kernel
theorem dX2_propose_1 : decode cX2_propose 1 = .ok (.getfield 50, 3) := by decide +kernel
theorem dX2_propose_4 : decode cX2_propose 4 = .ok (.istore_n 2, 1) := by decide +kernel
theorem dX2_propose_5 : decode cX2_propose 5 = .ok (.aload_n 0, 1) := by decide +kernel
theorem dX2_propose_6 : decode cX2_propose 6 = .ok (.getfield 29, 3) := by decide +kernel
theorem dX2_propose_9 : decode cX2_propose 9 = .ok (.iload_n 2, 1) := by decide +kernel
theorem dX2_propose_10 : decode cX2_propose 10 = .ok (.aaload, 1) := by decide +kernel
theorem dX2_propose_11 : decode cX2_propose 11 = .ok (.iload_n 1, 1) := by decide +kernel
theorem dX2_propose_12 : decode cX2_propose 12 = .ok (.putfield 127, 3) := by decide +kernel
theorem dX2_propose_15 : decode cX2_propose 15 = .ok (.aload_n 0, 1) := by decide +kernel
theorem dX2_propose_16 : decode cX2_propose 16 = .ok (.dup, 1) := by decide +kernel
theorem dX2_propose_17 : decode cX2_propose 17 = .ok (.getfield 50, 3) := by decide +kernel
theorem dX2_propose_20 : decode cX2_propose 20 = .ok (.iconst 1, 1) := by decide +kernel
theorem dX2_propose_21 : decode cX2_propose 21 = .ok (.iadd, 1) := by decide +kernel
theorem dX2_propose_22 : decode cX2_propose 22 = .ok (.putfield 50, 3) := by decide +kernel
theorem dX2_propose_25 : decode cX2_propose 25 = .ok (.iload_n 2, 1) := by decide +kernel
theorem dX2_propose_26 : decode cX2_propose 26 = .ok (.ireturn, 1) := by decide +kernel
theorem dX2_entitles_0 : decode cX2_entitles 0 = .ok (.aload_n 0, 1) := by decide +kernel
theorem dX2_entitles_1 : decode cX2_entitles 1 = .ok (.getfield 29, 3) := by decide +kernel
theorem dX2_entitles_4 : decode cX2_entitles 4 = .ok (.iload_n 1, 1) := by decide +kernel
theorem dX2_entitles_5 : decode cX2_entitles 5 = .ok (.aaload, 1) := by decide +kernel
theorem dX2_entitles_6 : decode cX2_entitles 6 = .ok (.getfield 127, 3) := by decide +kernel
theorem dX2_entitles_9 : decode cX2_entitles 9 = .ok (.aload_n 0, 1) := by decide +kernel
theorem dX2_entitles_10 : decode cX2_entitles 10 = .ok (.getfield 9, 3) := by decide +kernel
theorem dX2_entitles_13 : decode cX2_entitles 13 = .ok (.iload_n 2, 1) := by decide +kernel
theorem dX2_entitles_14 : decode cX2_entitles 14 = .ok (.iaload, 1) := by decide +kernel
theorem dX2_entitles_15 : decode cX2_entitles 15 = .ok (.ishr, 1) := by decide +kernel
theorem dX2_entitles_16 : decode cX2_entitles 16 = .ok (.iconst 1, 1) := by decide +kernel
theorem dX2_entitles_17 : decode cX2_entitles 17 = .ok (.iand, 1) := by decide +kernel
theorem dX2_entitles_18 : decode cX2_entitles 18 = .ok (.ifCond .eq 7, 3) := by decide +kernel
theorem dX2_entitles_21 : decode cX2_entitles 21 = .ok (.iconst 1, 1) := by decide +kernel
theorem dX2_entitles_22 : decode cX2_entitles 22 = .ok (.goto 4, 3) := by decide +kernel
theorem dX2_entitles_25 : decode cX2_entitles 25 = .ok (.iconst 0, 1) := by decide +kernel
theorem dX2_entitles_26 : decode cX2_entitles 26 = .ok (.ireturn, 1) := by decide +kernel
theorem dX2_entitledTo_0 : decode cX2_entitledTo 0 = .ok (.iconst 0, 1) := by decide +kernel
theorem dX2_entitledTo_1 : decode cX2_entitledTo 1 = .ok (.istore_n 2, 1) := by decide +kernel
theorem dX2_entitledTo_2 : decode cX2_entitledTo 2 = .ok (.iconst 0, 1) := by decide +kernel
theorem dX2_entitledTo_3 : decode cX2_entitledTo 3 = .ok (.istore_n 3, 1) := by decide +kernel
theorem dX2_entitledTo_4 : decode cX2_entitledTo 4 = .ok (.iload_n 3, 1) := by decide +kernel
theorem dX2_entitledTo_5 : decode cX2_entitledTo 5 = .ok (.aload_n 0, 1) := by decide +kernel
theorem dX2_entitledTo_6 : decode cX2_entitledTo 6 = .ok (.getfield 34, 3) := by decide +kernel
theorem dX2_entitledTo_9 : decode cX2_entitledTo 9 = .ok (.if_icmp .ge 24, 3) := by decide +kernel
theorem dX2_entitledTo_12 : decode cX2_entitledTo 12 = .ok (.aload_n 0, 1) := by decide +kernel
theorem dX2_entitledTo_13 : decode cX2_entitledTo 13 = .ok (.iload_n 1, 1) := by decide +kernel
theorem dX2_entitledTo_14 : decode cX2_entitledTo 14 = .ok (.iload_n 3, 1) := by decide +kernel
theorem dX2_entitledTo_15 : decode cX2_entitledTo 15 = .ok (.invokevirtual 130, 3) := by decide +kernel
theorem dX2_entitledTo_18 : decode cX2_entitledTo 18 = .ok (.ifCond .eq 9, 3) := by decide +kernel
theorem dX2_entitledTo_21 : decode cX2_entitledTo 21 = .ok (.iload_n 2, 1) := by decide +kernel
theorem dX2_entitledTo_22 : decode cX2_entitledTo 22 = .ok (.iconst 1, 1) := by decide +kernel
theorem dX2_entitledTo_23 : decode cX2_entitledTo 23 = .ok (.iload_n 3, 1) := by decide +kernel
theorem dX2_entitledTo_24 : decode cX2_entitledTo 24 = .ok (.ishl, 1) := by decide +kernel
theorem dX2_entitledTo_25 : decode cX2_entitledTo 25 = .ok (.ior, 1) := by decide +kernel
theorem dX2_entitledTo_26 : decode cX2_entitledTo 26 = .ok (.istore_n 2, 1) := by decide +kernel
theorem dX2_entitledTo_27 : decode cX2_entitledTo 27 = .ok (.iinc 3 1, 3) := by decide +kernel
theorem dX2_entitledTo_30 : decode cX2_entitledTo 30 = .ok (.goto (-26), 3) := by decide +kernel
theorem dX2_entitledTo_33 : decode cX2_entitledTo 33 = .ok (.iload_n 2, 1) := by decide +kernel
theorem dX2_entitledTo_34 : decode cX2_entitledTo 34 = .ok (.ireturn, 1) := by decide +kernel
theorem dX2_refusalWhileListOpen_0 : decode cX2_refusalWhileListOpen 0 = .ok (.aload_n 0, 1) := by decide +kernel
theorem dX2_refusalWhileListOpen_1 : decode cX2_refusalWhileListOpen 1 = .ok (.iload_n 1, 1) := by decide +kernel
theorem dX2_refusalWhileListOpen_2 : decode cX2_refusalWhileListOpen 2 = .ok (.iload_n 2, 1) := by decide +kernel
theorem dX2_refusalWhileListOpen_3 : decode cX2_refusalWhileListOpen 3 = .ok (.invokevirtual 134, 3) := by decide +kernel
theorem dX2_refusalWhileListOpen_6 : decode cX2_refusalWhileListOpen 6 = .ok (.astore_n 3, 1) := by decide +kernel
theorem dX2_refusalWhileListOpen_7 : decode cX2_refusalWhileListOpen 7 = .ok (.aload_n 3, 1) := by decide +kernel
theorem dX2_refusalWhileListOpen_8 : decode cX2_refusalWhileListOpen 8 = .ok (.getstatic 76, 3) := by decide +kernel
theorem dX2_refusalWhileListOpen_11 : decode cX2_refusalWhileListOpen 11 = .ok (.if_acmp .eq 5, 3) := by decide +kernel
theorem dX2_refusalWhileListOpen_14 : decode cX2_refusalWhileListOpen 14 = .ok (.aload_n 3, 1) := by decide +kernel
theorem dX2_refusalWhileListOpen_15 : decode cX2_refusalWhileListOpen 15 = .ok (.areturn, 1) := by decide +kernel
theorem dX2_refusalWhileListOpen_16 : decode cX2_refusalWhileListOpen 16 = .ok (.aload_n 0, 1) := by decide +kernel
theorem dX2_refusalWhileListOpen_17 : decode cX2_refusalWhileListOpen 17 = .ok (.iload_n 1, 1) := by decide +kernel
theorem dX2_refusalWhileListOpen_18 : decode cX2_refusalWhileListOpen 18 = .ok (.iload_n 2, 1) := by decide +kernel
theorem dX2_refusalWhileListOpen_19 : decode cX2_refusalWhileListOpen 19 = .ok (.invokevirtual 130, 3) := by decide +kernel
theorem dX2_refusalWhileListOpen_22 : decode cX2_refusalWhileListOpen 22 = .ok (.ifCond .ne 7, 3) := by decide +kernel
theorem dX2_refusalWhileListOpen_25 : decode cX2_refusalWhileListOpen 25 = .ok (.getstatic 138, 3) := by decide +kernel
theorem dX2_refusalWhileListOpen_28 : decode cX2_refusalWhileListOpen 28 = .ok (.areturn, 1) := by decide +kernel
theorem dX2_refusalWhileListOpen_29 : decode cX2_refusalWhileListOpen 29 = .ok (.aload_n 0, 1) := by decide +kernel
theorem dX2_refusalWhileListOpen_30 : decode cX2_refusalWhileListOpen 30 = .ok (.getfield 29, 3) := by decide +kernel
theorem dX2_refusalWhileListOpen_33 : decode cX2_refusalWhileListOpen 33 = .ok (.iload_n 1, 1) := by decide +kernel
theorem dX2_refusalWhileListOpen_34 : decode cX2_refusalWhileListOpen 34 = .ok (.aaload, 1) := by decide +kernel
theorem dX2_refusalWhileListOpen_35 : decode cX2_refusalWhileListOpen 35 = .ok (.getfield 141, 3) := by decide +kernel
theorem dX2_refusalWhileListOpen_38 : decode cX2_refusalWhileListOpen 38 = .ok (.ifCond .eq 7, 3) := by decide +kernel
theorem dX2_refusalWhileListOpen_41 : decode cX2_refusalWhileListOpen 41 = .ok (.getstatic 145, 3) := by decide +kernel
theorem dX2_refusalWhileListOpen_44 : decode cX2_refusalWhileListOpen 44 = .ok (.areturn, 1) := by decide +kernel
theorem dX2_refusalWhileListOpen_45 : decode cX2_refusalWhileListOpen 45 = .ok (.aload_n 0, 1) := by decide +kernel
theorem dX2_refusalWhileListOpen_46 : decode cX2_refusalWhileListOpen 46 = .ok (.getfield 29, 3) := by decide +kernel
theorem dX2_refusalWhileListOpen_49 : decode cX2_refusalWhileListOpen 49 = .ok (.iload_n 1, 1) := by decide +kernel
theorem dX2_refusalWhileListOpen_50 : decode cX2_refusalWhileListOpen 50 = .ok (.aaload, 1) := by decide +kernel
theorem dX2_refusalWhileListOpen_51 : decode cX2_refusalWhileListOpen 51 = .ok (.getfield 148, 3) := by decide +kernel
theorem dX2_refusalWhileListOpen_54 : decode cX2_refusalWhileListOpen 54 = .ok (.ifCond .eq 9, 3) := by decide +kernel
theorem dX2_refusalWhileListOpen_57 : decode cX2_refusalWhileListOpen 57 = .ok (.getstatic 151, 3) := by decide +kernel
theorem dX2_refusalWhileListOpen_60 : decode cX2_refusalWhileListOpen 60 = .ok (.goto 6, 3) := by decide +kernel
theorem dX2_refusalWhileListOpen_63 : decode cX2_refusalWhileListOpen 63 = .ok (.getstatic 76, 3) := by decide +kernel
theorem dX2_refusalWhileListOpen_66 : decode cX2_refusalWhileListOpen 66 = .ok (.areturn, 1) := by decide +kernel
theorem dX2_refusalToEnlist_0 : decode cX2_refusalToEnlist 0 = .ok (.aload_n 0, 1) := by decide +kernel
theorem dX2_refusalToEnlist_1 : decode cX2_refusalToEnlist 1 = .ok (.iload_n 1, 1) := by decide +kernel
theorem dX2_refusalToEnlist_2 : decode cX2_refusalToEnlist 2 = .ok (.iload_n 2, 1) := by decide +kernel
theorem dX2_refusalToEnlist_3 : decode cX2_refusalToEnlist 3 = .ok (.invokevirtual 154, 3) := by decide +kernel
theorem dX2_refusalToEnlist_6 : decode cX2_refusalToEnlist 6 = .ok (.astore_n 3, 1) := by decide +kernel
theorem dX2_refusalToEnlist_7 : decode cX2_refusalToEnlist 7 = .ok (.aload_n 3, 1) := by decide +kernel
theorem dX2_refusalToEnlist_8 : decode cX2_refusalToEnlist 8 = .ok (.getstatic 76, 3) := by decide +kernel
theorem dX2_refusalToEnlist_11 : decode cX2_refusalToEnlist 11 = .ok (.if_acmp .eq 5, 3) := by decide +kernel
theorem dX2_refusalToEnlist_14 : decode cX2_refusalToEnlist 14 = .ok (.aload_n 3, 1) := by decide +kernel
theorem dX2_refusalToEnlist_15 : decode cX2_refusalToEnlist 15 = .ok (.areturn, 1) := by decide +kernel
theorem dX2_refusalToEnlist_16 : decode cX2_refusalToEnlist 16 = .ok (.aload_n 0, 1) := by decide +kernel
theorem dX2_refusalToEnlist_17 : decode cX2_refusalToEnlist 17 = .ok (.getfield 29, 3) := by decide +kernel
theorem dX2_refusalToEnlist_20 : decode cX2_refusalToEnlist 20 = .ok (.iload_n 1, 1) := by decide +kernel
theorem dX2_refusalToEnlist_21 : decode cX2_refusalToEnlist 21 = .ok (.aaload, 1) := by decide +kernel
theorem dX2_refusalToEnlist_22 : decode cX2_refusalToEnlist 22 = .ok (.iload_n 2, 1) := by decide +kernel
theorem dX2_refusalToEnlist_23 : decode cX2_refusalToEnlist 23 = .ok (.invokevirtual 157, 3) := by decide +kernel
theorem dX2_refusalToEnlist_26 : decode cX2_refusalToEnlist 26 = .ok (.iconst (-1), 1) := by decide +kernel
theorem dX2_refusalToEnlist_27 : decode cX2_refusalToEnlist 27 = .ok (.if_icmp .ne 9, 3) := by decide +kernel
theorem dX2_refusalToEnlist_30 : decode cX2_refusalToEnlist 30 = .ok (.getstatic 76, 3) := by decide +kernel
theorem dX2_refusalToEnlist_33 : decode cX2_refusalToEnlist 33 = .ok (.goto 6, 3) := by decide +kernel
theorem dX2_refusalToEnlist_36 : decode cX2_refusalToEnlist 36 = .ok (.getstatic 160, 3) := by decide +kernel
theorem dX2_refusalToEnlist_39 : decode cX2_refusalToEnlist 39 = .ok (.areturn, 1) := by decide +kernel
theorem dX2_enlist_0 : decode cX2_enlist 0 = .ok (.aload_n 0, 1) := by decide +kernel
theorem dX2_enlist_1 : decode cX2_enlist 1 = .ok (.getfield 29, 3) := by decide +kernel
theorem dX2_enlist_4 : decode cX2_enlist 4 = .ok (.iload_n 1, 1) := by decide +kernel
theorem dX2_enlist_5 : decode cX2_enlist 5 = .ok (.aaload, 1) := by decide +kernel
theorem dX2_enlist_6 : decode cX2_enlist 6 = .ok (.astore_n 3, 1) := by decide +kernel
theorem dX2_enlist_7 : decode cX2_enlist 7 = .ok (.aload_n 3, 1) := by decide +kernel
theorem dX2_enlist_8 : decode cX2_enlist 8 = .ok (.iload_n 2, 1) := by decide +kernel
theorem dX2_enlist_9 : decode cX2_enlist 9 = .ok (.invokevirtual 163, 3) := by decide +kernel
theorem dX2_enlist_12 : decode cX2_enlist 12 = .ok (.aload_n 3, 1) := by decide +kernel
theorem dX2_enlist_13 : decode cX2_enlist 13 = .ok (.getfield 167, 3) := by decide +kernel
theorem dX2_enlist_16 : decode cX2_enlist 16 = .ok (.ireturn, 1) := by decide +kernel
theorem dX2_refusalToUnlist_0 : decode cX2_refusalToUnlist 0 = .ok (.aload_n 0, 1) := by decide +kernel
theorem dX2_refusalToUnlist_1 : decode cX2_refusalToUnlist 1 = .ok (.iload_n 1, 1) := by decide +kernel
theorem dX2_refusalToUnlist_2 : decode cX2_refusalToUnlist 2 = .ok (.iload_n 2, 1) := by decide +kernel
theorem dX2_refusalToUnlist_3 : decode cX2_refusalToUnlist 3 = .ok (.invokevirtual 134, 3) := by decide +kernel
theorem dX2_refusalToUnlist_6 : decode cX2_refusalToUnlist 6 = .ok (.astore_n 3, 1) := by decide +kernel
theorem dX2_refusalToUnlist_7 : decode cX2_refusalToUnlist 7 = .ok (.aload_n 3, 1) := by decide +kernel
theorem dX2_refusalToUnlist_8 : decode cX2_refusalToUnlist 8 = .ok (.getstatic 76, 3) := by decide +kernel
theorem dX2_refusalToUnlist_11 : decode cX2_refusalToUnlist 11 = .ok (.if_acmp .eq 5, 3) := by decide +kernel
theorem dX2_refusalToUnlist_14 : decode cX2_refusalToUnlist 14 = .ok (.aload_n 3, 1) := by decide +kernel
theorem dX2_refusalToUnlist_15 : decode cX2_refusalToUnlist 15 = .ok (.areturn, 1) := by decide +kernel
theorem dX2_refusalToUnlist_16 : decode cX2_refusalToUnlist 16 = .ok (.aload_n 0, 1) := by decide +kernel
theorem dX2_refusalToUnlist_17 : decode cX2_refusalToUnlist 17 = .ok (.getfield 29, 3) := by decide +kernel
theorem dX2_refusalToUnlist_20 : decode cX2_refusalToUnlist 20 = .ok (.iload_n 1, 1) := by decide +kernel
theorem dX2_refusalToUnlist_21 : decode cX2_refusalToUnlist 21 = .ok (.aaload, 1) := by decide +kernel
theorem dX2_refusalToUnlist_22 : decode cX2_refusalToUnlist 22 = .ok (.iload_n 2, 1) := by decide +kernel
theorem dX2_refusalToUnlist_23 : decode cX2_refusalToUnlist 23 = .ok (.invokevirtual 157, 3) := by decide +kernel
theorem dX2_refusalToUnlist_26 : decode cX2_refusalToUnlist 26 = .ok (.iconst (-1), 1) := by decide +kernel
theorem dX2_refusalToUnlist_27 : decode cX2_refusalToUnlist 27 = .ok (.if_icmp .ne 9, 3) := by decide +kernel
theorem dX2_refusalToUnlist_30 : decode cX2_refusalToUnlist 30 = .ok (.getstatic 170, 3) := by decide +kernel
theorem dX2_refusalToUnlist_33 : decode cX2_refusalToUnlist 33 = .ok (.goto 6, 3) := by decide +kernel
theorem dX2_refusalToUnlist_36 : decode cX2_refusalToUnlist 36 = .ok (.getstatic 76, 3) := by decide +kernel
theorem dX2_refusalToUnlist_39 : decode cX2_refusalToUnlist 39 = .ok (.areturn, 1) := by decide +kernel
theorem dX2_unlist_0 : decode cX2_unlist 0 = .ok (.aload_n 0, 1) := by decide +kernel
theorem dX2_unlist_1 : decode cX2_unlist 1 = .ok (.getfield 29, 3) := by decide +kernel
theorem dX2_unlist_4 : decode cX2_unlist 4 = .ok (.iload_n 1, 1) := by decide +kernel
theorem dX2_unlist_5 : decode cX2_unlist 5 = .ok (.aaload, 1) := by decide +kernel
theorem dX2_unlist_6 : decode cX2_unlist 6 = .ok (.astore_n 3, 1) := by decide +kernel
theorem dX2_unlist_7 : decode cX2_unlist 7 = .ok (.aload_n 3, 1) := by decide +kernel
theorem dX2_unlist_8 : decode cX2_unlist 8 = .ok (.aload_n 3, 1) := by decide +kernel
theorem dX2_unlist_9 : decode cX2_unlist 9 = .ok (.iload_n 2, 1) := by decide +kernel
theorem dX2_unlist_10 : decode cX2_unlist 10 = .ok (.invokevirtual 157, 3) := by decide +kernel
theorem dX2_unlist_13 : decode cX2_unlist 13 = .ok (.invokevirtual 173, 3) := by decide +kernel
theorem dX2_unlist_16 : decode cX2_unlist 16 = .ok (.aload_n 3, 1) := by decide +kernel
theorem dX2_unlist_17 : decode cX2_unlist 17 = .ok (.getfield 167, 3) := by decide +kernel
theorem dX2_unlist_20 : decode cX2_unlist 20 = .ok (.ireturn, 1) := by decide +kernel
theorem dX2_refusalToCall_0 : decode cX2_refusalToCall 0 = .ok (.aload_n 0, 1) := by decide +kernel
theorem dX2_refusalToCall_1 : decode cX2_refusalToCall 1 = .ok (.iload_n 1, 1) := by decide +kernel
theorem dX2_refusalToCall_2 : decode cX2_refusalToCall 2 = .ok (.invokevirtual 63, 3) := by decide +kernel
theorem dX2_refusalToCall_5 : decode cX2_refusalToCall 5 = .ok (.ifCond .ne 7, 3) := by decide +kernel
theorem dX2_refusalToCall_8 : decode cX2_refusalToCall 8 = .ok (.getstatic 67, 3) := by decide +kernel
theorem dX2_refusalToCall_11 : decode cX2_refusalToCall 11 = .ok (.areturn, 1) := by decide +kernel
theorem dX2_refusalToCall_12 : decode cX2_refusalToCall 12 = .ok (.aload_n 0, 1) := by decide +kernel
theorem dX2_refusalToCall_13 : decode cX2_refusalToCall 13 = .ok (.getfield 29, 3) := by decide +kernel
theorem dX2_refusalToCall_16 : decode cX2_refusalToCall 16 = .ok (.iload_n 1, 1) := by decide +kernel
theorem dX2_refusalToCall_17 : decode cX2_refusalToCall 17 = .ok (.aaload, 1) := by decide +kernel
theorem dX2_refusalToCall_18 : decode cX2_refusalToCall 18 = .ok (.getfield 167, 3) := by decide +kernel
theorem dX2_refusalToCall_21 : decode cX2_refusalToCall 21 = .ok (.ifCond .le 9, 3) := by decide +kernel
theorem dX2_refusalToCall_24 : decode cX2_refusalToCall 24 = .ok (.getstatic 76, 3) := by decide +kernel
theorem dX2_refusalToCall_27 : decode cX2_refusalToCall 27 = .ok (.goto 6, 3) := by decide +kernel
theorem dX2_refusalToCall_30 : decode cX2_refusalToCall 30 = .ok (.getstatic 176, 3) := by decide +kernel
theorem dX2_refusalToCall_33 : decode cX2_refusalToCall 33 = .ok (.areturn, 1) := by decide +kernel
theorem dX2_callFirst_0 : decode cX2_callFirst 0 = .ok (.aload_n 0, 1) := by decide +kernel
theorem dX2_callFirst_1 : decode cX2_callFirst 1 = .ok (.getfield 29, 3) := by decide +kernel
theorem dX2_callFirst_4 : decode cX2_callFirst 4 = .ok (.iload_n 1, 1) := by decide +kernel
theorem dX2_callFirst_5 : decode cX2_callFirst 5 = .ok (.aaload, 1) := by decide +kernel
theorem dX2_callFirst_6 : decode cX2_callFirst 6 = .ok (.astore_n 2, 1) := by decide +kernel
theorem dX2_callFirst_7 : decode cX2_callFirst 7 = .ok (.aload_n 0, 1) := by decide +kernel
theorem dX2_callFirst_8 : decode cX2_callFirst 8 = .ok (.iload_n 1, 1) := by decide +kernel
theorem dX2_callFirst_9 : decode cX2_callFirst 9 = .ok (.invokevirtual 179, 3) := by decide +kernel
theorem dX2_callFirst_12 : decode cX2_callFirst 12 = .ok (.istore_n 3, 1) := by decide +kernel
theorem dX2_callFirst_13 : decode cX2_callFirst 13 = .ok (.aload_n 2, 1) := by decide +kernel
theorem dX2_callFirst_14 : decode cX2_callFirst 14 = .ok (.getfield 182, 3) := by decide +kernel
theorem dX2_callFirst_17 : decode cX2_callFirst 17 = .ok (.iload_n 3, 1) := by decide +kernel
theorem dX2_callFirst_18 : decode cX2_callFirst 18 = .ok (.iaload, 1) := by decide +kernel
theorem dX2_callFirst_19 : decode cX2_callFirst 19 = .ok (.istore 4, 2) := by decide +kernel
theorem dX2_callFirst_21 : decode cX2_callFirst 21 = .ok (.aload_n 2, 1) := by decide +kernel
theorem dX2_callFirst_22 : decode cX2_callFirst 22 = .ok (.iload_n 3, 1) := by decide +kernel
theorem dX2_callFirst_23 : decode cX2_callFirst 23 = .ok (.invokevirtual 173, 3) := by decide +kernel
theorem dX2_callFirst_26 : decode cX2_callFirst 26 = .ok (.aload_n 0, 1) := by decide +kernel
theorem dX2_callFirst_27 : decode cX2_callFirst 27 = .ok (.iload 4, 2) := by decide +kernel
theorem dX2_callFirst_29 : decode cX2_callFirst 29 = .ok (.invokevirtual 110, 3) := by decide +kernel
theorem dX2_callFirst_32 : decode cX2_callFirst 32 = .ok (.ifCond .ne 15, 3) := by decide +kernel
theorem dX2_callFirst_35 : decode cX2_callFirst 35 = .ok (.aload_n 0, 1) := by decide +kernel
theorem dX2_callFirst_36 : decode cX2_callFirst 36 = .ok (.dup, 1) := by decide +kernel
theorem dX2_callFirst_37 : decode cX2_callFirst 37 = .ok (.getfield 60, 3) := by decide +kernel
theorem dX2_callFirst_40 : decode cX2_callFirst 40 = .ok (.iconst 1, 1) := by decide +kernel
theorem dX2_callFirst_41 : decode cX2_callFirst 41 = .ok (.iadd, 1) := by decide +kernel
theorem dX2_callFirst_42 : decode cX2_callFirst 42 = .ok (.putfield 60, 3) := by decide +kernel
theorem dX2_callFirst_45 : decode cX2_callFirst 45 = .ok (.iconst 0, 1) := by decide +kernel
theorem dX2_callFirst_46 : decode cX2_callFirst 46 = .ok (.ireturn, 1) := by decide +kernel
theorem dX2_callFirst_47 : decode cX2_callFirst 47 = .ok (.aload_n 0, 1) := by decide +kernel
theorem dX2_callFirst_48 : decode cX2_callFirst 48 = .ok (.getfield 21, 3) := by decide +kernel
theorem dX2_callFirst_51 : decode cX2_callFirst 51 = .ok (.iload 4, 2) := by decide +kernel
theorem dX2_callFirst_53 : decode cX2_callFirst 53 = .ok (.dup2, 1) := by decide +kernel
theorem dX2_callFirst_54 : decode cX2_callFirst 54 = .ok (.iaload, 1) := by decide +kernel
theorem dX2_callFirst_55 : decode cX2_callFirst 55 = .ok (.iconst 1, 1) := by decide +kernel
theorem dX2_callFirst_56 : decode cX2_callFirst 56 = .ok (.iadd, 1) := by decide +kernel
theorem dX2_callFirst_57 : decode cX2_callFirst 57 = .ok (.iastore, 1) := by decide +kernel
theorem dX2_callFirst_58 : decode cX2_callFirst 58 = .ok (.aload_n 2, 1) := by decide +kernel
theorem dX2_callFirst_59 : decode cX2_callFirst 59 = .ok (.dup, 1) := by decide +kernel
theorem dX2_callFirst_60 : decode cX2_callFirst 60 = .ok (.getfield 185, 3) := by decide +kernel
theorem dX2_callFirst_63 : decode cX2_callFirst 63 = .ok (.iconst 1, 1) := by decide +kernel
theorem dX2_callFirst_64 : decode cX2_callFirst 64 = .ok (.iadd, 1) := by decide +kernel
theorem dX2_callFirst_65 : decode cX2_callFirst 65 = .ok (.putfield 185, 3) := by decide +kernel
theorem dX2_callFirst_68 : decode cX2_callFirst 68 = .ok (.aload_n 0, 1) := by decide +kernel
theorem dX2_callFirst_69 : decode cX2_callFirst 69 = .ok (.dup, 1) := by decide +kernel
theorem dX2_callFirst_70 : decode cX2_callFirst 70 = .ok (.getfield 57, 3) := by decide +kernel
theorem dX2_callFirst_73 : decode cX2_callFirst 73 = .ok (.iconst 1, 1) := by decide +kernel
theorem dX2_callFirst_74 : decode cX2_callFirst 74 = .ok (.iadd, 1) := by decide +kernel
theorem dX2_callFirst_75 : decode cX2_callFirst 75 = .ok (.putfield 57, 3) := by decide +kernel
theorem dX2_callFirst_78 : decode cX2_callFirst 78 = .ok (.iconst 1, 1) := by decide +kernel
theorem dX2_callFirst_79 : decode cX2_callFirst 79 = .ok (.ireturn, 1) := by decide +kernel
theorem dX2_firstPlace_0 : decode cX2_firstPlace 0 = .ok (.aload_n 0, 1) := by decide +kernel
theorem dX2_firstPlace_1 : decode cX2_firstPlace 1 = .ok (.getfield 29, 3) := by decide +kernel
theorem dX2_firstPlace_4 : decode cX2_firstPlace 4 = .ok (.iload_n 1, 1) := by decide +kernel
theorem dX2_firstPlace_5 : decode cX2_firstPlace 5 = .ok (.aaload, 1) := by decide +kernel
theorem dX2_firstPlace_6 : decode cX2_firstPlace 6 = .ok (.astore_n 2, 1) := by decide +kernel
theorem dX2_firstPlace_7 : decode cX2_firstPlace 7 = .ok (.iconst 0, 1) := by decide +kernel
theorem dX2_firstPlace_8 : decode cX2_firstPlace 8 = .ok (.istore_n 3, 1) := by decide +kernel
theorem dX2_firstPlace_9 : decode cX2_firstPlace 9 = .ok (.iconst 1, 1) := by decide +kernel
theorem dX2_firstPlace_10 : decode cX2_firstPlace 10 = .ok (.istore 4, 2) := by decide +kernel
theorem dX2_firstPlace_12 : decode cX2_firstPlace 12 = .ok (.iload 4, 2) := by decide +kernel
theorem dX2_firstPlace_14 : decode cX2_firstPlace 14 = .ok (.aload_n 2, 1) := by decide +kernel
theorem dX2_firstPlace_15 : decode cX2_firstPlace 15 = .ok (.getfield 167, 3) := by decide +kernel
theorem dX2_firstPlace_18 : decode cX2_firstPlace 18 = .ok (.if_icmp .ge 23, 3) := by decide +kernel
theorem dX2_firstPlace_21 : decode cX2_firstPlace 21 = .ok (.aload_n 0, 1) := by decide +kernel
theorem dX2_firstPlace_22 : decode cX2_firstPlace 22 = .ok (.aload_n 2, 1) := by decide +kernel
theorem dX2_firstPlace_23 : decode cX2_firstPlace 23 = .ok (.iload 4, 2) := by decide +kernel
theorem dX2_firstPlace_25 : decode cX2_firstPlace 25 = .ok (.iload_n 3, 1) := by decide +kernel
theorem dX2_firstPlace_26 : decode cX2_firstPlace 26 = .ok (.invokevirtual 188, 3) := by decide +kernel
theorem dX2_firstPlace_29 : decode cX2_firstPlace 29 = .ok (.ifCond .eq 6, 3) := by decide +kernel
theorem dX2_firstPlace_32 : decode cX2_firstPlace 32 = .ok (.iload 4, 2) := by decide +kernel
theorem dX2_firstPlace_34 : decode cX2_firstPlace 34 = .ok (.istore_n 3, 1) := by decide +kernel
theorem dX2_firstPlace_35 : decode cX2_firstPlace 35 = .ok (.iinc 4 1, 3) := by decide +kernel
theorem dX2_firstPlace_38 : decode cX2_firstPlace 38 = .ok (.goto (-26), 3) := by decide +kernel
theorem dX2_firstPlace_41 : decode cX2_firstPlace 41 = .ok (.iload_n 3, 1) := by decide +kernel
theorem dX2_firstPlace_42 : decode cX2_firstPlace 42 = .ok (.ireturn, 1) := by decide +kernel
theorem dX2_isCalledBefore_0 : decode cX2_isCalledBefore 0 = .ok (.aload_n 0, 1) := by decide +kernel
theorem dX2_isCalledBefore_1 : decode cX2_isCalledBefore 1 = .ok (.getfield 21, 3) := by decide +kernel
theorem dX2_isCalledBefore_4 : decode cX2_isCalledBefore 4 = .ok (.aload_n 1, 1) := by decide +kernel
theorem dX2_isCalledBefore_5 : decode cX2_isCalledBefore 5 = .ok (.getfield 182, 3) := by decide +kernel
theorem dX2_isCalledBefore_8 : decode cX2_isCalledBefore 8 = .ok (.iload_n 2, 1) := by decide +kernel
theorem dX2_isCalledBefore_9 : decode cX2_isCalledBefore 9 = .ok (.iaload, 1) := by decide +kernel
theorem dX2_isCalledBefore_10 : decode cX2_isCalledBefore 10 = .ok (.iaload, 1) := by decide +kernel
theorem dX2_isCalledBefore_11 : decode cX2_isCalledBefore 11 = .ok (.istore 4, 2) := by decide +kernel
theorem dX2_isCalledBefore_13 : decode cX2_isCalledBefore 13 = .ok (.aload_n 0, 1) := by decide +kernel
theorem dX2_isCalledBefore_14 : decode cX2_isCalledBefore 14 = .ok (.getfield 21, 3) := by decide +kernel
theorem dX2_isCalledBefore_17 : decode cX2_isCalledBefore 17 = .ok (.aload_n 1, 1) := by decide +kernel
theorem dX2_isCalledBefore_18 : decode cX2_isCalledBefore 18 = .ok (.getfield 182, 3) := by decide +kernel
theorem dX2_isCalledBefore_21 : decode cX2_isCalledBefore 21 = .ok (.iload_n 3, 1) := by decide +kernel
theorem dX2_isCalledBefore_22 : decode cX2_isCalledBefore 22 = .ok (.iaload, 1) := by decide +kernel
theorem dX2_isCalledBefore_23 : decode cX2_isCalledBefore 23 = .ok (.iaload, 1) := by decide +kernel
theorem dX2_isCalledBefore_24 : decode cX2_isCalledBefore 24 = .ok (.istore 5, 2) := by decide +kernel
theorem dX2_isCalledBefore_26 : decode cX2_isCalledBefore 26 = .ok (.iload 4, 2) := by decide +kernel
theorem dX2_isCalledBefore_28 : decode cX2_isCalledBefore 28 = .ok (.iload 5, 2) := by decide +kernel
theorem dX2_isCalledBefore_30 : decode cX2_isCalledBefore 30 = .ok (.if_icmp .eq 18, 3) := by decide +kernel
theorem dX2_isCalledBefore_33 : decode cX2_isCalledBefore 33 = .ok (.iload 4, 2) := by decide +kernel
theorem dX2_isCalledBefore_35 : decode cX2_isCalledBefore 35 = .ok (.iload 5, 2) := by decide +kernel
theorem dX2_isCalledBefore_37 : decode cX2_isCalledBefore 37 = .ok (.if_icmp .ge 7, 3) := by decide +kernel
theorem dX2_isCalledBefore_40 : decode cX2_isCalledBefore 40 = .ok (.iconst 1, 1) := by decide +kernel
theorem dX2_isCalledBefore_41 : decode cX2_isCalledBefore 41 = .ok (.goto 17, 3) := by decide +kernel
theorem dX2_isCalledBefore_44 : decode cX2_isCalledBefore 44 = .ok (.iconst 0, 1) := by decide +kernel
theorem dX2_isCalledBefore_45 : decode cX2_isCalledBefore 45 = .ok (.goto 13, 3) := by decide +kernel
theorem dX2_isCalledBefore_48 : decode cX2_isCalledBefore 48 = .ok (.iload_n 2, 1) := by decide +kernel
theorem dX2_isCalledBefore_49 : decode cX2_isCalledBefore 49 = .ok (.iload_n 3, 1) := by decide +kernel
theorem dX2_isCalledBefore_50 : decode cX2_isCalledBefore 50 = .ok (.if_icmp .ge 7, 3) := by decide +kernel
theorem dX2_isCalledBefore_53 : decode cX2_isCalledBefore 53 = .ok (.iconst 1, 1) := by decide +kernel
theorem dX2_isCalledBefore_54 : decode cX2_isCalledBefore 54 = .ok (.goto 4, 3) := by decide +kernel
theorem dX2_isCalledBefore_57 : decode cX2_isCalledBefore 57 = .ok (.iconst 0, 1) := by decide +kernel
theorem dX2_isCalledBefore_58 : decode cX2_isCalledBefore 58 = .ok (.ireturn, 1) := by decide +kernel
theorem dX2_countRankedBefore_0 : decode cX2_countRankedBefore 0 = .ok (.iconst 0, 1) := by decide +kernel
theorem dX2_countRankedBefore_1 : decode cX2_countRankedBefore 1 = .ok (.istore_n 2, 1) := by decide +kernel
theorem dX2_countRankedBefore_2 : decode cX2_countRankedBefore 2 = .ok (.iconst 0, 1) := by decide +kernel
theorem dX2_countRankedBefore_3 : decode cX2_countRankedBefore 3 = .ok (.istore_n 3, 1) := by decide +kernel
theorem dX2_countRankedBefore_4 : decode cX2_countRankedBefore 4 = .ok (.iload_n 3, 1) := by decide +kernel
theorem dX2_countRankedBefore_5 : decode cX2_countRankedBefore 5 = .ok (.aload_n 0, 1) := by decide +kernel
theorem dX2_countRankedBefore_6 : decode cX2_countRankedBefore 6 = .ok (.getfield 34, 3) := by decide +kernel
theorem dX2_countRankedBefore_9 : decode cX2_countRankedBefore 9 = .ok (.if_icmp .ge 21, 3) := by decide +kernel
theorem dX2_countRankedBefore_12 : decode cX2_countRankedBefore 12 = .ok (.aload_n 0, 1) := by decide +kernel
theorem dX2_countRankedBefore_13 : decode cX2_countRankedBefore 13 = .ok (.iload_n 3, 1) := by decide +kernel
theorem dX2_countRankedBefore_14 : decode cX2_countRankedBefore 14 = .ok (.iload_n 1, 1) := by decide +kernel
theorem dX2_countRankedBefore_15 : decode cX2_countRankedBefore 15 = .ok (.invokevirtual 192, 3) := by decide +kernel
theorem dX2_countRankedBefore_18 : decode cX2_countRankedBefore 18 = .ok (.ifCond .eq 6, 3) := by decide +kernel
theorem dX2_countRankedBefore_21 : decode cX2_countRankedBefore 21 = .ok (.iinc 2 1, 3) := by decide +kernel
theorem dX2_countRankedBefore_24 : decode cX2_countRankedBefore 24 = .ok (.iinc 3 1, 3) := by decide +kernel
theorem dX2_countRankedBefore_27 : decode cX2_countRankedBefore 27 = .ok (.goto (-23), 3) := by decide +kernel
theorem dX2_countRankedBefore_30 : decode cX2_countRankedBefore 30 = .ok (.iload_n 2, 1) := by decide +kernel
theorem dX2_countRankedBefore_31 : decode cX2_countRankedBefore 31 = .ok (.ireturn, 1) := by decide +kernel
theorem dX2_isRankedBefore_0 : decode cX2_isRankedBefore 0 = .ok (.aload_n 0, 1) := by decide +kernel
theorem dX2_isRankedBefore_1 : decode cX2_isRankedBefore 1 = .ok (.getfield 21, 3) := by decide +kernel
theorem dX2_isRankedBefore_4 : decode cX2_isRankedBefore 4 = .ok (.iload_n 1, 1) := by decide +kernel
theorem dX2_isRankedBefore_5 : decode cX2_isRankedBefore 5 = .ok (.iaload, 1) := by decide +kernel
theorem dX2_isRankedBefore_6 : decode cX2_isRankedBefore 6 = .ok (.aload_n 0, 1) := by decide +kernel
theorem dX2_isRankedBefore_7 : decode cX2_isRankedBefore 7 = .ok (.getfield 21, 3) := by decide +kernel
theorem dX2_isRankedBefore_10 : decode cX2_isRankedBefore 10 = .ok (.iload_n 2, 1) := by decide +kernel
theorem dX2_isRankedBefore_11 : decode cX2_isRankedBefore 11 = .ok (.iaload, 1) := by decide +kernel
theorem dX2_isRankedBefore_12 : decode cX2_isRankedBefore 12 = .ok (.if_icmp .eq 24, 3) := by decide +kernel
theorem dX2_isRankedBefore_15 : decode cX2_isRankedBefore 15 = .ok (.aload_n 0, 1) := by decide +kernel
theorem dX2_isRankedBefore_16 : decode cX2_isRankedBefore 16 = .ok (.getfield 21, 3) := by decide +kernel
theorem dX2_isRankedBefore_19 : decode cX2_isRankedBefore 19 = .ok (.iload_n 1, 1) := by decide +kernel
theorem dX2_isRankedBefore_20 : decode cX2_isRankedBefore 20 = .ok (.iaload, 1) := by decide +kernel
theorem dX2_isRankedBefore_21 : decode cX2_isRankedBefore 21 = .ok (.aload_n 0, 1) := by decide +kernel
theorem dX2_isRankedBefore_22 : decode cX2_isRankedBefore 22 = .ok (.getfield 21, 3) := by decide +kernel
theorem dX2_isRankedBefore_25 : decode cX2_isRankedBefore 25 = .ok (.iload_n 2, 1) := by decide +kernel
theorem dX2_isRankedBefore_26 : decode cX2_isRankedBefore 26 = .ok (.iaload, 1) := by decide +kernel
theorem dX2_isRankedBefore_27 : decode cX2_isRankedBefore 27 = .ok (.if_icmp .le 7, 3) := by decide +kernel
theorem dX2_isRankedBefore_30 : decode cX2_isRankedBefore 30 = .ok (.iconst 1, 1) := by decide +kernel
theorem dX2_isRankedBefore_31 : decode cX2_isRankedBefore 31 = .ok (.goto 4, 3) := by decide +kernel
theorem dX2_isRankedBefore_34 : decode cX2_isRankedBefore 34 = .ok (.iconst 0, 1) := by decide +kernel
theorem dX2_isRankedBefore_35 : decode cX2_isRankedBefore 35 = .ok (.ireturn, 1) := by decide +kernel
theorem dX2_isRankedBefore_36 : decode cX2_isRankedBefore 36 = .ok (.aload_n 0, 1) := by decide +kernel
theorem dX2_isRankedBefore_37 : decode cX2_isRankedBefore 37 = .ok (.getfield 15, 3) := by decide +kernel
theorem dX2_isRankedBefore_40 : decode cX2_isRankedBefore 40 = .ok (.iload_n 1, 1) := by decide +kernel
theorem dX2_isRankedBefore_41 : decode cX2_isRankedBefore 41 = .ok (.iaload, 1) := by decide +kernel
theorem dX2_isRankedBefore_42 : decode cX2_isRankedBefore 42 = .ok (.aload_n 0, 1) := by decide +kernel
theorem dX2_isRankedBefore_43 : decode cX2_isRankedBefore 43 = .ok (.getfield 15, 3) := by decide +kernel
theorem dX2_isRankedBefore_46 : decode cX2_isRankedBefore 46 = .ok (.iload_n 2, 1) := by decide +kernel
theorem dX2_isRankedBefore_47 : decode cX2_isRankedBefore 47 = .ok (.iaload, 1) := by decide +kernel
theorem dX2_isRankedBefore_48 : decode cX2_isRankedBefore 48 = .ok (.if_icmp .eq 24, 3) := by decide +kernel
theorem dX2_isRankedBefore_51 : decode cX2_isRankedBefore 51 = .ok (.aload_n 0, 1) := by decide +kernel
theorem dX2_isRankedBefore_52 : decode cX2_isRankedBefore 52 = .ok (.getfield 15, 3) := by decide +kernel
theorem dX2_isRankedBefore_55 : decode cX2_isRankedBefore 55 = .ok (.iload_n 1, 1) := by decide +kernel
theorem dX2_isRankedBefore_56 : decode cX2_isRankedBefore 56 = .ok (.iaload, 1) := by decide +kernel
theorem dX2_isRankedBefore_57 : decode cX2_isRankedBefore 57 = .ok (.aload_n 0, 1) := by decide +kernel
theorem dX2_isRankedBefore_58 : decode cX2_isRankedBefore 58 = .ok (.getfield 15, 3) := by decide +kernel
theorem dX2_isRankedBefore_61 : decode cX2_isRankedBefore 61 = .ok (.iload_n 2, 1) := by decide +kernel
theorem dX2_isRankedBefore_62 : decode cX2_isRankedBefore 62 = .ok (.iaload, 1) := by decide +kernel
theorem dX2_isRankedBefore_63 : decode cX2_isRankedBefore 63 = .ok (.if_icmp .le 7, 3) := by decide +kernel
theorem dX2_isRankedBefore_66 : decode cX2_isRankedBefore 66 = .ok (.iconst 1, 1) := by decide +kernel
theorem dX2_isRankedBefore_67 : decode cX2_isRankedBefore 67 = .ok (.goto 4, 3) := by decide +kernel
theorem dX2_isRankedBefore_70 : decode cX2_isRankedBefore 70 = .ok (.iconst 0, 1) := by decide +kernel
theorem dX2_isRankedBefore_71 : decode cX2_isRankedBefore 71 = .ok (.ireturn, 1) := by decide +kernel
theorem dX2_isRankedBefore_72 : decode cX2_isRankedBefore 72 = .ok (.iload_n 1, 1) := by decide +kernel
theorem dX2_isRankedBefore_73 : decode cX2_isRankedBefore 73 = .ok (.iload_n 2, 1) := by decide +kernel
theorem dX2_isRankedBefore_74 : decode cX2_isRankedBefore 74 = .ok (.if_icmp .ge 7, 3) := by decide +kernel
theorem dX2_isRankedBefore_77 : decode cX2_isRankedBefore 77 = .ok (.iconst 1, 1) := by decide +kernel
theorem dX2_isRankedBefore_78 : decode cX2_isRankedBefore 78 = .ok (.goto 4, 3) := by decide +kernel
theorem dX2_isRankedBefore_81 : decode cX2_isRankedBefore 81 = .ok (.iconst 0, 1) := by decide +kernel
theorem dX2_isRankedBefore_82 : decode cX2_isRankedBefore 82 = .ok (.ireturn, 1) := by decide +kernel
theorem dX2_refusalToSupport_0 : decode cX2_refusalToSupport 0 = .ok (.aload_n 0, 1) := by decide +kernel
theorem dX2_refusalToSupport_1 : decode cX2_refusalToSupport 1 = .ok (.iload_n 1, 1) := by decide +kernel
theorem dX2_refusalToSupport_2 : decode cX2_refusalToSupport 2 = .ok (.iload_n 2, 1) := by decide +kernel
theorem dX2_refusalToSupport_3 : decode cX2_refusalToSupport 3 = .ok (.invokevirtual 154, 3) := by decide +kernel
theorem dX2_refusalToSupport_6 : decode cX2_refusalToSupport 6 = .ok (.astore_n 3, 1) := by decide +kernel
theorem dX2_refusalToSupport_7 : decode cX2_refusalToSupport 7 = .ok (.aload_n 3, 1) := by decide +kernel
theorem dX2_refusalToSupport_8 : decode cX2_refusalToSupport 8 = .ok (.getstatic 76, 3) := by decide +kernel
theorem dX2_refusalToSupport_11 : decode cX2_refusalToSupport 11 = .ok (.if_acmp .eq 5, 3) := by decide +kernel
theorem dX2_refusalToSupport_14 : decode cX2_refusalToSupport 14 = .ok (.aload_n 3, 1) := by decide +kernel
theorem dX2_refusalToSupport_15 : decode cX2_refusalToSupport 15 = .ok (.areturn, 1) := by decide +kernel
theorem dX2_refusalToSupport_16 : decode cX2_refusalToSupport 16 = .ok (.aload_n 0, 1) := by decide +kernel
theorem dX2_refusalToSupport_17 : decode cX2_refusalToSupport 17 = .ok (.iload_n 2, 1) := by decide +kernel
theorem dX2_refusalToSupport_18 : decode cX2_refusalToSupport 18 = .ok (.invokevirtual 110, 3) := by decide +kernel
theorem dX2_refusalToSupport_21 : decode cX2_refusalToSupport 21 = .ok (.ifCond .eq 9, 3) := by decide +kernel
theorem dX2_refusalToSupport_24 : decode cX2_refusalToSupport 24 = .ok (.getstatic 76, 3) := by decide +kernel
theorem dX2_refusalToSupport_27 : decode cX2_refusalToSupport 27 = .ok (.goto 6, 3) := by decide +kernel
theorem dX2_refusalToSupport_30 : decode cX2_refusalToSupport 30 = .ok (.getstatic 195, 3) := by decide +kernel
theorem dX2_refusalToSupport_33 : decode cX2_refusalToSupport 33 = .ok (.areturn, 1) := by decide +kernel
theorem dX2_support_0 : decode cX2_support 0 = .ok (.aload_n 0, 1) := by decide +kernel
theorem dX2_support_1 : decode cX2_support 1 = .ok (.getfield 29, 3) := by decide +kernel
theorem dX2_support_4 : decode cX2_support 4 = .ok (.iload_n 1, 1) := by decide +kernel
theorem dX2_support_5 : decode cX2_support 5 = .ok (.aaload, 1) := by decide +kernel
theorem dX2_support_6 : decode cX2_support 6 = .ok (.astore_n 3, 1) := by decide +kernel
theorem dX2_support_7 : decode cX2_support 7 = .ok (.aload_n 3, 1) := by decide +kernel
theorem dX2_support_8 : decode cX2_support 8 = .ok (.dup, 1) := by decide +kernel
theorem dX2_support_9 : decode cX2_support 9 = .ok (.getfield 198, 3) := by decide +kernel
theorem dX2_support_12 : decode cX2_support 12 = .ok (.iconst 1, 1) := by decide +kernel
theorem dX2_support_13 : decode cX2_support 13 = .ok (.iload_n 2, 1) := by decide +kernel
theorem dX2_support_14 : decode cX2_support 14 = .ok (.ishl, 1) := by decide +kernel
theorem dX2_support_15 : decode cX2_support 15 = .ok (.ior, 1) := by decide +kernel
theorem dX2_support_16 : decode cX2_support 16 = .ok (.putfield 198, 3) := by decide +kernel
theorem dX2_support_19 : decode cX2_support 19 = .ok (.aload_n 3, 1) := by decide +kernel
theorem dX2_support_20 : decode cX2_support 20 = .ok (.iconst 2, 1) := by decide +kernel
theorem dX2_support_21 : decode cX2_support 21 = .ok (.aload_n 0, 1) := by decide +kernel
theorem dX2_support_22 : decode cX2_support 22 = .ok (.aload_n 3, 1) := by decide +kernel
theorem dX2_support_23 : decode cX2_support 23 = .ok (.getfield 198, 3) := by decide +kernel
theorem dX2_support_26 : decode cX2_support 26 = .ok (.invokevirtual 201, 3) := by decide +kernel
theorem dX2_support_29 : decode cX2_support 29 = .ok (.imul, 1) := by decide +kernel
theorem dX2_support_30 : decode cX2_support 30 = .ok (.aload_n 0, 1) := by decide +kernel
theorem dX2_support_31 : decode cX2_support 31 = .ok (.aload_n 0, 1) := by decide +kernel
theorem dX2_support_32 : decode cX2_support 32 = .ok (.iload_n 1, 1) := by decide +kernel
theorem dX2_support_33 : decode cX2_support 33 = .ok (.invokevirtual 204, 3) := by decide +kernel
theorem dX2_support_36 : decode cX2_support 36 = .ok (.invokevirtual 201, 3) := by decide +kernel
theorem dX2_support_39 : decode cX2_support 39 = .ok (.if_icmp .le 7, 3) := by decide +kernel
theorem dX2_support_42 : decode cX2_support 42 = .ok (.iconst 1, 1) := by decide +kernel
theorem dX2_support_43 : decode cX2_support 43 = .ok (.goto 4, 3) := by decide +kernel
theorem dX2_support_46 : decode cX2_support 46 = .ok (.iconst 0, 1) := by decide +kernel
theorem dX2_support_47 : decode cX2_support 47 = .ok (.putfield 148, 3) := by decide +kernel
theorem dX2_support_50 : decode cX2_support 50 = .ok (.aload_n 3, 1) := by decide +kernel
theorem dX2_support_51 : decode cX2_support 51 = .ok (.getfield 148, 3) := by decide +kernel
theorem dX2_support_54 : decode cX2_support 54 = .ok (.ireturn, 1) := by decide +kernel
theorem dX2_refusalToHear_0 : decode cX2_refusalToHear 0 = .ok (.aload_n 0, 1) := by decide +kernel
theorem dX2_refusalToHear_1 : decode cX2_refusalToHear 1 = .ok (.iload_n 1, 1) := by decide +kernel
theorem dX2_refusalToHear_2 : decode cX2_refusalToHear 2 = .ok (.iload_n 2, 1) := by decide +kernel
theorem dX2_refusalToHear_3 : decode cX2_refusalToHear 3 = .ok (.invokevirtual 134, 3) := by decide +kernel
theorem dX2_refusalToHear_6 : decode cX2_refusalToHear 6 = .ok (.astore 4, 2) := by decide +kernel
theorem dX2_refusalToHear_8 : decode cX2_refusalToHear 8 = .ok (.aload 4, 2) := by decide +kernel
theorem dX2_refusalToHear_10 : decode cX2_refusalToHear 10 = .ok (.getstatic 76, 3) := by decide +kernel
theorem dX2_refusalToHear_13 : decode cX2_refusalToHear 13 = .ok (.if_acmp .eq 6, 3) := by decide +kernel
theorem dX2_refusalToHear_16 : decode cX2_refusalToHear 16 = .ok (.aload 4, 2) := by decide +kernel
theorem dX2_refusalToHear_18 : decode cX2_refusalToHear 18 = .ok (.areturn, 1) := by decide +kernel
theorem dX2_refusalToHear_19 : decode cX2_refusalToHear 19 = .ok (.iload_n 3, 1) := by decide +kernel
theorem dX2_refusalToHear_20 : decode cX2_refusalToHear 20 = .ok (.iconst 1, 1) := by decide +kernel
theorem dX2_refusalToHear_21 : decode cX2_refusalToHear 21 = .ok (.if_icmp .lt 9, 3) := by decide +kernel
theorem dX2_refusalToHear_24 : decode cX2_refusalToHear 24 = .ok (.iload_n 3, 1) := by decide +kernel
theorem dX2_refusalToHear_25 : decode cX2_refusalToHear 25 = .ok (.bipush 9, 2) := by decide +kernel
theorem dX2_refusalToHear_27 : decode cX2_refusalToHear 27 = .ok (.if_icmp .le 7, 3) := by decide +kernel
theorem dX2_refusalToHear_30 : decode cX2_refusalToHear 30 = .ok (.getstatic 207, 3) := by decide +kernel
theorem dX2_refusalToHear_33 : decode cX2_refusalToHear 33 = .ok (.areturn, 1) := by decide +kernel
theorem dX2_refusalToHear_34 : decode cX2_refusalToHear 34 = .ok (.aload_n 0, 1) := by decide +kernel
theorem dX2_refusalToHear_35 : decode cX2_refusalToHear 35 = .ok (.iload_n 1, 1) := by decide +kernel
theorem dX2_refusalToHear_36 : decode cX2_refusalToHear 36 = .ok (.iload_n 2, 1) := by decide +kernel
theorem dX2_refusalToHear_37 : decode cX2_refusalToHear 37 = .ok (.invokevirtual 130, 3) := by decide +kernel
theorem dX2_refusalToHear_40 : decode cX2_refusalToHear 40 = .ok (.ifCond .ne 7, 3) := by decide +kernel
theorem dX2_refusalToHear_43 : decode cX2_refusalToHear 43 = .ok (.getstatic 138, 3) := by decide +kernel
theorem dX2_refusalToHear_46 : decode cX2_refusalToHear 46 = .ok (.areturn, 1) := by decide +kernel
theorem dX2_refusalToHear_47 : decode cX2_refusalToHear 47 = .ok (.aload_n 0, 1) := by decide +kernel
theorem dX2_refusalToHear_48 : decode cX2_refusalToHear 48 = .ok (.iload_n 1, 1) := by decide +kernel
theorem dX2_refusalToHear_49 : decode cX2_refusalToHear 49 = .ok (.invokevirtual 210, 3) := by decide +kernel
theorem dX2_refusalToHear_52 : decode cX2_refusalToHear 52 = .ok (.astore 4, 2) := by decide +kernel
theorem dX2_refusalToHear_54 : decode cX2_refusalToHear 54 = .ok (.aload 4, 2) := by decide +kernel
theorem dX2_refusalToHear_56 : decode cX2_refusalToHear 56 = .ok (.getstatic 76, 3) := by decide +kernel
theorem dX2_refusalToHear_59 : decode cX2_refusalToHear 59 = .ok (.if_acmp .eq 6, 3) := by decide +kernel
theorem dX2_refusalToHear_62 : decode cX2_refusalToHear 62 = .ok (.aload 4, 2) := by decide +kernel
theorem dX2_refusalToHear_64 : decode cX2_refusalToHear 64 = .ok (.areturn, 1) := by decide +kernel
theorem dX2_refusalToHear_65 : decode cX2_refusalToHear 65 = .ok (.aload_n 0, 1) := by decide +kernel
theorem dX2_refusalToHear_66 : decode cX2_refusalToHear 66 = .ok (.iload_n 2, 1) := by decide +kernel
theorem dX2_refusalToHear_67 : decode cX2_refusalToHear 67 = .ok (.invokevirtual 110, 3) := by decide +kernel
theorem dX2_refusalToHear_70 : decode cX2_refusalToHear 70 = .ok (.ifCond .ne 7, 3) := by decide +kernel
theorem dX2_refusalToHear_73 : decode cX2_refusalToHear 73 = .ok (.getstatic 195, 3) := by decide +kernel
theorem dX2_refusalToHear_76 : decode cX2_refusalToHear 76 = .ok (.areturn, 1) := by decide +kernel
theorem dX2_refusalToHear_77 : decode cX2_refusalToHear 77 = .ok (.aload_n 0, 1) := by decide +kernel
theorem dX2_refusalToHear_78 : decode cX2_refusalToHear 78 = .ok (.getfield 29, 3) := by decide +kernel
theorem dX2_refusalToHear_81 : decode cX2_refusalToHear 81 = .ok (.iload_n 1, 1) := by decide +kernel
theorem dX2_refusalToHear_82 : decode cX2_refusalToHear 82 = .ok (.aaload, 1) := by decide +kernel
theorem dX2_refusalToHear_83 : decode cX2_refusalToHear 83 = .ok (.iload_n 2, 1) := by decide +kernel
theorem dX2_refusalToHear_84 : decode cX2_refusalToHear 84 = .ok (.invokevirtual 214, 3) := by decide +kernel
theorem dX2_refusalToHear_87 : decode cX2_refusalToHear 87 = .ok (.ifCond .eq 9, 3) := by decide +kernel
theorem dX2_refusalToHear_90 : decode cX2_refusalToHear 90 = .ok (.getstatic 217, 3) := by decide +kernel
theorem dX2_refusalToHear_93 : decode cX2_refusalToHear 93 = .ok (.goto 6, 3) := by decide +kernel
theorem dX2_refusalToHear_96 : decode cX2_refusalToHear 96 = .ok (.getstatic 76, 3) := by decide +kernel
theorem dX2_refusalToHear_99 : decode cX2_refusalToHear 99 = .ok (.areturn, 1) := by decide +kernel
theorem dX2_hear_0 : decode cX2_hear 0 = .ok (.aload_n 0, 1) := by decide +kernel
theorem dX2_hear_1 : decode cX2_hear 1 = .ok (.getfield 29, 3) := by decide +kernel
theorem dX2_hear_4 : decode cX2_hear 4 = .ok (.iload_n 1, 1) := by decide +kernel
theorem dX2_hear_5 : decode cX2_hear 5 = .ok (.aaload, 1) := by decide +kernel
theorem dX2_hear_6 : decode cX2_hear 6 = .ok (.astore 5, 2) := by decide +kernel
theorem dX2_hear_8 : decode cX2_hear 8 = .ok (.aload 5, 2) := by decide +kernel
theorem dX2_hear_10 : decode cX2_hear 10 = .ok (.iload_n 2, 1) := by decide +kernel
theorem dX2_hear_11 : decode cX2_hear 11 = .ok (.iload_n 3, 1) := by decide +kernel
theorem dX2_hear_12 : decode cX2_hear 12 = .ok (.aload_n 0, 1) := by decide +kernel
theorem dX2_hear_13 : decode cX2_hear 13 = .ok (.getfield 15, 3) := by decide +kernel
theorem dX2_hear_16 : decode cX2_hear 16 = .ok (.iload_n 2, 1) := by decide +kernel
theorem dX2_hear_17 : decode cX2_hear 17 = .ok (.iaload, 1) := by decide +kernel
theorem dX2_hear_18 : decode cX2_hear 18 = .ok (.imul, 1) := by decide +kernel
theorem dX2_hear_19 : decode cX2_hear 19 = .ok (.iload 4, 2) := by decide +kernel
theorem dX2_hear_21 : decode cX2_hear 21 = .ok (.invokevirtual 220, 3) := by decide +kernel
theorem dX2_hear_24 : decode cX2_hear 24 = .ok (.aload 5, 2) := by decide +kernel
theorem dX2_hear_26 : decode cX2_hear 26 = .ok (.iload 4, 2) := by decide +kernel
theorem dX2_hear_28 : decode cX2_hear 28 = .ok (.invokevirtual 224, 3) := by decide +kernel
theorem dX2_hear_31 : decode cX2_hear 31 = .ok (.ireturn, 1) := by decide +kernel
theorem dX2_sumForFromPond_0 : decode cX2_sumForFromPond 0 = .ok (.aload_n 0, 1) := by decide +kernel
theorem dX2_sumForFromPond_1 : decode cX2_sumForFromPond 1 = .ok (.getfield 29, 3) := by decide +kernel
theorem dX2_sumForFromPond_4 : decode cX2_sumForFromPond 4 = .ok (.iload_n 1, 1) := by decide +kernel
theorem dX2_sumForFromPond_5 : decode cX2_sumForFromPond 5 = .ok (.aaload, 1) := by decide +kernel
theorem dX2_sumForFromPond_6 : decode cX2_sumForFromPond 6 = .ok (.astore_n 3, 1) := by decide +kernel
theorem dX2_sumForFromPond_7 : decode cX2_sumForFromPond 7 = .ok (.iconst 0, 1) := by decide +kernel
theorem dX2_sumForFromPond_8 : decode cX2_sumForFromPond 8 = .ok (.istore 4, 2) := by decide +kernel
theorem dX2_sumForFromPond_10 : decode cX2_sumForFromPond 10 = .ok (.iconst 0, 1) := by decide +kernel
theorem dX2_sumForFromPond_11 : decode cX2_sumForFromPond 11 = .ok (.istore 5, 2) := by decide +kernel
theorem dX2_sumForFromPond_13 : decode cX2_sumForFromPond 13 = .ok (.iload 5, 2) := by decide +kernel
theorem dX2_sumForFromPond_15 : decode cX2_sumForFromPond 15 = .ok (.aload_n 3, 1) := by decide +kernel
theorem dX2_sumForFromPond_16 : decode cX2_sumForFromPond 16 = .ok (.getfield 228, 3) := by decide +kernel
theorem dX2_sumForFromPond_19 : decode cX2_sumForFromPond 19 = .ok (.if_icmp .ge 46, 3) := by decide +kernel
theorem dX2_sumForFromPond_22 : decode cX2_sumForFromPond 22 = .ok (.aload_n 3, 1) := by decide +kernel
theorem dX2_sumForFromPond_23 : decode cX2_sumForFromPond 23 = .ok (.iload 5, 2) := by decide +kernel
theorem dX2_sumForFromPond_25 : decode cX2_sumForFromPond 25 = .ok (.invokevirtual 231, 3) := by decide +kernel
theorem dX2_sumForFromPond_28 : decode cX2_sumForFromPond 28 = .ok (.ifCond .eq 31, 3) := by decide +kernel
theorem dX2_sumForFromPond_31 : decode cX2_sumForFromPond 31 = .ok (.aload_n 0, 1) := by decide +kernel
theorem dX2_sumForFromPond_32 : decode cX2_sumForFromPond 32 = .ok (.getfield 9, 3) := by decide +kernel
theorem dX2_sumForFromPond_35 : decode cX2_sumForFromPond 35 = .ok (.aload_n 3, 1) := by decide +kernel
theorem dX2_sumForFromPond_36 : decode cX2_sumForFromPond 36 = .ok (.getfield 234, 3) := by decide +kernel
theorem dX2_sumForFromPond_39 : decode cX2_sumForFromPond 39 = .ok (.iload 5, 2) := by decide +kernel
theorem dX2_sumForFromPond_41 : decode cX2_sumForFromPond 41 = .ok (.iaload, 1) := by decide +kernel
theorem dX2_sumForFromPond_42 : decode cX2_sumForFromPond 42 = .ok (.iaload, 1) := by decide +kernel
theorem dX2_sumForFromPond_43 : decode cX2_sumForFromPond 43 = .ok (.iload_n 2, 1) := by decide +kernel
theorem dX2_sumForFromPond_44 : decode cX2_sumForFromPond 44 = .ok (.if_icmp .ne 15, 3) := by decide +kernel
theorem dX2_sumForFromPond_47 : decode cX2_sumForFromPond 47 = .ok (.iload 4, 2) := by decide +kernel
theorem dX2_sumForFromPond_49 : decode cX2_sumForFromPond 49 = .ok (.aload_n 3, 1) := by decide +kernel
theorem dX2_sumForFromPond_50 : decode cX2_sumForFromPond 50 = .ok (.getfield 237, 3) := by decide +kernel
theorem dX2_sumForFromPond_53 : decode cX2_sumForFromPond 53 = .ok (.iload 5, 2) := by decide +kernel
theorem dX2_sumForFromPond_55 : decode cX2_sumForFromPond 55 = .ok (.iaload, 1) := by decide +kernel
theorem dX2_sumForFromPond_56 : decode cX2_sumForFromPond 56 = .ok (.iadd, 1) := by decide +kernel
theorem dX2_sumForFromPond_57 : decode cX2_sumForFromPond 57 = .ok (.istore 4, 2) := by decide +kernel
theorem dX2_sumForFromPond_59 : decode cX2_sumForFromPond 59 = .ok (.iinc 5 1, 3) := by decide +kernel
theorem dX2_sumForFromPond_62 : decode cX2_sumForFromPond 62 = .ok (.goto (-49), 3) := by decide +kernel
theorem dX2_sumForFromPond_65 : decode cX2_sumForFromPond 65 = .ok (.iload 4, 2) := by decide +kernel
theorem dX2_sumForFromPond_67 : decode cX2_sumForFromPond 67 = .ok (.ireturn, 1) := by decide +kernel
theorem dX2_refusalToSettle_0 : decode cX2_refusalToSettle 0 = .ok (.aload_n 0, 1) := by decide +kernel
theorem dX2_refusalToSettle_1 : decode cX2_refusalToSettle 1 = .ok (.iload_n 1, 1) := by decide +kernel
theorem dX2_refusalToSettle_2 : decode cX2_refusalToSettle 2 = .ok (.invokevirtual 63, 3) := by decide +kernel
theorem dX2_refusalToSettle_5 : decode cX2_refusalToSettle 5 = .ok (.ifCond .ne 7, 3) := by decide +kernel
theorem dX2_refusalToSettle_8 : decode cX2_refusalToSettle 8 = .ok (.getstatic 67, 3) := by decide +kernel
theorem dX2_refusalToSettle_11 : decode cX2_refusalToSettle 11 = .ok (.areturn, 1) := by decide +kernel
theorem dX2_refusalToSettle_12 : decode cX2_refusalToSettle 12 = .ok (.aload_n 0, 1) := by decide +kernel
theorem dX2_refusalToSettle_13 : decode cX2_refusalToSettle 13 = .ok (.getfield 29, 3) := by decide +kernel
theorem dX2_refusalToSettle_16 : decode cX2_refusalToSettle 16 = .ok (.iload_n 1, 1) := by decide +kernel
theorem dX2_refusalToSettle_17 : decode cX2_refusalToSettle 17 = .ok (.aaload, 1) := by decide +kernel
theorem dX2_refusalToSettle_18 : decode cX2_refusalToSettle 18 = .ok (.astore_n 2, 1) := by decide +kernel
theorem dX2_refusalToSettle_19 : decode cX2_refusalToSettle 19 = .ok (.aload_n 2, 1) := by decide +kernel
theorem dX2_refusalToSettle_20 : decode cX2_refusalToSettle 20 = .ok (.getfield 141, 3) := by decide +kernel
theorem dX2_refusalToSettle_23 : decode cX2_refusalToSettle 23 = .ok (.ifCond .eq 7, 3) := by decide +kernel
theorem dX2_refusalToSettle_26 : decode cX2_refusalToSettle 26 = .ok (.getstatic 145, 3) := by decide +kernel
theorem dX2_refusalToSettle_29 : decode cX2_refusalToSettle 29 = .ok (.areturn, 1) := by decide +kernel
theorem dX2_refusalToSettle_30 : decode cX2_refusalToSettle 30 = .ok (.aload_n 2, 1) := by decide +kernel
theorem dX2_refusalToSettle_31 : decode cX2_refusalToSettle 31 = .ok (.getfield 148, 3) := by decide +kernel
theorem dX2_refusalToSettle_34 : decode cX2_refusalToSettle 34 = .ok (.ifCond .ne 7, 3) := by decide +kernel
theorem dX2_refusalToSettle_37 : decode cX2_refusalToSettle 37 = .ok (.getstatic 240, 3) := by decide +kernel
theorem dX2_refusalToSettle_40 : decode cX2_refusalToSettle 40 = .ok (.areturn, 1) := by decide +kernel
theorem dX2_refusalToSettle_41 : decode cX2_refusalToSettle 41 = .ok (.aload_n 2, 1) := by decide +kernel
theorem dX2_refusalToSettle_42 : decode cX2_refusalToSettle 42 = .ok (.getfield 167, 3) := by decide +kernel
theorem dX2_refusalToSettle_45 : decode cX2_refusalToSettle 45 = .ok (.ifCond .le 9, 3) := by decide +kernel
theorem dX2_refusalToSettle_48 : decode cX2_refusalToSettle 48 = .ok (.getstatic 243, 3) := by decide +kernel
theorem dX2_refusalToSettle_51 : decode cX2_refusalToSettle 51 = .ok (.goto 6, 3) := by decide +kernel
theorem dX2_refusalToSettle_54 : decode cX2_refusalToSettle 54 = .ok (.getstatic 76, 3) := by decide +kernel
theorem dX2_refusalToSettle_57 : decode cX2_refusalToSettle 57 = .ok (.areturn, 1) := by decide +kernel
theorem dX2_settle_0 : decode cX2_settle 0 = .ok (.aload_n 0, 1) := by decide +kernel
theorem dX2_settle_1 : decode cX2_settle 1 = .ok (.getfield 29, 3) := by decide +kernel
theorem dX2_settle_4 : decode cX2_settle 4 = .ok (.iload_n 1, 1) := by decide +kernel
theorem dX2_settle_5 : decode cX2_settle 5 = .ok (.aaload, 1) := by decide +kernel
theorem dX2_settle_6 : decode cX2_settle 6 = .ok (.astore_n 2, 1) := by decide +kernel
theorem dX2_settle_7 : decode cX2_settle 7 = .ok (.aload_n 2, 1) := by decide +kernel
theorem dX2_settle_8 : decode cX2_settle 8 = .ok (.iconst 1, 1) := by decide +kernel
theorem dX2_settle_9 : decode cX2_settle 9 = .ok (.putfield 141, 3) := by decide +kernel
theorem dX2_settle_12 : decode cX2_settle 12 = .ok (.aload_n 2, 1) := by decide +kernel
theorem dX2_settle_13 : decode cX2_settle 13 = .ok (.aload_n 2, 1) := by decide +kernel
theorem dX2_settle_14 : decode cX2_settle 14 = .ok (.iconst 1, 1) := by decide +kernel
theorem dX2_settle_15 : decode cX2_settle 15 = .ok (.invokevirtual 224, 3) := by decide +kernel
theorem dX2_settle_18 : decode cX2_settle 18 = .ok (.aload_n 2, 1) := by decide +kernel
theorem dX2_settle_19 : decode cX2_settle 19 = .ok (.iconst 0, 1) := by decide +kernel
theorem dX2_settle_20 : decode cX2_settle 20 = .ok (.invokevirtual 224, 3) := by decide +kernel
theorem dX2_settle_23 : decode cX2_settle 23 = .ok (.if_icmp .le 7, 3) := by decide +kernel
theorem dX2_settle_26 : decode cX2_settle 26 = .ok (.iconst 1, 1) := by decide +kernel
theorem dX2_settle_27 : decode cX2_settle 27 = .ok (.goto 4, 3) := by decide +kernel
theorem dX2_settle_30 : decode cX2_settle 30 = .ok (.iconst 0, 1) := by decide +kernel
theorem dX2_settle_31 : decode cX2_settle 31 = .ok (.putfield 246, 3) := by decide +kernel
theorem dX2_settle_34 : decode cX2_settle 34 = .ok (.aload_n 2, 1) := by decide +kernel
theorem dX2_settle_35 : decode cX2_settle 35 = .ok (.getfield 246, 3) := by decide +kernel
theorem dX2_settle_38 : decode cX2_settle 38 = .ok (.ireturn, 1) := by decide +kernel
theorem dX2_refusalOf_0 : decode cX2_refusalOf 0 = .ok (.aload_n 1, 1) := by decide +kernel
theorem dX2_refusalOf_1 : decode cX2_refusalOf 1 = .ok (.getfield 249, 3) := by decide +kernel
theorem dX2_refusalOf_4 : decode cX2_refusalOf 4 = .ok (.astore_n 2, 1) := by decide +kernel
theorem dX2_refusalOf_5 : decode cX2_refusalOf 5 = .ok (.getstatic 254, 3) := by decide +kernel
theorem dX2_refusalOf_8 : decode cX2_refusalOf 8 = .ok (.aload_n 1, 1) := by decide +kernel
theorem dX2_refusalOf_9 : decode cX2_refusalOf 9 = .ok (.getfield 259, 3) := by decide +kernel
theorem dX2_refusalOf_12 : decode cX2_refusalOf 12 = .ok (.invokevirtual 263, 3) := by decide +kernel
theorem dX2_refusalOf_15 : decode cX2_refusalOf 15 = .ok (.iaload, 1) := by decide +kernel
theorem dX2_refusalOf_16 : decode cX2_refusalOf 16 = .ok (.tableswitch 157 1 10 #[56, 67, 75, 86, 94, 102, 113, 124, 132, 143], 56) := by decide +kernel
theorem dX2_refusalOf_72 : decode cX2_refusalOf 72 = .ok (.aload_n 0, 1) := by decide +kernel
theorem dX2_refusalOf_73 : decode cX2_refusalOf 73 = .ok (.aload_n 2, 1) := by decide +kernel
theorem dX2_refusalOf_74 : decode cX2_refusalOf 74 = .ok (.iconst 0, 1) := by decide +kernel
theorem dX2_refusalOf_75 : decode cX2_refusalOf 75 = .ok (.iaload, 1) := by decide +kernel
theorem dX2_refusalOf_76 : decode cX2_refusalOf 76 = .ok (.aload_n 2, 1) := by decide +kernel
theorem dX2_refusalOf_77 : decode cX2_refusalOf 77 = .ok (.iconst 1, 1) := by decide +kernel
theorem dX2_refusalOf_78 : decode cX2_refusalOf 78 = .ok (.iaload, 1) := by decide +kernel
theorem dX2_refusalOf_79 : decode cX2_refusalOf 79 = .ok (.invokevirtual 269, 3) := by decide +kernel
theorem dX2_refusalOf_82 : decode cX2_refusalOf 82 = .ok (.areturn, 1) := by decide +kernel
theorem dX2_refusalOf_83 : decode cX2_refusalOf 83 = .ok (.aload_n 0, 1) := by decide +kernel
theorem dX2_refusalOf_84 : decode cX2_refusalOf 84 = .ok (.aload_n 2, 1) := by decide +kernel
theorem dX2_refusalOf_85 : decode cX2_refusalOf 85 = .ok (.iconst 0, 1) := by decide +kernel
theorem dX2_refusalOf_86 : decode cX2_refusalOf 86 = .ok (.iaload, 1) := by decide +kernel
theorem dX2_refusalOf_87 : decode cX2_refusalOf 87 = .ok (.invokevirtual 272, 3) := by decide +kernel
theorem dX2_refusalOf_90 : decode cX2_refusalOf 90 = .ok (.areturn, 1) := by decide +kernel
theorem dX2_refusalOf_91 : decode cX2_refusalOf 91 = .ok (.aload_n 0, 1) := by decide +kernel
theorem dX2_refusalOf_92 : decode cX2_refusalOf 92 = .ok (.aload_n 2, 1) := by decide +kernel
theorem dX2_refusalOf_93 : decode cX2_refusalOf 93 = .ok (.iconst 0, 1) := by decide +kernel
theorem dX2_refusalOf_94 : decode cX2_refusalOf 94 = .ok (.iaload, 1) := by decide +kernel
theorem dX2_refusalOf_95 : decode cX2_refusalOf 95 = .ok (.aload_n 2, 1) := by decide +kernel
theorem dX2_refusalOf_96 : decode cX2_refusalOf 96 = .ok (.iconst 1, 1) := by decide +kernel
theorem dX2_refusalOf_97 : decode cX2_refusalOf 97 = .ok (.iaload, 1) := by decide +kernel
theorem dX2_refusalOf_98 : decode cX2_refusalOf 98 = .ok (.invokevirtual 275, 3) := by decide +kernel
theorem dX2_refusalOf_101 : decode cX2_refusalOf 101 = .ok (.areturn, 1) := by decide +kernel
theorem dX2_refusalOf_102 : decode cX2_refusalOf 102 = .ok (.aload_n 0, 1) := by decide +kernel
theorem dX2_refusalOf_103 : decode cX2_refusalOf 103 = .ok (.aload_n 2, 1) := by decide +kernel
theorem dX2_refusalOf_104 : decode cX2_refusalOf 104 = .ok (.iconst 0, 1) := by decide +kernel
theorem dX2_refusalOf_105 : decode cX2_refusalOf 105 = .ok (.iaload, 1) := by decide +kernel
theorem dX2_refusalOf_106 : decode cX2_refusalOf 106 = .ok (.invokevirtual 278, 3) := by decide +kernel
theorem dX2_refusalOf_109 : decode cX2_refusalOf 109 = .ok (.areturn, 1) := by decide +kernel
theorem dX2_refusalOf_110 : decode cX2_refusalOf 110 = .ok (.aload_n 0, 1) := by decide +kernel
theorem dX2_refusalOf_111 : decode cX2_refusalOf 111 = .ok (.aload_n 2, 1) := by decide +kernel
theorem dX2_refusalOf_112 : decode cX2_refusalOf 112 = .ok (.iconst 0, 1) := by decide +kernel
theorem dX2_refusalOf_113 : decode cX2_refusalOf 113 = .ok (.iaload, 1) := by decide +kernel
theorem dX2_refusalOf_114 : decode cX2_refusalOf 114 = .ok (.invokevirtual 281, 3) := by decide +kernel
theorem dX2_refusalOf_117 : decode cX2_refusalOf 117 = .ok (.areturn, 1) := by decide +kernel
theorem dX2_refusalOf_118 : decode cX2_refusalOf 118 = .ok (.aload_n 0, 1) := by decide +kernel
theorem dX2_refusalOf_119 : decode cX2_refusalOf 119 = .ok (.aload_n 2, 1) := by decide +kernel
theorem dX2_refusalOf_120 : decode cX2_refusalOf 120 = .ok (.iconst 0, 1) := by decide +kernel
theorem dX2_refusalOf_121 : decode cX2_refusalOf 121 = .ok (.iaload, 1) := by decide +kernel
theorem dX2_refusalOf_122 : decode cX2_refusalOf 122 = .ok (.aload_n 2, 1) := by decide +kernel
theorem dX2_refusalOf_123 : decode cX2_refusalOf 123 = .ok (.iconst 1, 1) := by decide +kernel
theorem dX2_refusalOf_124 : decode cX2_refusalOf 124 = .ok (.iaload, 1) := by decide +kernel
theorem dX2_refusalOf_125 : decode cX2_refusalOf 125 = .ok (.invokevirtual 284, 3) := by decide +kernel
theorem dX2_refusalOf_128 : decode cX2_refusalOf 128 = .ok (.areturn, 1) := by decide +kernel
theorem dX2_refusalOf_129 : decode cX2_refusalOf 129 = .ok (.aload_n 0, 1) := by decide +kernel
theorem dX2_refusalOf_130 : decode cX2_refusalOf 130 = .ok (.aload_n 2, 1) := by decide +kernel
theorem dX2_refusalOf_131 : decode cX2_refusalOf 131 = .ok (.iconst 0, 1) := by decide +kernel
theorem dX2_refusalOf_132 : decode cX2_refusalOf 132 = .ok (.iaload, 1) := by decide +kernel
theorem dX2_refusalOf_133 : decode cX2_refusalOf 133 = .ok (.aload_n 2, 1) := by decide +kernel
theorem dX2_refusalOf_134 : decode cX2_refusalOf 134 = .ok (.iconst 1, 1) := by decide +kernel
theorem dX2_refusalOf_135 : decode cX2_refusalOf 135 = .ok (.iaload, 1) := by decide +kernel
theorem dX2_refusalOf_136 : decode cX2_refusalOf 136 = .ok (.invokevirtual 287, 3) := by decide +kernel
theorem dX2_refusalOf_139 : decode cX2_refusalOf 139 = .ok (.areturn, 1) := by decide +kernel
theorem dX2_refusalOf_140 : decode cX2_refusalOf 140 = .ok (.aload_n 0, 1) := by decide +kernel
theorem dX2_refusalOf_141 : decode cX2_refusalOf 141 = .ok (.aload_n 2, 1) := by decide +kernel
theorem dX2_refusalOf_142 : decode cX2_refusalOf 142 = .ok (.iconst 0, 1) := by decide +kernel
theorem dX2_refusalOf_143 : decode cX2_refusalOf 143 = .ok (.iaload, 1) := by decide +kernel
theorem dX2_refusalOf_144 : decode cX2_refusalOf 144 = .ok (.invokevirtual 290, 3) := by decide +kernel
theorem dX2_refusalOf_147 : decode cX2_refusalOf 147 = .ok (.areturn, 1) := by decide +kernel
theorem dX2_refusalOf_148 : decode cX2_refusalOf 148 = .ok (.aload_n 0, 1) := by decide +kernel
theorem dX2_refusalOf_149 : decode cX2_refusalOf 149 = .ok (.aload_n 2, 1) := by decide +kernel
theorem dX2_refusalOf_150 : decode cX2_refusalOf 150 = .ok (.iconst 0, 1) := by decide +kernel
theorem dX2_refusalOf_151 : decode cX2_refusalOf 151 = .ok (.iaload, 1) := by decide +kernel
theorem dX2_refusalOf_152 : decode cX2_refusalOf 152 = .ok (.aload_n 2, 1) := by decide +kernel
theorem dX2_refusalOf_153 : decode cX2_refusalOf 153 = .ok (.iconst 1, 1) := by decide +kernel
theorem dX2_refusalOf_154 : decode cX2_refusalOf 154 = .ok (.iaload, 1) := by decide +kernel
theorem dX2_refusalOf_155 : decode cX2_refusalOf 155 = .ok (.invokevirtual 293, 3) := by decide +kernel
theorem dX2_refusalOf_158 : decode cX2_refusalOf 158 = .ok (.areturn, 1) := by decide +kernel
theorem dX2_refusalOf_159 : decode cX2_refusalOf 159 = .ok (.aload_n 0, 1) := by decide +kernel
theorem dX2_refusalOf_160 : decode cX2_refusalOf 160 = .ok (.aload_n 2, 1) := by decide +kernel
theorem dX2_refusalOf_161 : decode cX2_refusalOf 161 = .ok (.iconst 0, 1) := by decide +kernel
theorem dX2_refusalOf_162 : decode cX2_refusalOf 162 = .ok (.iaload, 1) := by decide +kernel
theorem dX2_refusalOf_163 : decode cX2_refusalOf 163 = .ok (.aload_n 2, 1) := by decide +kernel
theorem dX2_refusalOf_164 : decode cX2_refusalOf 164 = .ok (.iconst 1, 1) := by decide +kernel
theorem dX2_refusalOf_165 : decode cX2_refusalOf 165 = .ok (.iaload, 1) := by decide +kernel
theorem dX2_refusalOf_166 : decode cX2_refusalOf 166 = .ok (.aload_n 2, 1) := by decide +kernel
theorem dX2_refusalOf_167 : decode cX2_refusalOf 167 = .ok (.iconst 3, 1) := by decide +kernel
theorem dX2_refusalOf_168 : decode cX2_refusalOf 168 = .ok (.iaload, 1) := by decide +kernel
theorem dX2_refusalOf_169 : decode cX2_refusalOf 169 = .ok (.invokevirtual 296, 3) := by decide +kernel
theorem dX2_refusalOf_172 : decode cX2_refusalOf 172 = .ok (.areturn, 1) := by decide +kernel
theorem dX2_refusalOf_173 : decode cX2_refusalOf 173 = .ok (.aload_n 0, 1) := by decide +kernel
theorem dX2_refusalOf_174 : decode cX2_refusalOf 174 = .ok (.aload_n 2, 1) := by decide +kernel
theorem dX2_refusalOf_175 : decode cX2_refusalOf 175 = .ok (.iconst 0, 1) := by decide +kernel
theorem dX2_refusalOf_176 : decode cX2_refusalOf 176 = .ok (.iaload, 1) := by decide +kernel
theorem dX2_refusalOf_177 : decode cX2_refusalOf 177 = .ok (.invokevirtual 210, 3) := by decide +kernel
theorem dX2_refusalOf_180 : decode cX2_refusalOf 180 = .ok (.areturn, 1) := by decide +kernel
theorem dX2_carryOut_0 : decode cX2_carryOut 0 = .ok (.aload_n 1, 1) := by decide +kernel
theorem dX2_carryOut_1 : decode cX2_carryOut 1 = .ok (.getfield 249, 3) := by decide +kernel
theorem dX2_carryOut_4 : decode cX2_carryOut 4 = .ok (.astore_n 2, 1) := by decide +kernel
theorem dX2_carryOut_5 : decode cX2_carryOut 5 = .ok (.getstatic 254, 3) := by decide +kernel
theorem dX2_carryOut_8 : decode cX2_carryOut 8 = .ok (.aload_n 1, 1) := by decide +kernel
theorem dX2_carryOut_9 : decode cX2_carryOut 9 = .ok (.getfield 259, 3) := by decide +kernel
theorem dX2_carryOut_12 : decode cX2_carryOut 12 = .ok (.invokevirtual 263, 3) := by decide +kernel
theorem dX2_carryOut_15 : decode cX2_carryOut 15 = .ok (.iaload, 1) := by decide +kernel
theorem dX2_carryOut_16 : decode cX2_carryOut 16 = .ok (.tableswitch 198 1 10 #[56, 70, 81, 95, 106, 117, 131, 145, 156, 170], 56) := by decide +kernel
theorem dX2_carryOut_72 : decode cX2_carryOut 72 = .ok (.aload_n 0, 1) := by decide +kernel
theorem dX2_carryOut_73 : decode cX2_carryOut 73 = .ok (.aload_n 2, 1) := by decide +kernel
theorem dX2_carryOut_74 : decode cX2_carryOut 74 = .ok (.iconst 0, 1) := by decide +kernel
theorem dX2_carryOut_75 : decode cX2_carryOut 75 = .ok (.iaload, 1) := by decide +kernel
theorem dX2_carryOut_76 : decode cX2_carryOut 76 = .ok (.aload_n 2, 1) := by decide +kernel
theorem dX2_carryOut_77 : decode cX2_carryOut 77 = .ok (.iconst 1, 1) := by decide +kernel
theorem dX2_carryOut_78 : decode cX2_carryOut 78 = .ok (.iaload, 1) := by decide +kernel
theorem dX2_carryOut_79 : decode cX2_carryOut 79 = .ok (.invokevirtual 300, 3) := by decide +kernel
theorem dX2_carryOut_82 : decode cX2_carryOut 82 = .ok (.pop, 1) := by decide +kernel
theorem dX2_carryOut_83 : decode cX2_carryOut 83 = .ok (.goto 139, 3) := by decide +kernel
theorem dX2_carryOut_86 : decode cX2_carryOut 86 = .ok (.aload_n 0, 1) := by decide +kernel
theorem dX2_carryOut_87 : decode cX2_carryOut 87 = .ok (.aload_n 2, 1) := by decide +kernel
theorem dX2_carryOut_88 : decode cX2_carryOut 88 = .ok (.iconst 0, 1) := by decide +kernel
theorem dX2_carryOut_89 : decode cX2_carryOut 89 = .ok (.iaload, 1) := by decide +kernel
theorem dX2_carryOut_90 : decode cX2_carryOut 90 = .ok (.invokevirtual 304, 3) := by decide +kernel
theorem dX2_carryOut_93 : decode cX2_carryOut 93 = .ok (.pop, 1) := by decide +kernel
theorem dX2_carryOut_94 : decode cX2_carryOut 94 = .ok (.goto 128, 3) := by decide +kernel
theorem dX2_carryOut_97 : decode cX2_carryOut 97 = .ok (.aload_n 0, 1) := by decide +kernel
theorem dX2_carryOut_98 : decode cX2_carryOut 98 = .ok (.aload_n 2, 1) := by decide +kernel
theorem dX2_carryOut_99 : decode cX2_carryOut 99 = .ok (.iconst 0, 1) := by decide +kernel
theorem dX2_carryOut_100 : decode cX2_carryOut 100 = .ok (.iaload, 1) := by decide +kernel
theorem dX2_carryOut_101 : decode cX2_carryOut 101 = .ok (.aload_n 2, 1) := by decide +kernel
theorem dX2_carryOut_102 : decode cX2_carryOut 102 = .ok (.iconst 1, 1) := by decide +kernel
theorem dX2_carryOut_103 : decode cX2_carryOut 103 = .ok (.iaload, 1) := by decide +kernel
theorem dX2_carryOut_104 : decode cX2_carryOut 104 = .ok (.invokevirtual 307, 3) := by decide +kernel
theorem dX2_carryOut_107 : decode cX2_carryOut 107 = .ok (.pop, 1) := by decide +kernel
theorem dX2_carryOut_108 : decode cX2_carryOut 108 = .ok (.goto 114, 3) := by decide +kernel
theorem dX2_carryOut_111 : decode cX2_carryOut 111 = .ok (.aload_n 0, 1) := by decide +kernel
theorem dX2_carryOut_112 : decode cX2_carryOut 112 = .ok (.aload_n 2, 1) := by decide +kernel
theorem dX2_carryOut_113 : decode cX2_carryOut 113 = .ok (.iconst 0, 1) := by decide +kernel
theorem dX2_carryOut_114 : decode cX2_carryOut 114 = .ok (.iaload, 1) := by decide +kernel
theorem dX2_carryOut_115 : decode cX2_carryOut 115 = .ok (.invokevirtual 310, 3) := by decide +kernel
theorem dX2_carryOut_118 : decode cX2_carryOut 118 = .ok (.pop, 1) := by decide +kernel
theorem dX2_carryOut_119 : decode cX2_carryOut 119 = .ok (.goto 103, 3) := by decide +kernel
theorem dX2_carryOut_122 : decode cX2_carryOut 122 = .ok (.aload_n 0, 1) := by decide +kernel
theorem dX2_carryOut_123 : decode cX2_carryOut 123 = .ok (.aload_n 2, 1) := by decide +kernel
theorem dX2_carryOut_124 : decode cX2_carryOut 124 = .ok (.iconst 0, 1) := by decide +kernel
theorem dX2_carryOut_125 : decode cX2_carryOut 125 = .ok (.iaload, 1) := by decide +kernel
theorem dX2_carryOut_126 : decode cX2_carryOut 126 = .ok (.invokevirtual 313, 3) := by decide +kernel
theorem dX2_carryOut_129 : decode cX2_carryOut 129 = .ok (.pop, 1) := by decide +kernel
theorem dX2_carryOut_130 : decode cX2_carryOut 130 = .ok (.goto 92, 3) := by decide +kernel
theorem dX2_carryOut_133 : decode cX2_carryOut 133 = .ok (.aload_n 0, 1) := by decide +kernel
theorem dX2_carryOut_134 : decode cX2_carryOut 134 = .ok (.aload_n 2, 1) := by decide +kernel
theorem dX2_carryOut_135 : decode cX2_carryOut 135 = .ok (.iconst 0, 1) := by decide +kernel
theorem dX2_carryOut_136 : decode cX2_carryOut 136 = .ok (.iaload, 1) := by decide +kernel
theorem dX2_carryOut_137 : decode cX2_carryOut 137 = .ok (.aload_n 2, 1) := by decide +kernel
theorem dX2_carryOut_138 : decode cX2_carryOut 138 = .ok (.iconst 1, 1) := by decide +kernel
theorem dX2_carryOut_139 : decode cX2_carryOut 139 = .ok (.iaload, 1) := by decide +kernel
theorem dX2_carryOut_140 : decode cX2_carryOut 140 = .ok (.invokevirtual 316, 3) := by decide +kernel
theorem dX2_carryOut_143 : decode cX2_carryOut 143 = .ok (.pop, 1) := by decide +kernel
theorem dX2_carryOut_144 : decode cX2_carryOut 144 = .ok (.goto 78, 3) := by decide +kernel
theorem dX2_carryOut_147 : decode cX2_carryOut 147 = .ok (.aload_n 0, 1) := by decide +kernel
theorem dX2_carryOut_148 : decode cX2_carryOut 148 = .ok (.aload_n 2, 1) := by decide +kernel
theorem dX2_carryOut_149 : decode cX2_carryOut 149 = .ok (.iconst 0, 1) := by decide +kernel
theorem dX2_carryOut_150 : decode cX2_carryOut 150 = .ok (.iaload, 1) := by decide +kernel
theorem dX2_carryOut_151 : decode cX2_carryOut 151 = .ok (.aload_n 2, 1) := by decide +kernel
theorem dX2_carryOut_152 : decode cX2_carryOut 152 = .ok (.iconst 1, 1) := by decide +kernel
theorem dX2_carryOut_153 : decode cX2_carryOut 153 = .ok (.iaload, 1) := by decide +kernel
theorem dX2_carryOut_154 : decode cX2_carryOut 154 = .ok (.invokevirtual 319, 3) := by decide +kernel
theorem dX2_carryOut_157 : decode cX2_carryOut 157 = .ok (.pop, 1) := by decide +kernel
theorem dX2_carryOut_158 : decode cX2_carryOut 158 = .ok (.goto 64, 3) := by decide +kernel
theorem dX2_carryOut_161 : decode cX2_carryOut 161 = .ok (.aload_n 0, 1) := by decide +kernel
theorem dX2_carryOut_162 : decode cX2_carryOut 162 = .ok (.aload_n 2, 1) := by decide +kernel
theorem dX2_carryOut_163 : decode cX2_carryOut 163 = .ok (.iconst 0, 1) := by decide +kernel
theorem dX2_carryOut_164 : decode cX2_carryOut 164 = .ok (.iaload, 1) := by decide +kernel
theorem dX2_carryOut_165 : decode cX2_carryOut 165 = .ok (.invokevirtual 322, 3) := by decide +kernel
theorem dX2_carryOut_168 : decode cX2_carryOut 168 = .ok (.pop, 1) := by decide +kernel
theorem dX2_carryOut_169 : decode cX2_carryOut 169 = .ok (.goto 53, 3) := by decide +kernel
theorem dX2_carryOut_172 : decode cX2_carryOut 172 = .ok (.aload_n 0, 1) := by decide +kernel
theorem dX2_carryOut_173 : decode cX2_carryOut 173 = .ok (.aload_n 2, 1) := by decide +kernel
theorem dX2_carryOut_174 : decode cX2_carryOut 174 = .ok (.iconst 0, 1) := by decide +kernel
theorem dX2_carryOut_175 : decode cX2_carryOut 175 = .ok (.iaload, 1) := by decide +kernel
theorem dX2_carryOut_176 : decode cX2_carryOut 176 = .ok (.aload_n 2, 1) := by decide +kernel
theorem dX2_carryOut_177 : decode cX2_carryOut 177 = .ok (.iconst 1, 1) := by decide +kernel
theorem dX2_carryOut_178 : decode cX2_carryOut 178 = .ok (.iaload, 1) := by decide +kernel
theorem dX2_carryOut_179 : decode cX2_carryOut 179 = .ok (.invokevirtual 325, 3) := by decide +kernel
theorem dX2_carryOut_182 : decode cX2_carryOut 182 = .ok (.pop, 1) := by decide +kernel
theorem dX2_carryOut_183 : decode cX2_carryOut 183 = .ok (.goto 39, 3) := by decide +kernel
theorem dX2_carryOut_186 : decode cX2_carryOut 186 = .ok (.aload_n 0, 1) := by decide +kernel
theorem dX2_carryOut_187 : decode cX2_carryOut 187 = .ok (.aload_n 2, 1) := by decide +kernel
theorem dX2_carryOut_188 : decode cX2_carryOut 188 = .ok (.iconst 0, 1) := by decide +kernel
theorem dX2_carryOut_189 : decode cX2_carryOut 189 = .ok (.iaload, 1) := by decide +kernel
theorem dX2_carryOut_190 : decode cX2_carryOut 190 = .ok (.aload_n 2, 1) := by decide +kernel
theorem dX2_carryOut_191 : decode cX2_carryOut 191 = .ok (.iconst 1, 1) := by decide +kernel
theorem dX2_carryOut_192 : decode cX2_carryOut 192 = .ok (.iaload, 1) := by decide +kernel
theorem dX2_carryOut_193 : decode cX2_carryOut 193 = .ok (.aload_n 2, 1) := by decide +kernel
theorem dX2_carryOut_194 : decode cX2_carryOut 194 = .ok (.iconst 3, 1) := by decide +kernel
theorem dX2_carryOut_195 : decode cX2_carryOut 195 = .ok (.iaload, 1) := by decide +kernel
theorem dX2_carryOut_196 : decode cX2_carryOut 196 = .ok (.aload_n 2, 1) := by decide +kernel
theorem dX2_carryOut_197 : decode cX2_carryOut 197 = .ok (.iconst 2, 1) := by decide +kernel
theorem dX2_carryOut_198 : decode cX2_carryOut 198 = .ok (.iaload, 1) := by decide +kernel
theorem dX2_carryOut_199 : decode cX2_carryOut 199 = .ok (.ifCond .eq 7, 3) := by decide +kernel
theorem dX2_carryOut_202 : decode cX2_carryOut 202 = .ok (.iconst 1, 1) := by decide +kernel
theorem dX2_carryOut_203 : decode cX2_carryOut 203 = .ok (.goto 4, 3) := by decide +kernel
theorem dX2_carryOut_206 : decode cX2_carryOut 206 = .ok (.iconst 0, 1) := by decide +kernel
theorem dX2_carryOut_207 : decode cX2_carryOut 207 = .ok (.invokevirtual 328, 3) := by decide +kernel
theorem dX2_carryOut_210 : decode cX2_carryOut 210 = .ok (.pop, 1) := by decide +kernel
theorem dX2_carryOut_211 : decode cX2_carryOut 211 = .ok (.goto 11, 3) := by decide +kernel
theorem dX2_carryOut_214 : decode cX2_carryOut 214 = .ok (.aload_n 0, 1) := by decide +kernel
theorem dX2_carryOut_215 : decode cX2_carryOut 215 = .ok (.aload_n 2, 1) := by decide +kernel
theorem dX2_carryOut_216 : decode cX2_carryOut 216 = .ok (.iconst 0, 1) := by decide +kernel
theorem dX2_carryOut_217 : decode cX2_carryOut 217 = .ok (.iaload, 1) := by decide +kernel
theorem dX2_carryOut_218 : decode cX2_carryOut 218 = .ok (.invokevirtual 332, 3) := by decide +kernel
theorem dX2_carryOut_221 : decode cX2_carryOut 221 = .ok (.pop, 1) := by decide +kernel
theorem dX2_carryOut_222 : decode cX2_carryOut 222 = .ok (.return_, 1) := by decide +kernel
theorem dX3_init_0 : decode cX3_init 0 = .ok (.aload_n 0, 1) := by decide +kernel
theorem dX3_init_1 : decode cX3_init 1 = .ok (.invokespecial 1, 3) := by decide +kernel
theorem dX3_init_4 : decode cX3_init 4 = .ok (.aload_n 0, 1) := by decide +kernel
theorem dX3_init_5 : decode cX3_init 5 = .ok (.getstatic 7, 3) := by decide +kernel
theorem dX3_init_8 : decode cX3_init 8 = .ok (.putfield 13, 3) := by decide +kernel
theorem dX3_init_11 : decode cX3_init 11 = .ok (.aload_n 0, 1) := by decide +kernel
theorem dX3_init_12 : decode cX3_init 12 = .ok (.iconst 4, 1) := by decide +kernel
theorem dX3_init_13 : decode cX3_init 13 = .ok (.newarray .int, 2) := by decide +kernel
theorem dX3_init_15 : decode cX3_init 15 = .ok (.putfield 18, 3) := by decide +kernel
theorem dX3_init_18 : decode cX3_init 18 = .ok (.return_, 1) := by decide +kernel
theorem dX3_addNumber_0 : decode cX3_addNumber 0 = .ok (.aload_n 0, 1) := by decide +kernel
theorem dX3_addNumber_1 : decode cX3_addNumber 1 = .ok (.getfield 22, 3) := by decide +kernel
theorem dX3_addNumber_4 : decode cX3_addNumber 4 = .ok (.iconst 4, 1) := by decide +kernel
theorem dX3_addNumber_5 : decode cX3_addNumber 5 = .ok (.if_icmp .ge 23, 3) := by decide +kernel
theorem dX3_addNumber_8 : decode cX3_addNumber 8 = .ok (.aload_n 0, 1) := by decide +kernel
theorem dX3_addNumber_9 : decode cX3_addNumber 9 = .ok (.getfield 18, 3) := by decide +kernel
theorem dX3_addNumber_12 : decode cX3_addNumber 12 = .ok (.aload_n 0, 1) := by decide +kernel
theorem dX3_addNumber_13 : decode cX3_addNumber 13 = .ok (.getfield 22, 3) := by decide +kernel
theorem dX3_addNumber_16 : decode cX3_addNumber 16 = .ok (.iload_n 1, 1) := by decide +kernel
theorem dX3_addNumber_17 : decode cX3_addNumber 17 = .ok (.iastore, 1) := by decide +kernel
theorem dX3_addNumber_18 : decode cX3_addNumber 18 = .ok (.aload_n 0, 1) := by decide +kernel
theorem dX3_addNumber_19 : decode cX3_addNumber 19 = .ok (.dup, 1) := by decide +kernel
theorem dX3_addNumber_20 : decode cX3_addNumber 20 = .ok (.getfield 22, 3) := by decide +kernel
theorem dX3_addNumber_23 : decode cX3_addNumber 23 = .ok (.iconst 1, 1) := by decide +kernel
theorem dX3_addNumber_24 : decode cX3_addNumber 24 = .ok (.iadd, 1) := by decide +kernel
theorem dX3_addNumber_25 : decode cX3_addNumber 25 = .ok (.putfield 22, 3) := by decide +kernel
theorem dX3_addNumber_28 : decode cX3_addNumber 28 = .ok (.return_, 1) := by decide +kernel
theorem dX4_init_0 : decode cX4_init 0 = .ok (.aload_n 0, 1) := by decide +kernel
theorem dX4_init_1 : decode cX4_init 1 = .ok (.invokespecial 3, 3) := by decide +kernel
theorem dX4_init_4 : decode cX4_init 4 = .ok (.aload_n 0, 1) := by decide +kernel
theorem dX4_init_5 : decode cX4_init 5 = .ok (.bipush 11, 2) := by decide +kernel
theorem dX4_init_7 : decode cX4_init 7 = .ok (.anewarray 11, 3) := by decide +kernel
theorem dX4_init_10 : decode cX4_init 10 = .ok (.putfield 13, 3) := by decide +kernel
theorem dX4_init_13 : decode cX4_init 13 = .ok (.iconst 0, 1) := by decide +kernel
theorem dX4_init_14 : decode cX4_init 14 = .ok (.istore_n 1, 1) := by decide +kernel
theorem dX4_init_15 : decode cX4_init 15 = .ok (.iload_n 1, 1) := by decide +kernel
theorem dX4_init_16 : decode cX4_init 16 = .ok (.bipush 11, 2) := by decide +kernel
theorem dX4_init_18 : decode cX4_init 18 = .ok (.if_icmp .ge 22, 3) := by decide +kernel
theorem dX4_init_21 : decode cX4_init 21 = .ok (.aload_n 0, 1) := by decide +kernel
theorem dX4_init_22 : decode cX4_init 22 = .ok (.getfield 13, 3) := by decide +kernel
theorem dX4_init_25 : decode cX4_init 25 = .ok (.iload_n 1, 1) := by decide +kernel
theorem dX4_init_26 : decode cX4_init 26 = .ok (.new 11, 3) := by decide +kernel
theorem dX4_init_29 : decode cX4_init 29 = .ok (.dup, 1) := by decide +kernel
theorem dX4_init_30 : decode cX4_init 30 = .ok (.invokespecial 17, 3) := by decide +kernel
theorem dX4_init_33 : decode cX4_init 33 = .ok (.aastore, 1) := by decide +kernel
theorem dX4_init_34 : decode cX4_init 34 = .ok (.iinc 1 1, 3) := by decide +kernel
theorem dX4_init_37 : decode cX4_init 37 = .ok (.goto (-22), 3) := by decide +kernel
theorem dX4_init_40 : decode cX4_init 40 = .ok (.return_, 1) := by decide +kernel
theorem dX4_read_0 : decode cX4_read 0 = .ok (.aload_n 0, 1) := by decide +kernel
theorem dX4_read_1 : decode cX4_read 1 = .ok (.iconst 0, 1) := by decide +kernel
theorem dX4_read_2 : decode cX4_read 2 = .ok (.putfield 18, 3) := by decide +kernel
theorem dX4_read_5 : decode cX4_read 5 = .ok (.aload_n 0, 1) := by decide +kernel
theorem dX4_read_6 : decode cX4_read 6 = .ok (.iconst 0, 1) := by decide +kernel
theorem dX4_read_7 : decode cX4_read 7 = .ok (.putfield 22, 3) := by decide +kernel
theorem dX4_read_10 : decode cX4_read 10 = .ok (.aload_n 0, 1) := by decide +kernel
theorem dX4_read_11 : decode cX4_read 11 = .ok (.getfield 18, 3) := by decide +kernel
theorem dX4_read_14 : decode cX4_read 14 = .ok (.bipush 11, 2) := by decide +kernel
theorem dX4_read_16 : decode cX4_read 16 = .ok (.if_icmp .ge 70, 3) := by decide +kernel
theorem dX4_read_19 : decode cX4_read 19 = .ok (.aload_n 0, 1) := by decide +kernel
theorem dX4_read_20 : decode cX4_read 20 = .ok (.aload_n 1, 1) := by decide +kernel
theorem dX4_read_21 : decode cX4_read 21 = .ok (.aload_n 0, 1) := by decide +kernel
theorem dX4_read_22 : decode cX4_read 22 = .ok (.getfield 13, 3) := by decide +kernel
theorem dX4_read_25 : decode cX4_read 25 = .ok (.aload_n 0, 1) := by decide +kernel
theorem dX4_read_26 : decode cX4_read 26 = .ok (.getfield 18, 3) := by decide +kernel
theorem dX4_read_29 : decode cX4_read 29 = .ok (.aaload, 1) := by decide +kernel
theorem dX4_read_30 : decode cX4_read 30 = .ok (.invokevirtual 25, 3) := by decide +kernel
theorem dX4_read_33 : decode cX4_read 33 = .ok (.ifCond .ne 5, 3) := by decide +kernel
theorem dX4_read_36 : decode cX4_read 36 = .ok (.iconst 0, 1) := by decide +kernel
theorem dX4_read_37 : decode cX4_read 37 = .ok (.ireturn, 1) := by decide +kernel
theorem dX4_read_38 : decode cX4_read 38 = .ok (.aload_n 0, 1) := by decide +kernel
theorem dX4_read_39 : decode cX4_read 39 = .ok (.dup, 1) := by decide +kernel
theorem dX4_read_40 : decode cX4_read 40 = .ok (.getfield 18, 3) := by decide +kernel
theorem dX4_read_43 : decode cX4_read 43 = .ok (.iconst 1, 1) := by decide +kernel
theorem dX4_read_44 : decode cX4_read 44 = .ok (.iadd, 1) := by decide +kernel
theorem dX4_read_45 : decode cX4_read 45 = .ok (.putfield 18, 3) := by decide +kernel
theorem dX4_read_48 : decode cX4_read 48 = .ok (.aload_n 0, 1) := by decide +kernel
theorem dX4_read_49 : decode cX4_read 49 = .ok (.getfield 22, 3) := by decide +kernel
theorem dX4_read_52 : decode cX4_read 52 = .ok (.aload_n 1, 1) := by decide +kernel
theorem dX4_read_53 : decode cX4_read 53 = .ok (.invokevirtual 29, 3) := by decide +kernel
theorem dX4_read_56 : decode cX4_read 56 = .ok (.if_icmp .ne 5, 3) := by decide +kernel
theorem dX4_read_59 : decode cX4_read 59 = .ok (.iconst 1, 1) := by decide +kernel
theorem dX4_read_60 : decode cX4_read 60 = .ok (.ireturn, 1) := by decide +kernel
theorem dX4_read_61 : decode cX4_read 61 = .ok (.aload_n 0, 1) := by decide +kernel
theorem dX4_read_62 : decode cX4_read 62 = .ok (.aload_n 1, 1) := by decide +kernel
theorem dX4_read_63 : decode cX4_read 63 = .ok (.invokevirtual 35, 3) := by decide +kernel
theorem dX4_read_66 : decode cX4_read 66 = .ok (.bipush 59, 2) := by decide +kernel
theorem dX4_read_68 : decode cX4_read 68 = .ok (.if_icmp .eq 5, 3) := by decide +kernel
theorem dX4_read_71 : decode cX4_read 71 = .ok (.iconst 0, 1) := by decide +kernel
theorem dX4_read_72 : decode cX4_read 72 = .ok (.ireturn, 1) := by decide +kernel
theorem dX4_read_73 : decode cX4_read 73 = .ok (.aload_n 0, 1) := by decide +kernel
theorem dX4_read_74 : decode cX4_read 74 = .ok (.dup, 1) := by decide +kernel
theorem dX4_read_75 : decode cX4_read 75 = .ok (.getfield 22, 3) := by decide +kernel
theorem dX4_read_78 : decode cX4_read 78 = .ok (.iconst 1, 1) := by decide +kernel
theorem dX4_read_79 : decode cX4_read 79 = .ok (.iadd, 1) := by decide +kernel
theorem dX4_read_80 : decode cX4_read 80 = .ok (.putfield 22, 3) := by decide +kernel
theorem dX4_read_83 : decode cX4_read 83 = .ok (.goto (-73), 3) := by decide +kernel
theorem dX4_read_86 : decode cX4_read 86 = .ok (.iconst 0, 1) := by decide +kernel
theorem dX4_read_87 : decode cX4_read 87 = .ok (.ireturn, 1) := by decide +kernel
theorem dX4_readCommand_0 : decode cX4_readCommand 0 = .ok (.aload_n 0, 1) := by decide +kernel
theorem dX4_readCommand_1 : decode cX4_readCommand 1 = .ok (.getfield 22, 3) := by decide +kernel
theorem dX4_readCommand_4 : decode cX4_readCommand 4 = .ok (.istore_n 3, 1) := by decide +kernel
theorem dX4_readCommand_5 : decode cX4_readCommand 5 = .ok (.iload_n 3, 1) := by decide +kernel
theorem dX4_readCommand_6 : decode cX4_readCommand 6 = .ok (.istore 4, 2) := by decide +kernel
theorem dX4_readCommand_8 : decode cX4_readCommand 8 = .ok (.iconst 0, 1) := by decide +kernel
theorem dX4_readCommand_9 : decode cX4_readCommand 9 = .ok (.istore 5, 2) := by decide +kernel
theorem dX4_readCommand_11 : decode cX4_readCommand 11 = .ok (.iload 5, 2) := by decide +kernel
theorem dX4_readCommand_13 : decode cX4_readCommand 13 = .ok (.getstatic 39, 3) := by decide +kernel
theorem dX4_readCommand_16 : decode cX4_readCommand 16 = .ok (.arraylength, 1) := by decide +kernel
theorem dX4_readCommand_17 : decode cX4_readCommand 17 = .ok (.if_icmp .ge 51, 3) := by decide +kernel
theorem dX4_readCommand_20 : decode cX4_readCommand 20 = .ok (.aload_n 0, 1) := by decide +kernel
theorem dX4_readCommand_21 : decode cX4_readCommand 21 = .ok (.iload_n 3, 1) := by decide +kernel
theorem dX4_readCommand_22 : decode cX4_readCommand 22 = .ok (.putfield 22, 3) := by decide +kernel
theorem dX4_readCommand_25 : decode cX4_readCommand 25 = .ok (.aload_n 2, 1) := by decide +kernel
theorem dX4_readCommand_26 : decode cX4_readCommand 26 = .ok (.getstatic 39, 3) := by decide +kernel
theorem dX4_readCommand_29 : decode cX4_readCommand 29 = .ok (.iload 5, 2) := by decide +kernel
theorem dX4_readCommand_31 : decode cX4_readCommand 31 = .ok (.aaload, 1) := by decide +kernel
theorem dX4_readCommand_32 : decode cX4_readCommand 32 = .ok (.putfield 43, 3) := by decide +kernel
theorem dX4_readCommand_35 : decode cX4_readCommand 35 = .ok (.aload_n 2, 1) := by decide +kernel
theorem dX4_readCommand_36 : decode cX4_readCommand 36 = .ok (.iconst 0, 1) := by decide +kernel
theorem dX4_readCommand_37 : decode cX4_readCommand 37 = .ok (.putfield 47, 3) := by decide +kernel
theorem dX4_readCommand_40 : decode cX4_readCommand 40 = .ok (.aload_n 0, 1) := by decide +kernel
theorem dX4_readCommand_41 : decode cX4_readCommand 41 = .ok (.aload_n 1, 1) := by decide +kernel
theorem dX4_readCommand_42 : decode cX4_readCommand 42 = .ok (.aload_n 2, 1) := by decide +kernel
theorem dX4_readCommand_43 : decode cX4_readCommand 43 = .ok (.invokevirtual 48, 3) := by decide +kernel
theorem dX4_readCommand_46 : decode cX4_readCommand 46 = .ok (.ifCond .eq 5, 3) := by decide +kernel
theorem dX4_readCommand_49 : decode cX4_readCommand 49 = .ok (.iconst 1, 1) := by decide +kernel
theorem dX4_readCommand_50 : decode cX4_readCommand 50 = .ok (.ireturn, 1) := by decide +kernel
theorem dX4_readCommand_51 : decode cX4_readCommand 51 = .ok (.iload 4, 2) := by decide +kernel
theorem dX4_readCommand_53 : decode cX4_readCommand 53 = .ok (.aload_n 0, 1) := by decide +kernel
theorem dX4_readCommand_54 : decode cX4_readCommand 54 = .ok (.getfield 22, 3) := by decide +kernel
theorem dX4_readCommand_57 : decode cX4_readCommand 57 = .ok (.invokestatic 51, 3) := by decide +kernel
theorem dX4_readCommand_60 : decode cX4_readCommand 60 = .ok (.istore 4, 2) := by decide +kernel
theorem dX4_readCommand_62 : decode cX4_readCommand 62 = .ok (.iinc 5 1, 3) := by decide +kernel
theorem dX4_readCommand_65 : decode cX4_readCommand 65 = .ok (.goto (-54), 3) := by decide +kernel
theorem dX4_readCommand_68 : decode cX4_readCommand 68 = .ok (.aload_n 0, 1) := by decide +kernel
theorem dX4_readCommand_69 : decode cX4_readCommand 69 = .ok (.iload 4, 2) := by decide +kernel
theorem dX4_readCommand_71 : decode cX4_readCommand 71 = .ok (.putfield 22, 3) := by decide +kernel
theorem dX4_readCommand_74 : decode cX4_readCommand 74 = .ok (.iconst 0, 1) := by decide +kernel
theorem dX4_readCommand_75 : decode cX4_readCommand 75 = .ok (.ireturn, 1) := by decide +kernel
theorem dX4_readForm_0 : decode cX4_readForm 0 = .ok (.aload_n 2, 1) := by decide +kernel
theorem dX4_readForm_1 : decode cX4_readForm 1 = .ok (.getfield 43, 3) := by decide +kernel
theorem dX4_readForm_4 : decode cX4_readForm 4 = .ok (.getfield 57, 3) := by decide +kernel
theorem dX4_readForm_7 : decode cX4_readForm 7 = .ok (.astore_n 3, 1) := by decide +kernel
theorem dX4_readForm_8 : decode cX4_readForm 8 = .ok (.iconst 1, 1) := by decide +kernel
theorem dX4_readForm_9 : decode cX4_readForm 9 = .ok (.istore 4, 2) := by decide +kernel
theorem dX4_readForm_11 : decode cX4_readForm 11 = .ok (.iconst 0, 1) := by decide +kernel
theorem dX4_readForm_12 : decode cX4_readForm 12 = .ok (.istore 5, 2) := by decide +kernel
theorem dX4_readForm_14 : decode cX4_readForm 14 = .ok (.iload 4, 2) := by decide +kernel
theorem dX4_readForm_16 : decode cX4_readForm 16 = .ok (.ifCond .eq 91, 3) := by decide +kernel
theorem dX4_readForm_19 : decode cX4_readForm 19 = .ok (.iload 5, 2) := by decide +kernel
theorem dX4_readForm_21 : decode cX4_readForm 21 = .ok (.aload_n 3, 1) := by decide +kernel
theorem dX4_readForm_22 : decode cX4_readForm 22 = .ok (.invokevirtual 63, 3) := by decide +kernel
theorem dX4_readForm_25 : decode cX4_readForm 25 = .ok (.if_icmp .ge 82, 3) := by decide +kernel
theorem dX4_readForm_28 : decode cX4_readForm 28 = .ok (.aload_n 3, 1) := by decide +kernel
theorem dX4_readForm_29 : decode cX4_readForm 29 = .ok (.iload 5, 2) := by decide +kernel
theorem dX4_readForm_31 : decode cX4_readForm 31 = .ok (.invokevirtual 66, 3) := by decide +kernel
theorem dX4_readForm_34 : decode cX4_readForm 34 = .ok (.istore 6, 2) := by decide +kernel
theorem dX4_readForm_36 : decode cX4_readForm 36 = .ok (.iload 6, 2) := by decide +kernel
theorem dX4_readForm_38 : decode cX4_readForm 38 = .ok (.bipush 68, 2) := by decide +kernel
theorem dX4_readForm_40 : decode cX4_readForm 40 = .ok (.if_icmp .ne 15, 3) := by decide +kernel
theorem dX4_readForm_43 : decode cX4_readForm 43 = .ok (.aload_n 0, 1) := by decide +kernel
theorem dX4_readForm_44 : decode cX4_readForm 44 = .ok (.aload_n 1, 1) := by decide +kernel
theorem dX4_readForm_45 : decode cX4_readForm 45 = .ok (.iconst 1, 1) := by decide +kernel
theorem dX4_readForm_46 : decode cX4_readForm 46 = .ok (.aload_n 2, 1) := by decide +kernel
theorem dX4_readForm_47 : decode cX4_readForm 47 = .ok (.invokevirtual 70, 3) := by decide +kernel
theorem dX4_readForm_50 : decode cX4_readForm 50 = .ok (.istore 4, 2) := by decide +kernel
theorem dX4_readForm_52 : decode cX4_readForm 52 = .ok (.goto 49, 3) := by decide +kernel
theorem dX4_readForm_55 : decode cX4_readForm 55 = .ok (.iload 6, 2) := by decide +kernel
theorem dX4_readForm_57 : decode cX4_readForm 57 = .ok (.bipush 78, 2) := by decide +kernel
theorem dX4_readForm_59 : decode cX4_readForm 59 = .ok (.if_icmp .ne 15, 3) := by decide +kernel
theorem dX4_readForm_62 : decode cX4_readForm 62 = .ok (.aload_n 0, 1) := by decide +kernel
theorem dX4_readForm_63 : decode cX4_readForm 63 = .ok (.aload_n 1, 1) := by decide +kernel
theorem dX4_readForm_64 : decode cX4_readForm 64 = .ok (.iconst 2, 1) := by decide +kernel
theorem dX4_readForm_65 : decode cX4_readForm 65 = .ok (.aload_n 2, 1) := by decide +kernel
theorem dX4_readForm_66 : decode cX4_readForm 66 = .ok (.invokevirtual 70, 3) := by decide +kernel
theorem dX4_readForm_69 : decode cX4_readForm 69 = .ok (.istore 4, 2) := by decide +kernel
theorem dX4_readForm_71 : decode cX4_readForm 71 = .ok (.goto 30, 3) := by decide +kernel
theorem dX4_readForm_74 : decode cX4_readForm 74 = .ok (.iload 6, 2) := by decide +kernel
theorem dX4_readForm_76 : decode cX4_readForm 76 = .ok (.bipush 83, 2) := by decide +kernel
theorem dX4_readForm_78 : decode cX4_readForm 78 = .ok (.if_icmp .ne 14, 3) := by decide +kernel
theorem dX4_readForm_81 : decode cX4_readForm 81 = .ok (.aload_n 0, 1) := by decide +kernel
theorem dX4_readForm_82 : decode cX4_readForm 82 = .ok (.aload_n 1, 1) := by decide +kernel
theorem dX4_readForm_83 : decode cX4_readForm 83 = .ok (.aload_n 2, 1) := by decide +kernel
theorem dX4_readForm_84 : decode cX4_readForm 84 = .ok (.invokevirtual 74, 3) := by decide +kernel
theorem dX4_readForm_87 : decode cX4_readForm 87 = .ok (.istore 4, 2) := by decide +kernel
theorem dX4_readForm_89 : decode cX4_readForm 89 = .ok (.goto 12, 3) := by decide +kernel
theorem dX4_readForm_92 : decode cX4_readForm 92 = .ok (.aload_n 0, 1) := by decide +kernel
theorem dX4_readForm_93 : decode cX4_readForm 93 = .ok (.aload_n 1, 1) := by decide +kernel
theorem dX4_readForm_94 : decode cX4_readForm 94 = .ok (.iload 6, 2) := by decide +kernel
theorem dX4_readForm_96 : decode cX4_readForm 96 = .ok (.invokevirtual 77, 3) := by decide +kernel
theorem dX4_readForm_99 : decode cX4_readForm 99 = .ok (.istore 4, 2) := by decide +kernel
theorem dX4_readForm_101 : decode cX4_readForm 101 = .ok (.iinc 5 1, 3) := by decide +kernel
theorem dX4_readForm_104 : decode cX4_readForm 104 = .ok (.goto (-90), 3) := by decide +kernel
theorem dX4_readForm_107 : decode cX4_readForm 107 = .ok (.iload 4, 2) := by decide +kernel
theorem dX4_readForm_109 : decode cX4_readForm 109 = .ok (.ireturn, 1) := by decide +kernel
theorem dX4_readNumber_0 : decode cX4_readNumber 0 = .ok (.iconst 0, 1) := by decide +kernel
theorem dX4_readNumber_1 : decode cX4_readNumber 1 = .ok (.istore 4, 2) := by decide +kernel
theorem dX4_readNumber_3 : decode cX4_readNumber 3 = .ok (.iconst 0, 1) := by decide +kernel
theorem dX4_readNumber_4 : decode cX4_readNumber 4 = .ok (.istore 5, 2) := by decide +kernel
theorem dX4_readNumber_6 : decode cX4_readNumber 6 = .ok (.iload 4, 2) := by decide +kernel
theorem dX4_readNumber_8 : decode cX4_readNumber 8 = .ok (.iload_n 2, 1) := by decide +kernel
theorem dX4_readNumber_9 : decode cX4_readNumber 9 = .ok (.if_icmp .ge 46, 3) := by decide +kernel
theorem dX4_readNumber_12 : decode cX4_readNumber 12 = .ok (.aload_n 0, 1) := by decide +kernel
theorem dX4_readNumber_13 : decode cX4_readNumber 13 = .ok (.aload_n 1, 1) := by decide +kernel
theorem dX4_readNumber_14 : decode cX4_readNumber 14 = .ok (.invokevirtual 35, 3) := by decide +kernel
theorem dX4_readNumber_17 : decode cX4_readNumber 17 = .ok (.invokestatic 81, 3) := by decide +kernel
theorem dX4_readNumber_20 : decode cX4_readNumber 20 = .ok (.ifCond .eq 35, 3) := by decide +kernel
theorem dX4_readNumber_23 : decode cX4_readNumber 23 = .ok (.bipush 10, 2) := by decide +kernel
theorem dX4_readNumber_25 : decode cX4_readNumber 25 = .ok (.iload 5, 2) := by decide +kernel
theorem dX4_readNumber_27 : decode cX4_readNumber 27 = .ok (.imul, 1) := by decide +kernel
theorem dX4_readNumber_28 : decode cX4_readNumber 28 = .ok (.aload_n 0, 1) := by decide +kernel
theorem dX4_readNumber_29 : decode cX4_readNumber 29 = .ok (.aload_n 1, 1) := by decide +kernel
theorem dX4_readNumber_30 : decode cX4_readNumber 30 = .ok (.invokevirtual 35, 3) := by decide +kernel
theorem dX4_readNumber_33 : decode cX4_readNumber 33 = .ok (.bipush 48, 2) := by decide +kernel
theorem dX4_readNumber_35 : decode cX4_readNumber 35 = .ok (.isub, 1) := by decide +kernel
theorem dX4_readNumber_36 : decode cX4_readNumber 36 = .ok (.iadd, 1) := by decide +kernel
theorem dX4_readNumber_37 : decode cX4_readNumber 37 = .ok (.istore 5, 2) := by decide +kernel
theorem dX4_readNumber_39 : decode cX4_readNumber 39 = .ok (.aload_n 0, 1) := by decide +kernel
theorem dX4_readNumber_40 : decode cX4_readNumber 40 = .ok (.dup, 1) := by decide +kernel
theorem dX4_readNumber_41 : decode cX4_readNumber 41 = .ok (.getfield 22, 3) := by decide +kernel
theorem dX4_readNumber_44 : decode cX4_readNumber 44 = .ok (.iconst 1, 1) := by decide +kernel
theorem dX4_readNumber_45 : decode cX4_readNumber 45 = .ok (.iadd, 1) := by decide +kernel
theorem dX4_readNumber_46 : decode cX4_readNumber 46 = .ok (.putfield 22, 3) := by decide +kernel
theorem dX4_readNumber_49 : decode cX4_readNumber 49 = .ok (.iinc 4 1, 3) := by decide +kernel
theorem dX4_readNumber_52 : decode cX4_readNumber 52 = .ok (.goto (-46), 3) := by decide +kernel
theorem dX4_readNumber_55 : decode cX4_readNumber 55 = .ok (.aload_n 3, 1) := by decide +kernel
theorem dX4_readNumber_56 : decode cX4_readNumber 56 = .ok (.iload 5, 2) := by decide +kernel
theorem dX4_readNumber_58 : decode cX4_readNumber 58 = .ok (.invokevirtual 85, 3) := by decide +kernel
theorem dX4_readNumber_61 : decode cX4_readNumber 61 = .ok (.iload 4, 2) := by decide +kernel
theorem dX4_readNumber_63 : decode cX4_readNumber 63 = .ok (.ifCond .le 7, 3) := by decide +kernel
theorem dX4_readNumber_66 : decode cX4_readNumber 66 = .ok (.iconst 1, 1) := by decide +kernel
theorem dX4_readNumber_67 : decode cX4_readNumber 67 = .ok (.goto 4, 3) := by decide +kernel
theorem dX4_readNumber_70 : decode cX4_readNumber 70 = .ok (.iconst 0, 1) := by decide +kernel
theorem dX4_readNumber_71 : decode cX4_readNumber 71 = .ok (.ireturn, 1) := by decide +kernel
theorem dX4_readSign_0 : decode cX4_readSign 0 = .ok (.aload_n 0, 1) := by decide +kernel
theorem dX4_readSign_1 : decode cX4_readSign 1 = .ok (.aload_n 1, 1) := by decide +kernel
theorem dX4_readSign_2 : decode cX4_readSign 2 = .ok (.invokevirtual 35, 3) := by decide +kernel
theorem dX4_readSign_5 : decode cX4_readSign 5 = .ok (.bipush 43, 2) := by decide +kernel
theorem dX4_readSign_7 : decode cX4_readSign 7 = .ok (.if_icmp .ne 7, 3) := by decide +kernel
theorem dX4_readSign_10 : decode cX4_readSign 10 = .ok (.iconst 1, 1) := by decide +kernel
theorem dX4_readSign_11 : decode cX4_readSign 11 = .ok (.goto 4, 3) := by decide +kernel
theorem dX4_readSign_14 : decode cX4_readSign 14 = .ok (.iconst 0, 1) := by decide +kernel
theorem dX4_readSign_15 : decode cX4_readSign 15 = .ok (.istore_n 3, 1) := by decide +kernel
theorem dX4_readSign_16 : decode cX4_readSign 16 = .ok (.aload_n 2, 1) := by decide +kernel
theorem dX4_readSign_17 : decode cX4_readSign 17 = .ok (.iload_n 3, 1) := by decide +kernel
theorem dX4_readSign_18 : decode cX4_readSign 18 = .ok (.ifCond .eq 7, 3) := by decide +kernel
theorem dX4_readSign_21 : decode cX4_readSign 21 = .ok (.iconst 1, 1) := by decide +kernel
theorem dX4_readSign_22 : decode cX4_readSign 22 = .ok (.goto 4, 3) := by decide +kernel
theorem dX4_readSign_25 : decode cX4_readSign 25 = .ok (.iconst 0, 1) := by decide +kernel
theorem dX4_readSign_26 : decode cX4_readSign 26 = .ok (.invokevirtual 85, 3) := by decide +kernel
theorem dX4_readSign_29 : decode cX4_readSign 29 = .ok (.aload_n 0, 1) := by decide +kernel
theorem dX4_readSign_30 : decode cX4_readSign 30 = .ok (.aload_n 1, 1) := by decide +kernel
theorem dX4_readSign_31 : decode cX4_readSign 31 = .ok (.iload_n 3, 1) := by decide +kernel
theorem dX4_readSign_32 : decode cX4_readSign 32 = .ok (.ifCond .eq 8, 3) := by decide +kernel
theorem dX4_readSign_35 : decode cX4_readSign 35 = .ok (.bipush 43, 2) := by decide +kernel
theorem dX4_readSign_37 : decode cX4_readSign 37 = .ok (.goto 5, 3) := by decide +kernel
theorem dX4_readSign_40 : decode cX4_readSign 40 = .ok (.bipush 45, 2) := by decide +kernel
theorem dX4_readSign_42 : decode cX4_readSign 42 = .ok (.invokevirtual 77, 3) := by decide +kernel
theorem dX4_readSign_45 : decode cX4_readSign 45 = .ok (.ireturn, 1) := by decide +kernel
theorem dX4_readCharacter_0 : decode cX4_readCharacter 0 = .ok (.aload_n 0, 1) := by decide +kernel
theorem dX4_readCharacter_1 : decode cX4_readCharacter 1 = .ok (.aload_n 1, 1) := by decide +kernel
theorem dX4_readCharacter_2 : decode cX4_readCharacter 2 = .ok (.invokevirtual 35, 3) := by decide +kernel
theorem dX4_readCharacter_5 : decode cX4_readCharacter 5 = .ok (.iload_n 2, 1) := by decide +kernel
theorem dX4_readCharacter_6 : decode cX4_readCharacter 6 = .ok (.if_icmp .eq 5, 3) := by decide +kernel
theorem dX4_readCharacter_9 : decode cX4_readCharacter 9 = .ok (.iconst 0, 1) := by decide +kernel
theorem dX4_readCharacter_10 : decode cX4_readCharacter 10 = .ok (.ireturn, 1) := by decide +kernel
theorem dX4_readCharacter_11 : decode cX4_readCharacter 11 = .ok (.aload_n 0, 1) := by decide +kernel
theorem dX4_readCharacter_12 : decode cX4_readCharacter 12 = .ok (.dup, 1) := by decide +kernel
theorem dX4_readCharacter_13 : decode cX4_readCharacter 13 = .ok (.getfield 22, 3) := by decide +kernel
theorem dX4_readCharacter_16 : decode cX4_readCharacter 16 = .ok (.iconst 1, 1) := by decide +kernel
theorem dX4_readCharacter_17 : decode cX4_readCharacter 17 = .ok (.iadd, 1) := by decide +kernel
theorem dX4_readCharacter_18 : decode cX4_readCharacter 18 = .ok (.putfield 22, 3) := by decide +kernel
theorem dX4_readCharacter_21 : decode cX4_readCharacter 21 = .ok (.iconst 1, 1) := by decide +kernel
theorem dX4_readCharacter_22 : decode cX4_readCharacter 22 = .ok (.ireturn, 1) := by decide +kernel
theorem dX4_charAtPosition_0 : decode cX4_charAtPosition 0 = .ok (.aload_n 0, 1) := by decide +kernel
theorem dX4_charAtPosition_1 : decode cX4_charAtPosition 1 = .ok (.getfield 22, 3) := by decide +kernel
theorem dX4_charAtPosition_4 : decode cX4_charAtPosition 4 = .ok (.aload_n 1, 1) := by decide +kernel
theorem dX4_charAtPosition_5 : decode cX4_charAtPosition 5 = .ok (.invokevirtual 29, 3) := by decide +kernel
theorem dX4_charAtPosition_8 : decode cX4_charAtPosition 8 = .ok (.if_icmp .ge 14, 3) := by decide +kernel
theorem dX4_charAtPosition_11 : decode cX4_charAtPosition 11 = .ok (.aload_n 1, 1) := by decide +kernel
theorem dX4_charAtPosition_12 : decode cX4_charAtPosition 12 = .ok (.aload_n 0, 1) := by decide +kernel
theorem dX4_charAtPosition_13 : decode cX4_charAtPosition 13 = .ok (.getfield 22, 3) := by decide +kernel
theorem dX4_charAtPosition_16 : decode cX4_charAtPosition 16 = .ok (.invokevirtual 89, 3) := by decide +kernel
theorem dX4_charAtPosition_19 : decode cX4_charAtPosition 19 = .ok (.goto 4, 3) := by decide +kernel
theorem dX4_charAtPosition_22 : decode cX4_charAtPosition 22 = .ok (.iconst 0, 1) := by decide +kernel
theorem dX4_charAtPosition_23 : decode cX4_charAtPosition 23 = .ok (.ireturn, 1) := by decide +kernel
theorem dX4_isDigit_0 : decode cX4_isDigit 0 = .ok (.iload_n 0, 1) := by decide +kernel
theorem dX4_isDigit_1 : decode cX4_isDigit 1 = .ok (.bipush 48, 2) := by decide +kernel
theorem dX4_isDigit_3 : decode cX4_isDigit 3 = .ok (.if_icmp .lt 13, 3) := by decide +kernel
theorem dX4_isDigit_6 : decode cX4_isDigit 6 = .ok (.iload_n 0, 1) := by decide +kernel
theorem dX4_isDigit_7 : decode cX4_isDigit 7 = .ok (.bipush 57, 2) := by decide +kernel
theorem dX4_isDigit_9 : decode cX4_isDigit 9 = .ok (.if_icmp .gt 7, 3) := by decide +kernel
theorem dX4_isDigit_12 : decode cX4_isDigit 12 = .ok (.iconst 1, 1) := by decide +kernel
theorem dX4_isDigit_13 : decode cX4_isDigit 13 = .ok (.goto 4, 3) := by decide +kernel
theorem dX4_isDigit_16 : decode cX4_isDigit 16 = .ok (.iconst 0, 1) := by decide +kernel
theorem dX4_isDigit_17 : decode cX4_isDigit 17 = .ok (.ireturn, 1) := by decide +kernel
theorem dX5_init_0 : decode cX5_init 0 = .ok (.aload_n 0, 1) := by decide +kernel
theorem dX5_init_1 : decode cX5_init 1 = .ok (.invokespecial 3, 3) := by decide +kernel
theorem dX5_init_4 : decode cX5_init 4 = .ok (.aload_n 0, 1) := by decide +kernel
theorem dX5_init_5 : decode cX5_init 5 = .ok (.bipush 8, 2) := by decide +kernel
theorem dX5_init_7 : decode cX5_init 7 = .ok (.anewarray 9, 3) := by decide +kernel
theorem dX5_init_10 : decode cX5_init 10 = .ok (.putfield 11, 3) := by decide +kernel
theorem dX5_init_13 : decode cX5_init 13 = .ok (.iconst 0, 1) := by decide +kernel
theorem dX5_init_14 : decode cX5_init 14 = .ok (.istore_n 1, 1) := by decide +kernel
theorem dX5_init_15 : decode cX5_init 15 = .ok (.iload_n 1, 1) := by decide +kernel
theorem dX5_init_16 : decode cX5_init 16 = .ok (.bipush 8, 2) := by decide +kernel
theorem dX5_init_18 : decode cX5_init 18 = .ok (.if_icmp .ge 22, 3) := by decide +kernel
theorem dX5_init_21 : decode cX5_init 21 = .ok (.aload_n 0, 1) := by decide +kernel
theorem dX5_init_22 : decode cX5_init 22 = .ok (.getfield 11, 3) := by decide +kernel
theorem dX5_init_25 : decode cX5_init 25 = .ok (.iload_n 1, 1) := by decide +kernel
theorem dX5_init_26 : decode cX5_init 26 = .ok (.new 9, 3) := by decide +kernel
theorem dX5_init_29 : decode cX5_init 29 = .ok (.dup, 1) := by decide +kernel
theorem dX5_init_30 : decode cX5_init 30 = .ok (.invokespecial 17, 3) := by decide +kernel
theorem dX5_init_33 : decode cX5_init 33 = .ok (.aastore, 1) := by decide +kernel
theorem dX5_init_34 : decode cX5_init 34 = .ok (.iinc 1 1, 3) := by decide +kernel
theorem dX5_init_37 : decode cX5_init 37 = .ok (.goto (-22), 3) := by decide +kernel
theorem dX5_init_40 : decode cX5_init 40 = .ok (.return_, 1) := by decide +kernel
theorem dX5_push_0 : decode cX5_push 0 = .ok (.aload_n 0, 1) := by decide +kernel
theorem dX5_push_1 : decode cX5_push 1 = .ok (.getfield 11, 3) := by decide +kernel
theorem dX5_push_4 : decode cX5_push 4 = .ok (.aload_n 0, 1) := by decide +kernel
theorem dX5_push_5 : decode cX5_push 5 = .ok (.getfield 18, 3) := by decide +kernel
theorem dX5_push_8 : decode cX5_push 8 = .ok (.aaload, 1) := by decide +kernel
theorem dX5_push_9 : decode cX5_push 9 = .ok (.aload_n 1, 1) := by decide +kernel
theorem dX5_push_10 : decode cX5_push 10 = .ok (.invokevirtual 22, 3) := by decide +kernel
theorem dX5_push_13 : decode cX5_push 13 = .ok (.aload_n 0, 1) := by decide +kernel
theorem dX5_push_14 : decode cX5_push 14 = .ok (.aload_n 0, 1) := by decide +kernel
theorem dX5_push_15 : decode cX5_push 15 = .ok (.getfield 18, 3) := by decide +kernel
theorem dX5_push_18 : decode cX5_push 18 = .ok (.iconst 1, 1) := by decide +kernel
theorem dX5_push_19 : decode cX5_push 19 = .ok (.iadd, 1) := by decide +kernel
theorem dX5_push_20 : decode cX5_push 20 = .ok (.bipush 8, 2) := by decide +kernel
theorem dX5_push_22 : decode cX5_push 22 = .ok (.irem, 1) := by decide +kernel
theorem dX5_push_23 : decode cX5_push 23 = .ok (.putfield 18, 3) := by decide +kernel
theorem dX5_push_26 : decode cX5_push 26 = .ok (.aload_n 0, 1) := by decide +kernel
theorem dX5_push_27 : decode cX5_push 27 = .ok (.getfield 26, 3) := by decide +kernel
theorem dX5_push_30 : decode cX5_push 30 = .ok (.bipush 8, 2) := by decide +kernel
theorem dX5_push_32 : decode cX5_push 32 = .ok (.if_icmp .ge 13, 3) := by decide +kernel
theorem dX5_push_35 : decode cX5_push 35 = .ok (.aload_n 0, 1) := by decide +kernel
theorem dX5_push_36 : decode cX5_push 36 = .ok (.dup, 1) := by decide +kernel
theorem dX5_push_37 : decode cX5_push 37 = .ok (.getfield 26, 3) := by decide +kernel
theorem dX5_push_40 : decode cX5_push 40 = .ok (.iconst 1, 1) := by decide +kernel
theorem dX5_push_41 : decode cX5_push 41 = .ok (.iadd, 1) := by decide +kernel
theorem dX5_push_42 : decode cX5_push 42 = .ok (.putfield 26, 3) := by decide +kernel
theorem dX5_push_45 : decode cX5_push 45 = .ok (.return_, 1) := by decide +kernel
theorem dX5_pop_0 : decode cX5_pop 0 = .ok (.aload_n 0, 1) := by decide +kernel
theorem dX5_pop_1 : decode cX5_pop 1 = .ok (.aload_n 0, 1) := by decide +kernel
theorem dX5_pop_2 : decode cX5_pop 2 = .ok (.getfield 18, 3) := by decide +kernel
theorem dX5_pop_5 : decode cX5_pop 5 = .ok (.bipush 8, 2) := by decide +kernel
theorem dX5_pop_7 : decode cX5_pop 7 = .ok (.iadd, 1) := by decide +kernel
theorem dX5_pop_8 : decode cX5_pop 8 = .ok (.iconst 1, 1) := by decide +kernel
theorem dX5_pop_9 : decode cX5_pop 9 = .ok (.isub, 1) := by decide +kernel
theorem dX5_pop_10 : decode cX5_pop 10 = .ok (.bipush 8, 2) := by decide +kernel
theorem dX5_pop_12 : decode cX5_pop 12 = .ok (.irem, 1) := by decide +kernel
theorem dX5_pop_13 : decode cX5_pop 13 = .ok (.putfield 18, 3) := by decide +kernel
theorem dX5_pop_16 : decode cX5_pop 16 = .ok (.aload_n 0, 1) := by decide +kernel
theorem dX5_pop_17 : decode cX5_pop 17 = .ok (.dup, 1) := by decide +kernel
theorem dX5_pop_18 : decode cX5_pop 18 = .ok (.getfield 26, 3) := by decide +kernel
theorem dX5_pop_21 : decode cX5_pop 21 = .ok (.iconst 1, 1) := by decide +kernel
theorem dX5_pop_22 : decode cX5_pop 22 = .ok (.isub, 1) := by decide +kernel
theorem dX5_pop_23 : decode cX5_pop 23 = .ok (.putfield 26, 3) := by decide +kernel
theorem dX5_pop_26 : decode cX5_pop 26 = .ok (.aload_n 1, 1) := by decide +kernel
theorem dX5_pop_27 : decode cX5_pop 27 = .ok (.aload_n 0, 1) := by decide +kernel
theorem dX5_pop_28 : decode cX5_pop 28 = .ok (.getfield 11, 3) := by decide +kernel
theorem dX5_pop_31 : decode cX5_pop 31 = .ok (.aload_n 0, 1) := by decide +kernel
theorem dX5_pop_32 : decode cX5_pop 32 = .ok (.getfield 18, 3) := by decide +kernel
theorem dX5_pop_35 : decode cX5_pop 35 = .ok (.aaload, 1) := by decide +kernel
theorem dX5_pop_36 : decode cX5_pop 36 = .ok (.invokevirtual 22, 3) := by decide +kernel
theorem dX5_pop_39 : decode cX5_pop 39 = .ok (.return_, 1) := by decide +kernel
theorem dX5_forget_0 : decode cX5_forget 0 = .ok (.aload_n 0, 1) := by decide +kernel
theorem dX5_forget_1 : decode cX5_forget 1 = .ok (.iconst 0, 1) := by decide +kernel
theorem dX5_forget_2 : decode cX5_forget 2 = .ok (.putfield 26, 3) := by decide +kernel
theorem dX5_forget_5 : decode cX5_forget 5 = .ok (.return_, 1) := by decide +kernel
theorem dX6_init_0 : decode cX6_init 0 = .ok (.aload_n 0, 1) := by decide +kernel
theorem dX6_init_1 : decode cX6_init 1 = .ok (.invokespecial 3, 3) := by decide +kernel
theorem dX6_init_4 : decode cX6_init 4 = .ok (.aload_n 0, 1) := by decide +kernel
theorem dX6_init_5 : decode cX6_init 5 = .ok (.bipush 12, 2) := by decide +kernel
theorem dX6_init_7 : decode cX6_init 7 = .ok (.newarray .int, 2) := by decide +kernel
theorem dX6_init_9 : decode cX6_init 9 = .ok (.putfield 9, 3) := by decide +kernel
theorem dX6_init_12 : decode cX6_init 12 = .ok (.aload_n 0, 1) := by decide +kernel
theorem dX6_init_13 : decode cX6_init 13 = .ok (.bipush 12, 2) := by decide +kernel
theorem dX6_init_15 : decode cX6_init 15 = .ok (.newarray .int, 2) := by decide +kernel
theorem dX6_init_17 : decode cX6_init 17 = .ok (.putfield 15, 3) := by decide +kernel
theorem dX6_init_20 : decode cX6_init 20 = .ok (.aload_n 0, 1) := by decide +kernel
theorem dX6_init_21 : decode cX6_init 21 = .ok (.bipush 12, 2) := by decide +kernel
theorem dX6_init_23 : decode cX6_init 23 = .ok (.newarray .int, 2) := by decide +kernel
theorem dX6_init_25 : decode cX6_init 25 = .ok (.putfield 18, 3) := by decide +kernel
theorem dX6_init_28 : decode cX6_init 28 = .ok (.return_, 1) := by decide +kernel
theorem dX6_copyFrom_0 : decode cX6_copyFrom 0 = .ok (.aload_n 0, 1) := by decide +kernel
theorem dX6_copyFrom_1 : decode cX6_copyFrom 1 = .ok (.aload_n 1, 1) := by decide +kernel
theorem dX6_copyFrom_2 : decode cX6_copyFrom 2 = .ok (.getfield 21, 3) := by decide +kernel
theorem dX6_copyFrom_5 : decode cX6_copyFrom 5 = .ok (.putfield 21, 3) := by decide +kernel
theorem dX6_copyFrom_8 : decode cX6_copyFrom 8 = .ok (.aload_n 1, 1) := by decide +kernel
theorem dX6_copyFrom_9 : decode cX6_copyFrom 9 = .ok (.getfield 9, 3) := by decide +kernel
theorem dX6_copyFrom_12 : decode cX6_copyFrom 12 = .ok (.iconst 0, 1) := by decide +kernel
theorem dX6_copyFrom_13 : decode cX6_copyFrom 13 = .ok (.aload_n 0, 1) := by decide +kernel
theorem dX6_copyFrom_14 : decode cX6_copyFrom 14 = .ok (.getfield 9, 3) := by decide +kernel
theorem dX6_copyFrom_17 : decode cX6_copyFrom 17 = .ok (.iconst 0, 1) := by decide +kernel
theorem dX6_copyFrom_18 : decode cX6_copyFrom 18 = .ok (.bipush 12, 2) := by decide +kernel
theorem dX6_copyFrom_20 : decode cX6_copyFrom 20 = .ok (.invokestatic 25, 3) := by decide +kernel
theorem dX6_copyFrom_23 : decode cX6_copyFrom 23 = .ok (.aload_n 0, 1) := by decide +kernel
theorem dX6_copyFrom_24 : decode cX6_copyFrom 24 = .ok (.aload_n 1, 1) := by decide +kernel
theorem dX6_copyFrom_25 : decode cX6_copyFrom 25 = .ok (.getfield 31, 3) := by decide +kernel
theorem dX6_copyFrom_28 : decode cX6_copyFrom 28 = .ok (.putfield 31, 3) := by decide +kernel
theorem dX6_copyFrom_31 : decode cX6_copyFrom 31 = .ok (.aload_n 0, 1) := by decide +kernel
theorem dX6_copyFrom_32 : decode cX6_copyFrom 32 = .ok (.aload_n 1, 1) := by decide +kernel
theorem dX6_copyFrom_33 : decode cX6_copyFrom 33 = .ok (.getfield 34, 3) := by decide +kernel
theorem dX6_copyFrom_36 : decode cX6_copyFrom 36 = .ok (.putfield 34, 3) := by decide +kernel
theorem dX6_copyFrom_39 : decode cX6_copyFrom 39 = .ok (.aload_n 0, 1) := by decide +kernel
theorem dX6_copyFrom_40 : decode cX6_copyFrom 40 = .ok (.aload_n 1, 1) := by decide +kernel
theorem dX6_copyFrom_41 : decode cX6_copyFrom 41 = .ok (.getfield 38, 3) := by decide +kernel
theorem dX6_copyFrom_44 : decode cX6_copyFrom 44 = .ok (.putfield 38, 3) := by decide +kernel
theorem dX6_copyFrom_47 : decode cX6_copyFrom 47 = .ok (.aload_n 1, 1) := by decide +kernel
theorem dX6_copyFrom_48 : decode cX6_copyFrom 48 = .ok (.getfield 15, 3) := by decide +kernel
theorem dX6_copyFrom_51 : decode cX6_copyFrom 51 = .ok (.iconst 0, 1) := by decide +kernel
theorem dX6_copyFrom_52 : decode cX6_copyFrom 52 = .ok (.aload_n 0, 1) := by decide +kernel
theorem dX6_copyFrom_53 : decode cX6_copyFrom 53 = .ok (.getfield 15, 3) := by decide +kernel
theorem dX6_copyFrom_56 : decode cX6_copyFrom 56 = .ok (.iconst 0, 1) := by decide +kernel
theorem dX6_copyFrom_57 : decode cX6_copyFrom 57 = .ok (.bipush 12, 2) := by decide +kernel
theorem dX6_copyFrom_59 : decode cX6_copyFrom 59 = .ok (.invokestatic 25, 3) := by decide +kernel
theorem dX6_copyFrom_62 : decode cX6_copyFrom 62 = .ok (.aload_n 1, 1) := by decide +kernel
theorem dX6_copyFrom_63 : decode cX6_copyFrom 63 = .ok (.getfield 18, 3) := by decide +kernel
theorem dX6_copyFrom_66 : decode cX6_copyFrom 66 = .ok (.iconst 0, 1) := by decide +kernel
theorem dX6_copyFrom_67 : decode cX6_copyFrom 67 = .ok (.aload_n 0, 1) := by decide +kernel
theorem dX6_copyFrom_68 : decode cX6_copyFrom 68 = .ok (.getfield 18, 3) := by decide +kernel
theorem dX6_copyFrom_71 : decode cX6_copyFrom 71 = .ok (.iconst 0, 1) := by decide +kernel
theorem dX6_copyFrom_72 : decode cX6_copyFrom 72 = .ok (.bipush 12, 2) := by decide +kernel
theorem dX6_copyFrom_74 : decode cX6_copyFrom 74 = .ok (.invokestatic 25, 3) := by decide +kernel
theorem dX6_copyFrom_77 : decode cX6_copyFrom 77 = .ok (.aload_n 0, 1) := by decide +kernel
theorem dX6_copyFrom_78 : decode cX6_copyFrom 78 = .ok (.aload_n 1, 1) := by decide +kernel
theorem dX6_copyFrom_79 : decode cX6_copyFrom 79 = .ok (.getfield 41, 3) := by decide +kernel
theorem dX6_copyFrom_82 : decode cX6_copyFrom 82 = .ok (.putfield 41, 3) := by decide +kernel
theorem dX6_copyFrom_85 : decode cX6_copyFrom 85 = .ok (.aload_n 0, 1) := by decide +kernel
theorem dX6_copyFrom_86 : decode cX6_copyFrom 86 = .ok (.aload_n 1, 1) := by decide +kernel
theorem dX6_copyFrom_87 : decode cX6_copyFrom 87 = .ok (.getfield 44, 3) := by decide +kernel
theorem dX6_copyFrom_90 : decode cX6_copyFrom 90 = .ok (.putfield 44, 3) := by decide +kernel
theorem dX6_copyFrom_93 : decode cX6_copyFrom 93 = .ok (.aload_n 0, 1) := by decide +kernel
theorem dX6_copyFrom_94 : decode cX6_copyFrom 94 = .ok (.aload_n 1, 1) := by decide +kernel
theorem dX6_copyFrom_95 : decode cX6_copyFrom 95 = .ok (.getfield 47, 3) := by decide +kernel
theorem dX6_copyFrom_98 : decode cX6_copyFrom 98 = .ok (.putfield 47, 3) := by decide +kernel
theorem dX6_copyFrom_101 : decode cX6_copyFrom 101 = .ok (.aload_n 0, 1) := by decide +kernel
theorem dX6_copyFrom_102 : decode cX6_copyFrom 102 = .ok (.aload_n 1, 1) := by decide +kernel
theorem dX6_copyFrom_103 : decode cX6_copyFrom 103 = .ok (.getfield 50, 3) := by decide +kernel
theorem dX6_copyFrom_106 : decode cX6_copyFrom 106 = .ok (.putfield 50, 3) := by decide +kernel
theorem dX6_copyFrom_109 : decode cX6_copyFrom 109 = .ok (.aload_n 0, 1) := by decide +kernel
theorem dX6_copyFrom_110 : decode cX6_copyFrom 110 = .ok (.aload_n 1, 1) := by decide +kernel
theorem dX6_copyFrom_111 : decode cX6_copyFrom 111 = .ok (.getfield 53, 3) := by decide +kernel
theorem dX6_copyFrom_114 : decode cX6_copyFrom 114 = .ok (.putfield 53, 3) := by decide +kernel
theorem dX6_copyFrom_117 : decode cX6_copyFrom 117 = .ok (.return_, 1) := by decide +kernel
theorem dX6_placeOf_0 : decode cX6_placeOf 0 = .ok (.iconst 0, 1) := by decide +kernel
theorem dX6_placeOf_1 : decode cX6_placeOf 1 = .ok (.istore_n 2, 1) := by decide +kernel
theorem dX6_placeOf_2 : decode cX6_placeOf 2 = .ok (.iload_n 2, 1) := by decide +kernel
theorem dX6_placeOf_3 : decode cX6_placeOf 3 = .ok (.aload_n 0, 1) := by decide +kernel
theorem dX6_placeOf_4 : decode cX6_placeOf 4 = .ok (.getfield 31, 3) := by decide +kernel
theorem dX6_placeOf_7 : decode cX6_placeOf 7 = .ok (.if_icmp .ge 21, 3) := by decide +kernel
theorem dX6_placeOf_10 : decode cX6_placeOf 10 = .ok (.aload_n 0, 1) := by decide +kernel
theorem dX6_placeOf_11 : decode cX6_placeOf 11 = .ok (.getfield 9, 3) := by decide +kernel
theorem dX6_placeOf_14 : decode cX6_placeOf 14 = .ok (.iload_n 2, 1) := by decide +kernel
theorem dX6_placeOf_15 : decode cX6_placeOf 15 = .ok (.iaload, 1) := by decide +kernel
theorem dX6_placeOf_16 : decode cX6_placeOf 16 = .ok (.iload_n 1, 1) := by decide +kernel
theorem dX6_placeOf_17 : decode cX6_placeOf 17 = .ok (.if_icmp .ne 5, 3) := by decide +kernel
theorem dX6_placeOf_20 : decode cX6_placeOf 20 = .ok (.iload_n 2, 1) := by decide +kernel
theorem dX6_placeOf_21 : decode cX6_placeOf 21 = .ok (.ireturn, 1) := by decide +kernel
theorem dX6_placeOf_22 : decode cX6_placeOf 22 = .ok (.iinc 2 1, 3) := by decide +kernel
theorem dX6_placeOf_25 : decode cX6_placeOf 25 = .ok (.goto (-23), 3) := by decide +kernel
theorem dX6_placeOf_28 : decode cX6_placeOf 28 = .ok (.iconst (-1), 1) := by decide +kernel
theorem dX6_placeOf_29 : decode cX6_placeOf 29 = .ok (.ireturn, 1) := by decide +kernel
theorem dX6_addToList_0 : decode cX6_addToList 0 = .ok (.aload_n 0, 1) := by decide +kernel
theorem dX6_addToList_1 : decode cX6_addToList 1 = .ok (.getfield 31, 3) := by decide +kernel
theorem dX6_addToList_4 : decode cX6_addToList 4 = .ok (.bipush 12, 2) := by decide +kernel
theorem dX6_addToList_6 : decode cX6_addToList 6 = .ok (.if_icmp .ge 23, 3) := by decide +kernel
theorem dX6_addToList_9 : decode cX6_addToList 9 = .ok (.aload_n 0, 1) := by decide +kernel
theorem dX6_addToList_10 : decode cX6_addToList 10 = .ok (.getfield 9, 3) := by decide +kernel
theorem dX6_addToList_13 : decode cX6_addToList 13 = .ok (.aload_n 0, 1) := by decide +kernel
theorem dX6_addToList_14 : decode cX6_addToList 14 = .ok (.getfield 31, 3) := by decide +kernel
theorem dX6_addToList_17 : decode cX6_addToList 17 = .ok (.iload_n 1, 1) := by decide +kernel
theorem dX6_addToList_18 : decode cX6_addToList 18 = .ok (.iastore, 1) := by decide +kernel
theorem dX6_addToList_19 : decode cX6_addToList 19 = .ok (.aload_n 0, 1) := by decide +kernel
theorem dX6_addToList_20 : decode cX6_addToList 20 = .ok (.dup, 1) := by decide +kernel
theorem dX6_addToList_21 : decode cX6_addToList 21 = .ok (.getfield 31, 3) := by decide +kernel
theorem dX6_addToList_24 : decode cX6_addToList 24 = .ok (.iconst 1, 1) := by decide +kernel
theorem dX6_addToList_25 : decode cX6_addToList 25 = .ok (.iadd, 1) := by decide +kernel
theorem dX6_addToList_26 : decode cX6_addToList 26 = .ok (.putfield 31, 3) := by decide +kernel
theorem dX6_addToList_29 : decode cX6_addToList 29 = .ok (.return_, 1) := by decide +kernel
theorem dX6_clearPlace_0 : decode cX6_clearPlace 0 = .ok (.iload_n 1, 1) := by decide +kernel
theorem dX6_clearPlace_1 : decode cX6_clearPlace 1 = .ok (.ifCond .lt 11, 3) := by decide +kernel
theorem dX6_clearPlace_4 : decode cX6_clearPlace 4 = .ok (.iload_n 1, 1) := by decide +kernel
theorem dX6_clearPlace_5 : decode cX6_clearPlace 5 = .ok (.aload_n 0, 1) := by decide +kernel
theorem dX6_clearPlace_6 : decode cX6_clearPlace 6 = .ok (.getfield 31, 3) := by decide +kernel
theorem dX6_clearPlace_9 : decode cX6_clearPlace 9 = .ok (.if_icmp .lt 4, 3) := by decide +kernel
theorem dX6_clearPlace_12 : decode cX6_clearPlace 12 = .ok (.return_, 1) := by decide +kernel
theorem dX6_clearPlace_13 : decode cX6_clearPlace 13 = .ok (.iload_n 1, 1) := by decide +kernel
theorem dX6_clearPlace_14 : decode cX6_clearPlace 14 = .ok (.iconst 1, 1) := by decide +kernel
theorem dX6_clearPlace_15 : decode cX6_clearPlace 15 = .ok (.iadd, 1) := by decide +kernel
theorem dX6_clearPlace_16 : decode cX6_clearPlace 16 = .ok (.istore_n 2, 1) := by decide +kernel
theorem dX6_clearPlace_17 : decode cX6_clearPlace 17 = .ok (.iload_n 2, 1) := by decide +kernel
theorem dX6_clearPlace_18 : decode cX6_clearPlace 18 = .ok (.aload_n 0, 1) := by decide +kernel
theorem dX6_clearPlace_19 : decode cX6_clearPlace 19 = .ok (.getfield 31, 3) := by decide +kernel
theorem dX6_clearPlace_22 : decode cX6_clearPlace 22 = .ok (.if_icmp .ge 23, 3) := by decide +kernel
theorem dX6_clearPlace_25 : decode cX6_clearPlace 25 = .ok (.aload_n 0, 1) := by decide +kernel
theorem dX6_clearPlace_26 : decode cX6_clearPlace 26 = .ok (.getfield 9, 3) := by decide +kernel
theorem dX6_clearPlace_29 : decode cX6_clearPlace 29 = .ok (.iload_n 2, 1) := by decide +kernel
theorem dX6_clearPlace_30 : decode cX6_clearPlace 30 = .ok (.iconst 1, 1) := by decide +kernel
theorem dX6_clearPlace_31 : decode cX6_clearPlace 31 = .ok (.isub, 1) := by decide +kernel
theorem dX6_clearPlace_32 : decode cX6_clearPlace 32 = .ok (.aload_n 0, 1) := by decide +kernel
theorem dX6_clearPlace_33 : decode cX6_clearPlace 33 = .ok (.getfield 9, 3) := by decide +kernel
theorem dX6_clearPlace_36 : decode cX6_clearPlace 36 = .ok (.iload_n 2, 1) := by decide +kernel
theorem dX6_clearPlace_37 : decode cX6_clearPlace 37 = .ok (.iaload, 1) := by decide +kernel
theorem dX6_clearPlace_38 : decode cX6_clearPlace 38 = .ok (.iastore, 1) := by decide +kernel
theorem dX6_clearPlace_39 : decode cX6_clearPlace 39 = .ok (.iinc 2 1, 3) := by decide +kernel
theorem dX6_clearPlace_42 : decode cX6_clearPlace 42 = .ok (.goto (-25), 3) := by decide +kernel
theorem dX6_clearPlace_45 : decode cX6_clearPlace 45 = .ok (.aload_n 0, 1) := by decide +kernel
theorem dX6_clearPlace_46 : decode cX6_clearPlace 46 = .ok (.dup, 1) := by decide +kernel
theorem dX6_clearPlace_47 : decode cX6_clearPlace 47 = .ok (.getfield 31, 3) := by decide +kernel
theorem dX6_clearPlace_50 : decode cX6_clearPlace 50 = .ok (.iconst 1, 1) := by decide +kernel
theorem dX6_clearPlace_51 : decode cX6_clearPlace 51 = .ok (.isub, 1) := by decide +kernel
theorem dX6_clearPlace_52 : decode cX6_clearPlace 52 = .ok (.putfield 31, 3) := by decide +kernel
theorem dX6_clearPlace_55 : decode cX6_clearPlace 55 = .ok (.return_, 1) := by decide +kernel
theorem dX6_addCroak_0 : decode cX6_addCroak 0 = .ok (.aload_n 0, 1) := by decide +kernel
theorem dX6_addCroak_1 : decode cX6_addCroak 1 = .ok (.getfield 41, 3) := by decide +kernel
theorem dX6_addCroak_4 : decode cX6_addCroak 4 = .ok (.bipush 12, 2) := by decide +kernel
theorem dX6_addCroak_6 : decode cX6_addCroak 6 = .ok (.if_icmp .ge 53, 3) := by decide +kernel
theorem dX6_addCroak_9 : decode cX6_addCroak 9 = .ok (.aload_n 0, 1) := by decide +kernel
theorem dX6_addCroak_10 : decode cX6_addCroak 10 = .ok (.getfield 15, 3) := by decide +kernel
theorem dX6_addCroak_13 : decode cX6_addCroak 13 = .ok (.aload_n 0, 1) := by decide +kernel
theorem dX6_addCroak_14 : decode cX6_addCroak 14 = .ok (.getfield 41, 3) := by decide +kernel
theorem dX6_addCroak_17 : decode cX6_addCroak 17 = .ok (.iload_n 1, 1) := by decide +kernel
theorem dX6_addCroak_18 : decode cX6_addCroak 18 = .ok (.iastore, 1) := by decide +kernel
theorem dX6_addCroak_19 : decode cX6_addCroak 19 = .ok (.aload_n 0, 1) := by decide +kernel
theorem dX6_addCroak_20 : decode cX6_addCroak 20 = .ok (.getfield 18, 3) := by decide +kernel
theorem dX6_addCroak_23 : decode cX6_addCroak 23 = .ok (.aload_n 0, 1) := by decide +kernel
theorem dX6_addCroak_24 : decode cX6_addCroak 24 = .ok (.getfield 41, 3) := by decide +kernel
theorem dX6_addCroak_27 : decode cX6_addCroak 27 = .ok (.iload_n 2, 1) := by decide +kernel
theorem dX6_addCroak_28 : decode cX6_addCroak 28 = .ok (.iastore, 1) := by decide +kernel
theorem dX6_addCroak_29 : decode cX6_addCroak 29 = .ok (.aload_n 0, 1) := by decide +kernel
theorem dX6_addCroak_30 : decode cX6_addCroak 30 = .ok (.dup, 1) := by decide +kernel
theorem dX6_addCroak_31 : decode cX6_addCroak 31 = .ok (.getfield 41, 3) := by decide +kernel
theorem dX6_addCroak_34 : decode cX6_addCroak 34 = .ok (.iconst 1, 1) := by decide +kernel
theorem dX6_addCroak_35 : decode cX6_addCroak 35 = .ok (.iadd, 1) := by decide +kernel
theorem dX6_addCroak_36 : decode cX6_addCroak 36 = .ok (.putfield 41, 3) := by decide +kernel
theorem dX6_addCroak_39 : decode cX6_addCroak 39 = .ok (.aload_n 0, 1) := by decide +kernel
theorem dX6_addCroak_40 : decode cX6_addCroak 40 = .ok (.dup, 1) := by decide +kernel
theorem dX6_addCroak_41 : decode cX6_addCroak 41 = .ok (.getfield 44, 3) := by decide +kernel
theorem dX6_addCroak_44 : decode cX6_addCroak 44 = .ok (.iload_n 3, 1) := by decide +kernel
theorem dX6_addCroak_45 : decode cX6_addCroak 45 = .ok (.ifCond .eq 9, 3) := by decide +kernel
theorem dX6_addCroak_48 : decode cX6_addCroak 48 = .ok (.iconst 1, 1) := by decide +kernel
theorem dX6_addCroak_49 : decode cX6_addCroak 49 = .ok (.iload_n 1, 1) := by decide +kernel
theorem dX6_addCroak_50 : decode cX6_addCroak 50 = .ok (.ishl, 1) := by decide +kernel
theorem dX6_addCroak_51 : decode cX6_addCroak 51 = .ok (.goto 4, 3) := by decide +kernel
theorem dX6_addCroak_54 : decode cX6_addCroak 54 = .ok (.iconst 0, 1) := by decide +kernel
theorem dX6_addCroak_55 : decode cX6_addCroak 55 = .ok (.ior, 1) := by decide +kernel
theorem dX6_addCroak_56 : decode cX6_addCroak 56 = .ok (.putfield 44, 3) := by decide +kernel
theorem dX6_addCroak_59 : decode cX6_addCroak 59 = .ok (.return_, 1) := by decide +kernel
theorem dX6_hasCroakOf_0 : decode cX6_hasCroakOf 0 = .ok (.iconst 0, 1) := by decide +kernel
theorem dX6_hasCroakOf_1 : decode cX6_hasCroakOf 1 = .ok (.istore_n 2, 1) := by decide +kernel
theorem dX6_hasCroakOf_2 : decode cX6_hasCroakOf 2 = .ok (.iload_n 2, 1) := by decide +kernel
theorem dX6_hasCroakOf_3 : decode cX6_hasCroakOf 3 = .ok (.aload_n 0, 1) := by decide +kernel
theorem dX6_hasCroakOf_4 : decode cX6_hasCroakOf 4 = .ok (.getfield 41, 3) := by decide +kernel
theorem dX6_hasCroakOf_7 : decode cX6_hasCroakOf 7 = .ok (.if_icmp .ge 21, 3) := by decide +kernel
theorem dX6_hasCroakOf_10 : decode cX6_hasCroakOf 10 = .ok (.aload_n 0, 1) := by decide +kernel
theorem dX6_hasCroakOf_11 : decode cX6_hasCroakOf 11 = .ok (.getfield 15, 3) := by decide +kernel
theorem dX6_hasCroakOf_14 : decode cX6_hasCroakOf 14 = .ok (.iload_n 2, 1) := by decide +kernel
theorem dX6_hasCroakOf_15 : decode cX6_hasCroakOf 15 = .ok (.iaload, 1) := by decide +kernel
theorem dX6_hasCroakOf_16 : decode cX6_hasCroakOf 16 = .ok (.iload_n 1, 1) := by decide +kernel
theorem dX6_hasCroakOf_17 : decode cX6_hasCroakOf 17 = .ok (.if_icmp .ne 5, 3) := by decide +kernel
theorem dX6_hasCroakOf_20 : decode cX6_hasCroakOf 20 = .ok (.iconst 1, 1) := by decide +kernel
theorem dX6_hasCroakOf_21 : decode cX6_hasCroakOf 21 = .ok (.ireturn, 1) := by decide +kernel
theorem dX6_hasCroakOf_22 : decode cX6_hasCroakOf 22 = .ok (.iinc 2 1, 3) := by decide +kernel
theorem dX6_hasCroakOf_25 : decode cX6_hasCroakOf 25 = .ok (.goto (-23), 3) := by decide +kernel
theorem dX6_hasCroakOf_28 : decode cX6_hasCroakOf 28 = .ok (.iconst 0, 1) := by decide +kernel
theorem dX6_hasCroakOf_29 : decode cX6_hasCroakOf 29 = .ok (.ireturn, 1) := by decide +kernel
theorem dX6_isFor_0 : decode cX6_isFor 0 = .ok (.aload_n 0, 1) := by decide +kernel
theorem dX6_isFor_1 : decode cX6_isFor 1 = .ok (.getfield 44, 3) := by decide +kernel
theorem dX6_isFor_4 : decode cX6_isFor 4 = .ok (.aload_n 0, 1) := by decide +kernel
theorem dX6_isFor_5 : decode cX6_isFor 5 = .ok (.getfield 15, 3) := by decide +kernel
theorem dX6_isFor_8 : decode cX6_isFor 8 = .ok (.iload_n 1, 1) := by decide +kernel
theorem dX6_isFor_9 : decode cX6_isFor 9 = .ok (.iaload, 1) := by decide +kernel
theorem dX6_isFor_10 : decode cX6_isFor 10 = .ok (.ishr, 1) := by decide +kernel
theorem dX6_isFor_11 : decode cX6_isFor 11 = .ok (.iconst 1, 1) := by decide +kernel
theorem dX6_isFor_12 : decode cX6_isFor 12 = .ok (.iand, 1) := by decide +kernel
theorem dX6_isFor_13 : decode cX6_isFor 13 = .ok (.ifCond .eq 7, 3) := by decide +kernel
theorem dX6_isFor_16 : decode cX6_isFor 16 = .ok (.iconst 1, 1) := by decide +kernel
theorem dX6_isFor_17 : decode cX6_isFor 17 = .ok (.goto 4, 3) := by decide +kernel
theorem dX6_isFor_20 : decode cX6_isFor 20 = .ok (.iconst 0, 1) := by decide +kernel
theorem dX6_isFor_21 : decode cX6_isFor 21 = .ok (.ireturn, 1) := by decide +kernel
theorem dX6_sumOfSide_0 : decode cX6_sumOfSide 0 = .ok (.iconst 0, 1) := by decide +kernel
theorem dX6_sumOfSide_1 : decode cX6_sumOfSide 1 = .ok (.istore_n 2, 1) := by decide +kernel
theorem dX6_sumOfSide_2 : decode cX6_sumOfSide 2 = .ok (.iconst 0, 1) := by decide +kernel
theorem dX6_sumOfSide_3 : decode cX6_sumOfSide 3 = .ok (.istore_n 3, 1) := by decide +kernel
theorem dX6_sumOfSide_4 : decode cX6_sumOfSide 4 = .ok (.iload_n 3, 1) := by decide +kernel
theorem dX6_sumOfSide_5 : decode cX6_sumOfSide 5 = .ok (.aload_n 0, 1) := by decide +kernel
theorem dX6_sumOfSide_6 : decode cX6_sumOfSide 6 = .ok (.getfield 41, 3) := by decide +kernel
theorem dX6_sumOfSide_9 : decode cX6_sumOfSide 9 = .ok (.if_icmp .ge 27, 3) := by decide +kernel
theorem dX6_sumOfSide_12 : decode cX6_sumOfSide 12 = .ok (.aload_n 0, 1) := by decide +kernel
theorem dX6_sumOfSide_13 : decode cX6_sumOfSide 13 = .ok (.iload_n 3, 1) := by decide +kernel
theorem dX6_sumOfSide_14 : decode cX6_sumOfSide 14 = .ok (.invokevirtual 56, 3) := by decide +kernel
theorem dX6_sumOfSide_17 : decode cX6_sumOfSide 17 = .ok (.iload_n 1, 1) := by decide +kernel
theorem dX6_sumOfSide_18 : decode cX6_sumOfSide 18 = .ok (.if_icmp .ne 12, 3) := by decide +kernel
theorem dX6_sumOfSide_21 : decode cX6_sumOfSide 21 = .ok (.iload_n 2, 1) := by decide +kernel
theorem dX6_sumOfSide_22 : decode cX6_sumOfSide 22 = .ok (.aload_n 0, 1) := by decide +kernel
theorem dX6_sumOfSide_23 : decode cX6_sumOfSide 23 = .ok (.getfield 18, 3) := by decide +kernel
theorem dX6_sumOfSide_26 : decode cX6_sumOfSide 26 = .ok (.iload_n 3, 1) := by decide +kernel
theorem dX6_sumOfSide_27 : decode cX6_sumOfSide 27 = .ok (.iaload, 1) := by decide +kernel
theorem dX6_sumOfSide_28 : decode cX6_sumOfSide 28 = .ok (.iadd, 1) := by decide +kernel
theorem dX6_sumOfSide_29 : decode cX6_sumOfSide 29 = .ok (.istore_n 2, 1) := by decide +kernel
theorem dX6_sumOfSide_30 : decode cX6_sumOfSide 30 = .ok (.iinc 3 1, 3) := by decide +kernel
theorem dX6_sumOfSide_33 : decode cX6_sumOfSide 33 = .ok (.goto (-29), 3) := by decide +kernel
theorem dX6_sumOfSide_36 : decode cX6_sumOfSide 36 = .ok (.iload_n 2, 1) := by decide +kernel
theorem dX6_sumOfSide_37 : decode cX6_sumOfSide 37 = .ok (.ireturn, 1) := by decide +kernel
theorem dX8_init_0 : decode cX8_init 0 = .ok (.aload_n 0, 1) := by decide +kernel
theorem dX8_init_1 : decode cX8_init 1 = .ok (.invokespecial 3, 3) := by decide +kernel
theorem dX8_init_4 : decode cX8_init 4 = .ok (.aload_n 0, 1) := by decide +kernel
theorem dX8_init_5 : decode cX8_init 5 = .ok (.bipush 12, 2) := by decide +kernel
theorem dX8_init_7 : decode cX8_init 7 = .ok (.newarray .int, 2) := by decide +kernel
theorem dX8_init_9 : decode cX8_init 9 = .ok (.putfield 9, 3) := by decide +kernel
theorem dX8_init_12 : decode cX8_init 12 = .ok (.return_, 1) := by decide +kernel
theorem dX8_clear_0 : decode cX8_clear 0 = .ok (.aload_n 0, 1) := by decide +kernel
theorem dX8_clear_1 : decode cX8_clear 1 = .ok (.iconst 0, 1) := by decide +kernel
theorem dX8_clear_2 : decode cX8_clear 2 = .ok (.putfield 15, 3) := by decide +kernel
theorem dX8_clear_5 : decode cX8_clear 5 = .ok (.return_, 1) := by decide +kernel
theorem dX8_put_0 : decode cX8_put 0 = .ok (.aload_n 0, 1) := by decide +kernel
theorem dX8_put_1 : decode cX8_put 1 = .ok (.getfield 15, 3) := by decide +kernel
theorem dX8_put_4 : decode cX8_put 4 = .ok (.bipush 12, 2) := by decide +kernel
theorem dX8_put_6 : decode cX8_put 6 = .ok (.if_icmp .lt 4, 3) := by decide +kernel
theorem dX8_put_9 : decode cX8_put 9 = .ok (.return_, 1) := by decide +kernel
theorem dX8_put_10 : decode cX8_put 10 = .ok (.iload_n 1, 1) := by decide +kernel
theorem dX8_put_11 : decode cX8_put 11 = .ok (.iconst 4, 1) := by decide +kernel
theorem dX8_put_12 : decode cX8_put 12 = .ok (.ishl, 1) := by decide +kernel
theorem dX8_put_13 : decode cX8_put 13 = .ok (.iload_n 2, 1) := by decide +kernel
theorem dX8_put_14 : decode cX8_put 14 = .ok (.ior, 1) := by decide +kernel
theorem dX8_put_15 : decode cX8_put 15 = .ok (.iconst 4, 1) := by decide +kernel
theorem dX8_put_16 : decode cX8_put 16 = .ok (.ishl, 1) := by decide +kernel
theorem dX8_put_17 : decode cX8_put 17 = .ok (.iload_n 3, 1) := by decide +kernel
theorem dX8_put_18 : decode cX8_put 18 = .ok (.ior, 1) := by decide +kernel
theorem dX8_put_19 : decode cX8_put 19 = .ok (.istore 4, 2) := by decide +kernel
theorem dX8_put_21 : decode cX8_put 21 = .ok (.aload_n 0, 1) := by decide +kernel
theorem dX8_put_22 : decode cX8_put 22 = .ok (.getfield 15, 3) := by decide +kernel
theorem dX8_put_25 : decode cX8_put 25 = .ok (.istore 5, 2) := by decide +kernel
theorem dX8_put_27 : decode cX8_put 27 = .ok (.aload_n 0, 1) := by decide +kernel
theorem dX8_put_28 : decode cX8_put 28 = .ok (.dup, 1) := by decide +kernel
theorem dX8_put_29 : decode cX8_put 29 = .ok (.getfield 15, 3) := by decide +kernel
theorem dX8_put_32 : decode cX8_put 32 = .ok (.iconst 1, 1) := by decide +kernel
theorem dX8_put_33 : decode cX8_put 33 = .ok (.iadd, 1) := by decide +kernel
theorem dX8_put_34 : decode cX8_put 34 = .ok (.putfield 15, 3) := by decide +kernel
theorem dX8_put_37 : decode cX8_put 37 = .ok (.iload 5, 2) := by decide +kernel
theorem dX8_put_39 : decode cX8_put 39 = .ok (.ifCond .le 48, 3) := by decide +kernel
theorem dX8_put_42 : decode cX8_put 42 = .ok (.aload_n 0, 1) := by decide +kernel
theorem dX8_put_43 : decode cX8_put 43 = .ok (.getfield 9, 3) := by decide +kernel
theorem dX8_put_46 : decode cX8_put 46 = .ok (.iload 5, 2) := by decide +kernel
theorem dX8_put_48 : decode cX8_put 48 = .ok (.iconst 1, 1) := by decide +kernel
theorem dX8_put_49 : decode cX8_put 49 = .ok (.isub, 1) := by decide +kernel
theorem dX8_put_50 : decode cX8_put 50 = .ok (.iconst 2, 1) := by decide +kernel
theorem dX8_put_51 : decode cX8_put 51 = .ok (.idiv, 1) := by decide +kernel
theorem dX8_put_52 : decode cX8_put 52 = .ok (.iaload, 1) := by decide +kernel
theorem dX8_put_53 : decode cX8_put 53 = .ok (.iload 4, 2) := by decide +kernel
theorem dX8_put_55 : decode cX8_put 55 = .ok (.if_icmp .le 32, 3) := by decide +kernel
theorem dX8_put_58 : decode cX8_put 58 = .ok (.aload_n 0, 1) := by decide +kernel
theorem dX8_put_59 : decode cX8_put 59 = .ok (.getfield 9, 3) := by decide +kernel
theorem dX8_put_62 : decode cX8_put 62 = .ok (.iload 5, 2) := by decide +kernel
theorem dX8_put_64 : decode cX8_put 64 = .ok (.aload_n 0, 1) := by decide +kernel
theorem dX8_put_65 : decode cX8_put 65 = .ok (.getfield 9, 3) := by decide +kernel
theorem dX8_put_68 : decode cX8_put 68 = .ok (.iload 5, 2) := by decide +kernel
theorem dX8_put_70 : decode cX8_put 70 = .ok (.iconst 1, 1) := by decide +kernel
theorem dX8_put_71 : decode cX8_put 71 = .ok (.isub, 1) := by decide +kernel
theorem dX8_put_72 : decode cX8_put 72 = .ok (.iconst 2, 1) := by decide +kernel
theorem dX8_put_73 : decode cX8_put 73 = .ok (.idiv, 1) := by decide +kernel
theorem dX8_put_74 : decode cX8_put 74 = .ok (.iaload, 1) := by decide +kernel
theorem dX8_put_75 : decode cX8_put 75 = .ok (.iastore, 1) := by decide +kernel
theorem dX8_put_76 : decode cX8_put 76 = .ok (.iload 5, 2) := by decide +kernel
theorem dX8_put_78 : decode cX8_put 78 = .ok (.iconst 1, 1) := by decide +kernel
theorem dX8_put_79 : decode cX8_put 79 = .ok (.isub, 1) := by decide +kernel
theorem dX8_put_80 : decode cX8_put 80 = .ok (.iconst 2, 1) := by decide +kernel
theorem dX8_put_81 : decode cX8_put 81 = .ok (.idiv, 1) := by decide +kernel
theorem dX8_put_82 : decode cX8_put 82 = .ok (.istore 5, 2) := by decide +kernel
theorem dX8_put_84 : decode cX8_put 84 = .ok (.goto (-47), 3) := by decide +kernel
theorem dX8_put_87 : decode cX8_put 87 = .ok (.aload_n 0, 1) := by decide +kernel
theorem dX8_put_88 : decode cX8_put 88 = .ok (.getfield 9, 3) := by decide +kernel
theorem dX8_put_91 : decode cX8_put 91 = .ok (.iload 5, 2) := by decide +kernel
theorem dX8_put_93 : decode cX8_put 93 = .ok (.iload 4, 2) := by decide +kernel
theorem dX8_put_95 : decode cX8_put 95 = .ok (.iastore, 1) := by decide +kernel
theorem dX8_put_96 : decode cX8_put 96 = .ok (.return_, 1) := by decide +kernel
theorem dX8_takeFirst_0 : decode cX8_takeFirst 0 = .ok (.aload_n 0, 1) := by decide +kernel
theorem dX8_takeFirst_1 : decode cX8_takeFirst 1 = .ok (.getfield 15, 3) := by decide +kernel
theorem dX8_takeFirst_4 : decode cX8_takeFirst 4 = .ok (.ifCond .gt 5, 3) := by decide +kernel
theorem dX8_takeFirst_7 : decode cX8_takeFirst 7 = .ok (.iconst (-1), 1) := by decide +kernel
theorem dX8_takeFirst_8 : decode cX8_takeFirst 8 = .ok (.ireturn, 1) := by decide +kernel
theorem dX8_takeFirst_9 : decode cX8_takeFirst 9 = .ok (.aload_n 0, 1) := by decide +kernel
theorem dX8_takeFirst_10 : decode cX8_takeFirst 10 = .ok (.getfield 9, 3) := by decide +kernel
theorem dX8_takeFirst_13 : decode cX8_takeFirst 13 = .ok (.iconst 0, 1) := by decide +kernel
theorem dX8_takeFirst_14 : decode cX8_takeFirst 14 = .ok (.iaload, 1) := by decide +kernel
theorem dX8_takeFirst_15 : decode cX8_takeFirst 15 = .ok (.istore_n 1, 1) := by decide +kernel
theorem dX8_takeFirst_16 : decode cX8_takeFirst 16 = .ok (.aload_n 0, 1) := by decide +kernel
theorem dX8_takeFirst_17 : decode cX8_takeFirst 17 = .ok (.dup, 1) := by decide +kernel
theorem dX8_takeFirst_18 : decode cX8_takeFirst 18 = .ok (.getfield 15, 3) := by decide +kernel
theorem dX8_takeFirst_21 : decode cX8_takeFirst 21 = .ok (.iconst 1, 1) := by decide +kernel
theorem dX8_takeFirst_22 : decode cX8_takeFirst 22 = .ok (.isub, 1) := by decide +kernel
theorem dX8_takeFirst_23 : decode cX8_takeFirst 23 = .ok (.putfield 15, 3) := by decide +kernel
theorem dX8_takeFirst_26 : decode cX8_takeFirst 26 = .ok (.aload_n 0, 1) := by decide +kernel
theorem dX8_takeFirst_27 : decode cX8_takeFirst 27 = .ok (.getfield 9, 3) := by decide +kernel
theorem dX8_takeFirst_30 : decode cX8_takeFirst 30 = .ok (.aload_n 0, 1) := by decide +kernel
theorem dX8_takeFirst_31 : decode cX8_takeFirst 31 = .ok (.getfield 15, 3) := by decide +kernel
theorem dX8_takeFirst_34 : decode cX8_takeFirst 34 = .ok (.iaload, 1) := by decide +kernel
theorem dX8_takeFirst_35 : decode cX8_takeFirst 35 = .ok (.istore_n 2, 1) := by decide +kernel
theorem dX8_takeFirst_36 : decode cX8_takeFirst 36 = .ok (.iconst 0, 1) := by decide +kernel
theorem dX8_takeFirst_37 : decode cX8_takeFirst 37 = .ok (.istore_n 3, 1) := by decide +kernel
theorem dX8_takeFirst_38 : decode cX8_takeFirst 38 = .ok (.aload_n 0, 1) := by decide +kernel
theorem dX8_takeFirst_39 : decode cX8_takeFirst 39 = .ok (.iload_n 3, 1) := by decide +kernel
theorem dX8_takeFirst_40 : decode cX8_takeFirst 40 = .ok (.invokevirtual 19, 3) := by decide +kernel
theorem dX8_takeFirst_43 : decode cX8_takeFirst 43 = .ok (.istore 4, 2) := by decide +kernel
theorem dX8_takeFirst_45 : decode cX8_takeFirst 45 = .ok (.iload 4, 2) := by decide +kernel
theorem dX8_takeFirst_47 : decode cX8_takeFirst 47 = .ok (.aload_n 0, 1) := by decide +kernel
theorem dX8_takeFirst_48 : decode cX8_takeFirst 48 = .ok (.getfield 15, 3) := by decide +kernel
theorem dX8_takeFirst_51 : decode cX8_takeFirst 51 = .ok (.if_icmp .ge 40, 3) := by decide +kernel
theorem dX8_takeFirst_54 : decode cX8_takeFirst 54 = .ok (.aload_n 0, 1) := by decide +kernel
theorem dX8_takeFirst_55 : decode cX8_takeFirst 55 = .ok (.getfield 9, 3) := by decide +kernel
theorem dX8_takeFirst_58 : decode cX8_takeFirst 58 = .ok (.iload 4, 2) := by decide +kernel
theorem dX8_takeFirst_60 : decode cX8_takeFirst 60 = .ok (.iaload, 1) := by decide +kernel
theorem dX8_takeFirst_61 : decode cX8_takeFirst 61 = .ok (.iload_n 2, 1) := by decide +kernel
theorem dX8_takeFirst_62 : decode cX8_takeFirst 62 = .ok (.if_icmp .ge 29, 3) := by decide +kernel
theorem dX8_takeFirst_65 : decode cX8_takeFirst 65 = .ok (.aload_n 0, 1) := by decide +kernel
theorem dX8_takeFirst_66 : decode cX8_takeFirst 66 = .ok (.getfield 9, 3) := by decide +kernel
theorem dX8_takeFirst_69 : decode cX8_takeFirst 69 = .ok (.iload_n 3, 1) := by decide +kernel
theorem dX8_takeFirst_70 : decode cX8_takeFirst 70 = .ok (.aload_n 0, 1) := by decide +kernel
theorem dX8_takeFirst_71 : decode cX8_takeFirst 71 = .ok (.getfield 9, 3) := by decide +kernel
theorem dX8_takeFirst_74 : decode cX8_takeFirst 74 = .ok (.iload 4, 2) := by decide +kernel
theorem dX8_takeFirst_76 : decode cX8_takeFirst 76 = .ok (.iaload, 1) := by decide +kernel
theorem dX8_takeFirst_77 : decode cX8_takeFirst 77 = .ok (.iastore, 1) := by decide +kernel
theorem dX8_takeFirst_78 : decode cX8_takeFirst 78 = .ok (.iload 4, 2) := by decide +kernel
theorem dX8_takeFirst_80 : decode cX8_takeFirst 80 = .ok (.istore_n 3, 1) := by decide +kernel
theorem dX8_takeFirst_81 : decode cX8_takeFirst 81 = .ok (.aload_n 0, 1) := by decide +kernel
theorem dX8_takeFirst_82 : decode cX8_takeFirst 82 = .ok (.iload_n 3, 1) := by decide +kernel
theorem dX8_takeFirst_83 : decode cX8_takeFirst 83 = .ok (.invokevirtual 19, 3) := by decide +kernel
theorem dX8_takeFirst_86 : decode cX8_takeFirst 86 = .ok (.istore 4, 2) := by decide +kernel
theorem dX8_takeFirst_88 : decode cX8_takeFirst 88 = .ok (.goto (-43), 3) := by decide +kernel
theorem dX8_takeFirst_91 : decode cX8_takeFirst 91 = .ok (.aload_n 0, 1) := by decide +kernel
theorem dX8_takeFirst_92 : decode cX8_takeFirst 92 = .ok (.getfield 9, 3) := by decide +kernel
theorem dX8_takeFirst_95 : decode cX8_takeFirst 95 = .ok (.iload_n 3, 1) := by decide +kernel
theorem dX8_takeFirst_96 : decode cX8_takeFirst 96 = .ok (.iload_n 2, 1) := by decide +kernel
theorem dX8_takeFirst_97 : decode cX8_takeFirst 97 = .ok (.iastore, 1) := by decide +kernel
theorem dX8_takeFirst_98 : decode cX8_takeFirst 98 = .ok (.iload_n 1, 1) := by decide +kernel
theorem dX8_takeFirst_99 : decode cX8_takeFirst 99 = .ok (.bipush 15, 2) := by decide +kernel
theorem dX8_takeFirst_101 : decode cX8_takeFirst 101 = .ok (.iand, 1) := by decide +kernel
theorem dX8_takeFirst_102 : decode cX8_takeFirst 102 = .ok (.ireturn, 1) := by decide +kernel
theorem dX8_lesserChild_0 : decode cX8_lesserChild 0 = .ok (.iconst 2, 1) := by decide +kernel
theorem dX8_lesserChild_1 : decode cX8_lesserChild 1 = .ok (.iload_n 1, 1) := by decide +kernel
theorem dX8_lesserChild_2 : decode cX8_lesserChild 2 = .ok (.imul, 1) := by decide +kernel
theorem dX8_lesserChild_3 : decode cX8_lesserChild 3 = .ok (.iconst 1, 1) := by decide +kernel
theorem dX8_lesserChild_4 : decode cX8_lesserChild 4 = .ok (.iadd, 1) := by decide +kernel
theorem dX8_lesserChild_5 : decode cX8_lesserChild 5 = .ok (.istore_n 2, 1) := by decide +kernel
theorem dX8_lesserChild_6 : decode cX8_lesserChild 6 = .ok (.iload_n 2, 1) := by decide +kernel
theorem dX8_lesserChild_7 : decode cX8_lesserChild 7 = .ok (.iconst 1, 1) := by decide +kernel
theorem dX8_lesserChild_8 : decode cX8_lesserChild 8 = .ok (.iadd, 1) := by decide +kernel
theorem dX8_lesserChild_9 : decode cX8_lesserChild 9 = .ok (.istore_n 3, 1) := by decide +kernel
theorem dX8_lesserChild_10 : decode cX8_lesserChild 10 = .ok (.iload_n 3, 1) := by decide +kernel
theorem dX8_lesserChild_11 : decode cX8_lesserChild 11 = .ok (.aload_n 0, 1) := by decide +kernel
theorem dX8_lesserChild_12 : decode cX8_lesserChild 12 = .ok (.getfield 15, 3) := by decide +kernel
theorem dX8_lesserChild_15 : decode cX8_lesserChild 15 = .ok (.if_icmp .ge 22, 3) := by decide +kernel
theorem dX8_lesserChild_18 : decode cX8_lesserChild 18 = .ok (.aload_n 0, 1) := by decide +kernel
theorem dX8_lesserChild_19 : decode cX8_lesserChild 19 = .ok (.getfield 9, 3) := by decide +kernel
theorem dX8_lesserChild_22 : decode cX8_lesserChild 22 = .ok (.iload_n 3, 1) := by decide +kernel
theorem dX8_lesserChild_23 : decode cX8_lesserChild 23 = .ok (.iaload, 1) := by decide +kernel
theorem dX8_lesserChild_24 : decode cX8_lesserChild 24 = .ok (.aload_n 0, 1) := by decide +kernel
theorem dX8_lesserChild_25 : decode cX8_lesserChild 25 = .ok (.getfield 9, 3) := by decide +kernel
theorem dX8_lesserChild_28 : decode cX8_lesserChild 28 = .ok (.iload_n 2, 1) := by decide +kernel
theorem dX8_lesserChild_29 : decode cX8_lesserChild 29 = .ok (.iaload, 1) := by decide +kernel
theorem dX8_lesserChild_30 : decode cX8_lesserChild 30 = .ok (.if_icmp .ge 7, 3) := by decide +kernel
theorem dX8_lesserChild_33 : decode cX8_lesserChild 33 = .ok (.iload_n 3, 1) := by decide +kernel
theorem dX8_lesserChild_34 : decode cX8_lesserChild 34 = .ok (.goto 4, 3) := by decide +kernel
theorem dX8_lesserChild_37 : decode cX8_lesserChild 37 = .ok (.iload_n 2, 1) := by decide +kernel
theorem dX8_lesserChild_38 : decode cX8_lesserChild 38 = .ok (.ireturn, 1) := by decide +kernel
theorem dX9_init_0 : decode cX9_init 0 = .ok (.aload_n 0, 1) := by decide +kernel
theorem dX9_init_1 : decode cX9_init 1 = .ok (.invokespecial 1, 3) := by decide +kernel
theorem dX9_init_4 : decode cX9_init 4 = .ok (.aload_n 0, 1) := by decide +kernel
theorem dX9_init_5 : decode cX9_init 5 = .ok (.new 7, 3) := by decide +kernel
theorem dX9_init_8 : decode cX9_init 8 = .ok (.dup, 1) := by decide +kernel
theorem dX9_init_9 : decode cX9_init 9 = .ok (.invokespecial 9, 3) := by decide +kernel
theorem dX9_init_12 : decode cX9_init 12 = .ok (.putfield 10, 3) := by decide +kernel
theorem dX9_init_15 : decode cX9_init 15 = .ok (.aload_n 0, 1) := by decide +kernel
theorem dX9_init_16 : decode cX9_init 16 = .ok (.new 7, 3) := by decide +kernel
theorem dX9_init_19 : decode cX9_init 19 = .ok (.dup, 1) := by decide +kernel
theorem dX9_init_20 : decode cX9_init 20 = .ok (.invokespecial 9, 3) := by decide +kernel
theorem dX9_init_23 : decode cX9_init 23 = .ok (.putfield 16, 3) := by decide +kernel
theorem dX9_init_26 : decode cX9_init 26 = .ok (.aload_n 0, 1) := by decide +kernel
theorem dX9_init_27 : decode cX9_init 27 = .ok (.new 7, 3) := by decide +kernel
theorem dX9_init_30 : decode cX9_init 30 = .ok (.dup, 1) := by decide +kernel
theorem dX9_init_31 : decode cX9_init 31 = .ok (.invokespecial 9, 3) := by decide +kernel
theorem dX9_init_34 : decode cX9_init 34 = .ok (.putfield 19, 3) := by decide +kernel
theorem dX9_init_37 : decode cX9_init 37 = .ok (.aload_n 0, 1) := by decide +kernel
theorem dX9_init_38 : decode cX9_init 38 = .ok (.new 22, 3) := by decide +kernel
theorem dX9_init_41 : decode cX9_init 41 = .ok (.dup, 1) := by decide +kernel
theorem dX9_init_42 : decode cX9_init 42 = .ok (.invokespecial 24, 3) := by decide +kernel
theorem dX9_init_45 : decode cX9_init 45 = .ok (.putfield 25, 3) := by decide +kernel
theorem dX9_init_48 : decode cX9_init 48 = .ok (.aload_n 0, 1) := by decide +kernel
theorem dX9_init_49 : decode cX9_init 49 = .ok (.new 29, 3) := by decide +kernel
theorem dX9_init_52 : decode cX9_init 52 = .ok (.dup, 1) := by decide +kernel
theorem dX9_init_53 : decode cX9_init 53 = .ok (.invokespecial 31, 3) := by decide +kernel
theorem dX9_init_56 : decode cX9_init 56 = .ok (.putfield 32, 3) := by decide +kernel
theorem dX9_init_59 : decode cX9_init 59 = .ok (.aload_n 0, 1) := by decide +kernel
theorem dX9_init_60 : decode cX9_init 60 = .ok (.new 36, 3) := by decide +kernel
theorem dX9_init_63 : decode cX9_init 63 = .ok (.dup, 1) := by decide +kernel
theorem dX9_init_64 : decode cX9_init 64 = .ok (.invokespecial 38, 3) := by decide +kernel
theorem dX9_init_67 : decode cX9_init 67 = .ok (.putfield 39, 3) := by decide +kernel
theorem dX9_init_70 : decode cX9_init 70 = .ok (.aload_n 0, 1) := by decide +kernel
theorem dX9_init_71 : decode cX9_init 71 = .ok (.new 43, 3) := by decide +kernel
theorem dX9_init_74 : decode cX9_init 74 = .ok (.dup, 1) := by decide +kernel
theorem dX9_init_75 : decode cX9_init 75 = .ok (.invokespecial 45, 3) := by decide +kernel
theorem dX9_init_78 : decode cX9_init 78 = .ok (.putfield 46, 3) := by decide +kernel
theorem dX9_init_81 : decode cX9_init 81 = .ok (.aload_n 0, 1) := by decide +kernel
theorem dX9_init_82 : decode cX9_init 82 = .ok (.new 43, 3) := by decide +kernel
theorem dX9_init_85 : decode cX9_init 85 = .ok (.dup, 1) := by decide +kernel
theorem dX9_init_86 : decode cX9_init 86 = .ok (.invokespecial 45, 3) := by decide +kernel
theorem dX9_init_89 : decode cX9_init 89 = .ok (.putfield 50, 3) := by decide +kernel
theorem dX9_init_92 : decode cX9_init 92 = .ok (.aload_n 0, 1) := by decide +kernel
theorem dX9_init_93 : decode cX9_init 93 = .ok (.iconst (-1), 1) := by decide +kernel
theorem dX9_init_94 : decode cX9_init 94 = .ok (.putfield 53, 3) := by decide +kernel
theorem dX9_init_97 : decode cX9_init 97 = .ok (.aload_n 0, 1) := by decide +kernel
theorem dX9_init_98 : decode cX9_init 98 = .ok (.iconst (-1), 1) := by decide +kernel
theorem dX9_init_99 : decode cX9_init 99 = .ok (.putfield 57, 3) := by decide +kernel
theorem dX9_init_102 : decode cX9_init 102 = .ok (.return_, 1) := by decide +kernel
theorem dX9_addFrog_0 : decode cX9_addFrog 0 = .ok (.aload_n 0, 1) := by decide +kernel
theorem dX9_addFrog_1 : decode cX9_addFrog 1 = .ok (.getfield 10, 3) := by decide +kernel
theorem dX9_addFrog_4 : decode cX9_addFrog 4 = .ok (.iload_n 1, 1) := by decide +kernel
theorem dX9_addFrog_5 : decode cX9_addFrog 5 = .ok (.iload_n 2, 1) := by decide +kernel
theorem dX9_addFrog_6 : decode cX9_addFrog 6 = .ok (.invokevirtual 60, 3) := by decide +kernel
theorem dX9_addFrog_9 : decode cX9_addFrog 9 = .ok (.invokestatic 64, 3) := by decide +kernel
theorem dX9_addFrog_12 : decode cX9_addFrog 12 = .ok (.aload_n 0, 1) := by decide +kernel
theorem dX9_addFrog_13 : decode cX9_addFrog 13 = .ok (.getfield 25, 3) := by decide +kernel
theorem dX9_addFrog_16 : decode cX9_addFrog 16 = .ok (.aload_n 0, 1) := by decide +kernel
theorem dX9_addFrog_17 : decode cX9_addFrog 17 = .ok (.getfield 10, 3) := by decide +kernel
theorem dX9_addFrog_20 : decode cX9_addFrog 20 = .ok (.invokevirtual 68, 3) := by decide +kernel
theorem dX9_addFrog_23 : decode cX9_addFrog 23 = .ok (.aload_n 0, 1) := by decide +kernel
theorem dX9_addFrog_24 : decode cX9_addFrog 24 = .ok (.getfield 10, 3) := by decide +kernel
theorem dX9_addFrog_27 : decode cX9_addFrog 27 = .ok (.iload_n 1, 1) := by decide +kernel
theorem dX9_addFrog_28 : decode cX9_addFrog 28 = .ok (.iload_n 2, 1) := by decide +kernel
theorem dX9_addFrog_29 : decode cX9_addFrog 29 = .ok (.invokevirtual 72, 3) := by decide +kernel
theorem dX9_addFrog_32 : decode cX9_addFrog 32 = .ok (.ireturn, 1) := by decide +kernel
theorem dX9_addPad_0 : decode cX9_addPad 0 = .ok (.aload_n 0, 1) := by decide +kernel
theorem dX9_addPad_1 : decode cX9_addPad 1 = .ok (.getfield 10, 3) := by decide +kernel
theorem dX9_addPad_4 : decode cX9_addPad 4 = .ok (.iload_n 1, 1) := by decide +kernel
theorem dX9_addPad_5 : decode cX9_addPad 5 = .ok (.invokevirtual 76, 3) := by decide +kernel
theorem dX9_addPad_8 : decode cX9_addPad 8 = .ok (.invokestatic 64, 3) := by decide +kernel
theorem dX9_addPad_11 : decode cX9_addPad 11 = .ok (.aload_n 0, 1) := by decide +kernel
theorem dX9_addPad_12 : decode cX9_addPad 12 = .ok (.getfield 25, 3) := by decide +kernel
theorem dX9_addPad_15 : decode cX9_addPad 15 = .ok (.aload_n 0, 1) := by decide +kernel
theorem dX9_addPad_16 : decode cX9_addPad 16 = .ok (.getfield 10, 3) := by decide +kernel
theorem dX9_addPad_19 : decode cX9_addPad 19 = .ok (.invokevirtual 68, 3) := by decide +kernel
theorem dX9_addPad_22 : decode cX9_addPad 22 = .ok (.aload_n 0, 1) := by decide +kernel
theorem dX9_addPad_23 : decode cX9_addPad 23 = .ok (.getfield 10, 3) := by decide +kernel
theorem dX9_addPad_26 : decode cX9_addPad 26 = .ok (.iload_n 1, 1) := by decide +kernel
theorem dX9_addPad_27 : decode cX9_addPad 27 = .ok (.invokevirtual 80, 3) := by decide +kernel
theorem dX9_addPad_30 : decode cX9_addPad 30 = .ok (.ireturn, 1) := by decide +kernel
theorem dX9_hop_0 : decode cX9_hop 0 = .ok (.aload_n 0, 1) := by decide +kernel
theorem dX9_hop_1 : decode cX9_hop 1 = .ok (.getfield 10, 3) := by decide +kernel
theorem dX9_hop_4 : decode cX9_hop 4 = .ok (.iload_n 1, 1) := by decide +kernel
theorem dX9_hop_5 : decode cX9_hop 5 = .ok (.iload_n 2, 1) := by decide +kernel
theorem dX9_hop_6 : decode cX9_hop 6 = .ok (.invokevirtual 84, 3) := by decide +kernel
theorem dX9_hop_9 : decode cX9_hop 9 = .ok (.invokestatic 64, 3) := by decide +kernel
theorem dX9_hop_12 : decode cX9_hop 12 = .ok (.aload_n 0, 1) := by decide +kernel
theorem dX9_hop_13 : decode cX9_hop 13 = .ok (.getfield 25, 3) := by decide +kernel
theorem dX9_hop_16 : decode cX9_hop 16 = .ok (.aload_n 0, 1) := by decide +kernel
theorem dX9_hop_17 : decode cX9_hop 17 = .ok (.getfield 10, 3) := by decide +kernel
theorem dX9_hop_20 : decode cX9_hop 20 = .ok (.invokevirtual 68, 3) := by decide +kernel
theorem dX9_hop_23 : decode cX9_hop 23 = .ok (.aload_n 0, 1) := by decide +kernel
theorem dX9_hop_24 : decode cX9_hop 24 = .ok (.getfield 10, 3) := by decide +kernel
theorem dX9_hop_27 : decode cX9_hop 27 = .ok (.iload_n 1, 1) := by decide +kernel
theorem dX9_hop_28 : decode cX9_hop 28 = .ok (.iload_n 2, 1) := by decide +kernel
theorem dX9_hop_29 : decode cX9_hop 29 = .ok (.invokevirtual 87, 3) := by decide +kernel
theorem dX9_hop_32 : decode cX9_hop 32 = .ok (.ireturn, 1) := by decide +kernel
theorem dX9_dive_0 : decode cX9_dive 0 = .ok (.aload_n 0, 1) := by decide +kernel
theorem dX9_dive_1 : decode cX9_dive 1 = .ok (.getfield 10, 3) := by decide +kernel
theorem dX9_dive_4 : decode cX9_dive 4 = .ok (.iload_n 1, 1) := by decide +kernel
theorem dX9_dive_5 : decode cX9_dive 5 = .ok (.invokevirtual 90, 3) := by decide +kernel
theorem dX9_dive_8 : decode cX9_dive 8 = .ok (.invokestatic 64, 3) := by decide +kernel
theorem dX9_dive_11 : decode cX9_dive 11 = .ok (.aload_n 0, 1) := by decide +kernel
theorem dX9_dive_12 : decode cX9_dive 12 = .ok (.getfield 25, 3) := by decide +kernel
theorem dX9_dive_15 : decode cX9_dive 15 = .ok (.aload_n 0, 1) := by decide +kernel
theorem dX9_dive_16 : decode cX9_dive 16 = .ok (.getfield 10, 3) := by decide +kernel
theorem dX9_dive_19 : decode cX9_dive 19 = .ok (.invokevirtual 68, 3) := by decide +kernel
theorem dX9_dive_22 : decode cX9_dive 22 = .ok (.aload_n 0, 1) := by decide +kernel
theorem dX9_dive_23 : decode cX9_dive 23 = .ok (.getfield 10, 3) := by decide +kernel
theorem dX9_dive_26 : decode cX9_dive 26 = .ok (.iload_n 1, 1) := by decide +kernel
theorem dX9_dive_27 : decode cX9_dive 27 = .ok (.invokevirtual 93, 3) := by decide +kernel
theorem dX9_dive_30 : decode cX9_dive 30 = .ok (.ireturn, 1) := by decide +kernel
theorem dX9_frogCount_0 : decode cX9_frogCount 0 = .ok (.aload_n 0, 1) := by decide +kernel
theorem dX9_frogCount_1 : decode cX9_frogCount 1 = .ok (.getfield 10, 3) := by decide +kernel
theorem dX9_frogCount_4 : decode cX9_frogCount 4 = .ok (.getfield 96, 3) := by decide +kernel
theorem dX9_frogCount_7 : decode cX9_frogCount 7 = .ok (.ireturn, 1) := by decide +kernel
theorem dX9_pondOf_0 : decode cX9_pondOf 0 = .ok (.aload_n 0, 1) := by decide +kernel
theorem dX9_pondOf_1 : decode cX9_pondOf 1 = .ok (.iload_n 1, 1) := by decide +kernel
theorem dX9_pondOf_2 : decode cX9_pondOf 2 = .ok (.invokevirtual 99, 3) := by decide +kernel
theorem dX9_pondOf_5 : decode cX9_pondOf 5 = .ok (.aload_n 0, 1) := by decide +kernel
theorem dX9_pondOf_6 : decode cX9_pondOf 6 = .ok (.getfield 10, 3) := by decide +kernel
theorem dX9_pondOf_9 : decode cX9_pondOf 9 = .ok (.getfield 103, 3) := by decide +kernel
theorem dX9_pondOf_12 : decode cX9_pondOf 12 = .ok (.iload_n 1, 1) := by decide +kernel
theorem dX9_pondOf_13 : decode cX9_pondOf 13 = .ok (.iaload, 1) := by decide +kernel
theorem dX9_pondOf_14 : decode cX9_pondOf 14 = .ok (.ireturn, 1) := by decide +kernel
theorem dX9_weightOf_0 : decode cX9_weightOf 0 = .ok (.aload_n 0, 1) := by decide +kernel
theorem dX9_weightOf_1 : decode cX9_weightOf 1 = .ok (.iload_n 1, 1) := by decide +kernel
theorem dX9_weightOf_2 : decode cX9_weightOf 2 = .ok (.invokevirtual 99, 3) := by decide +kernel
theorem dX9_weightOf_5 : decode cX9_weightOf 5 = .ok (.aload_n 0, 1) := by decide +kernel
theorem dX9_weightOf_6 : decode cX9_weightOf 6 = .ok (.getfield 10, 3) := by decide +kernel
theorem dX9_weightOf_9 : decode cX9_weightOf 9 = .ok (.getfield 107, 3) := by decide +kernel
theorem dX9_weightOf_12 : decode cX9_weightOf 12 = .ok (.iload_n 1, 1) := by decide +kernel
theorem dX9_weightOf_13 : decode cX9_weightOf 13 = .ok (.iaload, 1) := by decide +kernel
theorem dX9_weightOf_14 : decode cX9_weightOf 14 = .ok (.ireturn, 1) := by decide +kernel
theorem dX9_padOf_0 : decode cX9_padOf 0 = .ok (.aload_n 0, 1) := by decide +kernel
theorem dX9_padOf_1 : decode cX9_padOf 1 = .ok (.iload_n 1, 1) := by decide +kernel
theorem dX9_padOf_2 : decode cX9_padOf 2 = .ok (.invokevirtual 99, 3) := by decide +kernel
theorem dX9_padOf_5 : decode cX9_padOf 5 = .ok (.aload_n 0, 1) := by decide +kernel
theorem dX9_padOf_6 : decode cX9_padOf 6 = .ok (.getfield 10, 3) := by decide +kernel
theorem dX9_padOf_9 : decode cX9_padOf 9 = .ok (.iload_n 1, 1) := by decide +kernel
theorem dX9_padOf_10 : decode cX9_padOf 10 = .ok (.invokevirtual 110, 3) := by decide +kernel
theorem dX9_padOf_13 : decode cX9_padOf 13 = .ok (.ifCond .ne 13, 3) := by decide +kernel
theorem dX9_padOf_16 : decode cX9_padOf 16 = .ok (.new 114, 3) := by decide +kernel
theorem dX9_padOf_19 : decode cX9_padOf 19 = .ok (.dup, 1) := by decide +kernel
theorem dX9_padOf_20 : decode cX9_padOf 20 = .ok (.ldc 116, 2) := by decide +kernel
theorem dX9_padOf_22 : decode cX9_padOf 22 = .ok (.invokespecial 118, 3) := by decide +kernel
theorem dX9_padOf_25 : decode cX9_padOf 25 = .ok (.athrow, 1) := by decide +kernel
theorem dX9_padOf_26 : decode cX9_padOf 26 = .ok (.aload_n 0, 1) := by decide +kernel
theorem dX9_padOf_27 : decode cX9_padOf 27 = .ok (.getfield 10, 3) := by decide +kernel
theorem dX9_padOf_30 : decode cX9_padOf 30 = .ok (.getfield 121, 3) := by decide +kernel
theorem dX9_padOf_33 : decode cX9_padOf 33 = .ok (.iload_n 1, 1) := by decide +kernel
theorem dX9_padOf_34 : decode cX9_padOf 34 = .ok (.iaload, 1) := by decide +kernel
theorem dX9_padOf_35 : decode cX9_padOf 35 = .ok (.ireturn, 1) := by decide +kernel
theorem dX9_padCount_0 : decode cX9_padCount 0 = .ok (.aload_n 0, 1) := by decide +kernel
theorem dX9_padCount_1 : decode cX9_padCount 1 = .ok (.getfield 10, 3) := by decide +kernel
theorem dX9_padCount_4 : decode cX9_padCount 4 = .ok (.getfield 124, 3) := by decide +kernel
theorem dX9_padCount_7 : decode cX9_padCount 7 = .ok (.ireturn, 1) := by decide +kernel
theorem dX9_frogsOn_0 : decode cX9_frogsOn 0 = .ok (.aload_n 0, 1) := by decide +kernel
theorem dX9_frogsOn_1 : decode cX9_frogsOn 1 = .ok (.iload_n 1, 1) := by decide +kernel
theorem dX9_frogsOn_2 : decode cX9_frogsOn 2 = .ok (.invokevirtual 127, 3) := by decide +kernel
theorem dX9_frogsOn_5 : decode cX9_frogsOn 5 = .ok (.aload_n 0, 1) := by decide +kernel
theorem dX9_frogsOn_6 : decode cX9_frogsOn 6 = .ok (.getfield 10, 3) := by decide +kernel
theorem dX9_frogsOn_9 : decode cX9_frogsOn 9 = .ok (.iload_n 1, 1) := by decide +kernel
theorem dX9_frogsOn_10 : decode cX9_frogsOn 10 = .ok (.invokevirtual 130, 3) := by decide +kernel
theorem dX9_frogsOn_13 : decode cX9_frogsOn 13 = .ok (.ireturn, 1) := by decide +kernel
theorem dX9_padWeight_0 : decode cX9_padWeight 0 = .ok (.aload_n 0, 1) := by decide +kernel
theorem dX9_padWeight_1 : decode cX9_padWeight 1 = .ok (.iload_n 1, 1) := by decide +kernel
theorem dX9_padWeight_2 : decode cX9_padWeight 2 = .ok (.invokevirtual 127, 3) := by decide +kernel
theorem dX9_padWeight_5 : decode cX9_padWeight 5 = .ok (.aload_n 0, 1) := by decide +kernel
theorem dX9_padWeight_6 : decode cX9_padWeight 6 = .ok (.getfield 10, 3) := by decide +kernel
theorem dX9_padWeight_9 : decode cX9_padWeight 9 = .ok (.aload_n 0, 1) := by decide +kernel
theorem dX9_padWeight_10 : decode cX9_padWeight 10 = .ok (.getfield 10, 3) := by decide +kernel
theorem dX9_padWeight_13 : decode cX9_padWeight 13 = .ok (.iload_n 1, 1) := by decide +kernel
theorem dX9_padWeight_14 : decode cX9_padWeight 14 = .ok (.invokevirtual 133, 3) := by decide +kernel
theorem dX9_padWeight_17 : decode cX9_padWeight 17 = .ok (.invokevirtual 136, 3) := by decide +kernel
theorem dX9_padWeight_20 : decode cX9_padWeight 20 = .ok (.ireturn, 1) := by decide +kernel
theorem dX9_sittingCount_0 : decode cX9_sittingCount 0 = .ok (.iconst 0, 1) := by decide +kernel
theorem dX9_sittingCount_1 : decode cX9_sittingCount 1 = .ok (.istore_n 1, 1) := by decide +kernel
theorem dX9_sittingCount_2 : decode cX9_sittingCount 2 = .ok (.iconst 0, 1) := by decide +kernel
theorem dX9_sittingCount_3 : decode cX9_sittingCount 3 = .ok (.istore_n 2, 1) := by decide +kernel
theorem dX9_sittingCount_4 : decode cX9_sittingCount 4 = .ok (.iload_n 2, 1) := by decide +kernel
theorem dX9_sittingCount_5 : decode cX9_sittingCount 5 = .ok (.aload_n 0, 1) := by decide +kernel
theorem dX9_sittingCount_6 : decode cX9_sittingCount 6 = .ok (.getfield 10, 3) := by decide +kernel
theorem dX9_sittingCount_9 : decode cX9_sittingCount 9 = .ok (.getfield 124, 3) := by decide +kernel
theorem dX9_sittingCount_12 : decode cX9_sittingCount 12 = .ok (.if_icmp .ge 20, 3) := by decide +kernel
theorem dX9_sittingCount_15 : decode cX9_sittingCount 15 = .ok (.iload_n 1, 1) := by decide +kernel
theorem dX9_sittingCount_16 : decode cX9_sittingCount 16 = .ok (.aload_n 0, 1) := by decide +kernel
theorem dX9_sittingCount_17 : decode cX9_sittingCount 17 = .ok (.getfield 10, 3) := by decide +kernel
theorem dX9_sittingCount_20 : decode cX9_sittingCount 20 = .ok (.iload_n 2, 1) := by decide +kernel
theorem dX9_sittingCount_21 : decode cX9_sittingCount 21 = .ok (.invokevirtual 130, 3) := by decide +kernel
theorem dX9_sittingCount_24 : decode cX9_sittingCount 24 = .ok (.iadd, 1) := by decide +kernel
theorem dX9_sittingCount_25 : decode cX9_sittingCount 25 = .ok (.istore_n 1, 1) := by decide +kernel
theorem dX9_sittingCount_26 : decode cX9_sittingCount 26 = .ok (.iinc 2 1, 3) := by decide +kernel
theorem dX9_sittingCount_29 : decode cX9_sittingCount 29 = .ok (.goto (-25), 3) := by decide +kernel
theorem dX9_sittingCount_32 : decode cX9_sittingCount 32 = .ok (.iload_n 1, 1) := by decide +kernel
theorem dX9_sittingCount_33 : decode cX9_sittingCount 33 = .ok (.ireturn, 1) := by decide +kernel
theorem dX9_sittingCountBySet_0 : decode cX9_sittingCountBySet 0 = .ok (.aload_n 0, 1) := by decide +kernel
theorem dX9_sittingCountBySet_1 : decode cX9_sittingCountBySet 1 = .ok (.getfield 10, 3) := by decide +kernel
theorem dX9_sittingCountBySet_4 : decode cX9_sittingCountBySet 4 = .ok (.getfield 139, 3) := by decide +kernel
theorem dX9_sittingCountBySet_7 : decode cX9_sittingCountBySet 7 = .ok (.invokestatic 142, 3) := by decide +kernel
theorem dX9_sittingCountBySet_10 : decode cX9_sittingCountBySet 10 = .ok (.ireturn, 1) := by decide +kernel
theorem dX9_addMotion_0 : decode cX9_addMotion 0 = .ok (.aload_n 0, 1) := by decide +kernel
theorem dX9_addMotion_1 : decode cX9_addMotion 1 = .ok (.getfield 10, 3) := by decide +kernel
theorem dX9_addMotion_4 : decode cX9_addMotion 4 = .ok (.iload_n 1, 1) := by decide +kernel
theorem dX9_addMotion_5 : decode cX9_addMotion 5 = .ok (.invokevirtual 147, 3) := by decide +kernel
theorem dX9_addMotion_8 : decode cX9_addMotion 8 = .ok (.invokestatic 64, 3) := by decide +kernel
theorem dX9_addMotion_11 : decode cX9_addMotion 11 = .ok (.aload_n 0, 1) := by decide +kernel
theorem dX9_addMotion_12 : decode cX9_addMotion 12 = .ok (.getfield 25, 3) := by decide +kernel
theorem dX9_addMotion_15 : decode cX9_addMotion 15 = .ok (.aload_n 0, 1) := by decide +kernel
theorem dX9_addMotion_16 : decode cX9_addMotion 16 = .ok (.getfield 10, 3) := by decide +kernel
theorem dX9_addMotion_19 : decode cX9_addMotion 19 = .ok (.invokevirtual 68, 3) := by decide +kernel
theorem dX9_addMotion_22 : decode cX9_addMotion 22 = .ok (.aload_n 0, 1) := by decide +kernel
theorem dX9_addMotion_23 : decode cX9_addMotion 23 = .ok (.getfield 10, 3) := by decide +kernel
theorem dX9_addMotion_26 : decode cX9_addMotion 26 = .ok (.iload_n 1, 1) := by decide +kernel
theorem dX9_addMotion_27 : decode cX9_addMotion 27 = .ok (.invokevirtual 150, 3) := by decide +kernel
theorem dX9_addMotion_30 : decode cX9_addMotion 30 = .ok (.ireturn, 1) := by decide +kernel
theorem dX9_motionCount_0 : decode cX9_motionCount 0 = .ok (.aload_n 0, 1) := by decide +kernel
theorem dX9_motionCount_1 : decode cX9_motionCount 1 = .ok (.getfield 10, 3) := by decide +kernel
theorem dX9_motionCount_4 : decode cX9_motionCount 4 = .ok (.getfield 153, 3) := by decide +kernel
theorem dX9_motionCount_7 : decode cX9_motionCount 7 = .ok (.ireturn, 1) := by decide +kernel
theorem dX9_isEntitled_0 : decode cX9_isEntitled 0 = .ok (.aload_n 0, 1) := by decide +kernel
theorem dX9_isEntitled_1 : decode cX9_isEntitled 1 = .ok (.getfield 10, 3) := by decide +kernel
theorem dX9_isEntitled_4 : decode cX9_isEntitled 4 = .ok (.iload_n 1, 1) := by decide +kernel
theorem dX9_isEntitled_5 : decode cX9_isEntitled 5 = .ok (.iload_n 2, 1) := by decide +kernel
theorem dX9_isEntitled_6 : decode cX9_isEntitled 6 = .ok (.invokevirtual 156, 3) := by decide +kernel
theorem dX9_isEntitled_9 : decode cX9_isEntitled 9 = .ok (.invokestatic 64, 3) := by decide +kernel
theorem dX9_isEntitled_12 : decode cX9_isEntitled 12 = .ok (.aload_n 0, 1) := by decide +kernel
theorem dX9_isEntitled_13 : decode cX9_isEntitled 13 = .ok (.getfield 10, 3) := by decide +kernel
theorem dX9_isEntitled_16 : decode cX9_isEntitled 16 = .ok (.iload_n 1, 1) := by decide +kernel
theorem dX9_isEntitled_17 : decode cX9_isEntitled 17 = .ok (.iload_n 2, 1) := by decide +kernel
theorem dX9_isEntitled_18 : decode cX9_isEntitled 18 = .ok (.invokevirtual 159, 3) := by decide +kernel
theorem dX9_isEntitled_21 : decode cX9_isEntitled 21 = .ok (.ireturn, 1) := by decide +kernel
theorem dX9_signUp_0 : decode cX9_signUp 0 = .ok (.aload_n 0, 1) := by decide +kernel
theorem dX9_signUp_1 : decode cX9_signUp 1 = .ok (.getfield 10, 3) := by decide +kernel
theorem dX9_signUp_4 : decode cX9_signUp 4 = .ok (.iload_n 1, 1) := by decide +kernel
theorem dX9_signUp_5 : decode cX9_signUp 5 = .ok (.iload_n 2, 1) := by decide +kernel
theorem dX9_signUp_6 : decode cX9_signUp 6 = .ok (.invokevirtual 163, 3) := by decide +kernel
theorem dX9_signUp_9 : decode cX9_signUp 9 = .ok (.invokestatic 64, 3) := by decide +kernel
theorem dX9_signUp_12 : decode cX9_signUp 12 = .ok (.aload_n 0, 1) := by decide +kernel
theorem dX9_signUp_13 : decode cX9_signUp 13 = .ok (.getfield 25, 3) := by decide +kernel
theorem dX9_signUp_16 : decode cX9_signUp 16 = .ok (.aload_n 0, 1) := by decide +kernel
theorem dX9_signUp_17 : decode cX9_signUp 17 = .ok (.getfield 10, 3) := by decide +kernel
theorem dX9_signUp_20 : decode cX9_signUp 20 = .ok (.invokevirtual 68, 3) := by decide +kernel
theorem dX9_signUp_23 : decode cX9_signUp 23 = .ok (.aload_n 0, 1) := by decide +kernel
theorem dX9_signUp_24 : decode cX9_signUp 24 = .ok (.getfield 10, 3) := by decide +kernel
theorem dX9_signUp_27 : decode cX9_signUp 27 = .ok (.iload_n 1, 1) := by decide +kernel
theorem dX9_signUp_28 : decode cX9_signUp 28 = .ok (.iload_n 2, 1) := by decide +kernel
theorem dX9_signUp_29 : decode cX9_signUp 29 = .ok (.invokevirtual 166, 3) := by decide +kernel
theorem dX9_signUp_32 : decode cX9_signUp 32 = .ok (.ireturn, 1) := by decide +kernel
theorem dX9_strike_0 : decode cX9_strike 0 = .ok (.aload_n 0, 1) := by decide +kernel
theorem dX9_strike_1 : decode cX9_strike 1 = .ok (.getfield 10, 3) := by decide +kernel
theorem dX9_strike_4 : decode cX9_strike 4 = .ok (.iload_n 1, 1) := by decide +kernel
theorem dX9_strike_5 : decode cX9_strike 5 = .ok (.iload_n 2, 1) := by decide +kernel
theorem dX9_strike_6 : decode cX9_strike 6 = .ok (.invokevirtual 169, 3) := by decide +kernel
theorem dX9_strike_9 : decode cX9_strike 9 = .ok (.invokestatic 64, 3) := by decide +kernel
theorem dX9_strike_12 : decode cX9_strike 12 = .ok (.aload_n 0, 1) := by decide +kernel
theorem dX9_strike_13 : decode cX9_strike 13 = .ok (.getfield 25, 3) := by decide +kernel
theorem dX9_strike_16 : decode cX9_strike 16 = .ok (.aload_n 0, 1) := by decide +kernel
theorem dX9_strike_17 : decode cX9_strike 17 = .ok (.getfield 10, 3) := by decide +kernel
theorem dX9_strike_20 : decode cX9_strike 20 = .ok (.invokevirtual 68, 3) := by decide +kernel
theorem dX9_strike_23 : decode cX9_strike 23 = .ok (.aload_n 0, 1) := by decide +kernel
theorem dX9_strike_24 : decode cX9_strike 24 = .ok (.getfield 10, 3) := by decide +kernel
theorem dX9_strike_27 : decode cX9_strike 27 = .ok (.iload_n 1, 1) := by decide +kernel
theorem dX9_strike_28 : decode cX9_strike 28 = .ok (.iload_n 2, 1) := by decide +kernel
theorem dX9_strike_29 : decode cX9_strike 29 = .ok (.invokevirtual 172, 3) := by decide +kernel
theorem dX9_strike_32 : decode cX9_strike 32 = .ok (.ireturn, 1) := by decide +kernel
theorem dX9_callNext_0 : decode cX9_callNext 0 = .ok (.aload_n 0, 1) := by decide +kernel
theorem dX9_callNext_1 : decode cX9_callNext 1 = .ok (.getfield 10, 3) := by decide +kernel
theorem dX9_callNext_4 : decode cX9_callNext 4 = .ok (.iload_n 1, 1) := by decide +kernel
theorem dX9_callNext_5 : decode cX9_callNext 5 = .ok (.invokevirtual 175, 3) := by decide +kernel
theorem dX9_callNext_8 : decode cX9_callNext 8 = .ok (.invokestatic 64, 3) := by decide +kernel
theorem dX9_callNext_11 : decode cX9_callNext 11 = .ok (.aload_n 0, 1) := by decide +kernel
theorem dX9_callNext_12 : decode cX9_callNext 12 = .ok (.getfield 25, 3) := by decide +kernel
theorem dX9_callNext_15 : decode cX9_callNext 15 = .ok (.aload_n 0, 1) := by decide +kernel
theorem dX9_callNext_16 : decode cX9_callNext 16 = .ok (.getfield 10, 3) := by decide +kernel
theorem dX9_callNext_19 : decode cX9_callNext 19 = .ok (.invokevirtual 68, 3) := by decide +kernel
theorem dX9_callNext_22 : decode cX9_callNext 22 = .ok (.aload_n 0, 1) := by decide +kernel
theorem dX9_callNext_23 : decode cX9_callNext 23 = .ok (.getfield 10, 3) := by decide +kernel
theorem dX9_callNext_26 : decode cX9_callNext 26 = .ok (.iload_n 1, 1) := by decide +kernel
theorem dX9_callNext_27 : decode cX9_callNext 27 = .ok (.invokevirtual 178, 3) := by decide +kernel
theorem dX9_callNext_30 : decode cX9_callNext 30 = .ok (.ireturn, 1) := by decide +kernel
theorem dX9_listLength_0 : decode cX9_listLength 0 = .ok (.aload_n 0, 1) := by decide +kernel
theorem dX9_listLength_1 : decode cX9_listLength 1 = .ok (.iload_n 1, 1) := by decide +kernel
theorem dX9_listLength_2 : decode cX9_listLength 2 = .ok (.invokevirtual 181, 3) := by decide +kernel
theorem dX9_listLength_5 : decode cX9_listLength 5 = .ok (.aload_n 0, 1) := by decide +kernel
theorem dX9_listLength_6 : decode cX9_listLength 6 = .ok (.getfield 10, 3) := by decide +kernel
theorem dX9_listLength_9 : decode cX9_listLength 9 = .ok (.getfield 184, 3) := by decide +kernel
theorem dX9_listLength_12 : decode cX9_listLength 12 = .ok (.iload_n 1, 1) := by decide +kernel
theorem dX9_listLength_13 : decode cX9_listLength 13 = .ok (.aaload, 1) := by decide +kernel
theorem dX9_listLength_14 : decode cX9_listLength 14 = .ok (.getfield 188, 3) := by decide +kernel
theorem dX9_listLength_17 : decode cX9_listLength 17 = .ok (.ireturn, 1) := by decide +kernel
theorem dX9_nextFrog_0 : decode cX9_nextFrog 0 = .ok (.aload_n 0, 1) := by decide +kernel
theorem dX9_nextFrog_1 : decode cX9_nextFrog 1 = .ok (.getfield 10, 3) := by decide +kernel
theorem dX9_nextFrog_4 : decode cX9_nextFrog 4 = .ok (.iload_n 1, 1) := by decide +kernel
theorem dX9_nextFrog_5 : decode cX9_nextFrog 5 = .ok (.invokevirtual 175, 3) := by decide +kernel
theorem dX9_nextFrog_8 : decode cX9_nextFrog 8 = .ok (.invokestatic 64, 3) := by decide +kernel
theorem dX9_nextFrog_11 : decode cX9_nextFrog 11 = .ok (.aload_n 0, 1) := by decide +kernel
theorem dX9_nextFrog_12 : decode cX9_nextFrog 12 = .ok (.iload_n 1, 1) := by decide +kernel
theorem dX9_nextFrog_13 : decode cX9_nextFrog 13 = .ok (.invokevirtual 193, 3) := by decide +kernel
theorem dX9_nextFrog_16 : decode cX9_nextFrog 16 = .ok (.aload_n 0, 1) := by decide +kernel
theorem dX9_nextFrog_17 : decode cX9_nextFrog 17 = .ok (.getfield 32, 3) := by decide +kernel
theorem dX9_nextFrog_20 : decode cX9_nextFrog 20 = .ok (.invokevirtual 196, 3) := by decide +kernel
theorem dX9_nextFrog_23 : decode cX9_nextFrog 23 = .ok (.ireturn, 1) := by decide +kernel
theorem dX9_nextFrogByScan_0 : decode cX9_nextFrogByScan 0 = .ok (.aload_n 0, 1) := by decide +kernel
theorem dX9_nextFrogByScan_1 : decode cX9_nextFrogByScan 1 = .ok (.getfield 10, 3) := by decide +kernel
theorem dX9_nextFrogByScan_4 : decode cX9_nextFrogByScan 4 = .ok (.iload_n 1, 1) := by decide +kernel
theorem dX9_nextFrogByScan_5 : decode cX9_nextFrogByScan 5 = .ok (.invokevirtual 175, 3) := by decide +kernel
theorem dX9_nextFrogByScan_8 : decode cX9_nextFrogByScan 8 = .ok (.invokestatic 64, 3) := by decide +kernel
theorem dX9_nextFrogByScan_11 : decode cX9_nextFrogByScan 11 = .ok (.aload_n 0, 1) := by decide +kernel
theorem dX9_nextFrogByScan_12 : decode cX9_nextFrogByScan 12 = .ok (.getfield 10, 3) := by decide +kernel
theorem dX9_nextFrogByScan_15 : decode cX9_nextFrogByScan 15 = .ok (.getfield 184, 3) := by decide +kernel
theorem dX9_nextFrogByScan_18 : decode cX9_nextFrogByScan 18 = .ok (.iload_n 1, 1) := by decide +kernel
theorem dX9_nextFrogByScan_19 : decode cX9_nextFrogByScan 19 = .ok (.aaload, 1) := by decide +kernel
theorem dX9_nextFrogByScan_20 : decode cX9_nextFrogByScan 20 = .ok (.getfield 200, 3) := by decide +kernel
theorem dX9_nextFrogByScan_23 : decode cX9_nextFrogByScan 23 = .ok (.aload_n 0, 1) := by decide +kernel
theorem dX9_nextFrogByScan_24 : decode cX9_nextFrogByScan 24 = .ok (.getfield 10, 3) := by decide +kernel
theorem dX9_nextFrogByScan_27 : decode cX9_nextFrogByScan 27 = .ok (.iload_n 1, 1) := by decide +kernel
theorem dX9_nextFrogByScan_28 : decode cX9_nextFrogByScan 28 = .ok (.invokevirtual 203, 3) := by decide +kernel
theorem dX9_nextFrogByScan_31 : decode cX9_nextFrogByScan 31 = .ok (.iaload, 1) := by decide +kernel
theorem dX9_nextFrogByScan_32 : decode cX9_nextFrogByScan 32 = .ok (.ireturn, 1) := by decide +kernel
theorem dX9_frogsBefore_0 : decode cX9_frogsBefore 0 = .ok (.aload_n 0, 1) := by decide +kernel
theorem dX9_frogsBefore_1 : decode cX9_frogsBefore 1 = .ok (.getfield 10, 3) := by decide +kernel
theorem dX9_frogsBefore_4 : decode cX9_frogsBefore 4 = .ok (.iload_n 1, 1) := by decide +kernel
theorem dX9_frogsBefore_5 : decode cX9_frogsBefore 5 = .ok (.iload_n 2, 1) := by decide +kernel
theorem dX9_frogsBefore_6 : decode cX9_frogsBefore 6 = .ok (.invokevirtual 169, 3) := by decide +kernel
theorem dX9_frogsBefore_9 : decode cX9_frogsBefore 9 = .ok (.invokestatic 64, 3) := by decide +kernel
theorem dX9_frogsBefore_12 : decode cX9_frogsBefore 12 = .ok (.aload_n 0, 1) := by decide +kernel
theorem dX9_frogsBefore_13 : decode cX9_frogsBefore 13 = .ok (.getfield 10, 3) := by decide +kernel
theorem dX9_frogsBefore_16 : decode cX9_frogsBefore 16 = .ok (.getfield 184, 3) := by decide +kernel
theorem dX9_frogsBefore_19 : decode cX9_frogsBefore 19 = .ok (.iload_n 1, 1) := by decide +kernel
theorem dX9_frogsBefore_20 : decode cX9_frogsBefore 20 = .ok (.aaload, 1) := by decide +kernel
theorem dX9_frogsBefore_21 : decode cX9_frogsBefore 21 = .ok (.astore_n 3, 1) := by decide +kernel
theorem dX9_frogsBefore_22 : decode cX9_frogsBefore 22 = .ok (.aload_n 3, 1) := by decide +kernel
theorem dX9_frogsBefore_23 : decode cX9_frogsBefore 23 = .ok (.iload_n 2, 1) := by decide +kernel
theorem dX9_frogsBefore_24 : decode cX9_frogsBefore 24 = .ok (.invokevirtual 206, 3) := by decide +kernel
theorem dX9_frogsBefore_27 : decode cX9_frogsBefore 27 = .ok (.istore 4, 2) := by decide +kernel
theorem dX9_frogsBefore_29 : decode cX9_frogsBefore 29 = .ok (.iconst 0, 1) := by decide +kernel
theorem dX9_frogsBefore_30 : decode cX9_frogsBefore 30 = .ok (.istore 5, 2) := by decide +kernel
theorem dX9_frogsBefore_32 : decode cX9_frogsBefore 32 = .ok (.iconst 0, 1) := by decide +kernel
theorem dX9_frogsBefore_33 : decode cX9_frogsBefore 33 = .ok (.istore 6, 2) := by decide +kernel
theorem dX9_frogsBefore_35 : decode cX9_frogsBefore 35 = .ok (.iload 6, 2) := by decide +kernel
theorem dX9_frogsBefore_37 : decode cX9_frogsBefore 37 = .ok (.aload_n 3, 1) := by decide +kernel
theorem dX9_frogsBefore_38 : decode cX9_frogsBefore 38 = .ok (.getfield 188, 3) := by decide +kernel
theorem dX9_frogsBefore_41 : decode cX9_frogsBefore 41 = .ok (.if_icmp .ge 27, 3) := by decide +kernel
theorem dX9_frogsBefore_44 : decode cX9_frogsBefore 44 = .ok (.aload_n 0, 1) := by decide +kernel
theorem dX9_frogsBefore_45 : decode cX9_frogsBefore 45 = .ok (.getfield 10, 3) := by decide +kernel
theorem dX9_frogsBefore_48 : decode cX9_frogsBefore 48 = .ok (.aload_n 3, 1) := by decide +kernel
theorem dX9_frogsBefore_49 : decode cX9_frogsBefore 49 = .ok (.iload 6, 2) := by decide +kernel
theorem dX9_frogsBefore_51 : decode cX9_frogsBefore 51 = .ok (.iload 4, 2) := by decide +kernel
theorem dX9_frogsBefore_53 : decode cX9_frogsBefore 53 = .ok (.invokevirtual 209, 3) := by decide +kernel
theorem dX9_frogsBefore_56 : decode cX9_frogsBefore 56 = .ok (.ifCond .eq 6, 3) := by decide +kernel
theorem dX9_frogsBefore_59 : decode cX9_frogsBefore 59 = .ok (.iinc 5 1, 3) := by decide +kernel
theorem dX9_frogsBefore_62 : decode cX9_frogsBefore 62 = .ok (.iinc 6 1, 3) := by decide +kernel
theorem dX9_frogsBefore_65 : decode cX9_frogsBefore 65 = .ok (.goto (-30), 3) := by decide +kernel
theorem dX9_frogsBefore_68 : decode cX9_frogsBefore 68 = .ok (.iload 5, 2) := by decide +kernel
theorem dX9_frogsBefore_70 : decode cX9_frogsBefore 70 = .ok (.ireturn, 1) := by decide +kernel
theorem dX9_speeches_0 : decode cX9_speeches 0 = .ok (.aload_n 0, 1) := by decide +kernel
theorem dX9_speeches_1 : decode cX9_speeches 1 = .ok (.iload_n 1, 1) := by decide +kernel
theorem dX9_speeches_2 : decode cX9_speeches 2 = .ok (.invokevirtual 99, 3) := by decide +kernel
theorem dX9_speeches_5 : decode cX9_speeches 5 = .ok (.aload_n 0, 1) := by decide +kernel
theorem dX9_speeches_6 : decode cX9_speeches 6 = .ok (.getfield 10, 3) := by decide +kernel
theorem dX9_speeches_9 : decode cX9_speeches 9 = .ok (.getfield 213, 3) := by decide +kernel
theorem dX9_speeches_12 : decode cX9_speeches 12 = .ok (.iload_n 1, 1) := by decide +kernel
theorem dX9_speeches_13 : decode cX9_speeches 13 = .ok (.iaload, 1) := by decide +kernel
theorem dX9_speeches_14 : decode cX9_speeches 14 = .ok (.ireturn, 1) := by decide +kernel
theorem dX9_speechesOn_0 : decode cX9_speechesOn 0 = .ok (.aload_n 0, 1) := by decide +kernel
theorem dX9_speechesOn_1 : decode cX9_speechesOn 1 = .ok (.iload_n 1, 1) := by decide +kernel
theorem dX9_speechesOn_2 : decode cX9_speechesOn 2 = .ok (.invokevirtual 181, 3) := by decide +kernel
theorem dX9_speechesOn_5 : decode cX9_speechesOn 5 = .ok (.aload_n 0, 1) := by decide +kernel
theorem dX9_speechesOn_6 : decode cX9_speechesOn 6 = .ok (.getfield 10, 3) := by decide +kernel
theorem dX9_speechesOn_9 : decode cX9_speechesOn 9 = .ok (.getfield 184, 3) := by decide +kernel
theorem dX9_speechesOn_12 : decode cX9_speechesOn 12 = .ok (.iload_n 1, 1) := by decide +kernel
theorem dX9_speechesOn_13 : decode cX9_speechesOn 13 = .ok (.aaload, 1) := by decide +kernel
theorem dX9_speechesOn_14 : decode cX9_speechesOn 14 = .ok (.getfield 216, 3) := by decide +kernel
theorem dX9_speechesOn_17 : decode cX9_speechesOn 17 = .ok (.ireturn, 1) := by decide +kernel
theorem dX9_frogAtRank_0 : decode cX9_frogAtRank 0 = .ok (.iconst 0, 1) := by decide +kernel
theorem dX9_frogAtRank_1 : decode cX9_frogAtRank 1 = .ok (.istore_n 2, 1) := by decide +kernel
theorem dX9_frogAtRank_2 : decode cX9_frogAtRank 2 = .ok (.iload_n 2, 1) := by decide +kernel
theorem dX9_frogAtRank_3 : decode cX9_frogAtRank 3 = .ok (.aload_n 0, 1) := by decide +kernel
theorem dX9_frogAtRank_4 : decode cX9_frogAtRank 4 = .ok (.getfield 10, 3) := by decide +kernel
theorem dX9_frogAtRank_7 : decode cX9_frogAtRank 7 = .ok (.getfield 96, 3) := by decide +kernel
theorem dX9_frogAtRank_10 : decode cX9_frogAtRank 10 = .ok (.if_icmp .ge 23, 3) := by decide +kernel
theorem dX9_frogAtRank_13 : decode cX9_frogAtRank 13 = .ok (.aload_n 0, 1) := by decide +kernel
theorem dX9_frogAtRank_14 : decode cX9_frogAtRank 14 = .ok (.getfield 10, 3) := by decide +kernel
theorem dX9_frogAtRank_17 : decode cX9_frogAtRank 17 = .ok (.iload_n 2, 1) := by decide +kernel
theorem dX9_frogAtRank_18 : decode cX9_frogAtRank 18 = .ok (.invokevirtual 219, 3) := by decide +kernel
theorem dX9_frogAtRank_21 : decode cX9_frogAtRank 21 = .ok (.iload_n 1, 1) := by decide +kernel
theorem dX9_frogAtRank_22 : decode cX9_frogAtRank 22 = .ok (.if_icmp .ne 5, 3) := by decide +kernel
theorem dX9_frogAtRank_25 : decode cX9_frogAtRank 25 = .ok (.iload_n 2, 1) := by decide +kernel
theorem dX9_frogAtRank_26 : decode cX9_frogAtRank 26 = .ok (.ireturn, 1) := by decide +kernel
theorem dX9_frogAtRank_27 : decode cX9_frogAtRank 27 = .ok (.iinc 2 1, 3) := by decide +kernel
theorem dX9_frogAtRank_30 : decode cX9_frogAtRank 30 = .ok (.goto (-28), 3) := by decide +kernel
theorem dX9_frogAtRank_33 : decode cX9_frogAtRank 33 = .ok (.new 114, 3) := by decide +kernel
theorem dX9_frogAtRank_36 : decode cX9_frogAtRank 36 = .ok (.dup, 1) := by decide +kernel
theorem dX9_frogAtRank_37 : decode cX9_frogAtRank 37 = .ok (.ldc 222, 2) := by decide +kernel
theorem dX9_frogAtRank_39 : decode cX9_frogAtRank 39 = .ok (.invokespecial 118, 3) := by decide +kernel
theorem dX9_frogAtRank_42 : decode cX9_frogAtRank 42 = .ok (.athrow, 1) := by decide +kernel
theorem dX9_supportClosure_0 : decode cX9_supportClosure 0 = .ok (.aload_n 0, 1) := by decide +kernel
theorem dX9_supportClosure_1 : decode cX9_supportClosure 1 = .ok (.getfield 10, 3) := by decide +kernel
theorem dX9_supportClosure_4 : decode cX9_supportClosure 4 = .ok (.iload_n 1, 1) := by decide +kernel
theorem dX9_supportClosure_5 : decode cX9_supportClosure 5 = .ok (.iload_n 2, 1) := by decide +kernel
theorem dX9_supportClosure_6 : decode cX9_supportClosure 6 = .ok (.invokevirtual 224, 3) := by decide +kernel
theorem dX9_supportClosure_9 : decode cX9_supportClosure 9 = .ok (.invokestatic 64, 3) := by decide +kernel
theorem dX9_supportClosure_12 : decode cX9_supportClosure 12 = .ok (.aload_n 0, 1) := by decide +kernel
theorem dX9_supportClosure_13 : decode cX9_supportClosure 13 = .ok (.getfield 25, 3) := by decide +kernel
theorem dX9_supportClosure_16 : decode cX9_supportClosure 16 = .ok (.aload_n 0, 1) := by decide +kernel
theorem dX9_supportClosure_17 : decode cX9_supportClosure 17 = .ok (.getfield 10, 3) := by decide +kernel
theorem dX9_supportClosure_20 : decode cX9_supportClosure 20 = .ok (.invokevirtual 68, 3) := by decide +kernel
theorem dX9_supportClosure_23 : decode cX9_supportClosure 23 = .ok (.aload_n 0, 1) := by decide +kernel
theorem dX9_supportClosure_24 : decode cX9_supportClosure 24 = .ok (.getfield 10, 3) := by decide +kernel
theorem dX9_supportClosure_27 : decode cX9_supportClosure 27 = .ok (.iload_n 1, 1) := by decide +kernel
theorem dX9_supportClosure_28 : decode cX9_supportClosure 28 = .ok (.iload_n 2, 1) := by decide +kernel
theorem dX9_supportClosure_29 : decode cX9_supportClosure 29 = .ok (.invokevirtual 227, 3) := by decide +kernel
theorem dX9_supportClosure_32 : decode cX9_supportClosure 32 = .ok (.ireturn, 1) := by decide +kernel
theorem dX9_isListClosed_0 : decode cX9_isListClosed 0 = .ok (.aload_n 0, 1) := by decide +kernel
theorem dX9_isListClosed_1 : decode cX9_isListClosed 1 = .ok (.iload_n 1, 1) := by decide +kernel
theorem dX9_isListClosed_2 : decode cX9_isListClosed 2 = .ok (.invokevirtual 181, 3) := by decide +kernel
theorem dX9_isListClosed_5 : decode cX9_isListClosed 5 = .ok (.aload_n 0, 1) := by decide +kernel
theorem dX9_isListClosed_6 : decode cX9_isListClosed 6 = .ok (.getfield 10, 3) := by decide +kernel
theorem dX9_isListClosed_9 : decode cX9_isListClosed 9 = .ok (.getfield 184, 3) := by decide +kernel
theorem dX9_isListClosed_12 : decode cX9_isListClosed 12 = .ok (.iload_n 1, 1) := by decide +kernel
theorem dX9_isListClosed_13 : decode cX9_isListClosed 13 = .ok (.aaload, 1) := by decide +kernel
theorem dX9_isListClosed_14 : decode cX9_isListClosed 14 = .ok (.getfield 230, 3) := by decide +kernel
theorem dX9_isListClosed_17 : decode cX9_isListClosed 17 = .ok (.ireturn, 1) := by decide +kernel
theorem dX9_closureWeight_0 : decode cX9_closureWeight 0 = .ok (.aload_n 0, 1) := by decide +kernel
theorem dX9_closureWeight_1 : decode cX9_closureWeight 1 = .ok (.iload_n 1, 1) := by decide +kernel
theorem dX9_closureWeight_2 : decode cX9_closureWeight 2 = .ok (.invokevirtual 181, 3) := by decide +kernel
theorem dX9_closureWeight_5 : decode cX9_closureWeight 5 = .ok (.aload_n 0, 1) := by decide +kernel
theorem dX9_closureWeight_6 : decode cX9_closureWeight 6 = .ok (.getfield 10, 3) := by decide +kernel
theorem dX9_closureWeight_9 : decode cX9_closureWeight 9 = .ok (.aload_n 0, 1) := by decide +kernel
theorem dX9_closureWeight_10 : decode cX9_closureWeight 10 = .ok (.getfield 10, 3) := by decide +kernel
theorem dX9_closureWeight_13 : decode cX9_closureWeight 13 = .ok (.getfield 184, 3) := by decide +kernel
theorem dX9_closureWeight_16 : decode cX9_closureWeight 16 = .ok (.iload_n 1, 1) := by decide +kernel
theorem dX9_closureWeight_17 : decode cX9_closureWeight 17 = .ok (.aaload, 1) := by decide +kernel
theorem dX9_closureWeight_18 : decode cX9_closureWeight 18 = .ok (.getfield 234, 3) := by decide +kernel
theorem dX9_closureWeight_21 : decode cX9_closureWeight 21 = .ok (.invokevirtual 136, 3) := by decide +kernel
theorem dX9_closureWeight_24 : decode cX9_closureWeight 24 = .ok (.ireturn, 1) := by decide +kernel
theorem dX9_entitledWeight_0 : decode cX9_entitledWeight 0 = .ok (.aload_n 0, 1) := by decide +kernel
theorem dX9_entitledWeight_1 : decode cX9_entitledWeight 1 = .ok (.iload_n 1, 1) := by decide +kernel
theorem dX9_entitledWeight_2 : decode cX9_entitledWeight 2 = .ok (.invokevirtual 181, 3) := by decide +kernel
theorem dX9_entitledWeight_5 : decode cX9_entitledWeight 5 = .ok (.aload_n 0, 1) := by decide +kernel
theorem dX9_entitledWeight_6 : decode cX9_entitledWeight 6 = .ok (.getfield 10, 3) := by decide +kernel
theorem dX9_entitledWeight_9 : decode cX9_entitledWeight 9 = .ok (.aload_n 0, 1) := by decide +kernel
theorem dX9_entitledWeight_10 : decode cX9_entitledWeight 10 = .ok (.getfield 10, 3) := by decide +kernel
theorem dX9_entitledWeight_13 : decode cX9_entitledWeight 13 = .ok (.iload_n 1, 1) := by decide +kernel
theorem dX9_entitledWeight_14 : decode cX9_entitledWeight 14 = .ok (.invokevirtual 237, 3) := by decide +kernel
theorem dX9_entitledWeight_17 : decode cX9_entitledWeight 17 = .ok (.invokevirtual 136, 3) := by decide +kernel
theorem dX9_entitledWeight_20 : decode cX9_entitledWeight 20 = .ok (.ireturn, 1) := by decide +kernel
theorem dX9_croak_0 : decode cX9_croak 0 = .ok (.aload_n 0, 1) := by decide +kernel
theorem dX9_croak_1 : decode cX9_croak 1 = .ok (.getfield 10, 3) := by decide +kernel
theorem dX9_croak_4 : decode cX9_croak 4 = .ok (.iload_n 1, 1) := by decide +kernel
theorem dX9_croak_5 : decode cX9_croak 5 = .ok (.iload_n 2, 1) := by decide +kernel
theorem dX9_croak_6 : decode cX9_croak 6 = .ok (.iload_n 3, 1) := by decide +kernel
theorem dX9_croak_7 : decode cX9_croak 7 = .ok (.invokevirtual 240, 3) := by decide +kernel
theorem dX9_croak_10 : decode cX9_croak 10 = .ok (.invokestatic 64, 3) := by decide +kernel
theorem dX9_croak_13 : decode cX9_croak 13 = .ok (.aload_n 0, 1) := by decide +kernel
theorem dX9_croak_14 : decode cX9_croak 14 = .ok (.getfield 25, 3) := by decide +kernel
theorem dX9_croak_17 : decode cX9_croak 17 = .ok (.aload_n 0, 1) := by decide +kernel
theorem dX9_croak_18 : decode cX9_croak 18 = .ok (.getfield 10, 3) := by decide +kernel
theorem dX9_croak_21 : decode cX9_croak 21 = .ok (.invokevirtual 68, 3) := by decide +kernel
theorem dX9_croak_24 : decode cX9_croak 24 = .ok (.aload_n 0, 1) := by decide +kernel
theorem dX9_croak_25 : decode cX9_croak 25 = .ok (.getfield 10, 3) := by decide +kernel
theorem dX9_croak_28 : decode cX9_croak 28 = .ok (.iload_n 1, 1) := by decide +kernel
theorem dX9_croak_29 : decode cX9_croak 29 = .ok (.iload_n 2, 1) := by decide +kernel
theorem dX9_croak_30 : decode cX9_croak 30 = .ok (.iload_n 3, 1) := by decide +kernel
theorem dX9_croak_31 : decode cX9_croak 31 = .ok (.iload 4, 2) := by decide +kernel
theorem dX9_croak_33 : decode cX9_croak 33 = .ok (.invokevirtual 244, 3) := by decide +kernel
theorem dX9_croak_36 : decode cX9_croak 36 = .ok (.ireturn, 1) := by decide +kernel
theorem dX9_decide_0 : decode cX9_decide 0 = .ok (.aload_n 0, 1) := by decide +kernel
theorem dX9_decide_1 : decode cX9_decide 1 = .ok (.getfield 10, 3) := by decide +kernel
theorem dX9_decide_4 : decode cX9_decide 4 = .ok (.iload_n 1, 1) := by decide +kernel
theorem dX9_decide_5 : decode cX9_decide 5 = .ok (.invokevirtual 248, 3) := by decide +kernel
theorem dX9_decide_8 : decode cX9_decide 8 = .ok (.invokestatic 64, 3) := by decide +kernel
theorem dX9_decide_11 : decode cX9_decide 11 = .ok (.aload_n 0, 1) := by decide +kernel
theorem dX9_decide_12 : decode cX9_decide 12 = .ok (.getfield 25, 3) := by decide +kernel
theorem dX9_decide_15 : decode cX9_decide 15 = .ok (.aload_n 0, 1) := by decide +kernel
theorem dX9_decide_16 : decode cX9_decide 16 = .ok (.getfield 10, 3) := by decide +kernel
theorem dX9_decide_19 : decode cX9_decide 19 = .ok (.invokevirtual 68, 3) := by decide +kernel
theorem dX9_decide_22 : decode cX9_decide 22 = .ok (.aload_n 0, 1) := by decide +kernel
theorem dX9_decide_23 : decode cX9_decide 23 = .ok (.getfield 10, 3) := by decide +kernel
theorem dX9_decide_26 : decode cX9_decide 26 = .ok (.iload_n 1, 1) := by decide +kernel
theorem dX9_decide_27 : decode cX9_decide 27 = .ok (.invokevirtual 251, 3) := by decide +kernel
theorem dX9_decide_30 : decode cX9_decide 30 = .ok (.ireturn, 1) := by decide +kernel
theorem dX9_isDecided_0 : decode cX9_isDecided 0 = .ok (.aload_n 0, 1) := by decide +kernel
theorem dX9_isDecided_1 : decode cX9_isDecided 1 = .ok (.iload_n 1, 1) := by decide +kernel
theorem dX9_isDecided_2 : decode cX9_isDecided 2 = .ok (.invokevirtual 181, 3) := by decide +kernel
theorem dX9_isDecided_5 : decode cX9_isDecided 5 = .ok (.aload_n 0, 1) := by decide +kernel
theorem dX9_isDecided_6 : decode cX9_isDecided 6 = .ok (.getfield 10, 3) := by decide +kernel
theorem dX9_isDecided_9 : decode cX9_isDecided 9 = .ok (.getfield 184, 3) := by decide +kernel
theorem dX9_isDecided_12 : decode cX9_isDecided 12 = .ok (.iload_n 1, 1) := by decide +kernel
theorem dX9_isDecided_13 : decode cX9_isDecided 13 = .ok (.aaload, 1) := by decide +kernel
theorem dX9_isDecided_14 : decode cX9_isDecided 14 = .ok (.getfield 254, 3) := by decide +kernel
theorem dX9_isDecided_17 : decode cX9_isDecided 17 = .ok (.ireturn, 1) := by decide +kernel
theorem dX9_isAdopted_0 : decode cX9_isAdopted 0 = .ok (.aload_n 0, 1) := by decide +kernel
theorem dX9_isAdopted_1 : decode cX9_isAdopted 1 = .ok (.iload_n 1, 1) := by decide +kernel
theorem dX9_isAdopted_2 : decode cX9_isAdopted 2 = .ok (.invokevirtual 181, 3) := by decide +kernel
theorem dX9_isAdopted_5 : decode cX9_isAdopted 5 = .ok (.aload_n 0, 1) := by decide +kernel
theorem dX9_isAdopted_6 : decode cX9_isAdopted 6 = .ok (.getfield 10, 3) := by decide +kernel
theorem dX9_isAdopted_9 : decode cX9_isAdopted 9 = .ok (.getfield 184, 3) := by decide +kernel
theorem dX9_isAdopted_12 : decode cX9_isAdopted 12 = .ok (.iload_n 1, 1) := by decide +kernel
theorem dX9_isAdopted_13 : decode cX9_isAdopted 13 = .ok (.aaload, 1) := by decide +kernel
theorem dX9_isAdopted_14 : decode cX9_isAdopted 14 = .ok (.getfield 257, 3) := by decide +kernel
theorem dX9_isAdopted_17 : decode cX9_isAdopted 17 = .ok (.ireturn, 1) := by decide +kernel
theorem dX9_croaksFor_0 : decode cX9_croaksFor 0 = .ok (.aload_n 0, 1) := by decide +kernel
theorem dX9_croaksFor_1 : decode cX9_croaksFor 1 = .ok (.iload_n 1, 1) := by decide +kernel
theorem dX9_croaksFor_2 : decode cX9_croaksFor 2 = .ok (.invokevirtual 181, 3) := by decide +kernel
theorem dX9_croaksFor_5 : decode cX9_croaksFor 5 = .ok (.aload_n 0, 1) := by decide +kernel
theorem dX9_croaksFor_6 : decode cX9_croaksFor 6 = .ok (.getfield 10, 3) := by decide +kernel
theorem dX9_croaksFor_9 : decode cX9_croaksFor 9 = .ok (.getfield 184, 3) := by decide +kernel
theorem dX9_croaksFor_12 : decode cX9_croaksFor 12 = .ok (.iload_n 1, 1) := by decide +kernel
theorem dX9_croaksFor_13 : decode cX9_croaksFor 13 = .ok (.aaload, 1) := by decide +kernel
theorem dX9_croaksFor_14 : decode cX9_croaksFor 14 = .ok (.iconst 1, 1) := by decide +kernel
theorem dX9_croaksFor_15 : decode cX9_croaksFor 15 = .ok (.invokevirtual 260, 3) := by decide +kernel
theorem dX9_croaksFor_18 : decode cX9_croaksFor 18 = .ok (.ireturn, 1) := by decide +kernel
theorem dX9_croaksForByPonds_0 : decode cX9_croaksForByPonds 0 = .ok (.aload_n 0, 1) := by decide +kernel
theorem dX9_croaksForByPonds_1 : decode cX9_croaksForByPonds 1 = .ok (.iload_n 1, 1) := by decide +kernel
theorem dX9_croaksForByPonds_2 : decode cX9_croaksForByPonds 2 = .ok (.invokevirtual 181, 3) := by decide +kernel
theorem dX9_croaksForByPonds_5 : decode cX9_croaksForByPonds 5 = .ok (.iconst 0, 1) := by decide +kernel
theorem dX9_croaksForByPonds_6 : decode cX9_croaksForByPonds 6 = .ok (.istore_n 2, 1) := by decide +kernel
theorem dX9_croaksForByPonds_7 : decode cX9_croaksForByPonds 7 = .ok (.iconst 0, 1) := by decide +kernel
theorem dX9_croaksForByPonds_8 : decode cX9_croaksForByPonds 8 = .ok (.istore_n 3, 1) := by decide +kernel
theorem dX9_croaksForByPonds_9 : decode cX9_croaksForByPonds 9 = .ok (.iload_n 3, 1) := by decide +kernel
theorem dX9_croaksForByPonds_10 : decode cX9_croaksForByPonds 10 = .ok (.iconst 4, 1) := by decide +kernel
theorem dX9_croaksForByPonds_11 : decode cX9_croaksForByPonds 11 = .ok (.if_icmp .ge 21, 3) := by decide +kernel
theorem dX9_croaksForByPonds_14 : decode cX9_croaksForByPonds 14 = .ok (.iload_n 2, 1) := by decide +kernel
theorem dX9_croaksForByPonds_15 : decode cX9_croaksForByPonds 15 = .ok (.aload_n 0, 1) := by decide +kernel
theorem dX9_croaksForByPonds_16 : decode cX9_croaksForByPonds 16 = .ok (.getfield 10, 3) := by decide +kernel
theorem dX9_croaksForByPonds_19 : decode cX9_croaksForByPonds 19 = .ok (.iload_n 1, 1) := by decide +kernel
theorem dX9_croaksForByPonds_20 : decode cX9_croaksForByPonds 20 = .ok (.iload_n 3, 1) := by decide +kernel
theorem dX9_croaksForByPonds_21 : decode cX9_croaksForByPonds 21 = .ok (.invokevirtual 264, 3) := by decide +kernel
theorem dX9_croaksForByPonds_24 : decode cX9_croaksForByPonds 24 = .ok (.iadd, 1) := by decide +kernel
theorem dX9_croaksForByPonds_25 : decode cX9_croaksForByPonds 25 = .ok (.istore_n 2, 1) := by decide +kernel
theorem dX9_croaksForByPonds_26 : decode cX9_croaksForByPonds 26 = .ok (.iinc 3 1, 3) := by decide +kernel
theorem dX9_croaksForByPonds_29 : decode cX9_croaksForByPonds 29 = .ok (.goto (-20), 3) := by decide +kernel
theorem dX9_croaksForByPonds_32 : decode cX9_croaksForByPonds 32 = .ok (.iload_n 2, 1) := by decide +kernel
theorem dX9_croaksForByPonds_33 : decode cX9_croaksForByPonds 33 = .ok (.ireturn, 1) := by decide +kernel
theorem dX9_croaksAgainst_0 : decode cX9_croaksAgainst 0 = .ok (.aload_n 0, 1) := by decide +kernel
theorem dX9_croaksAgainst_1 : decode cX9_croaksAgainst 1 = .ok (.iload_n 1, 1) := by decide +kernel
theorem dX9_croaksAgainst_2 : decode cX9_croaksAgainst 2 = .ok (.invokevirtual 181, 3) := by decide +kernel
theorem dX9_croaksAgainst_5 : decode cX9_croaksAgainst 5 = .ok (.aload_n 0, 1) := by decide +kernel
theorem dX9_croaksAgainst_6 : decode cX9_croaksAgainst 6 = .ok (.getfield 10, 3) := by decide +kernel
theorem dX9_croaksAgainst_9 : decode cX9_croaksAgainst 9 = .ok (.getfield 184, 3) := by decide +kernel
theorem dX9_croaksAgainst_12 : decode cX9_croaksAgainst 12 = .ok (.iload_n 1, 1) := by decide +kernel
theorem dX9_croaksAgainst_13 : decode cX9_croaksAgainst 13 = .ok (.aaload, 1) := by decide +kernel
theorem dX9_croaksAgainst_14 : decode cX9_croaksAgainst 14 = .ok (.iconst 0, 1) := by decide +kernel
theorem dX9_croaksAgainst_15 : decode cX9_croaksAgainst 15 = .ok (.invokevirtual 260, 3) := by decide +kernel
theorem dX9_croaksAgainst_18 : decode cX9_croaksAgainst 18 = .ok (.ireturn, 1) := by decide +kernel
theorem dX9_strongestFrog_0 : decode cX9_strongestFrog 0 = .ok (.aload_n 0, 1) := by decide +kernel
theorem dX9_strongestFrog_1 : decode cX9_strongestFrog 1 = .ok (.iload_n 1, 1) := by decide +kernel
theorem dX9_strongestFrog_2 : decode cX9_strongestFrog 2 = .ok (.invokevirtual 181, 3) := by decide +kernel
theorem dX9_strongestFrog_5 : decode cX9_strongestFrog 5 = .ok (.aload_n 0, 1) := by decide +kernel
theorem dX9_strongestFrog_6 : decode cX9_strongestFrog 6 = .ok (.getfield 10, 3) := by decide +kernel
theorem dX9_strongestFrog_9 : decode cX9_strongestFrog 9 = .ok (.getfield 184, 3) := by decide +kernel
theorem dX9_strongestFrog_12 : decode cX9_strongestFrog 12 = .ok (.iload_n 1, 1) := by decide +kernel
theorem dX9_strongestFrog_13 : decode cX9_strongestFrog 13 = .ok (.aaload, 1) := by decide +kernel
theorem dX9_strongestFrog_14 : decode cX9_strongestFrog 14 = .ok (.astore_n 2, 1) := by decide +kernel
theorem dX9_strongestFrog_15 : decode cX9_strongestFrog 15 = .ok (.aload_n 2, 1) := by decide +kernel
theorem dX9_strongestFrog_16 : decode cX9_strongestFrog 16 = .ok (.getfield 267, 3) := by decide +kernel
theorem dX9_strongestFrog_19 : decode cX9_strongestFrog 19 = .ok (.ifCond .ne 14, 3) := by decide +kernel
theorem dX9_strongestFrog_22 : decode cX9_strongestFrog 22 = .ok (.new 114, 3) := by decide +kernel
theorem dX9_strongestFrog_25 : decode cX9_strongestFrog 25 = .ok (.dup, 1) := by decide +kernel
theorem dX9_strongestFrog_26 : decode cX9_strongestFrog 26 = .ok (.ldc_w 270, 3) := by decide +kernel
theorem dX9_strongestFrog_29 : decode cX9_strongestFrog 29 = .ok (.invokespecial 118, 3) := by decide +kernel
theorem dX9_strongestFrog_32 : decode cX9_strongestFrog 32 = .ok (.athrow, 1) := by decide +kernel
theorem dX9_strongestFrog_33 : decode cX9_strongestFrog 33 = .ok (.iconst 0, 1) := by decide +kernel
theorem dX9_strongestFrog_34 : decode cX9_strongestFrog 34 = .ok (.istore_n 3, 1) := by decide +kernel
theorem dX9_strongestFrog_35 : decode cX9_strongestFrog 35 = .ok (.iconst 1, 1) := by decide +kernel
theorem dX9_strongestFrog_36 : decode cX9_strongestFrog 36 = .ok (.istore 4, 2) := by decide +kernel
theorem dX9_strongestFrog_38 : decode cX9_strongestFrog 38 = .ok (.iload 4, 2) := by decide +kernel
theorem dX9_strongestFrog_40 : decode cX9_strongestFrog 40 = .ok (.aload_n 2, 1) := by decide +kernel
theorem dX9_strongestFrog_41 : decode cX9_strongestFrog 41 = .ok (.getfield 267, 3) := by decide +kernel
theorem dX9_strongestFrog_44 : decode cX9_strongestFrog 44 = .ok (.if_icmp .ge 28, 3) := by decide +kernel
theorem dX9_strongestFrog_47 : decode cX9_strongestFrog 47 = .ok (.aload_n 2, 1) := by decide +kernel
theorem dX9_strongestFrog_48 : decode cX9_strongestFrog 48 = .ok (.getfield 272, 3) := by decide +kernel
theorem dX9_strongestFrog_51 : decode cX9_strongestFrog 51 = .ok (.iload 4, 2) := by decide +kernel
theorem dX9_strongestFrog_53 : decode cX9_strongestFrog 53 = .ok (.iaload, 1) := by decide +kernel
theorem dX9_strongestFrog_54 : decode cX9_strongestFrog 54 = .ok (.aload_n 2, 1) := by decide +kernel
theorem dX9_strongestFrog_55 : decode cX9_strongestFrog 55 = .ok (.getfield 272, 3) := by decide +kernel
theorem dX9_strongestFrog_58 : decode cX9_strongestFrog 58 = .ok (.iload_n 3, 1) := by decide +kernel
theorem dX9_strongestFrog_59 : decode cX9_strongestFrog 59 = .ok (.iaload, 1) := by decide +kernel
theorem dX9_strongestFrog_60 : decode cX9_strongestFrog 60 = .ok (.if_icmp .le 6, 3) := by decide +kernel
theorem dX9_strongestFrog_63 : decode cX9_strongestFrog 63 = .ok (.iload 4, 2) := by decide +kernel
theorem dX9_strongestFrog_65 : decode cX9_strongestFrog 65 = .ok (.istore_n 3, 1) := by decide +kernel
theorem dX9_strongestFrog_66 : decode cX9_strongestFrog 66 = .ok (.iinc 4 1, 3) := by decide +kernel
theorem dX9_strongestFrog_69 : decode cX9_strongestFrog 69 = .ok (.goto (-31), 3) := by decide +kernel
theorem dX9_strongestFrog_72 : decode cX9_strongestFrog 72 = .ok (.aload_n 2, 1) := by decide +kernel
theorem dX9_strongestFrog_73 : decode cX9_strongestFrog 73 = .ok (.getfield 275, 3) := by decide +kernel
theorem dX9_strongestFrog_76 : decode cX9_strongestFrog 76 = .ok (.iload_n 3, 1) := by decide +kernel
theorem dX9_strongestFrog_77 : decode cX9_strongestFrog 77 = .ok (.iaload, 1) := by decide +kernel
theorem dX9_strongestFrog_78 : decode cX9_strongestFrog 78 = .ok (.ireturn, 1) := by decide +kernel
theorem dX9_shareFor_0 : decode cX9_shareFor 0 = .ok (.aload_n 0, 1) := by decide +kernel
theorem dX9_shareFor_1 : decode cX9_shareFor 1 = .ok (.iload_n 1, 1) := by decide +kernel
theorem dX9_shareFor_2 : decode cX9_shareFor 2 = .ok (.invokevirtual 181, 3) := by decide +kernel
theorem dX9_shareFor_5 : decode cX9_shareFor 5 = .ok (.aload_n 0, 1) := by decide +kernel
theorem dX9_shareFor_6 : decode cX9_shareFor 6 = .ok (.getfield 10, 3) := by decide +kernel
theorem dX9_shareFor_9 : decode cX9_shareFor 9 = .ok (.getfield 184, 3) := by decide +kernel
theorem dX9_shareFor_12 : decode cX9_shareFor 12 = .ok (.iload_n 1, 1) := by decide +kernel
theorem dX9_shareFor_13 : decode cX9_shareFor 13 = .ok (.aaload, 1) := by decide +kernel
theorem dX9_shareFor_14 : decode cX9_shareFor 14 = .ok (.astore_n 2, 1) := by decide +kernel
theorem dX9_shareFor_15 : decode cX9_shareFor 15 = .ok (.aload_n 2, 1) := by decide +kernel
theorem dX9_shareFor_16 : decode cX9_shareFor 16 = .ok (.iconst 1, 1) := by decide +kernel
theorem dX9_shareFor_17 : decode cX9_shareFor 17 = .ok (.invokevirtual 260, 3) := by decide +kernel
theorem dX9_shareFor_20 : decode cX9_shareFor 20 = .ok (.istore_n 3, 1) := by decide +kernel
theorem dX9_shareFor_21 : decode cX9_shareFor 21 = .ok (.iload_n 3, 1) := by decide +kernel
theorem dX9_shareFor_22 : decode cX9_shareFor 22 = .ok (.aload_n 2, 1) := by decide +kernel
theorem dX9_shareFor_23 : decode cX9_shareFor 23 = .ok (.iconst 0, 1) := by decide +kernel
theorem dX9_shareFor_24 : decode cX9_shareFor 24 = .ok (.invokevirtual 260, 3) := by decide +kernel
theorem dX9_shareFor_27 : decode cX9_shareFor 27 = .ok (.iadd, 1) := by decide +kernel
theorem dX9_shareFor_28 : decode cX9_shareFor 28 = .ok (.istore 4, 2) := by decide +kernel
theorem dX9_shareFor_30 : decode cX9_shareFor 30 = .ok (.iload 4, 2) := by decide +kernel
theorem dX9_shareFor_32 : decode cX9_shareFor 32 = .ok (.ifCond .ne 14, 3) := by decide +kernel
theorem dX9_shareFor_35 : decode cX9_shareFor 35 = .ok (.new 278, 3) := by decide +kernel
theorem dX9_shareFor_38 : decode cX9_shareFor 38 = .ok (.dup, 1) := by decide +kernel
theorem dX9_shareFor_39 : decode cX9_shareFor 39 = .ok (.ldc_w 270, 3) := by decide +kernel
theorem dX9_shareFor_42 : decode cX9_shareFor 42 = .ok (.invokespecial 280, 3) := by decide +kernel
theorem dX9_shareFor_45 : decode cX9_shareFor 45 = .ok (.athrow, 1) := by decide +kernel
theorem dX9_shareFor_46 : decode cX9_shareFor 46 = .ok (.iload_n 3, 1) := by decide +kernel
theorem dX9_shareFor_47 : decode cX9_shareFor 47 = .ok (.i2f, 1) := by decide +kernel
theorem dX9_shareFor_48 : decode cX9_shareFor 48 = .ok (.iload 4, 2) := by decide +kernel
theorem dX9_shareFor_50 : decode cX9_shareFor 50 = .ok (.i2f, 1) := by decide +kernel
theorem dX9_shareFor_51 : decode cX9_shareFor 51 = .ok (.fdiv, 1) := by decide +kernel
theorem dX9_shareFor_52 : decode cX9_shareFor 52 = .ok (.freturn, 1) := by decide +kernel
theorem dX9_speechTotal_0 : decode cX9_speechTotal 0 = .ok (.aload_n 0, 1) := by decide +kernel
theorem dX9_speechTotal_1 : decode cX9_speechTotal 1 = .ok (.getfield 10, 3) := by decide +kernel
theorem dX9_speechTotal_4 : decode cX9_speechTotal 4 = .ok (.getfield 281, 3) := by decide +kernel
theorem dX9_speechTotal_7 : decode cX9_speechTotal 7 = .ok (.ireturn, 1) := by decide +kernel
theorem dX9_missedTotal_0 : decode cX9_missedTotal 0 = .ok (.aload_n 0, 1) := by decide +kernel
theorem dX9_missedTotal_1 : decode cX9_missedTotal 1 = .ok (.getfield 10, 3) := by decide +kernel
theorem dX9_missedTotal_4 : decode cX9_missedTotal 4 = .ok (.getfield 284, 3) := by decide +kernel
theorem dX9_missedTotal_7 : decode cX9_missedTotal 7 = .ok (.ireturn, 1) := by decide +kernel
theorem dX9_adoptedCount_0 : decode cX9_adoptedCount 0 = .ok (.iconst 0, 1) := by decide +kernel
theorem dX9_adoptedCount_1 : decode cX9_adoptedCount 1 = .ok (.istore_n 1, 1) := by decide +kernel
theorem dX9_adoptedCount_2 : decode cX9_adoptedCount 2 = .ok (.iconst 0, 1) := by decide +kernel
theorem dX9_adoptedCount_3 : decode cX9_adoptedCount 3 = .ok (.istore_n 2, 1) := by decide +kernel
theorem dX9_adoptedCount_4 : decode cX9_adoptedCount 4 = .ok (.iload_n 2, 1) := by decide +kernel
theorem dX9_adoptedCount_5 : decode cX9_adoptedCount 5 = .ok (.aload_n 0, 1) := by decide +kernel
theorem dX9_adoptedCount_6 : decode cX9_adoptedCount 6 = .ok (.getfield 10, 3) := by decide +kernel
theorem dX9_adoptedCount_9 : decode cX9_adoptedCount 9 = .ok (.getfield 153, 3) := by decide +kernel
theorem dX9_adoptedCount_12 : decode cX9_adoptedCount 12 = .ok (.if_icmp .ge 27, 3) := by decide +kernel
theorem dX9_adoptedCount_15 : decode cX9_adoptedCount 15 = .ok (.aload_n 0, 1) := by decide +kernel
theorem dX9_adoptedCount_16 : decode cX9_adoptedCount 16 = .ok (.getfield 10, 3) := by decide +kernel
theorem dX9_adoptedCount_19 : decode cX9_adoptedCount 19 = .ok (.getfield 184, 3) := by decide +kernel
theorem dX9_adoptedCount_22 : decode cX9_adoptedCount 22 = .ok (.iload_n 2, 1) := by decide +kernel
theorem dX9_adoptedCount_23 : decode cX9_adoptedCount 23 = .ok (.aaload, 1) := by decide +kernel
theorem dX9_adoptedCount_24 : decode cX9_adoptedCount 24 = .ok (.getfield 257, 3) := by decide +kernel
theorem dX9_adoptedCount_27 : decode cX9_adoptedCount 27 = .ok (.ifCond .eq 6, 3) := by decide +kernel
theorem dX9_adoptedCount_30 : decode cX9_adoptedCount 30 = .ok (.iinc 1 1, 3) := by decide +kernel
theorem dX9_adoptedCount_33 : decode cX9_adoptedCount 33 = .ok (.iinc 2 1, 3) := by decide +kernel
theorem dX9_adoptedCount_36 : decode cX9_adoptedCount 36 = .ok (.goto (-32), 3) := by decide +kernel
theorem dX9_adoptedCount_39 : decode cX9_adoptedCount 39 = .ok (.iload_n 1, 1) := by decide +kernel
theorem dX9_adoptedCount_40 : decode cX9_adoptedCount 40 = .ok (.ireturn, 1) := by decide +kernel
theorem dX9_append_0 : decode cX9_append 0 = .ok (.iload_n 1, 1) := by decide +kernel
theorem dX9_append_1 : decode cX9_append 1 = .ok (.bipush 32, 2) := by decide +kernel
theorem dX9_append_3 : decode cX9_append 3 = .ok (.if_icmp .lt 9, 3) := by decide +kernel
theorem dX9_append_6 : decode cX9_append 6 = .ok (.iload_n 1, 1) := by decide +kernel
theorem dX9_append_7 : decode cX9_append 7 = .ok (.bipush 126, 2) := by decide +kernel
theorem dX9_append_9 : decode cX9_append 9 = .ok (.if_icmp .le 14, 3) := by decide +kernel
theorem dX9_append_12 : decode cX9_append 12 = .ok (.new 287, 3) := by decide +kernel
theorem dX9_append_15 : decode cX9_append 15 = .ok (.dup, 1) := by decide +kernel
theorem dX9_append_16 : decode cX9_append 16 = .ok (.ldc_w 289, 3) := by decide +kernel
theorem dX9_append_19 : decode cX9_append 19 = .ok (.invokespecial 291, 3) := by decide +kernel
theorem dX9_append_22 : decode cX9_append 22 = .ok (.athrow, 1) := by decide +kernel
theorem dX9_append_23 : decode cX9_append 23 = .ok (.aload_n 0, 1) := by decide +kernel
theorem dX9_append_24 : decode cX9_append 24 = .ok (.getfield 46, 3) := by decide +kernel
theorem dX9_append_27 : decode cX9_append 27 = .ok (.invokevirtual 292, 3) := by decide +kernel
theorem dX9_append_30 : decode cX9_append 30 = .ok (.bipush 60, 2) := by decide +kernel
theorem dX9_append_32 : decode cX9_append 32 = .ok (.if_icmp .lt 14, 3) := by decide +kernel
theorem dX9_append_35 : decode cX9_append 35 = .ok (.new 295, 3) := by decide +kernel
theorem dX9_append_38 : decode cX9_append 38 = .ok (.dup, 1) := by decide +kernel
theorem dX9_append_39 : decode cX9_append 39 = .ok (.ldc_w 297, 3) := by decide +kernel
theorem dX9_append_42 : decode cX9_append 42 = .ok (.invokespecial 299, 3) := by decide +kernel
theorem dX9_append_45 : decode cX9_append 45 = .ok (.athrow, 1) := by decide +kernel
theorem dX9_append_46 : decode cX9_append 46 = .ok (.aload_n 0, 1) := by decide +kernel
theorem dX9_append_47 : decode cX9_append 47 = .ok (.getfield 46, 3) := by decide +kernel
theorem dX9_append_50 : decode cX9_append 50 = .ok (.iload_n 1, 1) := by decide +kernel
theorem dX9_append_51 : decode cX9_append 51 = .ok (.invokevirtual 300, 3) := by decide +kernel
theorem dX9_append_54 : decode cX9_append 54 = .ok (.pop, 1) := by decide +kernel
theorem dX9_append_55 : decode cX9_append 55 = .ok (.aload_n 0, 1) := by decide +kernel
theorem dX9_append_56 : decode cX9_append 56 = .ok (.getfield 46, 3) := by decide +kernel
theorem dX9_append_59 : decode cX9_append 59 = .ok (.invokevirtual 292, 3) := by decide +kernel
theorem dX9_append_62 : decode cX9_append 62 = .ok (.ireturn, 1) := by decide +kernel
theorem dX9_run_0 : decode cX9_run 0 = .ok (.aload_n 0, 1) := by decide +kernel
theorem dX9_run_1 : decode cX9_run 1 = .ok (.getfield 39, 3) := by decide +kernel
theorem dX9_run_4 : decode cX9_run 4 = .ok (.aload_n 0, 1) := by decide +kernel
theorem dX9_run_5 : decode cX9_run 5 = .ok (.getfield 46, 3) := by decide +kernel
theorem dX9_run_8 : decode cX9_run 8 = .ok (.invokevirtual 304, 3) := by decide +kernel
theorem dX9_run_11 : decode cX9_run 11 = .ok (.istore_n 1, 1) := by decide +kernel
theorem dX9_run_12 : decode cX9_run 12 = .ok (.aload_n 0, 1) := by decide +kernel
theorem dX9_run_13 : decode cX9_run 13 = .ok (.getfield 46, 3) := by decide +kernel
theorem dX9_run_16 : decode cX9_run 16 = .ok (.iconst 0, 1) := by decide +kernel
theorem dX9_run_17 : decode cX9_run 17 = .ok (.invokevirtual 308, 3) := by decide +kernel
theorem dX9_run_20 : decode cX9_run 20 = .ok (.iload_n 1, 1) := by decide +kernel
theorem dX9_run_21 : decode cX9_run 21 = .ok (.ifCond .ne 25, 3) := by decide +kernel
theorem dX9_run_24 : decode cX9_run 24 = .ok (.aload_n 0, 1) := by decide +kernel
theorem dX9_run_25 : decode cX9_run 25 = .ok (.aload_n 0, 1) := by decide +kernel
theorem dX9_run_26 : decode cX9_run 26 = .ok (.getfield 39, 3) := by decide +kernel
theorem dX9_run_29 : decode cX9_run 29 = .ok (.getfield 311, 3) := by decide +kernel
theorem dX9_run_32 : decode cX9_run 32 = .ok (.putfield 53, 3) := by decide +kernel
theorem dX9_run_35 : decode cX9_run 35 = .ok (.new 287, 3) := by decide +kernel
theorem dX9_run_38 : decode cX9_run 38 = .ok (.dup, 1) := by decide +kernel
theorem dX9_run_39 : decode cX9_run 39 = .ok (.ldc_w 314, 3) := by decide +kernel
theorem dX9_run_42 : decode cX9_run 42 = .ok (.invokespecial 291, 3) := by decide +kernel
theorem dX9_run_45 : decode cX9_run 45 = .ok (.athrow, 1) := by decide +kernel
theorem dX9_run_46 : decode cX9_run 46 = .ok (.aload_n 0, 1) := by decide +kernel
theorem dX9_run_47 : decode cX9_run 47 = .ok (.getfield 16, 3) := by decide +kernel
theorem dX9_run_50 : decode cX9_run 50 = .ok (.aload_n 0, 1) := by decide +kernel
theorem dX9_run_51 : decode cX9_run 51 = .ok (.getfield 10, 3) := by decide +kernel
theorem dX9_run_54 : decode cX9_run 54 = .ok (.invokevirtual 316, 3) := by decide +kernel
theorem dX9_run_57 : decode cX9_run 57 = .ok (.aload_n 0, 1) := by decide +kernel
theorem dX9_run_58 : decode cX9_run 58 = .ok (.invokevirtual 319, 3) := by decide +kernel
theorem dX9_run_61 : decode cX9_run 61 = .ok (.istore_n 2, 1) := by decide +kernel
theorem dX9_run_62 : decode cX9_run 62 = .ok (.iload_n 2, 1) := by decide +kernel
theorem dX9_run_63 : decode cX9_run 63 = .ok (.aload_n 0, 1) := by decide +kernel
theorem dX9_run_64 : decode cX9_run 64 = .ok (.getfield 39, 3) := by decide +kernel
theorem dX9_run_67 : decode cX9_run 67 = .ok (.getfield 322, 3) := by decide +kernel
theorem dX9_run_70 : decode cX9_run 70 = .ok (.if_icmp .ge 30, 3) := by decide +kernel
theorem dX9_run_73 : decode cX9_run 73 = .ok (.aload_n 0, 1) := by decide +kernel
theorem dX9_run_74 : decode cX9_run 74 = .ok (.getfield 10, 3) := by decide +kernel
theorem dX9_run_77 : decode cX9_run 77 = .ok (.aload_n 0, 1) := by decide +kernel
theorem dX9_run_78 : decode cX9_run 78 = .ok (.getfield 16, 3) := by decide +kernel
theorem dX9_run_81 : decode cX9_run 81 = .ok (.invokevirtual 316, 3) := by decide +kernel
theorem dX9_run_84 : decode cX9_run 84 = .ok (.aload_n 0, 1) := by decide +kernel
theorem dX9_run_85 : decode cX9_run 85 = .ok (.iload_n 2, 1) := by decide +kernel
theorem dX9_run_86 : decode cX9_run 86 = .ok (.putfield 57, 3) := by decide +kernel
theorem dX9_run_89 : decode cX9_run 89 = .ok (.new 295, 3) := by decide +kernel
theorem dX9_run_92 : decode cX9_run 92 = .ok (.dup, 1) := by decide +kernel
theorem dX9_run_93 : decode cX9_run 93 = .ok (.ldc_w 325, 3) := by decide +kernel
theorem dX9_run_96 : decode cX9_run 96 = .ok (.invokespecial 299, 3) := by decide +kernel
theorem dX9_run_99 : decode cX9_run 99 = .ok (.athrow, 1) := by decide +kernel
theorem dX9_run_100 : decode cX9_run 100 = .ok (.aload_n 0, 1) := by decide +kernel
theorem dX9_run_101 : decode cX9_run 101 = .ok (.getfield 25, 3) := by decide +kernel
theorem dX9_run_104 : decode cX9_run 104 = .ok (.aload_n 0, 1) := by decide +kernel
theorem dX9_run_105 : decode cX9_run 105 = .ok (.getfield 16, 3) := by decide +kernel
theorem dX9_run_108 : decode cX9_run 108 = .ok (.invokevirtual 68, 3) := by decide +kernel
theorem dX9_run_111 : decode cX9_run 111 = .ok (.iload_n 2, 1) := by decide +kernel
theorem dX9_run_112 : decode cX9_run 112 = .ok (.ireturn, 1) := by decide +kernel
theorem dX9_errorPosition_0 : decode cX9_errorPosition 0 = .ok (.aload_n 0, 1) := by decide +kernel
theorem dX9_errorPosition_1 : decode cX9_errorPosition 1 = .ok (.getfield 53, 3) := by decide +kernel
theorem dX9_errorPosition_4 : decode cX9_errorPosition 4 = .ok (.iconst (-1), 1) := by decide +kernel
theorem dX9_errorPosition_5 : decode cX9_errorPosition 5 = .ok (.if_icmp .ne 14, 3) := by decide +kernel
theorem dX9_errorPosition_8 : decode cX9_errorPosition 8 = .ok (.new 114, 3) := by decide +kernel
theorem dX9_errorPosition_11 : decode cX9_errorPosition 11 = .ok (.dup, 1) := by decide +kernel
theorem dX9_errorPosition_12 : decode cX9_errorPosition 12 = .ok (.ldc_w 327, 3) := by decide +kernel
theorem dX9_errorPosition_15 : decode cX9_errorPosition 15 = .ok (.invokespecial 118, 3) := by decide +kernel
theorem dX9_errorPosition_18 : decode cX9_errorPosition 18 = .ok (.athrow, 1) := by decide +kernel
theorem dX9_errorPosition_19 : decode cX9_errorPosition 19 = .ok (.aload_n 0, 1) := by decide +kernel
theorem dX9_errorPosition_20 : decode cX9_errorPosition 20 = .ok (.getfield 53, 3) := by decide +kernel
theorem dX9_errorPosition_23 : decode cX9_errorPosition 23 = .ok (.ireturn, 1) := by decide +kernel
theorem dX9_failedCommand_0 : decode cX9_failedCommand 0 = .ok (.aload_n 0, 1) := by decide +kernel
theorem dX9_failedCommand_1 : decode cX9_failedCommand 1 = .ok (.getfield 57, 3) := by decide +kernel
theorem dX9_failedCommand_4 : decode cX9_failedCommand 4 = .ok (.iconst (-1), 1) := by decide +kernel
theorem dX9_failedCommand_5 : decode cX9_failedCommand 5 = .ok (.if_icmp .ne 14, 3) := by decide +kernel
theorem dX9_failedCommand_8 : decode cX9_failedCommand 8 = .ok (.new 114, 3) := by decide +kernel
theorem dX9_failedCommand_11 : decode cX9_failedCommand 11 = .ok (.dup, 1) := by decide +kernel
theorem dX9_failedCommand_12 : decode cX9_failedCommand 12 = .ok (.ldc_w 329, 3) := by decide +kernel
theorem dX9_failedCommand_15 : decode cX9_failedCommand 15 = .ok (.invokespecial 118, 3) := by decide +kernel
theorem dX9_failedCommand_18 : decode cX9_failedCommand 18 = .ok (.athrow, 1) := by decide +kernel
theorem dX9_failedCommand_19 : decode cX9_failedCommand 19 = .ok (.aload_n 0, 1) := by decide +kernel
theorem dX9_failedCommand_20 : decode cX9_failedCommand 20 = .ok (.getfield 57, 3) := by decide +kernel
theorem dX9_failedCommand_23 : decode cX9_failedCommand 23 = .ok (.ireturn, 1) := by decide +kernel
theorem dX9_describeList_0 : decode cX9_describeList 0 = .ok (.aload_n 0, 1) := by decide +kernel
theorem dX9_describeList_1 : decode cX9_describeList 1 = .ok (.iload_n 1, 1) := by decide +kernel
theorem dX9_describeList_2 : decode cX9_describeList 2 = .ok (.invokevirtual 181, 3) := by decide +kernel
theorem dX9_describeList_5 : decode cX9_describeList 5 = .ok (.aload_n 0, 1) := by decide +kernel
theorem dX9_describeList_6 : decode cX9_describeList 6 = .ok (.getfield 10, 3) := by decide +kernel
theorem dX9_describeList_9 : decode cX9_describeList 9 = .ok (.getfield 184, 3) := by decide +kernel
theorem dX9_describeList_12 : decode cX9_describeList 12 = .ok (.iload_n 1, 1) := by decide +kernel
theorem dX9_describeList_13 : decode cX9_describeList 13 = .ok (.aaload, 1) := by decide +kernel
theorem dX9_describeList_14 : decode cX9_describeList 14 = .ok (.astore_n 2, 1) := by decide +kernel
theorem dX9_describeList_15 : decode cX9_describeList 15 = .ok (.aload_n 0, 1) := by decide +kernel
theorem dX9_describeList_16 : decode cX9_describeList 16 = .ok (.iload_n 1, 1) := by decide +kernel
theorem dX9_describeList_17 : decode cX9_describeList 17 = .ok (.invokevirtual 193, 3) := by decide +kernel
theorem dX9_describeList_20 : decode cX9_describeList 20 = .ok (.aload_n 0, 1) := by decide +kernel
theorem dX9_describeList_21 : decode cX9_describeList 21 = .ok (.getfield 50, 3) := by decide +kernel
theorem dX9_describeList_24 : decode cX9_describeList 24 = .ok (.iconst 0, 1) := by decide +kernel
theorem dX9_describeList_25 : decode cX9_describeList 25 = .ok (.invokevirtual 308, 3) := by decide +kernel
theorem dX9_describeList_28 : decode cX9_describeList 28 = .ok (.iconst 0, 1) := by decide +kernel
theorem dX9_describeList_29 : decode cX9_describeList 29 = .ok (.istore_n 3, 1) := by decide +kernel
theorem dX9_describeList_30 : decode cX9_describeList 30 = .ok (.iload_n 3, 1) := by decide +kernel
theorem dX9_describeList_31 : decode cX9_describeList 31 = .ok (.aload_n 2, 1) := by decide +kernel
theorem dX9_describeList_32 : decode cX9_describeList 32 = .ok (.getfield 188, 3) := by decide +kernel
theorem dX9_describeList_35 : decode cX9_describeList 35 = .ok (.if_icmp .ge 64, 3) := by decide +kernel
theorem dX9_describeList_38 : decode cX9_describeList 38 = .ok (.iload_n 3, 1) := by decide +kernel
theorem dX9_describeList_39 : decode cX9_describeList 39 = .ok (.ifCond .le 13, 3) := by decide +kernel
theorem dX9_describeList_42 : decode cX9_describeList 42 = .ok (.aload_n 0, 1) := by decide +kernel
theorem dX9_describeList_43 : decode cX9_describeList 43 = .ok (.getfield 50, 3) := by decide +kernel
theorem dX9_describeList_46 : decode cX9_describeList 46 = .ok (.bipush 44, 2) := by decide +kernel
theorem dX9_describeList_48 : decode cX9_describeList 48 = .ok (.invokevirtual 300, 3) := by decide +kernel
theorem dX9_describeList_51 : decode cX9_describeList 51 = .ok (.pop, 1) := by decide +kernel
theorem dX9_describeList_52 : decode cX9_describeList 52 = .ok (.aload_n 0, 1) := by decide +kernel
theorem dX9_describeList_53 : decode cX9_describeList 53 = .ok (.getfield 32, 3) := by decide +kernel
theorem dX9_describeList_56 : decode cX9_describeList 56 = .ok (.invokevirtual 196, 3) := by decide +kernel
theorem dX9_describeList_59 : decode cX9_describeList 59 = .ok (.istore 4, 2) := by decide +kernel
theorem dX9_describeList_61 : decode cX9_describeList 61 = .ok (.aload_n 0, 1) := by decide +kernel
theorem dX9_describeList_62 : decode cX9_describeList 62 = .ok (.getfield 50, 3) := by decide +kernel
theorem dX9_describeList_65 : decode cX9_describeList 65 = .ok (.iload 4, 2) := by decide +kernel
theorem dX9_describeList_67 : decode cX9_describeList 67 = .ok (.invokevirtual 331, 3) := by decide +kernel
theorem dX9_describeList_70 : decode cX9_describeList 70 = .ok (.pop, 1) := by decide +kernel
theorem dX9_describeList_71 : decode cX9_describeList 71 = .ok (.aload_n 0, 1) := by decide +kernel
theorem dX9_describeList_72 : decode cX9_describeList 72 = .ok (.getfield 10, 3) := by decide +kernel
theorem dX9_describeList_75 : decode cX9_describeList 75 = .ok (.iload 4, 2) := by decide +kernel
theorem dX9_describeList_77 : decode cX9_describeList 77 = .ok (.invokevirtual 110, 3) := by decide +kernel
theorem dX9_describeList_80 : decode cX9_describeList 80 = .ok (.ifCond .ne 13, 3) := by decide +kernel
theorem dX9_describeList_83 : decode cX9_describeList 83 = .ok (.aload_n 0, 1) := by decide +kernel
theorem dX9_describeList_84 : decode cX9_describeList 84 = .ok (.getfield 50, 3) := by decide +kernel
theorem dX9_describeList_87 : decode cX9_describeList 87 = .ok (.bipush 126, 2) := by decide +kernel
theorem dX9_describeList_89 : decode cX9_describeList 89 = .ok (.invokevirtual 300, 3) := by decide +kernel
theorem dX9_describeList_92 : decode cX9_describeList 92 = .ok (.pop, 1) := by decide +kernel
theorem dX9_describeList_93 : decode cX9_describeList 93 = .ok (.iinc 3 1, 3) := by decide +kernel
theorem dX9_describeList_96 : decode cX9_describeList 96 = .ok (.goto (-66), 3) := by decide +kernel
theorem dX9_describeList_99 : decode cX9_describeList 99 = .ok (.aload_n 2, 1) := by decide +kernel
theorem dX9_describeList_100 : decode cX9_describeList 100 = .ok (.getfield 230, 3) := by decide +kernel
theorem dX9_describeList_103 : decode cX9_describeList 103 = .ok (.ifCond .eq 13, 3) := by decide +kernel
theorem dX9_describeList_106 : decode cX9_describeList 106 = .ok (.aload_n 0, 1) := by decide +kernel
theorem dX9_describeList_107 : decode cX9_describeList 107 = .ok (.getfield 50, 3) := by decide +kernel
theorem dX9_describeList_110 : decode cX9_describeList 110 = .ok (.bipush 124, 2) := by decide +kernel
theorem dX9_describeList_112 : decode cX9_describeList 112 = .ok (.invokevirtual 300, 3) := by decide +kernel
theorem dX9_describeList_115 : decode cX9_describeList 115 = .ok (.pop, 1) := by decide +kernel
theorem dX9_describeList_116 : decode cX9_describeList 116 = .ok (.aload_n 0, 1) := by decide +kernel
theorem dX9_describeList_117 : decode cX9_describeList 117 = .ok (.getfield 50, 3) := by decide +kernel
theorem dX9_describeList_120 : decode cX9_describeList 120 = .ok (.invokevirtual 292, 3) := by decide +kernel
theorem dX9_describeList_123 : decode cX9_describeList 123 = .ok (.ireturn, 1) := by decide +kernel
theorem dX9_lineAt_0 : decode cX9_lineAt 0 = .ok (.iload_n 1, 1) := by decide +kernel
theorem dX9_lineAt_1 : decode cX9_lineAt 1 = .ok (.ifCond .lt 14, 3) := by decide +kernel
theorem dX9_lineAt_4 : decode cX9_lineAt 4 = .ok (.iload_n 1, 1) := by decide +kernel
theorem dX9_lineAt_5 : decode cX9_lineAt 5 = .ok (.aload_n 0, 1) := by decide +kernel
theorem dX9_lineAt_6 : decode cX9_lineAt 6 = .ok (.getfield 50, 3) := by decide +kernel
theorem dX9_lineAt_9 : decode cX9_lineAt 9 = .ok (.invokevirtual 292, 3) := by decide +kernel
theorem dX9_lineAt_12 : decode cX9_lineAt 12 = .ok (.if_icmp .lt 14, 3) := by decide +kernel
theorem dX9_lineAt_15 : decode cX9_lineAt 15 = .ok (.new 334, 3) := by decide +kernel
theorem dX9_lineAt_18 : decode cX9_lineAt 18 = .ok (.dup, 1) := by decide +kernel
theorem dX9_lineAt_19 : decode cX9_lineAt 19 = .ok (.ldc_w 336, 3) := by decide +kernel
theorem dX9_lineAt_22 : decode cX9_lineAt 22 = .ok (.invokespecial 338, 3) := by decide +kernel
theorem dX9_lineAt_25 : decode cX9_lineAt 25 = .ok (.athrow, 1) := by decide +kernel
theorem dX9_lineAt_26 : decode cX9_lineAt 26 = .ok (.aload_n 0, 1) := by decide +kernel
theorem dX9_lineAt_27 : decode cX9_lineAt 27 = .ok (.getfield 50, 3) := by decide +kernel
theorem dX9_lineAt_30 : decode cX9_lineAt 30 = .ok (.iload_n 1, 1) := by decide +kernel
theorem dX9_lineAt_31 : decode cX9_lineAt 31 = .ok (.invokevirtual 339, 3) := by decide +kernel
theorem dX9_lineAt_34 : decode cX9_lineAt 34 = .ok (.ireturn, 1) := by decide +kernel
theorem dX9_meanSittingWeight_0 : decode cX9_meanSittingWeight 0 = .ok (.aload_n 0, 1) := by decide +kernel
theorem dX9_meanSittingWeight_1 : decode cX9_meanSittingWeight 1 = .ok (.getfield 10, 3) := by decide +kernel
theorem dX9_meanSittingWeight_4 : decode cX9_meanSittingWeight 4 = .ok (.getfield 139, 3) := by decide +kernel
theorem dX9_meanSittingWeight_7 : decode cX9_meanSittingWeight 7 = .ok (.invokestatic 142, 3) := by decide +kernel
theorem dX9_meanSittingWeight_10 : decode cX9_meanSittingWeight 10 = .ok (.istore_n 1, 1) := by decide +kernel
theorem dX9_meanSittingWeight_11 : decode cX9_meanSittingWeight 11 = .ok (.iload_n 1, 1) := by decide +kernel
theorem dX9_meanSittingWeight_12 : decode cX9_meanSittingWeight 12 = .ok (.ifCond .ne 14, 3) := by decide +kernel
theorem dX9_meanSittingWeight_15 : decode cX9_meanSittingWeight 15 = .ok (.new 278, 3) := by decide +kernel
theorem dX9_meanSittingWeight_18 : decode cX9_meanSittingWeight 18 = .ok (.dup, 1) := by decide +kernel
theorem dX9_meanSittingWeight_19 : decode cX9_meanSittingWeight 19 = .ok (.ldc_w 343, 3) := by decide +kernel
theorem dX9_meanSittingWeight_22 : decode cX9_meanSittingWeight 22 = .ok (.invokespecial 280, 3) := by decide +kernel
theorem dX9_meanSittingWeight_25 : decode cX9_meanSittingWeight 25 = .ok (.athrow, 1) := by decide +kernel
theorem dX9_meanSittingWeight_26 : decode cX9_meanSittingWeight 26 = .ok (.aload_n 0, 1) := by decide +kernel
theorem dX9_meanSittingWeight_27 : decode cX9_meanSittingWeight 27 = .ok (.getfield 10, 3) := by decide +kernel
theorem dX9_meanSittingWeight_30 : decode cX9_meanSittingWeight 30 = .ok (.aload_n 0, 1) := by decide +kernel
theorem dX9_meanSittingWeight_31 : decode cX9_meanSittingWeight 31 = .ok (.getfield 10, 3) := by decide +kernel
theorem dX9_meanSittingWeight_34 : decode cX9_meanSittingWeight 34 = .ok (.getfield 139, 3) := by decide +kernel
theorem dX9_meanSittingWeight_37 : decode cX9_meanSittingWeight 37 = .ok (.invokevirtual 136, 3) := by decide +kernel
theorem dX9_meanSittingWeight_40 : decode cX9_meanSittingWeight 40 = .ok (.i2d, 1) := by decide +kernel
theorem dX9_meanSittingWeight_41 : decode cX9_meanSittingWeight 41 = .ok (.iload_n 1, 1) := by decide +kernel
theorem dX9_meanSittingWeight_42 : decode cX9_meanSittingWeight 42 = .ok (.i2d, 1) := by decide +kernel
theorem dX9_meanSittingWeight_43 : decode cX9_meanSittingWeight 43 = .ok (.ddiv, 1) := by decide +kernel
theorem dX9_meanSittingWeight_44 : decode cX9_meanSittingWeight 44 = .ok (.dreturn, 1) := by decide +kernel
theorem dX9_isConsistent_0 : decode cX9_isConsistent 0 = .ok (.aload_n 0, 1) := by decide +kernel
theorem dX9_isConsistent_1 : decode cX9_isConsistent 1 = .ok (.invokevirtual 345, 3) := by decide +kernel
theorem dX9_isConsistent_4 : decode cX9_isConsistent 4 = .ok (.aload_n 0, 1) := by decide +kernel
theorem dX9_isConsistent_5 : decode cX9_isConsistent 5 = .ok (.invokevirtual 348, 3) := by decide +kernel
theorem dX9_isConsistent_8 : decode cX9_isConsistent 8 = .ok (.if_icmp .eq 5, 3) := by decide +kernel
theorem dX9_isConsistent_11 : decode cX9_isConsistent 11 = .ok (.iconst 0, 1) := by decide +kernel
theorem dX9_isConsistent_12 : decode cX9_isConsistent 12 = .ok (.ireturn, 1) := by decide +kernel
theorem dX9_isConsistent_13 : decode cX9_isConsistent 13 = .ok (.iconst 0, 1) := by decide +kernel
theorem dX9_isConsistent_14 : decode cX9_isConsistent 14 = .ok (.istore_n 1, 1) := by decide +kernel
theorem dX9_isConsistent_15 : decode cX9_isConsistent 15 = .ok (.iconst 0, 1) := by decide +kernel
theorem dX9_isConsistent_16 : decode cX9_isConsistent 16 = .ok (.istore_n 2, 1) := by decide +kernel
theorem dX9_isConsistent_17 : decode cX9_isConsistent 17 = .ok (.iload_n 2, 1) := by decide +kernel
theorem dX9_isConsistent_18 : decode cX9_isConsistent 18 = .ok (.aload_n 0, 1) := by decide +kernel
theorem dX9_isConsistent_19 : decode cX9_isConsistent 19 = .ok (.getfield 10, 3) := by decide +kernel
theorem dX9_isConsistent_22 : decode cX9_isConsistent 22 = .ok (.getfield 153, 3) := by decide +kernel
theorem dX9_isConsistent_25 : decode cX9_isConsistent 25 = .ok (.if_icmp .ge 55, 3) := by decide +kernel
theorem dX9_isConsistent_28 : decode cX9_isConsistent 28 = .ok (.aload_n 0, 1) := by decide +kernel
theorem dX9_isConsistent_29 : decode cX9_isConsistent 29 = .ok (.iload_n 2, 1) := by decide +kernel
theorem dX9_isConsistent_30 : decode cX9_isConsistent 30 = .ok (.invokevirtual 351, 3) := by decide +kernel
theorem dX9_isConsistent_33 : decode cX9_isConsistent 33 = .ok (.ifCond .le 18, 3) := by decide +kernel
theorem dX9_isConsistent_36 : decode cX9_isConsistent 36 = .ok (.aload_n 0, 1) := by decide +kernel
theorem dX9_isConsistent_37 : decode cX9_isConsistent 37 = .ok (.iload_n 2, 1) := by decide +kernel
theorem dX9_isConsistent_38 : decode cX9_isConsistent 38 = .ok (.invokevirtual 354, 3) := by decide +kernel
theorem dX9_isConsistent_41 : decode cX9_isConsistent 41 = .ok (.aload_n 0, 1) := by decide +kernel
theorem dX9_isConsistent_42 : decode cX9_isConsistent 42 = .ok (.iload_n 2, 1) := by decide +kernel
theorem dX9_isConsistent_43 : decode cX9_isConsistent 43 = .ok (.invokevirtual 357, 3) := by decide +kernel
theorem dX9_isConsistent_46 : decode cX9_isConsistent 46 = .ok (.if_icmp .eq 5, 3) := by decide +kernel
theorem dX9_isConsistent_49 : decode cX9_isConsistent 49 = .ok (.iconst 0, 1) := by decide +kernel
theorem dX9_isConsistent_50 : decode cX9_isConsistent 50 = .ok (.ireturn, 1) := by decide +kernel
theorem dX9_isConsistent_51 : decode cX9_isConsistent 51 = .ok (.aload_n 0, 1) := by decide +kernel
theorem dX9_isConsistent_52 : decode cX9_isConsistent 52 = .ok (.iload_n 2, 1) := by decide +kernel
theorem dX9_isConsistent_53 : decode cX9_isConsistent 53 = .ok (.invokevirtual 360, 3) := by decide +kernel
theorem dX9_isConsistent_56 : decode cX9_isConsistent 56 = .ok (.aload_n 0, 1) := by decide +kernel
theorem dX9_isConsistent_57 : decode cX9_isConsistent 57 = .ok (.iload_n 2, 1) := by decide +kernel
theorem dX9_isConsistent_58 : decode cX9_isConsistent 58 = .ok (.invokevirtual 363, 3) := by decide +kernel
theorem dX9_isConsistent_61 : decode cX9_isConsistent 61 = .ok (.if_icmp .eq 5, 3) := by decide +kernel
theorem dX9_isConsistent_64 : decode cX9_isConsistent 64 = .ok (.iconst 0, 1) := by decide +kernel
theorem dX9_isConsistent_65 : decode cX9_isConsistent 65 = .ok (.ireturn, 1) := by decide +kernel
theorem dX9_isConsistent_66 : decode cX9_isConsistent 66 = .ok (.iload_n 1, 1) := by decide +kernel
theorem dX9_isConsistent_67 : decode cX9_isConsistent 67 = .ok (.aload_n 0, 1) := by decide +kernel
theorem dX9_isConsistent_68 : decode cX9_isConsistent 68 = .ok (.iload_n 2, 1) := by decide +kernel
theorem dX9_isConsistent_69 : decode cX9_isConsistent 69 = .ok (.invokevirtual 366, 3) := by decide +kernel
theorem dX9_isConsistent_72 : decode cX9_isConsistent 72 = .ok (.iadd, 1) := by decide +kernel
theorem dX9_isConsistent_73 : decode cX9_isConsistent 73 = .ok (.istore_n 1, 1) := by decide +kernel
theorem dX9_isConsistent_74 : decode cX9_isConsistent 74 = .ok (.iinc 2 1, 3) := by decide +kernel
theorem dX9_isConsistent_77 : decode cX9_isConsistent 77 = .ok (.goto (-60), 3) := by decide +kernel
theorem dX9_isConsistent_80 : decode cX9_isConsistent 80 = .ok (.iload_n 1, 1) := by decide +kernel
theorem dX9_isConsistent_81 : decode cX9_isConsistent 81 = .ok (.aload_n 0, 1) := by decide +kernel
theorem dX9_isConsistent_82 : decode cX9_isConsistent 82 = .ok (.invokevirtual 369, 3) := by decide +kernel
theorem dX9_isConsistent_85 : decode cX9_isConsistent 85 = .ok (.if_icmp .ne 7, 3) := by decide +kernel
theorem dX9_isConsistent_88 : decode cX9_isConsistent 88 = .ok (.iconst 1, 1) := by decide +kernel
theorem dX9_isConsistent_89 : decode cX9_isConsistent 89 = .ok (.goto 4, 3) := by decide +kernel
theorem dX9_isConsistent_92 : decode cX9_isConsistent 92 = .ok (.iconst 0, 1) := by decide +kernel
theorem dX9_isConsistent_93 : decode cX9_isConsistent 93 = .ok (.ireturn, 1) := by decide +kernel
theorem dX9_undo_0 : decode cX9_undo 0 = .ok (.aload_n 0, 1) := by decide +kernel
theorem dX9_undo_1 : decode cX9_undo 1 = .ok (.getfield 25, 3) := by decide +kernel
theorem dX9_undo_4 : decode cX9_undo 4 = .ok (.getfield 372, 3) := by decide +kernel
theorem dX9_undo_7 : decode cX9_undo 7 = .ok (.ifCond .ne 14, 3) := by decide +kernel
theorem dX9_undo_10 : decode cX9_undo 10 = .ok (.new 295, 3) := by decide +kernel
theorem dX9_undo_13 : decode cX9_undo 13 = .ok (.dup, 1) := by decide +kernel
theorem dX9_undo_14 : decode cX9_undo 14 = .ok (.ldc_w 375, 3) := by decide +kernel
theorem dX9_undo_17 : decode cX9_undo 17 = .ok (.invokespecial 299, 3) := by decide +kernel
theorem dX9_undo_20 : decode cX9_undo 20 = .ok (.athrow, 1) := by decide +kernel
theorem dX9_undo_21 : decode cX9_undo 21 = .ok (.aload_n 0, 1) := by decide +kernel
theorem dX9_undo_22 : decode cX9_undo 22 = .ok (.getfield 25, 3) := by decide +kernel
theorem dX9_undo_25 : decode cX9_undo 25 = .ok (.aload_n 0, 1) := by decide +kernel
theorem dX9_undo_26 : decode cX9_undo 26 = .ok (.getfield 10, 3) := by decide +kernel
theorem dX9_undo_29 : decode cX9_undo 29 = .ok (.invokevirtual 377, 3) := by decide +kernel
theorem dX9_undo_32 : decode cX9_undo 32 = .ok (.aload_n 0, 1) := by decide +kernel
theorem dX9_undo_33 : decode cX9_undo 33 = .ok (.getfield 25, 3) := by decide +kernel
theorem dX9_undo_36 : decode cX9_undo 36 = .ok (.getfield 372, 3) := by decide +kernel
theorem dX9_undo_39 : decode cX9_undo 39 = .ok (.ireturn, 1) := by decide +kernel
theorem dX9_save_0 : decode cX9_save 0 = .ok (.aload_n 0, 1) := by decide +kernel
theorem dX9_save_1 : decode cX9_save 1 = .ok (.getfield 19, 3) := by decide +kernel
theorem dX9_save_4 : decode cX9_save 4 = .ok (.aload_n 0, 1) := by decide +kernel
theorem dX9_save_5 : decode cX9_save 5 = .ok (.getfield 10, 3) := by decide +kernel
theorem dX9_save_8 : decode cX9_save 8 = .ok (.invokevirtual 316, 3) := by decide +kernel
theorem dX9_save_11 : decode cX9_save 11 = .ok (.aload_n 0, 1) := by decide +kernel
theorem dX9_save_12 : decode cX9_save 12 = .ok (.iconst 1, 1) := by decide +kernel
theorem dX9_save_13 : decode cX9_save 13 = .ok (.putfield 380, 3) := by decide +kernel
theorem dX9_save_16 : decode cX9_save 16 = .ok (.aload_n 0, 1) := by decide +kernel
theorem dX9_save_17 : decode cX9_save 17 = .ok (.getfield 10, 3) := by decide +kernel
theorem dX9_save_20 : decode cX9_save 20 = .ok (.getfield 153, 3) := by decide +kernel
theorem dX9_save_23 : decode cX9_save 23 = .ok (.ireturn, 1) := by decide +kernel
theorem dX9_restore_0 : decode cX9_restore 0 = .ok (.aload_n 0, 1) := by decide +kernel
theorem dX9_restore_1 : decode cX9_restore 1 = .ok (.getfield 380, 3) := by decide +kernel
theorem dX9_restore_4 : decode cX9_restore 4 = .ok (.ifCond .ne 14, 3) := by decide +kernel
theorem dX9_restore_7 : decode cX9_restore 7 = .ok (.new 295, 3) := by decide +kernel
theorem dX9_restore_10 : decode cX9_restore 10 = .ok (.dup, 1) := by decide +kernel
theorem dX9_restore_11 : decode cX9_restore 11 = .ok (.ldc_w 383, 3) := by decide +kernel
theorem dX9_restore_14 : decode cX9_restore 14 = .ok (.invokespecial 299, 3) := by decide +kernel
theorem dX9_restore_17 : decode cX9_restore 17 = .ok (.athrow, 1) := by decide +kernel
theorem dX9_restore_18 : decode cX9_restore 18 = .ok (.aload_n 0, 1) := by decide +kernel
theorem dX9_restore_19 : decode cX9_restore 19 = .ok (.getfield 10, 3) := by decide +kernel
theorem dX9_restore_22 : decode cX9_restore 22 = .ok (.aload_n 0, 1) := by decide +kernel
theorem dX9_restore_23 : decode cX9_restore 23 = .ok (.getfield 19, 3) := by decide +kernel
theorem dX9_restore_26 : decode cX9_restore 26 = .ok (.invokevirtual 316, 3) := by decide +kernel
theorem dX9_restore_29 : decode cX9_restore 29 = .ok (.aload_n 0, 1) := by decide +kernel
theorem dX9_restore_30 : decode cX9_restore 30 = .ok (.getfield 25, 3) := by decide +kernel
theorem dX9_restore_33 : decode cX9_restore 33 = .ok (.invokevirtual 385, 3) := by decide +kernel
theorem dX9_restore_36 : decode cX9_restore 36 = .ok (.aload_n 0, 1) := by decide +kernel
theorem dX9_restore_37 : decode cX9_restore 37 = .ok (.getfield 10, 3) := by decide +kernel
theorem dX9_restore_40 : decode cX9_restore 40 = .ok (.getfield 153, 3) := by decide +kernel
theorem dX9_restore_43 : decode cX9_restore 43 = .ok (.ireturn, 1) := by decide +kernel
theorem dX9_requireFrog_0 : decode cX9_requireFrog 0 = .ok (.aload_n 0, 1) := by decide +kernel
theorem dX9_requireFrog_1 : decode cX9_requireFrog 1 = .ok (.getfield 10, 3) := by decide +kernel
theorem dX9_requireFrog_4 : decode cX9_requireFrog 4 = .ok (.iload_n 1, 1) := by decide +kernel
theorem dX9_requireFrog_5 : decode cX9_requireFrog 5 = .ok (.invokevirtual 388, 3) := by decide +kernel
theorem dX9_requireFrog_8 : decode cX9_requireFrog 8 = .ok (.ifCond .eq 9, 3) := by decide +kernel
theorem dX9_requireFrog_11 : decode cX9_requireFrog 11 = .ok (.getstatic 391, 3) := by decide +kernel
theorem dX9_requireFrog_14 : decode cX9_requireFrog 14 = .ok (.goto 6, 3) := by decide +kernel
theorem dX9_requireFrog_17 : decode cX9_requireFrog 17 = .ok (.getstatic 397, 3) := by decide +kernel
theorem dX9_requireFrog_20 : decode cX9_requireFrog 20 = .ok (.invokestatic 64, 3) := by decide +kernel
theorem dX9_requireFrog_23 : decode cX9_requireFrog 23 = .ok (.return_, 1) := by decide +kernel
theorem dX9_requirePad_0 : decode cX9_requirePad 0 = .ok (.aload_n 0, 1) := by decide +kernel
theorem dX9_requirePad_1 : decode cX9_requirePad 1 = .ok (.getfield 10, 3) := by decide +kernel
theorem dX9_requirePad_4 : decode cX9_requirePad 4 = .ok (.iload_n 1, 1) := by decide +kernel
theorem dX9_requirePad_5 : decode cX9_requirePad 5 = .ok (.invokevirtual 400, 3) := by decide +kernel
theorem dX9_requirePad_8 : decode cX9_requirePad 8 = .ok (.ifCond .eq 9, 3) := by decide +kernel
theorem dX9_requirePad_11 : decode cX9_requirePad 11 = .ok (.getstatic 391, 3) := by decide +kernel
theorem dX9_requirePad_14 : decode cX9_requirePad 14 = .ok (.goto 6, 3) := by decide +kernel
theorem dX9_requirePad_17 : decode cX9_requirePad 17 = .ok (.getstatic 403, 3) := by decide +kernel
theorem dX9_requirePad_20 : decode cX9_requirePad 20 = .ok (.invokestatic 64, 3) := by decide +kernel
theorem dX9_requirePad_23 : decode cX9_requirePad 23 = .ok (.return_, 1) := by decide +kernel
theorem dX9_requireMotion_0 : decode cX9_requireMotion 0 = .ok (.aload_n 0, 1) := by decide +kernel
theorem dX9_requireMotion_1 : decode cX9_requireMotion 1 = .ok (.getfield 10, 3) := by decide +kernel
theorem dX9_requireMotion_4 : decode cX9_requireMotion 4 = .ok (.iload_n 1, 1) := by decide +kernel
theorem dX9_requireMotion_5 : decode cX9_requireMotion 5 = .ok (.invokevirtual 406, 3) := by decide +kernel
theorem dX9_requireMotion_8 : decode cX9_requireMotion 8 = .ok (.ifCond .eq 9, 3) := by decide +kernel
theorem dX9_requireMotion_11 : decode cX9_requireMotion 11 = .ok (.getstatic 391, 3) := by decide +kernel
theorem dX9_requireMotion_14 : decode cX9_requireMotion 14 = .ok (.goto 6, 3) := by decide +kernel
theorem dX9_requireMotion_17 : decode cX9_requireMotion 17 = .ok (.getstatic 409, 3) := by decide +kernel
theorem dX9_requireMotion_20 : decode cX9_requireMotion 20 = .ok (.invokestatic 64, 3) := by decide +kernel
theorem dX9_requireMotion_23 : decode cX9_requireMotion 23 = .ok (.return_, 1) := by decide +kernel
theorem dX9_fillQueue_0 : decode cX9_fillQueue 0 = .ok (.aload_n 0, 1) := by decide +kernel
theorem dX9_fillQueue_1 : decode cX9_fillQueue 1 = .ok (.getfield 10, 3) := by decide +kernel
theorem dX9_fillQueue_4 : decode cX9_fillQueue 4 = .ok (.getfield 184, 3) := by decide +kernel
theorem dX9_fillQueue_7 : decode cX9_fillQueue 7 = .ok (.iload_n 1, 1) := by decide +kernel
theorem dX9_fillQueue_8 : decode cX9_fillQueue 8 = .ok (.aaload, 1) := by decide +kernel
theorem dX9_fillQueue_9 : decode cX9_fillQueue 9 = .ok (.astore_n 2, 1) := by decide +kernel
theorem dX9_fillQueue_10 : decode cX9_fillQueue 10 = .ok (.aload_n 0, 1) := by decide +kernel
theorem dX9_fillQueue_11 : decode cX9_fillQueue 11 = .ok (.getfield 32, 3) := by decide +kernel
theorem dX9_fillQueue_14 : decode cX9_fillQueue 14 = .ok (.invokevirtual 412, 3) := by decide +kernel
theorem dX9_fillQueue_17 : decode cX9_fillQueue 17 = .ok (.iconst 0, 1) := by decide +kernel
theorem dX9_fillQueue_18 : decode cX9_fillQueue 18 = .ok (.istore_n 3, 1) := by decide +kernel
theorem dX9_fillQueue_19 : decode cX9_fillQueue 19 = .ok (.iload_n 3, 1) := by decide +kernel
theorem dX9_fillQueue_20 : decode cX9_fillQueue 20 = .ok (.aload_n 2, 1) := by decide +kernel
theorem dX9_fillQueue_21 : decode cX9_fillQueue 21 = .ok (.getfield 188, 3) := by decide +kernel
theorem dX9_fillQueue_24 : decode cX9_fillQueue 24 = .ok (.if_icmp .ge 37, 3) := by decide +kernel
theorem dX9_fillQueue_27 : decode cX9_fillQueue 27 = .ok (.aload_n 2, 1) := by decide +kernel
theorem dX9_fillQueue_28 : decode cX9_fillQueue 28 = .ok (.getfield 200, 3) := by decide +kernel
theorem dX9_fillQueue_31 : decode cX9_fillQueue 31 = .ok (.iload_n 3, 1) := by decide +kernel
theorem dX9_fillQueue_32 : decode cX9_fillQueue 32 = .ok (.iaload, 1) := by decide +kernel
theorem dX9_fillQueue_33 : decode cX9_fillQueue 33 = .ok (.istore 4, 2) := by decide +kernel
theorem dX9_fillQueue_35 : decode cX9_fillQueue 35 = .ok (.aload_n 0, 1) := by decide +kernel
theorem dX9_fillQueue_36 : decode cX9_fillQueue 36 = .ok (.getfield 32, 3) := by decide +kernel
theorem dX9_fillQueue_39 : decode cX9_fillQueue 39 = .ok (.aload_n 0, 1) := by decide +kernel
theorem dX9_fillQueue_40 : decode cX9_fillQueue 40 = .ok (.getfield 10, 3) := by decide +kernel
theorem dX9_fillQueue_43 : decode cX9_fillQueue 43 = .ok (.getfield 213, 3) := by decide +kernel
theorem dX9_fillQueue_46 : decode cX9_fillQueue 46 = .ok (.iload 4, 2) := by decide +kernel
theorem dX9_fillQueue_48 : decode cX9_fillQueue 48 = .ok (.iaload, 1) := by decide +kernel
theorem dX9_fillQueue_49 : decode cX9_fillQueue 49 = .ok (.iload_n 3, 1) := by decide +kernel
theorem dX9_fillQueue_50 : decode cX9_fillQueue 50 = .ok (.iload 4, 2) := by decide +kernel
theorem dX9_fillQueue_52 : decode cX9_fillQueue 52 = .ok (.invokevirtual 415, 3) := by decide +kernel
theorem dX9_fillQueue_55 : decode cX9_fillQueue 55 = .ok (.iinc 3 1, 3) := by decide +kernel
theorem dX9_fillQueue_58 : decode cX9_fillQueue 58 = .ok (.goto (-39), 3) := by decide +kernel
theorem dX9_fillQueue_61 : decode cX9_fillQueue 61 = .ok (.return_, 1) := by decide +kernel
theorem dX9_carryOutCommands_0 : decode cX9_carryOutCommands 0 = .ok (.iconst 0, 1) := by decide +kernel
theorem dX9_carryOutCommands_1 : decode cX9_carryOutCommands 1 = .ok (.istore_n 1, 1) := by decide +kernel
theorem dX9_carryOutCommands_2 : decode cX9_carryOutCommands 2 = .ok (.iload_n 1, 1) := by decide +kernel
theorem dX9_carryOutCommands_3 : decode cX9_carryOutCommands 3 = .ok (.aload_n 0, 1) := by decide +kernel
theorem dX9_carryOutCommands_4 : decode cX9_carryOutCommands 4 = .ok (.getfield 39, 3) := by decide +kernel
theorem dX9_carryOutCommands_7 : decode cX9_carryOutCommands 7 = .ok (.getfield 322, 3) := by decide +kernel
theorem dX9_carryOutCommands_10 : decode cX9_carryOutCommands 10 = .ok (.if_icmp .ge 43, 3) := by decide +kernel
theorem dX9_carryOutCommands_13 : decode cX9_carryOutCommands 13 = .ok (.aload_n 0, 1) := by decide +kernel
theorem dX9_carryOutCommands_14 : decode cX9_carryOutCommands 14 = .ok (.getfield 39, 3) := by decide +kernel
theorem dX9_carryOutCommands_17 : decode cX9_carryOutCommands 17 = .ok (.getfield 419, 3) := by decide +kernel
theorem dX9_carryOutCommands_20 : decode cX9_carryOutCommands 20 = .ok (.iload_n 1, 1) := by decide +kernel
theorem dX9_carryOutCommands_21 : decode cX9_carryOutCommands 21 = .ok (.aaload, 1) := by decide +kernel
theorem dX9_carryOutCommands_22 : decode cX9_carryOutCommands 22 = .ok (.astore_n 2, 1) := by decide +kernel
theorem dX9_carryOutCommands_23 : decode cX9_carryOutCommands 23 = .ok (.aload_n 0, 1) := by decide +kernel
theorem dX9_carryOutCommands_24 : decode cX9_carryOutCommands 24 = .ok (.getfield 10, 3) := by decide +kernel
theorem dX9_carryOutCommands_27 : decode cX9_carryOutCommands 27 = .ok (.aload_n 2, 1) := by decide +kernel
theorem dX9_carryOutCommands_28 : decode cX9_carryOutCommands 28 = .ok (.invokevirtual 423, 3) := by decide +kernel
theorem dX9_carryOutCommands_31 : decode cX9_carryOutCommands 31 = .ok (.getstatic 391, 3) := by decide +kernel
theorem dX9_carryOutCommands_34 : decode cX9_carryOutCommands 34 = .ok (.if_acmp .eq 5, 3) := by decide +kernel
theorem dX9_carryOutCommands_37 : decode cX9_carryOutCommands 37 = .ok (.iload_n 1, 1) := by decide +kernel
theorem dX9_carryOutCommands_38 : decode cX9_carryOutCommands 38 = .ok (.ireturn, 1) := by decide +kernel
theorem dX9_carryOutCommands_39 : decode cX9_carryOutCommands 39 = .ok (.aload_n 0, 1) := by decide +kernel
theorem dX9_carryOutCommands_40 : decode cX9_carryOutCommands 40 = .ok (.getfield 10, 3) := by decide +kernel
theorem dX9_carryOutCommands_43 : decode cX9_carryOutCommands 43 = .ok (.aload_n 2, 1) := by decide +kernel
theorem dX9_carryOutCommands_44 : decode cX9_carryOutCommands 44 = .ok (.invokevirtual 427, 3) := by decide +kernel
theorem dX9_carryOutCommands_47 : decode cX9_carryOutCommands 47 = .ok (.iinc 1 1, 3) := by decide +kernel
theorem dX9_carryOutCommands_50 : decode cX9_carryOutCommands 50 = .ok (.goto (-48), 3) := by decide +kernel
theorem dX9_carryOutCommands_53 : decode cX9_carryOutCommands 53 = .ok (.aload_n 0, 1) := by decide +kernel
theorem dX9_carryOutCommands_54 : decode cX9_carryOutCommands 54 = .ok (.getfield 39, 3) := by decide +kernel
theorem dX9_carryOutCommands_57 : decode cX9_carryOutCommands 57 = .ok (.getfield 322, 3) := by decide +kernel
theorem dX9_carryOutCommands_60 : decode cX9_carryOutCommands 60 = .ok (.ireturn, 1) := by decide +kernel
theorem dX9_refuse_0 : decode cX9_refuse 0 = .ok (.getstatic 431, 3) := by decide +kernel
theorem dX9_refuse_3 : decode cX9_refuse 3 = .ok (.aload_n 0, 1) := by decide +kernel
theorem dX9_refuse_4 : decode cX9_refuse 4 = .ok (.invokevirtual 436, 3) := by decide +kernel
theorem dX9_refuse_7 : decode cX9_refuse 7 = .ok (.iaload, 1) := by decide +kernel
theorem dX9_refuse_8 : decode cX9_refuse 8 = .ok (.tableswitch 270 1 17 #[84, 95, 106, 117, 128, 139, 150, 161, 172, 183, 194, 205, 216, 226, 237, 248, 259], 84) := by decide +kernel
theorem dX9_refuse_92 : decode cX9_refuse 92 = .ok (.new 334, 3) := by decide +kernel
theorem dX9_refuse_95 : decode cX9_refuse 95 = .ok (.dup, 1) := by decide +kernel
theorem dX9_refuse_96 : decode cX9_refuse 96 = .ok (.ldc_w 439, 3) := by decide +kernel
theorem dX9_refuse_99 : decode cX9_refuse 99 = .ok (.invokespecial 338, 3) := by decide +kernel
theorem dX9_refuse_102 : decode cX9_refuse 102 = .ok (.athrow, 1) := by decide +kernel
theorem dX9_refuse_103 : decode cX9_refuse 103 = .ok (.new 334, 3) := by decide +kernel
theorem dX9_refuse_106 : decode cX9_refuse 106 = .ok (.dup, 1) := by decide +kernel
theorem dX9_refuse_107 : decode cX9_refuse 107 = .ok (.ldc_w 441, 3) := by decide +kernel
theorem dX9_refuse_110 : decode cX9_refuse 110 = .ok (.invokespecial 338, 3) := by decide +kernel
theorem dX9_refuse_113 : decode cX9_refuse 113 = .ok (.athrow, 1) := by decide +kernel
theorem dX9_refuse_114 : decode cX9_refuse 114 = .ok (.new 334, 3) := by decide +kernel
theorem dX9_refuse_117 : decode cX9_refuse 117 = .ok (.dup, 1) := by decide +kernel
theorem dX9_refuse_118 : decode cX9_refuse 118 = .ok (.ldc_w 443, 3) := by decide +kernel
theorem dX9_refuse_121 : decode cX9_refuse 121 = .ok (.invokespecial 338, 3) := by decide +kernel
theorem dX9_refuse_124 : decode cX9_refuse 124 = .ok (.athrow, 1) := by decide +kernel
theorem dX9_refuse_125 : decode cX9_refuse 125 = .ok (.new 334, 3) := by decide +kernel
theorem dX9_refuse_128 : decode cX9_refuse 128 = .ok (.dup, 1) := by decide +kernel
theorem dX9_refuse_129 : decode cX9_refuse 129 = .ok (.ldc_w 445, 3) := by decide +kernel
theorem dX9_refuse_132 : decode cX9_refuse 132 = .ok (.invokespecial 338, 3) := by decide +kernel
theorem dX9_refuse_135 : decode cX9_refuse 135 = .ok (.athrow, 1) := by decide +kernel
theorem dX9_refuse_136 : decode cX9_refuse 136 = .ok (.new 287, 3) := by decide +kernel
theorem dX9_refuse_139 : decode cX9_refuse 139 = .ok (.dup, 1) := by decide +kernel
theorem dX9_refuse_140 : decode cX9_refuse 140 = .ok (.ldc_w 447, 3) := by decide +kernel
theorem dX9_refuse_143 : decode cX9_refuse 143 = .ok (.invokespecial 291, 3) := by decide +kernel
theorem dX9_refuse_146 : decode cX9_refuse 146 = .ok (.athrow, 1) := by decide +kernel
theorem dX9_refuse_147 : decode cX9_refuse 147 = .ok (.new 287, 3) := by decide +kernel
theorem dX9_refuse_150 : decode cX9_refuse 150 = .ok (.dup, 1) := by decide +kernel
theorem dX9_refuse_151 : decode cX9_refuse 151 = .ok (.ldc_w 449, 3) := by decide +kernel
theorem dX9_refuse_154 : decode cX9_refuse 154 = .ok (.invokespecial 291, 3) := by decide +kernel
theorem dX9_refuse_157 : decode cX9_refuse 157 = .ok (.athrow, 1) := by decide +kernel
theorem dX9_refuse_158 : decode cX9_refuse 158 = .ok (.new 287, 3) := by decide +kernel
theorem dX9_refuse_161 : decode cX9_refuse 161 = .ok (.dup, 1) := by decide +kernel
theorem dX9_refuse_162 : decode cX9_refuse 162 = .ok (.ldc_w 451, 3) := by decide +kernel
theorem dX9_refuse_165 : decode cX9_refuse 165 = .ok (.invokespecial 291, 3) := by decide +kernel
theorem dX9_refuse_168 : decode cX9_refuse 168 = .ok (.athrow, 1) := by decide +kernel
theorem dX9_refuse_169 : decode cX9_refuse 169 = .ok (.new 287, 3) := by decide +kernel
theorem dX9_refuse_172 : decode cX9_refuse 172 = .ok (.dup, 1) := by decide +kernel
theorem dX9_refuse_173 : decode cX9_refuse 173 = .ok (.ldc_w 453, 3) := by decide +kernel
theorem dX9_refuse_176 : decode cX9_refuse 176 = .ok (.invokespecial 291, 3) := by decide +kernel
theorem dX9_refuse_179 : decode cX9_refuse 179 = .ok (.athrow, 1) := by decide +kernel
theorem dX9_refuse_180 : decode cX9_refuse 180 = .ok (.new 287, 3) := by decide +kernel
theorem dX9_refuse_183 : decode cX9_refuse 183 = .ok (.dup, 1) := by decide +kernel
theorem dX9_refuse_184 : decode cX9_refuse 184 = .ok (.ldc_w 455, 3) := by decide +kernel
theorem dX9_refuse_187 : decode cX9_refuse 187 = .ok (.invokespecial 291, 3) := by decide +kernel
theorem dX9_refuse_190 : decode cX9_refuse 190 = .ok (.athrow, 1) := by decide +kernel
theorem dX9_refuse_191 : decode cX9_refuse 191 = .ok (.new 295, 3) := by decide +kernel
theorem dX9_refuse_194 : decode cX9_refuse 194 = .ok (.dup, 1) := by decide +kernel
theorem dX9_refuse_195 : decode cX9_refuse 195 = .ok (.ldc_w 457, 3) := by decide +kernel
theorem dX9_refuse_198 : decode cX9_refuse 198 = .ok (.invokespecial 299, 3) := by decide +kernel
theorem dX9_refuse_201 : decode cX9_refuse 201 = .ok (.athrow, 1) := by decide +kernel
theorem dX9_refuse_202 : decode cX9_refuse 202 = .ok (.new 295, 3) := by decide +kernel
theorem dX9_refuse_205 : decode cX9_refuse 205 = .ok (.dup, 1) := by decide +kernel
theorem dX9_refuse_206 : decode cX9_refuse 206 = .ok (.ldc_w 459, 3) := by decide +kernel
theorem dX9_refuse_209 : decode cX9_refuse 209 = .ok (.invokespecial 299, 3) := by decide +kernel
theorem dX9_refuse_212 : decode cX9_refuse 212 = .ok (.athrow, 1) := by decide +kernel
theorem dX9_refuse_213 : decode cX9_refuse 213 = .ok (.new 295, 3) := by decide +kernel
theorem dX9_refuse_216 : decode cX9_refuse 216 = .ok (.dup, 1) := by decide +kernel
theorem dX9_refuse_217 : decode cX9_refuse 217 = .ok (.ldc_w 461, 3) := by decide +kernel
theorem dX9_refuse_220 : decode cX9_refuse 220 = .ok (.invokespecial 299, 3) := by decide +kernel
theorem dX9_refuse_223 : decode cX9_refuse 223 = .ok (.athrow, 1) := by decide +kernel
theorem dX9_refuse_224 : decode cX9_refuse 224 = .ok (.new 295, 3) := by decide +kernel
theorem dX9_refuse_227 : decode cX9_refuse 227 = .ok (.dup, 1) := by decide +kernel
theorem dX9_refuse_228 : decode cX9_refuse 228 = .ok (.ldc 116, 2) := by decide +kernel
theorem dX9_refuse_230 : decode cX9_refuse 230 = .ok (.invokespecial 299, 3) := by decide +kernel
theorem dX9_refuse_233 : decode cX9_refuse 233 = .ok (.athrow, 1) := by decide +kernel
theorem dX9_refuse_234 : decode cX9_refuse 234 = .ok (.new 295, 3) := by decide +kernel
theorem dX9_refuse_237 : decode cX9_refuse 237 = .ok (.dup, 1) := by decide +kernel
theorem dX9_refuse_238 : decode cX9_refuse 238 = .ok (.ldc_w 463, 3) := by decide +kernel
theorem dX9_refuse_241 : decode cX9_refuse 241 = .ok (.invokespecial 299, 3) := by decide +kernel
theorem dX9_refuse_244 : decode cX9_refuse 244 = .ok (.athrow, 1) := by decide +kernel
theorem dX9_refuse_245 : decode cX9_refuse 245 = .ok (.new 295, 3) := by decide +kernel
theorem dX9_refuse_248 : decode cX9_refuse 248 = .ok (.dup, 1) := by decide +kernel
theorem dX9_refuse_249 : decode cX9_refuse 249 = .ok (.ldc_w 465, 3) := by decide +kernel
theorem dX9_refuse_252 : decode cX9_refuse 252 = .ok (.invokespecial 299, 3) := by decide +kernel
theorem dX9_refuse_255 : decode cX9_refuse 255 = .ok (.athrow, 1) := by decide +kernel
theorem dX9_refuse_256 : decode cX9_refuse 256 = .ok (.new 295, 3) := by decide +kernel
theorem dX9_refuse_259 : decode cX9_refuse 259 = .ok (.dup, 1) := by decide +kernel
theorem dX9_refuse_260 : decode cX9_refuse 260 = .ok (.ldc_w 467, 3) := by decide +kernel
theorem dX9_refuse_263 : decode cX9_refuse 263 = .ok (.invokespecial 299, 3) := by decide +kernel
theorem dX9_refuse_266 : decode cX9_refuse 266 = .ok (.athrow, 1) := by decide +kernel
theorem dX9_refuse_267 : decode cX9_refuse 267 = .ok (.new 295, 3) := by decide +kernel
theorem dX9_refuse_270 : decode cX9_refuse 270 = .ok (.dup, 1) := by decide +kernel
theorem dX9_refuse_271 : decode cX9_refuse 271 = .ok (.ldc_w 469, 3) := by decide +kernel
theorem dX9_refuse_274 : decode cX9_refuse 274 = .ok (.invokespecial 299, 3) := by decide +kernel
theorem dX9_refuse_277 : decode cX9_refuse 277 = .ok (.athrow, 1) := by decide +kernel
theorem dX9_refuse_278 : decode cX9_refuse 278 = .ok (.aload_n 0, 1) := by decide +kernel
theorem dX9_refuse_279 : decode cX9_refuse 279 = .ok (.invokestatic 471, 3) := by decide +kernel
theorem dX9_refuse_282 : decode cX9_refuse 282 = .ok (.return_, 1) := by decide +kernel
theorem dX9_refuseRarer_0 : decode cX9_refuseRarer 0 = .ok (.getstatic 431, 3) := by decide +kernel
theorem dX9_refuseRarer_3 : decode cX9_refuseRarer 3 = .ok (.aload_n 0, 1) := by decide +kernel
theorem dX9_refuseRarer_4 : decode cX9_refuseRarer 4 = .ok (.invokevirtual 436, 3) := by decide +kernel
theorem dX9_refuseRarer_7 : decode cX9_refuseRarer 7 = .ok (.iaload, 1) := by decide +kernel
theorem dX9_refuseRarer_8 : decode cX9_refuseRarer 8 = .ok (.tableswitch 90 18 22 #[36, 47, 57, 68, 79], 36) := by decide +kernel
theorem dX9_refuseRarer_44 : decode cX9_refuseRarer 44 = .ok (.new 474, 3) := by decide +kernel
theorem dX9_refuseRarer_47 : decode cX9_refuseRarer 47 = .ok (.dup, 1) := by decide +kernel
theorem dX9_refuseRarer_48 : decode cX9_refuseRarer 48 = .ok (.ldc_w 476, 3) := by decide +kernel
theorem dX9_refuseRarer_51 : decode cX9_refuseRarer 51 = .ok (.invokespecial 478, 3) := by decide +kernel
theorem dX9_refuseRarer_54 : decode cX9_refuseRarer 54 = .ok (.athrow, 1) := by decide +kernel
theorem dX9_refuseRarer_55 : decode cX9_refuseRarer 55 = .ok (.new 474, 3) := by decide +kernel
theorem dX9_refuseRarer_58 : decode cX9_refuseRarer 58 = .ok (.dup, 1) := by decide +kernel
theorem dX9_refuseRarer_59 : decode cX9_refuseRarer 59 = .ok (.ldc 116, 2) := by decide +kernel
theorem dX9_refuseRarer_61 : decode cX9_refuseRarer 61 = .ok (.invokespecial 478, 3) := by decide +kernel
theorem dX9_refuseRarer_64 : decode cX9_refuseRarer 64 = .ok (.athrow, 1) := by decide +kernel
theorem dX9_refuseRarer_65 : decode cX9_refuseRarer 65 = .ok (.new 474, 3) := by decide +kernel
theorem dX9_refuseRarer_68 : decode cX9_refuseRarer 68 = .ok (.dup, 1) := by decide +kernel
theorem dX9_refuseRarer_69 : decode cX9_refuseRarer 69 = .ok (.ldc_w 479, 3) := by decide +kernel
theorem dX9_refuseRarer_72 : decode cX9_refuseRarer 72 = .ok (.invokespecial 478, 3) := by decide +kernel
theorem dX9_refuseRarer_75 : decode cX9_refuseRarer 75 = .ok (.athrow, 1) := by decide +kernel
theorem dX9_refuseRarer_76 : decode cX9_refuseRarer 76 = .ok (.new 114, 3) := by decide +kernel
theorem dX9_refuseRarer_79 : decode cX9_refuseRarer 79 = .ok (.dup, 1) := by decide +kernel
theorem dX9_refuseRarer_80 : decode cX9_refuseRarer 80 = .ok (.ldc_w 481, 3) := by decide +kernel
theorem dX9_refuseRarer_83 : decode cX9_refuseRarer 83 = .ok (.invokespecial 118, 3) := by decide +kernel
theorem dX9_refuseRarer_86 : decode cX9_refuseRarer 86 = .ok (.athrow, 1) := by decide +kernel
theorem dX9_refuseRarer_87 : decode cX9_refuseRarer 87 = .ok (.new 114, 3) := by decide +kernel
theorem dX9_refuseRarer_90 : decode cX9_refuseRarer 90 = .ok (.dup, 1) := by decide +kernel
theorem dX9_refuseRarer_91 : decode cX9_refuseRarer 91 = .ok (.ldc_w 483, 3) := by decide +kernel
theorem dX9_refuseRarer_94 : decode cX9_refuseRarer 94 = .ok (.invokespecial 118, 3) := by decide +kernel
theorem dX9_refuseRarer_97 : decode cX9_refuseRarer 97 = .ok (.athrow, 1) := by decide +kernel
theorem dX9_refuseRarer_98 : decode cX9_refuseRarer 98 = .ok (.return_, 1) := by decide +kernel
theorem dX10_init_0 : decode cX10_init 0 = .ok (.aload_n 0, 1) := by decide +kernel
theorem dX10_init_1 : decode cX10_init 1 = .ok (.invokespecial 1, 3) := by decide +kernel
theorem dX10_init_4 : decode cX10_init 4 = .ok (.aload_n 0, 1) := by decide +kernel
theorem dX10_init_5 : decode cX10_init 5 = .ok (.iconst (-1), 1) := by decide +kernel
theorem dX10_init_6 : decode cX10_init 6 = .ok (.putfield 7, 3) := by decide +kernel
theorem dX10_init_9 : decode cX10_init 9 = .ok (.aload_n 0, 1) := by decide +kernel
theorem dX10_init_10 : decode cX10_init 10 = .ok (.iconst (-1), 1) := by decide +kernel
theorem dX10_init_11 : decode cX10_init 11 = .ok (.putfield 13, 3) := by decide +kernel
theorem dX10_init_14 : decode cX10_init 14 = .ok (.aload_n 0, 1) := by decide +kernel
theorem dX10_init_15 : decode cX10_init 15 = .ok (.sipush 407, 3) := by decide +kernel
theorem dX10_init_18 : decode cX10_init 18 = .ok (.newarray .int, 2) := by decide +kernel
theorem dX10_init_20 : decode cX10_init 20 = .ok (.putfield 16, 3) := by decide +kernel
theorem dX10_init_23 : decode cX10_init 23 = .ok (.aload_n 0, 1) := by decide +kernel
theorem dX10_init_24 : decode cX10_init 24 = .ok (.sipush 407, 3) := by decide +kernel
theorem dX10_init_27 : decode cX10_init 27 = .ok (.newarray .int, 2) := by decide +kernel
theorem dX10_init_29 : decode cX10_init 29 = .ok (.putfield 20, 3) := by decide +kernel
theorem dX10_init_32 : decode cX10_init 32 = .ok (.aload_n 0, 1) := by decide +kernel
theorem dX10_init_33 : decode cX10_init 33 = .ok (.sipush 407, 3) := by decide +kernel
theorem dX10_init_36 : decode cX10_init 36 = .ok (.newarray .int, 2) := by decide +kernel
theorem dX10_init_38 : decode cX10_init 38 = .ok (.putfield 23, 3) := by decide +kernel
theorem dX10_init_41 : decode cX10_init 41 = .ok (.aload_n 0, 1) := by decide +kernel
theorem dX10_init_42 : decode cX10_init 42 = .ok (.sipush 3256, 3) := by decide +kernel
theorem dX10_init_45 : decode cX10_init 45 = .ok (.newarray .int, 2) := by decide +kernel
theorem dX10_init_47 : decode cX10_init 47 = .ok (.putfield 26, 3) := by decide +kernel
theorem dX10_init_50 : decode cX10_init 50 = .ok (.aload_n 0, 1) := by decide +kernel
theorem dX10_init_51 : decode cX10_init 51 = .ok (.bipush 60, 2) := by decide +kernel
theorem dX10_init_53 : decode cX10_init 53 = .ok (.newarray .int, 2) := by decide +kernel
theorem dX10_init_55 : decode cX10_init 55 = .ok (.putfield 29, 3) := by decide +kernel
theorem dX10_init_58 : decode cX10_init 58 = .ok (.aload_n 0, 1) := by decide +kernel
theorem dX10_init_59 : decode cX10_init 59 = .ok (.bipush 60, 2) := by decide +kernel
theorem dX10_init_61 : decode cX10_init 61 = .ok (.newarray .int, 2) := by decide +kernel
theorem dX10_init_63 : decode cX10_init 63 = .ok (.putfield 32, 3) := by decide +kernel
theorem dX10_init_66 : decode cX10_init 66 = .ok (.aload_n 0, 1) := by decide +kernel
theorem dX10_init_67 : decode cX10_init 67 = .ok (.bipush 11, 2) := by decide +kernel
theorem dX10_init_69 : decode cX10_init 69 = .ok (.newarray .int, 2) := by decide +kernel
theorem dX10_init_71 : decode cX10_init 71 = .ok (.putfield 35, 3) := by decide +kernel
theorem dX10_init_74 : decode cX10_init 74 = .ok (.aload_n 0, 1) := by decide +kernel
theorem dX10_init_75 : decode cX10_init 75 = .ok (.bipush 59, 2) := by decide +kernel
theorem dX10_init_77 : decode cX10_init 77 = .ok (.newarray .int, 2) := by decide +kernel
theorem dX10_init_79 : decode cX10_init 79 = .ok (.dup, 1) := by decide +kernel
theorem dX10_init_80 : decode cX10_init 80 = .ok (.iconst 0, 1) := by decide +kernel
theorem dX10_init_81 : decode cX10_init 81 = .ok (.bipush 102, 2) := by decide +kernel
theorem dX10_init_83 : decode cX10_init 83 = .ok (.iastore, 1) := by decide +kernel
theorem dX10_init_84 : decode cX10_init 84 = .ok (.dup, 1) := by decide +kernel
theorem dX10_init_85 : decode cX10_init 85 = .ok (.iconst 1, 1) := by decide +kernel
theorem dX10_init_86 : decode cX10_init 86 = .ok (.bipush 114, 2) := by decide +kernel
theorem dX10_init_88 : decode cX10_init 88 = .ok (.iastore, 1) := by decide +kernel
theorem dX10_init_89 : decode cX10_init 89 = .ok (.dup, 1) := by decide +kernel
theorem dX10_init_90 : decode cX10_init 90 = .ok (.iconst 2, 1) := by decide +kernel
theorem dX10_init_91 : decode cX10_init 91 = .ok (.bipush 111, 2) := by decide +kernel
theorem dX10_init_93 : decode cX10_init 93 = .ok (.iastore, 1) := by decide +kernel
theorem dX10_init_94 : decode cX10_init 94 = .ok (.dup, 1) := by decide +kernel
theorem dX10_init_95 : decode cX10_init 95 = .ok (.iconst 3, 1) := by decide +kernel
theorem dX10_init_96 : decode cX10_init 96 = .ok (.bipush 103, 2) := by decide +kernel
theorem dX10_init_98 : decode cX10_init 98 = .ok (.iastore, 1) := by decide +kernel
theorem dX10_init_99 : decode cX10_init 99 = .ok (.dup, 1) := by decide +kernel
theorem dX10_init_100 : decode cX10_init 100 = .ok (.iconst 4, 1) := by decide +kernel
theorem dX10_init_101 : decode cX10_init 101 = .ok (.bipush 32, 2) := by decide +kernel
theorem dX10_init_103 : decode cX10_init 103 = .ok (.iastore, 1) := by decide +kernel
theorem dX10_init_104 : decode cX10_init 104 = .ok (.dup, 1) := by decide +kernel
theorem dX10_init_105 : decode cX10_init 105 = .ok (.iconst 5, 1) := by decide +kernel
theorem dX10_init_106 : decode cX10_init 106 = .ok (.bipush 112, 2) := by decide +kernel
theorem dX10_init_108 : decode cX10_init 108 = .ok (.iastore, 1) := by decide +kernel
theorem dX10_init_109 : decode cX10_init 109 = .ok (.dup, 1) := by decide +kernel
theorem dX10_init_110 : decode cX10_init 110 = .ok (.bipush 6, 2) := by decide +kernel
theorem dX10_init_112 : decode cX10_init 112 = .ok (.bipush 97, 2) := by decide +kernel
theorem dX10_init_114 : decode cX10_init 114 = .ok (.iastore, 1) := by decide +kernel
theorem dX10_init_115 : decode cX10_init 115 = .ok (.dup, 1) := by decide +kernel
theorem dX10_init_116 : decode cX10_init 116 = .ok (.bipush 7, 2) := by decide +kernel
theorem dX10_init_118 : decode cX10_init 118 = .ok (.bipush 100, 2) := by decide +kernel
theorem dX10_init_120 : decode cX10_init 120 = .ok (.iastore, 1) := by decide +kernel
theorem dX10_init_121 : decode cX10_init 121 = .ok (.dup, 1) := by decide +kernel
theorem dX10_init_122 : decode cX10_init 122 = .ok (.bipush 8, 2) := by decide +kernel
theorem dX10_init_124 : decode cX10_init 124 = .ok (.bipush 32, 2) := by decide +kernel
theorem dX10_init_126 : decode cX10_init 126 = .ok (.iastore, 1) := by decide +kernel
theorem dX10_init_127 : decode cX10_init 127 = .ok (.dup, 1) := by decide +kernel
theorem dX10_init_128 : decode cX10_init 128 = .ok (.bipush 9, 2) := by decide +kernel
theorem dX10_init_130 : decode cX10_init 130 = .ok (.bipush 104, 2) := by decide +kernel
theorem dX10_init_132 : decode cX10_init 132 = .ok (.iastore, 1) := by decide +kernel
theorem dX10_init_133 : decode cX10_init 133 = .ok (.dup, 1) := by decide +kernel
theorem dX10_init_134 : decode cX10_init 134 = .ok (.bipush 10, 2) := by decide +kernel
theorem dX10_init_136 : decode cX10_init 136 = .ok (.bipush 111, 2) := by decide +kernel
theorem dX10_init_138 : decode cX10_init 138 = .ok (.iastore, 1) := by decide +kernel
theorem dX10_init_139 : decode cX10_init 139 = .ok (.dup, 1) := by decide +kernel
theorem dX10_init_140 : decode cX10_init 140 = .ok (.bipush 11, 2) := by decide +kernel
theorem dX10_init_142 : decode cX10_init 142 = .ok (.bipush 112, 2) := by decide +kernel
theorem dX10_init_144 : decode cX10_init 144 = .ok (.iastore, 1) := by decide +kernel
theorem dX10_init_145 : decode cX10_init 145 = .ok (.dup, 1) := by decide +kernel
theorem dX10_init_146 : decode cX10_init 146 = .ok (.bipush 12, 2) := by decide +kernel
theorem dX10_init_148 : decode cX10_init 148 = .ok (.bipush 32, 2) := by decide +kernel
theorem dX10_init_150 : decode cX10_init 150 = .ok (.iastore, 1) := by decide +kernel
theorem dX10_init_151 : decode cX10_init 151 = .ok (.dup, 1) := by decide +kernel
theorem dX10_init_152 : decode cX10_init 152 = .ok (.bipush 13, 2) := by decide +kernel
theorem dX10_init_154 : decode cX10_init 154 = .ok (.bipush 100, 2) := by decide +kernel
theorem dX10_init_156 : decode cX10_init 156 = .ok (.iastore, 1) := by decide +kernel
theorem dX10_init_157 : decode cX10_init 157 = .ok (.dup, 1) := by decide +kernel
theorem dX10_init_158 : decode cX10_init 158 = .ok (.bipush 14, 2) := by decide +kernel
theorem dX10_init_160 : decode cX10_init 160 = .ok (.bipush 105, 2) := by decide +kernel
theorem dX10_init_162 : decode cX10_init 162 = .ok (.iastore, 1) := by decide +kernel
theorem dX10_init_163 : decode cX10_init 163 = .ok (.dup, 1) := by decide +kernel
theorem dX10_init_164 : decode cX10_init 164 = .ok (.bipush 15, 2) := by decide +kernel
theorem dX10_init_166 : decode cX10_init 166 = .ok (.bipush 118, 2) := by decide +kernel
theorem dX10_init_168 : decode cX10_init 168 = .ok (.iastore, 1) := by decide +kernel
theorem dX10_init_169 : decode cX10_init 169 = .ok (.dup, 1) := by decide +kernel
theorem dX10_init_170 : decode cX10_init 170 = .ok (.bipush 16, 2) := by decide +kernel
theorem dX10_init_172 : decode cX10_init 172 = .ok (.bipush 101, 2) := by decide +kernel
theorem dX10_init_174 : decode cX10_init 174 = .ok (.iastore, 1) := by decide +kernel
theorem dX10_init_175 : decode cX10_init 175 = .ok (.dup, 1) := by decide +kernel
theorem dX10_init_176 : decode cX10_init 176 = .ok (.bipush 17, 2) := by decide +kernel
theorem dX10_init_178 : decode cX10_init 178 = .ok (.bipush 32, 2) := by decide +kernel
theorem dX10_init_180 : decode cX10_init 180 = .ok (.iastore, 1) := by decide +kernel
theorem dX10_init_181 : decode cX10_init 181 = .ok (.dup, 1) := by decide +kernel
theorem dX10_init_182 : decode cX10_init 182 = .ok (.bipush 18, 2) := by decide +kernel
theorem dX10_init_184 : decode cX10_init 184 = .ok (.bipush 109, 2) := by decide +kernel
theorem dX10_init_186 : decode cX10_init 186 = .ok (.iastore, 1) := by decide +kernel
theorem dX10_init_187 : decode cX10_init 187 = .ok (.dup, 1) := by decide +kernel
theorem dX10_init_188 : decode cX10_init 188 = .ok (.bipush 19, 2) := by decide +kernel
theorem dX10_init_190 : decode cX10_init 190 = .ok (.bipush 111, 2) := by decide +kernel
theorem dX10_init_192 : decode cX10_init 192 = .ok (.iastore, 1) := by decide +kernel
theorem dX10_init_193 : decode cX10_init 193 = .ok (.dup, 1) := by decide +kernel
theorem dX10_init_194 : decode cX10_init 194 = .ok (.bipush 20, 2) := by decide +kernel
theorem dX10_init_196 : decode cX10_init 196 = .ok (.bipush 116, 2) := by decide +kernel
theorem dX10_init_198 : decode cX10_init 198 = .ok (.iastore, 1) := by decide +kernel
theorem dX10_init_199 : decode cX10_init 199 = .ok (.dup, 1) := by decide +kernel
theorem dX10_init_200 : decode cX10_init 200 = .ok (.bipush 21, 2) := by decide +kernel
theorem dX10_init_202 : decode cX10_init 202 = .ok (.bipush 105, 2) := by decide +kernel
theorem dX10_init_204 : decode cX10_init 204 = .ok (.iastore, 1) := by decide +kernel
theorem dX10_init_205 : decode cX10_init 205 = .ok (.dup, 1) := by decide +kernel
theorem dX10_init_206 : decode cX10_init 206 = .ok (.bipush 22, 2) := by decide +kernel
theorem dX10_init_208 : decode cX10_init 208 = .ok (.bipush 111, 2) := by decide +kernel
theorem dX10_init_210 : decode cX10_init 210 = .ok (.iastore, 1) := by decide +kernel
theorem dX10_init_211 : decode cX10_init 211 = .ok (.dup, 1) := by decide +kernel
theorem dX10_init_212 : decode cX10_init 212 = .ok (.bipush 23, 2) := by decide +kernel
theorem dX10_init_214 : decode cX10_init 214 = .ok (.bipush 110, 2) := by decide +kernel
theorem dX10_init_216 : decode cX10_init 216 = .ok (.iastore, 1) := by decide +kernel
theorem dX10_init_217 : decode cX10_init 217 = .ok (.dup, 1) := by decide +kernel
theorem dX10_init_218 : decode cX10_init 218 = .ok (.bipush 24, 2) := by decide +kernel
theorem dX10_init_220 : decode cX10_init 220 = .ok (.bipush 32, 2) := by decide +kernel
theorem dX10_init_222 : decode cX10_init 222 = .ok (.iastore, 1) := by decide +kernel
theorem dX10_init_223 : decode cX10_init 223 = .ok (.dup, 1) := by decide +kernel
theorem dX10_init_224 : decode cX10_init 224 = .ok (.bipush 25, 2) := by decide +kernel
theorem dX10_init_226 : decode cX10_init 226 = .ok (.bipush 108, 2) := by decide +kernel
theorem dX10_init_228 : decode cX10_init 228 = .ok (.iastore, 1) := by decide +kernel
theorem dX10_init_229 : decode cX10_init 229 = .ok (.dup, 1) := by decide +kernel
theorem dX10_init_230 : decode cX10_init 230 = .ok (.bipush 26, 2) := by decide +kernel
theorem dX10_init_232 : decode cX10_init 232 = .ok (.bipush 105, 2) := by decide +kernel
theorem dX10_init_234 : decode cX10_init 234 = .ok (.iastore, 1) := by decide +kernel
theorem dX10_init_235 : decode cX10_init 235 = .ok (.dup, 1) := by decide +kernel
theorem dX10_init_236 : decode cX10_init 236 = .ok (.bipush 27, 2) := by decide +kernel
theorem dX10_init_238 : decode cX10_init 238 = .ok (.bipush 115, 2) := by decide +kernel
theorem dX10_init_240 : decode cX10_init 240 = .ok (.iastore, 1) := by decide +kernel
theorem dX10_init_241 : decode cX10_init 241 = .ok (.dup, 1) := by decide +kernel
theorem dX10_init_242 : decode cX10_init 242 = .ok (.bipush 28, 2) := by decide +kernel
theorem dX10_init_244 : decode cX10_init 244 = .ok (.bipush 116, 2) := by decide +kernel
theorem dX10_init_246 : decode cX10_init 246 = .ok (.iastore, 1) := by decide +kernel
theorem dX10_init_247 : decode cX10_init 247 = .ok (.dup, 1) := by decide +kernel
theorem dX10_init_248 : decode cX10_init 248 = .ok (.bipush 29, 2) := by decide +kernel
theorem dX10_init_250 : decode cX10_init 250 = .ok (.bipush 32, 2) := by decide +kernel
theorem dX10_init_252 : decode cX10_init 252 = .ok (.iastore, 1) := by decide +kernel
theorem dX10_init_253 : decode cX10_init 253 = .ok (.dup, 1) := by decide +kernel
theorem dX10_init_254 : decode cX10_init 254 = .ok (.bipush 30, 2) := by decide +kernel
theorem dX10_init_256 : decode cX10_init 256 = .ok (.bipush 115, 2) := by decide +kernel
theorem dX10_init_258 : decode cX10_init 258 = .ok (.iastore, 1) := by decide +kernel
theorem dX10_init_259 : decode cX10_init 259 = .ok (.dup, 1) := by decide +kernel
theorem dX10_init_260 : decode cX10_init 260 = .ok (.bipush 31, 2) := by decide +kernel
theorem dX10_init_262 : decode cX10_init 262 = .ok (.bipush 116, 2) := by decide +kernel
theorem dX10_init_264 : decode cX10_init 264 = .ok (.iastore, 1) := by decide +kernel
theorem dX10_init_265 : decode cX10_init 265 = .ok (.dup, 1) := by decide +kernel
theorem dX10_init_266 : decode cX10_init 266 = .ok (.bipush 32, 2) := by decide +kernel
theorem dX10_init_268 : decode cX10_init 268 = .ok (.bipush 114, 2) := by decide +kernel
theorem dX10_init_270 : decode cX10_init 270 = .ok (.iastore, 1) := by decide +kernel
theorem dX10_init_271 : decode cX10_init 271 = .ok (.dup, 1) := by decide +kernel
theorem dX10_init_272 : decode cX10_init 272 = .ok (.bipush 33, 2) := by decide +kernel
theorem dX10_init_274 : decode cX10_init 274 = .ok (.bipush 105, 2) := by decide +kernel
theorem dX10_init_276 : decode cX10_init 276 = .ok (.iastore, 1) := by decide +kernel
theorem dX10_init_277 : decode cX10_init 277 = .ok (.dup, 1) := by decide +kernel
theorem dX10_init_278 : decode cX10_init 278 = .ok (.bipush 34, 2) := by decide +kernel
theorem dX10_init_280 : decode cX10_init 280 = .ok (.bipush 107, 2) := by decide +kernel
theorem dX10_init_282 : decode cX10_init 282 = .ok (.iastore, 1) := by decide +kernel
theorem dX10_init_283 : decode cX10_init 283 = .ok (.dup, 1) := by decide +kernel
theorem dX10_init_284 : decode cX10_init 284 = .ok (.bipush 35, 2) := by decide +kernel
theorem dX10_init_286 : decode cX10_init 286 = .ok (.bipush 101, 2) := by decide +kernel
theorem dX10_init_288 : decode cX10_init 288 = .ok (.iastore, 1) := by decide +kernel
theorem dX10_init_289 : decode cX10_init 289 = .ok (.dup, 1) := by decide +kernel
theorem dX10_init_290 : decode cX10_init 290 = .ok (.bipush 36, 2) := by decide +kernel
theorem dX10_init_292 : decode cX10_init 292 = .ok (.bipush 32, 2) := by decide +kernel
theorem dX10_init_294 : decode cX10_init 294 = .ok (.iastore, 1) := by decide +kernel
theorem dX10_init_295 : decode cX10_init 295 = .ok (.dup, 1) := by decide +kernel
theorem dX10_init_296 : decode cX10_init 296 = .ok (.bipush 37, 2) := by decide +kernel
theorem dX10_init_298 : decode cX10_init 298 = .ok (.bipush 99, 2) := by decide +kernel
theorem dX10_init_300 : decode cX10_init 300 = .ok (.iastore, 1) := by decide +kernel
theorem dX10_init_301 : decode cX10_init 301 = .ok (.dup, 1) := by decide +kernel
theorem dX10_init_302 : decode cX10_init 302 = .ok (.bipush 38, 2) := by decide +kernel
theorem dX10_init_304 : decode cX10_init 304 = .ok (.bipush 97, 2) := by decide +kernel
theorem dX10_init_306 : decode cX10_init 306 = .ok (.iastore, 1) := by decide +kernel
theorem dX10_init_307 : decode cX10_init 307 = .ok (.dup, 1) := by decide +kernel
theorem dX10_init_308 : decode cX10_init 308 = .ok (.bipush 39, 2) := by decide +kernel
theorem dX10_init_310 : decode cX10_init 310 = .ok (.bipush 108, 2) := by decide +kernel
theorem dX10_init_312 : decode cX10_init 312 = .ok (.iastore, 1) := by decide +kernel
theorem dX10_init_313 : decode cX10_init 313 = .ok (.dup, 1) := by decide +kernel
theorem dX10_init_314 : decode cX10_init 314 = .ok (.bipush 40, 2) := by decide +kernel
theorem dX10_init_316 : decode cX10_init 316 = .ok (.bipush 108, 2) := by decide +kernel
theorem dX10_init_318 : decode cX10_init 318 = .ok (.iastore, 1) := by decide +kernel
theorem dX10_init_319 : decode cX10_init 319 = .ok (.dup, 1) := by decide +kernel
theorem dX10_init_320 : decode cX10_init 320 = .ok (.bipush 41, 2) := by decide +kernel
theorem dX10_init_322 : decode cX10_init 322 = .ok (.bipush 32, 2) := by decide +kernel
theorem dX10_init_324 : decode cX10_init 324 = .ok (.iastore, 1) := by decide +kernel
theorem dX10_init_325 : decode cX10_init 325 = .ok (.dup, 1) := by decide +kernel
theorem dX10_init_326 : decode cX10_init 326 = .ok (.bipush 42, 2) := by decide +kernel
theorem dX10_init_328 : decode cX10_init 328 = .ok (.bipush 101, 2) := by decide +kernel
theorem dX10_init_330 : decode cX10_init 330 = .ok (.iastore, 1) := by decide +kernel
theorem dX10_init_331 : decode cX10_init 331 = .ok (.dup, 1) := by decide +kernel
theorem dX10_init_332 : decode cX10_init 332 = .ok (.bipush 43, 2) := by decide +kernel
theorem dX10_init_334 : decode cX10_init 334 = .ok (.bipush 110, 2) := by decide +kernel
theorem dX10_init_336 : decode cX10_init 336 = .ok (.iastore, 1) := by decide +kernel
theorem dX10_init_337 : decode cX10_init 337 = .ok (.dup, 1) := by decide +kernel
theorem dX10_init_338 : decode cX10_init 338 = .ok (.bipush 44, 2) := by decide +kernel
theorem dX10_init_340 : decode cX10_init 340 = .ok (.bipush 100, 2) := by decide +kernel
theorem dX10_init_342 : decode cX10_init 342 = .ok (.iastore, 1) := by decide +kernel
theorem dX10_init_343 : decode cX10_init 343 = .ok (.dup, 1) := by decide +kernel
theorem dX10_init_344 : decode cX10_init 344 = .ok (.bipush 45, 2) := by decide +kernel
theorem dX10_init_346 : decode cX10_init 346 = .ok (.bipush 32, 2) := by decide +kernel
theorem dX10_init_348 : decode cX10_init 348 = .ok (.iastore, 1) := by decide +kernel
theorem dX10_init_349 : decode cX10_init 349 = .ok (.dup, 1) := by decide +kernel
theorem dX10_init_350 : decode cX10_init 350 = .ok (.bipush 46, 2) := by decide +kernel
theorem dX10_init_352 : decode cX10_init 352 = .ok (.bipush 99, 2) := by decide +kernel
theorem dX10_init_354 : decode cX10_init 354 = .ok (.iastore, 1) := by decide +kernel
theorem dX10_init_355 : decode cX10_init 355 = .ok (.dup, 1) := by decide +kernel
theorem dX10_init_356 : decode cX10_init 356 = .ok (.bipush 47, 2) := by decide +kernel
theorem dX10_init_358 : decode cX10_init 358 = .ok (.bipush 114, 2) := by decide +kernel
theorem dX10_init_360 : decode cX10_init 360 = .ok (.iastore, 1) := by decide +kernel
theorem dX10_init_361 : decode cX10_init 361 = .ok (.dup, 1) := by decide +kernel
theorem dX10_init_362 : decode cX10_init 362 = .ok (.bipush 48, 2) := by decide +kernel
theorem dX10_init_364 : decode cX10_init 364 = .ok (.bipush 111, 2) := by decide +kernel
theorem dX10_init_366 : decode cX10_init 366 = .ok (.iastore, 1) := by decide +kernel
theorem dX10_init_367 : decode cX10_init 367 = .ok (.dup, 1) := by decide +kernel
theorem dX10_init_368 : decode cX10_init 368 = .ok (.bipush 49, 2) := by decide +kernel
theorem dX10_init_370 : decode cX10_init 370 = .ok (.bipush 97, 2) := by decide +kernel
theorem dX10_init_372 : decode cX10_init 372 = .ok (.iastore, 1) := by decide +kernel
theorem dX10_init_373 : decode cX10_init 373 = .ok (.dup, 1) := by decide +kernel
theorem dX10_init_374 : decode cX10_init 374 = .ok (.bipush 50, 2) := by decide +kernel
theorem dX10_init_376 : decode cX10_init 376 = .ok (.bipush 107, 2) := by decide +kernel
theorem dX10_init_378 : decode cX10_init 378 = .ok (.iastore, 1) := by decide +kernel
theorem dX10_init_379 : decode cX10_init 379 = .ok (.dup, 1) := by decide +kernel
theorem dX10_init_380 : decode cX10_init 380 = .ok (.bipush 51, 2) := by decide +kernel
theorem dX10_init_382 : decode cX10_init 382 = .ok (.bipush 32, 2) := by decide +kernel
theorem dX10_init_384 : decode cX10_init 384 = .ok (.iastore, 1) := by decide +kernel
theorem dX10_init_385 : decode cX10_init 385 = .ok (.dup, 1) := by decide +kernel
theorem dX10_init_386 : decode cX10_init 386 = .ok (.bipush 52, 2) := by decide +kernel
theorem dX10_init_388 : decode cX10_init 388 = .ok (.bipush 100, 2) := by decide +kernel
theorem dX10_init_390 : decode cX10_init 390 = .ok (.iastore, 1) := by decide +kernel
theorem dX10_init_391 : decode cX10_init 391 = .ok (.dup, 1) := by decide +kernel
theorem dX10_init_392 : decode cX10_init 392 = .ok (.bipush 53, 2) := by decide +kernel
theorem dX10_init_394 : decode cX10_init 394 = .ok (.bipush 101, 2) := by decide +kernel
theorem dX10_init_396 : decode cX10_init 396 = .ok (.iastore, 1) := by decide +kernel
theorem dX10_init_397 : decode cX10_init 397 = .ok (.dup, 1) := by decide +kernel
theorem dX10_init_398 : decode cX10_init 398 = .ok (.bipush 54, 2) := by decide +kernel
theorem dX10_init_400 : decode cX10_init 400 = .ok (.bipush 99, 2) := by decide +kernel
theorem dX10_init_402 : decode cX10_init 402 = .ok (.iastore, 1) := by decide +kernel
theorem dX10_init_403 : decode cX10_init 403 = .ok (.dup, 1) := by decide +kernel
theorem dX10_init_404 : decode cX10_init 404 = .ok (.bipush 55, 2) := by decide +kernel
theorem dX10_init_406 : decode cX10_init 406 = .ok (.bipush 105, 2) := by decide +kernel
theorem dX10_init_408 : decode cX10_init 408 = .ok (.iastore, 1) := by decide +kernel
theorem dX10_init_409 : decode cX10_init 409 = .ok (.dup, 1) := by decide +kernel
theorem dX10_init_410 : decode cX10_init 410 = .ok (.bipush 56, 2) := by decide +kernel
theorem dX10_init_412 : decode cX10_init 412 = .ok (.bipush 100, 2) := by decide +kernel
theorem dX10_init_414 : decode cX10_init 414 = .ok (.iastore, 1) := by decide +kernel
theorem dX10_init_415 : decode cX10_init 415 = .ok (.dup, 1) := by decide +kernel
theorem dX10_init_416 : decode cX10_init 416 = .ok (.bipush 57, 2) := by decide +kernel
theorem dX10_init_418 : decode cX10_init 418 = .ok (.bipush 101, 2) := by decide +kernel
theorem dX10_init_420 : decode cX10_init 420 = .ok (.iastore, 1) := by decide +kernel
theorem dX10_init_421 : decode cX10_init 421 = .ok (.dup, 1) := by decide +kernel
theorem dX10_init_422 : decode cX10_init 422 = .ok (.bipush 58, 2) := by decide +kernel
theorem dX10_init_424 : decode cX10_init 424 = .ok (.bipush 32, 2) := by decide +kernel
theorem dX10_init_426 : decode cX10_init 426 = .ok (.iastore, 1) := by decide +kernel
theorem dX10_init_427 : decode cX10_init 427 = .ok (.putfield 38, 3) := by decide +kernel
theorem dX10_init_430 : decode cX10_init 430 = .ok (.aload_n 0, 1) := by decide +kernel
theorem dX10_init_431 : decode cX10_init 431 = .ok (.bipush 12, 2) := by decide +kernel
theorem dX10_init_433 : decode cX10_init 433 = .ok (.newarray .int, 2) := by decide +kernel
theorem dX10_init_435 : decode cX10_init 435 = .ok (.dup, 1) := by decide +kernel
theorem dX10_init_436 : decode cX10_init 436 = .ok (.iconst 0, 1) := by decide +kernel
theorem dX10_init_437 : decode cX10_init 437 = .ok (.iconst 0, 1) := by decide +kernel
theorem dX10_init_438 : decode cX10_init 438 = .ok (.iastore, 1) := by decide +kernel
theorem dX10_init_439 : decode cX10_init 439 = .ok (.dup, 1) := by decide +kernel
theorem dX10_init_440 : decode cX10_init 440 = .ok (.iconst 1, 1) := by decide +kernel
theorem dX10_init_441 : decode cX10_init 441 = .ok (.iconst 5, 1) := by decide +kernel
theorem dX10_init_442 : decode cX10_init 442 = .ok (.iastore, 1) := by decide +kernel
theorem dX10_init_443 : decode cX10_init 443 = .ok (.dup, 1) := by decide +kernel
theorem dX10_init_444 : decode cX10_init 444 = .ok (.iconst 2, 1) := by decide +kernel
theorem dX10_init_445 : decode cX10_init 445 = .ok (.bipush 9, 2) := by decide +kernel
theorem dX10_init_447 : decode cX10_init 447 = .ok (.iastore, 1) := by decide +kernel
theorem dX10_init_448 : decode cX10_init 448 = .ok (.dup, 1) := by decide +kernel
theorem dX10_init_449 : decode cX10_init 449 = .ok (.iconst 3, 1) := by decide +kernel
theorem dX10_init_450 : decode cX10_init 450 = .ok (.bipush 13, 2) := by decide +kernel
theorem dX10_init_452 : decode cX10_init 452 = .ok (.iastore, 1) := by decide +kernel
theorem dX10_init_453 : decode cX10_init 453 = .ok (.dup, 1) := by decide +kernel
theorem dX10_init_454 : decode cX10_init 454 = .ok (.iconst 4, 1) := by decide +kernel
theorem dX10_init_455 : decode cX10_init 455 = .ok (.bipush 18, 2) := by decide +kernel
theorem dX10_init_457 : decode cX10_init 457 = .ok (.iastore, 1) := by decide +kernel
theorem dX10_init_458 : decode cX10_init 458 = .ok (.dup, 1) := by decide +kernel
theorem dX10_init_459 : decode cX10_init 459 = .ok (.iconst 5, 1) := by decide +kernel
theorem dX10_init_460 : decode cX10_init 460 = .ok (.bipush 25, 2) := by decide +kernel
theorem dX10_init_462 : decode cX10_init 462 = .ok (.iastore, 1) := by decide +kernel
theorem dX10_init_463 : decode cX10_init 463 = .ok (.dup, 1) := by decide +kernel
theorem dX10_init_464 : decode cX10_init 464 = .ok (.bipush 6, 2) := by decide +kernel
theorem dX10_init_466 : decode cX10_init 466 = .ok (.bipush 30, 2) := by decide +kernel
theorem dX10_init_468 : decode cX10_init 468 = .ok (.iastore, 1) := by decide +kernel
theorem dX10_init_469 : decode cX10_init 469 = .ok (.dup, 1) := by decide +kernel
theorem dX10_init_470 : decode cX10_init 470 = .ok (.bipush 7, 2) := by decide +kernel
theorem dX10_init_472 : decode cX10_init 472 = .ok (.bipush 37, 2) := by decide +kernel
theorem dX10_init_474 : decode cX10_init 474 = .ok (.iastore, 1) := by decide +kernel
theorem dX10_init_475 : decode cX10_init 475 = .ok (.dup, 1) := by decide +kernel
theorem dX10_init_476 : decode cX10_init 476 = .ok (.bipush 8, 2) := by decide +kernel
theorem dX10_init_478 : decode cX10_init 478 = .ok (.bipush 42, 2) := by decide +kernel
theorem dX10_init_480 : decode cX10_init 480 = .ok (.iastore, 1) := by decide +kernel
theorem dX10_init_481 : decode cX10_init 481 = .ok (.dup, 1) := by decide +kernel
theorem dX10_init_482 : decode cX10_init 482 = .ok (.bipush 9, 2) := by decide +kernel
theorem dX10_init_484 : decode cX10_init 484 = .ok (.bipush 46, 2) := by decide +kernel
theorem dX10_init_486 : decode cX10_init 486 = .ok (.iastore, 1) := by decide +kernel
theorem dX10_init_487 : decode cX10_init 487 = .ok (.dup, 1) := by decide +kernel
theorem dX10_init_488 : decode cX10_init 488 = .ok (.bipush 10, 2) := by decide +kernel
theorem dX10_init_490 : decode cX10_init 490 = .ok (.bipush 52, 2) := by decide +kernel
theorem dX10_init_492 : decode cX10_init 492 = .ok (.iastore, 1) := by decide +kernel
theorem dX10_init_493 : decode cX10_init 493 = .ok (.dup, 1) := by decide +kernel
theorem dX10_init_494 : decode cX10_init 494 = .ok (.bipush 11, 2) := by decide +kernel
theorem dX10_init_496 : decode cX10_init 496 = .ok (.bipush 59, 2) := by decide +kernel
theorem dX10_init_498 : decode cX10_init 498 = .ok (.iastore, 1) := by decide +kernel
theorem dX10_init_499 : decode cX10_init 499 = .ok (.putfield 41, 3) := by decide +kernel
theorem dX10_init_502 : decode cX10_init 502 = .ok (.return_, 1) := by decide +kernel
theorem dX10_thrown_0 : decode cX10_thrown 0 = .ok (.aload_n 0, 1) := by decide +kernel
theorem dX10_thrown_1 : decode cX10_thrown 1 = .ok (.getfield 44, 3) := by decide +kernel
theorem dX10_thrown_4 : decode cX10_thrown 4 = .ok (.ireturn, 1) := by decide +kernel
theorem dX10_fail_0 : decode cX10_fail 0 = .ok (.aload_n 0, 1) := by decide +kernel
theorem dX10_fail_1 : decode cX10_fail 1 = .ok (.iload_n 1, 1) := by decide +kernel
theorem dX10_fail_2 : decode cX10_fail 2 = .ok (.putfield 44, 3) := by decide +kernel
theorem dX10_fail_5 : decode cX10_fail 5 = .ok (.iconst 0, 1) := by decide +kernel
theorem dX10_fail_6 : decode cX10_fail 6 = .ok (.ireturn, 1) := by decide +kernel
theorem dX10_isIn_0 : decode cX10_isIn 0 = .ok (.iload_n 0, 1) := by decide +kernel
theorem dX10_isIn_1 : decode cX10_isIn 1 = .ok (.iload_n 1, 1) := by decide +kernel
theorem dX10_isIn_2 : decode cX10_isIn 2 = .ok (.if_icmp .lt 12, 3) := by decide +kernel
theorem dX10_isIn_5 : decode cX10_isIn 5 = .ok (.iload_n 0, 1) := by decide +kernel
theorem dX10_isIn_6 : decode cX10_isIn 6 = .ok (.iload_n 2, 1) := by decide +kernel
theorem dX10_isIn_7 : decode cX10_isIn 7 = .ok (.if_icmp .gt 7, 3) := by decide +kernel
theorem dX10_isIn_10 : decode cX10_isIn 10 = .ok (.iconst 1, 1) := by decide +kernel
theorem dX10_isIn_11 : decode cX10_isIn 11 = .ok (.goto 4, 3) := by decide +kernel
theorem dX10_isIn_14 : decode cX10_isIn 14 = .ok (.iconst 0, 1) := by decide +kernel
theorem dX10_isIn_15 : decode cX10_isIn 15 = .ok (.ireturn, 1) := by decide +kernel
theorem dX10_lays_0 : decode cX10_lays 0 = .ok (.iconst 0, 1) := by decide +kernel
theorem dX10_lays_1 : decode cX10_lays 1 = .ok (.istore_n 2, 1) := by decide +kernel
theorem dX10_lays_2 : decode cX10_lays 2 = .ok (.iload_n 2, 1) := by decide +kernel
theorem dX10_lays_3 : decode cX10_lays 3 = .ok (.sipush 407, 3) := by decide +kernel
theorem dX10_lays_6 : decode cX10_lays 6 = .ok (.if_icmp .ge 15, 3) := by decide +kernel
theorem dX10_lays_9 : decode cX10_lays 9 = .ok (.aload_n 0, 1) := by decide +kernel
theorem dX10_lays_10 : decode cX10_lays 10 = .ok (.iload_n 2, 1) := by decide +kernel
theorem dX10_lays_11 : decode cX10_lays 11 = .ok (.aload_n 1, 1) := by decide +kernel
theorem dX10_lays_12 : decode cX10_lays 12 = .ok (.iload_n 2, 1) := by decide +kernel
theorem dX10_lays_13 : decode cX10_lays 13 = .ok (.iaload, 1) := by decide +kernel
theorem dX10_lays_14 : decode cX10_lays 14 = .ok (.iastore, 1) := by decide +kernel
theorem dX10_lays_15 : decode cX10_lays 15 = .ok (.iinc 2 1, 3) := by decide +kernel
theorem dX10_lays_18 : decode cX10_lays 18 = .ok (.goto (-16), 3) := by decide +kernel
theorem dX10_lays_21 : decode cX10_lays 21 = .ok (.return_, 1) := by decide +kernel
theorem dX10_begins_0 : decode cX10_begins 0 = .ok (.aload_n 0, 1) := by decide +kernel
theorem dX10_begins_1 : decode cX10_begins 1 = .ok (.iconst 0, 1) := by decide +kernel
theorem dX10_begins_2 : decode cX10_begins 2 = .ok (.putfield 44, 3) := by decide +kernel
theorem dX10_begins_5 : decode cX10_begins 5 = .ok (.aload_n 0, 1) := by decide +kernel
theorem dX10_begins_6 : decode cX10_begins 6 = .ok (.getfield 20, 3) := by decide +kernel
theorem dX10_begins_9 : decode cX10_begins 9 = .ok (.aload_n 0, 1) := by decide +kernel
theorem dX10_begins_10 : decode cX10_begins 10 = .ok (.getfield 16, 3) := by decide +kernel
theorem dX10_begins_13 : decode cX10_begins 13 = .ok (.invokestatic 47, 3) := by decide +kernel
theorem dX10_begins_16 : decode cX10_begins 16 = .ok (.return_, 1) := by decide +kernel
theorem dX10_ends_0 : decode cX10_ends 0 = .ok (.aload_n 0, 1) := by decide +kernel
theorem dX10_ends_1 : decode cX10_ends 1 = .ok (.getfield 44, 3) := by decide +kernel
theorem dX10_ends_4 : decode cX10_ends 4 = .ok (.ifCond .eq 16, 3) := by decide +kernel
theorem dX10_ends_7 : decode cX10_ends 7 = .ok (.aload_n 0, 1) := by decide +kernel
theorem dX10_ends_8 : decode cX10_ends 8 = .ok (.getfield 16, 3) := by decide +kernel
theorem dX10_ends_11 : decode cX10_ends 11 = .ok (.aload_n 0, 1) := by decide +kernel
theorem dX10_ends_12 : decode cX10_ends 12 = .ok (.getfield 20, 3) := by decide +kernel
theorem dX10_ends_15 : decode cX10_ends 15 = .ok (.invokestatic 47, 3) := by decide +kernel
theorem dX10_ends_18 : decode cX10_ends 18 = .ok (.iconst 0, 1) := by decide +kernel
theorem dX10_ends_19 : decode cX10_ends 19 = .ok (.ireturn, 1) := by decide +kernel
theorem dX10_ends_20 : decode cX10_ends 20 = .ok (.aload_n 0, 1) := by decide +kernel
theorem dX10_ends_21 : decode cX10_ends 21 = .ok (.getfield 51, 3) := by decide +kernel
theorem dX10_ends_24 : decode cX10_ends 24 = .ok (.bipush 8, 2) := by decide +kernel
theorem dX10_ends_26 : decode cX10_ends 26 = .ok (.if_icmp .ne 44, 3) := by decide +kernel
theorem dX10_ends_29 : decode cX10_ends 29 = .ok (.iconst 0, 1) := by decide +kernel
theorem dX10_ends_30 : decode cX10_ends 30 = .ok (.istore_n 2, 1) := by decide +kernel
theorem dX10_ends_31 : decode cX10_ends 31 = .ok (.iload_n 2, 1) := by decide +kernel
theorem dX10_ends_32 : decode cX10_ends 32 = .ok (.sipush 2849, 3) := by decide +kernel
theorem dX10_ends_35 : decode cX10_ends 35 = .ok (.if_icmp .ge 25, 3) := by decide +kernel
theorem dX10_ends_38 : decode cX10_ends 38 = .ok (.aload_n 0, 1) := by decide +kernel
theorem dX10_ends_39 : decode cX10_ends 39 = .ok (.getfield 26, 3) := by decide +kernel
theorem dX10_ends_42 : decode cX10_ends 42 = .ok (.iload_n 2, 1) := by decide +kernel
theorem dX10_ends_43 : decode cX10_ends 43 = .ok (.aload_n 0, 1) := by decide +kernel
theorem dX10_ends_44 : decode cX10_ends 44 = .ok (.getfield 26, 3) := by decide +kernel
theorem dX10_ends_47 : decode cX10_ends 47 = .ok (.iload_n 2, 1) := by decide +kernel
theorem dX10_ends_48 : decode cX10_ends 48 = .ok (.sipush 407, 3) := by decide +kernel
theorem dX10_ends_51 : decode cX10_ends 51 = .ok (.iadd, 1) := by decide +kernel
theorem dX10_ends_52 : decode cX10_ends 52 = .ok (.iaload, 1) := by decide +kernel
theorem dX10_ends_53 : decode cX10_ends 53 = .ok (.iastore, 1) := by decide +kernel
theorem dX10_ends_54 : decode cX10_ends 54 = .ok (.iinc 2 1, 3) := by decide +kernel
theorem dX10_ends_57 : decode cX10_ends 57 = .ok (.goto (-26), 3) := by decide +kernel
theorem dX10_ends_60 : decode cX10_ends 60 = .ok (.aload_n 0, 1) := by decide +kernel
theorem dX10_ends_61 : decode cX10_ends 61 = .ok (.dup, 1) := by decide +kernel
theorem dX10_ends_62 : decode cX10_ends 62 = .ok (.getfield 51, 3) := by decide +kernel
theorem dX10_ends_65 : decode cX10_ends 65 = .ok (.iconst 1, 1) := by decide +kernel
theorem dX10_ends_66 : decode cX10_ends 66 = .ok (.isub, 1) := by decide +kernel
theorem dX10_ends_67 : decode cX10_ends 67 = .ok (.putfield 51, 3) := by decide +kernel
theorem dX10_ends_70 : decode cX10_ends 70 = .ok (.iconst 0, 1) := by decide +kernel
theorem dX10_ends_71 : decode cX10_ends 71 = .ok (.istore_n 2, 1) := by decide +kernel
theorem dX10_ends_72 : decode cX10_ends 72 = .ok (.iload_n 2, 1) := by decide +kernel
theorem dX10_ends_73 : decode cX10_ends 73 = .ok (.sipush 407, 3) := by decide +kernel
theorem dX10_ends_76 : decode cX10_ends 76 = .ok (.if_icmp .ge 30, 3) := by decide +kernel
theorem dX10_ends_79 : decode cX10_ends 79 = .ok (.aload_n 0, 1) := by decide +kernel
theorem dX10_ends_80 : decode cX10_ends 80 = .ok (.getfield 26, 3) := by decide +kernel
theorem dX10_ends_83 : decode cX10_ends 83 = .ok (.aload_n 0, 1) := by decide +kernel
theorem dX10_ends_84 : decode cX10_ends 84 = .ok (.getfield 51, 3) := by decide +kernel
theorem dX10_ends_87 : decode cX10_ends 87 = .ok (.sipush 407, 3) := by decide +kernel
theorem dX10_ends_90 : decode cX10_ends 90 = .ok (.imul, 1) := by decide +kernel
theorem dX10_ends_91 : decode cX10_ends 91 = .ok (.iload_n 2, 1) := by decide +kernel
theorem dX10_ends_92 : decode cX10_ends 92 = .ok (.iadd, 1) := by decide +kernel
theorem dX10_ends_93 : decode cX10_ends 93 = .ok (.aload_n 0, 1) := by decide +kernel
theorem dX10_ends_94 : decode cX10_ends 94 = .ok (.getfield 20, 3) := by decide +kernel
theorem dX10_ends_97 : decode cX10_ends 97 = .ok (.iload_n 2, 1) := by decide +kernel
theorem dX10_ends_98 : decode cX10_ends 98 = .ok (.iaload, 1) := by decide +kernel
theorem dX10_ends_99 : decode cX10_ends 99 = .ok (.iastore, 1) := by decide +kernel
theorem dX10_ends_100 : decode cX10_ends 100 = .ok (.iinc 2 1, 3) := by decide +kernel
theorem dX10_ends_103 : decode cX10_ends 103 = .ok (.goto (-31), 3) := by decide +kernel
theorem dX10_ends_106 : decode cX10_ends 106 = .ok (.aload_n 0, 1) := by decide +kernel
theorem dX10_ends_107 : decode cX10_ends 107 = .ok (.dup, 1) := by decide +kernel
theorem dX10_ends_108 : decode cX10_ends 108 = .ok (.getfield 51, 3) := by decide +kernel
theorem dX10_ends_111 : decode cX10_ends 111 = .ok (.iconst 1, 1) := by decide +kernel
theorem dX10_ends_112 : decode cX10_ends 112 = .ok (.iadd, 1) := by decide +kernel
theorem dX10_ends_113 : decode cX10_ends 113 = .ok (.putfield 51, 3) := by decide +kernel
theorem dX10_ends_116 : decode cX10_ends 116 = .ok (.iload_n 1, 1) := by decide +kernel
theorem dX10_ends_117 : decode cX10_ends 117 = .ok (.ireturn, 1) := by decide +kernel
theorem dX10_isFrog_0 : decode cX10_isFrog 0 = .ok (.iload_n 1, 1) := by decide +kernel
theorem dX10_isFrog_1 : decode cX10_isFrog 1 = .ok (.iconst 0, 1) := by decide +kernel
theorem dX10_isFrog_2 : decode cX10_isFrog 2 = .ok (.aload_n 0, 1) := by decide +kernel
theorem dX10_isFrog_3 : decode cX10_isFrog 3 = .ok (.getfield 16, 3) := by decide +kernel
theorem dX10_isFrog_6 : decode cX10_isFrog 6 = .ok (.iconst 0, 1) := by decide +kernel
theorem dX10_isFrog_7 : decode cX10_isFrog 7 = .ok (.iaload, 1) := by decide +kernel
theorem dX10_isFrog_8 : decode cX10_isFrog 8 = .ok (.iconst 1, 1) := by decide +kernel
theorem dX10_isFrog_9 : decode cX10_isFrog 9 = .ok (.isub, 1) := by decide +kernel
theorem dX10_isFrog_10 : decode cX10_isFrog 10 = .ok (.invokestatic 54, 3) := by decide +kernel
theorem dX10_isFrog_13 : decode cX10_isFrog 13 = .ok (.ireturn, 1) := by decide +kernel
theorem dX10_isPad_0 : decode cX10_isPad 0 = .ok (.iload_n 1, 1) := by decide +kernel
theorem dX10_isPad_1 : decode cX10_isPad 1 = .ok (.iconst 0, 1) := by decide +kernel
theorem dX10_isPad_2 : decode cX10_isPad 2 = .ok (.aload_n 0, 1) := by decide +kernel
theorem dX10_isPad_3 : decode cX10_isPad 3 = .ok (.getfield 16, 3) := by decide +kernel
theorem dX10_isPad_6 : decode cX10_isPad 6 = .ok (.iconst 1, 1) := by decide +kernel
theorem dX10_isPad_7 : decode cX10_isPad 7 = .ok (.iaload, 1) := by decide +kernel
theorem dX10_isPad_8 : decode cX10_isPad 8 = .ok (.iconst 1, 1) := by decide +kernel
theorem dX10_isPad_9 : decode cX10_isPad 9 = .ok (.isub, 1) := by decide +kernel
theorem dX10_isPad_10 : decode cX10_isPad 10 = .ok (.invokestatic 54, 3) := by decide +kernel
theorem dX10_isPad_13 : decode cX10_isPad 13 = .ok (.ireturn, 1) := by decide +kernel
theorem dX10_isMotion_0 : decode cX10_isMotion 0 = .ok (.iload_n 1, 1) := by decide +kernel
theorem dX10_isMotion_1 : decode cX10_isMotion 1 = .ok (.iconst 0, 1) := by decide +kernel
theorem dX10_isMotion_2 : decode cX10_isMotion 2 = .ok (.aload_n 0, 1) := by decide +kernel
theorem dX10_isMotion_3 : decode cX10_isMotion 3 = .ok (.getfield 16, 3) := by decide +kernel
theorem dX10_isMotion_6 : decode cX10_isMotion 6 = .ok (.iconst 2, 1) := by decide +kernel
theorem dX10_isMotion_7 : decode cX10_isMotion 7 = .ok (.iaload, 1) := by decide +kernel
theorem dX10_isMotion_8 : decode cX10_isMotion 8 = .ok (.iconst 1, 1) := by decide +kernel
theorem dX10_isMotion_9 : decode cX10_isMotion 9 = .ok (.isub, 1) := by decide +kernel
theorem dX10_isMotion_10 : decode cX10_isMotion 10 = .ok (.invokestatic 54, 3) := by decide +kernel
theorem dX10_isMotion_13 : decode cX10_isMotion 13 = .ok (.ireturn, 1) := by decide +kernel
theorem dX10_areThere_0 : decode cX10_areThere 0 = .ok (.aload_n 0, 1) := by decide +kernel
theorem dX10_areThere_1 : decode cX10_areThere 1 = .ok (.iload_n 1, 1) := by decide +kernel
theorem dX10_areThere_2 : decode cX10_areThere 2 = .ok (.invokevirtual 58, 3) := by decide +kernel
theorem dX10_areThere_5 : decode cX10_areThere 5 = .ok (.ifCond .eq 15, 3) := by decide +kernel
theorem dX10_areThere_8 : decode cX10_areThere 8 = .ok (.aload_n 0, 1) := by decide +kernel
theorem dX10_areThere_9 : decode cX10_areThere 9 = .ok (.iload_n 2, 1) := by decide +kernel
theorem dX10_areThere_10 : decode cX10_areThere 10 = .ok (.invokevirtual 62, 3) := by decide +kernel
theorem dX10_areThere_13 : decode cX10_areThere 13 = .ok (.ifCond .eq 7, 3) := by decide +kernel
theorem dX10_areThere_16 : decode cX10_areThere 16 = .ok (.iconst 1, 1) := by decide +kernel
theorem dX10_areThere_17 : decode cX10_areThere 17 = .ok (.goto 4, 3) := by decide +kernel
theorem dX10_areThere_20 : decode cX10_areThere 20 = .ok (.iconst 0, 1) := by decide +kernel
theorem dX10_areThere_21 : decode cX10_areThere 21 = .ok (.ireturn, 1) := by decide +kernel
theorem dX10_of_0 : decode cX10_of 0 = .ok (.bipush 59, 2) := by decide +kernel
theorem dX10_of_2 : decode cX10_of 2 = .ok (.bipush 10, 2) := by decide +kernel
theorem dX10_of_4 : decode cX10_of 4 = .ok (.iload_n 0, 1) := by decide +kernel
theorem dX10_of_5 : decode cX10_of 5 = .ok (.imul, 1) := by decide +kernel
theorem dX10_of_6 : decode cX10_of 6 = .ok (.iadd, 1) := by decide +kernel
theorem dX10_of_7 : decode cX10_of 7 = .ok (.iload_n 1, 1) := by decide +kernel
theorem dX10_of_8 : decode cX10_of 8 = .ok (.iadd, 1) := by decide +kernel
theorem dX10_of_9 : decode cX10_of 9 = .ok (.ireturn, 1) := by decide +kernel
theorem dX10_listed_0 : decode cX10_listed 0 = .ok (.bipush 119, 2) := by decide +kernel
theorem dX10_listed_2 : decode cX10_listed 2 = .ok (.bipush 12, 2) := by decide +kernel
theorem dX10_listed_4 : decode cX10_listed 4 = .ok (.iload_n 0, 1) := by decide +kernel
theorem dX10_listed_5 : decode cX10_listed 5 = .ok (.imul, 1) := by decide +kernel
theorem dX10_listed_6 : decode cX10_listed 6 = .ok (.iadd, 1) := by decide +kernel
theorem dX10_listed_7 : decode cX10_listed 7 = .ok (.iload_n 1, 1) := by decide +kernel
theorem dX10_listed_8 : decode cX10_listed 8 = .ok (.iadd, 1) := by decide +kernel
theorem dX10_listed_9 : decode cX10_listed 9 = .ok (.ireturn, 1) := by decide +kernel
theorem dX10_croaked_0 : decode cX10_croaked 0 = .ok (.sipush 191, 3) := by decide +kernel
theorem dX10_croaked_3 : decode cX10_croaked 3 = .ok (.bipush 36, 2) := by decide +kernel
theorem dX10_croaked_5 : decode cX10_croaked 5 = .ok (.iload_n 0, 1) := by decide +kernel
theorem dX10_croaked_6 : decode cX10_croaked 6 = .ok (.imul, 1) := by decide +kernel
theorem dX10_croaked_7 : decode cX10_croaked 7 = .ok (.iadd, 1) := by decide +kernel
theorem dX10_croaked_8 : decode cX10_croaked 8 = .ok (.iconst 3, 1) := by decide +kernel
theorem dX10_croaked_9 : decode cX10_croaked 9 = .ok (.iload_n 1, 1) := by decide +kernel
theorem dX10_croaked_10 : decode cX10_croaked 10 = .ok (.imul, 1) := by decide +kernel
theorem dX10_croaked_11 : decode cX10_croaked 11 = .ok (.iadd, 1) := by decide +kernel
theorem dX10_croaked_12 : decode cX10_croaked 12 = .ok (.ireturn, 1) := by decide +kernel
theorem dX10_isOn_0 : decode cX10_isOn 0 = .ok (.aload_n 0, 1) := by decide +kernel
theorem dX10_isOn_1 : decode cX10_isOn 1 = .ok (.getfield 16, 3) := by decide +kernel
theorem dX10_isOn_4 : decode cX10_isOn 4 = .ok (.bipush 29, 2) := by decide +kernel
theorem dX10_isOn_6 : decode cX10_isOn 6 = .ok (.iload_n 1, 1) := by decide +kernel
theorem dX10_isOn_7 : decode cX10_isOn 7 = .ok (.iadd, 1) := by decide +kernel
theorem dX10_isOn_8 : decode cX10_isOn 8 = .ok (.iaload, 1) := by decide +kernel
theorem dX10_isOn_9 : decode cX10_isOn 9 = .ok (.ifCond .le 7, 3) := by decide +kernel
theorem dX10_isOn_12 : decode cX10_isOn 12 = .ok (.iconst 1, 1) := by decide +kernel
theorem dX10_isOn_13 : decode cX10_isOn 13 = .ok (.goto 4, 3) := by decide +kernel
theorem dX10_isOn_16 : decode cX10_isOn 16 = .ok (.iconst 0, 1) := by decide +kernel
theorem dX10_isOn_17 : decode cX10_isOn 17 = .ok (.ireturn, 1) := by decide +kernel
theorem dX10_on_0 : decode cX10_on 0 = .ok (.iconst 0, 1) := by decide +kernel
theorem dX10_on_1 : decode cX10_on 1 = .ok (.istore_n 2, 1) := by decide +kernel
theorem dX10_on_2 : decode cX10_on 2 = .ok (.iconst 0, 1) := by decide +kernel
theorem dX10_on_3 : decode cX10_on 3 = .ok (.istore_n 3, 1) := by decide +kernel
theorem dX10_on_4 : decode cX10_on 4 = .ok (.iload_n 3, 1) := by decide +kernel
theorem dX10_on_5 : decode cX10_on 5 = .ok (.aload_n 0, 1) := by decide +kernel
theorem dX10_on_6 : decode cX10_on 6 = .ok (.getfield 16, 3) := by decide +kernel
theorem dX10_on_9 : decode cX10_on 9 = .ok (.iconst 0, 1) := by decide +kernel
theorem dX10_on_10 : decode cX10_on 10 = .ok (.iaload, 1) := by decide +kernel
theorem dX10_on_11 : decode cX10_on 11 = .ok (.if_icmp .ge 32, 3) := by decide +kernel
theorem dX10_on_14 : decode cX10_on 14 = .ok (.iload_n 2, 1) := by decide +kernel
theorem dX10_on_15 : decode cX10_on 15 = .ok (.aload_n 0, 1) := by decide +kernel
theorem dX10_on_16 : decode cX10_on 16 = .ok (.getfield 16, 3) := by decide +kernel
theorem dX10_on_19 : decode cX10_on 19 = .ok (.bipush 29, 2) := by decide +kernel
theorem dX10_on_21 : decode cX10_on 21 = .ok (.iload_n 3, 1) := by decide +kernel
theorem dX10_on_22 : decode cX10_on 22 = .ok (.iadd, 1) := by decide +kernel
theorem dX10_on_23 : decode cX10_on 23 = .ok (.iaload, 1) := by decide +kernel
theorem dX10_on_24 : decode cX10_on 24 = .ok (.iload_n 1, 1) := by decide +kernel
theorem dX10_on_25 : decode cX10_on 25 = .ok (.iconst 1, 1) := by decide +kernel
theorem dX10_on_26 : decode cX10_on 26 = .ok (.iadd, 1) := by decide +kernel
theorem dX10_on_27 : decode cX10_on 27 = .ok (.if_icmp .ne 7, 3) := by decide +kernel
theorem dX10_on_30 : decode cX10_on 30 = .ok (.iconst 1, 1) := by decide +kernel
theorem dX10_on_31 : decode cX10_on 31 = .ok (.goto 4, 3) := by decide +kernel
theorem dX10_on_34 : decode cX10_on 34 = .ok (.iconst 0, 1) := by decide +kernel
theorem dX10_on_35 : decode cX10_on 35 = .ok (.iadd, 1) := by decide +kernel
theorem dX10_on_36 : decode cX10_on 36 = .ok (.istore_n 2, 1) := by decide +kernel
theorem dX10_on_37 : decode cX10_on 37 = .ok (.iinc 3 1, 3) := by decide +kernel
theorem dX10_on_40 : decode cX10_on 40 = .ok (.goto (-36), 3) := by decide +kernel
theorem dX10_on_43 : decode cX10_on 43 = .ok (.iload_n 2, 1) := by decide +kernel
theorem dX10_on_44 : decode cX10_on 44 = .ok (.ireturn, 1) := by decide +kernel
theorem dX10_isFor_0 : decode cX10_isFor 0 = .ok (.aload_n 0, 1) := by decide +kernel
theorem dX10_isFor_1 : decode cX10_isFor 1 = .ok (.getfield 16, 3) := by decide +kernel
theorem dX10_isFor_4 : decode cX10_isFor 4 = .ok (.iload_n 1, 1) := by decide +kernel
theorem dX10_isFor_5 : decode cX10_isFor 5 = .ok (.iconst 0, 1) := by decide +kernel
theorem dX10_isFor_6 : decode cX10_isFor 6 = .ok (.invokestatic 65, 3) := by decide +kernel
theorem dX10_isFor_9 : decode cX10_isFor 9 = .ok (.iaload, 1) := by decide +kernel
theorem dX10_isFor_10 : decode cX10_isFor 10 = .ok (.aload_n 0, 1) := by decide +kernel
theorem dX10_isFor_11 : decode cX10_isFor 11 = .ok (.getfield 16, 3) := by decide +kernel
theorem dX10_isFor_14 : decode cX10_isFor 14 = .ok (.iconst 5, 1) := by decide +kernel
theorem dX10_isFor_15 : decode cX10_isFor 15 = .ok (.iload_n 2, 1) := by decide +kernel
theorem dX10_isFor_16 : decode cX10_isFor 16 = .ok (.iadd, 1) := by decide +kernel
theorem dX10_isFor_17 : decode cX10_isFor 17 = .ok (.iaload, 1) := by decide +kernel
theorem dX10_isFor_18 : decode cX10_isFor 18 = .ok (.ishr, 1) := by decide +kernel
theorem dX10_isFor_19 : decode cX10_isFor 19 = .ok (.iconst 1, 1) := by decide +kernel
theorem dX10_isFor_20 : decode cX10_isFor 20 = .ok (.iand, 1) := by decide +kernel
theorem dX10_isFor_21 : decode cX10_isFor 21 = .ok (.iconst 1, 1) := by decide +kernel
theorem dX10_isFor_22 : decode cX10_isFor 22 = .ok (.if_icmp .ne 7, 3) := by decide +kernel
theorem dX10_isFor_25 : decode cX10_isFor 25 = .ok (.iconst 1, 1) := by decide +kernel
theorem dX10_isFor_26 : decode cX10_isFor 26 = .ok (.goto 4, 3) := by decide +kernel
theorem dX10_isFor_29 : decode cX10_isFor 29 = .ok (.iconst 0, 1) := by decide +kernel
theorem dX10_isFor_30 : decode cX10_isFor 30 = .ok (.ireturn, 1) := by decide +kernel
theorem dX10_place_0 : decode cX10_place 0 = .ok (.iconst 0, 1) := by decide +kernel
theorem dX10_place_1 : decode cX10_place 1 = .ok (.istore_n 3, 1) := by decide +kernel
theorem dX10_place_2 : decode cX10_place 2 = .ok (.iload_n 3, 1) := by decide +kernel
theorem dX10_place_3 : decode cX10_place 3 = .ok (.aload_n 0, 1) := by decide +kernel
theorem dX10_place_4 : decode cX10_place 4 = .ok (.getfield 16, 3) := by decide +kernel
theorem dX10_place_7 : decode cX10_place 7 = .ok (.iload_n 1, 1) := by decide +kernel
theorem dX10_place_8 : decode cX10_place 8 = .ok (.iconst 5, 1) := by decide +kernel
theorem dX10_place_9 : decode cX10_place 9 = .ok (.invokestatic 65, 3) := by decide +kernel
theorem dX10_place_12 : decode cX10_place 12 = .ok (.iaload, 1) := by decide +kernel
theorem dX10_place_13 : decode cX10_place 13 = .ok (.if_icmp .ge 25, 3) := by decide +kernel
theorem dX10_place_16 : decode cX10_place 16 = .ok (.aload_n 0, 1) := by decide +kernel
theorem dX10_place_17 : decode cX10_place 17 = .ok (.getfield 16, 3) := by decide +kernel
theorem dX10_place_20 : decode cX10_place 20 = .ok (.iload_n 1, 1) := by decide +kernel
theorem dX10_place_21 : decode cX10_place 21 = .ok (.iload_n 3, 1) := by decide +kernel
theorem dX10_place_22 : decode cX10_place 22 = .ok (.invokestatic 69, 3) := by decide +kernel
theorem dX10_place_25 : decode cX10_place 25 = .ok (.iaload, 1) := by decide +kernel
theorem dX10_place_26 : decode cX10_place 26 = .ok (.iload_n 2, 1) := by decide +kernel
theorem dX10_place_27 : decode cX10_place 27 = .ok (.if_icmp .ne 5, 3) := by decide +kernel
theorem dX10_place_30 : decode cX10_place 30 = .ok (.iload_n 3, 1) := by decide +kernel
theorem dX10_place_31 : decode cX10_place 31 = .ok (.ireturn, 1) := by decide +kernel
theorem dX10_place_32 : decode cX10_place 32 = .ok (.iinc 3 1, 3) := by decide +kernel
theorem dX10_place_35 : decode cX10_place 35 = .ok (.goto (-33), 3) := by decide +kernel
theorem dX10_place_38 : decode cX10_place 38 = .ok (.iconst (-1), 1) := by decide +kernel
theorem dX10_place_39 : decode cX10_place 39 = .ok (.ireturn, 1) := by decide +kernel
theorem dX10_adds_0 : decode cX10_adds 0 = .ok (.iload_n 1, 1) := by decide +kernel
theorem dX10_adds_1 : decode cX10_adds 1 = .ok (.iconst 0, 1) := by decide +kernel
theorem dX10_adds_2 : decode cX10_adds 2 = .ok (.iconst 3, 1) := by decide +kernel
theorem dX10_adds_3 : decode cX10_adds 3 = .ok (.invokestatic 54, 3) := by decide +kernel
theorem dX10_adds_6 : decode cX10_adds 6 = .ok (.ifCond .ne 9, 3) := by decide +kernel
theorem dX10_adds_9 : decode cX10_adds 9 = .ok (.aload_n 0, 1) := by decide +kernel
theorem dX10_adds_10 : decode cX10_adds 10 = .ok (.iconst 1, 1) := by decide +kernel
theorem dX10_adds_11 : decode cX10_adds 11 = .ok (.invokevirtual 72, 3) := by decide +kernel
theorem dX10_adds_14 : decode cX10_adds 14 = .ok (.ireturn, 1) := by decide +kernel
theorem dX10_adds_15 : decode cX10_adds 15 = .ok (.iload_n 2, 1) := by decide +kernel
theorem dX10_adds_16 : decode cX10_adds 16 = .ok (.iconst 1, 1) := by decide +kernel
theorem dX10_adds_17 : decode cX10_adds 17 = .ok (.bipush 9, 2) := by decide +kernel
theorem dX10_adds_19 : decode cX10_adds 19 = .ok (.invokestatic 54, 3) := by decide +kernel
theorem dX10_adds_22 : decode cX10_adds 22 = .ok (.ifCond .ne 9, 3) := by decide +kernel
theorem dX10_adds_25 : decode cX10_adds 25 = .ok (.aload_n 0, 1) := by decide +kernel
theorem dX10_adds_26 : decode cX10_adds 26 = .ok (.iconst 2, 1) := by decide +kernel
theorem dX10_adds_27 : decode cX10_adds 27 = .ok (.invokevirtual 72, 3) := by decide +kernel
theorem dX10_adds_30 : decode cX10_adds 30 = .ok (.ireturn, 1) := by decide +kernel
theorem dX10_adds_31 : decode cX10_adds 31 = .ok (.aload_n 0, 1) := by decide +kernel
theorem dX10_adds_32 : decode cX10_adds 32 = .ok (.getfield 16, 3) := by decide +kernel
theorem dX10_adds_35 : decode cX10_adds 35 = .ok (.iconst 0, 1) := by decide +kernel
theorem dX10_adds_36 : decode cX10_adds 36 = .ok (.iaload, 1) := by decide +kernel
theorem dX10_adds_37 : decode cX10_adds 37 = .ok (.istore_n 3, 1) := by decide +kernel
theorem dX10_adds_38 : decode cX10_adds 38 = .ok (.iload_n 3, 1) := by decide +kernel
theorem dX10_adds_39 : decode cX10_adds 39 = .ok (.bipush 12, 2) := by decide +kernel
theorem dX10_adds_41 : decode cX10_adds 41 = .ok (.if_icmp .ne 9, 3) := by decide +kernel
theorem dX10_adds_44 : decode cX10_adds 44 = .ok (.aload_n 0, 1) := by decide +kernel
theorem dX10_adds_45 : decode cX10_adds 45 = .ok (.iconst 3, 1) := by decide +kernel
theorem dX10_adds_46 : decode cX10_adds 46 = .ok (.invokevirtual 72, 3) := by decide +kernel
theorem dX10_adds_49 : decode cX10_adds 49 = .ok (.ireturn, 1) := by decide +kernel
theorem dX10_adds_50 : decode cX10_adds 50 = .ok (.aload_n 0, 1) := by decide +kernel
theorem dX10_adds_51 : decode cX10_adds 51 = .ok (.getfield 16, 3) := by decide +kernel
theorem dX10_adds_54 : decode cX10_adds 54 = .ok (.iconst 5, 1) := by decide +kernel
theorem dX10_adds_55 : decode cX10_adds 55 = .ok (.iload_n 3, 1) := by decide +kernel
theorem dX10_adds_56 : decode cX10_adds 56 = .ok (.iadd, 1) := by decide +kernel
theorem dX10_adds_57 : decode cX10_adds 57 = .ok (.iload_n 1, 1) := by decide +kernel
theorem dX10_adds_58 : decode cX10_adds 58 = .ok (.iastore, 1) := by decide +kernel
theorem dX10_adds_59 : decode cX10_adds 59 = .ok (.aload_n 0, 1) := by decide +kernel
theorem dX10_adds_60 : decode cX10_adds 60 = .ok (.getfield 16, 3) := by decide +kernel
theorem dX10_adds_63 : decode cX10_adds 63 = .ok (.bipush 17, 2) := by decide +kernel
theorem dX10_adds_65 : decode cX10_adds 65 = .ok (.iload_n 3, 1) := by decide +kernel
theorem dX10_adds_66 : decode cX10_adds 66 = .ok (.iadd, 1) := by decide +kernel
theorem dX10_adds_67 : decode cX10_adds 67 = .ok (.iload_n 2, 1) := by decide +kernel
theorem dX10_adds_68 : decode cX10_adds 68 = .ok (.iastore, 1) := by decide +kernel
theorem dX10_adds_69 : decode cX10_adds 69 = .ok (.aload_n 0, 1) := by decide +kernel
theorem dX10_adds_70 : decode cX10_adds 70 = .ok (.getfield 16, 3) := by decide +kernel
theorem dX10_adds_73 : decode cX10_adds 73 = .ok (.iconst 0, 1) := by decide +kernel
theorem dX10_adds_74 : decode cX10_adds 74 = .ok (.dup2, 1) := by decide +kernel
theorem dX10_adds_75 : decode cX10_adds 75 = .ok (.iaload, 1) := by decide +kernel
theorem dX10_adds_76 : decode cX10_adds 76 = .ok (.iconst 1, 1) := by decide +kernel
theorem dX10_adds_77 : decode cX10_adds 77 = .ok (.iadd, 1) := by decide +kernel
theorem dX10_adds_78 : decode cX10_adds 78 = .ok (.iastore, 1) := by decide +kernel
theorem dX10_adds_79 : decode cX10_adds 79 = .ok (.iload_n 3, 1) := by decide +kernel
theorem dX10_adds_80 : decode cX10_adds 80 = .ok (.ireturn, 1) := by decide +kernel
theorem dX10_addFrog_0 : decode cX10_addFrog 0 = .ok (.aload_n 0, 1) := by decide +kernel
theorem dX10_addFrog_1 : decode cX10_addFrog 1 = .ok (.invokevirtual 76, 3) := by decide +kernel
theorem dX10_addFrog_4 : decode cX10_addFrog 4 = .ok (.aload_n 0, 1) := by decide +kernel
theorem dX10_addFrog_5 : decode cX10_addFrog 5 = .ok (.aload_n 0, 1) := by decide +kernel
theorem dX10_addFrog_6 : decode cX10_addFrog 6 = .ok (.iload_n 1, 1) := by decide +kernel
theorem dX10_addFrog_7 : decode cX10_addFrog 7 = .ok (.iload_n 2, 1) := by decide +kernel
theorem dX10_addFrog_8 : decode cX10_addFrog 8 = .ok (.invokevirtual 79, 3) := by decide +kernel
theorem dX10_addFrog_11 : decode cX10_addFrog 11 = .ok (.invokevirtual 82, 3) := by decide +kernel
theorem dX10_addFrog_14 : decode cX10_addFrog 14 = .ok (.ireturn, 1) := by decide +kernel
theorem dX10_addsPad_0 : decode cX10_addsPad 0 = .ok (.iload_n 1, 1) := by decide +kernel
theorem dX10_addsPad_1 : decode cX10_addsPad 1 = .ok (.iconst 1, 1) := by decide +kernel
theorem dX10_addsPad_2 : decode cX10_addsPad 2 = .ok (.iconst 4, 1) := by decide +kernel
theorem dX10_addsPad_3 : decode cX10_addsPad 3 = .ok (.invokestatic 54, 3) := by decide +kernel
theorem dX10_addsPad_6 : decode cX10_addsPad 6 = .ok (.ifCond .ne 9, 3) := by decide +kernel
theorem dX10_addsPad_9 : decode cX10_addsPad 9 = .ok (.aload_n 0, 1) := by decide +kernel
theorem dX10_addsPad_10 : decode cX10_addsPad 10 = .ok (.iconst 1, 1) := by decide +kernel
theorem dX10_addsPad_11 : decode cX10_addsPad 11 = .ok (.invokevirtual 72, 3) := by decide +kernel
theorem dX10_addsPad_14 : decode cX10_addsPad 14 = .ok (.ireturn, 1) := by decide +kernel
theorem dX10_addsPad_15 : decode cX10_addsPad 15 = .ok (.aload_n 0, 1) := by decide +kernel
theorem dX10_addsPad_16 : decode cX10_addsPad 16 = .ok (.getfield 16, 3) := by decide +kernel
theorem dX10_addsPad_19 : decode cX10_addsPad 19 = .ok (.iconst 1, 1) := by decide +kernel
theorem dX10_addsPad_20 : decode cX10_addsPad 20 = .ok (.iaload, 1) := by decide +kernel
theorem dX10_addsPad_21 : decode cX10_addsPad 21 = .ok (.istore_n 2, 1) := by decide +kernel
theorem dX10_addsPad_22 : decode cX10_addsPad 22 = .ok (.iload_n 2, 1) := by decide +kernel
theorem dX10_addsPad_23 : decode cX10_addsPad 23 = .ok (.bipush 6, 2) := by decide +kernel
theorem dX10_addsPad_25 : decode cX10_addsPad 25 = .ok (.if_icmp .ne 9, 3) := by decide +kernel
theorem dX10_addsPad_28 : decode cX10_addsPad 28 = .ok (.aload_n 0, 1) := by decide +kernel
theorem dX10_addsPad_29 : decode cX10_addsPad 29 = .ok (.iconst 2, 1) := by decide +kernel
theorem dX10_addsPad_30 : decode cX10_addsPad 30 = .ok (.invokevirtual 72, 3) := by decide +kernel
theorem dX10_addsPad_33 : decode cX10_addsPad 33 = .ok (.ireturn, 1) := by decide +kernel
theorem dX10_addsPad_34 : decode cX10_addsPad 34 = .ok (.aload_n 0, 1) := by decide +kernel
theorem dX10_addsPad_35 : decode cX10_addsPad 35 = .ok (.getfield 16, 3) := by decide +kernel
theorem dX10_addsPad_38 : decode cX10_addsPad 38 = .ok (.bipush 53, 2) := by decide +kernel
theorem dX10_addsPad_40 : decode cX10_addsPad 40 = .ok (.iload_n 2, 1) := by decide +kernel
theorem dX10_addsPad_41 : decode cX10_addsPad 41 = .ok (.iadd, 1) := by decide +kernel
theorem dX10_addsPad_42 : decode cX10_addsPad 42 = .ok (.iload_n 1, 1) := by decide +kernel
theorem dX10_addsPad_43 : decode cX10_addsPad 43 = .ok (.iastore, 1) := by decide +kernel
theorem dX10_addsPad_44 : decode cX10_addsPad 44 = .ok (.aload_n 0, 1) := by decide +kernel
theorem dX10_addsPad_45 : decode cX10_addsPad 45 = .ok (.getfield 16, 3) := by decide +kernel
theorem dX10_addsPad_48 : decode cX10_addsPad 48 = .ok (.iconst 1, 1) := by decide +kernel
theorem dX10_addsPad_49 : decode cX10_addsPad 49 = .ok (.dup2, 1) := by decide +kernel
theorem dX10_addsPad_50 : decode cX10_addsPad 50 = .ok (.iaload, 1) := by decide +kernel
theorem dX10_addsPad_51 : decode cX10_addsPad 51 = .ok (.iconst 1, 1) := by decide +kernel
theorem dX10_addsPad_52 : decode cX10_addsPad 52 = .ok (.iadd, 1) := by decide +kernel
theorem dX10_addsPad_53 : decode cX10_addsPad 53 = .ok (.iastore, 1) := by decide +kernel
theorem dX10_addsPad_54 : decode cX10_addsPad 54 = .ok (.iload_n 2, 1) := by decide +kernel
theorem dX10_addsPad_55 : decode cX10_addsPad 55 = .ok (.ireturn, 1) := by decide +kernel
theorem dX10_addPad_0 : decode cX10_addPad 0 = .ok (.aload_n 0, 1) := by decide +kernel
theorem dX10_addPad_1 : decode cX10_addPad 1 = .ok (.invokevirtual 76, 3) := by decide +kernel
theorem dX10_addPad_4 : decode cX10_addPad 4 = .ok (.aload_n 0, 1) := by decide +kernel
theorem dX10_addPad_5 : decode cX10_addPad 5 = .ok (.aload_n 0, 1) := by decide +kernel
theorem dX10_addPad_6 : decode cX10_addPad 6 = .ok (.iload_n 1, 1) := by decide +kernel
theorem dX10_addPad_7 : decode cX10_addPad 7 = .ok (.invokevirtual 85, 3) := by decide +kernel
theorem dX10_addPad_10 : decode cX10_addPad 10 = .ok (.invokevirtual 82, 3) := by decide +kernel
theorem dX10_addPad_13 : decode cX10_addPad 13 = .ok (.ireturn, 1) := by decide +kernel
theorem dX10_hops_0 : decode cX10_hops 0 = .ok (.aload_n 0, 1) := by decide +kernel
theorem dX10_hops_1 : decode cX10_hops 1 = .ok (.iload_n 1, 1) := by decide +kernel
theorem dX10_hops_2 : decode cX10_hops 2 = .ok (.invokevirtual 62, 3) := by decide +kernel
theorem dX10_hops_5 : decode cX10_hops 5 = .ok (.ifCond .eq 11, 3) := by decide +kernel
theorem dX10_hops_8 : decode cX10_hops 8 = .ok (.aload_n 0, 1) := by decide +kernel
theorem dX10_hops_9 : decode cX10_hops 9 = .ok (.iload_n 2, 1) := by decide +kernel
theorem dX10_hops_10 : decode cX10_hops 10 = .ok (.invokevirtual 88, 3) := by decide +kernel
theorem dX10_hops_13 : decode cX10_hops 13 = .ok (.ifCond .ne 9, 3) := by decide +kernel
theorem dX10_hops_16 : decode cX10_hops 16 = .ok (.aload_n 0, 1) := by decide +kernel
theorem dX10_hops_17 : decode cX10_hops 17 = .ok (.iconst 1, 1) := by decide +kernel
theorem dX10_hops_18 : decode cX10_hops 18 = .ok (.invokevirtual 72, 3) := by decide +kernel
theorem dX10_hops_21 : decode cX10_hops 21 = .ok (.ireturn, 1) := by decide +kernel
theorem dX10_hops_22 : decode cX10_hops 22 = .ok (.aload_n 0, 1) := by decide +kernel
theorem dX10_hops_23 : decode cX10_hops 23 = .ok (.getfield 16, 3) := by decide +kernel
theorem dX10_hops_26 : decode cX10_hops 26 = .ok (.bipush 29, 2) := by decide +kernel
theorem dX10_hops_28 : decode cX10_hops 28 = .ok (.iload_n 1, 1) := by decide +kernel
theorem dX10_hops_29 : decode cX10_hops 29 = .ok (.iadd, 1) := by decide +kernel
theorem dX10_hops_30 : decode cX10_hops 30 = .ok (.iaload, 1) := by decide +kernel
theorem dX10_hops_31 : decode cX10_hops 31 = .ok (.iload_n 2, 1) := by decide +kernel
theorem dX10_hops_32 : decode cX10_hops 32 = .ok (.iconst 1, 1) := by decide +kernel
theorem dX10_hops_33 : decode cX10_hops 33 = .ok (.iadd, 1) := by decide +kernel
theorem dX10_hops_34 : decode cX10_hops 34 = .ok (.if_icmp .eq 20, 3) := by decide +kernel
theorem dX10_hops_37 : decode cX10_hops 37 = .ok (.aload_n 0, 1) := by decide +kernel
theorem dX10_hops_38 : decode cX10_hops 38 = .ok (.iload_n 2, 1) := by decide +kernel
theorem dX10_hops_39 : decode cX10_hops 39 = .ok (.invokevirtual 91, 3) := by decide +kernel
theorem dX10_hops_42 : decode cX10_hops 42 = .ok (.aload_n 0, 1) := by decide +kernel
theorem dX10_hops_43 : decode cX10_hops 43 = .ok (.getfield 16, 3) := by decide +kernel
theorem dX10_hops_46 : decode cX10_hops 46 = .ok (.bipush 53, 2) := by decide +kernel
theorem dX10_hops_48 : decode cX10_hops 48 = .ok (.iload_n 2, 1) := by decide +kernel
theorem dX10_hops_49 : decode cX10_hops 49 = .ok (.iadd, 1) := by decide +kernel
theorem dX10_hops_50 : decode cX10_hops 50 = .ok (.iaload, 1) := by decide +kernel
theorem dX10_hops_51 : decode cX10_hops 51 = .ok (.if_icmp .ne 9, 3) := by decide +kernel
theorem dX10_hops_54 : decode cX10_hops 54 = .ok (.aload_n 0, 1) := by decide +kernel
theorem dX10_hops_55 : decode cX10_hops 55 = .ok (.iconst 2, 1) := by decide +kernel
theorem dX10_hops_56 : decode cX10_hops 56 = .ok (.invokevirtual 72, 3) := by decide +kernel
theorem dX10_hops_59 : decode cX10_hops 59 = .ok (.ireturn, 1) := by decide +kernel
theorem dX10_hops_60 : decode cX10_hops 60 = .ok (.aload_n 0, 1) := by decide +kernel
theorem dX10_hops_61 : decode cX10_hops 61 = .ok (.getfield 16, 3) := by decide +kernel
theorem dX10_hops_64 : decode cX10_hops 64 = .ok (.bipush 29, 2) := by decide +kernel
theorem dX10_hops_66 : decode cX10_hops 66 = .ok (.iload_n 1, 1) := by decide +kernel
theorem dX10_hops_67 : decode cX10_hops 67 = .ok (.iadd, 1) := by decide +kernel
theorem dX10_hops_68 : decode cX10_hops 68 = .ok (.iload_n 2, 1) := by decide +kernel
theorem dX10_hops_69 : decode cX10_hops 69 = .ok (.iconst 1, 1) := by decide +kernel
theorem dX10_hops_70 : decode cX10_hops 70 = .ok (.iadd, 1) := by decide +kernel
theorem dX10_hops_71 : decode cX10_hops 71 = .ok (.iastore, 1) := by decide +kernel
theorem dX10_hops_72 : decode cX10_hops 72 = .ok (.aload_n 0, 1) := by decide +kernel
theorem dX10_hops_73 : decode cX10_hops 73 = .ok (.iload_n 2, 1) := by decide +kernel
theorem dX10_hops_74 : decode cX10_hops 74 = .ok (.invokevirtual 91, 3) := by decide +kernel
theorem dX10_hops_77 : decode cX10_hops 77 = .ok (.ireturn, 1) := by decide +kernel
theorem dX10_hop_0 : decode cX10_hop 0 = .ok (.aload_n 0, 1) := by decide +kernel
theorem dX10_hop_1 : decode cX10_hop 1 = .ok (.invokevirtual 76, 3) := by decide +kernel
theorem dX10_hop_4 : decode cX10_hop 4 = .ok (.aload_n 0, 1) := by decide +kernel
theorem dX10_hop_5 : decode cX10_hop 5 = .ok (.aload_n 0, 1) := by decide +kernel
theorem dX10_hop_6 : decode cX10_hop 6 = .ok (.iload_n 1, 1) := by decide +kernel
theorem dX10_hop_7 : decode cX10_hop 7 = .ok (.iload_n 2, 1) := by decide +kernel
theorem dX10_hop_8 : decode cX10_hop 8 = .ok (.invokevirtual 94, 3) := by decide +kernel
theorem dX10_hop_11 : decode cX10_hop 11 = .ok (.invokevirtual 82, 3) := by decide +kernel
theorem dX10_hop_14 : decode cX10_hop 14 = .ok (.ireturn, 1) := by decide +kernel
theorem dX10_dives_0 : decode cX10_dives 0 = .ok (.aload_n 0, 1) := by decide +kernel
theorem dX10_dives_1 : decode cX10_dives 1 = .ok (.iload_n 1, 1) := by decide +kernel
theorem dX10_dives_2 : decode cX10_dives 2 = .ok (.invokevirtual 62, 3) := by decide +kernel
theorem dX10_dives_5 : decode cX10_dives 5 = .ok (.ifCond .ne 9, 3) := by decide +kernel
theorem dX10_dives_8 : decode cX10_dives 8 = .ok (.aload_n 0, 1) := by decide +kernel
theorem dX10_dives_9 : decode cX10_dives 9 = .ok (.iconst 1, 1) := by decide +kernel
theorem dX10_dives_10 : decode cX10_dives 10 = .ok (.invokevirtual 72, 3) := by decide +kernel
theorem dX10_dives_13 : decode cX10_dives 13 = .ok (.ireturn, 1) := by decide +kernel
theorem dX10_dives_14 : decode cX10_dives 14 = .ok (.aload_n 0, 1) := by decide +kernel
theorem dX10_dives_15 : decode cX10_dives 15 = .ok (.iload_n 1, 1) := by decide +kernel
theorem dX10_dives_16 : decode cX10_dives 16 = .ok (.invokevirtual 97, 3) := by decide +kernel
theorem dX10_dives_19 : decode cX10_dives 19 = .ok (.ifCond .ne 9, 3) := by decide +kernel
theorem dX10_dives_22 : decode cX10_dives 22 = .ok (.aload_n 0, 1) := by decide +kernel
theorem dX10_dives_23 : decode cX10_dives 23 = .ok (.iconst 2, 1) := by decide +kernel
theorem dX10_dives_24 : decode cX10_dives 24 = .ok (.invokevirtual 72, 3) := by decide +kernel
theorem dX10_dives_27 : decode cX10_dives 27 = .ok (.ireturn, 1) := by decide +kernel
theorem dX10_dives_28 : decode cX10_dives 28 = .ok (.aload_n 0, 1) := by decide +kernel
theorem dX10_dives_29 : decode cX10_dives 29 = .ok (.getfield 16, 3) := by decide +kernel
theorem dX10_dives_32 : decode cX10_dives 32 = .ok (.bipush 29, 2) := by decide +kernel
theorem dX10_dives_34 : decode cX10_dives 34 = .ok (.iload_n 1, 1) := by decide +kernel
theorem dX10_dives_35 : decode cX10_dives 35 = .ok (.iadd, 1) := by decide +kernel
theorem dX10_dives_36 : decode cX10_dives 36 = .ok (.iaload, 1) := by decide +kernel
theorem dX10_dives_37 : decode cX10_dives 37 = .ok (.iconst 1, 1) := by decide +kernel
theorem dX10_dives_38 : decode cX10_dives 38 = .ok (.isub, 1) := by decide +kernel
theorem dX10_dives_39 : decode cX10_dives 39 = .ok (.istore_n 2, 1) := by decide +kernel
theorem dX10_dives_40 : decode cX10_dives 40 = .ok (.aload_n 0, 1) := by decide +kernel
theorem dX10_dives_41 : decode cX10_dives 41 = .ok (.getfield 16, 3) := by decide +kernel
theorem dX10_dives_44 : decode cX10_dives 44 = .ok (.bipush 29, 2) := by decide +kernel
theorem dX10_dives_46 : decode cX10_dives 46 = .ok (.iload_n 1, 1) := by decide +kernel
theorem dX10_dives_47 : decode cX10_dives 47 = .ok (.iadd, 1) := by decide +kernel
theorem dX10_dives_48 : decode cX10_dives 48 = .ok (.iconst 0, 1) := by decide +kernel
theorem dX10_dives_49 : decode cX10_dives 49 = .ok (.iastore, 1) := by decide +kernel
theorem dX10_dives_50 : decode cX10_dives 50 = .ok (.iload_n 2, 1) := by decide +kernel
theorem dX10_dives_51 : decode cX10_dives 51 = .ok (.ireturn, 1) := by decide +kernel
theorem dX10_dive_0 : decode cX10_dive 0 = .ok (.aload_n 0, 1) := by decide +kernel
theorem dX10_dive_1 : decode cX10_dive 1 = .ok (.invokevirtual 76, 3) := by decide +kernel
theorem dX10_dive_4 : decode cX10_dive 4 = .ok (.aload_n 0, 1) := by decide +kernel
theorem dX10_dive_5 : decode cX10_dive 5 = .ok (.aload_n 0, 1) := by decide +kernel
theorem dX10_dive_6 : decode cX10_dive 6 = .ok (.iload_n 1, 1) := by decide +kernel
theorem dX10_dive_7 : decode cX10_dive 7 = .ok (.invokevirtual 100, 3) := by decide +kernel
theorem dX10_dive_10 : decode cX10_dive 10 = .ok (.invokevirtual 82, 3) := by decide +kernel
theorem dX10_dive_13 : decode cX10_dive 13 = .ok (.ireturn, 1) := by decide +kernel
theorem dX10_tells_0 : decode cX10_tells 0 = .ok (.aload_n 0, 1) := by decide +kernel
theorem dX10_tells_1 : decode cX10_tells 1 = .ok (.iconst 0, 1) := by decide +kernel
theorem dX10_tells_2 : decode cX10_tells 2 = .ok (.putfield 44, 3) := by decide +kernel
theorem dX10_tells_5 : decode cX10_tells 5 = .ok (.aload_n 0, 1) := by decide +kernel
theorem dX10_tells_6 : decode cX10_tells 6 = .ok (.getfield 16, 3) := by decide +kernel
theorem dX10_tells_9 : decode cX10_tells 9 = .ok (.iload_n 1, 1) := by decide +kernel
theorem dX10_tells_10 : decode cX10_tells 10 = .ok (.iaload, 1) := by decide +kernel
theorem dX10_tells_11 : decode cX10_tells 11 = .ok (.ireturn, 1) := by decide +kernel
theorem dX10_tellsFrog_0 : decode cX10_tellsFrog 0 = .ok (.aload_n 0, 1) := by decide +kernel
theorem dX10_tellsFrog_1 : decode cX10_tellsFrog 1 = .ok (.aload_n 0, 1) := by decide +kernel
theorem dX10_tellsFrog_2 : decode cX10_tellsFrog 2 = .ok (.iload_n 1, 1) := by decide +kernel
theorem dX10_tellsFrog_3 : decode cX10_tellsFrog 3 = .ok (.invokevirtual 62, 3) := by decide +kernel
theorem dX10_tellsFrog_6 : decode cX10_tellsFrog 6 = .ok (.ifCond .eq 7, 3) := by decide +kernel
theorem dX10_tellsFrog_9 : decode cX10_tellsFrog 9 = .ok (.iconst 0, 1) := by decide +kernel
theorem dX10_tellsFrog_10 : decode cX10_tellsFrog 10 = .ok (.goto 4, 3) := by decide +kernel
theorem dX10_tellsFrog_13 : decode cX10_tellsFrog 13 = .ok (.iconst 1, 1) := by decide +kernel
theorem dX10_tellsFrog_14 : decode cX10_tellsFrog 14 = .ok (.putfield 44, 3) := by decide +kernel
theorem dX10_tellsFrog_17 : decode cX10_tellsFrog 17 = .ok (.aload_n 0, 1) := by decide +kernel
theorem dX10_tellsFrog_18 : decode cX10_tellsFrog 18 = .ok (.getfield 44, 3) := by decide +kernel
theorem dX10_tellsFrog_21 : decode cX10_tellsFrog 21 = .ok (.ifCond .ne 14, 3) := by decide +kernel
theorem dX10_tellsFrog_24 : decode cX10_tellsFrog 24 = .ok (.aload_n 0, 1) := by decide +kernel
theorem dX10_tellsFrog_25 : decode cX10_tellsFrog 25 = .ok (.getfield 16, 3) := by decide +kernel
theorem dX10_tellsFrog_28 : decode cX10_tellsFrog 28 = .ok (.iload_n 2, 1) := by decide +kernel
theorem dX10_tellsFrog_29 : decode cX10_tellsFrog 29 = .ok (.iload_n 1, 1) := by decide +kernel
theorem dX10_tellsFrog_30 : decode cX10_tellsFrog 30 = .ok (.iadd, 1) := by decide +kernel
theorem dX10_tellsFrog_31 : decode cX10_tellsFrog 31 = .ok (.iaload, 1) := by decide +kernel
theorem dX10_tellsFrog_32 : decode cX10_tellsFrog 32 = .ok (.goto 4, 3) := by decide +kernel
theorem dX10_tellsFrog_35 : decode cX10_tellsFrog 35 = .ok (.iconst 0, 1) := by decide +kernel
theorem dX10_tellsFrog_36 : decode cX10_tellsFrog 36 = .ok (.ireturn, 1) := by decide +kernel
theorem dX10_frogCount_0 : decode cX10_frogCount 0 = .ok (.aload_n 0, 1) := by decide +kernel
theorem dX10_frogCount_1 : decode cX10_frogCount 1 = .ok (.iconst 0, 1) := by decide +kernel
theorem dX10_frogCount_2 : decode cX10_frogCount 2 = .ok (.invokevirtual 103, 3) := by decide +kernel
theorem dX10_frogCount_5 : decode cX10_frogCount 5 = .ok (.ireturn, 1) := by decide +kernel
theorem dX10_pondOf_0 : decode cX10_pondOf 0 = .ok (.aload_n 0, 1) := by decide +kernel
theorem dX10_pondOf_1 : decode cX10_pondOf 1 = .ok (.iload_n 1, 1) := by decide +kernel
theorem dX10_pondOf_2 : decode cX10_pondOf 2 = .ok (.iconst 5, 1) := by decide +kernel
theorem dX10_pondOf_3 : decode cX10_pondOf 3 = .ok (.invokevirtual 106, 3) := by decide +kernel
theorem dX10_pondOf_6 : decode cX10_pondOf 6 = .ok (.ireturn, 1) := by decide +kernel
theorem dX10_weightOf_0 : decode cX10_weightOf 0 = .ok (.aload_n 0, 1) := by decide +kernel
theorem dX10_weightOf_1 : decode cX10_weightOf 1 = .ok (.iload_n 1, 1) := by decide +kernel
theorem dX10_weightOf_2 : decode cX10_weightOf 2 = .ok (.bipush 17, 2) := by decide +kernel
theorem dX10_weightOf_4 : decode cX10_weightOf 4 = .ok (.invokevirtual 106, 3) := by decide +kernel
theorem dX10_weightOf_7 : decode cX10_weightOf 7 = .ok (.ireturn, 1) := by decide +kernel
theorem dX10_padOf_0 : decode cX10_padOf 0 = .ok (.aload_n 0, 1) := by decide +kernel
theorem dX10_padOf_1 : decode cX10_padOf 1 = .ok (.aload_n 0, 1) := by decide +kernel
theorem dX10_padOf_2 : decode cX10_padOf 2 = .ok (.iload_n 1, 1) := by decide +kernel
theorem dX10_padOf_3 : decode cX10_padOf 3 = .ok (.invokevirtual 62, 3) := by decide +kernel
theorem dX10_padOf_6 : decode cX10_padOf 6 = .ok (.ifCond .ne 7, 3) := by decide +kernel
theorem dX10_padOf_9 : decode cX10_padOf 9 = .ok (.iconst 1, 1) := by decide +kernel
theorem dX10_padOf_10 : decode cX10_padOf 10 = .ok (.goto 16, 3) := by decide +kernel
theorem dX10_padOf_13 : decode cX10_padOf 13 = .ok (.aload_n 0, 1) := by decide +kernel
theorem dX10_padOf_14 : decode cX10_padOf 14 = .ok (.iload_n 1, 1) := by decide +kernel
theorem dX10_padOf_15 : decode cX10_padOf 15 = .ok (.invokevirtual 97, 3) := by decide +kernel
theorem dX10_padOf_18 : decode cX10_padOf 18 = .ok (.ifCond .eq 7, 3) := by decide +kernel
theorem dX10_padOf_21 : decode cX10_padOf 21 = .ok (.iconst 0, 1) := by decide +kernel
theorem dX10_padOf_22 : decode cX10_padOf 22 = .ok (.goto 4, 3) := by decide +kernel
theorem dX10_padOf_25 : decode cX10_padOf 25 = .ok (.iconst 2, 1) := by decide +kernel
theorem dX10_padOf_26 : decode cX10_padOf 26 = .ok (.putfield 44, 3) := by decide +kernel
theorem dX10_padOf_29 : decode cX10_padOf 29 = .ok (.aload_n 0, 1) := by decide +kernel
theorem dX10_padOf_30 : decode cX10_padOf 30 = .ok (.getfield 44, 3) := by decide +kernel
theorem dX10_padOf_33 : decode cX10_padOf 33 = .ok (.ifCond .ne 17, 3) := by decide +kernel
theorem dX10_padOf_36 : decode cX10_padOf 36 = .ok (.aload_n 0, 1) := by decide +kernel
theorem dX10_padOf_37 : decode cX10_padOf 37 = .ok (.getfield 16, 3) := by decide +kernel
theorem dX10_padOf_40 : decode cX10_padOf 40 = .ok (.bipush 29, 2) := by decide +kernel
theorem dX10_padOf_42 : decode cX10_padOf 42 = .ok (.iload_n 1, 1) := by decide +kernel
theorem dX10_padOf_43 : decode cX10_padOf 43 = .ok (.iadd, 1) := by decide +kernel
theorem dX10_padOf_44 : decode cX10_padOf 44 = .ok (.iaload, 1) := by decide +kernel
theorem dX10_padOf_45 : decode cX10_padOf 45 = .ok (.iconst 1, 1) := by decide +kernel
theorem dX10_padOf_46 : decode cX10_padOf 46 = .ok (.isub, 1) := by decide +kernel
theorem dX10_padOf_47 : decode cX10_padOf 47 = .ok (.goto 4, 3) := by decide +kernel
theorem dX10_padOf_50 : decode cX10_padOf 50 = .ok (.iconst 0, 1) := by decide +kernel
theorem dX10_padOf_51 : decode cX10_padOf 51 = .ok (.ireturn, 1) := by decide +kernel
theorem dX10_padCount_0 : decode cX10_padCount 0 = .ok (.aload_n 0, 1) := by decide +kernel
theorem dX10_padCount_1 : decode cX10_padCount 1 = .ok (.iconst 1, 1) := by decide +kernel
theorem dX10_padCount_2 : decode cX10_padCount 2 = .ok (.invokevirtual 103, 3) := by decide +kernel
theorem dX10_padCount_5 : decode cX10_padCount 5 = .ok (.ireturn, 1) := by decide +kernel
theorem dX10_frogsOn_0 : decode cX10_frogsOn 0 = .ok (.aload_n 0, 1) := by decide +kernel
theorem dX10_frogsOn_1 : decode cX10_frogsOn 1 = .ok (.aload_n 0, 1) := by decide +kernel
theorem dX10_frogsOn_2 : decode cX10_frogsOn 2 = .ok (.iload_n 1, 1) := by decide +kernel
theorem dX10_frogsOn_3 : decode cX10_frogsOn 3 = .ok (.invokevirtual 88, 3) := by decide +kernel
theorem dX10_frogsOn_6 : decode cX10_frogsOn 6 = .ok (.ifCond .eq 7, 3) := by decide +kernel
theorem dX10_frogsOn_9 : decode cX10_frogsOn 9 = .ok (.iconst 0, 1) := by decide +kernel
theorem dX10_frogsOn_10 : decode cX10_frogsOn 10 = .ok (.goto 4, 3) := by decide +kernel
theorem dX10_frogsOn_13 : decode cX10_frogsOn 13 = .ok (.iconst 1, 1) := by decide +kernel
theorem dX10_frogsOn_14 : decode cX10_frogsOn 14 = .ok (.putfield 44, 3) := by decide +kernel
theorem dX10_frogsOn_17 : decode cX10_frogsOn 17 = .ok (.aload_n 0, 1) := by decide +kernel
theorem dX10_frogsOn_18 : decode cX10_frogsOn 18 = .ok (.getfield 44, 3) := by decide +kernel
theorem dX10_frogsOn_21 : decode cX10_frogsOn 21 = .ok (.ifCond .ne 11, 3) := by decide +kernel
theorem dX10_frogsOn_24 : decode cX10_frogsOn 24 = .ok (.aload_n 0, 1) := by decide +kernel
theorem dX10_frogsOn_25 : decode cX10_frogsOn 25 = .ok (.iload_n 1, 1) := by decide +kernel
theorem dX10_frogsOn_26 : decode cX10_frogsOn 26 = .ok (.invokevirtual 91, 3) := by decide +kernel
theorem dX10_frogsOn_29 : decode cX10_frogsOn 29 = .ok (.goto 4, 3) := by decide +kernel
theorem dX10_frogsOn_32 : decode cX10_frogsOn 32 = .ok (.iconst 0, 1) := by decide +kernel
theorem dX10_frogsOn_33 : decode cX10_frogsOn 33 = .ok (.ireturn, 1) := by decide +kernel
theorem dX10_padWeight_0 : decode cX10_padWeight 0 = .ok (.aload_n 0, 1) := by decide +kernel
theorem dX10_padWeight_1 : decode cX10_padWeight 1 = .ok (.aload_n 0, 1) := by decide +kernel
theorem dX10_padWeight_2 : decode cX10_padWeight 2 = .ok (.iload_n 1, 1) := by decide +kernel
theorem dX10_padWeight_3 : decode cX10_padWeight 3 = .ok (.invokevirtual 88, 3) := by decide +kernel
theorem dX10_padWeight_6 : decode cX10_padWeight 6 = .ok (.ifCond .eq 7, 3) := by decide +kernel
theorem dX10_padWeight_9 : decode cX10_padWeight 9 = .ok (.iconst 0, 1) := by decide +kernel
theorem dX10_padWeight_10 : decode cX10_padWeight 10 = .ok (.goto 4, 3) := by decide +kernel
theorem dX10_padWeight_13 : decode cX10_padWeight 13 = .ok (.iconst 1, 1) := by decide +kernel
theorem dX10_padWeight_14 : decode cX10_padWeight 14 = .ok (.putfield 44, 3) := by decide +kernel
theorem dX10_padWeight_17 : decode cX10_padWeight 17 = .ok (.iconst 0, 1) := by decide +kernel
theorem dX10_padWeight_18 : decode cX10_padWeight 18 = .ok (.istore_n 2, 1) := by decide +kernel
theorem dX10_padWeight_19 : decode cX10_padWeight 19 = .ok (.iconst 0, 1) := by decide +kernel
theorem dX10_padWeight_20 : decode cX10_padWeight 20 = .ok (.istore_n 3, 1) := by decide +kernel
theorem dX10_padWeight_21 : decode cX10_padWeight 21 = .ok (.iload_n 3, 1) := by decide +kernel
theorem dX10_padWeight_22 : decode cX10_padWeight 22 = .ok (.aload_n 0, 1) := by decide +kernel
theorem dX10_padWeight_23 : decode cX10_padWeight 23 = .ok (.getfield 16, 3) := by decide +kernel
theorem dX10_padWeight_26 : decode cX10_padWeight 26 = .ok (.iconst 0, 1) := by decide +kernel
theorem dX10_padWeight_27 : decode cX10_padWeight 27 = .ok (.iaload, 1) := by decide +kernel
theorem dX10_padWeight_28 : decode cX10_padWeight 28 = .ok (.if_icmp .ge 40, 3) := by decide +kernel
theorem dX10_padWeight_31 : decode cX10_padWeight 31 = .ok (.iload_n 2, 1) := by decide +kernel
theorem dX10_padWeight_32 : decode cX10_padWeight 32 = .ok (.aload_n 0, 1) := by decide +kernel
theorem dX10_padWeight_33 : decode cX10_padWeight 33 = .ok (.getfield 16, 3) := by decide +kernel
theorem dX10_padWeight_36 : decode cX10_padWeight 36 = .ok (.bipush 29, 2) := by decide +kernel
theorem dX10_padWeight_38 : decode cX10_padWeight 38 = .ok (.iload_n 3, 1) := by decide +kernel
theorem dX10_padWeight_39 : decode cX10_padWeight 39 = .ok (.iadd, 1) := by decide +kernel
theorem dX10_padWeight_40 : decode cX10_padWeight 40 = .ok (.iaload, 1) := by decide +kernel
theorem dX10_padWeight_41 : decode cX10_padWeight 41 = .ok (.iload_n 1, 1) := by decide +kernel
theorem dX10_padWeight_42 : decode cX10_padWeight 42 = .ok (.iconst 1, 1) := by decide +kernel
theorem dX10_padWeight_43 : decode cX10_padWeight 43 = .ok (.iadd, 1) := by decide +kernel
theorem dX10_padWeight_44 : decode cX10_padWeight 44 = .ok (.if_icmp .ne 15, 3) := by decide +kernel
theorem dX10_padWeight_47 : decode cX10_padWeight 47 = .ok (.aload_n 0, 1) := by decide +kernel
theorem dX10_padWeight_48 : decode cX10_padWeight 48 = .ok (.getfield 16, 3) := by decide +kernel
theorem dX10_padWeight_51 : decode cX10_padWeight 51 = .ok (.bipush 17, 2) := by decide +kernel
theorem dX10_padWeight_53 : decode cX10_padWeight 53 = .ok (.iload_n 3, 1) := by decide +kernel
theorem dX10_padWeight_54 : decode cX10_padWeight 54 = .ok (.iadd, 1) := by decide +kernel
theorem dX10_padWeight_55 : decode cX10_padWeight 55 = .ok (.iaload, 1) := by decide +kernel
theorem dX10_padWeight_56 : decode cX10_padWeight 56 = .ok (.goto 4, 3) := by decide +kernel
theorem dX10_padWeight_59 : decode cX10_padWeight 59 = .ok (.iconst 0, 1) := by decide +kernel
theorem dX10_padWeight_60 : decode cX10_padWeight 60 = .ok (.iadd, 1) := by decide +kernel
theorem dX10_padWeight_61 : decode cX10_padWeight 61 = .ok (.istore_n 2, 1) := by decide +kernel
theorem dX10_padWeight_62 : decode cX10_padWeight 62 = .ok (.iinc 3 1, 3) := by decide +kernel
theorem dX10_padWeight_65 : decode cX10_padWeight 65 = .ok (.goto (-44), 3) := by decide +kernel
theorem dX10_padWeight_68 : decode cX10_padWeight 68 = .ok (.aload_n 0, 1) := by decide +kernel
theorem dX10_padWeight_69 : decode cX10_padWeight 69 = .ok (.getfield 44, 3) := by decide +kernel
theorem dX10_padWeight_72 : decode cX10_padWeight 72 = .ok (.ifCond .ne 7, 3) := by decide +kernel
theorem dX10_padWeight_75 : decode cX10_padWeight 75 = .ok (.iload_n 2, 1) := by decide +kernel
theorem dX10_padWeight_76 : decode cX10_padWeight 76 = .ok (.goto 4, 3) := by decide +kernel
theorem dX10_padWeight_79 : decode cX10_padWeight 79 = .ok (.iconst 0, 1) := by decide +kernel
theorem dX10_padWeight_80 : decode cX10_padWeight 80 = .ok (.ireturn, 1) := by decide +kernel
theorem dX10_sitting_0 : decode cX10_sitting 0 = .ok (.iconst 0, 1) := by decide +kernel
theorem dX10_sitting_1 : decode cX10_sitting 1 = .ok (.istore_n 1, 1) := by decide +kernel
theorem dX10_sitting_2 : decode cX10_sitting 2 = .ok (.iconst 0, 1) := by decide +kernel
theorem dX10_sitting_3 : decode cX10_sitting 3 = .ok (.istore_n 2, 1) := by decide +kernel
theorem dX10_sitting_4 : decode cX10_sitting 4 = .ok (.iload_n 2, 1) := by decide +kernel
theorem dX10_sitting_5 : decode cX10_sitting 5 = .ok (.aload_n 0, 1) := by decide +kernel
theorem dX10_sitting_6 : decode cX10_sitting 6 = .ok (.getfield 16, 3) := by decide +kernel
theorem dX10_sitting_9 : decode cX10_sitting 9 = .ok (.iconst 0, 1) := by decide +kernel
theorem dX10_sitting_10 : decode cX10_sitting 10 = .ok (.iaload, 1) := by decide +kernel
theorem dX10_sitting_11 : decode cX10_sitting 11 = .ok (.if_icmp .ge 25, 3) := by decide +kernel
theorem dX10_sitting_14 : decode cX10_sitting 14 = .ok (.iload_n 1, 1) := by decide +kernel
theorem dX10_sitting_15 : decode cX10_sitting 15 = .ok (.aload_n 0, 1) := by decide +kernel
theorem dX10_sitting_16 : decode cX10_sitting 16 = .ok (.iload_n 2, 1) := by decide +kernel
theorem dX10_sitting_17 : decode cX10_sitting 17 = .ok (.invokevirtual 97, 3) := by decide +kernel
theorem dX10_sitting_20 : decode cX10_sitting 20 = .ok (.ifCond .eq 7, 3) := by decide +kernel
theorem dX10_sitting_23 : decode cX10_sitting 23 = .ok (.iconst 1, 1) := by decide +kernel
theorem dX10_sitting_24 : decode cX10_sitting 24 = .ok (.goto 4, 3) := by decide +kernel
theorem dX10_sitting_27 : decode cX10_sitting 27 = .ok (.iconst 0, 1) := by decide +kernel
theorem dX10_sitting_28 : decode cX10_sitting 28 = .ok (.iadd, 1) := by decide +kernel
theorem dX10_sitting_29 : decode cX10_sitting 29 = .ok (.istore_n 1, 1) := by decide +kernel
theorem dX10_sitting_30 : decode cX10_sitting 30 = .ok (.iinc 2 1, 3) := by decide +kernel
theorem dX10_sitting_33 : decode cX10_sitting 33 = .ok (.goto (-29), 3) := by decide +kernel
theorem dX10_sitting_36 : decode cX10_sitting 36 = .ok (.iload_n 1, 1) := by decide +kernel
theorem dX10_sitting_37 : decode cX10_sitting 37 = .ok (.ireturn, 1) := by decide +kernel
theorem dX10_sittingCount_0 : decode cX10_sittingCount 0 = .ok (.aload_n 0, 1) := by decide +kernel
theorem dX10_sittingCount_1 : decode cX10_sittingCount 1 = .ok (.iconst 0, 1) := by decide +kernel
theorem dX10_sittingCount_2 : decode cX10_sittingCount 2 = .ok (.putfield 44, 3) := by decide +kernel
theorem dX10_sittingCount_5 : decode cX10_sittingCount 5 = .ok (.aload_n 0, 1) := by decide +kernel
theorem dX10_sittingCount_6 : decode cX10_sittingCount 6 = .ok (.invokevirtual 109, 3) := by decide +kernel
theorem dX10_sittingCount_9 : decode cX10_sittingCount 9 = .ok (.ireturn, 1) := by decide +kernel
theorem dX10_sittingCountBySet_0 : decode cX10_sittingCountBySet 0 = .ok (.aload_n 0, 1) := by decide +kernel
theorem dX10_sittingCountBySet_1 : decode cX10_sittingCountBySet 1 = .ok (.iconst 0, 1) := by decide +kernel
theorem dX10_sittingCountBySet_2 : decode cX10_sittingCountBySet 2 = .ok (.putfield 44, 3) := by decide +kernel
theorem dX10_sittingCountBySet_5 : decode cX10_sittingCountBySet 5 = .ok (.aload_n 0, 1) := by decide +kernel
theorem dX10_sittingCountBySet_6 : decode cX10_sittingCountBySet 6 = .ok (.invokevirtual 109, 3) := by decide +kernel
theorem dX10_sittingCountBySet_9 : decode cX10_sittingCountBySet 9 = .ok (.ireturn, 1) := by decide +kernel
theorem dX10_moves_0 : decode cX10_moves 0 = .ok (.iload_n 1, 1) := by decide +kernel
theorem dX10_moves_1 : decode cX10_moves 1 = .ok (.iconst 1, 1) := by decide +kernel
theorem dX10_moves_2 : decode cX10_moves 2 = .ok (.bipush 15, 2) := by decide +kernel
theorem dX10_moves_4 : decode cX10_moves 4 = .ok (.invokestatic 54, 3) := by decide +kernel
theorem dX10_moves_7 : decode cX10_moves 7 = .ok (.ifCond .ne 9, 3) := by decide +kernel
theorem dX10_moves_10 : decode cX10_moves 10 = .ok (.aload_n 0, 1) := by decide +kernel
theorem dX10_moves_11 : decode cX10_moves 11 = .ok (.iconst 1, 1) := by decide +kernel
theorem dX10_moves_12 : decode cX10_moves 12 = .ok (.invokevirtual 72, 3) := by decide +kernel
theorem dX10_moves_15 : decode cX10_moves 15 = .ok (.ireturn, 1) := by decide +kernel
theorem dX10_moves_16 : decode cX10_moves 16 = .ok (.aload_n 0, 1) := by decide +kernel
theorem dX10_moves_17 : decode cX10_moves 17 = .ok (.getfield 16, 3) := by decide +kernel
theorem dX10_moves_20 : decode cX10_moves 20 = .ok (.iconst 2, 1) := by decide +kernel
theorem dX10_moves_21 : decode cX10_moves 21 = .ok (.iaload, 1) := by decide +kernel
theorem dX10_moves_22 : decode cX10_moves 22 = .ok (.istore_n 2, 1) := by decide +kernel
theorem dX10_moves_23 : decode cX10_moves 23 = .ok (.iload_n 2, 1) := by decide +kernel
theorem dX10_moves_24 : decode cX10_moves 24 = .ok (.bipush 6, 2) := by decide +kernel
theorem dX10_moves_26 : decode cX10_moves 26 = .ok (.if_icmp .ne 9, 3) := by decide +kernel
theorem dX10_moves_29 : decode cX10_moves 29 = .ok (.aload_n 0, 1) := by decide +kernel
theorem dX10_moves_30 : decode cX10_moves 30 = .ok (.iconst 2, 1) := by decide +kernel
theorem dX10_moves_31 : decode cX10_moves 31 = .ok (.invokevirtual 72, 3) := by decide +kernel
theorem dX10_moves_34 : decode cX10_moves 34 = .ok (.ireturn, 1) := by decide +kernel
theorem dX10_moves_35 : decode cX10_moves 35 = .ok (.aload_n 0, 1) := by decide +kernel
theorem dX10_moves_36 : decode cX10_moves 36 = .ok (.getfield 16, 3) := by decide +kernel
theorem dX10_moves_39 : decode cX10_moves 39 = .ok (.iload_n 2, 1) := by decide +kernel
theorem dX10_moves_40 : decode cX10_moves 40 = .ok (.iconst 0, 1) := by decide +kernel
theorem dX10_moves_41 : decode cX10_moves 41 = .ok (.invokestatic 65, 3) := by decide +kernel
theorem dX10_moves_44 : decode cX10_moves 44 = .ok (.iload_n 1, 1) := by decide +kernel
theorem dX10_moves_45 : decode cX10_moves 45 = .ok (.iastore, 1) := by decide +kernel
theorem dX10_moves_46 : decode cX10_moves 46 = .ok (.aload_n 0, 1) := by decide +kernel
theorem dX10_moves_47 : decode cX10_moves 47 = .ok (.getfield 16, 3) := by decide +kernel
theorem dX10_moves_50 : decode cX10_moves 50 = .ok (.iconst 2, 1) := by decide +kernel
theorem dX10_moves_51 : decode cX10_moves 51 = .ok (.dup2, 1) := by decide +kernel
theorem dX10_moves_52 : decode cX10_moves 52 = .ok (.iaload, 1) := by decide +kernel
theorem dX10_moves_53 : decode cX10_moves 53 = .ok (.iconst 1, 1) := by decide +kernel
theorem dX10_moves_54 : decode cX10_moves 54 = .ok (.iadd, 1) := by decide +kernel
theorem dX10_moves_55 : decode cX10_moves 55 = .ok (.iastore, 1) := by decide +kernel
theorem dX10_moves_56 : decode cX10_moves 56 = .ok (.iload_n 2, 1) := by decide +kernel
theorem dX10_moves_57 : decode cX10_moves 57 = .ok (.ireturn, 1) := by decide +kernel
theorem dX10_addMotion_0 : decode cX10_addMotion 0 = .ok (.aload_n 0, 1) := by decide +kernel
theorem dX10_addMotion_1 : decode cX10_addMotion 1 = .ok (.invokevirtual 76, 3) := by decide +kernel
theorem dX10_addMotion_4 : decode cX10_addMotion 4 = .ok (.aload_n 0, 1) := by decide +kernel
theorem dX10_addMotion_5 : decode cX10_addMotion 5 = .ok (.aload_n 0, 1) := by decide +kernel
theorem dX10_addMotion_6 : decode cX10_addMotion 6 = .ok (.iload_n 1, 1) := by decide +kernel
theorem dX10_addMotion_7 : decode cX10_addMotion 7 = .ok (.invokevirtual 113, 3) := by decide +kernel
theorem dX10_addMotion_10 : decode cX10_addMotion 10 = .ok (.invokevirtual 82, 3) := by decide +kernel
theorem dX10_addMotion_13 : decode cX10_addMotion 13 = .ok (.ireturn, 1) := by decide +kernel
theorem dX10_motionCount_0 : decode cX10_motionCount 0 = .ok (.aload_n 0, 1) := by decide +kernel
theorem dX10_motionCount_1 : decode cX10_motionCount 1 = .ok (.iconst 2, 1) := by decide +kernel
theorem dX10_motionCount_2 : decode cX10_motionCount 2 = .ok (.invokevirtual 103, 3) := by decide +kernel
theorem dX10_motionCount_5 : decode cX10_motionCount 5 = .ok (.ireturn, 1) := by decide +kernel
theorem dX10_isEntitled_0 : decode cX10_isEntitled 0 = .ok (.aload_n 0, 1) := by decide +kernel
theorem dX10_isEntitled_1 : decode cX10_isEntitled 1 = .ok (.aload_n 0, 1) := by decide +kernel
theorem dX10_isEntitled_2 : decode cX10_isEntitled 2 = .ok (.iload_n 1, 1) := by decide +kernel
theorem dX10_isEntitled_3 : decode cX10_isEntitled 3 = .ok (.iload_n 2, 1) := by decide +kernel
theorem dX10_isEntitled_4 : decode cX10_isEntitled 4 = .ok (.invokevirtual 116, 3) := by decide +kernel
theorem dX10_isEntitled_7 : decode cX10_isEntitled 7 = .ok (.ifCond .eq 7, 3) := by decide +kernel
theorem dX10_isEntitled_10 : decode cX10_isEntitled 10 = .ok (.iconst 0, 1) := by decide +kernel
theorem dX10_isEntitled_11 : decode cX10_isEntitled 11 = .ok (.goto 4, 3) := by decide +kernel
theorem dX10_isEntitled_14 : decode cX10_isEntitled 14 = .ok (.iconst 1, 1) := by decide +kernel
theorem dX10_isEntitled_15 : decode cX10_isEntitled 15 = .ok (.putfield 44, 3) := by decide +kernel
theorem dX10_isEntitled_18 : decode cX10_isEntitled 18 = .ok (.aload_n 0, 1) := by decide +kernel
theorem dX10_isEntitled_19 : decode cX10_isEntitled 19 = .ok (.getfield 44, 3) := by decide +kernel
theorem dX10_isEntitled_22 : decode cX10_isEntitled 22 = .ok (.ifCond .ne 16, 3) := by decide +kernel
theorem dX10_isEntitled_25 : decode cX10_isEntitled 25 = .ok (.aload_n 0, 1) := by decide +kernel
theorem dX10_isEntitled_26 : decode cX10_isEntitled 26 = .ok (.iload_n 1, 1) := by decide +kernel
theorem dX10_isEntitled_27 : decode cX10_isEntitled 27 = .ok (.iload_n 2, 1) := by decide +kernel
theorem dX10_isEntitled_28 : decode cX10_isEntitled 28 = .ok (.invokevirtual 120, 3) := by decide +kernel
theorem dX10_isEntitled_31 : decode cX10_isEntitled 31 = .ok (.ifCond .eq 7, 3) := by decide +kernel
theorem dX10_isEntitled_34 : decode cX10_isEntitled 34 = .ok (.iconst 1, 1) := by decide +kernel
theorem dX10_isEntitled_35 : decode cX10_isEntitled 35 = .ok (.goto 4, 3) := by decide +kernel
theorem dX10_isEntitled_38 : decode cX10_isEntitled 38 = .ok (.iconst 0, 1) := by decide +kernel
theorem dX10_isEntitled_39 : decode cX10_isEntitled 39 = .ok (.ireturn, 1) := by decide +kernel
theorem dX10_isShut_0 : decode cX10_isShut 0 = .ok (.aload_n 0, 1) := by decide +kernel
theorem dX10_isShut_1 : decode cX10_isShut 1 = .ok (.getfield 16, 3) := by decide +kernel
theorem dX10_isShut_4 : decode cX10_isShut 4 = .ok (.iload_n 1, 1) := by decide +kernel
theorem dX10_isShut_5 : decode cX10_isShut 5 = .ok (.iconst 2, 1) := by decide +kernel
theorem dX10_isShut_6 : decode cX10_isShut 6 = .ok (.invokestatic 65, 3) := by decide +kernel
theorem dX10_isShut_9 : decode cX10_isShut 9 = .ok (.iaload, 1) := by decide +kernel
theorem dX10_isShut_10 : decode cX10_isShut 10 = .ok (.iconst 1, 1) := by decide +kernel
theorem dX10_isShut_11 : decode cX10_isShut 11 = .ok (.if_icmp .eq 17, 3) := by decide +kernel
theorem dX10_isShut_14 : decode cX10_isShut 14 = .ok (.aload_n 0, 1) := by decide +kernel
theorem dX10_isShut_15 : decode cX10_isShut 15 = .ok (.getfield 16, 3) := by decide +kernel
theorem dX10_isShut_18 : decode cX10_isShut 18 = .ok (.iload_n 1, 1) := by decide +kernel
theorem dX10_isShut_19 : decode cX10_isShut 19 = .ok (.iconst 1, 1) := by decide +kernel
theorem dX10_isShut_20 : decode cX10_isShut 20 = .ok (.invokestatic 65, 3) := by decide +kernel
theorem dX10_isShut_23 : decode cX10_isShut 23 = .ok (.iaload, 1) := by decide +kernel
theorem dX10_isShut_24 : decode cX10_isShut 24 = .ok (.iconst 1, 1) := by decide +kernel
theorem dX10_isShut_25 : decode cX10_isShut 25 = .ok (.if_icmp .ne 7, 3) := by decide +kernel
theorem dX10_isShut_28 : decode cX10_isShut 28 = .ok (.iconst 1, 1) := by decide +kernel
theorem dX10_isShut_29 : decode cX10_isShut 29 = .ok (.goto 4, 3) := by decide +kernel
theorem dX10_isShut_32 : decode cX10_isShut 32 = .ok (.iconst 0, 1) := by decide +kernel
theorem dX10_isShut_33 : decode cX10_isShut 33 = .ok (.ireturn, 1) := by decide +kernel
theorem dX10_signs_0 : decode cX10_signs 0 = .ok (.aload_n 0, 1) := by decide +kernel
theorem dX10_signs_1 : decode cX10_signs 1 = .ok (.iload_n 1, 1) := by decide +kernel
theorem dX10_signs_2 : decode cX10_signs 2 = .ok (.iload_n 2, 1) := by decide +kernel
theorem dX10_signs_3 : decode cX10_signs 3 = .ok (.invokevirtual 116, 3) := by decide +kernel
theorem dX10_signs_6 : decode cX10_signs 6 = .ok (.ifCond .ne 9, 3) := by decide +kernel
theorem dX10_signs_9 : decode cX10_signs 9 = .ok (.aload_n 0, 1) := by decide +kernel
theorem dX10_signs_10 : decode cX10_signs 10 = .ok (.iconst 1, 1) := by decide +kernel
theorem dX10_signs_11 : decode cX10_signs 11 = .ok (.invokevirtual 72, 3) := by decide +kernel
theorem dX10_signs_14 : decode cX10_signs 14 = .ok (.ireturn, 1) := by decide +kernel
theorem dX10_signs_15 : decode cX10_signs 15 = .ok (.aload_n 0, 1) := by decide +kernel
theorem dX10_signs_16 : decode cX10_signs 16 = .ok (.iload_n 1, 1) := by decide +kernel
theorem dX10_signs_17 : decode cX10_signs 17 = .ok (.iload_n 2, 1) := by decide +kernel
theorem dX10_signs_18 : decode cX10_signs 18 = .ok (.invokevirtual 120, 3) := by decide +kernel
theorem dX10_signs_21 : decode cX10_signs 21 = .ok (.ifCond .ne 9, 3) := by decide +kernel
theorem dX10_signs_24 : decode cX10_signs 24 = .ok (.aload_n 0, 1) := by decide +kernel
theorem dX10_signs_25 : decode cX10_signs 25 = .ok (.iconst 2, 1) := by decide +kernel
theorem dX10_signs_26 : decode cX10_signs 26 = .ok (.invokevirtual 72, 3) := by decide +kernel
theorem dX10_signs_29 : decode cX10_signs 29 = .ok (.ireturn, 1) := by decide +kernel
theorem dX10_signs_30 : decode cX10_signs 30 = .ok (.aload_n 0, 1) := by decide +kernel
theorem dX10_signs_31 : decode cX10_signs 31 = .ok (.iload_n 1, 1) := by decide +kernel
theorem dX10_signs_32 : decode cX10_signs 32 = .ok (.invokevirtual 123, 3) := by decide +kernel
theorem dX10_signs_35 : decode cX10_signs 35 = .ok (.ifCond .eq 9, 3) := by decide +kernel
theorem dX10_signs_38 : decode cX10_signs 38 = .ok (.aload_n 0, 1) := by decide +kernel
theorem dX10_signs_39 : decode cX10_signs 39 = .ok (.iconst 3, 1) := by decide +kernel
theorem dX10_signs_40 : decode cX10_signs 40 = .ok (.invokevirtual 72, 3) := by decide +kernel
theorem dX10_signs_43 : decode cX10_signs 43 = .ok (.ireturn, 1) := by decide +kernel
theorem dX10_signs_44 : decode cX10_signs 44 = .ok (.aload_n 0, 1) := by decide +kernel
theorem dX10_signs_45 : decode cX10_signs 45 = .ok (.iload_n 1, 1) := by decide +kernel
theorem dX10_signs_46 : decode cX10_signs 46 = .ok (.iload_n 2, 1) := by decide +kernel
theorem dX10_signs_47 : decode cX10_signs 47 = .ok (.invokevirtual 126, 3) := by decide +kernel
theorem dX10_signs_50 : decode cX10_signs 50 = .ok (.ifCond .lt 9, 3) := by decide +kernel
theorem dX10_signs_53 : decode cX10_signs 53 = .ok (.aload_n 0, 1) := by decide +kernel
theorem dX10_signs_54 : decode cX10_signs 54 = .ok (.iconst 4, 1) := by decide +kernel
theorem dX10_signs_55 : decode cX10_signs 55 = .ok (.invokevirtual 72, 3) := by decide +kernel
theorem dX10_signs_58 : decode cX10_signs 58 = .ok (.ireturn, 1) := by decide +kernel
theorem dX10_signs_59 : decode cX10_signs 59 = .ok (.aload_n 0, 1) := by decide +kernel
theorem dX10_signs_60 : decode cX10_signs 60 = .ok (.getfield 16, 3) := by decide +kernel
theorem dX10_signs_63 : decode cX10_signs 63 = .ok (.iload_n 1, 1) := by decide +kernel
theorem dX10_signs_64 : decode cX10_signs 64 = .ok (.aload_n 0, 1) := by decide +kernel
theorem dX10_signs_65 : decode cX10_signs 65 = .ok (.getfield 16, 3) := by decide +kernel
theorem dX10_signs_68 : decode cX10_signs 68 = .ok (.iload_n 1, 1) := by decide +kernel
theorem dX10_signs_69 : decode cX10_signs 69 = .ok (.iconst 5, 1) := by decide +kernel
theorem dX10_signs_70 : decode cX10_signs 70 = .ok (.invokestatic 65, 3) := by decide +kernel
theorem dX10_signs_73 : decode cX10_signs 73 = .ok (.iaload, 1) := by decide +kernel
theorem dX10_signs_74 : decode cX10_signs 74 = .ok (.invokestatic 69, 3) := by decide +kernel
theorem dX10_signs_77 : decode cX10_signs 77 = .ok (.iload_n 2, 1) := by decide +kernel
theorem dX10_signs_78 : decode cX10_signs 78 = .ok (.iastore, 1) := by decide +kernel
theorem dX10_signs_79 : decode cX10_signs 79 = .ok (.aload_n 0, 1) := by decide +kernel
theorem dX10_signs_80 : decode cX10_signs 80 = .ok (.getfield 16, 3) := by decide +kernel
theorem dX10_signs_83 : decode cX10_signs 83 = .ok (.iload_n 1, 1) := by decide +kernel
theorem dX10_signs_84 : decode cX10_signs 84 = .ok (.iconst 5, 1) := by decide +kernel
theorem dX10_signs_85 : decode cX10_signs 85 = .ok (.invokestatic 65, 3) := by decide +kernel
theorem dX10_signs_88 : decode cX10_signs 88 = .ok (.dup2, 1) := by decide +kernel
theorem dX10_signs_89 : decode cX10_signs 89 = .ok (.iaload, 1) := by decide +kernel
theorem dX10_signs_90 : decode cX10_signs 90 = .ok (.iconst 1, 1) := by decide +kernel
theorem dX10_signs_91 : decode cX10_signs 91 = .ok (.iadd, 1) := by decide +kernel
theorem dX10_signs_92 : decode cX10_signs 92 = .ok (.iastore, 1) := by decide +kernel
theorem dX10_signs_93 : decode cX10_signs 93 = .ok (.aload_n 0, 1) := by decide +kernel
theorem dX10_signs_94 : decode cX10_signs 94 = .ok (.getfield 16, 3) := by decide +kernel
theorem dX10_signs_97 : decode cX10_signs 97 = .ok (.iload_n 1, 1) := by decide +kernel
theorem dX10_signs_98 : decode cX10_signs 98 = .ok (.iconst 5, 1) := by decide +kernel
theorem dX10_signs_99 : decode cX10_signs 99 = .ok (.invokestatic 65, 3) := by decide +kernel
theorem dX10_signs_102 : decode cX10_signs 102 = .ok (.iaload, 1) := by decide +kernel
theorem dX10_signs_103 : decode cX10_signs 103 = .ok (.ireturn, 1) := by decide +kernel
theorem dX10_signUp_0 : decode cX10_signUp 0 = .ok (.aload_n 0, 1) := by decide +kernel
theorem dX10_signUp_1 : decode cX10_signUp 1 = .ok (.invokevirtual 76, 3) := by decide +kernel
theorem dX10_signUp_4 : decode cX10_signUp 4 = .ok (.aload_n 0, 1) := by decide +kernel
theorem dX10_signUp_5 : decode cX10_signUp 5 = .ok (.aload_n 0, 1) := by decide +kernel
theorem dX10_signUp_6 : decode cX10_signUp 6 = .ok (.iload_n 1, 1) := by decide +kernel
theorem dX10_signUp_7 : decode cX10_signUp 7 = .ok (.iload_n 2, 1) := by decide +kernel
theorem dX10_signUp_8 : decode cX10_signUp 8 = .ok (.invokevirtual 129, 3) := by decide +kernel
theorem dX10_signUp_11 : decode cX10_signUp 11 = .ok (.invokevirtual 82, 3) := by decide +kernel
theorem dX10_signUp_14 : decode cX10_signUp 14 = .ok (.ireturn, 1) := by decide +kernel
theorem dX10_takes_0 : decode cX10_takes 0 = .ok (.aload_n 0, 1) := by decide +kernel
theorem dX10_takes_1 : decode cX10_takes 1 = .ok (.getfield 16, 3) := by decide +kernel
theorem dX10_takes_4 : decode cX10_takes 4 = .ok (.iload_n 1, 1) := by decide +kernel
theorem dX10_takes_5 : decode cX10_takes 5 = .ok (.iconst 5, 1) := by decide +kernel
theorem dX10_takes_6 : decode cX10_takes 6 = .ok (.invokestatic 65, 3) := by decide +kernel
theorem dX10_takes_9 : decode cX10_takes 9 = .ok (.dup2, 1) := by decide +kernel
theorem dX10_takes_10 : decode cX10_takes 10 = .ok (.iaload, 1) := by decide +kernel
theorem dX10_takes_11 : decode cX10_takes 11 = .ok (.iconst 1, 1) := by decide +kernel
theorem dX10_takes_12 : decode cX10_takes 12 = .ok (.isub, 1) := by decide +kernel
theorem dX10_takes_13 : decode cX10_takes 13 = .ok (.iastore, 1) := by decide +kernel
theorem dX10_takes_14 : decode cX10_takes 14 = .ok (.iload_n 2, 1) := by decide +kernel
theorem dX10_takes_15 : decode cX10_takes 15 = .ok (.istore_n 3, 1) := by decide +kernel
theorem dX10_takes_16 : decode cX10_takes 16 = .ok (.iload_n 3, 1) := by decide +kernel
theorem dX10_takes_17 : decode cX10_takes 17 = .ok (.aload_n 0, 1) := by decide +kernel
theorem dX10_takes_18 : decode cX10_takes 18 = .ok (.getfield 16, 3) := by decide +kernel
theorem dX10_takes_21 : decode cX10_takes 21 = .ok (.iload_n 1, 1) := by decide +kernel
theorem dX10_takes_22 : decode cX10_takes 22 = .ok (.iconst 5, 1) := by decide +kernel
theorem dX10_takes_23 : decode cX10_takes 23 = .ok (.invokestatic 65, 3) := by decide +kernel
theorem dX10_takes_26 : decode cX10_takes 26 = .ok (.iaload, 1) := by decide +kernel
theorem dX10_takes_27 : decode cX10_takes 27 = .ok (.if_icmp .ge 31, 3) := by decide +kernel
theorem dX10_takes_30 : decode cX10_takes 30 = .ok (.aload_n 0, 1) := by decide +kernel
theorem dX10_takes_31 : decode cX10_takes 31 = .ok (.getfield 16, 3) := by decide +kernel
theorem dX10_takes_34 : decode cX10_takes 34 = .ok (.iload_n 1, 1) := by decide +kernel
theorem dX10_takes_35 : decode cX10_takes 35 = .ok (.iload_n 3, 1) := by decide +kernel
theorem dX10_takes_36 : decode cX10_takes 36 = .ok (.invokestatic 69, 3) := by decide +kernel
theorem dX10_takes_39 : decode cX10_takes 39 = .ok (.aload_n 0, 1) := by decide +kernel
theorem dX10_takes_40 : decode cX10_takes 40 = .ok (.getfield 16, 3) := by decide +kernel
theorem dX10_takes_43 : decode cX10_takes 43 = .ok (.iload_n 1, 1) := by decide +kernel
theorem dX10_takes_44 : decode cX10_takes 44 = .ok (.iload_n 3, 1) := by decide +kernel
theorem dX10_takes_45 : decode cX10_takes 45 = .ok (.iconst 1, 1) := by decide +kernel
theorem dX10_takes_46 : decode cX10_takes 46 = .ok (.iadd, 1) := by decide +kernel
theorem dX10_takes_47 : decode cX10_takes 47 = .ok (.invokestatic 69, 3) := by decide +kernel
theorem dX10_takes_50 : decode cX10_takes 50 = .ok (.iaload, 1) := by decide +kernel
theorem dX10_takes_51 : decode cX10_takes 51 = .ok (.iastore, 1) := by decide +kernel
theorem dX10_takes_52 : decode cX10_takes 52 = .ok (.iinc 3 1, 3) := by decide +kernel
theorem dX10_takes_55 : decode cX10_takes 55 = .ok (.goto (-39), 3) := by decide +kernel
theorem dX10_takes_58 : decode cX10_takes 58 = .ok (.aload_n 0, 1) := by decide +kernel
theorem dX10_takes_59 : decode cX10_takes 59 = .ok (.getfield 16, 3) := by decide +kernel
theorem dX10_takes_62 : decode cX10_takes 62 = .ok (.iload_n 1, 1) := by decide +kernel
theorem dX10_takes_63 : decode cX10_takes 63 = .ok (.aload_n 0, 1) := by decide +kernel
theorem dX10_takes_64 : decode cX10_takes 64 = .ok (.getfield 16, 3) := by decide +kernel
theorem dX10_takes_67 : decode cX10_takes 67 = .ok (.iload_n 1, 1) := by decide +kernel
theorem dX10_takes_68 : decode cX10_takes 68 = .ok (.iconst 5, 1) := by decide +kernel
theorem dX10_takes_69 : decode cX10_takes 69 = .ok (.invokestatic 65, 3) := by decide +kernel
theorem dX10_takes_72 : decode cX10_takes 72 = .ok (.iaload, 1) := by decide +kernel
theorem dX10_takes_73 : decode cX10_takes 73 = .ok (.invokestatic 69, 3) := by decide +kernel
theorem dX10_takes_76 : decode cX10_takes 76 = .ok (.iconst 0, 1) := by decide +kernel
theorem dX10_takes_77 : decode cX10_takes 77 = .ok (.iastore, 1) := by decide +kernel
theorem dX10_takes_78 : decode cX10_takes 78 = .ok (.return_, 1) := by decide +kernel
theorem dX10_strikes_0 : decode cX10_strikes 0 = .ok (.aload_n 0, 1) := by decide +kernel
theorem dX10_strikes_1 : decode cX10_strikes 1 = .ok (.iload_n 1, 1) := by decide +kernel
theorem dX10_strikes_2 : decode cX10_strikes 2 = .ok (.iload_n 2, 1) := by decide +kernel
theorem dX10_strikes_3 : decode cX10_strikes 3 = .ok (.invokevirtual 116, 3) := by decide +kernel
theorem dX10_strikes_6 : decode cX10_strikes 6 = .ok (.ifCond .ne 9, 3) := by decide +kernel
theorem dX10_strikes_9 : decode cX10_strikes 9 = .ok (.aload_n 0, 1) := by decide +kernel
theorem dX10_strikes_10 : decode cX10_strikes 10 = .ok (.iconst 1, 1) := by decide +kernel
theorem dX10_strikes_11 : decode cX10_strikes 11 = .ok (.invokevirtual 72, 3) := by decide +kernel
theorem dX10_strikes_14 : decode cX10_strikes 14 = .ok (.ireturn, 1) := by decide +kernel
theorem dX10_strikes_15 : decode cX10_strikes 15 = .ok (.aload_n 0, 1) := by decide +kernel
theorem dX10_strikes_16 : decode cX10_strikes 16 = .ok (.iload_n 1, 1) := by decide +kernel
theorem dX10_strikes_17 : decode cX10_strikes 17 = .ok (.iload_n 2, 1) := by decide +kernel
theorem dX10_strikes_18 : decode cX10_strikes 18 = .ok (.invokevirtual 126, 3) := by decide +kernel
theorem dX10_strikes_21 : decode cX10_strikes 21 = .ok (.istore_n 3, 1) := by decide +kernel
theorem dX10_strikes_22 : decode cX10_strikes 22 = .ok (.iload_n 3, 1) := by decide +kernel
theorem dX10_strikes_23 : decode cX10_strikes 23 = .ok (.ifCond .ge 9, 3) := by decide +kernel
theorem dX10_strikes_26 : decode cX10_strikes 26 = .ok (.aload_n 0, 1) := by decide +kernel
theorem dX10_strikes_27 : decode cX10_strikes 27 = .ok (.iconst 2, 1) := by decide +kernel
theorem dX10_strikes_28 : decode cX10_strikes 28 = .ok (.invokevirtual 72, 3) := by decide +kernel
theorem dX10_strikes_31 : decode cX10_strikes 31 = .ok (.ireturn, 1) := by decide +kernel
theorem dX10_strikes_32 : decode cX10_strikes 32 = .ok (.aload_n 0, 1) := by decide +kernel
theorem dX10_strikes_33 : decode cX10_strikes 33 = .ok (.iload_n 1, 1) := by decide +kernel
theorem dX10_strikes_34 : decode cX10_strikes 34 = .ok (.iload_n 3, 1) := by decide +kernel
theorem dX10_strikes_35 : decode cX10_strikes 35 = .ok (.invokevirtual 132, 3) := by decide +kernel
theorem dX10_strikes_38 : decode cX10_strikes 38 = .ok (.aload_n 0, 1) := by decide +kernel
theorem dX10_strikes_39 : decode cX10_strikes 39 = .ok (.getfield 16, 3) := by decide +kernel
theorem dX10_strikes_42 : decode cX10_strikes 42 = .ok (.iload_n 1, 1) := by decide +kernel
theorem dX10_strikes_43 : decode cX10_strikes 43 = .ok (.iconst 5, 1) := by decide +kernel
theorem dX10_strikes_44 : decode cX10_strikes 44 = .ok (.invokestatic 65, 3) := by decide +kernel
theorem dX10_strikes_47 : decode cX10_strikes 47 = .ok (.iaload, 1) := by decide +kernel
theorem dX10_strikes_48 : decode cX10_strikes 48 = .ok (.ireturn, 1) := by decide +kernel
theorem dX10_strike_0 : decode cX10_strike 0 = .ok (.aload_n 0, 1) := by decide +kernel
theorem dX10_strike_1 : decode cX10_strike 1 = .ok (.invokevirtual 76, 3) := by decide +kernel
theorem dX10_strike_4 : decode cX10_strike 4 = .ok (.aload_n 0, 1) := by decide +kernel
theorem dX10_strike_5 : decode cX10_strike 5 = .ok (.aload_n 0, 1) := by decide +kernel
theorem dX10_strike_6 : decode cX10_strike 6 = .ok (.iload_n 1, 1) := by decide +kernel
theorem dX10_strike_7 : decode cX10_strike 7 = .ok (.iload_n 2, 1) := by decide +kernel
theorem dX10_strike_8 : decode cX10_strike 8 = .ok (.invokevirtual 136, 3) := by decide +kernel
theorem dX10_strike_11 : decode cX10_strike 11 = .ok (.invokevirtual 82, 3) := by decide +kernel
theorem dX10_strike_14 : decode cX10_strike 14 = .ok (.ireturn, 1) := by decide +kernel
theorem dX10_ahead_0 : decode cX10_ahead 0 = .ok (.aload_n 0, 1) := by decide +kernel
theorem dX10_ahead_1 : decode cX10_ahead 1 = .ok (.getfield 16, 3) := by decide +kernel
theorem dX10_ahead_4 : decode cX10_ahead 4 = .ok (.bipush 41, 2) := by decide +kernel
theorem dX10_ahead_6 : decode cX10_ahead 6 = .ok (.aload_n 0, 1) := by decide +kernel
theorem dX10_ahead_7 : decode cX10_ahead 7 = .ok (.getfield 16, 3) := by decide +kernel
theorem dX10_ahead_10 : decode cX10_ahead 10 = .ok (.iload_n 1, 1) := by decide +kernel
theorem dX10_ahead_11 : decode cX10_ahead 11 = .ok (.iload_n 2, 1) := by decide +kernel
theorem dX10_ahead_12 : decode cX10_ahead 12 = .ok (.invokestatic 69, 3) := by decide +kernel
theorem dX10_ahead_15 : decode cX10_ahead 15 = .ok (.iaload, 1) := by decide +kernel
theorem dX10_ahead_16 : decode cX10_ahead 16 = .ok (.iadd, 1) := by decide +kernel
theorem dX10_ahead_17 : decode cX10_ahead 17 = .ok (.iaload, 1) := by decide +kernel
theorem dX10_ahead_18 : decode cX10_ahead 18 = .ok (.istore_n 3, 1) := by decide +kernel
theorem dX10_ahead_19 : decode cX10_ahead 19 = .ok (.iconst 0, 1) := by decide +kernel
theorem dX10_ahead_20 : decode cX10_ahead 20 = .ok (.istore 4, 2) := by decide +kernel
theorem dX10_ahead_22 : decode cX10_ahead 22 = .ok (.iconst 0, 1) := by decide +kernel
theorem dX10_ahead_23 : decode cX10_ahead 23 = .ok (.istore 5, 2) := by decide +kernel
theorem dX10_ahead_25 : decode cX10_ahead 25 = .ok (.iload 5, 2) := by decide +kernel
theorem dX10_ahead_27 : decode cX10_ahead 27 = .ok (.aload_n 0, 1) := by decide +kernel
theorem dX10_ahead_28 : decode cX10_ahead 28 = .ok (.getfield 16, 3) := by decide +kernel
theorem dX10_ahead_31 : decode cX10_ahead 31 = .ok (.iload_n 1, 1) := by decide +kernel
theorem dX10_ahead_32 : decode cX10_ahead 32 = .ok (.iconst 5, 1) := by decide +kernel
theorem dX10_ahead_33 : decode cX10_ahead 33 = .ok (.invokestatic 65, 3) := by decide +kernel
theorem dX10_ahead_36 : decode cX10_ahead 36 = .ok (.iaload, 1) := by decide +kernel
theorem dX10_ahead_37 : decode cX10_ahead 37 = .ok (.if_icmp .ge 58, 3) := by decide +kernel
theorem dX10_ahead_40 : decode cX10_ahead 40 = .ok (.aload_n 0, 1) := by decide +kernel
theorem dX10_ahead_41 : decode cX10_ahead 41 = .ok (.getfield 16, 3) := by decide +kernel
theorem dX10_ahead_44 : decode cX10_ahead 44 = .ok (.bipush 41, 2) := by decide +kernel
theorem dX10_ahead_46 : decode cX10_ahead 46 = .ok (.aload_n 0, 1) := by decide +kernel
theorem dX10_ahead_47 : decode cX10_ahead 47 = .ok (.getfield 16, 3) := by decide +kernel
theorem dX10_ahead_50 : decode cX10_ahead 50 = .ok (.iload_n 1, 1) := by decide +kernel
theorem dX10_ahead_51 : decode cX10_ahead 51 = .ok (.iload 5, 2) := by decide +kernel
theorem dX10_ahead_53 : decode cX10_ahead 53 = .ok (.invokestatic 69, 3) := by decide +kernel
theorem dX10_ahead_56 : decode cX10_ahead 56 = .ok (.iaload, 1) := by decide +kernel
theorem dX10_ahead_57 : decode cX10_ahead 57 = .ok (.iadd, 1) := by decide +kernel
theorem dX10_ahead_58 : decode cX10_ahead 58 = .ok (.iaload, 1) := by decide +kernel
theorem dX10_ahead_59 : decode cX10_ahead 59 = .ok (.istore 6, 2) := by decide +kernel
theorem dX10_ahead_61 : decode cX10_ahead 61 = .ok (.iload 4, 2) := by decide +kernel
theorem dX10_ahead_63 : decode cX10_ahead 63 = .ok (.iload 6, 2) := by decide +kernel
theorem dX10_ahead_65 : decode cX10_ahead 65 = .ok (.iload_n 3, 1) := by decide +kernel
theorem dX10_ahead_66 : decode cX10_ahead 66 = .ok (.if_icmp .lt 15, 3) := by decide +kernel
theorem dX10_ahead_69 : decode cX10_ahead 69 = .ok (.iload 6, 2) := by decide +kernel
theorem dX10_ahead_71 : decode cX10_ahead 71 = .ok (.iload_n 3, 1) := by decide +kernel
theorem dX10_ahead_72 : decode cX10_ahead 72 = .ok (.if_icmp .ne 13, 3) := by decide +kernel
theorem dX10_ahead_75 : decode cX10_ahead 75 = .ok (.iload 5, 2) := by decide +kernel
theorem dX10_ahead_77 : decode cX10_ahead 77 = .ok (.iload_n 2, 1) := by decide +kernel
theorem dX10_ahead_78 : decode cX10_ahead 78 = .ok (.if_icmp .ge 7, 3) := by decide +kernel
theorem dX10_ahead_81 : decode cX10_ahead 81 = .ok (.iconst 1, 1) := by decide +kernel
theorem dX10_ahead_82 : decode cX10_ahead 82 = .ok (.goto 4, 3) := by decide +kernel
theorem dX10_ahead_85 : decode cX10_ahead 85 = .ok (.iconst 0, 1) := by decide +kernel
theorem dX10_ahead_86 : decode cX10_ahead 86 = .ok (.iadd, 1) := by decide +kernel
theorem dX10_ahead_87 : decode cX10_ahead 87 = .ok (.istore 4, 2) := by decide +kernel
theorem dX10_ahead_89 : decode cX10_ahead 89 = .ok (.iinc 5 1, 3) := by decide +kernel
theorem dX10_ahead_92 : decode cX10_ahead 92 = .ok (.goto (-67), 3) := by decide +kernel
theorem dX10_ahead_95 : decode cX10_ahead 95 = .ok (.iload 4, 2) := by decide +kernel
theorem dX10_ahead_97 : decode cX10_ahead 97 = .ok (.ireturn, 1) := by decide +kernel
theorem dX10_ranked_0 : decode cX10_ranked 0 = .ok (.iconst 0, 1) := by decide +kernel
theorem dX10_ranked_1 : decode cX10_ranked 1 = .ok (.istore_n 3, 1) := by decide +kernel
theorem dX10_ranked_2 : decode cX10_ranked 2 = .ok (.iload_n 3, 1) := by decide +kernel
theorem dX10_ranked_3 : decode cX10_ranked 3 = .ok (.aload_n 0, 1) := by decide +kernel
theorem dX10_ranked_4 : decode cX10_ranked 4 = .ok (.getfield 16, 3) := by decide +kernel
theorem dX10_ranked_7 : decode cX10_ranked 7 = .ok (.iload_n 1, 1) := by decide +kernel
theorem dX10_ranked_8 : decode cX10_ranked 8 = .ok (.iconst 5, 1) := by decide +kernel
theorem dX10_ranked_9 : decode cX10_ranked 9 = .ok (.invokestatic 65, 3) := by decide +kernel
theorem dX10_ranked_12 : decode cX10_ranked 12 = .ok (.iaload, 1) := by decide +kernel
theorem dX10_ranked_13 : decode cX10_ranked 13 = .ok (.if_icmp .ge 21, 3) := by decide +kernel
theorem dX10_ranked_16 : decode cX10_ranked 16 = .ok (.aload_n 0, 1) := by decide +kernel
theorem dX10_ranked_17 : decode cX10_ranked 17 = .ok (.iload_n 1, 1) := by decide +kernel
theorem dX10_ranked_18 : decode cX10_ranked 18 = .ok (.iload_n 3, 1) := by decide +kernel
theorem dX10_ranked_19 : decode cX10_ranked 19 = .ok (.invokevirtual 139, 3) := by decide +kernel
theorem dX10_ranked_22 : decode cX10_ranked 22 = .ok (.iload_n 2, 1) := by decide +kernel
theorem dX10_ranked_23 : decode cX10_ranked 23 = .ok (.if_icmp .ne 5, 3) := by decide +kernel
theorem dX10_ranked_26 : decode cX10_ranked 26 = .ok (.iload_n 3, 1) := by decide +kernel
theorem dX10_ranked_27 : decode cX10_ranked 27 = .ok (.ireturn, 1) := by decide +kernel
theorem dX10_ranked_28 : decode cX10_ranked 28 = .ok (.iinc 3 1, 3) := by decide +kernel
theorem dX10_ranked_31 : decode cX10_ranked 31 = .ok (.goto (-29), 3) := by decide +kernel
theorem dX10_ranked_34 : decode cX10_ranked 34 = .ok (.iconst (-1), 1) := by decide +kernel
theorem dX10_ranked_35 : decode cX10_ranked 35 = .ok (.ireturn, 1) := by decide +kernel
theorem dX10_calls_0 : decode cX10_calls 0 = .ok (.aload_n 0, 1) := by decide +kernel
theorem dX10_calls_1 : decode cX10_calls 1 = .ok (.iload_n 1, 1) := by decide +kernel
theorem dX10_calls_2 : decode cX10_calls 2 = .ok (.invokevirtual 58, 3) := by decide +kernel
theorem dX10_calls_5 : decode cX10_calls 5 = .ok (.ifCond .ne 9, 3) := by decide +kernel
theorem dX10_calls_8 : decode cX10_calls 8 = .ok (.aload_n 0, 1) := by decide +kernel
theorem dX10_calls_9 : decode cX10_calls 9 = .ok (.iconst 1, 1) := by decide +kernel
theorem dX10_calls_10 : decode cX10_calls 10 = .ok (.invokevirtual 72, 3) := by decide +kernel
theorem dX10_calls_13 : decode cX10_calls 13 = .ok (.ireturn, 1) := by decide +kernel
theorem dX10_calls_14 : decode cX10_calls 14 = .ok (.aload_n 0, 1) := by decide +kernel
theorem dX10_calls_15 : decode cX10_calls 15 = .ok (.iload_n 1, 1) := by decide +kernel
theorem dX10_calls_16 : decode cX10_calls 16 = .ok (.iconst 0, 1) := by decide +kernel
theorem dX10_calls_17 : decode cX10_calls 17 = .ok (.invokevirtual 142, 3) := by decide +kernel
theorem dX10_calls_20 : decode cX10_calls 20 = .ok (.istore_n 2, 1) := by decide +kernel
theorem dX10_calls_21 : decode cX10_calls 21 = .ok (.iload_n 2, 1) := by decide +kernel
theorem dX10_calls_22 : decode cX10_calls 22 = .ok (.ifCond .ge 9, 3) := by decide +kernel
theorem dX10_calls_25 : decode cX10_calls 25 = .ok (.aload_n 0, 1) := by decide +kernel
theorem dX10_calls_26 : decode cX10_calls 26 = .ok (.iconst 2, 1) := by decide +kernel
theorem dX10_calls_27 : decode cX10_calls 27 = .ok (.invokevirtual 72, 3) := by decide +kernel
theorem dX10_calls_30 : decode cX10_calls 30 = .ok (.ireturn, 1) := by decide +kernel
theorem dX10_calls_31 : decode cX10_calls 31 = .ok (.aload_n 0, 1) := by decide +kernel
theorem dX10_calls_32 : decode cX10_calls 32 = .ok (.getfield 16, 3) := by decide +kernel
theorem dX10_calls_35 : decode cX10_calls 35 = .ok (.iload_n 1, 1) := by decide +kernel
theorem dX10_calls_36 : decode cX10_calls 36 = .ok (.iload_n 2, 1) := by decide +kernel
theorem dX10_calls_37 : decode cX10_calls 37 = .ok (.invokestatic 69, 3) := by decide +kernel
theorem dX10_calls_40 : decode cX10_calls 40 = .ok (.iaload, 1) := by decide +kernel
theorem dX10_calls_41 : decode cX10_calls 41 = .ok (.istore_n 3, 1) := by decide +kernel
theorem dX10_calls_42 : decode cX10_calls 42 = .ok (.aload_n 0, 1) := by decide +kernel
theorem dX10_calls_43 : decode cX10_calls 43 = .ok (.iload_n 3, 1) := by decide +kernel
theorem dX10_calls_44 : decode cX10_calls 44 = .ok (.invokevirtual 97, 3) := by decide +kernel
theorem dX10_calls_47 : decode cX10_calls 47 = .ok (.ifCond .eq 7, 3) := by decide +kernel
theorem dX10_calls_50 : decode cX10_calls 50 = .ok (.iconst 1, 1) := by decide +kernel
theorem dX10_calls_51 : decode cX10_calls 51 = .ok (.goto 4, 3) := by decide +kernel
theorem dX10_calls_54 : decode cX10_calls 54 = .ok (.iconst 0, 1) := by decide +kernel
theorem dX10_calls_55 : decode cX10_calls 55 = .ok (.istore 4, 2) := by decide +kernel
theorem dX10_calls_57 : decode cX10_calls 57 = .ok (.aload_n 0, 1) := by decide +kernel
theorem dX10_calls_58 : decode cX10_calls 58 = .ok (.iload_n 1, 1) := by decide +kernel
theorem dX10_calls_59 : decode cX10_calls 59 = .ok (.iload_n 2, 1) := by decide +kernel
theorem dX10_calls_60 : decode cX10_calls 60 = .ok (.invokevirtual 132, 3) := by decide +kernel
theorem dX10_calls_63 : decode cX10_calls 63 = .ok (.aload_n 0, 1) := by decide +kernel
theorem dX10_calls_64 : decode cX10_calls 64 = .ok (.getfield 16, 3) := by decide +kernel
theorem dX10_calls_67 : decode cX10_calls 67 = .ok (.bipush 41, 2) := by decide +kernel
theorem dX10_calls_69 : decode cX10_calls 69 = .ok (.iload_n 3, 1) := by decide +kernel
theorem dX10_calls_70 : decode cX10_calls 70 = .ok (.iadd, 1) := by decide +kernel
theorem dX10_calls_71 : decode cX10_calls 71 = .ok (.dup2, 1) := by decide +kernel
theorem dX10_calls_72 : decode cX10_calls 72 = .ok (.iaload, 1) := by decide +kernel
theorem dX10_calls_73 : decode cX10_calls 73 = .ok (.iload 4, 2) := by decide +kernel
theorem dX10_calls_75 : decode cX10_calls 75 = .ok (.iadd, 1) := by decide +kernel
theorem dX10_calls_76 : decode cX10_calls 76 = .ok (.iastore, 1) := by decide +kernel
theorem dX10_calls_77 : decode cX10_calls 77 = .ok (.aload_n 0, 1) := by decide +kernel
theorem dX10_calls_78 : decode cX10_calls 78 = .ok (.getfield 16, 3) := by decide +kernel
theorem dX10_calls_81 : decode cX10_calls 81 = .ok (.iload_n 1, 1) := by decide +kernel
theorem dX10_calls_82 : decode cX10_calls 82 = .ok (.bipush 6, 2) := by decide +kernel
theorem dX10_calls_84 : decode cX10_calls 84 = .ok (.invokestatic 65, 3) := by decide +kernel
theorem dX10_calls_87 : decode cX10_calls 87 = .ok (.dup2, 1) := by decide +kernel
theorem dX10_calls_88 : decode cX10_calls 88 = .ok (.iaload, 1) := by decide +kernel
theorem dX10_calls_89 : decode cX10_calls 89 = .ok (.iload 4, 2) := by decide +kernel
theorem dX10_calls_91 : decode cX10_calls 91 = .ok (.iadd, 1) := by decide +kernel
theorem dX10_calls_92 : decode cX10_calls 92 = .ok (.iastore, 1) := by decide +kernel
theorem dX10_calls_93 : decode cX10_calls 93 = .ok (.aload_n 0, 1) := by decide +kernel
theorem dX10_calls_94 : decode cX10_calls 94 = .ok (.getfield 16, 3) := by decide +kernel
theorem dX10_calls_97 : decode cX10_calls 97 = .ok (.iconst 3, 1) := by decide +kernel
theorem dX10_calls_98 : decode cX10_calls 98 = .ok (.dup2, 1) := by decide +kernel
theorem dX10_calls_99 : decode cX10_calls 99 = .ok (.iaload, 1) := by decide +kernel
theorem dX10_calls_100 : decode cX10_calls 100 = .ok (.iload 4, 2) := by decide +kernel
theorem dX10_calls_102 : decode cX10_calls 102 = .ok (.iadd, 1) := by decide +kernel
theorem dX10_calls_103 : decode cX10_calls 103 = .ok (.iastore, 1) := by decide +kernel
theorem dX10_calls_104 : decode cX10_calls 104 = .ok (.aload_n 0, 1) := by decide +kernel
theorem dX10_calls_105 : decode cX10_calls 105 = .ok (.getfield 16, 3) := by decide +kernel
theorem dX10_calls_108 : decode cX10_calls 108 = .ok (.iconst 4, 1) := by decide +kernel
theorem dX10_calls_109 : decode cX10_calls 109 = .ok (.dup2, 1) := by decide +kernel
theorem dX10_calls_110 : decode cX10_calls 110 = .ok (.iaload, 1) := by decide +kernel
theorem dX10_calls_111 : decode cX10_calls 111 = .ok (.iconst 1, 1) := by decide +kernel
theorem dX10_calls_112 : decode cX10_calls 112 = .ok (.iload 4, 2) := by decide +kernel
theorem dX10_calls_114 : decode cX10_calls 114 = .ok (.isub, 1) := by decide +kernel
theorem dX10_calls_115 : decode cX10_calls 115 = .ok (.iadd, 1) := by decide +kernel
theorem dX10_calls_116 : decode cX10_calls 116 = .ok (.iastore, 1) := by decide +kernel
theorem dX10_calls_117 : decode cX10_calls 117 = .ok (.iload 4, 2) := by decide +kernel
theorem dX10_calls_119 : decode cX10_calls 119 = .ok (.ireturn, 1) := by decide +kernel
theorem dX10_callNext_0 : decode cX10_callNext 0 = .ok (.aload_n 0, 1) := by decide +kernel
theorem dX10_callNext_1 : decode cX10_callNext 1 = .ok (.invokevirtual 76, 3) := by decide +kernel
theorem dX10_callNext_4 : decode cX10_callNext 4 = .ok (.aload_n 0, 1) := by decide +kernel
theorem dX10_callNext_5 : decode cX10_callNext 5 = .ok (.aload_n 0, 1) := by decide +kernel
theorem dX10_callNext_6 : decode cX10_callNext 6 = .ok (.iload_n 1, 1) := by decide +kernel
theorem dX10_callNext_7 : decode cX10_callNext 7 = .ok (.invokevirtual 145, 3) := by decide +kernel
theorem dX10_callNext_10 : decode cX10_callNext 10 = .ok (.invokevirtual 82, 3) := by decide +kernel
theorem dX10_callNext_13 : decode cX10_callNext 13 = .ok (.iconst 1, 1) := by decide +kernel
theorem dX10_callNext_14 : decode cX10_callNext 14 = .ok (.if_icmp .ne 7, 3) := by decide +kernel
theorem dX10_callNext_17 : decode cX10_callNext 17 = .ok (.iconst 1, 1) := by decide +kernel
theorem dX10_callNext_18 : decode cX10_callNext 18 = .ok (.goto 4, 3) := by decide +kernel
theorem dX10_callNext_21 : decode cX10_callNext 21 = .ok (.iconst 0, 1) := by decide +kernel
theorem dX10_callNext_22 : decode cX10_callNext 22 = .ok (.ireturn, 1) := by decide +kernel
theorem dX10_tellsMotion_0 : decode cX10_tellsMotion 0 = .ok (.aload_n 0, 1) := by decide +kernel
theorem dX10_tellsMotion_1 : decode cX10_tellsMotion 1 = .ok (.aload_n 0, 1) := by decide +kernel
theorem dX10_tellsMotion_2 : decode cX10_tellsMotion 2 = .ok (.iload_n 1, 1) := by decide +kernel
theorem dX10_tellsMotion_3 : decode cX10_tellsMotion 3 = .ok (.invokevirtual 58, 3) := by decide +kernel
theorem dX10_tellsMotion_6 : decode cX10_tellsMotion 6 = .ok (.ifCond .eq 7, 3) := by decide +kernel
theorem dX10_tellsMotion_9 : decode cX10_tellsMotion 9 = .ok (.iconst 0, 1) := by decide +kernel
theorem dX10_tellsMotion_10 : decode cX10_tellsMotion 10 = .ok (.goto 4, 3) := by decide +kernel
theorem dX10_tellsMotion_13 : decode cX10_tellsMotion 13 = .ok (.iconst 1, 1) := by decide +kernel
theorem dX10_tellsMotion_14 : decode cX10_tellsMotion 14 = .ok (.putfield 44, 3) := by decide +kernel
theorem dX10_tellsMotion_17 : decode cX10_tellsMotion 17 = .ok (.aload_n 0, 1) := by decide +kernel
theorem dX10_tellsMotion_18 : decode cX10_tellsMotion 18 = .ok (.getfield 44, 3) := by decide +kernel
theorem dX10_tellsMotion_21 : decode cX10_tellsMotion 21 = .ok (.ifCond .ne 16, 3) := by decide +kernel
theorem dX10_tellsMotion_24 : decode cX10_tellsMotion 24 = .ok (.aload_n 0, 1) := by decide +kernel
theorem dX10_tellsMotion_25 : decode cX10_tellsMotion 25 = .ok (.getfield 16, 3) := by decide +kernel
theorem dX10_tellsMotion_28 : decode cX10_tellsMotion 28 = .ok (.iload_n 1, 1) := by decide +kernel
theorem dX10_tellsMotion_29 : decode cX10_tellsMotion 29 = .ok (.iload_n 2, 1) := by decide +kernel
theorem dX10_tellsMotion_30 : decode cX10_tellsMotion 30 = .ok (.invokestatic 65, 3) := by decide +kernel
theorem dX10_tellsMotion_33 : decode cX10_tellsMotion 33 = .ok (.iaload, 1) := by decide +kernel
theorem dX10_tellsMotion_34 : decode cX10_tellsMotion 34 = .ok (.goto 4, 3) := by decide +kernel
theorem dX10_tellsMotion_37 : decode cX10_tellsMotion 37 = .ok (.iconst 0, 1) := by decide +kernel
theorem dX10_tellsMotion_38 : decode cX10_tellsMotion 38 = .ok (.ireturn, 1) := by decide +kernel
theorem dX10_listLength_0 : decode cX10_listLength 0 = .ok (.aload_n 0, 1) := by decide +kernel
theorem dX10_listLength_1 : decode cX10_listLength 1 = .ok (.iload_n 1, 1) := by decide +kernel
theorem dX10_listLength_2 : decode cX10_listLength 2 = .ok (.iconst 5, 1) := by decide +kernel
theorem dX10_listLength_3 : decode cX10_listLength 3 = .ok (.invokevirtual 148, 3) := by decide +kernel
theorem dX10_listLength_6 : decode cX10_listLength 6 = .ok (.ireturn, 1) := by decide +kernel
theorem dX10_nextFrog_0 : decode cX10_nextFrog 0 = .ok (.aload_n 0, 1) := by decide +kernel
theorem dX10_nextFrog_1 : decode cX10_nextFrog 1 = .ok (.aload_n 0, 1) := by decide +kernel
theorem dX10_nextFrog_2 : decode cX10_nextFrog 2 = .ok (.iload_n 1, 1) := by decide +kernel
theorem dX10_nextFrog_3 : decode cX10_nextFrog 3 = .ok (.invokevirtual 58, 3) := by decide +kernel
theorem dX10_nextFrog_6 : decode cX10_nextFrog 6 = .ok (.ifCond .ne 7, 3) := by decide +kernel
theorem dX10_nextFrog_9 : decode cX10_nextFrog 9 = .ok (.iconst 1, 1) := by decide +kernel
theorem dX10_nextFrog_10 : decode cX10_nextFrog 10 = .ok (.goto 21, 3) := by decide +kernel
theorem dX10_nextFrog_13 : decode cX10_nextFrog 13 = .ok (.aload_n 0, 1) := by decide +kernel
theorem dX10_nextFrog_14 : decode cX10_nextFrog 14 = .ok (.getfield 16, 3) := by decide +kernel
theorem dX10_nextFrog_17 : decode cX10_nextFrog 17 = .ok (.iload_n 1, 1) := by decide +kernel
theorem dX10_nextFrog_18 : decode cX10_nextFrog 18 = .ok (.iconst 5, 1) := by decide +kernel
theorem dX10_nextFrog_19 : decode cX10_nextFrog 19 = .ok (.invokestatic 65, 3) := by decide +kernel
theorem dX10_nextFrog_22 : decode cX10_nextFrog 22 = .ok (.iaload, 1) := by decide +kernel
theorem dX10_nextFrog_23 : decode cX10_nextFrog 23 = .ok (.ifCond .ne 7, 3) := by decide +kernel
theorem dX10_nextFrog_26 : decode cX10_nextFrog 26 = .ok (.iconst 2, 1) := by decide +kernel
theorem dX10_nextFrog_27 : decode cX10_nextFrog 27 = .ok (.goto 4, 3) := by decide +kernel
theorem dX10_nextFrog_30 : decode cX10_nextFrog 30 = .ok (.iconst 0, 1) := by decide +kernel
theorem dX10_nextFrog_31 : decode cX10_nextFrog 31 = .ok (.putfield 44, 3) := by decide +kernel
theorem dX10_nextFrog_34 : decode cX10_nextFrog 34 = .ok (.aload_n 0, 1) := by decide +kernel
theorem dX10_nextFrog_35 : decode cX10_nextFrog 35 = .ok (.getfield 44, 3) := by decide +kernel
theorem dX10_nextFrog_38 : decode cX10_nextFrog 38 = .ok (.ifCond .ne 21, 3) := by decide +kernel
theorem dX10_nextFrog_41 : decode cX10_nextFrog 41 = .ok (.aload_n 0, 1) := by decide +kernel
theorem dX10_nextFrog_42 : decode cX10_nextFrog 42 = .ok (.getfield 16, 3) := by decide +kernel
theorem dX10_nextFrog_45 : decode cX10_nextFrog 45 = .ok (.iload_n 1, 1) := by decide +kernel
theorem dX10_nextFrog_46 : decode cX10_nextFrog 46 = .ok (.aload_n 0, 1) := by decide +kernel
theorem dX10_nextFrog_47 : decode cX10_nextFrog 47 = .ok (.iload_n 1, 1) := by decide +kernel
theorem dX10_nextFrog_48 : decode cX10_nextFrog 48 = .ok (.iconst 0, 1) := by decide +kernel
theorem dX10_nextFrog_49 : decode cX10_nextFrog 49 = .ok (.invokevirtual 142, 3) := by decide +kernel
theorem dX10_nextFrog_52 : decode cX10_nextFrog 52 = .ok (.invokestatic 69, 3) := by decide +kernel
theorem dX10_nextFrog_55 : decode cX10_nextFrog 55 = .ok (.iaload, 1) := by decide +kernel
theorem dX10_nextFrog_56 : decode cX10_nextFrog 56 = .ok (.goto 4, 3) := by decide +kernel
theorem dX10_nextFrog_59 : decode cX10_nextFrog 59 = .ok (.iconst 0, 1) := by decide +kernel
theorem dX10_nextFrog_60 : decode cX10_nextFrog 60 = .ok (.ireturn, 1) := by decide +kernel
theorem dX10_nextFrogByScan_0 : decode cX10_nextFrogByScan 0 = .ok (.aload_n 0, 1) := by decide +kernel
theorem dX10_nextFrogByScan_1 : decode cX10_nextFrogByScan 1 = .ok (.iload_n 1, 1) := by decide +kernel
theorem dX10_nextFrogByScan_2 : decode cX10_nextFrogByScan 2 = .ok (.invokevirtual 151, 3) := by decide +kernel
theorem dX10_nextFrogByScan_5 : decode cX10_nextFrogByScan 5 = .ok (.ireturn, 1) := by decide +kernel
theorem dX10_frogsBefore_0 : decode cX10_frogsBefore 0 = .ok (.aload_n 0, 1) := by decide +kernel
theorem dX10_frogsBefore_1 : decode cX10_frogsBefore 1 = .ok (.iload_n 1, 1) := by decide +kernel
theorem dX10_frogsBefore_2 : decode cX10_frogsBefore 2 = .ok (.iload_n 2, 1) := by decide +kernel
theorem dX10_frogsBefore_3 : decode cX10_frogsBefore 3 = .ok (.invokevirtual 116, 3) := by decide +kernel
theorem dX10_frogsBefore_6 : decode cX10_frogsBefore 6 = .ok (.ifCond .ne 9, 3) := by decide +kernel
theorem dX10_frogsBefore_9 : decode cX10_frogsBefore 9 = .ok (.aload_n 0, 1) := by decide +kernel
theorem dX10_frogsBefore_10 : decode cX10_frogsBefore 10 = .ok (.iconst 1, 1) := by decide +kernel
theorem dX10_frogsBefore_11 : decode cX10_frogsBefore 11 = .ok (.invokevirtual 72, 3) := by decide +kernel
theorem dX10_frogsBefore_14 : decode cX10_frogsBefore 14 = .ok (.ireturn, 1) := by decide +kernel
theorem dX10_frogsBefore_15 : decode cX10_frogsBefore 15 = .ok (.aload_n 0, 1) := by decide +kernel
theorem dX10_frogsBefore_16 : decode cX10_frogsBefore 16 = .ok (.iload_n 1, 1) := by decide +kernel
theorem dX10_frogsBefore_17 : decode cX10_frogsBefore 17 = .ok (.iload_n 2, 1) := by decide +kernel
theorem dX10_frogsBefore_18 : decode cX10_frogsBefore 18 = .ok (.invokevirtual 126, 3) := by decide +kernel
theorem dX10_frogsBefore_21 : decode cX10_frogsBefore 21 = .ok (.istore_n 3, 1) := by decide +kernel
theorem dX10_frogsBefore_22 : decode cX10_frogsBefore 22 = .ok (.aload_n 0, 1) := by decide +kernel
theorem dX10_frogsBefore_23 : decode cX10_frogsBefore 23 = .ok (.iload_n 3, 1) := by decide +kernel
theorem dX10_frogsBefore_24 : decode cX10_frogsBefore 24 = .ok (.ifCond .ge 7, 3) := by decide +kernel
theorem dX10_frogsBefore_27 : decode cX10_frogsBefore 27 = .ok (.iconst 2, 1) := by decide +kernel
theorem dX10_frogsBefore_28 : decode cX10_frogsBefore 28 = .ok (.goto 4, 3) := by decide +kernel
theorem dX10_frogsBefore_31 : decode cX10_frogsBefore 31 = .ok (.iconst 0, 1) := by decide +kernel
theorem dX10_frogsBefore_32 : decode cX10_frogsBefore 32 = .ok (.putfield 44, 3) := by decide +kernel
theorem dX10_frogsBefore_35 : decode cX10_frogsBefore 35 = .ok (.aload_n 0, 1) := by decide +kernel
theorem dX10_frogsBefore_36 : decode cX10_frogsBefore 36 = .ok (.getfield 44, 3) := by decide +kernel
theorem dX10_frogsBefore_39 : decode cX10_frogsBefore 39 = .ok (.ifCond .ne 12, 3) := by decide +kernel
theorem dX10_frogsBefore_42 : decode cX10_frogsBefore 42 = .ok (.aload_n 0, 1) := by decide +kernel
theorem dX10_frogsBefore_43 : decode cX10_frogsBefore 43 = .ok (.iload_n 1, 1) := by decide +kernel
theorem dX10_frogsBefore_44 : decode cX10_frogsBefore 44 = .ok (.iload_n 3, 1) := by decide +kernel
theorem dX10_frogsBefore_45 : decode cX10_frogsBefore 45 = .ok (.invokevirtual 139, 3) := by decide +kernel
theorem dX10_frogsBefore_48 : decode cX10_frogsBefore 48 = .ok (.goto 4, 3) := by decide +kernel
theorem dX10_frogsBefore_51 : decode cX10_frogsBefore 51 = .ok (.iconst 0, 1) := by decide +kernel
theorem dX10_frogsBefore_52 : decode cX10_frogsBefore 52 = .ok (.ireturn, 1) := by decide +kernel
theorem dX10_speeches_0 : decode cX10_speeches 0 = .ok (.aload_n 0, 1) := by decide +kernel
theorem dX10_speeches_1 : decode cX10_speeches 1 = .ok (.iload_n 1, 1) := by decide +kernel
theorem dX10_speeches_2 : decode cX10_speeches 2 = .ok (.bipush 41, 2) := by decide +kernel
theorem dX10_speeches_4 : decode cX10_speeches 4 = .ok (.invokevirtual 106, 3) := by decide +kernel
theorem dX10_speeches_7 : decode cX10_speeches 7 = .ok (.ireturn, 1) := by decide +kernel
theorem dX10_speechesOn_0 : decode cX10_speechesOn 0 = .ok (.aload_n 0, 1) := by decide +kernel
theorem dX10_speechesOn_1 : decode cX10_speechesOn 1 = .ok (.iload_n 1, 1) := by decide +kernel
theorem dX10_speechesOn_2 : decode cX10_speechesOn 2 = .ok (.bipush 6, 2) := by decide +kernel
theorem dX10_speechesOn_4 : decode cX10_speechesOn 4 = .ok (.invokevirtual 148, 3) := by decide +kernel
theorem dX10_speechesOn_7 : decode cX10_speechesOn 7 = .ok (.ireturn, 1) := by decide +kernel
theorem dX10_frogAtRank_0 : decode cX10_frogAtRank 0 = .ok (.aload_n 0, 1) := by decide +kernel
theorem dX10_frogAtRank_1 : decode cX10_frogAtRank 1 = .ok (.iconst 0, 1) := by decide +kernel
theorem dX10_frogAtRank_2 : decode cX10_frogAtRank 2 = .ok (.putfield 44, 3) := by decide +kernel
theorem dX10_frogAtRank_5 : decode cX10_frogAtRank 5 = .ok (.iconst 0, 1) := by decide +kernel
theorem dX10_frogAtRank_6 : decode cX10_frogAtRank 6 = .ok (.istore_n 2, 1) := by decide +kernel
theorem dX10_frogAtRank_7 : decode cX10_frogAtRank 7 = .ok (.iload_n 2, 1) := by decide +kernel
theorem dX10_frogAtRank_8 : decode cX10_frogAtRank 8 = .ok (.aload_n 0, 1) := by decide +kernel
theorem dX10_frogAtRank_9 : decode cX10_frogAtRank 9 = .ok (.getfield 16, 3) := by decide +kernel
theorem dX10_frogAtRank_12 : decode cX10_frogAtRank 12 = .ok (.iconst 0, 1) := by decide +kernel
theorem dX10_frogAtRank_13 : decode cX10_frogAtRank 13 = .ok (.iaload, 1) := by decide +kernel
theorem dX10_frogAtRank_14 : decode cX10_frogAtRank 14 = .ok (.if_icmp .ge 116, 3) := by decide +kernel
theorem dX10_frogAtRank_17 : decode cX10_frogAtRank 17 = .ok (.iconst 0, 1) := by decide +kernel
theorem dX10_frogAtRank_18 : decode cX10_frogAtRank 18 = .ok (.istore_n 3, 1) := by decide +kernel
theorem dX10_frogAtRank_19 : decode cX10_frogAtRank 19 = .ok (.iconst 0, 1) := by decide +kernel
theorem dX10_frogAtRank_20 : decode cX10_frogAtRank 20 = .ok (.istore 4, 2) := by decide +kernel
theorem dX10_frogAtRank_22 : decode cX10_frogAtRank 22 = .ok (.iload 4, 2) := by decide +kernel
theorem dX10_frogAtRank_24 : decode cX10_frogAtRank 24 = .ok (.aload_n 0, 1) := by decide +kernel
theorem dX10_frogAtRank_25 : decode cX10_frogAtRank 25 = .ok (.getfield 16, 3) := by decide +kernel
theorem dX10_frogAtRank_28 : decode cX10_frogAtRank 28 = .ok (.iconst 0, 1) := by decide +kernel
theorem dX10_frogAtRank_29 : decode cX10_frogAtRank 29 = .ok (.iaload, 1) := by decide +kernel
theorem dX10_frogAtRank_30 : decode cX10_frogAtRank 30 = .ok (.if_icmp .ge 87, 3) := by decide +kernel
theorem dX10_frogAtRank_33 : decode cX10_frogAtRank 33 = .ok (.aload_n 0, 1) := by decide +kernel
theorem dX10_frogAtRank_34 : decode cX10_frogAtRank 34 = .ok (.getfield 16, 3) := by decide +kernel
theorem dX10_frogAtRank_37 : decode cX10_frogAtRank 37 = .ok (.bipush 41, 2) := by decide +kernel
theorem dX10_frogAtRank_39 : decode cX10_frogAtRank 39 = .ok (.iload 4, 2) := by decide +kernel
theorem dX10_frogAtRank_41 : decode cX10_frogAtRank 41 = .ok (.iadd, 1) := by decide +kernel
theorem dX10_frogAtRank_42 : decode cX10_frogAtRank 42 = .ok (.iaload, 1) := by decide +kernel
theorem dX10_frogAtRank_43 : decode cX10_frogAtRank 43 = .ok (.aload_n 0, 1) := by decide +kernel
theorem dX10_frogAtRank_44 : decode cX10_frogAtRank 44 = .ok (.getfield 16, 3) := by decide +kernel
theorem dX10_frogAtRank_47 : decode cX10_frogAtRank 47 = .ok (.bipush 41, 2) := by decide +kernel
theorem dX10_frogAtRank_49 : decode cX10_frogAtRank 49 = .ok (.iload_n 2, 1) := by decide +kernel
theorem dX10_frogAtRank_50 : decode cX10_frogAtRank 50 = .ok (.iadd, 1) := by decide +kernel
theorem dX10_frogAtRank_51 : decode cX10_frogAtRank 51 = .ok (.iaload, 1) := by decide +kernel
theorem dX10_frogAtRank_52 : decode cX10_frogAtRank 52 = .ok (.isub, 1) := by decide +kernel
theorem dX10_frogAtRank_53 : decode cX10_frogAtRank 53 = .ok (.istore 5, 2) := by decide +kernel
theorem dX10_frogAtRank_55 : decode cX10_frogAtRank 55 = .ok (.iload 5, 2) := by decide +kernel
theorem dX10_frogAtRank_57 : decode cX10_frogAtRank 57 = .ok (.ifCond .eq 8, 3) := by decide +kernel
theorem dX10_frogAtRank_60 : decode cX10_frogAtRank 60 = .ok (.iload 5, 2) := by decide +kernel
theorem dX10_frogAtRank_62 : decode cX10_frogAtRank 62 = .ok (.goto 23, 3) := by decide +kernel
theorem dX10_frogAtRank_65 : decode cX10_frogAtRank 65 = .ok (.aload_n 0, 1) := by decide +kernel
theorem dX10_frogAtRank_66 : decode cX10_frogAtRank 66 = .ok (.getfield 16, 3) := by decide +kernel
theorem dX10_frogAtRank_69 : decode cX10_frogAtRank 69 = .ok (.bipush 17, 2) := by decide +kernel
theorem dX10_frogAtRank_71 : decode cX10_frogAtRank 71 = .ok (.iload 4, 2) := by decide +kernel
theorem dX10_frogAtRank_73 : decode cX10_frogAtRank 73 = .ok (.iadd, 1) := by decide +kernel
theorem dX10_frogAtRank_74 : decode cX10_frogAtRank 74 = .ok (.iaload, 1) := by decide +kernel
theorem dX10_frogAtRank_75 : decode cX10_frogAtRank 75 = .ok (.aload_n 0, 1) := by decide +kernel
theorem dX10_frogAtRank_76 : decode cX10_frogAtRank 76 = .ok (.getfield 16, 3) := by decide +kernel
theorem dX10_frogAtRank_79 : decode cX10_frogAtRank 79 = .ok (.bipush 17, 2) := by decide +kernel
theorem dX10_frogAtRank_81 : decode cX10_frogAtRank 81 = .ok (.iload_n 2, 1) := by decide +kernel
theorem dX10_frogAtRank_82 : decode cX10_frogAtRank 82 = .ok (.iadd, 1) := by decide +kernel
theorem dX10_frogAtRank_83 : decode cX10_frogAtRank 83 = .ok (.iaload, 1) := by decide +kernel
theorem dX10_frogAtRank_84 : decode cX10_frogAtRank 84 = .ok (.isub, 1) := by decide +kernel
theorem dX10_frogAtRank_85 : decode cX10_frogAtRank 85 = .ok (.istore 5, 2) := by decide +kernel
theorem dX10_frogAtRank_87 : decode cX10_frogAtRank 87 = .ok (.iload_n 3, 1) := by decide +kernel
theorem dX10_frogAtRank_88 : decode cX10_frogAtRank 88 = .ok (.iload 5, 2) := by decide +kernel
theorem dX10_frogAtRank_90 : decode cX10_frogAtRank 90 = .ok (.ifCond .gt 14, 3) := by decide +kernel
theorem dX10_frogAtRank_93 : decode cX10_frogAtRank 93 = .ok (.iload 5, 2) := by decide +kernel
theorem dX10_frogAtRank_95 : decode cX10_frogAtRank 95 = .ok (.ifCond .ne 13, 3) := by decide +kernel
theorem dX10_frogAtRank_98 : decode cX10_frogAtRank 98 = .ok (.iload 4, 2) := by decide +kernel
theorem dX10_frogAtRank_100 : decode cX10_frogAtRank 100 = .ok (.iload_n 2, 1) := by decide +kernel
theorem dX10_frogAtRank_101 : decode cX10_frogAtRank 101 = .ok (.if_icmp .ge 7, 3) := by decide +kernel
theorem dX10_frogAtRank_104 : decode cX10_frogAtRank 104 = .ok (.iconst 1, 1) := by decide +kernel
theorem dX10_frogAtRank_105 : decode cX10_frogAtRank 105 = .ok (.goto 4, 3) := by decide +kernel
theorem dX10_frogAtRank_108 : decode cX10_frogAtRank 108 = .ok (.iconst 0, 1) := by decide +kernel
theorem dX10_frogAtRank_109 : decode cX10_frogAtRank 109 = .ok (.iadd, 1) := by decide +kernel
theorem dX10_frogAtRank_110 : decode cX10_frogAtRank 110 = .ok (.istore_n 3, 1) := by decide +kernel
theorem dX10_frogAtRank_111 : decode cX10_frogAtRank 111 = .ok (.iinc 4 1, 3) := by decide +kernel
theorem dX10_frogAtRank_114 : decode cX10_frogAtRank 114 = .ok (.goto (-92), 3) := by decide +kernel
theorem dX10_frogAtRank_117 : decode cX10_frogAtRank 117 = .ok (.iload_n 3, 1) := by decide +kernel
theorem dX10_frogAtRank_118 : decode cX10_frogAtRank 118 = .ok (.iload_n 1, 1) := by decide +kernel
theorem dX10_frogAtRank_119 : decode cX10_frogAtRank 119 = .ok (.if_icmp .ne 5, 3) := by decide +kernel
theorem dX10_frogAtRank_122 : decode cX10_frogAtRank 122 = .ok (.iload_n 2, 1) := by decide +kernel
theorem dX10_frogAtRank_123 : decode cX10_frogAtRank 123 = .ok (.ireturn, 1) := by decide +kernel
theorem dX10_frogAtRank_124 : decode cX10_frogAtRank 124 = .ok (.iinc 2 1, 3) := by decide +kernel
theorem dX10_frogAtRank_127 : decode cX10_frogAtRank 127 = .ok (.goto (-120), 3) := by decide +kernel
theorem dX10_frogAtRank_130 : decode cX10_frogAtRank 130 = .ok (.aload_n 0, 1) := by decide +kernel
theorem dX10_frogAtRank_131 : decode cX10_frogAtRank 131 = .ok (.iconst 1, 1) := by decide +kernel
theorem dX10_frogAtRank_132 : decode cX10_frogAtRank 132 = .ok (.invokevirtual 72, 3) := by decide +kernel
theorem dX10_frogAtRank_135 : decode cX10_frogAtRank 135 = .ok (.ireturn, 1) := by decide +kernel
theorem dX10_backing_0 : decode cX10_backing 0 = .ok (.iconst 0, 1) := by decide +kernel
theorem dX10_backing_1 : decode cX10_backing 1 = .ok (.istore_n 2, 1) := by decide +kernel
theorem dX10_backing_2 : decode cX10_backing 2 = .ok (.iconst 0, 1) := by decide +kernel
theorem dX10_backing_3 : decode cX10_backing 3 = .ok (.istore_n 3, 1) := by decide +kernel
theorem dX10_backing_4 : decode cX10_backing 4 = .ok (.iload_n 3, 1) := by decide +kernel
theorem dX10_backing_5 : decode cX10_backing 5 = .ok (.aload_n 0, 1) := by decide +kernel
theorem dX10_backing_6 : decode cX10_backing 6 = .ok (.getfield 16, 3) := by decide +kernel
theorem dX10_backing_9 : decode cX10_backing 9 = .ok (.iconst 0, 1) := by decide +kernel
theorem dX10_backing_10 : decode cX10_backing 10 = .ok (.iaload, 1) := by decide +kernel
theorem dX10_backing_11 : decode cX10_backing 11 = .ok (.if_icmp .ge 43, 3) := by decide +kernel
theorem dX10_backing_14 : decode cX10_backing 14 = .ok (.iload_n 2, 1) := by decide +kernel
theorem dX10_backing_15 : decode cX10_backing 15 = .ok (.aload_n 0, 1) := by decide +kernel
theorem dX10_backing_16 : decode cX10_backing 16 = .ok (.getfield 16, 3) := by decide +kernel
theorem dX10_backing_19 : decode cX10_backing 19 = .ok (.iload_n 1, 1) := by decide +kernel
theorem dX10_backing_20 : decode cX10_backing 20 = .ok (.iconst 4, 1) := by decide +kernel
theorem dX10_backing_21 : decode cX10_backing 21 = .ok (.invokestatic 65, 3) := by decide +kernel
theorem dX10_backing_24 : decode cX10_backing 24 = .ok (.iaload, 1) := by decide +kernel
theorem dX10_backing_25 : decode cX10_backing 25 = .ok (.iload_n 3, 1) := by decide +kernel
theorem dX10_backing_26 : decode cX10_backing 26 = .ok (.ishr, 1) := by decide +kernel
theorem dX10_backing_27 : decode cX10_backing 27 = .ok (.iconst 1, 1) := by decide +kernel
theorem dX10_backing_28 : decode cX10_backing 28 = .ok (.iand, 1) := by decide +kernel
theorem dX10_backing_29 : decode cX10_backing 29 = .ok (.iconst 1, 1) := by decide +kernel
theorem dX10_backing_30 : decode cX10_backing 30 = .ok (.if_icmp .ne 15, 3) := by decide +kernel
theorem dX10_backing_33 : decode cX10_backing 33 = .ok (.aload_n 0, 1) := by decide +kernel
theorem dX10_backing_34 : decode cX10_backing 34 = .ok (.getfield 16, 3) := by decide +kernel
theorem dX10_backing_37 : decode cX10_backing 37 = .ok (.bipush 17, 2) := by decide +kernel
theorem dX10_backing_39 : decode cX10_backing 39 = .ok (.iload_n 3, 1) := by decide +kernel
theorem dX10_backing_40 : decode cX10_backing 40 = .ok (.iadd, 1) := by decide +kernel
theorem dX10_backing_41 : decode cX10_backing 41 = .ok (.iaload, 1) := by decide +kernel
theorem dX10_backing_42 : decode cX10_backing 42 = .ok (.goto 4, 3) := by decide +kernel
theorem dX10_backing_45 : decode cX10_backing 45 = .ok (.iconst 0, 1) := by decide +kernel
theorem dX10_backing_46 : decode cX10_backing 46 = .ok (.iadd, 1) := by decide +kernel
theorem dX10_backing_47 : decode cX10_backing 47 = .ok (.istore_n 2, 1) := by decide +kernel
theorem dX10_backing_48 : decode cX10_backing 48 = .ok (.iinc 3 1, 3) := by decide +kernel
theorem dX10_backing_51 : decode cX10_backing 51 = .ok (.goto (-47), 3) := by decide +kernel
theorem dX10_backing_54 : decode cX10_backing 54 = .ok (.iload_n 2, 1) := by decide +kernel
theorem dX10_backing_55 : decode cX10_backing 55 = .ok (.ireturn, 1) := by decide +kernel
theorem dX10_entitled_0 : decode cX10_entitled 0 = .ok (.iconst 0, 1) := by decide +kernel
theorem dX10_entitled_1 : decode cX10_entitled 1 = .ok (.istore_n 2, 1) := by decide +kernel
theorem dX10_entitled_2 : decode cX10_entitled 2 = .ok (.iconst 0, 1) := by decide +kernel
theorem dX10_entitled_3 : decode cX10_entitled 3 = .ok (.istore_n 3, 1) := by decide +kernel
theorem dX10_entitled_4 : decode cX10_entitled 4 = .ok (.iload_n 3, 1) := by decide +kernel
theorem dX10_entitled_5 : decode cX10_entitled 5 = .ok (.aload_n 0, 1) := by decide +kernel
theorem dX10_entitled_6 : decode cX10_entitled 6 = .ok (.getfield 16, 3) := by decide +kernel
theorem dX10_entitled_9 : decode cX10_entitled 9 = .ok (.iconst 0, 1) := by decide +kernel
theorem dX10_entitled_10 : decode cX10_entitled 10 = .ok (.iaload, 1) := by decide +kernel
theorem dX10_entitled_11 : decode cX10_entitled 11 = .ok (.if_icmp .ge 34, 3) := by decide +kernel
theorem dX10_entitled_14 : decode cX10_entitled 14 = .ok (.iload_n 2, 1) := by decide +kernel
theorem dX10_entitled_15 : decode cX10_entitled 15 = .ok (.aload_n 0, 1) := by decide +kernel
theorem dX10_entitled_16 : decode cX10_entitled 16 = .ok (.iload_n 1, 1) := by decide +kernel
theorem dX10_entitled_17 : decode cX10_entitled 17 = .ok (.iload_n 3, 1) := by decide +kernel
theorem dX10_entitled_18 : decode cX10_entitled 18 = .ok (.invokevirtual 120, 3) := by decide +kernel
theorem dX10_entitled_21 : decode cX10_entitled 21 = .ok (.ifCond .eq 15, 3) := by decide +kernel
theorem dX10_entitled_24 : decode cX10_entitled 24 = .ok (.aload_n 0, 1) := by decide +kernel
theorem dX10_entitled_25 : decode cX10_entitled 25 = .ok (.getfield 16, 3) := by decide +kernel
theorem dX10_entitled_28 : decode cX10_entitled 28 = .ok (.bipush 17, 2) := by decide +kernel
theorem dX10_entitled_30 : decode cX10_entitled 30 = .ok (.iload_n 3, 1) := by decide +kernel
theorem dX10_entitled_31 : decode cX10_entitled 31 = .ok (.iadd, 1) := by decide +kernel
theorem dX10_entitled_32 : decode cX10_entitled 32 = .ok (.iaload, 1) := by decide +kernel
theorem dX10_entitled_33 : decode cX10_entitled 33 = .ok (.goto 4, 3) := by decide +kernel
theorem dX10_entitled_36 : decode cX10_entitled 36 = .ok (.iconst 0, 1) := by decide +kernel
theorem dX10_entitled_37 : decode cX10_entitled 37 = .ok (.iadd, 1) := by decide +kernel
theorem dX10_entitled_38 : decode cX10_entitled 38 = .ok (.istore_n 2, 1) := by decide +kernel
theorem dX10_entitled_39 : decode cX10_entitled 39 = .ok (.iinc 3 1, 3) := by decide +kernel
theorem dX10_entitled_42 : decode cX10_entitled 42 = .ok (.goto (-38), 3) := by decide +kernel
theorem dX10_entitled_45 : decode cX10_entitled 45 = .ok (.iload_n 2, 1) := by decide +kernel
theorem dX10_entitled_46 : decode cX10_entitled 46 = .ok (.ireturn, 1) := by decide +kernel
theorem dX10_backs_0 : decode cX10_backs 0 = .ok (.aload_n 0, 1) := by decide +kernel
theorem dX10_backs_1 : decode cX10_backs 1 = .ok (.iload_n 1, 1) := by decide +kernel
theorem dX10_backs_2 : decode cX10_backs 2 = .ok (.iload_n 2, 1) := by decide +kernel
theorem dX10_backs_3 : decode cX10_backs 3 = .ok (.invokevirtual 116, 3) := by decide +kernel
theorem dX10_backs_6 : decode cX10_backs 6 = .ok (.ifCond .ne 9, 3) := by decide +kernel
theorem dX10_backs_9 : decode cX10_backs 9 = .ok (.aload_n 0, 1) := by decide +kernel
theorem dX10_backs_10 : decode cX10_backs 10 = .ok (.iconst 1, 1) := by decide +kernel
theorem dX10_backs_11 : decode cX10_backs 11 = .ok (.invokevirtual 72, 3) := by decide +kernel
theorem dX10_backs_14 : decode cX10_backs 14 = .ok (.ireturn, 1) := by decide +kernel
theorem dX10_backs_15 : decode cX10_backs 15 = .ok (.aload_n 0, 1) := by decide +kernel
theorem dX10_backs_16 : decode cX10_backs 16 = .ok (.iload_n 1, 1) := by decide +kernel
theorem dX10_backs_17 : decode cX10_backs 17 = .ok (.iload_n 2, 1) := by decide +kernel
theorem dX10_backs_18 : decode cX10_backs 18 = .ok (.invokevirtual 120, 3) := by decide +kernel
theorem dX10_backs_21 : decode cX10_backs 21 = .ok (.ifCond .ne 9, 3) := by decide +kernel
theorem dX10_backs_24 : decode cX10_backs 24 = .ok (.aload_n 0, 1) := by decide +kernel
theorem dX10_backs_25 : decode cX10_backs 25 = .ok (.iconst 2, 1) := by decide +kernel
theorem dX10_backs_26 : decode cX10_backs 26 = .ok (.invokevirtual 72, 3) := by decide +kernel
theorem dX10_backs_29 : decode cX10_backs 29 = .ok (.ireturn, 1) := by decide +kernel
theorem dX10_backs_30 : decode cX10_backs 30 = .ok (.aload_n 0, 1) := by decide +kernel
theorem dX10_backs_31 : decode cX10_backs 31 = .ok (.iload_n 1, 1) := by decide +kernel
theorem dX10_backs_32 : decode cX10_backs 32 = .ok (.invokevirtual 123, 3) := by decide +kernel
theorem dX10_backs_35 : decode cX10_backs 35 = .ok (.ifCond .eq 9, 3) := by decide +kernel
theorem dX10_backs_38 : decode cX10_backs 38 = .ok (.aload_n 0, 1) := by decide +kernel
theorem dX10_backs_39 : decode cX10_backs 39 = .ok (.iconst 3, 1) := by decide +kernel
theorem dX10_backs_40 : decode cX10_backs 40 = .ok (.invokevirtual 72, 3) := by decide +kernel
theorem dX10_backs_43 : decode cX10_backs 43 = .ok (.ireturn, 1) := by decide +kernel
theorem dX10_backs_44 : decode cX10_backs 44 = .ok (.aload_n 0, 1) := by decide +kernel
theorem dX10_backs_45 : decode cX10_backs 45 = .ok (.iload_n 2, 1) := by decide +kernel
theorem dX10_backs_46 : decode cX10_backs 46 = .ok (.invokevirtual 97, 3) := by decide +kernel
theorem dX10_backs_49 : decode cX10_backs 49 = .ok (.ifCond .ne 9, 3) := by decide +kernel
theorem dX10_backs_52 : decode cX10_backs 52 = .ok (.aload_n 0, 1) := by decide +kernel
theorem dX10_backs_53 : decode cX10_backs 53 = .ok (.iconst 4, 1) := by decide +kernel
theorem dX10_backs_54 : decode cX10_backs 54 = .ok (.invokevirtual 72, 3) := by decide +kernel
theorem dX10_backs_57 : decode cX10_backs 57 = .ok (.ireturn, 1) := by decide +kernel
theorem dX10_backs_58 : decode cX10_backs 58 = .ok (.aload_n 0, 1) := by decide +kernel
theorem dX10_backs_59 : decode cX10_backs 59 = .ok (.getfield 16, 3) := by decide +kernel
theorem dX10_backs_62 : decode cX10_backs 62 = .ok (.iload_n 1, 1) := by decide +kernel
theorem dX10_backs_63 : decode cX10_backs 63 = .ok (.iconst 4, 1) := by decide +kernel
theorem dX10_backs_64 : decode cX10_backs 64 = .ok (.invokestatic 65, 3) := by decide +kernel
theorem dX10_backs_67 : decode cX10_backs 67 = .ok (.dup2, 1) := by decide +kernel
theorem dX10_backs_68 : decode cX10_backs 68 = .ok (.iaload, 1) := by decide +kernel
theorem dX10_backs_69 : decode cX10_backs 69 = .ok (.iconst 1, 1) := by decide +kernel
theorem dX10_backs_70 : decode cX10_backs 70 = .ok (.iload_n 2, 1) := by decide +kernel
theorem dX10_backs_71 : decode cX10_backs 71 = .ok (.ishl, 1) := by decide +kernel
theorem dX10_backs_72 : decode cX10_backs 72 = .ok (.ior, 1) := by decide +kernel
theorem dX10_backs_73 : decode cX10_backs 73 = .ok (.iastore, 1) := by decide +kernel
theorem dX10_backs_74 : decode cX10_backs 74 = .ok (.aload_n 0, 1) := by decide +kernel
theorem dX10_backs_75 : decode cX10_backs 75 = .ok (.getfield 16, 3) := by decide +kernel
theorem dX10_backs_78 : decode cX10_backs 78 = .ok (.iload_n 1, 1) := by decide +kernel
theorem dX10_backs_79 : decode cX10_backs 79 = .ok (.iconst 1, 1) := by decide +kernel
theorem dX10_backs_80 : decode cX10_backs 80 = .ok (.invokestatic 65, 3) := by decide +kernel
theorem dX10_backs_83 : decode cX10_backs 83 = .ok (.iconst 2, 1) := by decide +kernel
theorem dX10_backs_84 : decode cX10_backs 84 = .ok (.aload_n 0, 1) := by decide +kernel
theorem dX10_backs_85 : decode cX10_backs 85 = .ok (.iload_n 1, 1) := by decide +kernel
theorem dX10_backs_86 : decode cX10_backs 86 = .ok (.invokevirtual 154, 3) := by decide +kernel
theorem dX10_backs_89 : decode cX10_backs 89 = .ok (.imul, 1) := by decide +kernel
theorem dX10_backs_90 : decode cX10_backs 90 = .ok (.aload_n 0, 1) := by decide +kernel
theorem dX10_backs_91 : decode cX10_backs 91 = .ok (.iload_n 1, 1) := by decide +kernel
theorem dX10_backs_92 : decode cX10_backs 92 = .ok (.invokevirtual 157, 3) := by decide +kernel
theorem dX10_backs_95 : decode cX10_backs 95 = .ok (.if_icmp .le 7, 3) := by decide +kernel
theorem dX10_backs_98 : decode cX10_backs 98 = .ok (.iconst 1, 1) := by decide +kernel
theorem dX10_backs_99 : decode cX10_backs 99 = .ok (.goto 4, 3) := by decide +kernel
theorem dX10_backs_102 : decode cX10_backs 102 = .ok (.iconst 0, 1) := by decide +kernel
theorem dX10_backs_103 : decode cX10_backs 103 = .ok (.iastore, 1) := by decide +kernel
theorem dX10_backs_104 : decode cX10_backs 104 = .ok (.aload_n 0, 1) := by decide +kernel
theorem dX10_backs_105 : decode cX10_backs 105 = .ok (.getfield 16, 3) := by decide +kernel
theorem dX10_backs_108 : decode cX10_backs 108 = .ok (.iload_n 1, 1) := by decide +kernel
theorem dX10_backs_109 : decode cX10_backs 109 = .ok (.iconst 1, 1) := by decide +kernel
theorem dX10_backs_110 : decode cX10_backs 110 = .ok (.invokestatic 65, 3) := by decide +kernel
theorem dX10_backs_113 : decode cX10_backs 113 = .ok (.iaload, 1) := by decide +kernel
theorem dX10_backs_114 : decode cX10_backs 114 = .ok (.ireturn, 1) := by decide +kernel
theorem dX10_supportClosure_0 : decode cX10_supportClosure 0 = .ok (.aload_n 0, 1) := by decide +kernel
theorem dX10_supportClosure_1 : decode cX10_supportClosure 1 = .ok (.invokevirtual 76, 3) := by decide +kernel
theorem dX10_supportClosure_4 : decode cX10_supportClosure 4 = .ok (.aload_n 0, 1) := by decide +kernel
theorem dX10_supportClosure_5 : decode cX10_supportClosure 5 = .ok (.aload_n 0, 1) := by decide +kernel
theorem dX10_supportClosure_6 : decode cX10_supportClosure 6 = .ok (.iload_n 1, 1) := by decide +kernel
theorem dX10_supportClosure_7 : decode cX10_supportClosure 7 = .ok (.iload_n 2, 1) := by decide +kernel
theorem dX10_supportClosure_8 : decode cX10_supportClosure 8 = .ok (.invokevirtual 160, 3) := by decide +kernel
theorem dX10_supportClosure_11 : decode cX10_supportClosure 11 = .ok (.invokevirtual 82, 3) := by decide +kernel
theorem dX10_supportClosure_14 : decode cX10_supportClosure 14 = .ok (.iconst 1, 1) := by decide +kernel
theorem dX10_supportClosure_15 : decode cX10_supportClosure 15 = .ok (.if_icmp .ne 7, 3) := by decide +kernel
theorem dX10_supportClosure_18 : decode cX10_supportClosure 18 = .ok (.iconst 1, 1) := by decide +kernel
theorem dX10_supportClosure_19 : decode cX10_supportClosure 19 = .ok (.goto 4, 3) := by decide +kernel
theorem dX10_supportClosure_22 : decode cX10_supportClosure 22 = .ok (.iconst 0, 1) := by decide +kernel
theorem dX10_supportClosure_23 : decode cX10_supportClosure 23 = .ok (.ireturn, 1) := by decide +kernel
theorem dX10_isListClosed_0 : decode cX10_isListClosed 0 = .ok (.aload_n 0, 1) := by decide +kernel
theorem dX10_isListClosed_1 : decode cX10_isListClosed 1 = .ok (.iload_n 1, 1) := by decide +kernel
theorem dX10_isListClosed_2 : decode cX10_isListClosed 2 = .ok (.iconst 1, 1) := by decide +kernel
theorem dX10_isListClosed_3 : decode cX10_isListClosed 3 = .ok (.invokevirtual 148, 3) := by decide +kernel
theorem dX10_isListClosed_6 : decode cX10_isListClosed 6 = .ok (.iconst 1, 1) := by decide +kernel
theorem dX10_isListClosed_7 : decode cX10_isListClosed 7 = .ok (.if_icmp .ne 7, 3) := by decide +kernel
theorem dX10_isListClosed_10 : decode cX10_isListClosed 10 = .ok (.iconst 1, 1) := by decide +kernel
theorem dX10_isListClosed_11 : decode cX10_isListClosed 11 = .ok (.goto 4, 3) := by decide +kernel
theorem dX10_isListClosed_14 : decode cX10_isListClosed 14 = .ok (.iconst 0, 1) := by decide +kernel
theorem dX10_isListClosed_15 : decode cX10_isListClosed 15 = .ok (.ireturn, 1) := by decide +kernel
theorem dX10_closureWeight_0 : decode cX10_closureWeight 0 = .ok (.aload_n 0, 1) := by decide +kernel
theorem dX10_closureWeight_1 : decode cX10_closureWeight 1 = .ok (.aload_n 0, 1) := by decide +kernel
theorem dX10_closureWeight_2 : decode cX10_closureWeight 2 = .ok (.iload_n 1, 1) := by decide +kernel
theorem dX10_closureWeight_3 : decode cX10_closureWeight 3 = .ok (.invokevirtual 58, 3) := by decide +kernel
theorem dX10_closureWeight_6 : decode cX10_closureWeight 6 = .ok (.ifCond .eq 7, 3) := by decide +kernel
theorem dX10_closureWeight_9 : decode cX10_closureWeight 9 = .ok (.iconst 0, 1) := by decide +kernel
theorem dX10_closureWeight_10 : decode cX10_closureWeight 10 = .ok (.goto 4, 3) := by decide +kernel
theorem dX10_closureWeight_13 : decode cX10_closureWeight 13 = .ok (.iconst 1, 1) := by decide +kernel
theorem dX10_closureWeight_14 : decode cX10_closureWeight 14 = .ok (.putfield 44, 3) := by decide +kernel
theorem dX10_closureWeight_17 : decode cX10_closureWeight 17 = .ok (.aload_n 0, 1) := by decide +kernel
theorem dX10_closureWeight_18 : decode cX10_closureWeight 18 = .ok (.getfield 44, 3) := by decide +kernel
theorem dX10_closureWeight_21 : decode cX10_closureWeight 21 = .ok (.ifCond .ne 11, 3) := by decide +kernel
theorem dX10_closureWeight_24 : decode cX10_closureWeight 24 = .ok (.aload_n 0, 1) := by decide +kernel
theorem dX10_closureWeight_25 : decode cX10_closureWeight 25 = .ok (.iload_n 1, 1) := by decide +kernel
theorem dX10_closureWeight_26 : decode cX10_closureWeight 26 = .ok (.invokevirtual 154, 3) := by decide +kernel
theorem dX10_closureWeight_29 : decode cX10_closureWeight 29 = .ok (.goto 4, 3) := by decide +kernel
theorem dX10_closureWeight_32 : decode cX10_closureWeight 32 = .ok (.iconst 0, 1) := by decide +kernel
theorem dX10_closureWeight_33 : decode cX10_closureWeight 33 = .ok (.ireturn, 1) := by decide +kernel
theorem dX10_entitledWeight_0 : decode cX10_entitledWeight 0 = .ok (.aload_n 0, 1) := by decide +kernel
theorem dX10_entitledWeight_1 : decode cX10_entitledWeight 1 = .ok (.aload_n 0, 1) := by decide +kernel
theorem dX10_entitledWeight_2 : decode cX10_entitledWeight 2 = .ok (.iload_n 1, 1) := by decide +kernel
theorem dX10_entitledWeight_3 : decode cX10_entitledWeight 3 = .ok (.invokevirtual 58, 3) := by decide +kernel
theorem dX10_entitledWeight_6 : decode cX10_entitledWeight 6 = .ok (.ifCond .eq 7, 3) := by decide +kernel
theorem dX10_entitledWeight_9 : decode cX10_entitledWeight 9 = .ok (.iconst 0, 1) := by decide +kernel
theorem dX10_entitledWeight_10 : decode cX10_entitledWeight 10 = .ok (.goto 4, 3) := by decide +kernel
theorem dX10_entitledWeight_13 : decode cX10_entitledWeight 13 = .ok (.iconst 1, 1) := by decide +kernel
theorem dX10_entitledWeight_14 : decode cX10_entitledWeight 14 = .ok (.putfield 44, 3) := by decide +kernel
theorem dX10_entitledWeight_17 : decode cX10_entitledWeight 17 = .ok (.aload_n 0, 1) := by decide +kernel
theorem dX10_entitledWeight_18 : decode cX10_entitledWeight 18 = .ok (.getfield 44, 3) := by decide +kernel
theorem dX10_entitledWeight_21 : decode cX10_entitledWeight 21 = .ok (.ifCond .ne 11, 3) := by decide +kernel
theorem dX10_entitledWeight_24 : decode cX10_entitledWeight 24 = .ok (.aload_n 0, 1) := by decide +kernel
theorem dX10_entitledWeight_25 : decode cX10_entitledWeight 25 = .ok (.iload_n 1, 1) := by decide +kernel
theorem dX10_entitledWeight_26 : decode cX10_entitledWeight 26 = .ok (.invokevirtual 157, 3) := by decide +kernel
theorem dX10_entitledWeight_29 : decode cX10_entitledWeight 29 = .ok (.goto 4, 3) := by decide +kernel
theorem dX10_entitledWeight_32 : decode cX10_entitledWeight 32 = .ok (.iconst 0, 1) := by decide +kernel
theorem dX10_entitledWeight_33 : decode cX10_entitledWeight 33 = .ok (.ireturn, 1) := by decide +kernel
theorem dX10_isDue_0 : decode cX10_isDue 0 = .ok (.aload_n 0, 1) := by decide +kernel
theorem dX10_isDue_1 : decode cX10_isDue 1 = .ok (.getfield 16, 3) := by decide +kernel
theorem dX10_isDue_4 : decode cX10_isDue 4 = .ok (.iload_n 1, 1) := by decide +kernel
theorem dX10_isDue_5 : decode cX10_isDue 5 = .ok (.iconst 2, 1) := by decide +kernel
theorem dX10_isDue_6 : decode cX10_isDue 6 = .ok (.invokestatic 65, 3) := by decide +kernel
theorem dX10_isDue_9 : decode cX10_isDue 9 = .ok (.iaload, 1) := by decide +kernel
theorem dX10_isDue_10 : decode cX10_isDue 10 = .ok (.ifCond .ne 34, 3) := by decide +kernel
theorem dX10_isDue_13 : decode cX10_isDue 13 = .ok (.aload_n 0, 1) := by decide +kernel
theorem dX10_isDue_14 : decode cX10_isDue 14 = .ok (.getfield 16, 3) := by decide +kernel
theorem dX10_isDue_17 : decode cX10_isDue 17 = .ok (.iload_n 1, 1) := by decide +kernel
theorem dX10_isDue_18 : decode cX10_isDue 18 = .ok (.iconst 1, 1) := by decide +kernel
theorem dX10_isDue_19 : decode cX10_isDue 19 = .ok (.invokestatic 65, 3) := by decide +kernel
theorem dX10_isDue_22 : decode cX10_isDue 22 = .ok (.iaload, 1) := by decide +kernel
theorem dX10_isDue_23 : decode cX10_isDue 23 = .ok (.iconst 1, 1) := by decide +kernel
theorem dX10_isDue_24 : decode cX10_isDue 24 = .ok (.if_icmp .ne 20, 3) := by decide +kernel
theorem dX10_isDue_27 : decode cX10_isDue 27 = .ok (.aload_n 0, 1) := by decide +kernel
theorem dX10_isDue_28 : decode cX10_isDue 28 = .ok (.getfield 16, 3) := by decide +kernel
theorem dX10_isDue_31 : decode cX10_isDue 31 = .ok (.iload_n 1, 1) := by decide +kernel
theorem dX10_isDue_32 : decode cX10_isDue 32 = .ok (.iconst 5, 1) := by decide +kernel
theorem dX10_isDue_33 : decode cX10_isDue 33 = .ok (.invokestatic 65, 3) := by decide +kernel
theorem dX10_isDue_36 : decode cX10_isDue 36 = .ok (.iaload, 1) := by decide +kernel
theorem dX10_isDue_37 : decode cX10_isDue 37 = .ok (.ifCond .ne 7, 3) := by decide +kernel
theorem dX10_isDue_40 : decode cX10_isDue 40 = .ok (.iconst 1, 1) := by decide +kernel
theorem dX10_isDue_41 : decode cX10_isDue 41 = .ok (.goto 4, 3) := by decide +kernel
theorem dX10_isDue_44 : decode cX10_isDue 44 = .ok (.iconst 0, 1) := by decide +kernel
theorem dX10_isDue_45 : decode cX10_isDue 45 = .ok (.ireturn, 1) := by decide +kernel
theorem dX10_strength_0 : decode cX10_strength 0 = .ok (.aload_n 0, 1) := by decide +kernel
theorem dX10_strength_1 : decode cX10_strength 1 = .ok (.getfield 16, 3) := by decide +kernel
theorem dX10_strength_4 : decode cX10_strength 4 = .ok (.iload_n 1, 1) := by decide +kernel
theorem dX10_strength_5 : decode cX10_strength 5 = .ok (.iload_n 2, 1) := by decide +kernel
theorem dX10_strength_6 : decode cX10_strength 6 = .ok (.invokestatic 163, 3) := by decide +kernel
theorem dX10_strength_9 : decode cX10_strength 9 = .ok (.iconst 1, 1) := by decide +kernel
theorem dX10_strength_10 : decode cX10_strength 10 = .ok (.iadd, 1) := by decide +kernel
theorem dX10_strength_11 : decode cX10_strength 11 = .ok (.iaload, 1) := by decide +kernel
theorem dX10_strength_12 : decode cX10_strength 12 = .ok (.aload_n 0, 1) := by decide +kernel
theorem dX10_strength_13 : decode cX10_strength 13 = .ok (.getfield 16, 3) := by decide +kernel
theorem dX10_strength_16 : decode cX10_strength 16 = .ok (.bipush 17, 2) := by decide +kernel
theorem dX10_strength_18 : decode cX10_strength 18 = .ok (.aload_n 0, 1) := by decide +kernel
theorem dX10_strength_19 : decode cX10_strength 19 = .ok (.getfield 16, 3) := by decide +kernel
theorem dX10_strength_22 : decode cX10_strength 22 = .ok (.iload_n 1, 1) := by decide +kernel
theorem dX10_strength_23 : decode cX10_strength 23 = .ok (.iload_n 2, 1) := by decide +kernel
theorem dX10_strength_24 : decode cX10_strength 24 = .ok (.invokestatic 163, 3) := by decide +kernel
theorem dX10_strength_27 : decode cX10_strength 27 = .ok (.iaload, 1) := by decide +kernel
theorem dX10_strength_28 : decode cX10_strength 28 = .ok (.iadd, 1) := by decide +kernel
theorem dX10_strength_29 : decode cX10_strength 29 = .ok (.iaload, 1) := by decide +kernel
theorem dX10_strength_30 : decode cX10_strength 30 = .ok (.imul, 1) := by decide +kernel
theorem dX10_strength_31 : decode cX10_strength 31 = .ok (.ireturn, 1) := by decide +kernel
theorem dX10_sum_0 : decode cX10_sum 0 = .ok (.iconst 0, 1) := by decide +kernel
theorem dX10_sum_1 : decode cX10_sum 1 = .ok (.istore_n 3, 1) := by decide +kernel
theorem dX10_sum_2 : decode cX10_sum 2 = .ok (.iconst 0, 1) := by decide +kernel
theorem dX10_sum_3 : decode cX10_sum 3 = .ok (.istore 4, 2) := by decide +kernel
theorem dX10_sum_5 : decode cX10_sum 5 = .ok (.iload 4, 2) := by decide +kernel
theorem dX10_sum_7 : decode cX10_sum 7 = .ok (.aload_n 0, 1) := by decide +kernel
theorem dX10_sum_8 : decode cX10_sum 8 = .ok (.getfield 16, 3) := by decide +kernel
theorem dX10_sum_11 : decode cX10_sum 11 = .ok (.iload_n 1, 1) := by decide +kernel
theorem dX10_sum_12 : decode cX10_sum 12 = .ok (.bipush 7, 2) := by decide +kernel
theorem dX10_sum_14 : decode cX10_sum 14 = .ok (.invokestatic 65, 3) := by decide +kernel
theorem dX10_sum_17 : decode cX10_sum 17 = .ok (.iaload, 1) := by decide +kernel
theorem dX10_sum_18 : decode cX10_sum 18 = .ok (.if_icmp .ge 40, 3) := by decide +kernel
theorem dX10_sum_21 : decode cX10_sum 21 = .ok (.iload_n 3, 1) := by decide +kernel
theorem dX10_sum_22 : decode cX10_sum 22 = .ok (.aload_n 0, 1) := by decide +kernel
theorem dX10_sum_23 : decode cX10_sum 23 = .ok (.getfield 16, 3) := by decide +kernel
theorem dX10_sum_26 : decode cX10_sum 26 = .ok (.iload_n 1, 1) := by decide +kernel
theorem dX10_sum_27 : decode cX10_sum 27 = .ok (.iload 4, 2) := by decide +kernel
theorem dX10_sum_29 : decode cX10_sum 29 = .ok (.invokestatic 163, 3) := by decide +kernel
theorem dX10_sum_32 : decode cX10_sum 32 = .ok (.iconst 2, 1) := by decide +kernel
theorem dX10_sum_33 : decode cX10_sum 33 = .ok (.iadd, 1) := by decide +kernel
theorem dX10_sum_34 : decode cX10_sum 34 = .ok (.iaload, 1) := by decide +kernel
theorem dX10_sum_35 : decode cX10_sum 35 = .ok (.iload_n 2, 1) := by decide +kernel
theorem dX10_sum_36 : decode cX10_sum 36 = .ok (.if_icmp .ne 13, 3) := by decide +kernel
theorem dX10_sum_39 : decode cX10_sum 39 = .ok (.aload_n 0, 1) := by decide +kernel
theorem dX10_sum_40 : decode cX10_sum 40 = .ok (.iload_n 1, 1) := by decide +kernel
theorem dX10_sum_41 : decode cX10_sum 41 = .ok (.iload 4, 2) := by decide +kernel
theorem dX10_sum_43 : decode cX10_sum 43 = .ok (.invokevirtual 166, 3) := by decide +kernel
theorem dX10_sum_46 : decode cX10_sum 46 = .ok (.goto 4, 3) := by decide +kernel
theorem dX10_sum_49 : decode cX10_sum 49 = .ok (.iconst 0, 1) := by decide +kernel
theorem dX10_sum_50 : decode cX10_sum 50 = .ok (.iadd, 1) := by decide +kernel
theorem dX10_sum_51 : decode cX10_sum 51 = .ok (.istore_n 3, 1) := by decide +kernel
theorem dX10_sum_52 : decode cX10_sum 52 = .ok (.iinc 4 1, 3) := by decide +kernel
theorem dX10_sum_55 : decode cX10_sum 55 = .ok (.goto (-50), 3) := by decide +kernel
theorem dX10_sum_58 : decode cX10_sum 58 = .ok (.iload_n 3, 1) := by decide +kernel
theorem dX10_sum_59 : decode cX10_sum 59 = .ok (.ireturn, 1) := by decide +kernel
theorem dX10_hasCroaked_0 : decode cX10_hasCroaked 0 = .ok (.iconst 0, 1) := by decide +kernel
theorem dX10_hasCroaked_1 : decode cX10_hasCroaked 1 = .ok (.istore_n 3, 1) := by decide +kernel
theorem dX10_hasCroaked_2 : decode cX10_hasCroaked 2 = .ok (.iload_n 3, 1) := by decide +kernel
theorem dX10_hasCroaked_3 : decode cX10_hasCroaked 3 = .ok (.aload_n 0, 1) := by decide +kernel
theorem dX10_hasCroaked_4 : decode cX10_hasCroaked 4 = .ok (.getfield 16, 3) := by decide +kernel
theorem dX10_hasCroaked_7 : decode cX10_hasCroaked 7 = .ok (.iload_n 1, 1) := by decide +kernel
theorem dX10_hasCroaked_8 : decode cX10_hasCroaked 8 = .ok (.bipush 7, 2) := by decide +kernel
theorem dX10_hasCroaked_10 : decode cX10_hasCroaked 10 = .ok (.invokestatic 65, 3) := by decide +kernel
theorem dX10_hasCroaked_13 : decode cX10_hasCroaked 13 = .ok (.iaload, 1) := by decide +kernel
theorem dX10_hasCroaked_14 : decode cX10_hasCroaked 14 = .ok (.if_icmp .ge 25, 3) := by decide +kernel
theorem dX10_hasCroaked_17 : decode cX10_hasCroaked 17 = .ok (.aload_n 0, 1) := by decide +kernel
theorem dX10_hasCroaked_18 : decode cX10_hasCroaked 18 = .ok (.getfield 16, 3) := by decide +kernel
theorem dX10_hasCroaked_21 : decode cX10_hasCroaked 21 = .ok (.iload_n 1, 1) := by decide +kernel
theorem dX10_hasCroaked_22 : decode cX10_hasCroaked 22 = .ok (.iload_n 3, 1) := by decide +kernel
theorem dX10_hasCroaked_23 : decode cX10_hasCroaked 23 = .ok (.invokestatic 163, 3) := by decide +kernel
theorem dX10_hasCroaked_26 : decode cX10_hasCroaked 26 = .ok (.iaload, 1) := by decide +kernel
theorem dX10_hasCroaked_27 : decode cX10_hasCroaked 27 = .ok (.iload_n 2, 1) := by decide +kernel
theorem dX10_hasCroaked_28 : decode cX10_hasCroaked 28 = .ok (.if_icmp .ne 5, 3) := by decide +kernel
theorem dX10_hasCroaked_31 : decode cX10_hasCroaked 31 = .ok (.iconst 1, 1) := by decide +kernel
theorem dX10_hasCroaked_32 : decode cX10_hasCroaked 32 = .ok (.ireturn, 1) := by decide +kernel
theorem dX10_hasCroaked_33 : decode cX10_hasCroaked 33 = .ok (.iinc 3 1, 3) := by decide +kernel
theorem dX10_hasCroaked_36 : decode cX10_hasCroaked 36 = .ok (.goto (-34), 3) := by decide +kernel
theorem dX10_hasCroaked_39 : decode cX10_hasCroaked 39 = .ok (.iconst 0, 1) := by decide +kernel
theorem dX10_hasCroaked_40 : decode cX10_hasCroaked 40 = .ok (.ireturn, 1) := by decide +kernel
theorem dX10_croaks_0 : decode cX10_croaks 0 = .ok (.aload_n 0, 1) := by decide +kernel
theorem dX10_croaks_1 : decode cX10_croaks 1 = .ok (.iload_n 1, 1) := by decide +kernel
theorem dX10_croaks_2 : decode cX10_croaks 2 = .ok (.iload_n 2, 1) := by decide +kernel
theorem dX10_croaks_3 : decode cX10_croaks 3 = .ok (.invokevirtual 116, 3) := by decide +kernel
theorem dX10_croaks_6 : decode cX10_croaks 6 = .ok (.ifCond .ne 9, 3) := by decide +kernel
theorem dX10_croaks_9 : decode cX10_croaks 9 = .ok (.aload_n 0, 1) := by decide +kernel
theorem dX10_croaks_10 : decode cX10_croaks 10 = .ok (.iconst 1, 1) := by decide +kernel
theorem dX10_croaks_11 : decode cX10_croaks 11 = .ok (.invokevirtual 72, 3) := by decide +kernel
theorem dX10_croaks_14 : decode cX10_croaks 14 = .ok (.ireturn, 1) := by decide +kernel
theorem dX10_croaks_15 : decode cX10_croaks 15 = .ok (.iload_n 3, 1) := by decide +kernel
theorem dX10_croaks_16 : decode cX10_croaks 16 = .ok (.iconst 1, 1) := by decide +kernel
theorem dX10_croaks_17 : decode cX10_croaks 17 = .ok (.bipush 9, 2) := by decide +kernel
theorem dX10_croaks_19 : decode cX10_croaks 19 = .ok (.invokestatic 54, 3) := by decide +kernel
theorem dX10_croaks_22 : decode cX10_croaks 22 = .ok (.ifCond .eq 12, 3) := by decide +kernel
theorem dX10_croaks_25 : decode cX10_croaks 25 = .ok (.aload_n 0, 1) := by decide +kernel
theorem dX10_croaks_26 : decode cX10_croaks 26 = .ok (.iload_n 1, 1) := by decide +kernel
theorem dX10_croaks_27 : decode cX10_croaks 27 = .ok (.iload_n 2, 1) := by decide +kernel
theorem dX10_croaks_28 : decode cX10_croaks 28 = .ok (.invokevirtual 120, 3) := by decide +kernel
theorem dX10_croaks_31 : decode cX10_croaks 31 = .ok (.ifCond .ne 9, 3) := by decide +kernel
theorem dX10_croaks_34 : decode cX10_croaks 34 = .ok (.aload_n 0, 1) := by decide +kernel
theorem dX10_croaks_35 : decode cX10_croaks 35 = .ok (.iconst 2, 1) := by decide +kernel
theorem dX10_croaks_36 : decode cX10_croaks 36 = .ok (.invokevirtual 72, 3) := by decide +kernel
theorem dX10_croaks_39 : decode cX10_croaks 39 = .ok (.ireturn, 1) := by decide +kernel
theorem dX10_croaks_40 : decode cX10_croaks 40 = .ok (.aload_n 0, 1) := by decide +kernel
theorem dX10_croaks_41 : decode cX10_croaks 41 = .ok (.iload_n 1, 1) := by decide +kernel
theorem dX10_croaks_42 : decode cX10_croaks 42 = .ok (.invokevirtual 169, 3) := by decide +kernel
theorem dX10_croaks_45 : decode cX10_croaks 45 = .ok (.ifCond .ne 9, 3) := by decide +kernel
theorem dX10_croaks_48 : decode cX10_croaks 48 = .ok (.aload_n 0, 1) := by decide +kernel
theorem dX10_croaks_49 : decode cX10_croaks 49 = .ok (.iconst 3, 1) := by decide +kernel
theorem dX10_croaks_50 : decode cX10_croaks 50 = .ok (.invokevirtual 72, 3) := by decide +kernel
theorem dX10_croaks_53 : decode cX10_croaks 53 = .ok (.ireturn, 1) := by decide +kernel
theorem dX10_croaks_54 : decode cX10_croaks 54 = .ok (.aload_n 0, 1) := by decide +kernel
theorem dX10_croaks_55 : decode cX10_croaks 55 = .ok (.iload_n 2, 1) := by decide +kernel
theorem dX10_croaks_56 : decode cX10_croaks 56 = .ok (.invokevirtual 97, 3) := by decide +kernel
theorem dX10_croaks_59 : decode cX10_croaks 59 = .ok (.ifCond .eq 12, 3) := by decide +kernel
theorem dX10_croaks_62 : decode cX10_croaks 62 = .ok (.aload_n 0, 1) := by decide +kernel
theorem dX10_croaks_63 : decode cX10_croaks 63 = .ok (.iload_n 1, 1) := by decide +kernel
theorem dX10_croaks_64 : decode cX10_croaks 64 = .ok (.iload_n 2, 1) := by decide +kernel
theorem dX10_croaks_65 : decode cX10_croaks 65 = .ok (.invokevirtual 172, 3) := by decide +kernel
theorem dX10_croaks_68 : decode cX10_croaks 68 = .ok (.ifCond .eq 9, 3) := by decide +kernel
theorem dX10_croaks_71 : decode cX10_croaks 71 = .ok (.aload_n 0, 1) := by decide +kernel
theorem dX10_croaks_72 : decode cX10_croaks 72 = .ok (.iconst 4, 1) := by decide +kernel
theorem dX10_croaks_73 : decode cX10_croaks 73 = .ok (.invokevirtual 72, 3) := by decide +kernel
theorem dX10_croaks_76 : decode cX10_croaks 76 = .ok (.ireturn, 1) := by decide +kernel
theorem dX10_croaks_77 : decode cX10_croaks 77 = .ok (.iload_n 1, 1) := by decide +kernel
theorem dX10_croaks_78 : decode cX10_croaks 78 = .ok (.aload_n 0, 1) := by decide +kernel
theorem dX10_croaks_79 : decode cX10_croaks 79 = .ok (.getfield 16, 3) := by decide +kernel
theorem dX10_croaks_82 : decode cX10_croaks 82 = .ok (.iload_n 1, 1) := by decide +kernel
theorem dX10_croaks_83 : decode cX10_croaks 83 = .ok (.bipush 7, 2) := by decide +kernel
theorem dX10_croaks_85 : decode cX10_croaks 85 = .ok (.invokestatic 65, 3) := by decide +kernel
theorem dX10_croaks_88 : decode cX10_croaks 88 = .ok (.iaload, 1) := by decide +kernel
theorem dX10_croaks_89 : decode cX10_croaks 89 = .ok (.invokestatic 163, 3) := by decide +kernel
theorem dX10_croaks_92 : decode cX10_croaks 92 = .ok (.istore 5, 2) := by decide +kernel
theorem dX10_croaks_94 : decode cX10_croaks 94 = .ok (.aload_n 0, 1) := by decide +kernel
theorem dX10_croaks_95 : decode cX10_croaks 95 = .ok (.getfield 16, 3) := by decide +kernel
theorem dX10_croaks_98 : decode cX10_croaks 98 = .ok (.iload 5, 2) := by decide +kernel
theorem dX10_croaks_100 : decode cX10_croaks 100 = .ok (.iload_n 2, 1) := by decide +kernel
theorem dX10_croaks_101 : decode cX10_croaks 101 = .ok (.iastore, 1) := by decide +kernel
theorem dX10_croaks_102 : decode cX10_croaks 102 = .ok (.aload_n 0, 1) := by decide +kernel
theorem dX10_croaks_103 : decode cX10_croaks 103 = .ok (.getfield 16, 3) := by decide +kernel
theorem dX10_croaks_106 : decode cX10_croaks 106 = .ok (.iload 5, 2) := by decide +kernel
theorem dX10_croaks_108 : decode cX10_croaks 108 = .ok (.iconst 1, 1) := by decide +kernel
theorem dX10_croaks_109 : decode cX10_croaks 109 = .ok (.iadd, 1) := by decide +kernel
theorem dX10_croaks_110 : decode cX10_croaks 110 = .ok (.iload_n 3, 1) := by decide +kernel
theorem dX10_croaks_111 : decode cX10_croaks 111 = .ok (.iastore, 1) := by decide +kernel
theorem dX10_croaks_112 : decode cX10_croaks 112 = .ok (.aload_n 0, 1) := by decide +kernel
theorem dX10_croaks_113 : decode cX10_croaks 113 = .ok (.getfield 16, 3) := by decide +kernel
theorem dX10_croaks_116 : decode cX10_croaks 116 = .ok (.iload 5, 2) := by decide +kernel
theorem dX10_croaks_118 : decode cX10_croaks 118 = .ok (.iconst 2, 1) := by decide +kernel
theorem dX10_croaks_119 : decode cX10_croaks 119 = .ok (.iadd, 1) := by decide +kernel
theorem dX10_croaks_120 : decode cX10_croaks 120 = .ok (.iload 4, 2) := by decide +kernel
theorem dX10_croaks_122 : decode cX10_croaks 122 = .ok (.iastore, 1) := by decide +kernel
theorem dX10_croaks_123 : decode cX10_croaks 123 = .ok (.aload_n 0, 1) := by decide +kernel
theorem dX10_croaks_124 : decode cX10_croaks 124 = .ok (.getfield 16, 3) := by decide +kernel
theorem dX10_croaks_127 : decode cX10_croaks 127 = .ok (.iload_n 1, 1) := by decide +kernel
theorem dX10_croaks_128 : decode cX10_croaks 128 = .ok (.bipush 7, 2) := by decide +kernel
theorem dX10_croaks_130 : decode cX10_croaks 130 = .ok (.invokestatic 65, 3) := by decide +kernel
theorem dX10_croaks_133 : decode cX10_croaks 133 = .ok (.dup2, 1) := by decide +kernel
theorem dX10_croaks_134 : decode cX10_croaks 134 = .ok (.iaload, 1) := by decide +kernel
theorem dX10_croaks_135 : decode cX10_croaks 135 = .ok (.iconst 1, 1) := by decide +kernel
theorem dX10_croaks_136 : decode cX10_croaks 136 = .ok (.iadd, 1) := by decide +kernel
theorem dX10_croaks_137 : decode cX10_croaks 137 = .ok (.iastore, 1) := by decide +kernel
theorem dX10_croaks_138 : decode cX10_croaks 138 = .ok (.aload_n 0, 1) := by decide +kernel
theorem dX10_croaks_139 : decode cX10_croaks 139 = .ok (.iload_n 1, 1) := by decide +kernel
theorem dX10_croaks_140 : decode cX10_croaks 140 = .ok (.iload 4, 2) := by decide +kernel
theorem dX10_croaks_142 : decode cX10_croaks 142 = .ok (.invokevirtual 175, 3) := by decide +kernel
theorem dX10_croaks_145 : decode cX10_croaks 145 = .ok (.ireturn, 1) := by decide +kernel
theorem dX10_croak_0 : decode cX10_croak 0 = .ok (.aload_n 0, 1) := by decide +kernel
theorem dX10_croak_1 : decode cX10_croak 1 = .ok (.invokevirtual 76, 3) := by decide +kernel
theorem dX10_croak_4 : decode cX10_croak 4 = .ok (.aload_n 0, 1) := by decide +kernel
theorem dX10_croak_5 : decode cX10_croak 5 = .ok (.aload_n 0, 1) := by decide +kernel
theorem dX10_croak_6 : decode cX10_croak 6 = .ok (.iload_n 1, 1) := by decide +kernel
theorem dX10_croak_7 : decode cX10_croak 7 = .ok (.iload_n 2, 1) := by decide +kernel
theorem dX10_croak_8 : decode cX10_croak 8 = .ok (.iload_n 3, 1) := by decide +kernel
theorem dX10_croak_9 : decode cX10_croak 9 = .ok (.iload 4, 2) := by decide +kernel
theorem dX10_croak_11 : decode cX10_croak 11 = .ok (.ifCond .eq 7, 3) := by decide +kernel
theorem dX10_croak_14 : decode cX10_croak 14 = .ok (.iconst 1, 1) := by decide +kernel
theorem dX10_croak_15 : decode cX10_croak 15 = .ok (.goto 4, 3) := by decide +kernel
theorem dX10_croak_18 : decode cX10_croak 18 = .ok (.iconst 0, 1) := by decide +kernel
theorem dX10_croak_19 : decode cX10_croak 19 = .ok (.invokevirtual 178, 3) := by decide +kernel
theorem dX10_croak_22 : decode cX10_croak 22 = .ok (.invokevirtual 82, 3) := by decide +kernel
theorem dX10_croak_25 : decode cX10_croak 25 = .ok (.ireturn, 1) := by decide +kernel
theorem dX10_decides_0 : decode cX10_decides 0 = .ok (.aload_n 0, 1) := by decide +kernel
theorem dX10_decides_1 : decode cX10_decides 1 = .ok (.iload_n 1, 1) := by decide +kernel
theorem dX10_decides_2 : decode cX10_decides 2 = .ok (.invokevirtual 58, 3) := by decide +kernel
theorem dX10_decides_5 : decode cX10_decides 5 = .ok (.ifCond .ne 9, 3) := by decide +kernel
theorem dX10_decides_8 : decode cX10_decides 8 = .ok (.aload_n 0, 1) := by decide +kernel
theorem dX10_decides_9 : decode cX10_decides 9 = .ok (.iconst 1, 1) := by decide +kernel
theorem dX10_decides_10 : decode cX10_decides 10 = .ok (.invokevirtual 72, 3) := by decide +kernel
theorem dX10_decides_13 : decode cX10_decides 13 = .ok (.ireturn, 1) := by decide +kernel
theorem dX10_decides_14 : decode cX10_decides 14 = .ok (.aload_n 0, 1) := by decide +kernel
theorem dX10_decides_15 : decode cX10_decides 15 = .ok (.iload_n 1, 1) := by decide +kernel
theorem dX10_decides_16 : decode cX10_decides 16 = .ok (.invokevirtual 169, 3) := by decide +kernel
theorem dX10_decides_19 : decode cX10_decides 19 = .ok (.ifCond .ne 9, 3) := by decide +kernel
theorem dX10_decides_22 : decode cX10_decides 22 = .ok (.aload_n 0, 1) := by decide +kernel
theorem dX10_decides_23 : decode cX10_decides 23 = .ok (.iconst 2, 1) := by decide +kernel
theorem dX10_decides_24 : decode cX10_decides 24 = .ok (.invokevirtual 72, 3) := by decide +kernel
theorem dX10_decides_27 : decode cX10_decides 27 = .ok (.ireturn, 1) := by decide +kernel
theorem dX10_decides_28 : decode cX10_decides 28 = .ok (.aload_n 0, 1) := by decide +kernel
theorem dX10_decides_29 : decode cX10_decides 29 = .ok (.getfield 16, 3) := by decide +kernel
theorem dX10_decides_32 : decode cX10_decides 32 = .ok (.iload_n 1, 1) := by decide +kernel
theorem dX10_decides_33 : decode cX10_decides 33 = .ok (.iconst 2, 1) := by decide +kernel
theorem dX10_decides_34 : decode cX10_decides 34 = .ok (.invokestatic 65, 3) := by decide +kernel
theorem dX10_decides_37 : decode cX10_decides 37 = .ok (.iconst 1, 1) := by decide +kernel
theorem dX10_decides_38 : decode cX10_decides 38 = .ok (.iastore, 1) := by decide +kernel
theorem dX10_decides_39 : decode cX10_decides 39 = .ok (.aload_n 0, 1) := by decide +kernel
theorem dX10_decides_40 : decode cX10_decides 40 = .ok (.getfield 16, 3) := by decide +kernel
theorem dX10_decides_43 : decode cX10_decides 43 = .ok (.iload_n 1, 1) := by decide +kernel
theorem dX10_decides_44 : decode cX10_decides 44 = .ok (.iconst 3, 1) := by decide +kernel
theorem dX10_decides_45 : decode cX10_decides 45 = .ok (.invokestatic 65, 3) := by decide +kernel
theorem dX10_decides_48 : decode cX10_decides 48 = .ok (.aload_n 0, 1) := by decide +kernel
theorem dX10_decides_49 : decode cX10_decides 49 = .ok (.iload_n 1, 1) := by decide +kernel
theorem dX10_decides_50 : decode cX10_decides 50 = .ok (.iconst 1, 1) := by decide +kernel
theorem dX10_decides_51 : decode cX10_decides 51 = .ok (.invokevirtual 175, 3) := by decide +kernel
theorem dX10_decides_54 : decode cX10_decides 54 = .ok (.aload_n 0, 1) := by decide +kernel
theorem dX10_decides_55 : decode cX10_decides 55 = .ok (.iload_n 1, 1) := by decide +kernel
theorem dX10_decides_56 : decode cX10_decides 56 = .ok (.iconst 0, 1) := by decide +kernel
theorem dX10_decides_57 : decode cX10_decides 57 = .ok (.invokevirtual 175, 3) := by decide +kernel
theorem dX10_decides_60 : decode cX10_decides 60 = .ok (.if_icmp .le 7, 3) := by decide +kernel
theorem dX10_decides_63 : decode cX10_decides 63 = .ok (.iconst 1, 1) := by decide +kernel
theorem dX10_decides_64 : decode cX10_decides 64 = .ok (.goto 4, 3) := by decide +kernel
theorem dX10_decides_67 : decode cX10_decides 67 = .ok (.iconst 0, 1) := by decide +kernel
theorem dX10_decides_68 : decode cX10_decides 68 = .ok (.iastore, 1) := by decide +kernel
theorem dX10_decides_69 : decode cX10_decides 69 = .ok (.aload_n 0, 1) := by decide +kernel
theorem dX10_decides_70 : decode cX10_decides 70 = .ok (.getfield 16, 3) := by decide +kernel
theorem dX10_decides_73 : decode cX10_decides 73 = .ok (.iload_n 1, 1) := by decide +kernel
theorem dX10_decides_74 : decode cX10_decides 74 = .ok (.iconst 3, 1) := by decide +kernel
theorem dX10_decides_75 : decode cX10_decides 75 = .ok (.invokestatic 65, 3) := by decide +kernel
theorem dX10_decides_78 : decode cX10_decides 78 = .ok (.iaload, 1) := by decide +kernel
theorem dX10_decides_79 : decode cX10_decides 79 = .ok (.ireturn, 1) := by decide +kernel
theorem dX10_decide_0 : decode cX10_decide 0 = .ok (.aload_n 0, 1) := by decide +kernel
theorem dX10_decide_1 : decode cX10_decide 1 = .ok (.invokevirtual 76, 3) := by decide +kernel
theorem dX10_decide_4 : decode cX10_decide 4 = .ok (.aload_n 0, 1) := by decide +kernel
theorem dX10_decide_5 : decode cX10_decide 5 = .ok (.aload_n 0, 1) := by decide +kernel
theorem dX10_decide_6 : decode cX10_decide 6 = .ok (.iload_n 1, 1) := by decide +kernel
theorem dX10_decide_7 : decode cX10_decide 7 = .ok (.invokevirtual 182, 3) := by decide +kernel
theorem dX10_decide_10 : decode cX10_decide 10 = .ok (.invokevirtual 82, 3) := by decide +kernel
theorem dX10_decide_13 : decode cX10_decide 13 = .ok (.iconst 1, 1) := by decide +kernel
theorem dX10_decide_14 : decode cX10_decide 14 = .ok (.if_icmp .ne 7, 3) := by decide +kernel
theorem dX10_decide_17 : decode cX10_decide 17 = .ok (.iconst 1, 1) := by decide +kernel
theorem dX10_decide_18 : decode cX10_decide 18 = .ok (.goto 4, 3) := by decide +kernel
theorem dX10_decide_21 : decode cX10_decide 21 = .ok (.iconst 0, 1) := by decide +kernel
theorem dX10_decide_22 : decode cX10_decide 22 = .ok (.ireturn, 1) := by decide +kernel
theorem dX10_isDecided_0 : decode cX10_isDecided 0 = .ok (.aload_n 0, 1) := by decide +kernel
theorem dX10_isDecided_1 : decode cX10_isDecided 1 = .ok (.iload_n 1, 1) := by decide +kernel
theorem dX10_isDecided_2 : decode cX10_isDecided 2 = .ok (.iconst 2, 1) := by decide +kernel
theorem dX10_isDecided_3 : decode cX10_isDecided 3 = .ok (.invokevirtual 148, 3) := by decide +kernel
theorem dX10_isDecided_6 : decode cX10_isDecided 6 = .ok (.iconst 1, 1) := by decide +kernel
theorem dX10_isDecided_7 : decode cX10_isDecided 7 = .ok (.if_icmp .ne 7, 3) := by decide +kernel
theorem dX10_isDecided_10 : decode cX10_isDecided 10 = .ok (.iconst 1, 1) := by decide +kernel
theorem dX10_isDecided_11 : decode cX10_isDecided 11 = .ok (.goto 4, 3) := by decide +kernel
theorem dX10_isDecided_14 : decode cX10_isDecided 14 = .ok (.iconst 0, 1) := by decide +kernel
theorem dX10_isDecided_15 : decode cX10_isDecided 15 = .ok (.ireturn, 1) := by decide +kernel
theorem dX10_isAdopted_0 : decode cX10_isAdopted 0 = .ok (.aload_n 0, 1) := by decide +kernel
theorem dX10_isAdopted_1 : decode cX10_isAdopted 1 = .ok (.iload_n 1, 1) := by decide +kernel
theorem dX10_isAdopted_2 : decode cX10_isAdopted 2 = .ok (.iconst 3, 1) := by decide +kernel
theorem dX10_isAdopted_3 : decode cX10_isAdopted 3 = .ok (.invokevirtual 148, 3) := by decide +kernel
theorem dX10_isAdopted_6 : decode cX10_isAdopted 6 = .ok (.iconst 1, 1) := by decide +kernel
theorem dX10_isAdopted_7 : decode cX10_isAdopted 7 = .ok (.if_icmp .ne 7, 3) := by decide +kernel
theorem dX10_isAdopted_10 : decode cX10_isAdopted 10 = .ok (.iconst 1, 1) := by decide +kernel
theorem dX10_isAdopted_11 : decode cX10_isAdopted 11 = .ok (.goto 4, 3) := by decide +kernel
theorem dX10_isAdopted_14 : decode cX10_isAdopted 14 = .ok (.iconst 0, 1) := by decide +kernel
theorem dX10_isAdopted_15 : decode cX10_isAdopted 15 = .ok (.ireturn, 1) := by decide +kernel
theorem dX10_side_0 : decode cX10_side 0 = .ok (.aload_n 0, 1) := by decide +kernel
theorem dX10_side_1 : decode cX10_side 1 = .ok (.aload_n 0, 1) := by decide +kernel
theorem dX10_side_2 : decode cX10_side 2 = .ok (.iload_n 1, 1) := by decide +kernel
theorem dX10_side_3 : decode cX10_side 3 = .ok (.invokevirtual 58, 3) := by decide +kernel
theorem dX10_side_6 : decode cX10_side 6 = .ok (.ifCond .eq 7, 3) := by decide +kernel
theorem dX10_side_9 : decode cX10_side 9 = .ok (.iconst 0, 1) := by decide +kernel
theorem dX10_side_10 : decode cX10_side 10 = .ok (.goto 4, 3) := by decide +kernel
theorem dX10_side_13 : decode cX10_side 13 = .ok (.iconst 1, 1) := by decide +kernel
theorem dX10_side_14 : decode cX10_side 14 = .ok (.putfield 44, 3) := by decide +kernel
theorem dX10_side_17 : decode cX10_side 17 = .ok (.aload_n 0, 1) := by decide +kernel
theorem dX10_side_18 : decode cX10_side 18 = .ok (.getfield 44, 3) := by decide +kernel
theorem dX10_side_21 : decode cX10_side 21 = .ok (.ifCond .ne 12, 3) := by decide +kernel
theorem dX10_side_24 : decode cX10_side 24 = .ok (.aload_n 0, 1) := by decide +kernel
theorem dX10_side_25 : decode cX10_side 25 = .ok (.iload_n 1, 1) := by decide +kernel
theorem dX10_side_26 : decode cX10_side 26 = .ok (.iload_n 2, 1) := by decide +kernel
theorem dX10_side_27 : decode cX10_side 27 = .ok (.invokevirtual 175, 3) := by decide +kernel
theorem dX10_side_30 : decode cX10_side 30 = .ok (.goto 4, 3) := by decide +kernel
theorem dX10_side_33 : decode cX10_side 33 = .ok (.iconst 0, 1) := by decide +kernel
theorem dX10_side_34 : decode cX10_side 34 = .ok (.ireturn, 1) := by decide +kernel
theorem dX10_croaksFor_0 : decode cX10_croaksFor 0 = .ok (.aload_n 0, 1) := by decide +kernel
theorem dX10_croaksFor_1 : decode cX10_croaksFor 1 = .ok (.iload_n 1, 1) := by decide +kernel
theorem dX10_croaksFor_2 : decode cX10_croaksFor 2 = .ok (.iconst 1, 1) := by decide +kernel
theorem dX10_croaksFor_3 : decode cX10_croaksFor 3 = .ok (.invokevirtual 185, 3) := by decide +kernel
theorem dX10_croaksFor_6 : decode cX10_croaksFor 6 = .ok (.ireturn, 1) := by decide +kernel
theorem dX10_croaksForByPonds_0 : decode cX10_croaksForByPonds 0 = .ok (.aload_n 0, 1) := by decide +kernel
theorem dX10_croaksForByPonds_1 : decode cX10_croaksForByPonds 1 = .ok (.iload_n 1, 1) := by decide +kernel
theorem dX10_croaksForByPonds_2 : decode cX10_croaksForByPonds 2 = .ok (.iconst 1, 1) := by decide +kernel
theorem dX10_croaksForByPonds_3 : decode cX10_croaksForByPonds 3 = .ok (.invokevirtual 185, 3) := by decide +kernel
theorem dX10_croaksForByPonds_6 : decode cX10_croaksForByPonds 6 = .ok (.ireturn, 1) := by decide +kernel
theorem dX10_croaksAgainst_0 : decode cX10_croaksAgainst 0 = .ok (.aload_n 0, 1) := by decide +kernel
theorem dX10_croaksAgainst_1 : decode cX10_croaksAgainst 1 = .ok (.iload_n 1, 1) := by decide +kernel
theorem dX10_croaksAgainst_2 : decode cX10_croaksAgainst 2 = .ok (.iconst 0, 1) := by decide +kernel
theorem dX10_croaksAgainst_3 : decode cX10_croaksAgainst 3 = .ok (.invokevirtual 185, 3) := by decide +kernel
theorem dX10_croaksAgainst_6 : decode cX10_croaksAgainst 6 = .ok (.ireturn, 1) := by decide +kernel
theorem dX10_strongestFrog_0 : decode cX10_strongestFrog 0 = .ok (.aload_n 0, 1) := by decide +kernel
theorem dX10_strongestFrog_1 : decode cX10_strongestFrog 1 = .ok (.aload_n 0, 1) := by decide +kernel
theorem dX10_strongestFrog_2 : decode cX10_strongestFrog 2 = .ok (.iload_n 1, 1) := by decide +kernel
theorem dX10_strongestFrog_3 : decode cX10_strongestFrog 3 = .ok (.invokevirtual 58, 3) := by decide +kernel
theorem dX10_strongestFrog_6 : decode cX10_strongestFrog 6 = .ok (.ifCond .ne 7, 3) := by decide +kernel
theorem dX10_strongestFrog_9 : decode cX10_strongestFrog 9 = .ok (.iconst 1, 1) := by decide +kernel
theorem dX10_strongestFrog_10 : decode cX10_strongestFrog 10 = .ok (.goto 22, 3) := by decide +kernel
theorem dX10_strongestFrog_13 : decode cX10_strongestFrog 13 = .ok (.aload_n 0, 1) := by decide +kernel
theorem dX10_strongestFrog_14 : decode cX10_strongestFrog 14 = .ok (.getfield 16, 3) := by decide +kernel
theorem dX10_strongestFrog_17 : decode cX10_strongestFrog 17 = .ok (.iload_n 1, 1) := by decide +kernel
theorem dX10_strongestFrog_18 : decode cX10_strongestFrog 18 = .ok (.bipush 7, 2) := by decide +kernel
theorem dX10_strongestFrog_20 : decode cX10_strongestFrog 20 = .ok (.invokestatic 65, 3) := by decide +kernel
theorem dX10_strongestFrog_23 : decode cX10_strongestFrog 23 = .ok (.iaload, 1) := by decide +kernel
theorem dX10_strongestFrog_24 : decode cX10_strongestFrog 24 = .ok (.ifCond .ne 7, 3) := by decide +kernel
theorem dX10_strongestFrog_27 : decode cX10_strongestFrog 27 = .ok (.iconst 2, 1) := by decide +kernel
theorem dX10_strongestFrog_28 : decode cX10_strongestFrog 28 = .ok (.goto 4, 3) := by decide +kernel
theorem dX10_strongestFrog_31 : decode cX10_strongestFrog 31 = .ok (.iconst 0, 1) := by decide +kernel
theorem dX10_strongestFrog_32 : decode cX10_strongestFrog 32 = .ok (.putfield 44, 3) := by decide +kernel
theorem dX10_strongestFrog_35 : decode cX10_strongestFrog 35 = .ok (.aload_n 0, 1) := by decide +kernel
theorem dX10_strongestFrog_36 : decode cX10_strongestFrog 36 = .ok (.getfield 44, 3) := by decide +kernel
theorem dX10_strongestFrog_39 : decode cX10_strongestFrog 39 = .ok (.ifCond .eq 5, 3) := by decide +kernel
theorem dX10_strongestFrog_42 : decode cX10_strongestFrog 42 = .ok (.iconst 0, 1) := by decide +kernel
theorem dX10_strongestFrog_43 : decode cX10_strongestFrog 43 = .ok (.ireturn, 1) := by decide +kernel
theorem dX10_strongestFrog_44 : decode cX10_strongestFrog 44 = .ok (.iconst 0, 1) := by decide +kernel
theorem dX10_strongestFrog_45 : decode cX10_strongestFrog 45 = .ok (.istore_n 2, 1) := by decide +kernel
theorem dX10_strongestFrog_46 : decode cX10_strongestFrog 46 = .ok (.iconst 1, 1) := by decide +kernel
theorem dX10_strongestFrog_47 : decode cX10_strongestFrog 47 = .ok (.istore_n 3, 1) := by decide +kernel
theorem dX10_strongestFrog_48 : decode cX10_strongestFrog 48 = .ok (.iload_n 3, 1) := by decide +kernel
theorem dX10_strongestFrog_49 : decode cX10_strongestFrog 49 = .ok (.aload_n 0, 1) := by decide +kernel
theorem dX10_strongestFrog_50 : decode cX10_strongestFrog 50 = .ok (.getfield 16, 3) := by decide +kernel
theorem dX10_strongestFrog_53 : decode cX10_strongestFrog 53 = .ok (.iload_n 1, 1) := by decide +kernel
theorem dX10_strongestFrog_54 : decode cX10_strongestFrog 54 = .ok (.bipush 7, 2) := by decide +kernel
theorem dX10_strongestFrog_56 : decode cX10_strongestFrog 56 = .ok (.invokestatic 65, 3) := by decide +kernel
theorem dX10_strongestFrog_59 : decode cX10_strongestFrog 59 = .ok (.iaload, 1) := by decide +kernel
theorem dX10_strongestFrog_60 : decode cX10_strongestFrog 60 = .ok (.if_icmp .ge 26, 3) := by decide +kernel
theorem dX10_strongestFrog_63 : decode cX10_strongestFrog 63 = .ok (.aload_n 0, 1) := by decide +kernel
theorem dX10_strongestFrog_64 : decode cX10_strongestFrog 64 = .ok (.iload_n 1, 1) := by decide +kernel
theorem dX10_strongestFrog_65 : decode cX10_strongestFrog 65 = .ok (.iload_n 3, 1) := by decide +kernel
theorem dX10_strongestFrog_66 : decode cX10_strongestFrog 66 = .ok (.invokevirtual 166, 3) := by decide +kernel
theorem dX10_strongestFrog_69 : decode cX10_strongestFrog 69 = .ok (.aload_n 0, 1) := by decide +kernel
theorem dX10_strongestFrog_70 : decode cX10_strongestFrog 70 = .ok (.iload_n 1, 1) := by decide +kernel
theorem dX10_strongestFrog_71 : decode cX10_strongestFrog 71 = .ok (.iload_n 2, 1) := by decide +kernel
theorem dX10_strongestFrog_72 : decode cX10_strongestFrog 72 = .ok (.invokevirtual 166, 3) := by decide +kernel
theorem dX10_strongestFrog_75 : decode cX10_strongestFrog 75 = .ok (.if_icmp .le 5, 3) := by decide +kernel
theorem dX10_strongestFrog_78 : decode cX10_strongestFrog 78 = .ok (.iload_n 3, 1) := by decide +kernel
theorem dX10_strongestFrog_79 : decode cX10_strongestFrog 79 = .ok (.istore_n 2, 1) := by decide +kernel
theorem dX10_strongestFrog_80 : decode cX10_strongestFrog 80 = .ok (.iinc 3 1, 3) := by decide +kernel
theorem dX10_strongestFrog_83 : decode cX10_strongestFrog 83 = .ok (.goto (-35), 3) := by decide +kernel
theorem dX10_strongestFrog_86 : decode cX10_strongestFrog 86 = .ok (.aload_n 0, 1) := by decide +kernel
theorem dX10_strongestFrog_87 : decode cX10_strongestFrog 87 = .ok (.getfield 16, 3) := by decide +kernel
theorem dX10_strongestFrog_90 : decode cX10_strongestFrog 90 = .ok (.iload_n 1, 1) := by decide +kernel
theorem dX10_strongestFrog_91 : decode cX10_strongestFrog 91 = .ok (.iload_n 2, 1) := by decide +kernel
theorem dX10_strongestFrog_92 : decode cX10_strongestFrog 92 = .ok (.invokestatic 163, 3) := by decide +kernel
theorem dX10_strongestFrog_95 : decode cX10_strongestFrog 95 = .ok (.iaload, 1) := by decide +kernel
theorem dX10_strongestFrog_96 : decode cX10_strongestFrog 96 = .ok (.ireturn, 1) := by decide +kernel
theorem dX10_shareFor_0 : decode cX10_shareFor 0 = .ok (.aload_n 0, 1) := by decide +kernel
theorem dX10_shareFor_1 : decode cX10_shareFor 1 = .ok (.aload_n 0, 1) := by decide +kernel
theorem dX10_shareFor_2 : decode cX10_shareFor 2 = .ok (.iload_n 1, 1) := by decide +kernel
theorem dX10_shareFor_3 : decode cX10_shareFor 3 = .ok (.invokevirtual 58, 3) := by decide +kernel
theorem dX10_shareFor_6 : decode cX10_shareFor 6 = .ok (.ifCond .ne 7, 3) := by decide +kernel
theorem dX10_shareFor_9 : decode cX10_shareFor 9 = .ok (.iconst 1, 1) := by decide +kernel
theorem dX10_shareFor_10 : decode cX10_shareFor 10 = .ok (.goto 22, 3) := by decide +kernel
theorem dX10_shareFor_13 : decode cX10_shareFor 13 = .ok (.aload_n 0, 1) := by decide +kernel
theorem dX10_shareFor_14 : decode cX10_shareFor 14 = .ok (.getfield 16, 3) := by decide +kernel
theorem dX10_shareFor_17 : decode cX10_shareFor 17 = .ok (.iload_n 1, 1) := by decide +kernel
theorem dX10_shareFor_18 : decode cX10_shareFor 18 = .ok (.bipush 7, 2) := by decide +kernel
theorem dX10_shareFor_20 : decode cX10_shareFor 20 = .ok (.invokestatic 65, 3) := by decide +kernel
theorem dX10_shareFor_23 : decode cX10_shareFor 23 = .ok (.iaload, 1) := by decide +kernel
theorem dX10_shareFor_24 : decode cX10_shareFor 24 = .ok (.ifCond .ne 7, 3) := by decide +kernel
theorem dX10_shareFor_27 : decode cX10_shareFor 27 = .ok (.iconst 2, 1) := by decide +kernel
theorem dX10_shareFor_28 : decode cX10_shareFor 28 = .ok (.goto 4, 3) := by decide +kernel
theorem dX10_shareFor_31 : decode cX10_shareFor 31 = .ok (.iconst 0, 1) := by decide +kernel
theorem dX10_shareFor_32 : decode cX10_shareFor 32 = .ok (.putfield 44, 3) := by decide +kernel
theorem dX10_shareFor_35 : decode cX10_shareFor 35 = .ok (.aload_n 0, 1) := by decide +kernel
theorem dX10_shareFor_36 : decode cX10_shareFor 36 = .ok (.getfield 44, 3) := by decide +kernel
theorem dX10_shareFor_39 : decode cX10_shareFor 39 = .ok (.ifCond .ne 28, 3) := by decide +kernel
theorem dX10_shareFor_42 : decode cX10_shareFor 42 = .ok (.aload_n 0, 1) := by decide +kernel
theorem dX10_shareFor_43 : decode cX10_shareFor 43 = .ok (.iload_n 1, 1) := by decide +kernel
theorem dX10_shareFor_44 : decode cX10_shareFor 44 = .ok (.iconst 1, 1) := by decide +kernel
theorem dX10_shareFor_45 : decode cX10_shareFor 45 = .ok (.invokevirtual 175, 3) := by decide +kernel
theorem dX10_shareFor_48 : decode cX10_shareFor 48 = .ok (.i2f, 1) := by decide +kernel
theorem dX10_shareFor_49 : decode cX10_shareFor 49 = .ok (.aload_n 0, 1) := by decide +kernel
theorem dX10_shareFor_50 : decode cX10_shareFor 50 = .ok (.iload_n 1, 1) := by decide +kernel
theorem dX10_shareFor_51 : decode cX10_shareFor 51 = .ok (.iconst 1, 1) := by decide +kernel
theorem dX10_shareFor_52 : decode cX10_shareFor 52 = .ok (.invokevirtual 175, 3) := by decide +kernel
theorem dX10_shareFor_55 : decode cX10_shareFor 55 = .ok (.aload_n 0, 1) := by decide +kernel
theorem dX10_shareFor_56 : decode cX10_shareFor 56 = .ok (.iload_n 1, 1) := by decide +kernel
theorem dX10_shareFor_57 : decode cX10_shareFor 57 = .ok (.iconst 0, 1) := by decide +kernel
theorem dX10_shareFor_58 : decode cX10_shareFor 58 = .ok (.invokevirtual 175, 3) := by decide +kernel
theorem dX10_shareFor_61 : decode cX10_shareFor 61 = .ok (.iadd, 1) := by decide +kernel
theorem dX10_shareFor_62 : decode cX10_shareFor 62 = .ok (.i2f, 1) := by decide +kernel
theorem dX10_shareFor_63 : decode cX10_shareFor 63 = .ok (.fdiv, 1) := by decide +kernel
theorem dX10_shareFor_64 : decode cX10_shareFor 64 = .ok (.goto 4, 3) := by decide +kernel
theorem dX10_shareFor_67 : decode cX10_shareFor 67 = .ok (.fconst 0, 1) := by decide +kernel
theorem dX10_shareFor_68 : decode cX10_shareFor 68 = .ok (.freturn, 1) := by decide +kernel
theorem dX10_speechTotal_0 : decode cX10_speechTotal 0 = .ok (.aload_n 0, 1) := by decide +kernel
theorem dX10_speechTotal_1 : decode cX10_speechTotal 1 = .ok (.iconst 3, 1) := by decide +kernel
theorem dX10_speechTotal_2 : decode cX10_speechTotal 2 = .ok (.invokevirtual 103, 3) := by decide +kernel
theorem dX10_speechTotal_5 : decode cX10_speechTotal 5 = .ok (.ireturn, 1) := by decide +kernel
theorem dX10_missedTotal_0 : decode cX10_missedTotal 0 = .ok (.aload_n 0, 1) := by decide +kernel
theorem dX10_missedTotal_1 : decode cX10_missedTotal 1 = .ok (.iconst 4, 1) := by decide +kernel
theorem dX10_missedTotal_2 : decode cX10_missedTotal 2 = .ok (.invokevirtual 103, 3) := by decide +kernel
theorem dX10_missedTotal_5 : decode cX10_missedTotal 5 = .ok (.ireturn, 1) := by decide +kernel
theorem dX10_adoptedCount_0 : decode cX10_adoptedCount 0 = .ok (.aload_n 0, 1) := by decide +kernel
theorem dX10_adoptedCount_1 : decode cX10_adoptedCount 1 = .ok (.iconst 0, 1) := by decide +kernel
theorem dX10_adoptedCount_2 : decode cX10_adoptedCount 2 = .ok (.putfield 44, 3) := by decide +kernel
theorem dX10_adoptedCount_5 : decode cX10_adoptedCount 5 = .ok (.iconst 0, 1) := by decide +kernel
theorem dX10_adoptedCount_6 : decode cX10_adoptedCount 6 = .ok (.istore_n 1, 1) := by decide +kernel
theorem dX10_adoptedCount_7 : decode cX10_adoptedCount 7 = .ok (.iconst 0, 1) := by decide +kernel
theorem dX10_adoptedCount_8 : decode cX10_adoptedCount 8 = .ok (.istore_n 2, 1) := by decide +kernel
theorem dX10_adoptedCount_9 : decode cX10_adoptedCount 9 = .ok (.iload_n 2, 1) := by decide +kernel
theorem dX10_adoptedCount_10 : decode cX10_adoptedCount 10 = .ok (.aload_n 0, 1) := by decide +kernel
theorem dX10_adoptedCount_11 : decode cX10_adoptedCount 11 = .ok (.getfield 16, 3) := by decide +kernel
theorem dX10_adoptedCount_14 : decode cX10_adoptedCount 14 = .ok (.iconst 2, 1) := by decide +kernel
theorem dX10_adoptedCount_15 : decode cX10_adoptedCount 15 = .ok (.iaload, 1) := by decide +kernel
theorem dX10_adoptedCount_16 : decode cX10_adoptedCount 16 = .ok (.if_icmp .ge 22, 3) := by decide +kernel
theorem dX10_adoptedCount_19 : decode cX10_adoptedCount 19 = .ok (.iload_n 1, 1) := by decide +kernel
theorem dX10_adoptedCount_20 : decode cX10_adoptedCount 20 = .ok (.aload_n 0, 1) := by decide +kernel
theorem dX10_adoptedCount_21 : decode cX10_adoptedCount 21 = .ok (.getfield 16, 3) := by decide +kernel
theorem dX10_adoptedCount_24 : decode cX10_adoptedCount 24 = .ok (.iload_n 2, 1) := by decide +kernel
theorem dX10_adoptedCount_25 : decode cX10_adoptedCount 25 = .ok (.iconst 3, 1) := by decide +kernel
theorem dX10_adoptedCount_26 : decode cX10_adoptedCount 26 = .ok (.invokestatic 65, 3) := by decide +kernel
theorem dX10_adoptedCount_29 : decode cX10_adoptedCount 29 = .ok (.iaload, 1) := by decide +kernel
theorem dX10_adoptedCount_30 : decode cX10_adoptedCount 30 = .ok (.iadd, 1) := by decide +kernel
theorem dX10_adoptedCount_31 : decode cX10_adoptedCount 31 = .ok (.istore_n 1, 1) := by decide +kernel
theorem dX10_adoptedCount_32 : decode cX10_adoptedCount 32 = .ok (.iinc 2 1, 3) := by decide +kernel
theorem dX10_adoptedCount_35 : decode cX10_adoptedCount 35 = .ok (.goto (-26), 3) := by decide +kernel
theorem dX10_adoptedCount_38 : decode cX10_adoptedCount 38 = .ok (.iload_n 1, 1) := by decide +kernel
theorem dX10_adoptedCount_39 : decode cX10_adoptedCount 39 = .ok (.ireturn, 1) := by decide +kernel
theorem dX10_append_0 : decode cX10_append 0 = .ok (.aload_n 0, 1) := by decide +kernel
theorem dX10_append_1 : decode cX10_append 1 = .ok (.iload_n 1, 1) := by decide +kernel
theorem dX10_append_2 : decode cX10_append 2 = .ok (.bipush 32, 2) := by decide +kernel
theorem dX10_append_4 : decode cX10_append 4 = .ok (.bipush 126, 2) := by decide +kernel
theorem dX10_append_6 : decode cX10_append 6 = .ok (.invokestatic 54, 3) := by decide +kernel
theorem dX10_append_9 : decode cX10_append 9 = .ok (.ifCond .ne 7, 3) := by decide +kernel
theorem dX10_append_12 : decode cX10_append 12 = .ok (.iconst 1, 1) := by decide +kernel
theorem dX10_append_13 : decode cX10_append 13 = .ok (.goto 17, 3) := by decide +kernel
theorem dX10_append_16 : decode cX10_append 16 = .ok (.aload_n 0, 1) := by decide +kernel
theorem dX10_append_17 : decode cX10_append 17 = .ok (.getfield 188, 3) := by decide +kernel
theorem dX10_append_20 : decode cX10_append 20 = .ok (.bipush 60, 2) := by decide +kernel
theorem dX10_append_22 : decode cX10_append 22 = .ok (.if_icmp .ne 7, 3) := by decide +kernel
theorem dX10_append_25 : decode cX10_append 25 = .ok (.iconst 2, 1) := by decide +kernel
theorem dX10_append_26 : decode cX10_append 26 = .ok (.goto 4, 3) := by decide +kernel
theorem dX10_append_29 : decode cX10_append 29 = .ok (.iconst 0, 1) := by decide +kernel
theorem dX10_append_30 : decode cX10_append 30 = .ok (.putfield 44, 3) := by decide +kernel
theorem dX10_append_33 : decode cX10_append 33 = .ok (.aload_n 0, 1) := by decide +kernel
theorem dX10_append_34 : decode cX10_append 34 = .ok (.getfield 44, 3) := by decide +kernel
theorem dX10_append_37 : decode cX10_append 37 = .ok (.ifCond .eq 5, 3) := by decide +kernel
theorem dX10_append_40 : decode cX10_append 40 = .ok (.iconst 0, 1) := by decide +kernel
theorem dX10_append_41 : decode cX10_append 41 = .ok (.ireturn, 1) := by decide +kernel
theorem dX10_append_42 : decode cX10_append 42 = .ok (.aload_n 0, 1) := by decide +kernel
theorem dX10_append_43 : decode cX10_append 43 = .ok (.getfield 29, 3) := by decide +kernel
theorem dX10_append_46 : decode cX10_append 46 = .ok (.aload_n 0, 1) := by decide +kernel
theorem dX10_append_47 : decode cX10_append 47 = .ok (.getfield 188, 3) := by decide +kernel
theorem dX10_append_50 : decode cX10_append 50 = .ok (.iload_n 1, 1) := by decide +kernel
theorem dX10_append_51 : decode cX10_append 51 = .ok (.iastore, 1) := by decide +kernel
theorem dX10_append_52 : decode cX10_append 52 = .ok (.aload_n 0, 1) := by decide +kernel
theorem dX10_append_53 : decode cX10_append 53 = .ok (.dup, 1) := by decide +kernel
theorem dX10_append_54 : decode cX10_append 54 = .ok (.getfield 188, 3) := by decide +kernel
theorem dX10_append_57 : decode cX10_append 57 = .ok (.iconst 1, 1) := by decide +kernel
theorem dX10_append_58 : decode cX10_append 58 = .ok (.iadd, 1) := by decide +kernel
theorem dX10_append_59 : decode cX10_append 59 = .ok (.putfield 188, 3) := by decide +kernel
theorem dX10_append_62 : decode cX10_append 62 = .ok (.aload_n 0, 1) := by decide +kernel
theorem dX10_append_63 : decode cX10_append 63 = .ok (.getfield 188, 3) := by decide +kernel
theorem dX10_append_66 : decode cX10_append 66 = .ok (.ireturn, 1) := by decide +kernel
theorem dX10_sign_0 : decode cX10_sign 0 = .ok (.aload_n 0, 1) := by decide +kernel
theorem dX10_sign_1 : decode cX10_sign 1 = .ok (.getfield 191, 3) := by decide +kernel
theorem dX10_sign_4 : decode cX10_sign 4 = .ok (.aload_n 0, 1) := by decide +kernel
theorem dX10_sign_5 : decode cX10_sign 5 = .ok (.getfield 194, 3) := by decide +kernel
theorem dX10_sign_8 : decode cX10_sign 8 = .ok (.if_icmp .ge 15, 3) := by decide +kernel
theorem dX10_sign_11 : decode cX10_sign 11 = .ok (.aload_n 0, 1) := by decide +kernel
theorem dX10_sign_12 : decode cX10_sign 12 = .ok (.getfield 29, 3) := by decide +kernel
theorem dX10_sign_15 : decode cX10_sign 15 = .ok (.aload_n 0, 1) := by decide +kernel
theorem dX10_sign_16 : decode cX10_sign 16 = .ok (.getfield 191, 3) := by decide +kernel
theorem dX10_sign_19 : decode cX10_sign 19 = .ok (.iaload, 1) := by decide +kernel
theorem dX10_sign_20 : decode cX10_sign 20 = .ok (.goto 4, 3) := by decide +kernel
theorem dX10_sign_23 : decode cX10_sign 23 = .ok (.iconst (-1), 1) := by decide +kernel
theorem dX10_sign_24 : decode cX10_sign 24 = .ok (.ireturn, 1) := by decide +kernel
theorem dX10_mark_0 : decode cX10_mark 0 = .ok (.aload_n 0, 1) := by decide +kernel
theorem dX10_mark_1 : decode cX10_mark 1 = .ok (.getfield 197, 3) := by decide +kernel
theorem dX10_mark_4 : decode cX10_mark 4 = .ok (.ifCond .eq 4, 3) := by decide +kernel
theorem dX10_mark_7 : decode cX10_mark 7 = .ok (.return_, 1) := by decide +kernel
theorem dX10_mark_8 : decode cX10_mark 8 = .ok (.aload_n 0, 1) := by decide +kernel
theorem dX10_mark_9 : decode cX10_mark 9 = .ok (.aload_n 0, 1) := by decide +kernel
theorem dX10_mark_10 : decode cX10_mark 10 = .ok (.invokevirtual 201, 3) := by decide +kernel
theorem dX10_mark_13 : decode cX10_mark 13 = .ok (.iload_n 1, 1) := by decide +kernel
theorem dX10_mark_14 : decode cX10_mark 14 = .ok (.if_icmp .eq 7, 3) := by decide +kernel
theorem dX10_mark_17 : decode cX10_mark 17 = .ok (.iconst 1, 1) := by decide +kernel
theorem dX10_mark_18 : decode cX10_mark 18 = .ok (.goto 4, 3) := by decide +kernel
theorem dX10_mark_21 : decode cX10_mark 21 = .ok (.iconst 0, 1) := by decide +kernel
theorem dX10_mark_22 : decode cX10_mark 22 = .ok (.putfield 197, 3) := by decide +kernel
theorem dX10_mark_25 : decode cX10_mark 25 = .ok (.aload_n 0, 1) := by decide +kernel
theorem dX10_mark_26 : decode cX10_mark 26 = .ok (.dup, 1) := by decide +kernel
theorem dX10_mark_27 : decode cX10_mark 27 = .ok (.getfield 191, 3) := by decide +kernel
theorem dX10_mark_30 : decode cX10_mark 30 = .ok (.aload_n 0, 1) := by decide +kernel
theorem dX10_mark_31 : decode cX10_mark 31 = .ok (.getfield 197, 3) := by decide +kernel
theorem dX10_mark_34 : decode cX10_mark 34 = .ok (.ifCond .eq 7, 3) := by decide +kernel
theorem dX10_mark_37 : decode cX10_mark 37 = .ok (.iconst 0, 1) := by decide +kernel
theorem dX10_mark_38 : decode cX10_mark 38 = .ok (.goto 4, 3) := by decide +kernel
theorem dX10_mark_41 : decode cX10_mark 41 = .ok (.iconst 1, 1) := by decide +kernel
theorem dX10_mark_42 : decode cX10_mark 42 = .ok (.iadd, 1) := by decide +kernel
theorem dX10_mark_43 : decode cX10_mark 43 = .ok (.putfield 191, 3) := by decide +kernel
theorem dX10_mark_46 : decode cX10_mark 46 = .ok (.return_, 1) := by decide +kernel
theorem dX10_digits_0 : decode cX10_digits 0 = .ok (.iconst 0, 1) := by decide +kernel
theorem dX10_digits_1 : decode cX10_digits 1 = .ok (.istore_n 2, 1) := by decide +kernel
theorem dX10_digits_2 : decode cX10_digits 2 = .ok (.iconst 0, 1) := by decide +kernel
theorem dX10_digits_3 : decode cX10_digits 3 = .ok (.istore_n 3, 1) := by decide +kernel
theorem dX10_digits_4 : decode cX10_digits 4 = .ok (.aload_n 0, 1) := by decide +kernel
theorem dX10_digits_5 : decode cX10_digits 5 = .ok (.getfield 197, 3) := by decide +kernel
theorem dX10_digits_8 : decode cX10_digits 8 = .ok (.ifCond .ne 51, 3) := by decide +kernel
theorem dX10_digits_11 : decode cX10_digits 11 = .ok (.iload_n 3, 1) := by decide +kernel
theorem dX10_digits_12 : decode cX10_digits 12 = .ok (.iload_n 1, 1) := by decide +kernel
theorem dX10_digits_13 : decode cX10_digits 13 = .ok (.if_icmp .ge 46, 3) := by decide +kernel
theorem dX10_digits_16 : decode cX10_digits 16 = .ok (.aload_n 0, 1) := by decide +kernel
theorem dX10_digits_17 : decode cX10_digits 17 = .ok (.invokevirtual 201, 3) := by decide +kernel
theorem dX10_digits_20 : decode cX10_digits 20 = .ok (.bipush 48, 2) := by decide +kernel
theorem dX10_digits_22 : decode cX10_digits 22 = .ok (.bipush 57, 2) := by decide +kernel
theorem dX10_digits_24 : decode cX10_digits 24 = .ok (.invokestatic 54, 3) := by decide +kernel
theorem dX10_digits_27 : decode cX10_digits 27 = .ok (.ifCond .eq 32, 3) := by decide +kernel
theorem dX10_digits_30 : decode cX10_digits 30 = .ok (.bipush 10, 2) := by decide +kernel
theorem dX10_digits_32 : decode cX10_digits 32 = .ok (.iload_n 2, 1) := by decide +kernel
theorem dX10_digits_33 : decode cX10_digits 33 = .ok (.imul, 1) := by decide +kernel
theorem dX10_digits_34 : decode cX10_digits 34 = .ok (.aload_n 0, 1) := by decide +kernel
theorem dX10_digits_35 : decode cX10_digits 35 = .ok (.invokevirtual 201, 3) := by decide +kernel
theorem dX10_digits_38 : decode cX10_digits 38 = .ok (.iadd, 1) := by decide +kernel
theorem dX10_digits_39 : decode cX10_digits 39 = .ok (.bipush 48, 2) := by decide +kernel
theorem dX10_digits_41 : decode cX10_digits 41 = .ok (.isub, 1) := by decide +kernel
theorem dX10_digits_42 : decode cX10_digits 42 = .ok (.istore_n 2, 1) := by decide +kernel
theorem dX10_digits_43 : decode cX10_digits 43 = .ok (.aload_n 0, 1) := by decide +kernel
theorem dX10_digits_44 : decode cX10_digits 44 = .ok (.dup, 1) := by decide +kernel
theorem dX10_digits_45 : decode cX10_digits 45 = .ok (.getfield 191, 3) := by decide +kernel
theorem dX10_digits_48 : decode cX10_digits 48 = .ok (.iconst 1, 1) := by decide +kernel
theorem dX10_digits_49 : decode cX10_digits 49 = .ok (.iadd, 1) := by decide +kernel
theorem dX10_digits_50 : decode cX10_digits 50 = .ok (.putfield 191, 3) := by decide +kernel
theorem dX10_digits_53 : decode cX10_digits 53 = .ok (.iinc 3 1, 3) := by decide +kernel
theorem dX10_digits_56 : decode cX10_digits 56 = .ok (.goto (-52), 3) := by decide +kernel
theorem dX10_digits_59 : decode cX10_digits 59 = .ok (.aload_n 0, 1) := by decide +kernel
theorem dX10_digits_60 : decode cX10_digits 60 = .ok (.dup, 1) := by decide +kernel
theorem dX10_digits_61 : decode cX10_digits 61 = .ok (.getfield 197, 3) := by decide +kernel
theorem dX10_digits_64 : decode cX10_digits 64 = .ok (.iload_n 3, 1) := by decide +kernel
theorem dX10_digits_65 : decode cX10_digits 65 = .ok (.ifCond .ne 7, 3) := by decide +kernel
theorem dX10_digits_68 : decode cX10_digits 68 = .ok (.iconst 1, 1) := by decide +kernel
theorem dX10_digits_69 : decode cX10_digits 69 = .ok (.goto 4, 3) := by decide +kernel
theorem dX10_digits_72 : decode cX10_digits 72 = .ok (.iconst 0, 1) := by decide +kernel
theorem dX10_digits_73 : decode cX10_digits 73 = .ok (.ior, 1) := by decide +kernel
theorem dX10_digits_74 : decode cX10_digits 74 = .ok (.putfield 197, 3) := by decide +kernel
theorem dX10_digits_77 : decode cX10_digits 77 = .ok (.iload_n 2, 1) := by decide +kernel
theorem dX10_digits_78 : decode cX10_digits 78 = .ok (.ireturn, 1) := by decide +kernel
theorem dX10_behind_0 : decode cX10_behind 0 = .ok (.aload_n 0, 1) := by decide +kernel
theorem dX10_behind_1 : decode cX10_behind 1 = .ok (.bipush 32, 2) := by decide +kernel
theorem dX10_behind_3 : decode cX10_behind 3 = .ok (.invokevirtual 204, 3) := by decide +kernel
theorem dX10_behind_6 : decode cX10_behind 6 = .ok (.aload_n 0, 1) := by decide +kernel
theorem dX10_behind_7 : decode cX10_behind 7 = .ok (.getfield 197, 3) := by decide +kernel
theorem dX10_behind_10 : decode cX10_behind 10 = .ok (.ifCond .eq 7, 3) := by decide +kernel
theorem dX10_behind_13 : decode cX10_behind 13 = .ok (.iconst 0, 1) := by decide +kernel
theorem dX10_behind_14 : decode cX10_behind 14 = .ok (.goto 8, 3) := by decide +kernel
theorem dX10_behind_17 : decode cX10_behind 17 = .ok (.aload_n 0, 1) := by decide +kernel
theorem dX10_behind_18 : decode cX10_behind 18 = .ok (.iload_n 1, 1) := by decide +kernel
theorem dX10_behind_19 : decode cX10_behind 19 = .ok (.invokevirtual 208, 3) := by decide +kernel
theorem dX10_behind_22 : decode cX10_behind 22 = .ok (.ireturn, 1) := by decide +kernel
theorem dX10_plus_0 : decode cX10_plus 0 = .ok (.aload_n 0, 1) := by decide +kernel
theorem dX10_plus_1 : decode cX10_plus 1 = .ok (.getfield 197, 3) := by decide +kernel
theorem dX10_plus_4 : decode cX10_plus 4 = .ok (.ifCond .eq 5, 3) := by decide +kernel
theorem dX10_plus_7 : decode cX10_plus 7 = .ok (.iconst 0, 1) := by decide +kernel
theorem dX10_plus_8 : decode cX10_plus 8 = .ok (.ireturn, 1) := by decide +kernel
theorem dX10_plus_9 : decode cX10_plus 9 = .ok (.aload_n 0, 1) := by decide +kernel
theorem dX10_plus_10 : decode cX10_plus 10 = .ok (.invokevirtual 201, 3) := by decide +kernel
theorem dX10_plus_13 : decode cX10_plus 13 = .ok (.istore_n 1, 1) := by decide +kernel
theorem dX10_plus_14 : decode cX10_plus 14 = .ok (.aload_n 0, 1) := by decide +kernel
theorem dX10_plus_15 : decode cX10_plus 15 = .ok (.iload_n 1, 1) := by decide +kernel
theorem dX10_plus_16 : decode cX10_plus 16 = .ok (.bipush 43, 2) := by decide +kernel
theorem dX10_plus_18 : decode cX10_plus 18 = .ok (.if_icmp .eq 13, 3) := by decide +kernel
theorem dX10_plus_21 : decode cX10_plus 21 = .ok (.iload_n 1, 1) := by decide +kernel
theorem dX10_plus_22 : decode cX10_plus 22 = .ok (.bipush 45, 2) := by decide +kernel
theorem dX10_plus_24 : decode cX10_plus 24 = .ok (.if_icmp .eq 7, 3) := by decide +kernel
theorem dX10_plus_27 : decode cX10_plus 27 = .ok (.iconst 1, 1) := by decide +kernel
theorem dX10_plus_28 : decode cX10_plus 28 = .ok (.goto 4, 3) := by decide +kernel
theorem dX10_plus_31 : decode cX10_plus 31 = .ok (.iconst 0, 1) := by decide +kernel
theorem dX10_plus_32 : decode cX10_plus 32 = .ok (.putfield 197, 3) := by decide +kernel
theorem dX10_plus_35 : decode cX10_plus 35 = .ok (.aload_n 0, 1) := by decide +kernel
theorem dX10_plus_36 : decode cX10_plus 36 = .ok (.dup, 1) := by decide +kernel
theorem dX10_plus_37 : decode cX10_plus 37 = .ok (.getfield 191, 3) := by decide +kernel
theorem dX10_plus_40 : decode cX10_plus 40 = .ok (.aload_n 0, 1) := by decide +kernel
theorem dX10_plus_41 : decode cX10_plus 41 = .ok (.getfield 197, 3) := by decide +kernel
theorem dX10_plus_44 : decode cX10_plus 44 = .ok (.ifCond .eq 7, 3) := by decide +kernel
theorem dX10_plus_47 : decode cX10_plus 47 = .ok (.iconst 0, 1) := by decide +kernel
theorem dX10_plus_48 : decode cX10_plus 48 = .ok (.goto 4, 3) := by decide +kernel
theorem dX10_plus_51 : decode cX10_plus 51 = .ok (.iconst 1, 1) := by decide +kernel
theorem dX10_plus_52 : decode cX10_plus 52 = .ok (.iadd, 1) := by decide +kernel
theorem dX10_plus_53 : decode cX10_plus 53 = .ok (.putfield 191, 3) := by decide +kernel
theorem dX10_plus_56 : decode cX10_plus 56 = .ok (.iload_n 1, 1) := by decide +kernel
theorem dX10_plus_57 : decode cX10_plus 57 = .ok (.bipush 43, 2) := by decide +kernel
theorem dX10_plus_59 : decode cX10_plus 59 = .ok (.if_icmp .ne 7, 3) := by decide +kernel
theorem dX10_plus_62 : decode cX10_plus 62 = .ok (.iconst 1, 1) := by decide +kernel
theorem dX10_plus_63 : decode cX10_plus 63 = .ok (.goto 4, 3) := by decide +kernel
theorem dX10_plus_66 : decode cX10_plus 66 = .ok (.iconst 0, 1) := by decide +kernel
theorem dX10_plus_67 : decode cX10_plus 67 = .ok (.ireturn, 1) := by decide +kernel
theorem dX10_word_0 : decode cX10_word 0 = .ok (.iconst 0, 1) := by decide +kernel
theorem dX10_word_1 : decode cX10_word 1 = .ok (.istore_n 1, 1) := by decide +kernel
theorem dX10_word_2 : decode cX10_word 2 = .ok (.iload_n 1, 1) := by decide +kernel
theorem dX10_word_3 : decode cX10_word 3 = .ok (.bipush 11, 2) := by decide +kernel
theorem dX10_word_5 : decode cX10_word 5 = .ok (.if_icmp .ge 16, 3) := by decide +kernel
theorem dX10_word_8 : decode cX10_word 8 = .ok (.aload_n 0, 1) := by decide +kernel
theorem dX10_word_9 : decode cX10_word 9 = .ok (.getfield 35, 3) := by decide +kernel
theorem dX10_word_12 : decode cX10_word 12 = .ok (.iload_n 1, 1) := by decide +kernel
theorem dX10_word_13 : decode cX10_word 13 = .ok (.iconst 1, 1) := by decide +kernel
theorem dX10_word_14 : decode cX10_word 14 = .ok (.iastore, 1) := by decide +kernel
theorem dX10_word_15 : decode cX10_word 15 = .ok (.iinc 1 1, 3) := by decide +kernel
theorem dX10_word_18 : decode cX10_word 18 = .ok (.goto (-16), 3) := by decide +kernel
theorem dX10_word_21 : decode cX10_word 21 = .ok (.iconst 0, 1) := by decide +kernel
theorem dX10_word_22 : decode cX10_word 22 = .ok (.istore_n 1, 1) := by decide +kernel
theorem dX10_word_23 : decode cX10_word 23 = .ok (.iconst (-1), 1) := by decide +kernel
theorem dX10_word_24 : decode cX10_word 24 = .ok (.istore_n 2, 1) := by decide +kernel
theorem dX10_word_25 : decode cX10_word 25 = .ok (.iload_n 2, 1) := by decide +kernel
theorem dX10_word_26 : decode cX10_word 26 = .ok (.ifCond .ge 196, 3) := by decide +kernel
theorem dX10_word_29 : decode cX10_word 29 = .ok (.aload_n 0, 1) := by decide +kernel
theorem dX10_word_30 : decode cX10_word 30 = .ok (.getfield 197, 3) := by decide +kernel
theorem dX10_word_33 : decode cX10_word 33 = .ok (.ifCond .ne 189, 3) := by decide +kernel
theorem dX10_word_36 : decode cX10_word 36 = .ok (.iconst 0, 1) := by decide +kernel
theorem dX10_word_37 : decode cX10_word 37 = .ok (.istore_n 3, 1) := by decide +kernel
theorem dX10_word_38 : decode cX10_word 38 = .ok (.iconst 0, 1) := by decide +kernel
theorem dX10_word_39 : decode cX10_word 39 = .ok (.istore 4, 2) := by decide +kernel
theorem dX10_word_41 : decode cX10_word 41 = .ok (.iload 4, 2) := by decide +kernel
theorem dX10_word_43 : decode cX10_word 43 = .ok (.bipush 11, 2) := by decide +kernel
theorem dX10_word_45 : decode cX10_word 45 = .ok (.if_icmp .ge 85, 3) := by decide +kernel
theorem dX10_word_48 : decode cX10_word 48 = .ok (.aload_n 0, 1) := by decide +kernel
theorem dX10_word_49 : decode cX10_word 49 = .ok (.getfield 35, 3) := by decide +kernel
theorem dX10_word_52 : decode cX10_word 52 = .ok (.iload 4, 2) := by decide +kernel
theorem dX10_word_54 : decode cX10_word 54 = .ok (.dup2, 1) := by decide +kernel
theorem dX10_word_55 : decode cX10_word 55 = .ok (.iaload, 1) := by decide +kernel
theorem dX10_word_56 : decode cX10_word 56 = .ok (.aload_n 0, 1) := by decide +kernel
theorem dX10_word_57 : decode cX10_word 57 = .ok (.getfield 41, 3) := by decide +kernel
theorem dX10_word_60 : decode cX10_word 60 = .ok (.iload 4, 2) := by decide +kernel
theorem dX10_word_62 : decode cX10_word 62 = .ok (.iaload, 1) := by decide +kernel
theorem dX10_word_63 : decode cX10_word 63 = .ok (.iload_n 1, 1) := by decide +kernel
theorem dX10_word_64 : decode cX10_word 64 = .ok (.iadd, 1) := by decide +kernel
theorem dX10_word_65 : decode cX10_word 65 = .ok (.aload_n 0, 1) := by decide +kernel
theorem dX10_word_66 : decode cX10_word 66 = .ok (.getfield 41, 3) := by decide +kernel
theorem dX10_word_69 : decode cX10_word 69 = .ok (.iload 4, 2) := by decide +kernel
theorem dX10_word_71 : decode cX10_word 71 = .ok (.iconst 1, 1) := by decide +kernel
theorem dX10_word_72 : decode cX10_word 72 = .ok (.iadd, 1) := by decide +kernel
theorem dX10_word_73 : decode cX10_word 73 = .ok (.iaload, 1) := by decide +kernel
theorem dX10_word_74 : decode cX10_word 74 = .ok (.if_icmp .ge 28, 3) := by decide +kernel
theorem dX10_word_77 : decode cX10_word 77 = .ok (.aload_n 0, 1) := by decide +kernel
theorem dX10_word_78 : decode cX10_word 78 = .ok (.getfield 38, 3) := by decide +kernel
theorem dX10_word_81 : decode cX10_word 81 = .ok (.aload_n 0, 1) := by decide +kernel
theorem dX10_word_82 : decode cX10_word 82 = .ok (.getfield 41, 3) := by decide +kernel
theorem dX10_word_85 : decode cX10_word 85 = .ok (.iload 4, 2) := by decide +kernel
theorem dX10_word_87 : decode cX10_word 87 = .ok (.iaload, 1) := by decide +kernel
theorem dX10_word_88 : decode cX10_word 88 = .ok (.iload_n 1, 1) := by decide +kernel
theorem dX10_word_89 : decode cX10_word 89 = .ok (.iadd, 1) := by decide +kernel
theorem dX10_word_90 : decode cX10_word 90 = .ok (.iaload, 1) := by decide +kernel
theorem dX10_word_91 : decode cX10_word 91 = .ok (.aload_n 0, 1) := by decide +kernel
theorem dX10_word_92 : decode cX10_word 92 = .ok (.invokevirtual 201, 3) := by decide +kernel
theorem dX10_word_95 : decode cX10_word 95 = .ok (.if_icmp .ne 7, 3) := by decide +kernel
theorem dX10_word_98 : decode cX10_word 98 = .ok (.iconst 1, 1) := by decide +kernel
theorem dX10_word_99 : decode cX10_word 99 = .ok (.goto 4, 3) := by decide +kernel
theorem dX10_word_102 : decode cX10_word 102 = .ok (.iconst 0, 1) := by decide +kernel
theorem dX10_word_103 : decode cX10_word 103 = .ok (.iand, 1) := by decide +kernel
theorem dX10_word_104 : decode cX10_word 104 = .ok (.iastore, 1) := by decide +kernel
theorem dX10_word_105 : decode cX10_word 105 = .ok (.iload_n 3, 1) := by decide +kernel
theorem dX10_word_106 : decode cX10_word 106 = .ok (.aload_n 0, 1) := by decide +kernel
theorem dX10_word_107 : decode cX10_word 107 = .ok (.getfield 35, 3) := by decide +kernel
theorem dX10_word_110 : decode cX10_word 110 = .ok (.iload 4, 2) := by decide +kernel
theorem dX10_word_112 : decode cX10_word 112 = .ok (.iaload, 1) := by decide +kernel
theorem dX10_word_113 : decode cX10_word 113 = .ok (.iconst 1, 1) := by decide +kernel
theorem dX10_word_114 : decode cX10_word 114 = .ok (.if_icmp .ne 7, 3) := by decide +kernel
theorem dX10_word_117 : decode cX10_word 117 = .ok (.iconst 1, 1) := by decide +kernel
theorem dX10_word_118 : decode cX10_word 118 = .ok (.goto 4, 3) := by decide +kernel
theorem dX10_word_121 : decode cX10_word 121 = .ok (.iconst 0, 1) := by decide +kernel
theorem dX10_word_122 : decode cX10_word 122 = .ok (.ior, 1) := by decide +kernel
theorem dX10_word_123 : decode cX10_word 123 = .ok (.istore_n 3, 1) := by decide +kernel
theorem dX10_word_124 : decode cX10_word 124 = .ok (.iinc 4 1, 3) := by decide +kernel
theorem dX10_word_127 : decode cX10_word 127 = .ok (.goto (-86), 3) := by decide +kernel
theorem dX10_word_130 : decode cX10_word 130 = .ok (.aload_n 0, 1) := by decide +kernel
theorem dX10_word_131 : decode cX10_word 131 = .ok (.iload_n 3, 1) := by decide +kernel
theorem dX10_word_132 : decode cX10_word 132 = .ok (.ifCond .ne 7, 3) := by decide +kernel
theorem dX10_word_135 : decode cX10_word 135 = .ok (.iconst 1, 1) := by decide +kernel
theorem dX10_word_136 : decode cX10_word 136 = .ok (.goto 4, 3) := by decide +kernel
theorem dX10_word_139 : decode cX10_word 139 = .ok (.iconst 0, 1) := by decide +kernel
theorem dX10_word_140 : decode cX10_word 140 = .ok (.putfield 197, 3) := by decide +kernel
theorem dX10_word_143 : decode cX10_word 143 = .ok (.aload_n 0, 1) := by decide +kernel
theorem dX10_word_144 : decode cX10_word 144 = .ok (.dup, 1) := by decide +kernel
theorem dX10_word_145 : decode cX10_word 145 = .ok (.getfield 191, 3) := by decide +kernel
theorem dX10_word_148 : decode cX10_word 148 = .ok (.iload_n 3, 1) := by decide +kernel
theorem dX10_word_149 : decode cX10_word 149 = .ok (.ifCond .eq 7, 3) := by decide +kernel
theorem dX10_word_152 : decode cX10_word 152 = .ok (.iconst 1, 1) := by decide +kernel
theorem dX10_word_153 : decode cX10_word 153 = .ok (.goto 4, 3) := by decide +kernel
theorem dX10_word_156 : decode cX10_word 156 = .ok (.iconst 0, 1) := by decide +kernel
theorem dX10_word_157 : decode cX10_word 157 = .ok (.iadd, 1) := by decide +kernel
theorem dX10_word_158 : decode cX10_word 158 = .ok (.putfield 191, 3) := by decide +kernel
theorem dX10_word_161 : decode cX10_word 161 = .ok (.iinc 1 1, 3) := by decide +kernel
theorem dX10_word_164 : decode cX10_word 164 = .ok (.iconst 0, 1) := by decide +kernel
theorem dX10_word_165 : decode cX10_word 165 = .ok (.istore 4, 2) := by decide +kernel
theorem dX10_word_167 : decode cX10_word 167 = .ok (.iload 4, 2) := by decide +kernel
theorem dX10_word_169 : decode cX10_word 169 = .ok (.bipush 11, 2) := by decide +kernel
theorem dX10_word_171 : decode cX10_word 171 = .ok (.if_icmp .ge 48, 3) := by decide +kernel
theorem dX10_word_174 : decode cX10_word 174 = .ok (.aload_n 0, 1) := by decide +kernel
theorem dX10_word_175 : decode cX10_word 175 = .ok (.getfield 35, 3) := by decide +kernel
theorem dX10_word_178 : decode cX10_word 178 = .ok (.iload 4, 2) := by decide +kernel
theorem dX10_word_180 : decode cX10_word 180 = .ok (.iaload, 1) := by decide +kernel
theorem dX10_word_181 : decode cX10_word 181 = .ok (.iconst 1, 1) := by decide +kernel
theorem dX10_word_182 : decode cX10_word 182 = .ok (.if_icmp .ne 29, 3) := by decide +kernel
theorem dX10_word_185 : decode cX10_word 185 = .ok (.aload_n 0, 1) := by decide +kernel
theorem dX10_word_186 : decode cX10_word 186 = .ok (.getfield 41, 3) := by decide +kernel
theorem dX10_word_189 : decode cX10_word 189 = .ok (.iload 4, 2) := by decide +kernel
theorem dX10_word_191 : decode cX10_word 191 = .ok (.iaload, 1) := by decide +kernel
theorem dX10_word_192 : decode cX10_word 192 = .ok (.iload_n 1, 1) := by decide +kernel
theorem dX10_word_193 : decode cX10_word 193 = .ok (.iadd, 1) := by decide +kernel
theorem dX10_word_194 : decode cX10_word 194 = .ok (.aload_n 0, 1) := by decide +kernel
theorem dX10_word_195 : decode cX10_word 195 = .ok (.getfield 41, 3) := by decide +kernel
theorem dX10_word_198 : decode cX10_word 198 = .ok (.iload 4, 2) := by decide +kernel
theorem dX10_word_200 : decode cX10_word 200 = .ok (.iconst 1, 1) := by decide +kernel
theorem dX10_word_201 : decode cX10_word 201 = .ok (.iadd, 1) := by decide +kernel
theorem dX10_word_202 : decode cX10_word 202 = .ok (.iaload, 1) := by decide +kernel
theorem dX10_word_203 : decode cX10_word 203 = .ok (.if_icmp .ne 8, 3) := by decide +kernel
theorem dX10_word_206 : decode cX10_word 206 = .ok (.iload 4, 2) := by decide +kernel
theorem dX10_word_208 : decode cX10_word 208 = .ok (.goto 4, 3) := by decide +kernel
theorem dX10_word_211 : decode cX10_word 211 = .ok (.iload_n 2, 1) := by decide +kernel
theorem dX10_word_212 : decode cX10_word 212 = .ok (.istore_n 2, 1) := by decide +kernel
theorem dX10_word_213 : decode cX10_word 213 = .ok (.iinc 4 1, 3) := by decide +kernel
theorem dX10_word_216 : decode cX10_word 216 = .ok (.goto (-49), 3) := by decide +kernel
theorem dX10_word_219 : decode cX10_word 219 = .ok (.goto (-194), 3) := by decide +kernel
theorem dX10_word_222 : decode cX10_word 222 = .ok (.iload_n 2, 1) := by decide +kernel
theorem dX10_word_223 : decode cX10_word 223 = .ok (.ireturn, 1) := by decide +kernel
theorem dX10_does_0 : decode cX10_does 0 = .ok (.iload_n 1, 1) := by decide +kernel
theorem dX10_does_1 : decode cX10_does 1 = .ok (.tableswitch 125 0 9 #[55, 62, 68, 75, 81, 87, 94, 101, 107, 114], 55) := by decide +kernel
theorem dX10_does_56 : decode cX10_does 56 = .ok (.aload_n 0, 1) := by decide +kernel
theorem dX10_does_57 : decode cX10_does 57 = .ok (.iload_n 2, 1) := by decide +kernel
theorem dX10_does_58 : decode cX10_does 58 = .ok (.iload_n 3, 1) := by decide +kernel
theorem dX10_does_59 : decode cX10_does 59 = .ok (.invokevirtual 79, 3) := by decide +kernel
theorem dX10_does_62 : decode cX10_does 62 = .ok (.ireturn, 1) := by decide +kernel
theorem dX10_does_63 : decode cX10_does 63 = .ok (.aload_n 0, 1) := by decide +kernel
theorem dX10_does_64 : decode cX10_does 64 = .ok (.iload_n 2, 1) := by decide +kernel
theorem dX10_does_65 : decode cX10_does 65 = .ok (.invokevirtual 85, 3) := by decide +kernel
theorem dX10_does_68 : decode cX10_does 68 = .ok (.ireturn, 1) := by decide +kernel
theorem dX10_does_69 : decode cX10_does 69 = .ok (.aload_n 0, 1) := by decide +kernel
theorem dX10_does_70 : decode cX10_does 70 = .ok (.iload_n 2, 1) := by decide +kernel
theorem dX10_does_71 : decode cX10_does 71 = .ok (.iload_n 3, 1) := by decide +kernel
theorem dX10_does_72 : decode cX10_does 72 = .ok (.invokevirtual 94, 3) := by decide +kernel
theorem dX10_does_75 : decode cX10_does 75 = .ok (.ireturn, 1) := by decide +kernel
theorem dX10_does_76 : decode cX10_does 76 = .ok (.aload_n 0, 1) := by decide +kernel
theorem dX10_does_77 : decode cX10_does 77 = .ok (.iload_n 2, 1) := by decide +kernel
theorem dX10_does_78 : decode cX10_does 78 = .ok (.invokevirtual 100, 3) := by decide +kernel
theorem dX10_does_81 : decode cX10_does 81 = .ok (.ireturn, 1) := by decide +kernel
theorem dX10_does_82 : decode cX10_does 82 = .ok (.aload_n 0, 1) := by decide +kernel
theorem dX10_does_83 : decode cX10_does 83 = .ok (.iload_n 2, 1) := by decide +kernel
theorem dX10_does_84 : decode cX10_does 84 = .ok (.invokevirtual 113, 3) := by decide +kernel
theorem dX10_does_87 : decode cX10_does 87 = .ok (.ireturn, 1) := by decide +kernel
theorem dX10_does_88 : decode cX10_does 88 = .ok (.aload_n 0, 1) := by decide +kernel
theorem dX10_does_89 : decode cX10_does 89 = .ok (.iload_n 2, 1) := by decide +kernel
theorem dX10_does_90 : decode cX10_does 90 = .ok (.iload_n 3, 1) := by decide +kernel
theorem dX10_does_91 : decode cX10_does 91 = .ok (.invokevirtual 129, 3) := by decide +kernel
theorem dX10_does_94 : decode cX10_does 94 = .ok (.ireturn, 1) := by decide +kernel
theorem dX10_does_95 : decode cX10_does 95 = .ok (.aload_n 0, 1) := by decide +kernel
theorem dX10_does_96 : decode cX10_does 96 = .ok (.iload_n 2, 1) := by decide +kernel
theorem dX10_does_97 : decode cX10_does 97 = .ok (.iload_n 3, 1) := by decide +kernel
theorem dX10_does_98 : decode cX10_does 98 = .ok (.invokevirtual 136, 3) := by decide +kernel
theorem dX10_does_101 : decode cX10_does 101 = .ok (.ireturn, 1) := by decide +kernel
theorem dX10_does_102 : decode cX10_does 102 = .ok (.aload_n 0, 1) := by decide +kernel
theorem dX10_does_103 : decode cX10_does 103 = .ok (.iload_n 2, 1) := by decide +kernel
theorem dX10_does_104 : decode cX10_does 104 = .ok (.invokevirtual 145, 3) := by decide +kernel
theorem dX10_does_107 : decode cX10_does 107 = .ok (.ireturn, 1) := by decide +kernel
theorem dX10_does_108 : decode cX10_does 108 = .ok (.aload_n 0, 1) := by decide +kernel
theorem dX10_does_109 : decode cX10_does 109 = .ok (.iload_n 2, 1) := by decide +kernel
theorem dX10_does_110 : decode cX10_does 110 = .ok (.iload_n 3, 1) := by decide +kernel
theorem dX10_does_111 : decode cX10_does 111 = .ok (.invokevirtual 160, 3) := by decide +kernel
theorem dX10_does_114 : decode cX10_does 114 = .ok (.ireturn, 1) := by decide +kernel
theorem dX10_does_115 : decode cX10_does 115 = .ok (.aload_n 0, 1) := by decide +kernel
theorem dX10_does_116 : decode cX10_does 116 = .ok (.iload_n 2, 1) := by decide +kernel
theorem dX10_does_117 : decode cX10_does 117 = .ok (.iload_n 3, 1) := by decide +kernel
theorem dX10_does_118 : decode cX10_does 118 = .ok (.iload 4, 2) := by decide +kernel
theorem dX10_does_120 : decode cX10_does 120 = .ok (.iload 5, 2) := by decide +kernel
theorem dX10_does_122 : decode cX10_does 122 = .ok (.invokevirtual 178, 3) := by decide +kernel
theorem dX10_does_125 : decode cX10_does 125 = .ok (.ireturn, 1) := by decide +kernel
theorem dX10_does_126 : decode cX10_does 126 = .ok (.aload_n 0, 1) := by decide +kernel
theorem dX10_does_127 : decode cX10_does 127 = .ok (.iload_n 2, 1) := by decide +kernel
theorem dX10_does_128 : decode cX10_does 128 = .ok (.invokevirtual 182, 3) := by decide +kernel
theorem dX10_does_131 : decode cX10_does 131 = .ok (.ireturn, 1) := by decide +kernel
theorem dX10_command_0 : decode cX10_command 0 = .ok (.aload_n 0, 1) := by decide +kernel
theorem dX10_command_1 : decode cX10_command 1 = .ok (.invokevirtual 211, 3) := by decide +kernel
theorem dX10_command_4 : decode cX10_command 4 = .ok (.istore_n 1, 1) := by decide +kernel
theorem dX10_command_5 : decode cX10_command 5 = .ok (.iconst 0, 1) := by decide +kernel
theorem dX10_command_6 : decode cX10_command 6 = .ok (.istore_n 2, 1) := by decide +kernel
theorem dX10_command_7 : decode cX10_command 7 = .ok (.iconst 0, 1) := by decide +kernel
theorem dX10_command_8 : decode cX10_command 8 = .ok (.istore_n 3, 1) := by decide +kernel
theorem dX10_command_9 : decode cX10_command 9 = .ok (.iconst 0, 1) := by decide +kernel
theorem dX10_command_10 : decode cX10_command 10 = .ok (.istore 4, 2) := by decide +kernel
theorem dX10_command_12 : decode cX10_command 12 = .ok (.aload_n 0, 1) := by decide +kernel
theorem dX10_command_13 : decode cX10_command 13 = .ok (.getfield 197, 3) := by decide +kernel
theorem dX10_command_16 : decode cX10_command 16 = .ok (.ifCond .eq 4, 3) := by decide +kernel
theorem dX10_command_19 : decode cX10_command 19 = .ok (.return_, 1) := by decide +kernel
theorem dX10_command_20 : decode cX10_command 20 = .ok (.aload_n 0, 1) := by decide +kernel
theorem dX10_command_21 : decode cX10_command 21 = .ok (.iload_n 1, 1) := by decide +kernel
theorem dX10_command_22 : decode cX10_command 22 = .ok (.iconst 2, 1) := by decide +kernel
theorem dX10_command_23 : decode cX10_command 23 = .ok (.if_icmp .lt 12, 3) := by decide +kernel
theorem dX10_command_26 : decode cX10_command 26 = .ok (.iload_n 1, 1) := by decide +kernel
theorem dX10_command_27 : decode cX10_command 27 = .ok (.iconst 4, 1) := by decide +kernel
theorem dX10_command_28 : decode cX10_command 28 = .ok (.if_icmp .gt 7, 3) := by decide +kernel
theorem dX10_command_31 : decode cX10_command 31 = .ok (.iconst 2, 1) := by decide +kernel
theorem dX10_command_32 : decode cX10_command 32 = .ok (.goto 4, 3) := by decide +kernel
theorem dX10_command_35 : decode cX10_command 35 = .ok (.iconst 1, 1) := by decide +kernel
theorem dX10_command_36 : decode cX10_command 36 = .ok (.invokevirtual 208, 3) := by decide +kernel
theorem dX10_command_39 : decode cX10_command 39 = .ok (.istore 5, 2) := by decide +kernel
theorem dX10_command_41 : decode cX10_command 41 = .ok (.iload_n 1, 1) := by decide +kernel
theorem dX10_command_42 : decode cX10_command 42 = .ok (.ifCond .ne 16, 3) := by decide +kernel
theorem dX10_command_45 : decode cX10_command 45 = .ok (.aload_n 0, 1) := by decide +kernel
theorem dX10_command_46 : decode cX10_command 46 = .ok (.getfield 197, 3) := by decide +kernel
theorem dX10_command_49 : decode cX10_command 49 = .ok (.ifCond .ne 9, 3) := by decide +kernel
theorem dX10_command_52 : decode cX10_command 52 = .ok (.aload_n 0, 1) := by decide +kernel
theorem dX10_command_53 : decode cX10_command 53 = .ok (.iconst 1, 1) := by decide +kernel
theorem dX10_command_54 : decode cX10_command 54 = .ok (.invokevirtual 208, 3) := by decide +kernel
theorem dX10_command_57 : decode cX10_command 57 = .ok (.istore_n 2, 1) := by decide +kernel
theorem dX10_command_58 : decode cX10_command 58 = .ok (.iload_n 1, 1) := by decide +kernel
theorem dX10_command_59 : decode cX10_command 59 = .ok (.iconst 2, 1) := by decide +kernel
theorem dX10_command_60 : decode cX10_command 60 = .ok (.if_icmp .ne 16, 3) := by decide +kernel
theorem dX10_command_63 : decode cX10_command 63 = .ok (.aload_n 0, 1) := by decide +kernel
theorem dX10_command_64 : decode cX10_command 64 = .ok (.getfield 197, 3) := by decide +kernel
theorem dX10_command_67 : decode cX10_command 67 = .ok (.ifCond .ne 9, 3) := by decide +kernel
theorem dX10_command_70 : decode cX10_command 70 = .ok (.aload_n 0, 1) := by decide +kernel
theorem dX10_command_71 : decode cX10_command 71 = .ok (.iconst 1, 1) := by decide +kernel
theorem dX10_command_72 : decode cX10_command 72 = .ok (.invokevirtual 214, 3) := by decide +kernel
theorem dX10_command_75 : decode cX10_command 75 = .ok (.istore_n 2, 1) := by decide +kernel
theorem dX10_command_76 : decode cX10_command 76 = .ok (.iload_n 1, 1) := by decide +kernel
theorem dX10_command_77 : decode cX10_command 77 = .ok (.iconst 5, 1) := by decide +kernel
theorem dX10_command_78 : decode cX10_command 78 = .ok (.if_icmp .eq 21, 3) := by decide +kernel
theorem dX10_command_81 : decode cX10_command 81 = .ok (.iload_n 1, 1) := by decide +kernel
theorem dX10_command_82 : decode cX10_command 82 = .ok (.bipush 6, 2) := by decide +kernel
theorem dX10_command_84 : decode cX10_command 84 = .ok (.if_icmp .eq 15, 3) := by decide +kernel
theorem dX10_command_87 : decode cX10_command 87 = .ok (.iload_n 1, 1) := by decide +kernel
theorem dX10_command_88 : decode cX10_command 88 = .ok (.bipush 8, 2) := by decide +kernel
theorem dX10_command_90 : decode cX10_command 90 = .ok (.if_icmp .eq 9, 3) := by decide +kernel
theorem dX10_command_93 : decode cX10_command 93 = .ok (.iload_n 1, 1) := by decide +kernel
theorem dX10_command_94 : decode cX10_command 94 = .ok (.bipush 9, 2) := by decide +kernel
theorem dX10_command_96 : decode cX10_command 96 = .ok (.if_icmp .ne 16, 3) := by decide +kernel
theorem dX10_command_99 : decode cX10_command 99 = .ok (.aload_n 0, 1) := by decide +kernel
theorem dX10_command_100 : decode cX10_command 100 = .ok (.getfield 197, 3) := by decide +kernel
theorem dX10_command_103 : decode cX10_command 103 = .ok (.ifCond .ne 9, 3) := by decide +kernel
theorem dX10_command_106 : decode cX10_command 106 = .ok (.aload_n 0, 1) := by decide +kernel
theorem dX10_command_107 : decode cX10_command 107 = .ok (.iconst 2, 1) := by decide +kernel
theorem dX10_command_108 : decode cX10_command 108 = .ok (.invokevirtual 214, 3) := by decide +kernel
theorem dX10_command_111 : decode cX10_command 111 = .ok (.istore_n 2, 1) := by decide +kernel
theorem dX10_command_112 : decode cX10_command 112 = .ok (.iload_n 1, 1) := by decide +kernel
theorem dX10_command_113 : decode cX10_command 113 = .ok (.bipush 9, 2) := by decide +kernel
theorem dX10_command_115 : decode cX10_command 115 = .ok (.if_icmp .ne 9, 3) := by decide +kernel
theorem dX10_command_118 : decode cX10_command 118 = .ok (.aload_n 0, 1) := by decide +kernel
theorem dX10_command_119 : decode cX10_command 119 = .ok (.invokevirtual 217, 3) := by decide +kernel
theorem dX10_command_122 : decode cX10_command 122 = .ok (.istore 4, 2) := by decide +kernel
theorem dX10_command_124 : decode cX10_command 124 = .ok (.iload_n 1, 1) := by decide +kernel
theorem dX10_command_125 : decode cX10_command 125 = .ok (.bipush 9, 2) := by decide +kernel
theorem dX10_command_127 : decode cX10_command 127 = .ok (.if_icmp .ne 16, 3) := by decide +kernel
theorem dX10_command_130 : decode cX10_command 130 = .ok (.aload_n 0, 1) := by decide +kernel
theorem dX10_command_131 : decode cX10_command 131 = .ok (.getfield 197, 3) := by decide +kernel
theorem dX10_command_134 : decode cX10_command 134 = .ok (.ifCond .ne 9, 3) := by decide +kernel
theorem dX10_command_137 : decode cX10_command 137 = .ok (.aload_n 0, 1) := by decide +kernel
theorem dX10_command_138 : decode cX10_command 138 = .ok (.iconst 1, 1) := by decide +kernel
theorem dX10_command_139 : decode cX10_command 139 = .ok (.invokevirtual 208, 3) := by decide +kernel
theorem dX10_command_142 : decode cX10_command 142 = .ok (.istore_n 3, 1) := by decide +kernel
theorem dX10_command_143 : decode cX10_command 143 = .ok (.aload_n 0, 1) := by decide +kernel
theorem dX10_command_144 : decode cX10_command 144 = .ok (.getfield 197, 3) := by decide +kernel
theorem dX10_command_147 : decode cX10_command 147 = .ok (.ifCond .ne 10, 3) := by decide +kernel
theorem dX10_command_150 : decode cX10_command 150 = .ok (.aload_n 0, 1) := by decide +kernel
theorem dX10_command_151 : decode cX10_command 151 = .ok (.getfield 220, 3) := by decide +kernel
theorem dX10_command_154 : decode cX10_command 154 = .ok (.ifCond .ne 4, 3) := by decide +kernel
theorem dX10_command_157 : decode cX10_command 157 = .ok (.return_, 1) := by decide +kernel
theorem dX10_command_158 : decode cX10_command 158 = .ok (.aload_n 0, 1) := by decide +kernel
theorem dX10_command_159 : decode cX10_command 159 = .ok (.iload_n 1, 1) := by decide +kernel
theorem dX10_command_160 : decode cX10_command 160 = .ok (.iload 5, 2) := by decide +kernel
theorem dX10_command_162 : decode cX10_command 162 = .ok (.iload_n 2, 1) := by decide +kernel
theorem dX10_command_163 : decode cX10_command 163 = .ok (.iload_n 3, 1) := by decide +kernel
theorem dX10_command_164 : decode cX10_command 164 = .ok (.iload 4, 2) := by decide +kernel
theorem dX10_command_166 : decode cX10_command 166 = .ok (.invokevirtual 223, 3) := by decide +kernel
theorem dX10_command_169 : decode cX10_command 169 = .ok (.istore 6, 2) := by decide +kernel
theorem dX10_command_171 : decode cX10_command 171 = .ok (.return_, 1) := by decide +kernel
theorem dX10_commands_0 : decode cX10_commands 0 = .ok (.aload_n 0, 1) := by decide +kernel
theorem dX10_commands_1 : decode cX10_commands 1 = .ok (.iconst 0, 1) := by decide +kernel
theorem dX10_commands_2 : decode cX10_commands 2 = .ok (.putfield 191, 3) := by decide +kernel
theorem dX10_commands_5 : decode cX10_commands 5 = .ok (.aload_n 0, 1) := by decide +kernel
theorem dX10_commands_6 : decode cX10_commands 6 = .ok (.iconst 0, 1) := by decide +kernel
theorem dX10_commands_7 : decode cX10_commands 7 = .ok (.putfield 197, 3) := by decide +kernel
theorem dX10_commands_10 : decode cX10_commands 10 = .ok (.iconst 1, 1) := by decide +kernel
theorem dX10_commands_11 : decode cX10_commands 11 = .ok (.istore_n 1, 1) := by decide +kernel
theorem dX10_commands_12 : decode cX10_commands 12 = .ok (.aload_n 0, 1) := by decide +kernel
theorem dX10_commands_13 : decode cX10_commands 13 = .ok (.invokevirtual 227, 3) := by decide +kernel
theorem dX10_commands_16 : decode cX10_commands 16 = .ok (.aload_n 0, 1) := by decide +kernel
theorem dX10_commands_17 : decode cX10_commands 17 = .ok (.getfield 197, 3) := by decide +kernel
theorem dX10_commands_20 : decode cX10_commands 20 = .ok (.ifCond .ne 44, 3) := by decide +kernel
theorem dX10_commands_23 : decode cX10_commands 23 = .ok (.aload_n 0, 1) := by decide +kernel
theorem dX10_commands_24 : decode cX10_commands 24 = .ok (.getfield 44, 3) := by decide +kernel
theorem dX10_commands_27 : decode cX10_commands 27 = .ok (.ifCond .ne 37, 3) := by decide +kernel
theorem dX10_commands_30 : decode cX10_commands 30 = .ok (.aload_n 0, 1) := by decide +kernel
theorem dX10_commands_31 : decode cX10_commands 31 = .ok (.getfield 191, 3) := by decide +kernel
theorem dX10_commands_34 : decode cX10_commands 34 = .ok (.aload_n 0, 1) := by decide +kernel
theorem dX10_commands_35 : decode cX10_commands 35 = .ok (.getfield 194, 3) := by decide +kernel
theorem dX10_commands_38 : decode cX10_commands 38 = .ok (.if_icmp .ge 26, 3) := by decide +kernel
theorem dX10_commands_41 : decode cX10_commands 41 = .ok (.aload_n 0, 1) := by decide +kernel
theorem dX10_commands_42 : decode cX10_commands 42 = .ok (.bipush 59, 2) := by decide +kernel
theorem dX10_commands_44 : decode cX10_commands 44 = .ok (.invokevirtual 204, 3) := by decide +kernel
theorem dX10_commands_47 : decode cX10_commands 47 = .ok (.aload_n 0, 1) := by decide +kernel
theorem dX10_commands_48 : decode cX10_commands 48 = .ok (.getfield 197, 3) := by decide +kernel
theorem dX10_commands_51 : decode cX10_commands 51 = .ok (.ifCond .ne 7, 3) := by decide +kernel
theorem dX10_commands_54 : decode cX10_commands 54 = .ok (.aload_n 0, 1) := by decide +kernel
theorem dX10_commands_55 : decode cX10_commands 55 = .ok (.invokevirtual 227, 3) := by decide +kernel
theorem dX10_commands_58 : decode cX10_commands 58 = .ok (.iinc 1 1, 3) := by decide +kernel
theorem dX10_commands_61 : decode cX10_commands 61 = .ok (.goto (-45), 3) := by decide +kernel
theorem dX10_commands_64 : decode cX10_commands 64 = .ok (.iload_n 1, 1) := by decide +kernel
theorem dX10_commands_65 : decode cX10_commands 65 = .ok (.ireturn, 1) := by decide +kernel
theorem dX10_run_0 : decode cX10_run 0 = .ok (.aload_n 0, 1) := by decide +kernel
theorem dX10_run_1 : decode cX10_run 1 = .ok (.invokevirtual 76, 3) := by decide +kernel
theorem dX10_run_4 : decode cX10_run 4 = .ok (.aload_n 0, 1) := by decide +kernel
theorem dX10_run_5 : decode cX10_run 5 = .ok (.aload_n 0, 1) := by decide +kernel
theorem dX10_run_6 : decode cX10_run 6 = .ok (.getfield 188, 3) := by decide +kernel
theorem dX10_run_9 : decode cX10_run 9 = .ok (.putfield 194, 3) := by decide +kernel
theorem dX10_run_12 : decode cX10_run 12 = .ok (.aload_n 0, 1) := by decide +kernel
theorem dX10_run_13 : decode cX10_run 13 = .ok (.iconst 0, 1) := by decide +kernel
theorem dX10_run_14 : decode cX10_run 14 = .ok (.putfield 188, 3) := by decide +kernel
theorem dX10_run_17 : decode cX10_run 17 = .ok (.aload_n 0, 1) := by decide +kernel
theorem dX10_run_18 : decode cX10_run 18 = .ok (.iconst 0, 1) := by decide +kernel
theorem dX10_run_19 : decode cX10_run 19 = .ok (.putfield 220, 3) := by decide +kernel
theorem dX10_run_22 : decode cX10_run 22 = .ok (.aload_n 0, 1) := by decide +kernel
theorem dX10_run_23 : decode cX10_run 23 = .ok (.invokevirtual 230, 3) := by decide +kernel
theorem dX10_run_26 : decode cX10_run 26 = .ok (.istore_n 1, 1) := by decide +kernel
theorem dX10_run_27 : decode cX10_run 27 = .ok (.aload_n 0, 1) := by decide +kernel
theorem dX10_run_28 : decode cX10_run 28 = .ok (.getfield 197, 3) := by decide +kernel
theorem dX10_run_31 : decode cX10_run 31 = .ok (.ifCond .eq 17, 3) := by decide +kernel
theorem dX10_run_34 : decode cX10_run 34 = .ok (.aload_n 0, 1) := by decide +kernel
theorem dX10_run_35 : decode cX10_run 35 = .ok (.aload_n 0, 1) := by decide +kernel
theorem dX10_run_36 : decode cX10_run 36 = .ok (.getfield 191, 3) := by decide +kernel
theorem dX10_run_39 : decode cX10_run 39 = .ok (.putfield 7, 3) := by decide +kernel
theorem dX10_run_42 : decode cX10_run 42 = .ok (.aload_n 0, 1) := by decide +kernel
theorem dX10_run_43 : decode cX10_run 43 = .ok (.iconst 1, 1) := by decide +kernel
theorem dX10_run_44 : decode cX10_run 44 = .ok (.invokevirtual 72, 3) := by decide +kernel
theorem dX10_run_47 : decode cX10_run 47 = .ok (.ireturn, 1) := by decide +kernel
theorem dX10_run_48 : decode cX10_run 48 = .ok (.aload_n 0, 1) := by decide +kernel
theorem dX10_run_49 : decode cX10_run 49 = .ok (.iconst 1, 1) := by decide +kernel
theorem dX10_run_50 : decode cX10_run 50 = .ok (.putfield 220, 3) := by decide +kernel
theorem dX10_run_53 : decode cX10_run 53 = .ok (.aload_n 0, 1) := by decide +kernel
theorem dX10_run_54 : decode cX10_run 54 = .ok (.invokevirtual 230, 3) := by decide +kernel
theorem dX10_run_57 : decode cX10_run 57 = .ok (.istore_n 1, 1) := by decide +kernel
theorem dX10_run_58 : decode cX10_run 58 = .ok (.aload_n 0, 1) := by decide +kernel
theorem dX10_run_59 : decode cX10_run 59 = .ok (.getfield 44, 3) := by decide +kernel
theorem dX10_run_62 : decode cX10_run 62 = .ok (.ifCond .eq 15, 3) := by decide +kernel
theorem dX10_run_65 : decode cX10_run 65 = .ok (.aload_n 0, 1) := by decide +kernel
theorem dX10_run_66 : decode cX10_run 66 = .ok (.iload_n 1, 1) := by decide +kernel
theorem dX10_run_67 : decode cX10_run 67 = .ok (.iconst 1, 1) := by decide +kernel
theorem dX10_run_68 : decode cX10_run 68 = .ok (.isub, 1) := by decide +kernel
theorem dX10_run_69 : decode cX10_run 69 = .ok (.putfield 13, 3) := by decide +kernel
theorem dX10_run_72 : decode cX10_run 72 = .ok (.aload_n 0, 1) := by decide +kernel
theorem dX10_run_73 : decode cX10_run 73 = .ok (.iconst 2, 1) := by decide +kernel
theorem dX10_run_74 : decode cX10_run 74 = .ok (.putfield 44, 3) := by decide +kernel
theorem dX10_run_77 : decode cX10_run 77 = .ok (.aload_n 0, 1) := by decide +kernel
theorem dX10_run_78 : decode cX10_run 78 = .ok (.iload_n 1, 1) := by decide +kernel
theorem dX10_run_79 : decode cX10_run 79 = .ok (.invokevirtual 82, 3) := by decide +kernel
theorem dX10_run_82 : decode cX10_run 82 = .ok (.ireturn, 1) := by decide +kernel
theorem dX10_errorPosition_0 : decode cX10_errorPosition 0 = .ok (.aload_n 0, 1) := by decide +kernel
theorem dX10_errorPosition_1 : decode cX10_errorPosition 1 = .ok (.aload_n 0, 1) := by decide +kernel
theorem dX10_errorPosition_2 : decode cX10_errorPosition 2 = .ok (.getfield 7, 3) := by decide +kernel
theorem dX10_errorPosition_5 : decode cX10_errorPosition 5 = .ok (.ifCond .ge 7, 3) := by decide +kernel
theorem dX10_errorPosition_8 : decode cX10_errorPosition 8 = .ok (.iconst 1, 1) := by decide +kernel
theorem dX10_errorPosition_9 : decode cX10_errorPosition 9 = .ok (.goto 4, 3) := by decide +kernel
theorem dX10_errorPosition_12 : decode cX10_errorPosition 12 = .ok (.iconst 0, 1) := by decide +kernel
theorem dX10_errorPosition_13 : decode cX10_errorPosition 13 = .ok (.putfield 44, 3) := by decide +kernel
theorem dX10_errorPosition_16 : decode cX10_errorPosition 16 = .ok (.aload_n 0, 1) := by decide +kernel
theorem dX10_errorPosition_17 : decode cX10_errorPosition 17 = .ok (.getfield 44, 3) := by decide +kernel
theorem dX10_errorPosition_20 : decode cX10_errorPosition 20 = .ok (.ifCond .ne 10, 3) := by decide +kernel
theorem dX10_errorPosition_23 : decode cX10_errorPosition 23 = .ok (.aload_n 0, 1) := by decide +kernel
theorem dX10_errorPosition_24 : decode cX10_errorPosition 24 = .ok (.getfield 7, 3) := by decide +kernel
theorem dX10_errorPosition_27 : decode cX10_errorPosition 27 = .ok (.goto 4, 3) := by decide +kernel
theorem dX10_errorPosition_30 : decode cX10_errorPosition 30 = .ok (.iconst 0, 1) := by decide +kernel
theorem dX10_errorPosition_31 : decode cX10_errorPosition 31 = .ok (.ireturn, 1) := by decide +kernel
theorem dX10_failedCommand_0 : decode cX10_failedCommand 0 = .ok (.aload_n 0, 1) := by decide +kernel
theorem dX10_failedCommand_1 : decode cX10_failedCommand 1 = .ok (.aload_n 0, 1) := by decide +kernel
theorem dX10_failedCommand_2 : decode cX10_failedCommand 2 = .ok (.getfield 13, 3) := by decide +kernel
theorem dX10_failedCommand_5 : decode cX10_failedCommand 5 = .ok (.ifCond .ge 7, 3) := by decide +kernel
theorem dX10_failedCommand_8 : decode cX10_failedCommand 8 = .ok (.iconst 1, 1) := by decide +kernel
theorem dX10_failedCommand_9 : decode cX10_failedCommand 9 = .ok (.goto 4, 3) := by decide +kernel
theorem dX10_failedCommand_12 : decode cX10_failedCommand 12 = .ok (.iconst 0, 1) := by decide +kernel
theorem dX10_failedCommand_13 : decode cX10_failedCommand 13 = .ok (.putfield 44, 3) := by decide +kernel
theorem dX10_failedCommand_16 : decode cX10_failedCommand 16 = .ok (.aload_n 0, 1) := by decide +kernel
theorem dX10_failedCommand_17 : decode cX10_failedCommand 17 = .ok (.getfield 44, 3) := by decide +kernel
theorem dX10_failedCommand_20 : decode cX10_failedCommand 20 = .ok (.ifCond .ne 10, 3) := by decide +kernel
theorem dX10_failedCommand_23 : decode cX10_failedCommand 23 = .ok (.aload_n 0, 1) := by decide +kernel
theorem dX10_failedCommand_24 : decode cX10_failedCommand 24 = .ok (.getfield 13, 3) := by decide +kernel
theorem dX10_failedCommand_27 : decode cX10_failedCommand 27 = .ok (.goto 4, 3) := by decide +kernel
theorem dX10_failedCommand_30 : decode cX10_failedCommand 30 = .ok (.iconst 0, 1) := by decide +kernel
theorem dX10_failedCommand_31 : decode cX10_failedCommand 31 = .ok (.ireturn, 1) := by decide +kernel
theorem dX10_writes_0 : decode cX10_writes 0 = .ok (.aload_n 0, 1) := by decide +kernel
theorem dX10_writes_1 : decode cX10_writes 1 = .ok (.getfield 32, 3) := by decide +kernel
theorem dX10_writes_4 : decode cX10_writes 4 = .ok (.aload_n 0, 1) := by decide +kernel
theorem dX10_writes_5 : decode cX10_writes 5 = .ok (.getfield 233, 3) := by decide +kernel
theorem dX10_writes_8 : decode cX10_writes 8 = .ok (.iload_n 1, 1) := by decide +kernel
theorem dX10_writes_9 : decode cX10_writes 9 = .ok (.iastore, 1) := by decide +kernel
theorem dX10_writes_10 : decode cX10_writes 10 = .ok (.aload_n 0, 1) := by decide +kernel
theorem dX10_writes_11 : decode cX10_writes 11 = .ok (.dup, 1) := by decide +kernel
theorem dX10_writes_12 : decode cX10_writes 12 = .ok (.getfield 233, 3) := by decide +kernel
theorem dX10_writes_15 : decode cX10_writes 15 = .ok (.iconst 1, 1) := by decide +kernel
theorem dX10_writes_16 : decode cX10_writes 16 = .ok (.iadd, 1) := by decide +kernel
theorem dX10_writes_17 : decode cX10_writes 17 = .ok (.putfield 233, 3) := by decide +kernel
theorem dX10_writes_20 : decode cX10_writes 20 = .ok (.return_, 1) := by decide +kernel
theorem dX10_writesNumber_0 : decode cX10_writesNumber 0 = .ok (.iload_n 1, 1) := by decide +kernel
theorem dX10_writesNumber_1 : decode cX10_writesNumber 1 = .ok (.bipush 10, 2) := by decide +kernel
theorem dX10_writesNumber_3 : decode cX10_writesNumber 3 = .ok (.if_icmp .lt 14, 3) := by decide +kernel
theorem dX10_writesNumber_6 : decode cX10_writesNumber 6 = .ok (.aload_n 0, 1) := by decide +kernel
theorem dX10_writesNumber_7 : decode cX10_writesNumber 7 = .ok (.bipush 48, 2) := by decide +kernel
theorem dX10_writesNumber_9 : decode cX10_writesNumber 9 = .ok (.iload_n 1, 1) := by decide +kernel
theorem dX10_writesNumber_10 : decode cX10_writesNumber 10 = .ok (.bipush 10, 2) := by decide +kernel
theorem dX10_writesNumber_12 : decode cX10_writesNumber 12 = .ok (.idiv, 1) := by decide +kernel
theorem dX10_writesNumber_13 : decode cX10_writesNumber 13 = .ok (.iadd, 1) := by decide +kernel
theorem dX10_writesNumber_14 : decode cX10_writesNumber 14 = .ok (.invokevirtual 236, 3) := by decide +kernel
theorem dX10_writesNumber_17 : decode cX10_writesNumber 17 = .ok (.aload_n 0, 1) := by decide +kernel
theorem dX10_writesNumber_18 : decode cX10_writesNumber 18 = .ok (.bipush 48, 2) := by decide +kernel
theorem dX10_writesNumber_20 : decode cX10_writesNumber 20 = .ok (.iload_n 1, 1) := by decide +kernel
theorem dX10_writesNumber_21 : decode cX10_writesNumber 21 = .ok (.bipush 10, 2) := by decide +kernel
theorem dX10_writesNumber_23 : decode cX10_writesNumber 23 = .ok (.irem, 1) := by decide +kernel
theorem dX10_writesNumber_24 : decode cX10_writesNumber 24 = .ok (.iadd, 1) := by decide +kernel
theorem dX10_writesNumber_25 : decode cX10_writesNumber 25 = .ok (.invokevirtual 236, 3) := by decide +kernel
theorem dX10_writesNumber_28 : decode cX10_writesNumber 28 = .ok (.return_, 1) := by decide +kernel
theorem dX10_describeList_0 : decode cX10_describeList 0 = .ok (.aload_n 0, 1) := by decide +kernel
theorem dX10_describeList_1 : decode cX10_describeList 1 = .ok (.aload_n 0, 1) := by decide +kernel
theorem dX10_describeList_2 : decode cX10_describeList 2 = .ok (.iload_n 1, 1) := by decide +kernel
theorem dX10_describeList_3 : decode cX10_describeList 3 = .ok (.invokevirtual 58, 3) := by decide +kernel
theorem dX10_describeList_6 : decode cX10_describeList 6 = .ok (.ifCond .eq 7, 3) := by decide +kernel
theorem dX10_describeList_9 : decode cX10_describeList 9 = .ok (.iconst 0, 1) := by decide +kernel
theorem dX10_describeList_10 : decode cX10_describeList 10 = .ok (.goto 4, 3) := by decide +kernel
theorem dX10_describeList_13 : decode cX10_describeList 13 = .ok (.iconst 1, 1) := by decide +kernel
theorem dX10_describeList_14 : decode cX10_describeList 14 = .ok (.putfield 44, 3) := by decide +kernel
theorem dX10_describeList_17 : decode cX10_describeList 17 = .ok (.aload_n 0, 1) := by decide +kernel
theorem dX10_describeList_18 : decode cX10_describeList 18 = .ok (.getfield 44, 3) := by decide +kernel
theorem dX10_describeList_21 : decode cX10_describeList 21 = .ok (.ifCond .eq 5, 3) := by decide +kernel
theorem dX10_describeList_24 : decode cX10_describeList 24 = .ok (.iconst 0, 1) := by decide +kernel
theorem dX10_describeList_25 : decode cX10_describeList 25 = .ok (.ireturn, 1) := by decide +kernel
theorem dX10_describeList_26 : decode cX10_describeList 26 = .ok (.aload_n 0, 1) := by decide +kernel
theorem dX10_describeList_27 : decode cX10_describeList 27 = .ok (.iconst 0, 1) := by decide +kernel
theorem dX10_describeList_28 : decode cX10_describeList 28 = .ok (.putfield 233, 3) := by decide +kernel
theorem dX10_describeList_31 : decode cX10_describeList 31 = .ok (.iconst 0, 1) := by decide +kernel
theorem dX10_describeList_32 : decode cX10_describeList 32 = .ok (.istore_n 2, 1) := by decide +kernel
theorem dX10_describeList_33 : decode cX10_describeList 33 = .ok (.iload_n 2, 1) := by decide +kernel
theorem dX10_describeList_34 : decode cX10_describeList 34 = .ok (.aload_n 0, 1) := by decide +kernel
theorem dX10_describeList_35 : decode cX10_describeList 35 = .ok (.getfield 16, 3) := by decide +kernel
theorem dX10_describeList_38 : decode cX10_describeList 38 = .ok (.iload_n 1, 1) := by decide +kernel
theorem dX10_describeList_39 : decode cX10_describeList 39 = .ok (.iconst 5, 1) := by decide +kernel
theorem dX10_describeList_40 : decode cX10_describeList 40 = .ok (.invokestatic 65, 3) := by decide +kernel
theorem dX10_describeList_43 : decode cX10_describeList 43 = .ok (.iaload, 1) := by decide +kernel
theorem dX10_describeList_44 : decode cX10_describeList 44 = .ok (.if_icmp .ge 54, 3) := by decide +kernel
theorem dX10_describeList_47 : decode cX10_describeList 47 = .ok (.aload_n 0, 1) := by decide +kernel
theorem dX10_describeList_48 : decode cX10_describeList 48 = .ok (.getfield 16, 3) := by decide +kernel
theorem dX10_describeList_51 : decode cX10_describeList 51 = .ok (.iload_n 1, 1) := by decide +kernel
theorem dX10_describeList_52 : decode cX10_describeList 52 = .ok (.aload_n 0, 1) := by decide +kernel
theorem dX10_describeList_53 : decode cX10_describeList 53 = .ok (.iload_n 1, 1) := by decide +kernel
theorem dX10_describeList_54 : decode cX10_describeList 54 = .ok (.iload_n 2, 1) := by decide +kernel
theorem dX10_describeList_55 : decode cX10_describeList 55 = .ok (.invokevirtual 142, 3) := by decide +kernel
theorem dX10_describeList_58 : decode cX10_describeList 58 = .ok (.invokestatic 69, 3) := by decide +kernel
theorem dX10_describeList_61 : decode cX10_describeList 61 = .ok (.iaload, 1) := by decide +kernel
theorem dX10_describeList_62 : decode cX10_describeList 62 = .ok (.istore_n 3, 1) := by decide +kernel
theorem dX10_describeList_63 : decode cX10_describeList 63 = .ok (.iload_n 2, 1) := by decide +kernel
theorem dX10_describeList_64 : decode cX10_describeList 64 = .ok (.ifCond .le 9, 3) := by decide +kernel
theorem dX10_describeList_67 : decode cX10_describeList 67 = .ok (.aload_n 0, 1) := by decide +kernel
theorem dX10_describeList_68 : decode cX10_describeList 68 = .ok (.bipush 44, 2) := by decide +kernel
theorem dX10_describeList_70 : decode cX10_describeList 70 = .ok (.invokevirtual 236, 3) := by decide +kernel
theorem dX10_describeList_73 : decode cX10_describeList 73 = .ok (.aload_n 0, 1) := by decide +kernel
theorem dX10_describeList_74 : decode cX10_describeList 74 = .ok (.iload_n 3, 1) := by decide +kernel
theorem dX10_describeList_75 : decode cX10_describeList 75 = .ok (.invokevirtual 239, 3) := by decide +kernel
theorem dX10_describeList_78 : decode cX10_describeList 78 = .ok (.aload_n 0, 1) := by decide +kernel
theorem dX10_describeList_79 : decode cX10_describeList 79 = .ok (.iload_n 3, 1) := by decide +kernel
theorem dX10_describeList_80 : decode cX10_describeList 80 = .ok (.invokevirtual 97, 3) := by decide +kernel
theorem dX10_describeList_83 : decode cX10_describeList 83 = .ok (.ifCond .ne 9, 3) := by decide +kernel
theorem dX10_describeList_86 : decode cX10_describeList 86 = .ok (.aload_n 0, 1) := by decide +kernel
theorem dX10_describeList_87 : decode cX10_describeList 87 = .ok (.bipush 126, 2) := by decide +kernel
theorem dX10_describeList_89 : decode cX10_describeList 89 = .ok (.invokevirtual 236, 3) := by decide +kernel
theorem dX10_describeList_92 : decode cX10_describeList 92 = .ok (.iinc 2 1, 3) := by decide +kernel
theorem dX10_describeList_95 : decode cX10_describeList 95 = .ok (.goto (-62), 3) := by decide +kernel
theorem dX10_describeList_98 : decode cX10_describeList 98 = .ok (.aload_n 0, 1) := by decide +kernel
theorem dX10_describeList_99 : decode cX10_describeList 99 = .ok (.getfield 16, 3) := by decide +kernel
theorem dX10_describeList_102 : decode cX10_describeList 102 = .ok (.iload_n 1, 1) := by decide +kernel
theorem dX10_describeList_103 : decode cX10_describeList 103 = .ok (.iconst 1, 1) := by decide +kernel
theorem dX10_describeList_104 : decode cX10_describeList 104 = .ok (.invokestatic 65, 3) := by decide +kernel
theorem dX10_describeList_107 : decode cX10_describeList 107 = .ok (.iaload, 1) := by decide +kernel
theorem dX10_describeList_108 : decode cX10_describeList 108 = .ok (.iconst 1, 1) := by decide +kernel
theorem dX10_describeList_109 : decode cX10_describeList 109 = .ok (.if_icmp .ne 9, 3) := by decide +kernel
theorem dX10_describeList_112 : decode cX10_describeList 112 = .ok (.aload_n 0, 1) := by decide +kernel
theorem dX10_describeList_113 : decode cX10_describeList 113 = .ok (.bipush 124, 2) := by decide +kernel
theorem dX10_describeList_115 : decode cX10_describeList 115 = .ok (.invokevirtual 236, 3) := by decide +kernel
theorem dX10_describeList_118 : decode cX10_describeList 118 = .ok (.aload_n 0, 1) := by decide +kernel
theorem dX10_describeList_119 : decode cX10_describeList 119 = .ok (.getfield 233, 3) := by decide +kernel
theorem dX10_describeList_122 : decode cX10_describeList 122 = .ok (.ireturn, 1) := by decide +kernel
theorem dX10_lineAt_0 : decode cX10_lineAt 0 = .ok (.aload_n 0, 1) := by decide +kernel
theorem dX10_lineAt_1 : decode cX10_lineAt 1 = .ok (.iload_n 1, 1) := by decide +kernel
theorem dX10_lineAt_2 : decode cX10_lineAt 2 = .ok (.iconst 0, 1) := by decide +kernel
theorem dX10_lineAt_3 : decode cX10_lineAt 3 = .ok (.aload_n 0, 1) := by decide +kernel
theorem dX10_lineAt_4 : decode cX10_lineAt 4 = .ok (.getfield 233, 3) := by decide +kernel
theorem dX10_lineAt_7 : decode cX10_lineAt 7 = .ok (.iconst 1, 1) := by decide +kernel
theorem dX10_lineAt_8 : decode cX10_lineAt 8 = .ok (.isub, 1) := by decide +kernel
theorem dX10_lineAt_9 : decode cX10_lineAt 9 = .ok (.invokestatic 54, 3) := by decide +kernel
theorem dX10_lineAt_12 : decode cX10_lineAt 12 = .ok (.ifCond .eq 7, 3) := by decide +kernel
theorem dX10_lineAt_15 : decode cX10_lineAt 15 = .ok (.iconst 0, 1) := by decide +kernel
theorem dX10_lineAt_16 : decode cX10_lineAt 16 = .ok (.goto 4, 3) := by decide +kernel
theorem dX10_lineAt_19 : decode cX10_lineAt 19 = .ok (.iconst 1, 1) := by decide +kernel
theorem dX10_lineAt_20 : decode cX10_lineAt 20 = .ok (.putfield 44, 3) := by decide +kernel
theorem dX10_lineAt_23 : decode cX10_lineAt 23 = .ok (.aload_n 0, 1) := by decide +kernel
theorem dX10_lineAt_24 : decode cX10_lineAt 24 = .ok (.getfield 44, 3) := by decide +kernel
theorem dX10_lineAt_27 : decode cX10_lineAt 27 = .ok (.ifCond .ne 13, 3) := by decide +kernel
theorem dX10_lineAt_30 : decode cX10_lineAt 30 = .ok (.aload_n 0, 1) := by decide +kernel
theorem dX10_lineAt_31 : decode cX10_lineAt 31 = .ok (.getfield 32, 3) := by decide +kernel
theorem dX10_lineAt_34 : decode cX10_lineAt 34 = .ok (.iload_n 1, 1) := by decide +kernel
theorem dX10_lineAt_35 : decode cX10_lineAt 35 = .ok (.iaload, 1) := by decide +kernel
theorem dX10_lineAt_36 : decode cX10_lineAt 36 = .ok (.i2c, 1) := by decide +kernel
theorem dX10_lineAt_37 : decode cX10_lineAt 37 = .ok (.goto 5, 3) := by decide +kernel
theorem dX10_lineAt_40 : decode cX10_lineAt 40 = .ok (.bipush 97, 2) := by decide +kernel
theorem dX10_lineAt_42 : decode cX10_lineAt 42 = .ok (.ireturn, 1) := by decide +kernel
theorem dX10_meanSittingWeight_0 : decode cX10_meanSittingWeight 0 = .ok (.aload_n 0, 1) := by decide +kernel
theorem dX10_meanSittingWeight_1 : decode cX10_meanSittingWeight 1 = .ok (.invokevirtual 109, 3) := by decide +kernel
theorem dX10_meanSittingWeight_4 : decode cX10_meanSittingWeight 4 = .ok (.istore_n 1, 1) := by decide +kernel
theorem dX10_meanSittingWeight_5 : decode cX10_meanSittingWeight 5 = .ok (.iconst 0, 1) := by decide +kernel
theorem dX10_meanSittingWeight_6 : decode cX10_meanSittingWeight 6 = .ok (.istore_n 2, 1) := by decide +kernel
theorem dX10_meanSittingWeight_7 : decode cX10_meanSittingWeight 7 = .ok (.iconst 0, 1) := by decide +kernel
theorem dX10_meanSittingWeight_8 : decode cX10_meanSittingWeight 8 = .ok (.istore_n 3, 1) := by decide +kernel
theorem dX10_meanSittingWeight_9 : decode cX10_meanSittingWeight 9 = .ok (.iload_n 3, 1) := by decide +kernel
theorem dX10_meanSittingWeight_10 : decode cX10_meanSittingWeight 10 = .ok (.aload_n 0, 1) := by decide +kernel
theorem dX10_meanSittingWeight_11 : decode cX10_meanSittingWeight 11 = .ok (.getfield 16, 3) := by decide +kernel
theorem dX10_meanSittingWeight_14 : decode cX10_meanSittingWeight 14 = .ok (.iconst 0, 1) := by decide +kernel
theorem dX10_meanSittingWeight_15 : decode cX10_meanSittingWeight 15 = .ok (.iaload, 1) := by decide +kernel
theorem dX10_meanSittingWeight_16 : decode cX10_meanSittingWeight 16 = .ok (.if_icmp .ge 33, 3) := by decide +kernel
theorem dX10_meanSittingWeight_19 : decode cX10_meanSittingWeight 19 = .ok (.iload_n 2, 1) := by decide +kernel
theorem dX10_meanSittingWeight_20 : decode cX10_meanSittingWeight 20 = .ok (.aload_n 0, 1) := by decide +kernel
theorem dX10_meanSittingWeight_21 : decode cX10_meanSittingWeight 21 = .ok (.iload_n 3, 1) := by decide +kernel
theorem dX10_meanSittingWeight_22 : decode cX10_meanSittingWeight 22 = .ok (.invokevirtual 97, 3) := by decide +kernel
theorem dX10_meanSittingWeight_25 : decode cX10_meanSittingWeight 25 = .ok (.ifCond .eq 15, 3) := by decide +kernel
theorem dX10_meanSittingWeight_28 : decode cX10_meanSittingWeight 28 = .ok (.aload_n 0, 1) := by decide +kernel
theorem dX10_meanSittingWeight_29 : decode cX10_meanSittingWeight 29 = .ok (.getfield 16, 3) := by decide +kernel
theorem dX10_meanSittingWeight_32 : decode cX10_meanSittingWeight 32 = .ok (.bipush 17, 2) := by decide +kernel
theorem dX10_meanSittingWeight_34 : decode cX10_meanSittingWeight 34 = .ok (.iload_n 3, 1) := by decide +kernel
theorem dX10_meanSittingWeight_35 : decode cX10_meanSittingWeight 35 = .ok (.iadd, 1) := by decide +kernel
theorem dX10_meanSittingWeight_36 : decode cX10_meanSittingWeight 36 = .ok (.iaload, 1) := by decide +kernel
theorem dX10_meanSittingWeight_37 : decode cX10_meanSittingWeight 37 = .ok (.goto 4, 3) := by decide +kernel
theorem dX10_meanSittingWeight_40 : decode cX10_meanSittingWeight 40 = .ok (.iconst 0, 1) := by decide +kernel
theorem dX10_meanSittingWeight_41 : decode cX10_meanSittingWeight 41 = .ok (.iadd, 1) := by decide +kernel
theorem dX10_meanSittingWeight_42 : decode cX10_meanSittingWeight 42 = .ok (.istore_n 2, 1) := by decide +kernel
theorem dX10_meanSittingWeight_43 : decode cX10_meanSittingWeight 43 = .ok (.iinc 3 1, 3) := by decide +kernel
theorem dX10_meanSittingWeight_46 : decode cX10_meanSittingWeight 46 = .ok (.goto (-37), 3) := by decide +kernel
theorem dX10_meanSittingWeight_49 : decode cX10_meanSittingWeight 49 = .ok (.aload_n 0, 1) := by decide +kernel
theorem dX10_meanSittingWeight_50 : decode cX10_meanSittingWeight 50 = .ok (.iload_n 1, 1) := by decide +kernel
theorem dX10_meanSittingWeight_51 : decode cX10_meanSittingWeight 51 = .ok (.ifCond .ne 7, 3) := by decide +kernel
theorem dX10_meanSittingWeight_54 : decode cX10_meanSittingWeight 54 = .ok (.iconst 1, 1) := by decide +kernel
theorem dX10_meanSittingWeight_55 : decode cX10_meanSittingWeight 55 = .ok (.goto 4, 3) := by decide +kernel
theorem dX10_meanSittingWeight_58 : decode cX10_meanSittingWeight 58 = .ok (.iconst 0, 1) := by decide +kernel
theorem dX10_meanSittingWeight_59 : decode cX10_meanSittingWeight 59 = .ok (.putfield 44, 3) := by decide +kernel
theorem dX10_meanSittingWeight_62 : decode cX10_meanSittingWeight 62 = .ok (.aload_n 0, 1) := by decide +kernel
theorem dX10_meanSittingWeight_63 : decode cX10_meanSittingWeight 63 = .ok (.getfield 44, 3) := by decide +kernel
theorem dX10_meanSittingWeight_66 : decode cX10_meanSittingWeight 66 = .ok (.ifCond .ne 11, 3) := by decide +kernel
theorem dX10_meanSittingWeight_69 : decode cX10_meanSittingWeight 69 = .ok (.iload_n 2, 1) := by decide +kernel
theorem dX10_meanSittingWeight_70 : decode cX10_meanSittingWeight 70 = .ok (.i2d, 1) := by decide +kernel
theorem dX10_meanSittingWeight_71 : decode cX10_meanSittingWeight 71 = .ok (.iload_n 1, 1) := by decide +kernel
theorem dX10_meanSittingWeight_72 : decode cX10_meanSittingWeight 72 = .ok (.i2d, 1) := by decide +kernel
theorem dX10_meanSittingWeight_73 : decode cX10_meanSittingWeight 73 = .ok (.ddiv, 1) := by decide +kernel
theorem dX10_meanSittingWeight_74 : decode cX10_meanSittingWeight 74 = .ok (.goto 4, 3) := by decide +kernel
theorem dX10_meanSittingWeight_77 : decode cX10_meanSittingWeight 77 = .ok (.dconst 0, 1) := by decide +kernel
theorem dX10_meanSittingWeight_78 : decode cX10_meanSittingWeight 78 = .ok (.dreturn, 1) := by decide +kernel
theorem dX10_isConsistent_0 : decode cX10_isConsistent 0 = .ok (.aload_n 0, 1) := by decide +kernel
theorem dX10_isConsistent_1 : decode cX10_isConsistent 1 = .ok (.iconst 0, 1) := by decide +kernel
theorem dX10_isConsistent_2 : decode cX10_isConsistent 2 = .ok (.putfield 44, 3) := by decide +kernel
theorem dX10_isConsistent_5 : decode cX10_isConsistent 5 = .ok (.iconst 0, 1) := by decide +kernel
theorem dX10_isConsistent_6 : decode cX10_isConsistent 6 = .ok (.istore_n 1, 1) := by decide +kernel
theorem dX10_isConsistent_7 : decode cX10_isConsistent 7 = .ok (.iconst 0, 1) := by decide +kernel
theorem dX10_isConsistent_8 : decode cX10_isConsistent 8 = .ok (.istore_n 2, 1) := by decide +kernel
theorem dX10_isConsistent_9 : decode cX10_isConsistent 9 = .ok (.iload_n 2, 1) := by decide +kernel
theorem dX10_isConsistent_10 : decode cX10_isConsistent 10 = .ok (.aload_n 0, 1) := by decide +kernel
theorem dX10_isConsistent_11 : decode cX10_isConsistent 11 = .ok (.getfield 16, 3) := by decide +kernel
theorem dX10_isConsistent_14 : decode cX10_isConsistent 14 = .ok (.iconst 2, 1) := by decide +kernel
theorem dX10_isConsistent_15 : decode cX10_isConsistent 15 = .ok (.iaload, 1) := by decide +kernel
theorem dX10_isConsistent_16 : decode cX10_isConsistent 16 = .ok (.if_icmp .ge 23, 3) := by decide +kernel
theorem dX10_isConsistent_19 : decode cX10_isConsistent 19 = .ok (.iload_n 1, 1) := by decide +kernel
theorem dX10_isConsistent_20 : decode cX10_isConsistent 20 = .ok (.aload_n 0, 1) := by decide +kernel
theorem dX10_isConsistent_21 : decode cX10_isConsistent 21 = .ok (.getfield 16, 3) := by decide +kernel
theorem dX10_isConsistent_24 : decode cX10_isConsistent 24 = .ok (.iload_n 2, 1) := by decide +kernel
theorem dX10_isConsistent_25 : decode cX10_isConsistent 25 = .ok (.bipush 6, 2) := by decide +kernel
theorem dX10_isConsistent_27 : decode cX10_isConsistent 27 = .ok (.invokestatic 65, 3) := by decide +kernel
theorem dX10_isConsistent_30 : decode cX10_isConsistent 30 = .ok (.iaload, 1) := by decide +kernel
theorem dX10_isConsistent_31 : decode cX10_isConsistent 31 = .ok (.iadd, 1) := by decide +kernel
theorem dX10_isConsistent_32 : decode cX10_isConsistent 32 = .ok (.istore_n 1, 1) := by decide +kernel
theorem dX10_isConsistent_33 : decode cX10_isConsistent 33 = .ok (.iinc 2 1, 3) := by decide +kernel
theorem dX10_isConsistent_36 : decode cX10_isConsistent 36 = .ok (.goto (-27), 3) := by decide +kernel
theorem dX10_isConsistent_39 : decode cX10_isConsistent 39 = .ok (.iload_n 1, 1) := by decide +kernel
theorem dX10_isConsistent_40 : decode cX10_isConsistent 40 = .ok (.aload_n 0, 1) := by decide +kernel
theorem dX10_isConsistent_41 : decode cX10_isConsistent 41 = .ok (.getfield 16, 3) := by decide +kernel
theorem dX10_isConsistent_44 : decode cX10_isConsistent 44 = .ok (.iconst 3, 1) := by decide +kernel
theorem dX10_isConsistent_45 : decode cX10_isConsistent 45 = .ok (.iaload, 1) := by decide +kernel
theorem dX10_isConsistent_46 : decode cX10_isConsistent 46 = .ok (.if_icmp .ne 7, 3) := by decide +kernel
theorem dX10_isConsistent_49 : decode cX10_isConsistent 49 = .ok (.iconst 1, 1) := by decide +kernel
theorem dX10_isConsistent_50 : decode cX10_isConsistent 50 = .ok (.goto 4, 3) := by decide +kernel
theorem dX10_isConsistent_53 : decode cX10_isConsistent 53 = .ok (.iconst 0, 1) := by decide +kernel
theorem dX10_isConsistent_54 : decode cX10_isConsistent 54 = .ok (.ireturn, 1) := by decide +kernel
theorem dX10_undo_0 : decode cX10_undo 0 = .ok (.aload_n 0, 1) := by decide +kernel
theorem dX10_undo_1 : decode cX10_undo 1 = .ok (.aload_n 0, 1) := by decide +kernel
theorem dX10_undo_2 : decode cX10_undo 2 = .ok (.getfield 51, 3) := by decide +kernel
theorem dX10_undo_5 : decode cX10_undo 5 = .ok (.ifCond .ne 7, 3) := by decide +kernel
theorem dX10_undo_8 : decode cX10_undo 8 = .ok (.iconst 1, 1) := by decide +kernel
theorem dX10_undo_9 : decode cX10_undo 9 = .ok (.goto 4, 3) := by decide +kernel
theorem dX10_undo_12 : decode cX10_undo 12 = .ok (.iconst 0, 1) := by decide +kernel
theorem dX10_undo_13 : decode cX10_undo 13 = .ok (.putfield 44, 3) := by decide +kernel
theorem dX10_undo_16 : decode cX10_undo 16 = .ok (.aload_n 0, 1) := by decide +kernel
theorem dX10_undo_17 : decode cX10_undo 17 = .ok (.getfield 44, 3) := by decide +kernel
theorem dX10_undo_20 : decode cX10_undo 20 = .ok (.ifCond .eq 5, 3) := by decide +kernel
theorem dX10_undo_23 : decode cX10_undo 23 = .ok (.iconst 0, 1) := by decide +kernel
theorem dX10_undo_24 : decode cX10_undo 24 = .ok (.ireturn, 1) := by decide +kernel
theorem dX10_undo_25 : decode cX10_undo 25 = .ok (.aload_n 0, 1) := by decide +kernel
theorem dX10_undo_26 : decode cX10_undo 26 = .ok (.dup, 1) := by decide +kernel
theorem dX10_undo_27 : decode cX10_undo 27 = .ok (.getfield 51, 3) := by decide +kernel
theorem dX10_undo_30 : decode cX10_undo 30 = .ok (.iconst 1, 1) := by decide +kernel
theorem dX10_undo_31 : decode cX10_undo 31 = .ok (.isub, 1) := by decide +kernel
theorem dX10_undo_32 : decode cX10_undo 32 = .ok (.putfield 51, 3) := by decide +kernel
theorem dX10_undo_35 : decode cX10_undo 35 = .ok (.iconst 0, 1) := by decide +kernel
theorem dX10_undo_36 : decode cX10_undo 36 = .ok (.istore_n 1, 1) := by decide +kernel
theorem dX10_undo_37 : decode cX10_undo 37 = .ok (.iload_n 1, 1) := by decide +kernel
theorem dX10_undo_38 : decode cX10_undo 38 = .ok (.sipush 407, 3) := by decide +kernel
theorem dX10_undo_41 : decode cX10_undo 41 = .ok (.if_icmp .ge 30, 3) := by decide +kernel
theorem dX10_undo_44 : decode cX10_undo 44 = .ok (.aload_n 0, 1) := by decide +kernel
theorem dX10_undo_45 : decode cX10_undo 45 = .ok (.getfield 16, 3) := by decide +kernel
theorem dX10_undo_48 : decode cX10_undo 48 = .ok (.iload_n 1, 1) := by decide +kernel
theorem dX10_undo_49 : decode cX10_undo 49 = .ok (.aload_n 0, 1) := by decide +kernel
theorem dX10_undo_50 : decode cX10_undo 50 = .ok (.getfield 26, 3) := by decide +kernel
theorem dX10_undo_53 : decode cX10_undo 53 = .ok (.aload_n 0, 1) := by decide +kernel
theorem dX10_undo_54 : decode cX10_undo 54 = .ok (.getfield 51, 3) := by decide +kernel
theorem dX10_undo_57 : decode cX10_undo 57 = .ok (.sipush 407, 3) := by decide +kernel
theorem dX10_undo_60 : decode cX10_undo 60 = .ok (.imul, 1) := by decide +kernel
theorem dX10_undo_61 : decode cX10_undo 61 = .ok (.iload_n 1, 1) := by decide +kernel
theorem dX10_undo_62 : decode cX10_undo 62 = .ok (.iadd, 1) := by decide +kernel
theorem dX10_undo_63 : decode cX10_undo 63 = .ok (.iaload, 1) := by decide +kernel
theorem dX10_undo_64 : decode cX10_undo 64 = .ok (.iastore, 1) := by decide +kernel
theorem dX10_undo_65 : decode cX10_undo 65 = .ok (.iinc 1 1, 3) := by decide +kernel
theorem dX10_undo_68 : decode cX10_undo 68 = .ok (.goto (-31), 3) := by decide +kernel
theorem dX10_undo_71 : decode cX10_undo 71 = .ok (.aload_n 0, 1) := by decide +kernel
theorem dX10_undo_72 : decode cX10_undo 72 = .ok (.getfield 51, 3) := by decide +kernel
theorem dX10_undo_75 : decode cX10_undo 75 = .ok (.ireturn, 1) := by decide +kernel
theorem dX10_save_0 : decode cX10_save 0 = .ok (.aload_n 0, 1) := by decide +kernel
theorem dX10_save_1 : decode cX10_save 1 = .ok (.iconst 0, 1) := by decide +kernel
theorem dX10_save_2 : decode cX10_save 2 = .ok (.putfield 44, 3) := by decide +kernel
theorem dX10_save_5 : decode cX10_save 5 = .ok (.aload_n 0, 1) := by decide +kernel
theorem dX10_save_6 : decode cX10_save 6 = .ok (.getfield 23, 3) := by decide +kernel
theorem dX10_save_9 : decode cX10_save 9 = .ok (.aload_n 0, 1) := by decide +kernel
theorem dX10_save_10 : decode cX10_save 10 = .ok (.getfield 16, 3) := by decide +kernel
theorem dX10_save_13 : decode cX10_save 13 = .ok (.invokestatic 47, 3) := by decide +kernel
theorem dX10_save_16 : decode cX10_save 16 = .ok (.aload_n 0, 1) := by decide +kernel
theorem dX10_save_17 : decode cX10_save 17 = .ok (.iconst 1, 1) := by decide +kernel
theorem dX10_save_18 : decode cX10_save 18 = .ok (.putfield 242, 3) := by decide +kernel
theorem dX10_save_21 : decode cX10_save 21 = .ok (.aload_n 0, 1) := by decide +kernel
theorem dX10_save_22 : decode cX10_save 22 = .ok (.getfield 16, 3) := by decide +kernel
theorem dX10_save_25 : decode cX10_save 25 = .ok (.iconst 2, 1) := by decide +kernel
theorem dX10_save_26 : decode cX10_save 26 = .ok (.iaload, 1) := by decide +kernel
theorem dX10_save_27 : decode cX10_save 27 = .ok (.ireturn, 1) := by decide +kernel
theorem dX10_restore_0 : decode cX10_restore 0 = .ok (.aload_n 0, 1) := by decide +kernel
theorem dX10_restore_1 : decode cX10_restore 1 = .ok (.aload_n 0, 1) := by decide +kernel
theorem dX10_restore_2 : decode cX10_restore 2 = .ok (.getfield 242, 3) := by decide +kernel
theorem dX10_restore_5 : decode cX10_restore 5 = .ok (.ifCond .eq 7, 3) := by decide +kernel
theorem dX10_restore_8 : decode cX10_restore 8 = .ok (.iconst 0, 1) := by decide +kernel
theorem dX10_restore_9 : decode cX10_restore 9 = .ok (.goto 4, 3) := by decide +kernel
theorem dX10_restore_12 : decode cX10_restore 12 = .ok (.iconst 1, 1) := by decide +kernel
theorem dX10_restore_13 : decode cX10_restore 13 = .ok (.putfield 44, 3) := by decide +kernel
theorem dX10_restore_16 : decode cX10_restore 16 = .ok (.aload_n 0, 1) := by decide +kernel
theorem dX10_restore_17 : decode cX10_restore 17 = .ok (.getfield 44, 3) := by decide +kernel
theorem dX10_restore_20 : decode cX10_restore 20 = .ok (.ifCond .eq 5, 3) := by decide +kernel
theorem dX10_restore_23 : decode cX10_restore 23 = .ok (.iconst 0, 1) := by decide +kernel
theorem dX10_restore_24 : decode cX10_restore 24 = .ok (.ireturn, 1) := by decide +kernel
theorem dX10_restore_25 : decode cX10_restore 25 = .ok (.aload_n 0, 1) := by decide +kernel
theorem dX10_restore_26 : decode cX10_restore 26 = .ok (.getfield 16, 3) := by decide +kernel
theorem dX10_restore_29 : decode cX10_restore 29 = .ok (.aload_n 0, 1) := by decide +kernel
theorem dX10_restore_30 : decode cX10_restore 30 = .ok (.getfield 23, 3) := by decide +kernel
theorem dX10_restore_33 : decode cX10_restore 33 = .ok (.invokestatic 47, 3) := by decide +kernel
theorem dX10_restore_36 : decode cX10_restore 36 = .ok (.aload_n 0, 1) := by decide +kernel
theorem dX10_restore_37 : decode cX10_restore 37 = .ok (.iconst 0, 1) := by decide +kernel
theorem dX10_restore_38 : decode cX10_restore 38 = .ok (.putfield 51, 3) := by decide +kernel
theorem dX10_restore_41 : decode cX10_restore 41 = .ok (.aload_n 0, 1) := by decide +kernel
theorem dX10_restore_42 : decode cX10_restore 42 = .ok (.getfield 16, 3) := by decide +kernel
theorem dX10_restore_45 : decode cX10_restore 45 = .ok (.iconst 2, 1) := by decide +kernel
theorem dX10_restore_46 : decode cX10_restore 46 = .ok (.iaload, 1) := by decide +kernel
theorem dX10_restore_47 : decode cX10_restore 47 = .ok (.ireturn, 1) := by decide +kernel
theorem dJ5_init_d00df_0 : decode cJ5_init_d00df 0 = .ok (.aload_n 0, 1) := by decide +kernel
theorem dJ5_init_d00df_1 : decode cJ5_init_d00df 1 = .ok (.invokespecial 3, 3) := by decide +kernel
theorem dJ5_init_d00df_4 : decode cJ5_init_d00df 4 = .ok (.getstatic 18, 3) := by decide +kernel
theorem dJ5_init_d00df_7 : decode cJ5_init_d00df 7 = .ok (.ifCond .eq 18, 3) := by decide +kernel
theorem dJ5_init_d00df_10 : decode cJ5_init_d00df 10 = .ok (.aload_n 0, 1) := by decide +kernel
theorem dJ5_init_d00df_11 : decode cJ5_init_d00df 11 = .ok (.iload_n 1, 1) := by decide +kernel
theorem dJ5_init_d00df_12 : decode cJ5_init_d00df 12 = .ok (.newarray .byte, 2) := by decide +kernel
theorem dJ5_init_d00df_14 : decode cJ5_init_d00df 14 = .ok (.putfield 15, 3) := by decide +kernel
theorem dJ5_init_d00df_17 : decode cJ5_init_d00df 17 = .ok (.aload_n 0, 1) := by decide +kernel
theorem dJ5_init_d00df_18 : decode cJ5_init_d00df 18 = .ok (.iconst 0, 1) := by decide +kernel
theorem dJ5_init_d00df_19 : decode cJ5_init_d00df 19 = .ok (.putfield 22, 3) := by decide +kernel
theorem dJ5_init_d00df_22 : decode cJ5_init_d00df 22 = .ok (.goto 16, 3) := by decide +kernel
theorem dJ5_init_d00df_25 : decode cJ5_init_d00df 25 = .ok (.aload_n 0, 1) := by decide +kernel
theorem dJ5_init_d00df_26 : decode cJ5_init_d00df 26 = .ok (.iload_n 1, 1) := by decide +kernel
theorem dJ5_init_d00df_27 : decode cJ5_init_d00df 27 = .ok (.invokestatic 26, 3) := by decide +kernel
theorem dJ5_init_d00df_30 : decode cJ5_init_d00df 30 = .ok (.putfield 15, 3) := by decide +kernel
theorem dJ5_init_d00df_33 : decode cJ5_init_d00df 33 = .ok (.aload_n 0, 1) := by decide +kernel
theorem dJ5_init_d00df_34 : decode cJ5_init_d00df 34 = .ok (.iconst 1, 1) := by decide +kernel
theorem dJ5_init_d00df_35 : decode cJ5_init_d00df 35 = .ok (.putfield 22, 3) := by decide +kernel
theorem dJ5_init_d00df_38 : decode cJ5_init_d00df 38 = .ok (.return_, 1) := by decide +kernel
theorem dJ5_length_8abf5_0 : decode cJ5_length_8abf5 0 = .ok (.aload_n 0, 1) := by decide +kernel
theorem dJ5_length_8abf5_1 : decode cJ5_length_8abf5 1 = .ok (.getfield 79, 3) := by decide +kernel
theorem dJ5_length_8abf5_4 : decode cJ5_length_8abf5 4 = .ok (.ireturn, 1) := by decide +kernel
theorem dJ5_ensureCapacityInternal_d00df_0 : decode cJ5_ensureCapacityInternal_d00df 0 = .ok (.aload_n 0, 1) := by decide +kernel
theorem dJ5_ensureCapacityInternal_d00df_1 : decode cJ5_ensureCapacityInternal_d00df 1 = .ok (.getfield 15, 3) := by decide +kernel
theorem dJ5_ensureCapacityInternal_d00df_4 : decode cJ5_ensureCapacityInternal_d00df 4 = .ok (.arraylength, 1) := by decide +kernel
theorem dJ5_ensureCapacityInternal_d00df_5 : decode cJ5_ensureCapacityInternal_d00df 5 = .ok (.aload_n 0, 1) := by decide +kernel
theorem dJ5_ensureCapacityInternal_d00df_6 : decode cJ5_ensureCapacityInternal_d00df 6 = .ok (.getfield 22, 3) := by decide +kernel
theorem dJ5_ensureCapacityInternal_d00df_9 : decode cJ5_ensureCapacityInternal_d00df 9 = .ok (.ishr, 1) := by decide +kernel
theorem dJ5_ensureCapacityInternal_d00df_10 : decode cJ5_ensureCapacityInternal_d00df 10 = .ok (.istore_n 2, 1) := by decide +kernel
theorem dJ5_ensureCapacityInternal_d00df_11 : decode cJ5_ensureCapacityInternal_d00df 11 = .ok (.iload_n 1, 1) := by decide +kernel
theorem dJ5_ensureCapacityInternal_d00df_12 : decode cJ5_ensureCapacityInternal_d00df 12 = .ok (.iload_n 2, 1) := by decide +kernel
theorem dJ5_ensureCapacityInternal_d00df_13 : decode cJ5_ensureCapacityInternal_d00df 13 = .ok (.isub, 1) := by decide +kernel
theorem dJ5_ensureCapacityInternal_d00df_14 : decode cJ5_ensureCapacityInternal_d00df 14 = .ok (.ifCond .le 24, 3) := by decide +kernel
theorem dJ5_ensureCapacityInternal_d00df_17 : decode cJ5_ensureCapacityInternal_d00df 17 = .ok (.aload_n 0, 1) := by decide +kernel
theorem dJ5_ensureCapacityInternal_d00df_18 : decode cJ5_ensureCapacityInternal_d00df 18 = .ok (.aload_n 0, 1) := by decide +kernel
theorem dJ5_ensureCapacityInternal_d00df_19 : decode cJ5_ensureCapacityInternal_d00df 19 = .ok (.getfield 15, 3) := by decide +kernel
theorem dJ5_ensureCapacityInternal_d00df_22 : decode cJ5_ensureCapacityInternal_d00df 22 = .ok (.aload_n 0, 1) := by decide +kernel
theorem dJ5_ensureCapacityInternal_d00df_23 : decode cJ5_ensureCapacityInternal_d00df 23 = .ok (.iload_n 1, 1) := by decide +kernel
theorem dJ5_ensureCapacityInternal_d00df_24 : decode cJ5_ensureCapacityInternal_d00df 24 = .ok (.invokevirtual 104, 3) := by decide +kernel
theorem dJ5_ensureCapacityInternal_d00df_27 : decode cJ5_ensureCapacityInternal_d00df 27 = .ok (.aload_n 0, 1) := by decide +kernel
theorem dJ5_ensureCapacityInternal_d00df_28 : decode cJ5_ensureCapacityInternal_d00df 28 = .ok (.getfield 22, 3) := by decide +kernel
theorem dJ5_ensureCapacityInternal_d00df_31 : decode cJ5_ensureCapacityInternal_d00df 31 = .ok (.ishl, 1) := by decide +kernel
theorem dJ5_ensureCapacityInternal_d00df_32 : decode cJ5_ensureCapacityInternal_d00df 32 = .ok (.invokestatic 108, 3) := by decide +kernel
theorem dJ5_ensureCapacityInternal_d00df_35 : decode cJ5_ensureCapacityInternal_d00df 35 = .ok (.putfield 15, 3) := by decide +kernel
theorem dJ5_ensureCapacityInternal_d00df_38 : decode cJ5_ensureCapacityInternal_d00df 38 = .ok (.return_, 1) := by decide +kernel
theorem dJ5_newCapacity_0f7a4_0 : decode cJ5_newCapacity_0f7a4 0 = .ok (.aload_n 0, 1) := by decide +kernel
theorem dJ5_newCapacity_0f7a4_1 : decode cJ5_newCapacity_0f7a4 1 = .ok (.getfield 15, 3) := by decide +kernel
theorem dJ5_newCapacity_0f7a4_4 : decode cJ5_newCapacity_0f7a4 4 = .ok (.arraylength, 1) := by decide +kernel
theorem dJ5_newCapacity_0f7a4_5 : decode cJ5_newCapacity_0f7a4 5 = .ok (.istore_n 2, 1) := by decide +kernel
theorem dJ5_newCapacity_0f7a4_6 : decode cJ5_newCapacity_0f7a4 6 = .ok (.iload_n 1, 1) := by decide +kernel
theorem dJ5_newCapacity_0f7a4_7 : decode cJ5_newCapacity_0f7a4 7 = .ok (.aload_n 0, 1) := by decide +kernel
theorem dJ5_newCapacity_0f7a4_8 : decode cJ5_newCapacity_0f7a4 8 = .ok (.getfield 22, 3) := by decide +kernel
theorem dJ5_newCapacity_0f7a4_11 : decode cJ5_newCapacity_0f7a4 11 = .ok (.ishl, 1) := by decide +kernel
theorem dJ5_newCapacity_0f7a4_12 : decode cJ5_newCapacity_0f7a4 12 = .ok (.istore_n 3, 1) := by decide +kernel
theorem dJ5_newCapacity_0f7a4_13 : decode cJ5_newCapacity_0f7a4 13 = .ok (.iload_n 3, 1) := by decide +kernel
theorem dJ5_newCapacity_0f7a4_14 : decode cJ5_newCapacity_0f7a4 14 = .ok (.iload_n 2, 1) := by decide +kernel
theorem dJ5_newCapacity_0f7a4_15 : decode cJ5_newCapacity_0f7a4 15 = .ok (.isub, 1) := by decide +kernel
theorem dJ5_newCapacity_0f7a4_16 : decode cJ5_newCapacity_0f7a4 16 = .ok (.istore 4, 2) := by decide +kernel
theorem dJ5_newCapacity_0f7a4_18 : decode cJ5_newCapacity_0f7a4 18 = .ok (.iload_n 2, 1) := by decide +kernel
theorem dJ5_newCapacity_0f7a4_19 : decode cJ5_newCapacity_0f7a4 19 = .ok (.iload 4, 2) := by decide +kernel
theorem dJ5_newCapacity_0f7a4_21 : decode cJ5_newCapacity_0f7a4 21 = .ok (.iload_n 2, 1) := by decide +kernel
theorem dJ5_newCapacity_0f7a4_22 : decode cJ5_newCapacity_0f7a4 22 = .ok (.iconst 2, 1) := by decide +kernel
theorem dJ5_newCapacity_0f7a4_23 : decode cJ5_newCapacity_0f7a4 23 = .ok (.aload_n 0, 1) := by decide +kernel
theorem dJ5_newCapacity_0f7a4_24 : decode cJ5_newCapacity_0f7a4 24 = .ok (.getfield 22, 3) := by decide +kernel
theorem dJ5_newCapacity_0f7a4_27 : decode cJ5_newCapacity_0f7a4 27 = .ok (.ishl, 1) := by decide +kernel
theorem dJ5_newCapacity_0f7a4_28 : decode cJ5_newCapacity_0f7a4 28 = .ok (.iadd, 1) := by decide +kernel
theorem dJ5_newCapacity_0f7a4_29 : decode cJ5_newCapacity_0f7a4 29 = .ok (.invokestatic 114, 3) := by decide +kernel
theorem dJ5_newCapacity_0f7a4_32 : decode cJ5_newCapacity_0f7a4 32 = .ok (.istore 5, 2) := by decide +kernel
theorem dJ5_newCapacity_0f7a4_34 : decode cJ5_newCapacity_0f7a4 34 = .ok (.iload 5, 2) := by decide +kernel
theorem dJ5_newCapacity_0f7a4_36 : decode cJ5_newCapacity_0f7a4 36 = .ok (.ldc 39, 2) := by decide +kernel
theorem dJ5_newCapacity_0f7a4_38 : decode cJ5_newCapacity_0f7a4 38 = .ok (.if_icmp .ne 13, 3) := by decide +kernel
theorem dJ5_newCapacity_0f7a4_41 : decode cJ5_newCapacity_0f7a4 41 = .ok (.new 120, 3) := by decide +kernel
theorem dJ5_newCapacity_0f7a4_44 : decode cJ5_newCapacity_0f7a4 44 = .ok (.dup, 1) := by decide +kernel
theorem dJ5_newCapacity_0f7a4_45 : decode cJ5_newCapacity_0f7a4 45 = .ok (.ldc 122, 2) := by decide +kernel
theorem dJ5_newCapacity_0f7a4_47 : decode cJ5_newCapacity_0f7a4 47 = .ok (.invokespecial 124, 3) := by decide +kernel
theorem dJ5_newCapacity_0f7a4_50 : decode cJ5_newCapacity_0f7a4 50 = .ok (.athrow, 1) := by decide +kernel
theorem dJ5_newCapacity_0f7a4_51 : decode cJ5_newCapacity_0f7a4 51 = .ok (.iload 5, 2) := by decide +kernel
theorem dJ5_newCapacity_0f7a4_53 : decode cJ5_newCapacity_0f7a4 53 = .ok (.aload_n 0, 1) := by decide +kernel
theorem dJ5_newCapacity_0f7a4_54 : decode cJ5_newCapacity_0f7a4 54 = .ok (.getfield 22, 3) := by decide +kernel
theorem dJ5_newCapacity_0f7a4_57 : decode cJ5_newCapacity_0f7a4 57 = .ok (.ishr, 1) := by decide +kernel
theorem dJ5_newCapacity_0f7a4_58 : decode cJ5_newCapacity_0f7a4 58 = .ok (.ireturn, 1) := by decide +kernel
theorem dJ5_inflate_da8c8_0 : decode cJ5_inflate_da8c8 0 = .ok (.aload_n 0, 1) := by decide +kernel
theorem dJ5_inflate_da8c8_1 : decode cJ5_inflate_da8c8 1 = .ok (.invokevirtual 83, 3) := by decide +kernel
theorem dJ5_inflate_da8c8_4 : decode cJ5_inflate_da8c8 4 = .ok (.ifCond .ne 4, 3) := by decide +kernel
theorem dJ5_inflate_da8c8_7 : decode cJ5_inflate_da8c8 7 = .ok (.return_, 1) := by decide +kernel
theorem dJ5_inflate_da8c8_8 : decode cJ5_inflate_da8c8 8 = .ok (.aload_n 0, 1) := by decide +kernel
theorem dJ5_inflate_da8c8_9 : decode cJ5_inflate_da8c8 9 = .ok (.getfield 15, 3) := by decide +kernel
theorem dJ5_inflate_da8c8_12 : decode cJ5_inflate_da8c8 12 = .ok (.arraylength, 1) := by decide +kernel
theorem dJ5_inflate_da8c8_13 : decode cJ5_inflate_da8c8 13 = .ok (.invokestatic 26, 3) := by decide +kernel
theorem dJ5_inflate_da8c8_16 : decode cJ5_inflate_da8c8 16 = .ok (.astore_n 1, 1) := by decide +kernel
theorem dJ5_inflate_da8c8_17 : decode cJ5_inflate_da8c8 17 = .ok (.aload_n 0, 1) := by decide +kernel
theorem dJ5_inflate_da8c8_18 : decode cJ5_inflate_da8c8 18 = .ok (.getfield 15, 3) := by decide +kernel
theorem dJ5_inflate_da8c8_21 : decode cJ5_inflate_da8c8 21 = .ok (.iconst 0, 1) := by decide +kernel
theorem dJ5_inflate_da8c8_22 : decode cJ5_inflate_da8c8 22 = .ok (.aload_n 1, 1) := by decide +kernel
theorem dJ5_inflate_da8c8_23 : decode cJ5_inflate_da8c8 23 = .ok (.iconst 0, 1) := by decide +kernel
theorem dJ5_inflate_da8c8_24 : decode cJ5_inflate_da8c8 24 = .ok (.aload_n 0, 1) := by decide +kernel
theorem dJ5_inflate_da8c8_25 : decode cJ5_inflate_da8c8 25 = .ok (.getfield 79, 3) := by decide +kernel
theorem dJ5_inflate_da8c8_28 : decode cJ5_inflate_da8c8 28 = .ok (.invokestatic 125, 3) := by decide +kernel
theorem dJ5_inflate_da8c8_31 : decode cJ5_inflate_da8c8 31 = .ok (.aload_n 0, 1) := by decide +kernel
theorem dJ5_inflate_da8c8_32 : decode cJ5_inflate_da8c8 32 = .ok (.aload_n 1, 1) := by decide +kernel
theorem dJ5_inflate_da8c8_33 : decode cJ5_inflate_da8c8 33 = .ok (.putfield 15, 3) := by decide +kernel
theorem dJ5_inflate_da8c8_36 : decode cJ5_inflate_da8c8 36 = .ok (.aload_n 0, 1) := by decide +kernel
theorem dJ5_inflate_da8c8_37 : decode cJ5_inflate_da8c8 37 = .ok (.iconst 1, 1) := by decide +kernel
theorem dJ5_inflate_da8c8_38 : decode cJ5_inflate_da8c8 38 = .ok (.putfield 22, 3) := by decide +kernel
theorem dJ5_inflate_da8c8_41 : decode cJ5_inflate_da8c8 41 = .ok (.return_, 1) := by decide +kernel
theorem dJ5_setLength_d00df_0 : decode cJ5_setLength_d00df 0 = .ok (.iload_n 1, 1) := by decide +kernel
theorem dJ5_setLength_d00df_1 : decode cJ5_setLength_d00df 1 = .ok (.ifCond .ge 12, 3) := by decide +kernel
theorem dJ5_setLength_d00df_4 : decode cJ5_setLength_d00df 4 = .ok (.new 129, 3) := by decide +kernel
theorem dJ5_setLength_d00df_7 : decode cJ5_setLength_d00df 7 = .ok (.dup, 1) := by decide +kernel
theorem dJ5_setLength_d00df_8 : decode cJ5_setLength_d00df 8 = .ok (.iload_n 1, 1) := by decide +kernel
theorem dJ5_setLength_d00df_9 : decode cJ5_setLength_d00df 9 = .ok (.invokespecial 131, 3) := by decide +kernel
theorem dJ5_setLength_d00df_12 : decode cJ5_setLength_d00df 12 = .ok (.athrow, 1) := by decide +kernel
theorem dJ5_setLength_d00df_13 : decode cJ5_setLength_d00df 13 = .ok (.aload_n 0, 1) := by decide +kernel
theorem dJ5_setLength_d00df_14 : decode cJ5_setLength_d00df 14 = .ok (.iload_n 1, 1) := by decide +kernel
theorem dJ5_setLength_d00df_15 : decode cJ5_setLength_d00df 15 = .ok (.invokevirtual 100, 3) := by decide +kernel
theorem dJ5_setLength_d00df_18 : decode cJ5_setLength_d00df 18 = .ok (.aload_n 0, 1) := by decide +kernel
theorem dJ5_setLength_d00df_19 : decode cJ5_setLength_d00df 19 = .ok (.getfield 79, 3) := by decide +kernel
theorem dJ5_setLength_d00df_22 : decode cJ5_setLength_d00df 22 = .ok (.iload_n 1, 1) := by decide +kernel
theorem dJ5_setLength_d00df_23 : decode cJ5_setLength_d00df 23 = .ok (.if_icmp .ge 40, 3) := by decide +kernel
theorem dJ5_setLength_d00df_26 : decode cJ5_setLength_d00df 26 = .ok (.aload_n 0, 1) := by decide +kernel
theorem dJ5_setLength_d00df_27 : decode cJ5_setLength_d00df 27 = .ok (.invokevirtual 83, 3) := by decide +kernel
theorem dJ5_setLength_d00df_30 : decode cJ5_setLength_d00df 30 = .ok (.ifCond .eq 18, 3) := by decide +kernel
theorem dJ5_setLength_d00df_33 : decode cJ5_setLength_d00df 33 = .ok (.aload_n 0, 1) := by decide +kernel
theorem dJ5_setLength_d00df_34 : decode cJ5_setLength_d00df 34 = .ok (.getfield 15, 3) := by decide +kernel
theorem dJ5_setLength_d00df_37 : decode cJ5_setLength_d00df 37 = .ok (.aload_n 0, 1) := by decide +kernel
theorem dJ5_setLength_d00df_38 : decode cJ5_setLength_d00df 38 = .ok (.getfield 79, 3) := by decide +kernel
theorem dJ5_setLength_d00df_41 : decode cJ5_setLength_d00df 41 = .ok (.iload_n 1, 1) := by decide +kernel
theorem dJ5_setLength_d00df_42 : decode cJ5_setLength_d00df 42 = .ok (.invokestatic 133, 3) := by decide +kernel
theorem dJ5_setLength_d00df_45 : decode cJ5_setLength_d00df 45 = .ok (.goto 31, 3) := by decide +kernel
theorem dJ5_setLength_d00df_48 : decode cJ5_setLength_d00df 48 = .ok (.aload_n 0, 1) := by decide +kernel
theorem dJ5_setLength_d00df_49 : decode cJ5_setLength_d00df 49 = .ok (.getfield 15, 3) := by decide +kernel
theorem dJ5_setLength_d00df_52 : decode cJ5_setLength_d00df 52 = .ok (.aload_n 0, 1) := by decide +kernel
theorem dJ5_setLength_d00df_53 : decode cJ5_setLength_d00df 53 = .ok (.getfield 79, 3) := by decide +kernel
theorem dJ5_setLength_d00df_56 : decode cJ5_setLength_d00df 56 = .ok (.iload_n 1, 1) := by decide +kernel
theorem dJ5_setLength_d00df_57 : decode cJ5_setLength_d00df 57 = .ok (.invokestatic 137, 3) := by decide +kernel
theorem dJ5_setLength_d00df_60 : decode cJ5_setLength_d00df 60 = .ok (.goto 16, 3) := by decide +kernel
theorem dJ5_setLength_d00df_63 : decode cJ5_setLength_d00df 63 = .ok (.aload_n 0, 1) := by decide +kernel
theorem dJ5_setLength_d00df_64 : decode cJ5_setLength_d00df 64 = .ok (.getfield 79, 3) := by decide +kernel
theorem dJ5_setLength_d00df_67 : decode cJ5_setLength_d00df 67 = .ok (.iload_n 1, 1) := by decide +kernel
theorem dJ5_setLength_d00df_68 : decode cJ5_setLength_d00df 68 = .ok (.if_icmp .le 8, 3) := by decide +kernel
theorem dJ5_setLength_d00df_71 : decode cJ5_setLength_d00df 71 = .ok (.aload_n 0, 1) := by decide +kernel
theorem dJ5_setLength_d00df_72 : decode cJ5_setLength_d00df 72 = .ok (.iconst 1, 1) := by decide +kernel
theorem dJ5_setLength_d00df_73 : decode cJ5_setLength_d00df 73 = .ok (.putfield 73, 3) := by decide +kernel
theorem dJ5_setLength_d00df_76 : decode cJ5_setLength_d00df 76 = .ok (.aload_n 0, 1) := by decide +kernel
theorem dJ5_setLength_d00df_77 : decode cJ5_setLength_d00df 77 = .ok (.iload_n 1, 1) := by decide +kernel
theorem dJ5_setLength_d00df_78 : decode cJ5_setLength_d00df 78 = .ok (.putfield 79, 3) := by decide +kernel
theorem dJ5_setLength_d00df_81 : decode cJ5_setLength_d00df 81 = .ok (.return_, 1) := by decide +kernel
theorem dJ5_charAt_5068e_0 : decode cJ5_charAt_5068e 0 = .ok (.aload_n 0, 1) := by decide +kernel
theorem dJ5_charAt_5068e_1 : decode cJ5_charAt_5068e 1 = .ok (.getfield 22, 3) := by decide +kernel
theorem dJ5_charAt_5068e_4 : decode cJ5_charAt_5068e 4 = .ok (.istore_n 2, 1) := by decide +kernel
theorem dJ5_charAt_5068e_5 : decode cJ5_charAt_5068e 5 = .ok (.aload_n 0, 1) := by decide +kernel
theorem dJ5_charAt_5068e_6 : decode cJ5_charAt_5068e 6 = .ok (.getfield 15, 3) := by decide +kernel
theorem dJ5_charAt_5068e_9 : decode cJ5_charAt_5068e 9 = .ok (.astore_n 3, 1) := by decide +kernel
theorem dJ5_charAt_5068e_10 : decode cJ5_charAt_5068e 10 = .ok (.aload_n 0, 1) := by decide +kernel
theorem dJ5_charAt_5068e_11 : decode cJ5_charAt_5068e 11 = .ok (.getfield 79, 3) := by decide +kernel
theorem dJ5_charAt_5068e_14 : decode cJ5_charAt_5068e 14 = .ok (.aload_n 3, 1) := by decide +kernel
theorem dJ5_charAt_5068e_15 : decode cJ5_charAt_5068e 15 = .ok (.arraylength, 1) := by decide +kernel
theorem dJ5_charAt_5068e_16 : decode cJ5_charAt_5068e 16 = .ok (.iload_n 2, 1) := by decide +kernel
theorem dJ5_charAt_5068e_17 : decode cJ5_charAt_5068e 17 = .ok (.ishr, 1) := by decide +kernel
theorem dJ5_charAt_5068e_18 : decode cJ5_charAt_5068e 18 = .ok (.invokestatic 138, 3) := by decide +kernel
theorem dJ5_charAt_5068e_21 : decode cJ5_charAt_5068e 21 = .ok (.istore 4, 2) := by decide +kernel
theorem dJ5_charAt_5068e_23 : decode cJ5_charAt_5068e 23 = .ok (.iload_n 1, 1) := by decide +kernel
theorem dJ5_charAt_5068e_24 : decode cJ5_charAt_5068e 24 = .ok (.iload 4, 2) := by decide +kernel
theorem dJ5_charAt_5068e_26 : decode cJ5_charAt_5068e 26 = .ok (.invokestatic 144, 3) := by decide +kernel
theorem dJ5_charAt_5068e_29 : decode cJ5_charAt_5068e 29 = .ok (.iload_n 2, 1) := by decide +kernel
theorem dJ5_charAt_5068e_30 : decode cJ5_charAt_5068e 30 = .ok (.ifCond .ne 12, 3) := by decide +kernel
theorem dJ5_charAt_5068e_33 : decode cJ5_charAt_5068e 33 = .ok (.aload_n 3, 1) := by decide +kernel
theorem dJ5_charAt_5068e_34 : decode cJ5_charAt_5068e 34 = .ok (.iload_n 1, 1) := by decide +kernel
theorem dJ5_charAt_5068e_35 : decode cJ5_charAt_5068e 35 = .ok (.baload, 1) := by decide +kernel
theorem dJ5_charAt_5068e_36 : decode cJ5_charAt_5068e 36 = .ok (.sipush 255, 3) := by decide +kernel
theorem dJ5_charAt_5068e_39 : decode cJ5_charAt_5068e 39 = .ok (.iand, 1) := by decide +kernel
theorem dJ5_charAt_5068e_40 : decode cJ5_charAt_5068e 40 = .ok (.i2c, 1) := by decide +kernel
theorem dJ5_charAt_5068e_41 : decode cJ5_charAt_5068e 41 = .ok (.ireturn, 1) := by decide +kernel
theorem dJ5_charAt_5068e_42 : decode cJ5_charAt_5068e 42 = .ok (.aload_n 3, 1) := by decide +kernel
theorem dJ5_charAt_5068e_43 : decode cJ5_charAt_5068e 43 = .ok (.iload_n 1, 1) := by decide +kernel
theorem dJ5_charAt_5068e_44 : decode cJ5_charAt_5068e 44 = .ok (.invokestatic 148, 3) := by decide +kernel
theorem dJ5_charAt_5068e_47 : decode cJ5_charAt_5068e 47 = .ok (.ireturn, 1) := by decide +kernel
theorem dJ5_append_cf1ce_0 : decode cJ5_append_cf1ce 0 = .ok (.aload_n 1, 1) := by decide +kernel
theorem dJ5_append_cf1ce_1 : decode cJ5_append_cf1ce 1 = .ok (.ifnonnull 8, 3) := by decide +kernel
theorem dJ5_append_cf1ce_4 : decode cJ5_append_cf1ce 4 = .ok (.aload_n 0, 1) := by decide +kernel
theorem dJ5_append_cf1ce_5 : decode cJ5_append_cf1ce 5 = .ok (.invokevirtual 204, 3) := by decide +kernel
theorem dJ5_append_cf1ce_8 : decode cJ5_append_cf1ce 8 = .ok (.areturn, 1) := by decide +kernel
theorem dJ5_append_cf1ce_9 : decode cJ5_append_cf1ce 9 = .ok (.aload_n 1, 1) := by decide +kernel
theorem dJ5_append_cf1ce_10 : decode cJ5_append_cf1ce 10 = .ok (.invokevirtual 32, 3) := by decide +kernel
theorem dJ5_append_cf1ce_13 : decode cJ5_append_cf1ce 13 = .ok (.istore_n 2, 1) := by decide +kernel
theorem dJ5_append_cf1ce_14 : decode cJ5_append_cf1ce 14 = .ok (.aload_n 0, 1) := by decide +kernel
theorem dJ5_append_cf1ce_15 : decode cJ5_append_cf1ce 15 = .ok (.aload_n 0, 1) := by decide +kernel
theorem dJ5_append_cf1ce_16 : decode cJ5_append_cf1ce 16 = .ok (.getfield 79, 3) := by decide +kernel
theorem dJ5_append_cf1ce_19 : decode cJ5_append_cf1ce 19 = .ok (.iload_n 2, 1) := by decide +kernel
theorem dJ5_append_cf1ce_20 : decode cJ5_append_cf1ce 20 = .ok (.iadd, 1) := by decide +kernel
theorem dJ5_append_cf1ce_21 : decode cJ5_append_cf1ce 21 = .ok (.invokevirtual 100, 3) := by decide +kernel
theorem dJ5_append_cf1ce_24 : decode cJ5_append_cf1ce 24 = .ok (.aload_n 0, 1) := by decide +kernel
theorem dJ5_append_cf1ce_25 : decode cJ5_append_cf1ce 25 = .ok (.aload_n 0, 1) := by decide +kernel
theorem dJ5_append_cf1ce_26 : decode cJ5_append_cf1ce 26 = .ok (.getfield 79, 3) := by decide +kernel
theorem dJ5_append_cf1ce_29 : decode cJ5_append_cf1ce 29 = .ok (.aload_n 1, 1) := by decide +kernel
theorem dJ5_append_cf1ce_30 : decode cJ5_append_cf1ce 30 = .ok (.invokevirtual 208, 3) := by decide +kernel
theorem dJ5_append_cf1ce_33 : decode cJ5_append_cf1ce 33 = .ok (.aload_n 0, 1) := by decide +kernel
theorem dJ5_append_cf1ce_34 : decode cJ5_append_cf1ce 34 = .ok (.dup, 1) := by decide +kernel
theorem dJ5_append_cf1ce_35 : decode cJ5_append_cf1ce 35 = .ok (.getfield 79, 3) := by decide +kernel
theorem dJ5_append_cf1ce_38 : decode cJ5_append_cf1ce 38 = .ok (.iload_n 2, 1) := by decide +kernel
theorem dJ5_append_cf1ce_39 : decode cJ5_append_cf1ce 39 = .ok (.iadd, 1) := by decide +kernel
theorem dJ5_append_cf1ce_40 : decode cJ5_append_cf1ce 40 = .ok (.putfield 79, 3) := by decide +kernel
theorem dJ5_append_cf1ce_43 : decode cJ5_append_cf1ce 43 = .ok (.aload_n 0, 1) := by decide +kernel
theorem dJ5_append_cf1ce_44 : decode cJ5_append_cf1ce 44 = .ok (.areturn, 1) := by decide +kernel
theorem dJ5_appendNull_278bc_0 : decode cJ5_appendNull_278bc 0 = .ok (.aload_n 0, 1) := by decide +kernel
theorem dJ5_appendNull_278bc_1 : decode cJ5_appendNull_278bc 1 = .ok (.aload_n 0, 1) := by decide +kernel
theorem dJ5_appendNull_278bc_2 : decode cJ5_appendNull_278bc 2 = .ok (.getfield 79, 3) := by decide +kernel
theorem dJ5_appendNull_278bc_5 : decode cJ5_appendNull_278bc 5 = .ok (.iconst 4, 1) := by decide +kernel
theorem dJ5_appendNull_278bc_6 : decode cJ5_appendNull_278bc 6 = .ok (.iadd, 1) := by decide +kernel
theorem dJ5_appendNull_278bc_7 : decode cJ5_appendNull_278bc 7 = .ok (.invokevirtual 100, 3) := by decide +kernel
theorem dJ5_appendNull_278bc_10 : decode cJ5_appendNull_278bc 10 = .ok (.aload_n 0, 1) := by decide +kernel
theorem dJ5_appendNull_278bc_11 : decode cJ5_appendNull_278bc 11 = .ok (.getfield 79, 3) := by decide +kernel
theorem dJ5_appendNull_278bc_14 : decode cJ5_appendNull_278bc 14 = .ok (.istore_n 1, 1) := by decide +kernel
theorem dJ5_appendNull_278bc_15 : decode cJ5_appendNull_278bc 15 = .ok (.aload_n 0, 1) := by decide +kernel
theorem dJ5_appendNull_278bc_16 : decode cJ5_appendNull_278bc 16 = .ok (.getfield 15, 3) := by decide +kernel
theorem dJ5_appendNull_278bc_19 : decode cJ5_appendNull_278bc 19 = .ok (.astore_n 2, 1) := by decide +kernel
theorem dJ5_appendNull_278bc_20 : decode cJ5_appendNull_278bc 20 = .ok (.aload_n 0, 1) := by decide +kernel
theorem dJ5_appendNull_278bc_21 : decode cJ5_appendNull_278bc 21 = .ok (.invokevirtual 83, 3) := by decide +kernel
theorem dJ5_appendNull_278bc_24 : decode cJ5_appendNull_278bc 24 = .ok (.ifCond .eq 38, 3) := by decide +kernel
theorem dJ5_appendNull_278bc_27 : decode cJ5_appendNull_278bc 27 = .ok (.aload_n 2, 1) := by decide +kernel
theorem dJ5_appendNull_278bc_28 : decode cJ5_appendNull_278bc 28 = .ok (.iload_n 1, 1) := by decide +kernel
theorem dJ5_appendNull_278bc_29 : decode cJ5_appendNull_278bc 29 = .ok (.iinc 1 1, 3) := by decide +kernel
theorem dJ5_appendNull_278bc_32 : decode cJ5_appendNull_278bc 32 = .ok (.bipush 110, 2) := by decide +kernel
theorem dJ5_appendNull_278bc_34 : decode cJ5_appendNull_278bc 34 = .ok (.bastore, 1) := by decide +kernel
theorem dJ5_appendNull_278bc_35 : decode cJ5_appendNull_278bc 35 = .ok (.aload_n 2, 1) := by decide +kernel
theorem dJ5_appendNull_278bc_36 : decode cJ5_appendNull_278bc 36 = .ok (.iload_n 1, 1) := by decide +kernel
theorem dJ5_appendNull_278bc_37 : decode cJ5_appendNull_278bc 37 = .ok (.iinc 1 1, 3) := by decide +kernel
theorem dJ5_appendNull_278bc_40 : decode cJ5_appendNull_278bc 40 = .ok (.bipush 117, 2) := by decide +kernel
theorem dJ5_appendNull_278bc_42 : decode cJ5_appendNull_278bc 42 = .ok (.bastore, 1) := by decide +kernel
theorem dJ5_appendNull_278bc_43 : decode cJ5_appendNull_278bc 43 = .ok (.aload_n 2, 1) := by decide +kernel
theorem dJ5_appendNull_278bc_44 : decode cJ5_appendNull_278bc 44 = .ok (.iload_n 1, 1) := by decide +kernel
theorem dJ5_appendNull_278bc_45 : decode cJ5_appendNull_278bc 45 = .ok (.iinc 1 1, 3) := by decide +kernel
theorem dJ5_appendNull_278bc_48 : decode cJ5_appendNull_278bc 48 = .ok (.bipush 108, 2) := by decide +kernel
theorem dJ5_appendNull_278bc_50 : decode cJ5_appendNull_278bc 50 = .ok (.bastore, 1) := by decide +kernel
theorem dJ5_appendNull_278bc_51 : decode cJ5_appendNull_278bc 51 = .ok (.aload_n 2, 1) := by decide +kernel
theorem dJ5_appendNull_278bc_52 : decode cJ5_appendNull_278bc 52 = .ok (.iload_n 1, 1) := by decide +kernel
theorem dJ5_appendNull_278bc_53 : decode cJ5_appendNull_278bc 53 = .ok (.iinc 1 1, 3) := by decide +kernel
theorem dJ5_appendNull_278bc_56 : decode cJ5_appendNull_278bc 56 = .ok (.bipush 108, 2) := by decide +kernel
theorem dJ5_appendNull_278bc_58 : decode cJ5_appendNull_278bc 58 = .ok (.bastore, 1) := by decide +kernel
theorem dJ5_appendNull_278bc_59 : decode cJ5_appendNull_278bc 59 = .ok (.goto 17, 3) := by decide +kernel
theorem dJ5_appendNull_278bc_62 : decode cJ5_appendNull_278bc 62 = .ok (.aload_n 2, 1) := by decide +kernel
theorem dJ5_appendNull_278bc_63 : decode cJ5_appendNull_278bc 63 = .ok (.iload_n 1, 1) := by decide +kernel
theorem dJ5_appendNull_278bc_64 : decode cJ5_appendNull_278bc 64 = .ok (.bipush 110, 2) := by decide +kernel
theorem dJ5_appendNull_278bc_66 : decode cJ5_appendNull_278bc 66 = .ok (.bipush 117, 2) := by decide +kernel
theorem dJ5_appendNull_278bc_68 : decode cJ5_appendNull_278bc 68 = .ok (.bipush 108, 2) := by decide +kernel
theorem dJ5_appendNull_278bc_70 : decode cJ5_appendNull_278bc 70 = .ok (.bipush 108, 2) := by decide +kernel
theorem dJ5_appendNull_278bc_72 : decode cJ5_appendNull_278bc 72 = .ok (.invokestatic 226, 3) := by decide +kernel
theorem dJ5_appendNull_278bc_75 : decode cJ5_appendNull_278bc 75 = .ok (.istore_n 1, 1) := by decide +kernel
theorem dJ5_appendNull_278bc_76 : decode cJ5_appendNull_278bc 76 = .ok (.aload_n 0, 1) := by decide +kernel
theorem dJ5_appendNull_278bc_77 : decode cJ5_appendNull_278bc 77 = .ok (.iload_n 1, 1) := by decide +kernel
theorem dJ5_appendNull_278bc_78 : decode cJ5_appendNull_278bc 78 = .ok (.putfield 79, 3) := by decide +kernel
theorem dJ5_appendNull_278bc_81 : decode cJ5_appendNull_278bc 81 = .ok (.aload_n 0, 1) := by decide +kernel
theorem dJ5_appendNull_278bc_82 : decode cJ5_appendNull_278bc 82 = .ok (.areturn, 1) := by decide +kernel
theorem dJ5_append_3fe6f_0 : decode cJ5_append_3fe6f 0 = .ok (.aload_n 0, 1) := by decide +kernel
theorem dJ5_append_3fe6f_1 : decode cJ5_append_3fe6f 1 = .ok (.aload_n 0, 1) := by decide +kernel
theorem dJ5_append_3fe6f_2 : decode cJ5_append_3fe6f 2 = .ok (.getfield 79, 3) := by decide +kernel
theorem dJ5_append_3fe6f_5 : decode cJ5_append_3fe6f 5 = .ok (.iconst 1, 1) := by decide +kernel
theorem dJ5_append_3fe6f_6 : decode cJ5_append_3fe6f 6 = .ok (.iadd, 1) := by decide +kernel
theorem dJ5_append_3fe6f_7 : decode cJ5_append_3fe6f 7 = .ok (.invokevirtual 100, 3) := by decide +kernel
theorem dJ5_append_3fe6f_10 : decode cJ5_append_3fe6f 10 = .ok (.aload_n 0, 1) := by decide +kernel
theorem dJ5_append_3fe6f_11 : decode cJ5_append_3fe6f 11 = .ok (.invokevirtual 83, 3) := by decide +kernel
theorem dJ5_append_3fe6f_14 : decode cJ5_append_3fe6f 14 = .ok (.ifCond .eq 31, 3) := by decide +kernel
theorem dJ5_append_3fe6f_17 : decode cJ5_append_3fe6f 17 = .ok (.iload_n 1, 1) := by decide +kernel
theorem dJ5_append_3fe6f_18 : decode cJ5_append_3fe6f 18 = .ok (.invokestatic 191, 3) := by decide +kernel
theorem dJ5_append_3fe6f_21 : decode cJ5_append_3fe6f 21 = .ok (.ifCond .eq 24, 3) := by decide +kernel
theorem dJ5_append_3fe6f_24 : decode cJ5_append_3fe6f 24 = .ok (.aload_n 0, 1) := by decide +kernel
theorem dJ5_append_3fe6f_25 : decode cJ5_append_3fe6f 25 = .ok (.getfield 15, 3) := by decide +kernel
theorem dJ5_append_3fe6f_28 : decode cJ5_append_3fe6f 28 = .ok (.aload_n 0, 1) := by decide +kernel
theorem dJ5_append_3fe6f_29 : decode cJ5_append_3fe6f 29 = .ok (.dup, 1) := by decide +kernel
theorem dJ5_append_3fe6f_30 : decode cJ5_append_3fe6f 30 = .ok (.getfield 79, 3) := by decide +kernel
theorem dJ5_append_3fe6f_33 : decode cJ5_append_3fe6f 33 = .ok (.dup_x1, 1) := by decide +kernel
theorem dJ5_append_3fe6f_34 : decode cJ5_append_3fe6f 34 = .ok (.iconst 1, 1) := by decide +kernel
theorem dJ5_append_3fe6f_35 : decode cJ5_append_3fe6f 35 = .ok (.iadd, 1) := by decide +kernel
theorem dJ5_append_3fe6f_36 : decode cJ5_append_3fe6f 36 = .ok (.putfield 79, 3) := by decide +kernel
theorem dJ5_append_3fe6f_39 : decode cJ5_append_3fe6f 39 = .ok (.iload_n 1, 1) := by decide +kernel
theorem dJ5_append_3fe6f_40 : decode cJ5_append_3fe6f 40 = .ok (.i2b, 1) := by decide +kernel
theorem dJ5_append_3fe6f_41 : decode cJ5_append_3fe6f 41 = .ok (.bastore, 1) := by decide +kernel
theorem dJ5_append_3fe6f_42 : decode cJ5_append_3fe6f 42 = .ok (.goto 33, 3) := by decide +kernel
theorem dJ5_append_3fe6f_45 : decode cJ5_append_3fe6f 45 = .ok (.aload_n 0, 1) := by decide +kernel
theorem dJ5_append_3fe6f_46 : decode cJ5_append_3fe6f 46 = .ok (.invokevirtual 83, 3) := by decide +kernel
theorem dJ5_append_3fe6f_49 : decode cJ5_append_3fe6f 49 = .ok (.ifCond .eq 7, 3) := by decide +kernel
theorem dJ5_append_3fe6f_52 : decode cJ5_append_3fe6f 52 = .ok (.aload_n 0, 1) := by decide +kernel
theorem dJ5_append_3fe6f_53 : decode cJ5_append_3fe6f 53 = .ok (.invokevirtual 195, 3) := by decide +kernel
theorem dJ5_append_3fe6f_56 : decode cJ5_append_3fe6f 56 = .ok (.aload_n 0, 1) := by decide +kernel
theorem dJ5_append_3fe6f_57 : decode cJ5_append_3fe6f 57 = .ok (.getfield 15, 3) := by decide +kernel
theorem dJ5_append_3fe6f_60 : decode cJ5_append_3fe6f 60 = .ok (.aload_n 0, 1) := by decide +kernel
theorem dJ5_append_3fe6f_61 : decode cJ5_append_3fe6f 61 = .ok (.dup, 1) := by decide +kernel
theorem dJ5_append_3fe6f_62 : decode cJ5_append_3fe6f 62 = .ok (.getfield 79, 3) := by decide +kernel
theorem dJ5_append_3fe6f_65 : decode cJ5_append_3fe6f 65 = .ok (.dup_x1, 1) := by decide +kernel
theorem dJ5_append_3fe6f_66 : decode cJ5_append_3fe6f 66 = .ok (.iconst 1, 1) := by decide +kernel
theorem dJ5_append_3fe6f_67 : decode cJ5_append_3fe6f 67 = .ok (.iadd, 1) := by decide +kernel
theorem dJ5_append_3fe6f_68 : decode cJ5_append_3fe6f 68 = .ok (.putfield 79, 3) := by decide +kernel
theorem dJ5_append_3fe6f_71 : decode cJ5_append_3fe6f 71 = .ok (.iload_n 1, 1) := by decide +kernel
theorem dJ5_append_3fe6f_72 : decode cJ5_append_3fe6f 72 = .ok (.invokestatic 197, 3) := by decide +kernel
theorem dJ5_append_3fe6f_75 : decode cJ5_append_3fe6f 75 = .ok (.aload_n 0, 1) := by decide +kernel
theorem dJ5_append_3fe6f_76 : decode cJ5_append_3fe6f 76 = .ok (.areturn, 1) := by decide +kernel
theorem dJ5_append_c97b9_0 : decode cJ5_append_c97b9 0 = .ok (.aload_n 0, 1) := by decide +kernel
theorem dJ5_append_c97b9_1 : decode cJ5_append_c97b9 1 = .ok (.getfield 79, 3) := by decide +kernel
theorem dJ5_append_c97b9_4 : decode cJ5_append_c97b9 4 = .ok (.istore_n 2, 1) := by decide +kernel
theorem dJ5_append_c97b9_5 : decode cJ5_append_c97b9 5 = .ok (.iload_n 2, 1) := by decide +kernel
theorem dJ5_append_c97b9_6 : decode cJ5_append_c97b9 6 = .ok (.iload_n 1, 1) := by decide +kernel
theorem dJ5_append_c97b9_7 : decode cJ5_append_c97b9 7 = .ok (.invokestatic 245, 3) := by decide +kernel
theorem dJ5_append_c97b9_10 : decode cJ5_append_c97b9 10 = .ok (.iadd, 1) := by decide +kernel
theorem dJ5_append_c97b9_11 : decode cJ5_append_c97b9 11 = .ok (.istore_n 3, 1) := by decide +kernel
theorem dJ5_append_c97b9_12 : decode cJ5_append_c97b9 12 = .ok (.aload_n 0, 1) := by decide +kernel
theorem dJ5_append_c97b9_13 : decode cJ5_append_c97b9 13 = .ok (.iload_n 3, 1) := by decide +kernel
theorem dJ5_append_c97b9_14 : decode cJ5_append_c97b9 14 = .ok (.invokevirtual 100, 3) := by decide +kernel
theorem dJ5_append_c97b9_17 : decode cJ5_append_c97b9 17 = .ok (.aload_n 0, 1) := by decide +kernel
theorem dJ5_append_c97b9_18 : decode cJ5_append_c97b9 18 = .ok (.invokevirtual 83, 3) := by decide +kernel
theorem dJ5_append_c97b9_21 : decode cJ5_append_c97b9 21 = .ok (.ifCond .eq 16, 3) := by decide +kernel
theorem dJ5_append_c97b9_24 : decode cJ5_append_c97b9 24 = .ok (.iload_n 1, 1) := by decide +kernel
theorem dJ5_append_c97b9_25 : decode cJ5_append_c97b9 25 = .ok (.iload_n 3, 1) := by decide +kernel
theorem dJ5_append_c97b9_26 : decode cJ5_append_c97b9 26 = .ok (.aload_n 0, 1) := by decide +kernel
theorem dJ5_append_c97b9_27 : decode cJ5_append_c97b9 27 = .ok (.getfield 15, 3) := by decide +kernel
theorem dJ5_append_c97b9_30 : decode cJ5_append_c97b9 30 = .ok (.invokestatic 248, 3) := by decide +kernel
theorem dJ5_append_c97b9_33 : decode cJ5_append_c97b9 33 = .ok (.pop, 1) := by decide +kernel
theorem dJ5_append_c97b9_34 : decode cJ5_append_c97b9 34 = .ok (.goto 14, 3) := by decide +kernel
theorem dJ5_append_c97b9_37 : decode cJ5_append_c97b9 37 = .ok (.iload_n 1, 1) := by decide +kernel
theorem dJ5_append_c97b9_38 : decode cJ5_append_c97b9 38 = .ok (.iload_n 2, 1) := by decide +kernel
theorem dJ5_append_c97b9_39 : decode cJ5_append_c97b9 39 = .ok (.iload_n 3, 1) := by decide +kernel
theorem dJ5_append_c97b9_40 : decode cJ5_append_c97b9 40 = .ok (.aload_n 0, 1) := by decide +kernel
theorem dJ5_append_c97b9_41 : decode cJ5_append_c97b9 41 = .ok (.getfield 15, 3) := by decide +kernel
theorem dJ5_append_c97b9_44 : decode cJ5_append_c97b9 44 = .ok (.invokestatic 251, 3) := by decide +kernel
theorem dJ5_append_c97b9_47 : decode cJ5_append_c97b9 47 = .ok (.pop, 1) := by decide +kernel
theorem dJ5_append_c97b9_48 : decode cJ5_append_c97b9 48 = .ok (.aload_n 0, 1) := by decide +kernel
theorem dJ5_append_c97b9_49 : decode cJ5_append_c97b9 49 = .ok (.iload_n 3, 1) := by decide +kernel
theorem dJ5_append_c97b9_50 : decode cJ5_append_c97b9 50 = .ok (.putfield 79, 3) := by decide +kernel
theorem dJ5_append_c97b9_53 : decode cJ5_append_c97b9 53 = .ok (.aload_n 0, 1) := by decide +kernel
theorem dJ5_append_c97b9_54 : decode cJ5_append_c97b9 54 = .ok (.areturn, 1) := by decide +kernel
theorem dJ5_getValue_6d5f1_0 : decode cJ5_getValue_6d5f1 0 = .ok (.aload_n 0, 1) := by decide +kernel
theorem dJ5_getValue_6d5f1_1 : decode cJ5_getValue_6d5f1 1 = .ok (.getfield 15, 3) := by decide +kernel
theorem dJ5_getValue_6d5f1_4 : decode cJ5_getValue_6d5f1 4 = .ok (.areturn, 1) := by decide +kernel
theorem dJ5_isLatin1_aae02_0 : decode cJ5_isLatin1_aae02 0 = .ok (.getstatic 18, 3) := by decide +kernel
theorem dJ5_isLatin1_aae02_3 : decode cJ5_isLatin1_aae02 3 = .ok (.ifCond .eq 14, 3) := by decide +kernel
theorem dJ5_isLatin1_aae02_6 : decode cJ5_isLatin1_aae02 6 = .ok (.aload_n 0, 1) := by decide +kernel
theorem dJ5_isLatin1_aae02_7 : decode cJ5_isLatin1_aae02 7 = .ok (.getfield 22, 3) := by decide +kernel
theorem dJ5_isLatin1_aae02_10 : decode cJ5_isLatin1_aae02 10 = .ok (.ifCond .ne 7, 3) := by decide +kernel
theorem dJ5_isLatin1_aae02_13 : decode cJ5_isLatin1_aae02 13 = .ok (.iconst 1, 1) := by decide +kernel
theorem dJ5_isLatin1_aae02_14 : decode cJ5_isLatin1_aae02 14 = .ok (.goto 4, 3) := by decide +kernel
theorem dJ5_isLatin1_aae02_17 : decode cJ5_isLatin1_aae02 17 = .ok (.iconst 0, 1) := by decide +kernel
theorem dJ5_isLatin1_aae02_18 : decode cJ5_isLatin1_aae02 18 = .ok (.ireturn, 1) := by decide +kernel
theorem dJ5_inflateIfNeededFor_a7421_0 : decode cJ5_inflateIfNeededFor_a7421 0 = .ok (.getstatic 18, 3) := by decide +kernel
theorem dJ5_inflateIfNeededFor_a7421_3 : decode cJ5_inflateIfNeededFor_a7421 3 = .ok (.ifCond .eq 18, 3) := by decide +kernel
theorem dJ5_inflateIfNeededFor_a7421_6 : decode cJ5_inflateIfNeededFor_a7421 6 = .ok (.aload_n 0, 1) := by decide +kernel
theorem dJ5_inflateIfNeededFor_a7421_7 : decode cJ5_inflateIfNeededFor_a7421 7 = .ok (.getfield 22, 3) := by decide +kernel
theorem dJ5_inflateIfNeededFor_a7421_10 : decode cJ5_inflateIfNeededFor_a7421 10 = .ok (.aload_n 1, 1) := by decide +kernel
theorem dJ5_inflateIfNeededFor_a7421_11 : decode cJ5_inflateIfNeededFor_a7421 11 = .ok (.invokevirtual 40, 3) := by decide +kernel
theorem dJ5_inflateIfNeededFor_a7421_14 : decode cJ5_inflateIfNeededFor_a7421 14 = .ok (.if_icmp .eq 7, 3) := by decide +kernel
theorem dJ5_inflateIfNeededFor_a7421_17 : decode cJ5_inflateIfNeededFor_a7421 17 = .ok (.aload_n 0, 1) := by decide +kernel
theorem dJ5_inflateIfNeededFor_a7421_18 : decode cJ5_inflateIfNeededFor_a7421 18 = .ok (.invokevirtual 195, 3) := by decide +kernel
theorem dJ5_inflateIfNeededFor_a7421_21 : decode cJ5_inflateIfNeededFor_a7421 21 = .ok (.return_, 1) := by decide +kernel
theorem dJ5_putStringAt_47b60_0 : decode cJ5_putStringAt_47b60 0 = .ok (.aload_n 0, 1) := by decide +kernel
theorem dJ5_putStringAt_47b60_1 : decode cJ5_putStringAt_47b60 1 = .ok (.aload_n 2, 1) := by decide +kernel
theorem dJ5_putStringAt_47b60_2 : decode cJ5_putStringAt_47b60 2 = .ok (.invokevirtual 397, 3) := by decide +kernel
theorem dJ5_putStringAt_47b60_5 : decode cJ5_putStringAt_47b60 5 = .ok (.aload_n 2, 1) := by decide +kernel
theorem dJ5_putStringAt_47b60_6 : decode cJ5_putStringAt_47b60 6 = .ok (.aload_n 0, 1) := by decide +kernel
theorem dJ5_putStringAt_47b60_7 : decode cJ5_putStringAt_47b60 7 = .ok (.getfield 15, 3) := by decide +kernel
theorem dJ5_putStringAt_47b60_10 : decode cJ5_putStringAt_47b60 10 = .ok (.iload_n 1, 1) := by decide +kernel
theorem dJ5_putStringAt_47b60_11 : decode cJ5_putStringAt_47b60 11 = .ok (.aload_n 0, 1) := by decide +kernel
theorem dJ5_putStringAt_47b60_12 : decode cJ5_putStringAt_47b60 12 = .ok (.getfield 22, 3) := by decide +kernel
theorem dJ5_putStringAt_47b60_15 : decode cJ5_putStringAt_47b60 15 = .ok (.invokevirtual 399, 3) := by decide +kernel
theorem dJ5_putStringAt_47b60_18 : decode cJ5_putStringAt_47b60 18 = .ok (.return_, 1) := by decide +kernel
theorem dJx00060_init_a7421_0 : decode cJx00060_init_a7421 0 = .ok (.aload_n 0, 1) := by decide +kernel
theorem dJx00060_init_a7421_1 : decode cJx00060_init_a7421 1 = .ok (.aload_n 1, 1) := by decide +kernel
theorem dJx00060_init_a7421_2 : decode cJx00060_init_a7421 2 = .ok (.invokespecial 7, 3) := by decide +kernel
theorem dJx00060_init_a7421_5 : decode cJx00060_init_a7421 5 = .ok (.return_, 1) := by decide +kernel
theorem dJx00060_init_d00df_0 : decode cJx00060_init_d00df 0 = .ok (.aload_n 0, 1) := by decide +kernel
theorem dJx00060_init_d00df_1 : decode cJx00060_init_d00df 1 = .ok (.new 10, 3) := by decide +kernel
theorem dJx00060_init_d00df_4 : decode cJx00060_init_d00df 4 = .ok (.dup, 1) := by decide +kernel
theorem dJx00060_init_d00df_5 : decode cJx00060_init_d00df 5 = .ok (.invokespecial 12, 3) := by decide +kernel
theorem dJx00060_init_d00df_8 : decode cJx00060_init_d00df 8 = .ok (.ldc 13, 2) := by decide +kernel
theorem dJx00060_init_d00df_10 : decode cJx00060_init_d00df 10 = .ok (.invokevirtual 15, 3) := by decide +kernel
theorem dJx00060_init_d00df_13 : decode cJx00060_init_d00df 13 = .ok (.iload_n 1, 1) := by decide +kernel
theorem dJx00060_init_d00df_14 : decode cJx00060_init_d00df 14 = .ok (.invokevirtual 19, 3) := by decide +kernel
theorem dJx00060_init_d00df_17 : decode cJx00060_init_d00df 17 = .ok (.invokevirtual 22, 3) := by decide +kernel
theorem dJx00060_init_d00df_20 : decode cJx00060_init_d00df 20 = .ok (.invokespecial 7, 3) := by decide +kernel
theorem dJx00060_init_d00df_23 : decode cJx00060_init_d00df 23 = .ok (.return_, 1) := by decide +kernel
theorem dJx29ce0_ordinal_8abf5_0 : decode cJx29ce0_ordinal_8abf5 0 = .ok (.aload_n 0, 1) := by decide +kernel
theorem dJx29ce0_ordinal_8abf5_1 : decode cJx29ce0_ordinal_8abf5 1 = .ok (.getfield 7, 3) := by decide +kernel
theorem dJx29ce0_ordinal_8abf5_4 : decode cJx29ce0_ordinal_8abf5 4 = .ok (.ireturn, 1) := by decide +kernel
theorem dJ6_getChars_ba4f3_0 : decode cJ6_getChars_ba4f3 0 = .ok (.iload_n 1, 1) := by decide +kernel
theorem dJ6_getChars_ba4f3_1 : decode cJ6_getChars_ba4f3 1 = .ok (.istore 5, 2) := by decide +kernel
theorem dJ6_getChars_ba4f3_3 : decode cJ6_getChars_ba4f3 3 = .ok (.iload_n 0, 1) := by decide +kernel
theorem dJ6_getChars_ba4f3_4 : decode cJ6_getChars_ba4f3 4 = .ok (.ifCond .ge 7, 3) := by decide +kernel
theorem dJ6_getChars_ba4f3_7 : decode cJ6_getChars_ba4f3 7 = .ok (.iconst 1, 1) := by decide +kernel
theorem dJ6_getChars_ba4f3_8 : decode cJ6_getChars_ba4f3 8 = .ok (.goto 4, 3) := by decide +kernel
theorem dJ6_getChars_ba4f3_11 : decode cJ6_getChars_ba4f3 11 = .ok (.iconst 0, 1) := by decide +kernel
theorem dJ6_getChars_ba4f3_12 : decode cJ6_getChars_ba4f3 12 = .ok (.istore 6, 2) := by decide +kernel
theorem dJ6_getChars_ba4f3_14 : decode cJ6_getChars_ba4f3 14 = .ok (.iload 6, 2) := by decide +kernel
theorem dJ6_getChars_ba4f3_16 : decode cJ6_getChars_ba4f3 16 = .ok (.ifCond .ne 6, 3) := by decide +kernel
theorem dJ6_getChars_ba4f3_19 : decode cJ6_getChars_ba4f3 19 = .ok (.iload_n 0, 1) := by decide +kernel
theorem dJ6_getChars_ba4f3_20 : decode cJ6_getChars_ba4f3 20 = .ok (.ineg, 1) := by decide +kernel
theorem dJ6_getChars_ba4f3_21 : decode cJ6_getChars_ba4f3 21 = .ok (.istore_n 0, 1) := by decide +kernel
theorem dJ6_getChars_ba4f3_22 : decode cJ6_getChars_ba4f3 22 = .ok (.iload_n 0, 1) := by decide +kernel
theorem dJ6_getChars_ba4f3_23 : decode cJ6_getChars_ba4f3 23 = .ok (.bipush (-100), 2) := by decide +kernel
theorem dJ6_getChars_ba4f3_25 : decode cJ6_getChars_ba4f3 25 = .ok (.if_icmp .gt 47, 3) := by decide +kernel
theorem dJ6_getChars_ba4f3_28 : decode cJ6_getChars_ba4f3 28 = .ok (.iload_n 0, 1) := by decide +kernel
theorem dJ6_getChars_ba4f3_29 : decode cJ6_getChars_ba4f3 29 = .ok (.bipush 100, 2) := by decide +kernel
theorem dJ6_getChars_ba4f3_31 : decode cJ6_getChars_ba4f3 31 = .ok (.idiv, 1) := by decide +kernel
theorem dJ6_getChars_ba4f3_32 : decode cJ6_getChars_ba4f3 32 = .ok (.istore_n 3, 1) := by decide +kernel
theorem dJ6_getChars_ba4f3_33 : decode cJ6_getChars_ba4f3 33 = .ok (.iload_n 3, 1) := by decide +kernel
theorem dJ6_getChars_ba4f3_34 : decode cJ6_getChars_ba4f3 34 = .ok (.bipush 100, 2) := by decide +kernel
theorem dJ6_getChars_ba4f3_36 : decode cJ6_getChars_ba4f3 36 = .ok (.imul, 1) := by decide +kernel
theorem dJ6_getChars_ba4f3_37 : decode cJ6_getChars_ba4f3 37 = .ok (.iload_n 0, 1) := by decide +kernel
theorem dJ6_getChars_ba4f3_38 : decode cJ6_getChars_ba4f3 38 = .ok (.isub, 1) := by decide +kernel
theorem dJ6_getChars_ba4f3_39 : decode cJ6_getChars_ba4f3 39 = .ok (.istore 4, 2) := by decide +kernel
theorem dJ6_getChars_ba4f3_41 : decode cJ6_getChars_ba4f3 41 = .ok (.iload_n 3, 1) := by decide +kernel
theorem dJ6_getChars_ba4f3_42 : decode cJ6_getChars_ba4f3 42 = .ok (.istore_n 0, 1) := by decide +kernel
theorem dJ6_getChars_ba4f3_43 : decode cJ6_getChars_ba4f3 43 = .ok (.aload_n 2, 1) := by decide +kernel
theorem dJ6_getChars_ba4f3_44 : decode cJ6_getChars_ba4f3 44 = .ok (.iinc 5 (-1), 3) := by decide +kernel
theorem dJ6_getChars_ba4f3_47 : decode cJ6_getChars_ba4f3 47 = .ok (.iload 5, 2) := by decide +kernel
theorem dJ6_getChars_ba4f3_49 : decode cJ6_getChars_ba4f3 49 = .ok (.getstatic 83, 3) := by decide +kernel
theorem dJ6_getChars_ba4f3_52 : decode cJ6_getChars_ba4f3 52 = .ok (.iload 4, 2) := by decide +kernel
theorem dJ6_getChars_ba4f3_54 : decode cJ6_getChars_ba4f3 54 = .ok (.baload, 1) := by decide +kernel
theorem dJ6_getChars_ba4f3_55 : decode cJ6_getChars_ba4f3 55 = .ok (.bastore, 1) := by decide +kernel
theorem dJ6_getChars_ba4f3_56 : decode cJ6_getChars_ba4f3 56 = .ok (.aload_n 2, 1) := by decide +kernel
theorem dJ6_getChars_ba4f3_57 : decode cJ6_getChars_ba4f3 57 = .ok (.iinc 5 (-1), 3) := by decide +kernel
theorem dJ6_getChars_ba4f3_60 : decode cJ6_getChars_ba4f3 60 = .ok (.iload 5, 2) := by decide +kernel
theorem dJ6_getChars_ba4f3_62 : decode cJ6_getChars_ba4f3 62 = .ok (.getstatic 87, 3) := by decide +kernel
theorem dJ6_getChars_ba4f3_65 : decode cJ6_getChars_ba4f3 65 = .ok (.iload 4, 2) := by decide +kernel
theorem dJ6_getChars_ba4f3_67 : decode cJ6_getChars_ba4f3 67 = .ok (.baload, 1) := by decide +kernel
theorem dJ6_getChars_ba4f3_68 : decode cJ6_getChars_ba4f3 68 = .ok (.bastore, 1) := by decide +kernel
theorem dJ6_getChars_ba4f3_69 : decode cJ6_getChars_ba4f3 69 = .ok (.goto (-47), 3) := by decide +kernel
theorem dJ6_getChars_ba4f3_72 : decode cJ6_getChars_ba4f3 72 = .ok (.aload_n 2, 1) := by decide +kernel
theorem dJ6_getChars_ba4f3_73 : decode cJ6_getChars_ba4f3 73 = .ok (.iinc 5 (-1), 3) := by decide +kernel
theorem dJ6_getChars_ba4f3_76 : decode cJ6_getChars_ba4f3 76 = .ok (.iload 5, 2) := by decide +kernel
theorem dJ6_getChars_ba4f3_78 : decode cJ6_getChars_ba4f3 78 = .ok (.getstatic 83, 3) := by decide +kernel
theorem dJ6_getChars_ba4f3_81 : decode cJ6_getChars_ba4f3 81 = .ok (.iload_n 0, 1) := by decide +kernel
theorem dJ6_getChars_ba4f3_82 : decode cJ6_getChars_ba4f3 82 = .ok (.ineg, 1) := by decide +kernel
theorem dJ6_getChars_ba4f3_83 : decode cJ6_getChars_ba4f3 83 = .ok (.baload, 1) := by decide +kernel
theorem dJ6_getChars_ba4f3_84 : decode cJ6_getChars_ba4f3 84 = .ok (.bastore, 1) := by decide +kernel
theorem dJ6_getChars_ba4f3_85 : decode cJ6_getChars_ba4f3 85 = .ok (.iload_n 0, 1) := by decide +kernel
theorem dJ6_getChars_ba4f3_86 : decode cJ6_getChars_ba4f3 86 = .ok (.bipush (-9), 2) := by decide +kernel
theorem dJ6_getChars_ba4f3_88 : decode cJ6_getChars_ba4f3 88 = .ok (.if_icmp .ge 16, 3) := by decide +kernel
theorem dJ6_getChars_ba4f3_91 : decode cJ6_getChars_ba4f3 91 = .ok (.aload_n 2, 1) := by decide +kernel
theorem dJ6_getChars_ba4f3_92 : decode cJ6_getChars_ba4f3 92 = .ok (.iinc 5 (-1), 3) := by decide +kernel
theorem dJ6_getChars_ba4f3_95 : decode cJ6_getChars_ba4f3 95 = .ok (.iload 5, 2) := by decide +kernel
theorem dJ6_getChars_ba4f3_97 : decode cJ6_getChars_ba4f3 97 = .ok (.getstatic 87, 3) := by decide +kernel
theorem dJ6_getChars_ba4f3_100 : decode cJ6_getChars_ba4f3 100 = .ok (.iload_n 0, 1) := by decide +kernel
theorem dJ6_getChars_ba4f3_101 : decode cJ6_getChars_ba4f3 101 = .ok (.ineg, 1) := by decide +kernel
theorem dJ6_getChars_ba4f3_102 : decode cJ6_getChars_ba4f3 102 = .ok (.baload, 1) := by decide +kernel
theorem dJ6_getChars_ba4f3_103 : decode cJ6_getChars_ba4f3 103 = .ok (.bastore, 1) := by decide +kernel
theorem dJ6_getChars_ba4f3_104 : decode cJ6_getChars_ba4f3 104 = .ok (.iload 6, 2) := by decide +kernel
theorem dJ6_getChars_ba4f3_106 : decode cJ6_getChars_ba4f3 106 = .ok (.ifCond .eq 12, 3) := by decide +kernel
theorem dJ6_getChars_ba4f3_109 : decode cJ6_getChars_ba4f3 109 = .ok (.aload_n 2, 1) := by decide +kernel
theorem dJ6_getChars_ba4f3_110 : decode cJ6_getChars_ba4f3 110 = .ok (.iinc 5 (-1), 3) := by decide +kernel
theorem dJ6_getChars_ba4f3_113 : decode cJ6_getChars_ba4f3 113 = .ok (.iload 5, 2) := by decide +kernel
theorem dJ6_getChars_ba4f3_115 : decode cJ6_getChars_ba4f3 115 = .ok (.bipush 45, 2) := by decide +kernel
theorem dJ6_getChars_ba4f3_117 : decode cJ6_getChars_ba4f3 117 = .ok (.bastore, 1) := by decide +kernel
theorem dJ6_getChars_ba4f3_118 : decode cJ6_getChars_ba4f3 118 = .ok (.iload 5, 2) := by decide +kernel
theorem dJ6_getChars_ba4f3_120 : decode cJ6_getChars_ba4f3 120 = .ok (.ireturn, 1) := by decide +kernel
theorem dJ6_stringSize_0f7a4_0 : decode cJ6_stringSize_0f7a4 0 = .ok (.iconst 1, 1) := by decide +kernel
theorem dJ6_stringSize_0f7a4_1 : decode cJ6_stringSize_0f7a4 1 = .ok (.istore_n 1, 1) := by decide +kernel
theorem dJ6_stringSize_0f7a4_2 : decode cJ6_stringSize_0f7a4 2 = .ok (.iload_n 0, 1) := by decide +kernel
theorem dJ6_stringSize_0f7a4_3 : decode cJ6_stringSize_0f7a4 3 = .ok (.ifCond .lt 8, 3) := by decide +kernel
theorem dJ6_stringSize_0f7a4_6 : decode cJ6_stringSize_0f7a4 6 = .ok (.iconst 0, 1) := by decide +kernel
theorem dJ6_stringSize_0f7a4_7 : decode cJ6_stringSize_0f7a4 7 = .ok (.istore_n 1, 1) := by decide +kernel
theorem dJ6_stringSize_0f7a4_8 : decode cJ6_stringSize_0f7a4 8 = .ok (.iload_n 0, 1) := by decide +kernel
theorem dJ6_stringSize_0f7a4_9 : decode cJ6_stringSize_0f7a4 9 = .ok (.ineg, 1) := by decide +kernel
theorem dJ6_stringSize_0f7a4_10 : decode cJ6_stringSize_0f7a4 10 = .ok (.istore_n 0, 1) := by decide +kernel
theorem dJ6_stringSize_0f7a4_11 : decode cJ6_stringSize_0f7a4 11 = .ok (.bipush (-10), 2) := by decide +kernel
theorem dJ6_stringSize_0f7a4_13 : decode cJ6_stringSize_0f7a4 13 = .ok (.istore_n 2, 1) := by decide +kernel
theorem dJ6_stringSize_0f7a4_14 : decode cJ6_stringSize_0f7a4 14 = .ok (.iconst 1, 1) := by decide +kernel
theorem dJ6_stringSize_0f7a4_15 : decode cJ6_stringSize_0f7a4 15 = .ok (.istore_n 3, 1) := by decide +kernel
theorem dJ6_stringSize_0f7a4_16 : decode cJ6_stringSize_0f7a4 16 = .ok (.iload_n 3, 1) := by decide +kernel
theorem dJ6_stringSize_0f7a4_17 : decode cJ6_stringSize_0f7a4 17 = .ok (.bipush 10, 2) := by decide +kernel
theorem dJ6_stringSize_0f7a4_19 : decode cJ6_stringSize_0f7a4 19 = .ok (.if_icmp .ge 23, 3) := by decide +kernel
theorem dJ6_stringSize_0f7a4_22 : decode cJ6_stringSize_0f7a4 22 = .ok (.iload_n 0, 1) := by decide +kernel
theorem dJ6_stringSize_0f7a4_23 : decode cJ6_stringSize_0f7a4 23 = .ok (.iload_n 2, 1) := by decide +kernel
theorem dJ6_stringSize_0f7a4_24 : decode cJ6_stringSize_0f7a4 24 = .ok (.if_icmp .le 7, 3) := by decide +kernel
theorem dJ6_stringSize_0f7a4_27 : decode cJ6_stringSize_0f7a4 27 = .ok (.iload_n 3, 1) := by decide +kernel
theorem dJ6_stringSize_0f7a4_28 : decode cJ6_stringSize_0f7a4 28 = .ok (.iload_n 1, 1) := by decide +kernel
theorem dJ6_stringSize_0f7a4_29 : decode cJ6_stringSize_0f7a4 29 = .ok (.iadd, 1) := by decide +kernel
theorem dJ6_stringSize_0f7a4_30 : decode cJ6_stringSize_0f7a4 30 = .ok (.ireturn, 1) := by decide +kernel
theorem dJ6_stringSize_0f7a4_31 : decode cJ6_stringSize_0f7a4 31 = .ok (.bipush 10, 2) := by decide +kernel
theorem dJ6_stringSize_0f7a4_33 : decode cJ6_stringSize_0f7a4 33 = .ok (.iload_n 2, 1) := by decide +kernel
theorem dJ6_stringSize_0f7a4_34 : decode cJ6_stringSize_0f7a4 34 = .ok (.imul, 1) := by decide +kernel
theorem dJ6_stringSize_0f7a4_35 : decode cJ6_stringSize_0f7a4 35 = .ok (.istore_n 2, 1) := by decide +kernel
theorem dJ6_stringSize_0f7a4_36 : decode cJ6_stringSize_0f7a4 36 = .ok (.iinc 3 1, 3) := by decide +kernel
theorem dJ6_stringSize_0f7a4_39 : decode cJ6_stringSize_0f7a4 39 = .ok (.goto (-23), 3) := by decide +kernel
theorem dJ6_stringSize_0f7a4_42 : decode cJ6_stringSize_0f7a4 42 = .ok (.bipush 10, 2) := by decide +kernel
theorem dJ6_stringSize_0f7a4_44 : decode cJ6_stringSize_0f7a4 44 = .ok (.iload_n 1, 1) := by decide +kernel
theorem dJ6_stringSize_0f7a4_45 : decode cJ6_stringSize_0f7a4 45 = .ok (.iadd, 1) := by decide +kernel
theorem dJ6_stringSize_0f7a4_46 : decode cJ6_stringSize_0f7a4 46 = .ok (.ireturn, 1) := by decide +kernel
theorem dJ6_bitCount_0f7a4_0 : decode cJ6_bitCount_0f7a4 0 = .ok (.iload_n 0, 1) := by decide +kernel
theorem dJ6_bitCount_0f7a4_1 : decode cJ6_bitCount_0f7a4 1 = .ok (.iload_n 0, 1) := by decide +kernel
theorem dJ6_bitCount_0f7a4_2 : decode cJ6_bitCount_0f7a4 2 = .ok (.iconst 1, 1) := by decide +kernel
theorem dJ6_bitCount_0f7a4_3 : decode cJ6_bitCount_0f7a4 3 = .ok (.iushr, 1) := by decide +kernel
theorem dJ6_bitCount_0f7a4_4 : decode cJ6_bitCount_0f7a4 4 = .ok (.ldc_w 265, 3) := by decide +kernel
theorem dJ6_bitCount_0f7a4_7 : decode cJ6_bitCount_0f7a4 7 = .ok (.iand, 1) := by decide +kernel
theorem dJ6_bitCount_0f7a4_8 : decode cJ6_bitCount_0f7a4 8 = .ok (.isub, 1) := by decide +kernel
theorem dJ6_bitCount_0f7a4_9 : decode cJ6_bitCount_0f7a4 9 = .ok (.istore_n 0, 1) := by decide +kernel
theorem dJ6_bitCount_0f7a4_10 : decode cJ6_bitCount_0f7a4 10 = .ok (.iload_n 0, 1) := by decide +kernel
theorem dJ6_bitCount_0f7a4_11 : decode cJ6_bitCount_0f7a4 11 = .ok (.ldc_w 266, 3) := by decide +kernel
theorem dJ6_bitCount_0f7a4_14 : decode cJ6_bitCount_0f7a4 14 = .ok (.iand, 1) := by decide +kernel
theorem dJ6_bitCount_0f7a4_15 : decode cJ6_bitCount_0f7a4 15 = .ok (.iload_n 0, 1) := by decide +kernel
theorem dJ6_bitCount_0f7a4_16 : decode cJ6_bitCount_0f7a4 16 = .ok (.iconst 2, 1) := by decide +kernel
theorem dJ6_bitCount_0f7a4_17 : decode cJ6_bitCount_0f7a4 17 = .ok (.iushr, 1) := by decide +kernel
theorem dJ6_bitCount_0f7a4_18 : decode cJ6_bitCount_0f7a4 18 = .ok (.ldc_w 266, 3) := by decide +kernel
theorem dJ6_bitCount_0f7a4_21 : decode cJ6_bitCount_0f7a4 21 = .ok (.iand, 1) := by decide +kernel
theorem dJ6_bitCount_0f7a4_22 : decode cJ6_bitCount_0f7a4 22 = .ok (.iadd, 1) := by decide +kernel
theorem dJ6_bitCount_0f7a4_23 : decode cJ6_bitCount_0f7a4 23 = .ok (.istore_n 0, 1) := by decide +kernel
theorem dJ6_bitCount_0f7a4_24 : decode cJ6_bitCount_0f7a4 24 = .ok (.iload_n 0, 1) := by decide +kernel
theorem dJ6_bitCount_0f7a4_25 : decode cJ6_bitCount_0f7a4 25 = .ok (.iload_n 0, 1) := by decide +kernel
theorem dJ6_bitCount_0f7a4_26 : decode cJ6_bitCount_0f7a4 26 = .ok (.iconst 4, 1) := by decide +kernel
theorem dJ6_bitCount_0f7a4_27 : decode cJ6_bitCount_0f7a4 27 = .ok (.iushr, 1) := by decide +kernel
theorem dJ6_bitCount_0f7a4_28 : decode cJ6_bitCount_0f7a4 28 = .ok (.iadd, 1) := by decide +kernel
theorem dJ6_bitCount_0f7a4_29 : decode cJ6_bitCount_0f7a4 29 = .ok (.ldc_w 267, 3) := by decide +kernel
theorem dJ6_bitCount_0f7a4_32 : decode cJ6_bitCount_0f7a4 32 = .ok (.iand, 1) := by decide +kernel
theorem dJ6_bitCount_0f7a4_33 : decode cJ6_bitCount_0f7a4 33 = .ok (.istore_n 0, 1) := by decide +kernel
theorem dJ6_bitCount_0f7a4_34 : decode cJ6_bitCount_0f7a4 34 = .ok (.iload_n 0, 1) := by decide +kernel
theorem dJ6_bitCount_0f7a4_35 : decode cJ6_bitCount_0f7a4 35 = .ok (.iload_n 0, 1) := by decide +kernel
theorem dJ6_bitCount_0f7a4_36 : decode cJ6_bitCount_0f7a4 36 = .ok (.bipush 8, 2) := by decide +kernel
theorem dJ6_bitCount_0f7a4_38 : decode cJ6_bitCount_0f7a4 38 = .ok (.iushr, 1) := by decide +kernel
theorem dJ6_bitCount_0f7a4_39 : decode cJ6_bitCount_0f7a4 39 = .ok (.iadd, 1) := by decide +kernel
theorem dJ6_bitCount_0f7a4_40 : decode cJ6_bitCount_0f7a4 40 = .ok (.istore_n 0, 1) := by decide +kernel
theorem dJ6_bitCount_0f7a4_41 : decode cJ6_bitCount_0f7a4 41 = .ok (.iload_n 0, 1) := by decide +kernel
theorem dJ6_bitCount_0f7a4_42 : decode cJ6_bitCount_0f7a4 42 = .ok (.iload_n 0, 1) := by decide +kernel
theorem dJ6_bitCount_0f7a4_43 : decode cJ6_bitCount_0f7a4 43 = .ok (.bipush 16, 2) := by decide +kernel
theorem dJ6_bitCount_0f7a4_45 : decode cJ6_bitCount_0f7a4 45 = .ok (.iushr, 1) := by decide +kernel
theorem dJ6_bitCount_0f7a4_46 : decode cJ6_bitCount_0f7a4 46 = .ok (.iadd, 1) := by decide +kernel
theorem dJ6_bitCount_0f7a4_47 : decode cJ6_bitCount_0f7a4 47 = .ok (.istore_n 0, 1) := by decide +kernel
theorem dJ6_bitCount_0f7a4_48 : decode cJ6_bitCount_0f7a4 48 = .ok (.iload_n 0, 1) := by decide +kernel
theorem dJ6_bitCount_0f7a4_49 : decode cJ6_bitCount_0f7a4 49 = .ok (.bipush 63, 2) := by decide +kernel
theorem dJ6_bitCount_0f7a4_51 : decode cJ6_bitCount_0f7a4 51 = .ok (.iand, 1) := by decide +kernel
theorem dJ6_bitCount_0f7a4_52 : decode cJ6_bitCount_0f7a4 52 = .ok (.ireturn, 1) := by decide +kernel
theorem dJ9_max_7cf53_0 : decode cJ9_max_7cf53 0 = .ok (.iload_n 0, 1) := by decide +kernel
theorem dJ9_max_7cf53_1 : decode cJ9_max_7cf53 1 = .ok (.iload_n 1, 1) := by decide +kernel
theorem dJ9_max_7cf53_2 : decode cJ9_max_7cf53 2 = .ok (.if_icmp .lt 7, 3) := by decide +kernel
theorem dJ9_max_7cf53_5 : decode cJ9_max_7cf53 5 = .ok (.iload_n 0, 1) := by decide +kernel
theorem dJ9_max_7cf53_6 : decode cJ9_max_7cf53 6 = .ok (.goto 4, 3) := by decide +kernel
theorem dJ9_max_7cf53_9 : decode cJ9_max_7cf53 9 = .ok (.iload_n 1, 1) := by decide +kernel
theorem dJ9_max_7cf53_10 : decode cJ9_max_7cf53 10 = .ok (.ireturn, 1) := by decide +kernel
theorem dJ9_min_7cf53_0 : decode cJ9_min_7cf53 0 = .ok (.iload_n 0, 1) := by decide +kernel
theorem dJ9_min_7cf53_1 : decode cJ9_min_7cf53 1 = .ok (.iload_n 1, 1) := by decide +kernel
theorem dJ9_min_7cf53_2 : decode cJ9_min_7cf53 2 = .ok (.if_icmp .gt 7, 3) := by decide +kernel
theorem dJ9_min_7cf53_5 : decode cJ9_min_7cf53 5 = .ok (.iload_n 0, 1) := by decide +kernel
theorem dJ9_min_7cf53_6 : decode cJ9_min_7cf53 6 = .ok (.goto 4, 3) := by decide +kernel
theorem dJ9_min_7cf53_9 : decode cJ9_min_7cf53 9 = .ok (.iload_n 1, 1) := by decide +kernel
theorem dJ9_min_7cf53_10 : decode cJ9_min_7cf53 10 = .ok (.ireturn, 1) := by decide +kernel
theorem dJ0_init_81219_0 : decode cJ0_init_81219 0 = .ok (.aload_n 0, 1) := by decide +kernel
theorem dJ0_init_81219_1 : decode cJ0_init_81219 1 = .ok (.aload_n 1, 1) := by decide +kernel
theorem dJ0_init_81219_2 : decode cJ0_init_81219 2 = .ok (.aconst_null, 1) := by decide +kernel
theorem dJ0_init_81219_3 : decode cJ0_init_81219 3 = .ok (.invokespecial 489, 3) := by decide +kernel
theorem dJ0_init_81219_6 : decode cJ0_init_81219 6 = .ok (.return_, 1) := by decide +kernel
theorem dJ0_length_8abf5_0 : decode cJ0_length_8abf5 0 = .ok (.aload_n 0, 1) := by decide +kernel
theorem dJ0_length_8abf5_1 : decode cJ0_length_8abf5 1 = .ok (.getfield 9, 3) := by decide +kernel
theorem dJ0_length_8abf5_4 : decode cJ0_length_8abf5 4 = .ok (.arraylength, 1) := by decide +kernel
theorem dJ0_length_8abf5_5 : decode cJ0_length_8abf5 5 = .ok (.aload_n 0, 1) := by decide +kernel
theorem dJ0_length_8abf5_6 : decode cJ0_length_8abf5 6 = .ok (.invokevirtual 335, 3) := by decide +kernel
theorem dJ0_length_8abf5_9 : decode cJ0_length_8abf5 9 = .ok (.ishr, 1) := by decide +kernel
theorem dJ0_length_8abf5_10 : decode cJ0_length_8abf5 10 = .ok (.ireturn, 1) := by decide +kernel
theorem dJ0_charAt_5068e_0 : decode cJ0_charAt_5068e 0 = .ok (.aload_n 0, 1) := by decide +kernel
theorem dJ0_charAt_5068e_1 : decode cJ0_charAt_5068e 1 = .ok (.invokevirtual 492, 3) := by decide +kernel
theorem dJ0_charAt_5068e_4 : decode cJ0_charAt_5068e 4 = .ok (.ifCond .eq 12, 3) := by decide +kernel
theorem dJ0_charAt_5068e_7 : decode cJ0_charAt_5068e 7 = .ok (.aload_n 0, 1) := by decide +kernel
theorem dJ0_charAt_5068e_8 : decode cJ0_charAt_5068e 8 = .ok (.getfield 9, 3) := by decide +kernel
theorem dJ0_charAt_5068e_11 : decode cJ0_charAt_5068e 11 = .ok (.iload_n 1, 1) := by decide +kernel
theorem dJ0_charAt_5068e_12 : decode cJ0_charAt_5068e 12 = .ok (.invokestatic 495, 3) := by decide +kernel
theorem dJ0_charAt_5068e_15 : decode cJ0_charAt_5068e 15 = .ok (.ireturn, 1) := by decide +kernel
theorem dJ0_charAt_5068e_16 : decode cJ0_charAt_5068e 16 = .ok (.aload_n 0, 1) := by decide +kernel
theorem dJ0_charAt_5068e_17 : decode cJ0_charAt_5068e 17 = .ok (.getfield 9, 3) := by decide +kernel
theorem dJ0_charAt_5068e_20 : decode cJ0_charAt_5068e 20 = .ok (.iload_n 1, 1) := by decide +kernel
theorem dJ0_charAt_5068e_21 : decode cJ0_charAt_5068e 21 = .ok (.invokestatic 498, 3) := by decide +kernel
theorem dJ0_charAt_5068e_24 : decode cJ0_charAt_5068e 24 = .ok (.ireturn, 1) := by decide +kernel
theorem dJ0_getBytes_840e7_0 : decode cJ0_getBytes_840e7 0 = .ok (.aload_n 0, 1) := by decide +kernel
theorem dJ0_getBytes_840e7_1 : decode cJ0_getBytes_840e7 1 = .ok (.invokevirtual 335, 3) := by decide +kernel
theorem dJ0_getBytes_840e7_4 : decode cJ0_getBytes_840e7 4 = .ok (.iload_n 3, 1) := by decide +kernel
theorem dJ0_getBytes_840e7_5 : decode cJ0_getBytes_840e7 5 = .ok (.if_icmp .ne 23, 3) := by decide +kernel
theorem dJ0_getBytes_840e7_8 : decode cJ0_getBytes_840e7 8 = .ok (.aload_n 0, 1) := by decide +kernel
theorem dJ0_getBytes_840e7_9 : decode cJ0_getBytes_840e7 9 = .ok (.getfield 9, 3) := by decide +kernel
theorem dJ0_getBytes_840e7_12 : decode cJ0_getBytes_840e7 12 = .ok (.iconst 0, 1) := by decide +kernel
theorem dJ0_getBytes_840e7_13 : decode cJ0_getBytes_840e7 13 = .ok (.aload_n 1, 1) := by decide +kernel
theorem dJ0_getBytes_840e7_14 : decode cJ0_getBytes_840e7 14 = .ok (.iload_n 2, 1) := by decide +kernel
theorem dJ0_getBytes_840e7_15 : decode cJ0_getBytes_840e7 15 = .ok (.iload_n 3, 1) := by decide +kernel
theorem dJ0_getBytes_840e7_16 : decode cJ0_getBytes_840e7 16 = .ok (.ishl, 1) := by decide +kernel
theorem dJ0_getBytes_840e7_17 : decode cJ0_getBytes_840e7 17 = .ok (.aload_n 0, 1) := by decide +kernel
theorem dJ0_getBytes_840e7_18 : decode cJ0_getBytes_840e7 18 = .ok (.getfield 9, 3) := by decide +kernel
theorem dJ0_getBytes_840e7_21 : decode cJ0_getBytes_840e7 21 = .ok (.arraylength, 1) := by decide +kernel
theorem dJ0_getBytes_840e7_22 : decode cJ0_getBytes_840e7 22 = .ok (.invokestatic 212, 3) := by decide +kernel
theorem dJ0_getBytes_840e7_25 : decode cJ0_getBytes_840e7 25 = .ok (.goto 18, 3) := by decide +kernel
theorem dJ0_getBytes_840e7_28 : decode cJ0_getBytes_840e7 28 = .ok (.aload_n 0, 1) := by decide +kernel
theorem dJ0_getBytes_840e7_29 : decode cJ0_getBytes_840e7 29 = .ok (.getfield 9, 3) := by decide +kernel
theorem dJ0_getBytes_840e7_32 : decode cJ0_getBytes_840e7 32 = .ok (.iconst 0, 1) := by decide +kernel
theorem dJ0_getBytes_840e7_33 : decode cJ0_getBytes_840e7 33 = .ok (.aload_n 1, 1) := by decide +kernel
theorem dJ0_getBytes_840e7_34 : decode cJ0_getBytes_840e7 34 = .ok (.iload_n 2, 1) := by decide +kernel
theorem dJ0_getBytes_840e7_35 : decode cJ0_getBytes_840e7 35 = .ok (.aload_n 0, 1) := by decide +kernel
theorem dJ0_getBytes_840e7_36 : decode cJ0_getBytes_840e7 36 = .ok (.getfield 9, 3) := by decide +kernel
theorem dJ0_getBytes_840e7_39 : decode cJ0_getBytes_840e7 39 = .ok (.arraylength, 1) := by decide +kernel
theorem dJ0_getBytes_840e7_40 : decode cJ0_getBytes_840e7 40 = .ok (.invokestatic 106, 3) := by decide +kernel
theorem dJ0_getBytes_840e7_43 : decode cJ0_getBytes_840e7 43 = .ok (.return_, 1) := by decide +kernel
theorem dJ0_init_db425_0 : decode cJ0_init_db425 0 = .ok (.aload_n 0, 1) := by decide +kernel
theorem dJ0_init_db425_1 : decode cJ0_init_db425 1 = .ok (.invokespecial 1, 3) := by decide +kernel
theorem dJ0_init_db425_4 : decode cJ0_init_db425 4 = .ok (.aload_n 1, 1) := by decide +kernel
theorem dJ0_init_db425_5 : decode cJ0_init_db425 5 = .ok (.invokevirtual 552, 3) := by decide +kernel
theorem dJ0_init_db425_8 : decode cJ0_init_db425 8 = .ok (.astore_n 3, 1) := by decide +kernel
theorem dJ0_init_db425_9 : decode cJ0_init_db425 9 = .ok (.aload_n 1, 1) := by decide +kernel
theorem dJ0_init_db425_10 : decode cJ0_init_db425 10 = .ok (.invokevirtual 549, 3) := by decide +kernel
theorem dJ0_init_db425_13 : decode cJ0_init_db425 13 = .ok (.istore 4, 2) := by decide +kernel
theorem dJ0_init_db425_15 : decode cJ0_init_db425 15 = .ok (.aload_n 1, 1) := by decide +kernel
theorem dJ0_init_db425_16 : decode cJ0_init_db425 16 = .ok (.invokevirtual 1047, 3) := by decide +kernel
theorem dJ0_init_db425_19 : decode cJ0_init_db425 19 = .ok (.ifCond .eq 22, 3) := by decide +kernel
theorem dJ0_init_db425_22 : decode cJ0_init_db425 22 = .ok (.aload_n 0, 1) := by decide +kernel
theorem dJ0_init_db425_23 : decode cJ0_init_db425 23 = .ok (.iconst 0, 1) := by decide +kernel
theorem dJ0_init_db425_24 : decode cJ0_init_db425 24 = .ok (.putfield 15, 3) := by decide +kernel
theorem dJ0_init_db425_27 : decode cJ0_init_db425 27 = .ok (.aload_n 0, 1) := by decide +kernel
theorem dJ0_init_db425_28 : decode cJ0_init_db425 28 = .ok (.aload_n 3, 1) := by decide +kernel
theorem dJ0_init_db425_29 : decode cJ0_init_db425 29 = .ok (.iconst 0, 1) := by decide +kernel
theorem dJ0_init_db425_30 : decode cJ0_init_db425 30 = .ok (.iload 4, 2) := by decide +kernel
theorem dJ0_init_db425_32 : decode cJ0_init_db425 32 = .ok (.invokestatic 54, 3) := by decide +kernel
theorem dJ0_init_db425_35 : decode cJ0_init_db425 35 = .ok (.putfield 9, 3) := by decide +kernel
theorem dJ0_init_db425_38 : decode cJ0_init_db425 38 = .ok (.goto 59, 3) := by decide +kernel
theorem dJ0_init_db425_41 : decode cJ0_init_db425 41 = .ok (.getstatic 38, 3) := by decide +kernel
theorem dJ0_init_db425_44 : decode cJ0_init_db425 44 = .ok (.ifCond .eq 35, 3) := by decide +kernel
theorem dJ0_init_db425_47 : decode cJ0_init_db425 47 = .ok (.aload_n 1, 1) := by decide +kernel
theorem dJ0_init_db425_48 : decode cJ0_init_db425 48 = .ok (.getfield 1048, 3) := by decide +kernel
theorem dJ0_init_db425_51 : decode cJ0_init_db425 51 = .ok (.ifCond .eq 28, 3) := by decide +kernel
theorem dJ0_init_db425_54 : decode cJ0_init_db425 54 = .ok (.aload_n 0, 1) := by decide +kernel
theorem dJ0_init_db425_55 : decode cJ0_init_db425 55 = .ok (.aload_n 3, 1) := by decide +kernel
theorem dJ0_init_db425_56 : decode cJ0_init_db425 56 = .ok (.iconst 0, 1) := by decide +kernel
theorem dJ0_init_db425_57 : decode cJ0_init_db425 57 = .ok (.iload 4, 2) := by decide +kernel
theorem dJ0_init_db425_59 : decode cJ0_init_db425 59 = .ok (.invokestatic 1051, 3) := by decide +kernel
theorem dJ0_init_db425_62 : decode cJ0_init_db425 62 = .ok (.putfield 9, 3) := by decide +kernel
theorem dJ0_init_db425_65 : decode cJ0_init_db425 65 = .ok (.aload_n 0, 1) := by decide +kernel
theorem dJ0_init_db425_66 : decode cJ0_init_db425 66 = .ok (.aload_n 0, 1) := by decide +kernel
theorem dJ0_init_db425_67 : decode cJ0_init_db425 67 = .ok (.getfield 9, 3) := by decide +kernel
theorem dJ0_init_db425_70 : decode cJ0_init_db425 70 = .ok (.iload 4, 2) := by decide +kernel
theorem dJ0_init_db425_72 : decode cJ0_init_db425 72 = .ok (.invokestatic 47, 3) := by decide +kernel
theorem dJ0_init_db425_75 : decode cJ0_init_db425 75 = .ok (.putfield 15, 3) := by decide +kernel
theorem dJ0_init_db425_78 : decode cJ0_init_db425 78 = .ok (.return_, 1) := by decide +kernel
theorem dJ0_init_db425_79 : decode cJ0_init_db425 79 = .ok (.aload_n 0, 1) := by decide +kernel
theorem dJ0_init_db425_80 : decode cJ0_init_db425 80 = .ok (.iconst 1, 1) := by decide +kernel
theorem dJ0_init_db425_81 : decode cJ0_init_db425 81 = .ok (.putfield 15, 3) := by decide +kernel
theorem dJ0_init_db425_84 : decode cJ0_init_db425 84 = .ok (.aload_n 0, 1) := by decide +kernel
theorem dJ0_init_db425_85 : decode cJ0_init_db425 85 = .ok (.aload_n 3, 1) := by decide +kernel
theorem dJ0_init_db425_86 : decode cJ0_init_db425 86 = .ok (.iconst 0, 1) := by decide +kernel
theorem dJ0_init_db425_87 : decode cJ0_init_db425 87 = .ok (.iload 4, 2) := by decide +kernel
theorem dJ0_init_db425_89 : decode cJ0_init_db425 89 = .ok (.iconst 1, 1) := by decide +kernel
theorem dJ0_init_db425_90 : decode cJ0_init_db425 90 = .ok (.ishl, 1) := by decide +kernel
theorem dJ0_init_db425_91 : decode cJ0_init_db425 91 = .ok (.invokestatic 54, 3) := by decide +kernel
theorem dJ0_init_db425_94 : decode cJ0_init_db425 94 = .ok (.putfield 9, 3) := by decide +kernel
theorem dJ0_init_db425_97 : decode cJ0_init_db425 97 = .ok (.return_, 1) := by decide +kernel
theorem dJ0_coder_7d493_0 : decode cJ0_coder_7d493 0 = .ok (.getstatic 38, 3) := by decide +kernel
theorem dJ0_coder_7d493_3 : decode cJ0_coder_7d493 3 = .ok (.ifCond .eq 10, 3) := by decide +kernel
theorem dJ0_coder_7d493_6 : decode cJ0_coder_7d493 6 = .ok (.aload_n 0, 1) := by decide +kernel
theorem dJ0_coder_7d493_7 : decode cJ0_coder_7d493 7 = .ok (.getfield 15, 3) := by decide +kernel
theorem dJ0_coder_7d493_10 : decode cJ0_coder_7d493 10 = .ok (.goto 4, 3) := by decide +kernel
theorem dJ0_coder_7d493_13 : decode cJ0_coder_7d493 13 = .ok (.iconst 1, 1) := by decide +kernel
theorem dJ0_coder_7d493_14 : decode cJ0_coder_7d493 14 = .ok (.ireturn, 1) := by decide +kernel
theorem dJ0_isLatin1_aae02_0 : decode cJ0_isLatin1_aae02 0 = .ok (.getstatic 38, 3) := by decide +kernel
theorem dJ0_isLatin1_aae02_3 : decode cJ0_isLatin1_aae02 3 = .ok (.ifCond .eq 14, 3) := by decide +kernel
theorem dJ0_isLatin1_aae02_6 : decode cJ0_isLatin1_aae02 6 = .ok (.aload_n 0, 1) := by decide +kernel
theorem dJ0_isLatin1_aae02_7 : decode cJ0_isLatin1_aae02 7 = .ok (.getfield 15, 3) := by decide +kernel
theorem dJ0_isLatin1_aae02_10 : decode cJ0_isLatin1_aae02 10 = .ok (.ifCond .ne 7, 3) := by decide +kernel
theorem dJ0_isLatin1_aae02_13 : decode cJ0_isLatin1_aae02 13 = .ok (.iconst 1, 1) := by decide +kernel
theorem dJ0_isLatin1_aae02_14 : decode cJ0_isLatin1_aae02 14 = .ok (.goto 4, 3) := by decide +kernel
theorem dJ0_isLatin1_aae02_17 : decode cJ0_isLatin1_aae02 17 = .ok (.iconst 0, 1) := by decide +kernel
theorem dJ0_isLatin1_aae02_18 : decode cJ0_isLatin1_aae02 18 = .ok (.ireturn, 1) := by decide +kernel
theorem dJ0_checkIndex_df160_0 : decode cJ0_checkIndex_df160 0 = .ok (.iload_n 0, 1) := by decide +kernel
theorem dJ0_checkIndex_df160_1 : decode cJ0_checkIndex_df160 1 = .ok (.iload_n 1, 1) := by decide +kernel
theorem dJ0_checkIndex_df160_2 : decode cJ0_checkIndex_df160 2 = .ok (.getstatic 1053, 3) := by decide +kernel
theorem dJ0_checkIndex_df160_5 : decode cJ0_checkIndex_df160 5 = .ok (.invokestatic 1059, 3) := by decide +kernel
theorem dJ0_checkIndex_df160_8 : decode cJ0_checkIndex_df160 8 = .ok (.pop, 1) := by decide +kernel
theorem dJ0_checkIndex_df160_9 : decode cJ0_checkIndex_df160 9 = .ok (.return_, 1) := by decide +kernel
theorem dJ0_checkBoundsOffCount_cabcc_0 : decode cJ0_checkBoundsOffCount_cabcc 0 = .ok (.iload_n 0, 1) := by decide +kernel
theorem dJ0_checkBoundsOffCount_cabcc_1 : decode cJ0_checkBoundsOffCount_cabcc 1 = .ok (.iload_n 1, 1) := by decide +kernel
theorem dJ0_checkBoundsOffCount_cabcc_2 : decode cJ0_checkBoundsOffCount_cabcc 2 = .ok (.iload_n 2, 1) := by decide +kernel
theorem dJ0_checkBoundsOffCount_cabcc_3 : decode cJ0_checkBoundsOffCount_cabcc 3 = .ok (.getstatic 1053, 3) := by decide +kernel
theorem dJ0_checkBoundsOffCount_cabcc_6 : decode cJ0_checkBoundsOffCount_cabcc 6 = .ok (.invokestatic 1065, 3) := by decide +kernel
theorem dJ0_checkBoundsOffCount_cabcc_9 : decode cJ0_checkBoundsOffCount_cabcc 9 = .ok (.ireturn, 1) := by decide +kernel
theorem dJ0_checkBoundsBeginEnd_23922_0 : decode cJ0_checkBoundsBeginEnd_23922 0 = .ok (.iload_n 0, 1) := by decide +kernel
theorem dJ0_checkBoundsBeginEnd_23922_1 : decode cJ0_checkBoundsBeginEnd_23922 1 = .ok (.iload_n 1, 1) := by decide +kernel
theorem dJ0_checkBoundsBeginEnd_23922_2 : decode cJ0_checkBoundsBeginEnd_23922 2 = .ok (.iload_n 2, 1) := by decide +kernel
theorem dJ0_checkBoundsBeginEnd_23922_3 : decode cJ0_checkBoundsBeginEnd_23922 3 = .ok (.getstatic 1053, 3) := by decide +kernel
theorem dJ0_checkBoundsBeginEnd_23922_6 : decode cJ0_checkBoundsBeginEnd_23922 6 = .ok (.invokestatic 1062, 3) := by decide +kernel
theorem dJ0_checkBoundsBeginEnd_23922_9 : decode cJ0_checkBoundsBeginEnd_23922 9 = .ok (.pop, 1) := by decide +kernel
theorem dJ0_checkBoundsBeginEnd_23922_10 : decode cJ0_checkBoundsBeginEnd_23922 10 = .ok (.return_, 1) := by decide +kernel
theorem dJ4_init_da8c8_0 : decode cJ4_init_da8c8 0 = .ok (.aload_n 0, 1) := by decide +kernel
theorem dJ4_init_da8c8_1 : decode cJ4_init_da8c8 1 = .ok (.bipush 16, 2) := by decide +kernel
theorem dJ4_init_da8c8_3 : decode cJ4_init_da8c8 3 = .ok (.invokespecial 1, 3) := by decide +kernel
theorem dJ4_init_da8c8_6 : decode cJ4_init_da8c8 6 = .ok (.return_, 1) := by decide +kernel
theorem dJ4_append_15ec4_0 : decode cJ4_append_15ec4 0 = .ok (.aload_n 0, 1) := by decide +kernel
theorem dJ4_append_15ec4_1 : decode cJ4_append_15ec4 1 = .ok (.aload_n 1, 1) := by decide +kernel
theorem dJ4_append_15ec4_2 : decode cJ4_append_15ec4 2 = .ok (.invokespecial 29, 3) := by decide +kernel
theorem dJ4_append_15ec4_5 : decode cJ4_append_15ec4 5 = .ok (.pop, 1) := by decide +kernel
theorem dJ4_append_15ec4_6 : decode cJ4_append_15ec4 6 = .ok (.aload_n 0, 1) := by decide +kernel
theorem dJ4_append_15ec4_7 : decode cJ4_append_15ec4 7 = .ok (.areturn, 1) := by decide +kernel
theorem dJ4_append_cf468_0 : decode cJ4_append_cf468 0 = .ok (.aload_n 0, 1) := by decide +kernel
theorem dJ4_append_cf468_1 : decode cJ4_append_cf468 1 = .ok (.iload_n 1, 1) := by decide +kernel
theorem dJ4_append_cf468_2 : decode cJ4_append_cf468 2 = .ok (.invokespecial 50, 3) := by decide +kernel
theorem dJ4_append_cf468_5 : decode cJ4_append_cf468 5 = .ok (.pop, 1) := by decide +kernel
theorem dJ4_append_cf468_6 : decode cJ4_append_cf468 6 = .ok (.aload_n 0, 1) := by decide +kernel
theorem dJ4_append_cf468_7 : decode cJ4_append_cf468 7 = .ok (.areturn, 1) := by decide +kernel
theorem dJ4_append_bf812_0 : decode cJ4_append_bf812 0 = .ok (.aload_n 0, 1) := by decide +kernel
theorem dJ4_append_bf812_1 : decode cJ4_append_bf812 1 = .ok (.iload_n 1, 1) := by decide +kernel
theorem dJ4_append_bf812_2 : decode cJ4_append_bf812 2 = .ok (.invokespecial 53, 3) := by decide +kernel
theorem dJ4_append_bf812_5 : decode cJ4_append_bf812 5 = .ok (.pop, 1) := by decide +kernel
theorem dJ4_append_bf812_6 : decode cJ4_append_bf812 6 = .ok (.aload_n 0, 1) := by decide +kernel
theorem dJ4_append_bf812_7 : decode cJ4_append_bf812 7 = .ok (.areturn, 1) := by decide +kernel
theorem dJ4_toString_0e30d_0 : decode cJ4_toString_0e30d 0 = .ok (.new 18, 3) := by decide +kernel
theorem dJ4_toString_0e30d_3 : decode cJ4_toString_0e30d 3 = .ok (.dup, 1) := by decide +kernel
theorem dJ4_toString_0e30d_4 : decode cJ4_toString_0e30d 4 = .ok (.aload_n 0, 1) := by decide +kernel
theorem dJ4_toString_0e30d_5 : decode cJ4_toString_0e30d 5 = .ok (.invokespecial 137, 3) := by decide +kernel
theorem dJ4_toString_0e30d_8 : decode cJ4_toString_0e30d 8 = .ok (.areturn, 1) := by decide +kernel
theorem dJ4_charAt_5068e_0 : decode cJ4_charAt_5068e 0 = .ok (.aload_n 0, 1) := by decide +kernel
theorem dJ4_charAt_5068e_1 : decode cJ4_charAt_5068e 1 = .ok (.iload_n 1, 1) := by decide +kernel
theorem dJ4_charAt_5068e_2 : decode cJ4_charAt_5068e 2 = .ok (.invokespecial 329, 3) := by decide +kernel
theorem dJ4_charAt_5068e_5 : decode cJ4_charAt_5068e 5 = .ok (.ireturn, 1) := by decide +kernel
theorem dJ4_setLength_d00df_0 : decode cJ4_setLength_d00df 0 = .ok (.aload_n 0, 1) := by decide +kernel
theorem dJ4_setLength_d00df_1 : decode cJ4_setLength_d00df 1 = .ok (.iload_n 1, 1) := by decide +kernel
theorem dJ4_setLength_d00df_2 : decode cJ4_setLength_d00df 2 = .ok (.invokespecial 333, 3) := by decide +kernel
theorem dJ4_setLength_d00df_5 : decode cJ4_setLength_d00df 5 = .ok (.return_, 1) := by decide +kernel
theorem dJ4_length_8abf5_0 : decode cJ4_length_8abf5 0 = .ok (.aload_n 0, 1) := by decide +kernel
theorem dJ4_length_8abf5_1 : decode cJ4_length_8abf5 1 = .ok (.invokespecial 343, 3) := by decide +kernel
theorem dJ4_length_8abf5_4 : decode cJ4_length_8abf5 4 = .ok (.ireturn, 1) := by decide +kernel
theorem dJx7c733_init_d00df_0 : decode cJx7c733_init_d00df 0 = .ok (.aload_n 0, 1) := by decide +kernel
theorem dJx7c733_init_d00df_1 : decode cJx7c733_init_d00df 1 = .ok (.new 10, 3) := by decide +kernel
theorem dJx7c733_init_d00df_4 : decode cJx7c733_init_d00df 4 = .ok (.dup, 1) := by decide +kernel
theorem dJx7c733_init_d00df_5 : decode cJx7c733_init_d00df 5 = .ok (.invokespecial 12, 3) := by decide +kernel
theorem dJx7c733_init_d00df_8 : decode cJx7c733_init_d00df 8 = .ok (.ldc 13, 2) := by decide +kernel
theorem dJx7c733_init_d00df_10 : decode cJx7c733_init_d00df 10 = .ok (.invokevirtual 15, 3) := by decide +kernel
theorem dJx7c733_init_d00df_13 : decode cJx7c733_init_d00df 13 = .ok (.iload_n 1, 1) := by decide +kernel
theorem dJx7c733_init_d00df_14 : decode cJx7c733_init_d00df 14 = .ok (.invokevirtual 19, 3) := by decide +kernel
theorem dJx7c733_init_d00df_17 : decode cJx7c733_init_d00df 17 = .ok (.invokevirtual 22, 3) := by decide +kernel
theorem dJx7c733_init_d00df_20 : decode cJx7c733_init_d00df 20 = .ok (.invokespecial 7, 3) := by decide +kernel
theorem dJx7c733_init_d00df_23 : decode cJx7c733_init_d00df 23 = .ok (.return_, 1) := by decide +kernel
theorem dJ1_charAt_3b067_0 : decode cJ1_charAt_3b067 0 = .ok (.iload_n 1, 1) := by decide +kernel
theorem dJ1_charAt_3b067_1 : decode cJ1_charAt_3b067 1 = .ok (.aload_n 0, 1) := by decide +kernel
theorem dJ1_charAt_3b067_2 : decode cJ1_charAt_3b067 2 = .ok (.arraylength, 1) := by decide +kernel
theorem dJ1_charAt_3b067_3 : decode cJ1_charAt_3b067 3 = .ok (.invokestatic 9, 3) := by decide +kernel
theorem dJ1_charAt_3b067_6 : decode cJ1_charAt_3b067 6 = .ok (.aload_n 0, 1) := by decide +kernel
theorem dJ1_charAt_3b067_7 : decode cJ1_charAt_3b067 7 = .ok (.iload_n 1, 1) := by decide +kernel
theorem dJ1_charAt_3b067_8 : decode cJ1_charAt_3b067 8 = .ok (.baload, 1) := by decide +kernel
theorem dJ1_charAt_3b067_9 : decode cJ1_charAt_3b067 9 = .ok (.sipush 255, 3) := by decide +kernel
theorem dJ1_charAt_3b067_12 : decode cJ1_charAt_3b067 12 = .ok (.iand, 1) := by decide +kernel
theorem dJ1_charAt_3b067_13 : decode cJ1_charAt_3b067 13 = .ok (.i2c, 1) := by decide +kernel
theorem dJ1_charAt_3b067_14 : decode cJ1_charAt_3b067 14 = .ok (.ireturn, 1) := by decide +kernel
theorem dJ1_canEncode_fc78d_0 : decode cJ1_canEncode_fc78d 0 = .ok (.iload_n 0, 1) := by decide +kernel
theorem dJ1_canEncode_fc78d_1 : decode cJ1_canEncode_fc78d 1 = .ok (.sipush 255, 3) := by decide +kernel
theorem dJ1_canEncode_fc78d_4 : decode cJ1_canEncode_fc78d 4 = .ok (.if_icmp .gt 7, 3) := by decide +kernel
theorem dJ1_canEncode_fc78d_7 : decode cJ1_canEncode_fc78d 7 = .ok (.iconst 1, 1) := by decide +kernel
theorem dJ1_canEncode_fc78d_8 : decode cJ1_canEncode_fc78d 8 = .ok (.goto 4, 3) := by decide +kernel
theorem dJ1_canEncode_fc78d_11 : decode cJ1_canEncode_fc78d 11 = .ok (.iconst 0, 1) := by decide +kernel
theorem dJ1_canEncode_fc78d_12 : decode cJ1_canEncode_fc78d 12 = .ok (.ireturn, 1) := by decide +kernel
theorem dJ1_fillNull_b72d1_0 : decode cJ1_fillNull_b72d1 0 = .ok (.aload_n 0, 1) := by decide +kernel
theorem dJ1_fillNull_b72d1_1 : decode cJ1_fillNull_b72d1 1 = .ok (.iload_n 1, 1) := by decide +kernel
theorem dJ1_fillNull_b72d1_2 : decode cJ1_fillNull_b72d1 2 = .ok (.iload_n 2, 1) := by decide +kernel
theorem dJ1_fillNull_b72d1_3 : decode cJ1_fillNull_b72d1 3 = .ok (.iconst 0, 1) := by decide +kernel
theorem dJ1_fillNull_b72d1_4 : decode cJ1_fillNull_b72d1 4 = .ok (.invokestatic 236, 3) := by decide +kernel
theorem dJ1_fillNull_b72d1_7 : decode cJ1_fillNull_b72d1 7 = .ok (.return_, 1) := by decide +kernel
theorem dJ1_inflate_0e8fd_0 : decode cJ1_inflate_0e8fd 0 = .ok (.aload_n 0, 1) := by decide +kernel
theorem dJ1_inflate_0e8fd_1 : decode cJ1_inflate_0e8fd 1 = .ok (.iload_n 1, 1) := by decide +kernel
theorem dJ1_inflate_0e8fd_2 : decode cJ1_inflate_0e8fd 2 = .ok (.aload_n 2, 1) := by decide +kernel
theorem dJ1_inflate_0e8fd_3 : decode cJ1_inflate_0e8fd 3 = .ok (.iload_n 3, 1) := by decide +kernel
theorem dJ1_inflate_0e8fd_4 : decode cJ1_inflate_0e8fd 4 = .ok (.iload 4, 2) := by decide +kernel
theorem dJ1_inflate_0e8fd_6 : decode cJ1_inflate_0e8fd 6 = .ok (.invokestatic 240, 3) := by decide +kernel
theorem dJ1_inflate_0e8fd_9 : decode cJ1_inflate_0e8fd 9 = .ok (.return_, 1) := by decide +kernel
theorem dJ2_newBytesFor_77867_0 : decode cJ2_newBytesFor_77867 0 = .ok (.iload_n 0, 1) := by decide +kernel
theorem dJ2_newBytesFor_77867_1 : decode cJ2_newBytesFor_77867 1 = .ok (.invokestatic 11, 3) := by decide +kernel
theorem dJ2_newBytesFor_77867_4 : decode cJ2_newBytesFor_77867 4 = .ok (.newarray .byte, 2) := by decide +kernel
theorem dJ2_newBytesFor_77867_6 : decode cJ2_newBytesFor_77867 6 = .ok (.areturn, 1) := by decide +kernel
theorem dJ2_newBytesLength_0f7a4_0 : decode cJ2_newBytesLength_0f7a4 0 = .ok (.iload_n 0, 1) := by decide +kernel
theorem dJ2_newBytesLength_0f7a4_1 : decode cJ2_newBytesLength_0f7a4 1 = .ok (.ifCond .ge 11, 3) := by decide +kernel
theorem dJ2_newBytesLength_0f7a4_4 : decode cJ2_newBytesLength_0f7a4 4 = .ok (.new 17, 3) := by decide +kernel
theorem dJ2_newBytesLength_0f7a4_7 : decode cJ2_newBytesLength_0f7a4 7 = .ok (.dup, 1) := by decide +kernel
theorem dJ2_newBytesLength_0f7a4_8 : decode cJ2_newBytesLength_0f7a4 8 = .ok (.invokespecial 19, 3) := by decide +kernel
theorem dJ2_newBytesLength_0f7a4_11 : decode cJ2_newBytesLength_0f7a4 11 = .ok (.athrow, 1) := by decide +kernel
theorem dJ2_newBytesLength_0f7a4_12 : decode cJ2_newBytesLength_0f7a4 12 = .ok (.iload_n 0, 1) := by decide +kernel
theorem dJ2_newBytesLength_0f7a4_13 : decode cJ2_newBytesLength_0f7a4 13 = .ok (.ldc 20, 2) := by decide +kernel
theorem dJ2_newBytesLength_0f7a4_15 : decode cJ2_newBytesLength_0f7a4 15 = .ok (.if_icmp .lt 40, 3) := by decide +kernel
theorem dJ2_newBytesLength_0f7a4_18 : decode cJ2_newBytesLength_0f7a4 18 = .ok (.new 21, 3) := by decide +kernel
theorem dJ2_newBytesLength_0f7a4_21 : decode cJ2_newBytesLength_0f7a4 21 = .ok (.dup, 1) := by decide +kernel
theorem dJ2_newBytesLength_0f7a4_22 : decode cJ2_newBytesLength_0f7a4 22 = .ok (.new 23, 3) := by decide +kernel
theorem dJ2_newBytesLength_0f7a4_25 : decode cJ2_newBytesLength_0f7a4 25 = .ok (.dup, 1) := by decide +kernel
theorem dJ2_newBytesLength_0f7a4_26 : decode cJ2_newBytesLength_0f7a4 26 = .ok (.invokespecial 25, 3) := by decide +kernel
theorem dJ2_newBytesLength_0f7a4_29 : decode cJ2_newBytesLength_0f7a4 29 = .ok (.ldc 26, 2) := by decide +kernel
theorem dJ2_newBytesLength_0f7a4_31 : decode cJ2_newBytesLength_0f7a4 31 = .ok (.invokevirtual 28, 3) := by decide +kernel
theorem dJ2_newBytesLength_0f7a4_34 : decode cJ2_newBytesLength_0f7a4 34 = .ok (.iload_n 0, 1) := by decide +kernel
theorem dJ2_newBytesLength_0f7a4_35 : decode cJ2_newBytesLength_0f7a4 35 = .ok (.invokevirtual 32, 3) := by decide +kernel
theorem dJ2_newBytesLength_0f7a4_38 : decode cJ2_newBytesLength_0f7a4 38 = .ok (.ldc 35, 2) := by decide +kernel
theorem dJ2_newBytesLength_0f7a4_40 : decode cJ2_newBytesLength_0f7a4 40 = .ok (.invokevirtual 28, 3) := by decide +kernel
theorem dJ2_newBytesLength_0f7a4_43 : decode cJ2_newBytesLength_0f7a4 43 = .ok (.ldc 20, 2) := by decide +kernel
theorem dJ2_newBytesLength_0f7a4_45 : decode cJ2_newBytesLength_0f7a4 45 = .ok (.invokevirtual 32, 3) := by decide +kernel
theorem dJ2_newBytesLength_0f7a4_48 : decode cJ2_newBytesLength_0f7a4 48 = .ok (.invokevirtual 37, 3) := by decide +kernel
theorem dJ2_newBytesLength_0f7a4_51 : decode cJ2_newBytesLength_0f7a4 51 = .ok (.invokespecial 41, 3) := by decide +kernel
theorem dJ2_newBytesLength_0f7a4_54 : decode cJ2_newBytesLength_0f7a4 54 = .ok (.athrow, 1) := by decide +kernel
theorem dJ2_newBytesLength_0f7a4_55 : decode cJ2_newBytesLength_0f7a4 55 = .ok (.iload_n 0, 1) := by decide +kernel
theorem dJ2_newBytesLength_0f7a4_56 : decode cJ2_newBytesLength_0f7a4 56 = .ok (.iconst 1, 1) := by decide +kernel
theorem dJ2_newBytesLength_0f7a4_57 : decode cJ2_newBytesLength_0f7a4 57 = .ok (.ishl, 1) := by decide +kernel
theorem dJ2_newBytesLength_0f7a4_58 : decode cJ2_newBytesLength_0f7a4 58 = .ok (.ireturn, 1) := by decide +kernel
theorem dJ2_putChar_b72d1_0 : decode cJ2_putChar_b72d1 0 = .ok (.getstatic 44, 3) := by decide +kernel
theorem dJ2_putChar_b72d1_3 : decode cJ2_putChar_b72d1 3 = .ok (.ifCond .ne 25, 3) := by decide +kernel
theorem dJ2_putChar_b72d1_6 : decode cJ2_putChar_b72d1 6 = .ok (.iload_n 1, 1) := by decide +kernel
theorem dJ2_putChar_b72d1_7 : decode cJ2_putChar_b72d1 7 = .ok (.ifCond .lt 11, 3) := by decide +kernel
theorem dJ2_putChar_b72d1_10 : decode cJ2_putChar_b72d1 10 = .ok (.iload_n 1, 1) := by decide +kernel
theorem dJ2_putChar_b72d1_11 : decode cJ2_putChar_b72d1 11 = .ok (.aload_n 0, 1) := by decide +kernel
theorem dJ2_putChar_b72d1_12 : decode cJ2_putChar_b72d1 12 = .ok (.invokestatic 48, 3) := by decide +kernel
theorem dJ2_putChar_b72d1_15 : decode cJ2_putChar_b72d1 15 = .ok (.if_icmp .lt 13, 3) := by decide +kernel
theorem dJ2_putChar_b72d1_18 : decode cJ2_putChar_b72d1 18 = .ok (.new 52, 3) := by decide +kernel
theorem dJ2_putChar_b72d1_21 : decode cJ2_putChar_b72d1 21 = .ok (.dup, 1) := by decide +kernel
theorem dJ2_putChar_b72d1_22 : decode cJ2_putChar_b72d1 22 = .ok (.ldc 54, 2) := by decide +kernel
theorem dJ2_putChar_b72d1_24 : decode cJ2_putChar_b72d1 24 = .ok (.invokespecial 56, 3) := by decide +kernel
theorem dJ2_putChar_b72d1_27 : decode cJ2_putChar_b72d1 27 = .ok (.athrow, 1) := by decide +kernel
theorem dJ2_putChar_b72d1_28 : decode cJ2_putChar_b72d1 28 = .ok (.iload_n 1, 1) := by decide +kernel
theorem dJ2_putChar_b72d1_29 : decode cJ2_putChar_b72d1 29 = .ok (.iconst 1, 1) := by decide +kernel
theorem dJ2_putChar_b72d1_30 : decode cJ2_putChar_b72d1 30 = .ok (.ishl, 1) := by decide +kernel
theorem dJ2_putChar_b72d1_31 : decode cJ2_putChar_b72d1 31 = .ok (.istore_n 1, 1) := by decide +kernel
theorem dJ2_putChar_b72d1_32 : decode cJ2_putChar_b72d1 32 = .ok (.aload_n 0, 1) := by decide +kernel
theorem dJ2_putChar_b72d1_33 : decode cJ2_putChar_b72d1 33 = .ok (.iload_n 1, 1) := by decide +kernel
theorem dJ2_putChar_b72d1_34 : decode cJ2_putChar_b72d1 34 = .ok (.iinc 1 1, 3) := by decide +kernel
theorem dJ2_putChar_b72d1_37 : decode cJ2_putChar_b72d1 37 = .ok (.iload_n 2, 1) := by decide +kernel
theorem dJ2_putChar_b72d1_38 : decode cJ2_putChar_b72d1 38 = .ok (.getstatic 59, 3) := by decide +kernel
theorem dJ2_putChar_b72d1_41 : decode cJ2_putChar_b72d1 41 = .ok (.ishr, 1) := by decide +kernel
theorem dJ2_putChar_b72d1_42 : decode cJ2_putChar_b72d1 42 = .ok (.i2b, 1) := by decide +kernel
theorem dJ2_putChar_b72d1_43 : decode cJ2_putChar_b72d1 43 = .ok (.bastore, 1) := by decide +kernel
theorem dJ2_putChar_b72d1_44 : decode cJ2_putChar_b72d1 44 = .ok (.aload_n 0, 1) := by decide +kernel
theorem dJ2_putChar_b72d1_45 : decode cJ2_putChar_b72d1 45 = .ok (.iload_n 1, 1) := by decide +kernel
theorem dJ2_putChar_b72d1_46 : decode cJ2_putChar_b72d1 46 = .ok (.iload_n 2, 1) := by decide +kernel
theorem dJ2_putChar_b72d1_47 : decode cJ2_putChar_b72d1 47 = .ok (.getstatic 63, 3) := by decide +kernel
theorem dJ2_putChar_b72d1_50 : decode cJ2_putChar_b72d1 50 = .ok (.ishr, 1) := by decide +kernel
theorem dJ2_putChar_b72d1_51 : decode cJ2_putChar_b72d1 51 = .ok (.i2b, 1) := by decide +kernel
theorem dJ2_putChar_b72d1_52 : decode cJ2_putChar_b72d1 52 = .ok (.bastore, 1) := by decide +kernel
theorem dJ2_putChar_b72d1_53 : decode cJ2_putChar_b72d1 53 = .ok (.return_, 1) := by decide +kernel
theorem dJ2_getChar_3b067_0 : decode cJ2_getChar_3b067 0 = .ok (.getstatic 44, 3) := by decide +kernel
theorem dJ2_getChar_3b067_3 : decode cJ2_getChar_3b067 3 = .ok (.ifCond .ne 25, 3) := by decide +kernel
theorem dJ2_getChar_3b067_6 : decode cJ2_getChar_3b067 6 = .ok (.iload_n 1, 1) := by decide +kernel
theorem dJ2_getChar_3b067_7 : decode cJ2_getChar_3b067 7 = .ok (.ifCond .lt 11, 3) := by decide +kernel
theorem dJ2_getChar_3b067_10 : decode cJ2_getChar_3b067 10 = .ok (.iload_n 1, 1) := by decide +kernel
theorem dJ2_getChar_3b067_11 : decode cJ2_getChar_3b067 11 = .ok (.aload_n 0, 1) := by decide +kernel
theorem dJ2_getChar_3b067_12 : decode cJ2_getChar_3b067 12 = .ok (.invokestatic 48, 3) := by decide +kernel
theorem dJ2_getChar_3b067_15 : decode cJ2_getChar_3b067 15 = .ok (.if_icmp .lt 13, 3) := by decide +kernel
theorem dJ2_getChar_3b067_18 : decode cJ2_getChar_3b067 18 = .ok (.new 52, 3) := by decide +kernel
theorem dJ2_getChar_3b067_21 : decode cJ2_getChar_3b067 21 = .ok (.dup, 1) := by decide +kernel
theorem dJ2_getChar_3b067_22 : decode cJ2_getChar_3b067 22 = .ok (.ldc 54, 2) := by decide +kernel
theorem dJ2_getChar_3b067_24 : decode cJ2_getChar_3b067 24 = .ok (.invokespecial 56, 3) := by decide +kernel
theorem dJ2_getChar_3b067_27 : decode cJ2_getChar_3b067 27 = .ok (.athrow, 1) := by decide +kernel
theorem dJ2_getChar_3b067_28 : decode cJ2_getChar_3b067 28 = .ok (.iload_n 1, 1) := by decide +kernel
theorem dJ2_getChar_3b067_29 : decode cJ2_getChar_3b067 29 = .ok (.iconst 1, 1) := by decide +kernel
theorem dJ2_getChar_3b067_30 : decode cJ2_getChar_3b067 30 = .ok (.ishl, 1) := by decide +kernel
theorem dJ2_getChar_3b067_31 : decode cJ2_getChar_3b067 31 = .ok (.istore_n 1, 1) := by decide +kernel
theorem dJ2_getChar_3b067_32 : decode cJ2_getChar_3b067 32 = .ok (.aload_n 0, 1) := by decide +kernel
theorem dJ2_getChar_3b067_33 : decode cJ2_getChar_3b067 33 = .ok (.iload_n 1, 1) := by decide +kernel
theorem dJ2_getChar_3b067_34 : decode cJ2_getChar_3b067 34 = .ok (.iinc 1 1, 3) := by decide +kernel
theorem dJ2_getChar_3b067_37 : decode cJ2_getChar_3b067 37 = .ok (.baload, 1) := by decide +kernel
theorem dJ2_getChar_3b067_38 : decode cJ2_getChar_3b067 38 = .ok (.sipush 255, 3) := by decide +kernel
theorem dJ2_getChar_3b067_41 : decode cJ2_getChar_3b067 41 = .ok (.iand, 1) := by decide +kernel
theorem dJ2_getChar_3b067_42 : decode cJ2_getChar_3b067 42 = .ok (.getstatic 59, 3) := by decide +kernel
theorem dJ2_getChar_3b067_45 : decode cJ2_getChar_3b067 45 = .ok (.ishl, 1) := by decide +kernel
theorem dJ2_getChar_3b067_46 : decode cJ2_getChar_3b067 46 = .ok (.aload_n 0, 1) := by decide +kernel
theorem dJ2_getChar_3b067_47 : decode cJ2_getChar_3b067 47 = .ok (.iload_n 1, 1) := by decide +kernel
theorem dJ2_getChar_3b067_48 : decode cJ2_getChar_3b067 48 = .ok (.baload, 1) := by decide +kernel
theorem dJ2_getChar_3b067_49 : decode cJ2_getChar_3b067 49 = .ok (.sipush 255, 3) := by decide +kernel
theorem dJ2_getChar_3b067_52 : decode cJ2_getChar_3b067 52 = .ok (.iand, 1) := by decide +kernel
theorem dJ2_getChar_3b067_53 : decode cJ2_getChar_3b067 53 = .ok (.getstatic 63, 3) := by decide +kernel
theorem dJ2_getChar_3b067_56 : decode cJ2_getChar_3b067 56 = .ok (.ishl, 1) := by decide +kernel
theorem dJ2_getChar_3b067_57 : decode cJ2_getChar_3b067 57 = .ok (.ior, 1) := by decide +kernel
theorem dJ2_getChar_3b067_58 : decode cJ2_getChar_3b067 58 = .ok (.i2c, 1) := by decide +kernel
theorem dJ2_getChar_3b067_59 : decode cJ2_getChar_3b067 59 = .ok (.ireturn, 1) := by decide +kernel
theorem dJ2_length_9d52b_0 : decode cJ2_length_9d52b 0 = .ok (.aload_n 0, 1) := by decide +kernel
theorem dJ2_length_9d52b_1 : decode cJ2_length_9d52b 1 = .ok (.arraylength, 1) := by decide +kernel
theorem dJ2_length_9d52b_2 : decode cJ2_length_9d52b 2 = .ok (.iconst 1, 1) := by decide +kernel
theorem dJ2_length_9d52b_3 : decode cJ2_length_9d52b 3 = .ok (.ishr, 1) := by decide +kernel
theorem dJ2_length_9d52b_4 : decode cJ2_length_9d52b 4 = .ok (.ireturn, 1) := by decide +kernel
theorem dJ2_coderFromArrayLen_85cad_0 : decode cJ2_coderFromArrayLen_85cad 0 = .ok (.iload_n 1, 1) := by decide +kernel
theorem dJ2_coderFromArrayLen_85cad_1 : decode cJ2_coderFromArrayLen_85cad 1 = .ok (.aload_n 0, 1) := by decide +kernel
theorem dJ2_coderFromArrayLen_85cad_2 : decode cJ2_coderFromArrayLen_85cad 2 = .ok (.arraylength, 1) := by decide +kernel
theorem dJ2_coderFromArrayLen_85cad_3 : decode cJ2_coderFromArrayLen_85cad 3 = .ok (.isub, 1) := by decide +kernel
theorem dJ2_coderFromArrayLen_85cad_4 : decode cJ2_coderFromArrayLen_85cad 4 = .ok (.bipush 31, 2) := by decide +kernel
theorem dJ2_coderFromArrayLen_85cad_6 : decode cJ2_coderFromArrayLen_85cad 6 = .ok (.iushr, 1) := by decide +kernel
theorem dJ2_coderFromArrayLen_85cad_7 : decode cJ2_coderFromArrayLen_85cad 7 = .ok (.i2b, 1) := by decide +kernel
theorem dJ2_coderFromArrayLen_85cad_8 : decode cJ2_coderFromArrayLen_85cad 8 = .ok (.ireturn, 1) := by decide +kernel
theorem dJ2_compress_39247_0 : decode cJ2_compress_39247 0 = .ok (.iload_n 2, 1) := by decide +kernel
theorem dJ2_compress_39247_1 : decode cJ2_compress_39247 1 = .ok (.newarray .byte, 2) := by decide +kernel
theorem dJ2_compress_39247_3 : decode cJ2_compress_39247 3 = .ok (.astore_n 3, 1) := by decide +kernel
theorem dJ2_compress_39247_4 : decode cJ2_compress_39247 4 = .ok (.aload_n 0, 1) := by decide +kernel
theorem dJ2_compress_39247_5 : decode cJ2_compress_39247 5 = .ok (.iload_n 1, 1) := by decide +kernel
theorem dJ2_compress_39247_6 : decode cJ2_compress_39247 6 = .ok (.aload_n 3, 1) := by decide +kernel
theorem dJ2_compress_39247_7 : decode cJ2_compress_39247 7 = .ok (.iconst 0, 1) := by decide +kernel
theorem dJ2_compress_39247_8 : decode cJ2_compress_39247 8 = .ok (.iload_n 2, 1) := by decide +kernel
theorem dJ2_compress_39247_9 : decode cJ2_compress_39247 9 = .ok (.invokestatic 123, 3) := by decide +kernel
theorem dJ2_compress_39247_12 : decode cJ2_compress_39247 12 = .ok (.istore 4, 2) := by decide +kernel
theorem dJ2_compress_39247_14 : decode cJ2_compress_39247 14 = .ok (.iload 4, 2) := by decide +kernel
theorem dJ2_compress_39247_16 : decode cJ2_compress_39247 16 = .ok (.iload_n 2, 1) := by decide +kernel
theorem dJ2_compress_39247_17 : decode cJ2_compress_39247 17 = .ok (.if_icmp .eq 47, 3) := by decide +kernel
theorem dJ2_compress_39247_20 : decode cJ2_compress_39247 20 = .ok (.aload_n 0, 1) := by decide +kernel
theorem dJ2_compress_39247_21 : decode cJ2_compress_39247 21 = .ok (.iload_n 1, 1) := by decide +kernel
theorem dJ2_compress_39247_22 : decode cJ2_compress_39247 22 = .ok (.iconst 1, 1) := by decide +kernel
theorem dJ2_compress_39247_23 : decode cJ2_compress_39247 23 = .ok (.ishl, 1) := by decide +kernel
theorem dJ2_compress_39247_24 : decode cJ2_compress_39247 24 = .ok (.iload_n 1, 1) := by decide +kernel
theorem dJ2_compress_39247_25 : decode cJ2_compress_39247 25 = .ok (.iload_n 2, 1) := by decide +kernel
theorem dJ2_compress_39247_26 : decode cJ2_compress_39247 26 = .ok (.iadd, 1) := by decide +kernel
theorem dJ2_compress_39247_27 : decode cJ2_compress_39247 27 = .ok (.invokestatic 11, 3) := by decide +kernel
theorem dJ2_compress_39247_30 : decode cJ2_compress_39247 30 = .ok (.invokestatic 126, 3) := by decide +kernel
theorem dJ2_compress_39247_33 : decode cJ2_compress_39247 33 = .ok (.astore 5, 2) := by decide +kernel
theorem dJ2_compress_39247_35 : decode cJ2_compress_39247 35 = .ok (.aload 5, 2) := by decide +kernel
theorem dJ2_compress_39247_37 : decode cJ2_compress_39247 37 = .ok (.iload 4, 2) := by decide +kernel
theorem dJ2_compress_39247_39 : decode cJ2_compress_39247 39 = .ok (.invokestatic 71, 3) := by decide +kernel
theorem dJ2_compress_39247_42 : decode cJ2_compress_39247 42 = .ok (.sipush 255, 3) := by decide +kernel
theorem dJ2_compress_39247_45 : decode cJ2_compress_39247 45 = .ok (.if_icmp .gt 16, 3) := by decide +kernel
theorem dJ2_compress_39247_48 : decode cJ2_compress_39247 48 = .ok (.aload 5, 2) := by decide +kernel
theorem dJ2_compress_39247_50 : decode cJ2_compress_39247 50 = .ok (.iconst 0, 1) := by decide +kernel
theorem dJ2_compress_39247_51 : decode cJ2_compress_39247 51 = .ok (.aload_n 3, 1) := by decide +kernel
theorem dJ2_compress_39247_52 : decode cJ2_compress_39247 52 = .ok (.iconst 0, 1) := by decide +kernel
theorem dJ2_compress_39247_53 : decode cJ2_compress_39247 53 = .ok (.iload_n 2, 1) := by decide +kernel
theorem dJ2_compress_39247_54 : decode cJ2_compress_39247 54 = .ok (.invokestatic 123, 3) := by decide +kernel
theorem dJ2_compress_39247_57 : decode cJ2_compress_39247 57 = .ok (.iload_n 2, 1) := by decide +kernel
theorem dJ2_compress_39247_58 : decode cJ2_compress_39247 58 = .ok (.if_icmp .eq 6, 3) := by decide +kernel
theorem dJ2_compress_39247_61 : decode cJ2_compress_39247 61 = .ok (.aload 5, 2) := by decide +kernel
theorem dJ2_compress_39247_63 : decode cJ2_compress_39247 63 = .ok (.areturn, 1) := by decide +kernel
theorem dJ2_compress_39247_64 : decode cJ2_compress_39247 64 = .ok (.aload_n 3, 1) := by decide +kernel
theorem dJ2_compress_39247_65 : decode cJ2_compress_39247 65 = .ok (.areturn, 1) := by decide +kernel
theorem dJ2_compress_5af95_0 : decode cJ2_compress_5af95 0 = .ok (.iload_n 1, 1) := by decide +kernel
theorem dJ2_compress_5af95_1 : decode cJ2_compress_5af95 1 = .ok (.iload 4, 2) := by decide +kernel
theorem dJ2_compress_5af95_3 : decode cJ2_compress_5af95 3 = .ok (.aload_n 0, 1) := by decide +kernel
theorem dJ2_compress_5af95_4 : decode cJ2_compress_5af95 4 = .ok (.invokestatic 173, 3) := by decide +kernel
theorem dJ2_compress_5af95_7 : decode cJ2_compress_5af95 7 = .ok (.iconst 0, 1) := by decide +kernel
theorem dJ2_compress_5af95_8 : decode cJ2_compress_5af95 8 = .ok (.istore 5, 2) := by decide +kernel
theorem dJ2_compress_5af95_10 : decode cJ2_compress_5af95 10 = .ok (.iload 5, 2) := by decide +kernel
theorem dJ2_compress_5af95_12 : decode cJ2_compress_5af95 12 = .ok (.iload 4, 2) := by decide +kernel
theorem dJ2_compress_5af95_14 : decode cJ2_compress_5af95 14 = .ok (.if_icmp .ge 39, 3) := by decide +kernel
theorem dJ2_compress_5af95_17 : decode cJ2_compress_5af95 17 = .ok (.aload_n 0, 1) := by decide +kernel
theorem dJ2_compress_5af95_18 : decode cJ2_compress_5af95 18 = .ok (.iload_n 1, 1) := by decide +kernel
theorem dJ2_compress_5af95_19 : decode cJ2_compress_5af95 19 = .ok (.invokestatic 71, 3) := by decide +kernel
theorem dJ2_compress_5af95_22 : decode cJ2_compress_5af95 22 = .ok (.istore 6, 2) := by decide +kernel
theorem dJ2_compress_5af95_24 : decode cJ2_compress_5af95 24 = .ok (.iload 6, 2) := by decide +kernel
theorem dJ2_compress_5af95_26 : decode cJ2_compress_5af95 26 = .ok (.sipush 255, 3) := by decide +kernel
theorem dJ2_compress_5af95_29 : decode cJ2_compress_5af95 29 = .ok (.if_icmp .le 6, 3) := by decide +kernel
theorem dJ2_compress_5af95_32 : decode cJ2_compress_5af95 32 = .ok (.iload 5, 2) := by decide +kernel
theorem dJ2_compress_5af95_34 : decode cJ2_compress_5af95 34 = .ok (.ireturn, 1) := by decide +kernel
theorem dJ2_compress_5af95_35 : decode cJ2_compress_5af95 35 = .ok (.aload_n 2, 1) := by decide +kernel
theorem dJ2_compress_5af95_36 : decode cJ2_compress_5af95 36 = .ok (.iload_n 3, 1) := by decide +kernel
theorem dJ2_compress_5af95_37 : decode cJ2_compress_5af95 37 = .ok (.iload 6, 2) := by decide +kernel
theorem dJ2_compress_5af95_39 : decode cJ2_compress_5af95 39 = .ok (.i2b, 1) := by decide +kernel
theorem dJ2_compress_5af95_40 : decode cJ2_compress_5af95 40 = .ok (.bastore, 1) := by decide +kernel
theorem dJ2_compress_5af95_41 : decode cJ2_compress_5af95 41 = .ok (.iinc 1 1, 3) := by decide +kernel
theorem dJ2_compress_5af95_44 : decode cJ2_compress_5af95 44 = .ok (.iinc 3 1, 3) := by decide +kernel
theorem dJ2_compress_5af95_47 : decode cJ2_compress_5af95 47 = .ok (.iinc 5 1, 3) := by decide +kernel
theorem dJ2_compress_5af95_50 : decode cJ2_compress_5af95 50 = .ok (.goto (-40), 3) := by decide +kernel
theorem dJ2_compress_5af95_53 : decode cJ2_compress_5af95 53 = .ok (.iload 4, 2) := by decide +kernel
theorem dJ2_compress_5af95_55 : decode cJ2_compress_5af95 55 = .ok (.ireturn, 1) := by decide +kernel
theorem dJ2_fillNull_b72d1_0 : decode cJ2_fillNull_b72d1 0 = .ok (.aload_n 0, 1) := by decide +kernel
theorem dJ2_fillNull_b72d1_1 : decode cJ2_fillNull_b72d1 1 = .ok (.iload_n 1, 1) := by decide +kernel
theorem dJ2_fillNull_b72d1_2 : decode cJ2_fillNull_b72d1 2 = .ok (.iconst 1, 1) := by decide +kernel
theorem dJ2_fillNull_b72d1_3 : decode cJ2_fillNull_b72d1 3 = .ok (.ishl, 1) := by decide +kernel
theorem dJ2_fillNull_b72d1_4 : decode cJ2_fillNull_b72d1 4 = .ok (.iload_n 2, 1) := by decide +kernel
theorem dJ2_fillNull_b72d1_5 : decode cJ2_fillNull_b72d1 5 = .ok (.iconst 1, 1) := by decide +kernel
theorem dJ2_fillNull_b72d1_6 : decode cJ2_fillNull_b72d1 6 = .ok (.ishl, 1) := by decide +kernel
theorem dJ2_fillNull_b72d1_7 : decode cJ2_fillNull_b72d1 7 = .ok (.iconst 0, 1) := by decide +kernel
theorem dJ2_fillNull_b72d1_8 : decode cJ2_fillNull_b72d1 8 = .ok (.invokestatic 380, 3) := by decide +kernel
theorem dJ2_fillNull_b72d1_11 : decode cJ2_fillNull_b72d1 11 = .ok (.return_, 1) := by decide +kernel
theorem dJ2_putCharSB_b72d1_0 : decode cJ2_putCharSB_b72d1 0 = .ok (.iload_n 1, 1) := by decide +kernel
theorem dJ2_putCharSB_b72d1_1 : decode cJ2_putCharSB_b72d1 1 = .ok (.aload_n 0, 1) := by decide +kernel
theorem dJ2_putCharSB_b72d1_2 : decode cJ2_putCharSB_b72d1 2 = .ok (.invokestatic 67, 3) := by decide +kernel
theorem dJ2_putCharSB_b72d1_5 : decode cJ2_putCharSB_b72d1 5 = .ok (.aload_n 0, 1) := by decide +kernel
theorem dJ2_putCharSB_b72d1_6 : decode cJ2_putCharSB_b72d1 6 = .ok (.iload_n 1, 1) := by decide +kernel
theorem dJ2_putCharSB_b72d1_7 : decode cJ2_putCharSB_b72d1 7 = .ok (.iload_n 2, 1) := by decide +kernel
theorem dJ2_putCharSB_b72d1_8 : decode cJ2_putCharSB_b72d1 8 = .ok (.invokestatic 111, 3) := by decide +kernel
theorem dJ2_putCharSB_b72d1_11 : decode cJ2_putCharSB_b72d1 11 = .ok (.return_, 1) := by decide +kernel
theorem dJ2_getChars_46870_0 : decode cJ2_getChars_46870 0 = .ok (.iload_n 1, 1) := by decide +kernel
theorem dJ2_getChars_46870_1 : decode cJ2_getChars_46870 1 = .ok (.iload_n 2, 1) := by decide +kernel
theorem dJ2_getChars_46870_2 : decode cJ2_getChars_46870 2 = .ok (.aload_n 3, 1) := by decide +kernel
theorem dJ2_getChars_46870_3 : decode cJ2_getChars_46870 3 = .ok (.invokestatic 96, 3) := by decide +kernel
theorem dJ2_getChars_46870_6 : decode cJ2_getChars_46870 6 = .ok (.iload_n 0, 1) := by decide +kernel
theorem dJ2_getChars_46870_7 : decode cJ2_getChars_46870 7 = .ok (.iload_n 2, 1) := by decide +kernel
theorem dJ2_getChars_46870_8 : decode cJ2_getChars_46870 8 = .ok (.aload_n 3, 1) := by decide +kernel
theorem dJ2_getChars_46870_9 : decode cJ2_getChars_46870 9 = .ok (.invokestatic 393, 3) := by decide +kernel
theorem dJ2_getChars_46870_12 : decode cJ2_getChars_46870 12 = .ok (.istore 4, 2) := by decide +kernel
theorem dJ2_getChars_46870_14 : decode cJ2_getChars_46870 14 = .ok (.getstatic 44, 3) := by decide +kernel
theorem dJ2_getChars_46870_17 : decode cJ2_getChars_46870 17 = .ok (.ifCond .ne 17, 3) := by decide +kernel
theorem dJ2_getChars_46870_20 : decode cJ2_getChars_46870 20 = .ok (.iload_n 1, 1) := by decide +kernel
theorem dJ2_getChars_46870_21 : decode cJ2_getChars_46870 21 = .ok (.iload 4, 2) := by decide +kernel
theorem dJ2_getChars_46870_23 : decode cJ2_getChars_46870 23 = .ok (.if_icmp .eq 11, 3) := by decide +kernel
theorem dJ2_getChars_46870_26 : decode cJ2_getChars_46870 26 = .ok (.new 52, 3) := by decide +kernel
theorem dJ2_getChars_46870_29 : decode cJ2_getChars_46870 29 = .ok (.dup, 1) := by decide +kernel
theorem dJ2_getChars_46870_30 : decode cJ2_getChars_46870 30 = .ok (.invokespecial 66, 3) := by decide +kernel
theorem dJ2_getChars_46870_33 : decode cJ2_getChars_46870 33 = .ok (.athrow, 1) := by decide +kernel
theorem dJ2_getChars_46870_34 : decode cJ2_getChars_46870 34 = .ok (.iload 4, 2) := by decide +kernel
theorem dJ2_getChars_46870_36 : decode cJ2_getChars_46870 36 = .ok (.ireturn, 1) := by decide +kernel
theorem dJ2_putCharsAt_cd4e5_0 : decode cJ2_putCharsAt_cd4e5 0 = .ok (.iload_n 1, 1) := by decide +kernel
theorem dJ2_putCharsAt_cd4e5_1 : decode cJ2_putCharsAt_cd4e5 1 = .ok (.iconst 4, 1) := by decide +kernel
theorem dJ2_putCharsAt_cd4e5_2 : decode cJ2_putCharsAt_cd4e5 2 = .ok (.iadd, 1) := by decide +kernel
theorem dJ2_putCharsAt_cd4e5_3 : decode cJ2_putCharsAt_cd4e5 3 = .ok (.istore 6, 2) := by decide +kernel
theorem dJ2_putCharsAt_cd4e5_5 : decode cJ2_putCharsAt_cd4e5 5 = .ok (.iload_n 1, 1) := by decide +kernel
theorem dJ2_putCharsAt_cd4e5_6 : decode cJ2_putCharsAt_cd4e5 6 = .ok (.iload 6, 2) := by decide +kernel
theorem dJ2_putCharsAt_cd4e5_8 : decode cJ2_putCharsAt_cd4e5 8 = .ok (.aload_n 0, 1) := by decide +kernel
theorem dJ2_putCharsAt_cd4e5_9 : decode cJ2_putCharsAt_cd4e5 9 = .ok (.invokestatic 96, 3) := by decide +kernel
theorem dJ2_putCharsAt_cd4e5_12 : decode cJ2_putCharsAt_cd4e5 12 = .ok (.aload_n 0, 1) := by decide +kernel
theorem dJ2_putCharsAt_cd4e5_13 : decode cJ2_putCharsAt_cd4e5 13 = .ok (.iload_n 1, 1) := by decide +kernel
theorem dJ2_putCharsAt_cd4e5_14 : decode cJ2_putCharsAt_cd4e5 14 = .ok (.iinc 1 1, 3) := by decide +kernel
theorem dJ2_putCharsAt_cd4e5_17 : decode cJ2_putCharsAt_cd4e5 17 = .ok (.iload_n 2, 1) := by decide +kernel
theorem dJ2_putCharsAt_cd4e5_18 : decode cJ2_putCharsAt_cd4e5 18 = .ok (.invokestatic 111, 3) := by decide +kernel
theorem dJ2_putCharsAt_cd4e5_21 : decode cJ2_putCharsAt_cd4e5 21 = .ok (.aload_n 0, 1) := by decide +kernel
theorem dJ2_putCharsAt_cd4e5_22 : decode cJ2_putCharsAt_cd4e5 22 = .ok (.iload_n 1, 1) := by decide +kernel
theorem dJ2_putCharsAt_cd4e5_23 : decode cJ2_putCharsAt_cd4e5 23 = .ok (.iinc 1 1, 3) := by decide +kernel
theorem dJ2_putCharsAt_cd4e5_26 : decode cJ2_putCharsAt_cd4e5 26 = .ok (.iload_n 3, 1) := by decide +kernel
theorem dJ2_putCharsAt_cd4e5_27 : decode cJ2_putCharsAt_cd4e5 27 = .ok (.invokestatic 111, 3) := by decide +kernel
theorem dJ2_putCharsAt_cd4e5_30 : decode cJ2_putCharsAt_cd4e5 30 = .ok (.aload_n 0, 1) := by decide +kernel
theorem dJ2_putCharsAt_cd4e5_31 : decode cJ2_putCharsAt_cd4e5 31 = .ok (.iload_n 1, 1) := by decide +kernel
theorem dJ2_putCharsAt_cd4e5_32 : decode cJ2_putCharsAt_cd4e5 32 = .ok (.iinc 1 1, 3) := by decide +kernel
theorem dJ2_putCharsAt_cd4e5_35 : decode cJ2_putCharsAt_cd4e5 35 = .ok (.iload 4, 2) := by decide +kernel
theorem dJ2_putCharsAt_cd4e5_37 : decode cJ2_putCharsAt_cd4e5 37 = .ok (.invokestatic 111, 3) := by decide +kernel
theorem dJ2_putCharsAt_cd4e5_40 : decode cJ2_putCharsAt_cd4e5 40 = .ok (.aload_n 0, 1) := by decide +kernel
theorem dJ2_putCharsAt_cd4e5_41 : decode cJ2_putCharsAt_cd4e5 41 = .ok (.iload_n 1, 1) := by decide +kernel
theorem dJ2_putCharsAt_cd4e5_42 : decode cJ2_putCharsAt_cd4e5 42 = .ok (.iinc 1 1, 3) := by decide +kernel
theorem dJ2_putCharsAt_cd4e5_45 : decode cJ2_putCharsAt_cd4e5 45 = .ok (.iload 5, 2) := by decide +kernel
theorem dJ2_putCharsAt_cd4e5_47 : decode cJ2_putCharsAt_cd4e5 47 = .ok (.invokestatic 111, 3) := by decide +kernel
theorem dJ2_putCharsAt_cd4e5_50 : decode cJ2_putCharsAt_cd4e5 50 = .ok (.getstatic 44, 3) := by decide +kernel
theorem dJ2_putCharsAt_cd4e5_53 : decode cJ2_putCharsAt_cd4e5 53 = .ok (.ifCond .ne 17, 3) := by decide +kernel
theorem dJ2_putCharsAt_cd4e5_56 : decode cJ2_putCharsAt_cd4e5 56 = .ok (.iload_n 1, 1) := by decide +kernel
theorem dJ2_putCharsAt_cd4e5_57 : decode cJ2_putCharsAt_cd4e5 57 = .ok (.iload 6, 2) := by decide +kernel
theorem dJ2_putCharsAt_cd4e5_59 : decode cJ2_putCharsAt_cd4e5 59 = .ok (.if_icmp .eq 11, 3) := by decide +kernel
theorem dJ2_putCharsAt_cd4e5_62 : decode cJ2_putCharsAt_cd4e5 62 = .ok (.new 52, 3) := by decide +kernel
theorem dJ2_putCharsAt_cd4e5_65 : decode cJ2_putCharsAt_cd4e5 65 = .ok (.dup, 1) := by decide +kernel
theorem dJ2_putCharsAt_cd4e5_66 : decode cJ2_putCharsAt_cd4e5 66 = .ok (.invokespecial 66, 3) := by decide +kernel
theorem dJ2_putCharsAt_cd4e5_69 : decode cJ2_putCharsAt_cd4e5 69 = .ok (.athrow, 1) := by decide +kernel
theorem dJ2_putCharsAt_cd4e5_70 : decode cJ2_putCharsAt_cd4e5 70 = .ok (.iload 6, 2) := by decide +kernel
theorem dJ2_putCharsAt_cd4e5_72 : decode cJ2_putCharsAt_cd4e5 72 = .ok (.ireturn, 1) := by decide +kernel
theorem dJ2_charAt_3b067_0 : decode cJ2_charAt_3b067 0 = .ok (.iload_n 1, 1) := by decide +kernel
theorem dJ2_charAt_3b067_1 : decode cJ2_charAt_3b067 1 = .ok (.aload_n 0, 1) := by decide +kernel
theorem dJ2_charAt_3b067_2 : decode cJ2_charAt_3b067 2 = .ok (.invokestatic 67, 3) := by decide +kernel
theorem dJ2_charAt_3b067_5 : decode cJ2_charAt_3b067 5 = .ok (.aload_n 0, 1) := by decide +kernel
theorem dJ2_charAt_3b067_6 : decode cJ2_charAt_3b067 6 = .ok (.iload_n 1, 1) := by decide +kernel
theorem dJ2_charAt_3b067_7 : decode cJ2_charAt_3b067 7 = .ok (.invokestatic 71, 3) := by decide +kernel
theorem dJ2_charAt_3b067_10 : decode cJ2_charAt_3b067 10 = .ok (.ireturn, 1) := by decide +kernel
theorem dJ2_inflate_0e8fd_0 : decode cJ2_inflate_0e8fd 0 = .ok (.iload_n 3, 1) := by decide +kernel
theorem dJ2_inflate_0e8fd_1 : decode cJ2_inflate_0e8fd 1 = .ok (.iload 4, 2) := by decide +kernel
theorem dJ2_inflate_0e8fd_3 : decode cJ2_inflate_0e8fd 3 = .ok (.aload_n 2, 1) := by decide +kernel
theorem dJ2_inflate_0e8fd_4 : decode cJ2_inflate_0e8fd 4 = .ok (.invokestatic 173, 3) := by decide +kernel
theorem dJ2_inflate_0e8fd_7 : decode cJ2_inflate_0e8fd 7 = .ok (.iconst 0, 1) := by decide +kernel
theorem dJ2_inflate_0e8fd_8 : decode cJ2_inflate_0e8fd 8 = .ok (.istore 5, 2) := by decide +kernel
theorem dJ2_inflate_0e8fd_10 : decode cJ2_inflate_0e8fd 10 = .ok (.iload 5, 2) := by decide +kernel
theorem dJ2_inflate_0e8fd_12 : decode cJ2_inflate_0e8fd 12 = .ok (.iload 4, 2) := by decide +kernel
theorem dJ2_inflate_0e8fd_14 : decode cJ2_inflate_0e8fd 14 = .ok (.if_icmp .ge 27, 3) := by decide +kernel
theorem dJ2_inflate_0e8fd_17 : decode cJ2_inflate_0e8fd 17 = .ok (.aload_n 2, 1) := by decide +kernel
theorem dJ2_inflate_0e8fd_18 : decode cJ2_inflate_0e8fd 18 = .ok (.iload_n 3, 1) := by decide +kernel
theorem dJ2_inflate_0e8fd_19 : decode cJ2_inflate_0e8fd 19 = .ok (.iinc 3 1, 3) := by decide +kernel
theorem dJ2_inflate_0e8fd_22 : decode cJ2_inflate_0e8fd 22 = .ok (.aload_n 0, 1) := by decide +kernel
theorem dJ2_inflate_0e8fd_23 : decode cJ2_inflate_0e8fd 23 = .ok (.iload_n 1, 1) := by decide +kernel
theorem dJ2_inflate_0e8fd_24 : decode cJ2_inflate_0e8fd 24 = .ok (.iinc 1 1, 3) := by decide +kernel
theorem dJ2_inflate_0e8fd_27 : decode cJ2_inflate_0e8fd 27 = .ok (.baload, 1) := by decide +kernel
theorem dJ2_inflate_0e8fd_28 : decode cJ2_inflate_0e8fd 28 = .ok (.sipush 255, 3) := by decide +kernel
theorem dJ2_inflate_0e8fd_31 : decode cJ2_inflate_0e8fd 31 = .ok (.iand, 1) := by decide +kernel
theorem dJ2_inflate_0e8fd_32 : decode cJ2_inflate_0e8fd 32 = .ok (.invokestatic 111, 3) := by decide +kernel
theorem dJ2_inflate_0e8fd_35 : decode cJ2_inflate_0e8fd 35 = .ok (.iinc 5 1, 3) := by decide +kernel
theorem dJ2_inflate_0e8fd_38 : decode cJ2_inflate_0e8fd 38 = .ok (.goto (-28), 3) := by decide +kernel
theorem dJ2_inflate_0e8fd_41 : decode cJ2_inflate_0e8fd 41 = .ok (.return_, 1) := by decide +kernel
theorem dJ2_getChars_ba4f3_0 : decode cJ2_getChars_ba4f3 0 = .ok (.iload_n 1, 1) := by decide +kernel
theorem dJ2_getChars_ba4f3_1 : decode cJ2_getChars_ba4f3 1 = .ok (.istore 5, 2) := by decide +kernel
theorem dJ2_getChars_ba4f3_3 : decode cJ2_getChars_ba4f3 3 = .ok (.iload_n 0, 1) := by decide +kernel
theorem dJ2_getChars_ba4f3_4 : decode cJ2_getChars_ba4f3 4 = .ok (.ifCond .ge 7, 3) := by decide +kernel
theorem dJ2_getChars_ba4f3_7 : decode cJ2_getChars_ba4f3 7 = .ok (.iconst 1, 1) := by decide +kernel
theorem dJ2_getChars_ba4f3_8 : decode cJ2_getChars_ba4f3 8 = .ok (.goto 4, 3) := by decide +kernel
theorem dJ2_getChars_ba4f3_11 : decode cJ2_getChars_ba4f3 11 = .ok (.iconst 0, 1) := by decide +kernel
theorem dJ2_getChars_ba4f3_12 : decode cJ2_getChars_ba4f3 12 = .ok (.istore 6, 2) := by decide +kernel
theorem dJ2_getChars_ba4f3_14 : decode cJ2_getChars_ba4f3 14 = .ok (.iload 6, 2) := by decide +kernel
theorem dJ2_getChars_ba4f3_16 : decode cJ2_getChars_ba4f3 16 = .ok (.ifCond .ne 6, 3) := by decide +kernel
theorem dJ2_getChars_ba4f3_19 : decode cJ2_getChars_ba4f3 19 = .ok (.iload_n 0, 1) := by decide +kernel
theorem dJ2_getChars_ba4f3_20 : decode cJ2_getChars_ba4f3 20 = .ok (.ineg, 1) := by decide +kernel
theorem dJ2_getChars_ba4f3_21 : decode cJ2_getChars_ba4f3 21 = .ok (.istore_n 0, 1) := by decide +kernel
theorem dJ2_getChars_ba4f3_22 : decode cJ2_getChars_ba4f3 22 = .ok (.iload_n 0, 1) := by decide +kernel
theorem dJ2_getChars_ba4f3_23 : decode cJ2_getChars_ba4f3 23 = .ok (.bipush (-100), 2) := by decide +kernel
theorem dJ2_getChars_ba4f3_25 : decode cJ2_getChars_ba4f3 25 = .ok (.if_icmp .gt 51, 3) := by decide +kernel
theorem dJ2_getChars_ba4f3_28 : decode cJ2_getChars_ba4f3 28 = .ok (.iload_n 0, 1) := by decide +kernel
theorem dJ2_getChars_ba4f3_29 : decode cJ2_getChars_ba4f3 29 = .ok (.bipush 100, 2) := by decide +kernel
theorem dJ2_getChars_ba4f3_31 : decode cJ2_getChars_ba4f3 31 = .ok (.idiv, 1) := by decide +kernel
theorem dJ2_getChars_ba4f3_32 : decode cJ2_getChars_ba4f3 32 = .ok (.istore_n 3, 1) := by decide +kernel
theorem dJ2_getChars_ba4f3_33 : decode cJ2_getChars_ba4f3 33 = .ok (.iload_n 3, 1) := by decide +kernel
theorem dJ2_getChars_ba4f3_34 : decode cJ2_getChars_ba4f3 34 = .ok (.bipush 100, 2) := by decide +kernel
theorem dJ2_getChars_ba4f3_36 : decode cJ2_getChars_ba4f3 36 = .ok (.imul, 1) := by decide +kernel
theorem dJ2_getChars_ba4f3_37 : decode cJ2_getChars_ba4f3 37 = .ok (.iload_n 0, 1) := by decide +kernel
theorem dJ2_getChars_ba4f3_38 : decode cJ2_getChars_ba4f3 38 = .ok (.isub, 1) := by decide +kernel
theorem dJ2_getChars_ba4f3_39 : decode cJ2_getChars_ba4f3 39 = .ok (.istore 4, 2) := by decide +kernel
theorem dJ2_getChars_ba4f3_41 : decode cJ2_getChars_ba4f3 41 = .ok (.iload_n 3, 1) := by decide +kernel
theorem dJ2_getChars_ba4f3_42 : decode cJ2_getChars_ba4f3 42 = .ok (.istore_n 0, 1) := by decide +kernel
theorem dJ2_getChars_ba4f3_43 : decode cJ2_getChars_ba4f3 43 = .ok (.aload_n 2, 1) := by decide +kernel
theorem dJ2_getChars_ba4f3_44 : decode cJ2_getChars_ba4f3 44 = .ok (.iinc 5 (-1), 3) := by decide +kernel
theorem dJ2_getChars_ba4f3_47 : decode cJ2_getChars_ba4f3 47 = .ok (.iload 5, 2) := by decide +kernel
theorem dJ2_getChars_ba4f3_49 : decode cJ2_getChars_ba4f3 49 = .ok (.getstatic 403, 3) := by decide +kernel
theorem dJ2_getChars_ba4f3_52 : decode cJ2_getChars_ba4f3 52 = .ok (.iload 4, 2) := by decide +kernel
theorem dJ2_getChars_ba4f3_54 : decode cJ2_getChars_ba4f3 54 = .ok (.baload, 1) := by decide +kernel
theorem dJ2_getChars_ba4f3_55 : decode cJ2_getChars_ba4f3 55 = .ok (.invokestatic 111, 3) := by decide +kernel
theorem dJ2_getChars_ba4f3_58 : decode cJ2_getChars_ba4f3 58 = .ok (.aload_n 2, 1) := by decide +kernel
theorem dJ2_getChars_ba4f3_59 : decode cJ2_getChars_ba4f3 59 = .ok (.iinc 5 (-1), 3) := by decide +kernel
theorem dJ2_getChars_ba4f3_62 : decode cJ2_getChars_ba4f3 62 = .ok (.iload 5, 2) := by decide +kernel
theorem dJ2_getChars_ba4f3_64 : decode cJ2_getChars_ba4f3 64 = .ok (.getstatic 407, 3) := by decide +kernel
theorem dJ2_getChars_ba4f3_67 : decode cJ2_getChars_ba4f3 67 = .ok (.iload 4, 2) := by decide +kernel
theorem dJ2_getChars_ba4f3_69 : decode cJ2_getChars_ba4f3 69 = .ok (.baload, 1) := by decide +kernel
theorem dJ2_getChars_ba4f3_70 : decode cJ2_getChars_ba4f3 70 = .ok (.invokestatic 111, 3) := by decide +kernel
theorem dJ2_getChars_ba4f3_73 : decode cJ2_getChars_ba4f3 73 = .ok (.goto (-51), 3) := by decide +kernel
theorem dJ2_getChars_ba4f3_76 : decode cJ2_getChars_ba4f3 76 = .ok (.aload_n 2, 1) := by decide +kernel
theorem dJ2_getChars_ba4f3_77 : decode cJ2_getChars_ba4f3 77 = .ok (.iinc 5 (-1), 3) := by decide +kernel
theorem dJ2_getChars_ba4f3_80 : decode cJ2_getChars_ba4f3 80 = .ok (.iload 5, 2) := by decide +kernel
theorem dJ2_getChars_ba4f3_82 : decode cJ2_getChars_ba4f3 82 = .ok (.getstatic 403, 3) := by decide +kernel
theorem dJ2_getChars_ba4f3_85 : decode cJ2_getChars_ba4f3 85 = .ok (.iload_n 0, 1) := by decide +kernel
theorem dJ2_getChars_ba4f3_86 : decode cJ2_getChars_ba4f3 86 = .ok (.ineg, 1) := by decide +kernel
theorem dJ2_getChars_ba4f3_87 : decode cJ2_getChars_ba4f3 87 = .ok (.baload, 1) := by decide +kernel
theorem dJ2_getChars_ba4f3_88 : decode cJ2_getChars_ba4f3 88 = .ok (.invokestatic 111, 3) := by decide +kernel
theorem dJ2_getChars_ba4f3_91 : decode cJ2_getChars_ba4f3 91 = .ok (.iload_n 0, 1) := by decide +kernel
theorem dJ2_getChars_ba4f3_92 : decode cJ2_getChars_ba4f3 92 = .ok (.bipush (-9), 2) := by decide +kernel
theorem dJ2_getChars_ba4f3_94 : decode cJ2_getChars_ba4f3 94 = .ok (.if_icmp .ge 18, 3) := by decide +kernel
theorem dJ2_getChars_ba4f3_97 : decode cJ2_getChars_ba4f3 97 = .ok (.aload_n 2, 1) := by decide +kernel
theorem dJ2_getChars_ba4f3_98 : decode cJ2_getChars_ba4f3 98 = .ok (.iinc 5 (-1), 3) := by decide +kernel
theorem dJ2_getChars_ba4f3_101 : decode cJ2_getChars_ba4f3 101 = .ok (.iload 5, 2) := by decide +kernel
theorem dJ2_getChars_ba4f3_103 : decode cJ2_getChars_ba4f3 103 = .ok (.getstatic 407, 3) := by decide +kernel
theorem dJ2_getChars_ba4f3_106 : decode cJ2_getChars_ba4f3 106 = .ok (.iload_n 0, 1) := by decide +kernel
theorem dJ2_getChars_ba4f3_107 : decode cJ2_getChars_ba4f3 107 = .ok (.ineg, 1) := by decide +kernel
theorem dJ2_getChars_ba4f3_108 : decode cJ2_getChars_ba4f3 108 = .ok (.baload, 1) := by decide +kernel
theorem dJ2_getChars_ba4f3_109 : decode cJ2_getChars_ba4f3 109 = .ok (.invokestatic 111, 3) := by decide +kernel
theorem dJ2_getChars_ba4f3_112 : decode cJ2_getChars_ba4f3 112 = .ok (.iload 6, 2) := by decide +kernel
theorem dJ2_getChars_ba4f3_114 : decode cJ2_getChars_ba4f3 114 = .ok (.ifCond .eq 14, 3) := by decide +kernel
theorem dJ2_getChars_ba4f3_117 : decode cJ2_getChars_ba4f3 117 = .ok (.aload_n 2, 1) := by decide +kernel
theorem dJ2_getChars_ba4f3_118 : decode cJ2_getChars_ba4f3 118 = .ok (.iinc 5 (-1), 3) := by decide +kernel
theorem dJ2_getChars_ba4f3_121 : decode cJ2_getChars_ba4f3 121 = .ok (.iload 5, 2) := by decide +kernel
theorem dJ2_getChars_ba4f3_123 : decode cJ2_getChars_ba4f3 123 = .ok (.bipush 45, 2) := by decide +kernel
theorem dJ2_getChars_ba4f3_125 : decode cJ2_getChars_ba4f3 125 = .ok (.invokestatic 111, 3) := by decide +kernel
theorem dJ2_getChars_ba4f3_128 : decode cJ2_getChars_ba4f3 128 = .ok (.iload 5, 2) := by decide +kernel
theorem dJ2_getChars_ba4f3_130 : decode cJ2_getChars_ba4f3 130 = .ok (.ireturn, 1) := by decide +kernel
theorem dJ2_checkIndex_2214a_0 : decode cJ2_checkIndex_2214a 0 = .ok (.iload_n 0, 1) := by decide +kernel
theorem dJ2_checkIndex_2214a_1 : decode cJ2_checkIndex_2214a 1 = .ok (.aload_n 1, 1) := by decide +kernel
theorem dJ2_checkIndex_2214a_2 : decode cJ2_checkIndex_2214a 2 = .ok (.invokestatic 48, 3) := by decide +kernel
theorem dJ2_checkIndex_2214a_5 : decode cJ2_checkIndex_2214a 5 = .ok (.invokestatic 414, 3) := by decide +kernel
theorem dJ2_checkIndex_2214a_8 : decode cJ2_checkIndex_2214a 8 = .ok (.return_, 1) := by decide +kernel
theorem dJ2_checkBoundsBeginEnd_d044e_0 : decode cJ2_checkBoundsBeginEnd_d044e 0 = .ok (.iload_n 0, 1) := by decide +kernel
theorem dJ2_checkBoundsBeginEnd_d044e_1 : decode cJ2_checkBoundsBeginEnd_d044e 1 = .ok (.iload_n 1, 1) := by decide +kernel
theorem dJ2_checkBoundsBeginEnd_d044e_2 : decode cJ2_checkBoundsBeginEnd_d044e 2 = .ok (.aload_n 2, 1) := by decide +kernel
theorem dJ2_checkBoundsBeginEnd_d044e_3 : decode cJ2_checkBoundsBeginEnd_d044e 3 = .ok (.invokestatic 48, 3) := by decide +kernel
theorem dJ2_checkBoundsBeginEnd_d044e_6 : decode cJ2_checkBoundsBeginEnd_d044e 6 = .ok (.invokestatic 241, 3) := by decide +kernel
theorem dJ2_checkBoundsBeginEnd_d044e_9 : decode cJ2_checkBoundsBeginEnd_d044e 9 = .ok (.return_, 1) := by decide +kernel
theorem dJ2_checkBoundsOffCount_d044e_0 : decode cJ2_checkBoundsOffCount_d044e 0 = .ok (.iload_n 0, 1) := by decide +kernel
theorem dJ2_checkBoundsOffCount_d044e_1 : decode cJ2_checkBoundsOffCount_d044e 1 = .ok (.iload_n 1, 1) := by decide +kernel
theorem dJ2_checkBoundsOffCount_d044e_2 : decode cJ2_checkBoundsOffCount_d044e 2 = .ok (.aload_n 2, 1) := by decide +kernel
theorem dJ2_checkBoundsOffCount_d044e_3 : decode cJ2_checkBoundsOffCount_d044e 3 = .ok (.invokestatic 48, 3) := by decide +kernel
theorem dJ2_checkBoundsOffCount_d044e_6 : decode cJ2_checkBoundsOffCount_d044e 6 = .ok (.invokestatic 419, 3) := by decide +kernel
theorem dJ2_checkBoundsOffCount_d044e_9 : decode cJ2_checkBoundsOffCount_d044e 9 = .ok (.pop, 1) := by decide +kernel
theorem dJ2_checkBoundsOffCount_d044e_10 : decode cJ2_checkBoundsOffCount_d044e 10 = .ok (.return_, 1) := by decide +kernel
theorem dJ7_rangeCheck_23922_0 : decode cJ7_rangeCheck_23922 0 = .ok (.iload_n 1, 1) := by decide +kernel
theorem dJ7_rangeCheck_23922_1 : decode cJ7_rangeCheck_23922 1 = .ok (.iload_n 2, 1) := by decide +kernel
theorem dJ7_rangeCheck_23922_2 : decode cJ7_rangeCheck_23922 2 = .ok (.if_icmp .le 44, 3) := by decide +kernel
theorem dJ7_rangeCheck_23922_5 : decode cJ7_rangeCheck_23922 5 = .ok (.new 43, 3) := by decide +kernel
theorem dJ7_rangeCheck_23922_8 : decode cJ7_rangeCheck_23922 8 = .ok (.dup, 1) := by decide +kernel
theorem dJ7_rangeCheck_23922_9 : decode cJ7_rangeCheck_23922 9 = .ok (.new 45, 3) := by decide +kernel
theorem dJ7_rangeCheck_23922_12 : decode cJ7_rangeCheck_23922 12 = .ok (.dup, 1) := by decide +kernel
theorem dJ7_rangeCheck_23922_13 : decode cJ7_rangeCheck_23922 13 = .ok (.invokespecial 47, 3) := by decide +kernel
theorem dJ7_rangeCheck_23922_16 : decode cJ7_rangeCheck_23922 16 = .ok (.ldc 48, 2) := by decide +kernel
theorem dJ7_rangeCheck_23922_18 : decode cJ7_rangeCheck_23922 18 = .ok (.invokevirtual 50, 3) := by decide +kernel
theorem dJ7_rangeCheck_23922_21 : decode cJ7_rangeCheck_23922 21 = .ok (.iload_n 1, 1) := by decide +kernel
theorem dJ7_rangeCheck_23922_22 : decode cJ7_rangeCheck_23922 22 = .ok (.invokevirtual 54, 3) := by decide +kernel
theorem dJ7_rangeCheck_23922_25 : decode cJ7_rangeCheck_23922 25 = .ok (.ldc 57, 2) := by decide +kernel
theorem dJ7_rangeCheck_23922_27 : decode cJ7_rangeCheck_23922 27 = .ok (.invokevirtual 50, 3) := by decide +kernel
theorem dJ7_rangeCheck_23922_30 : decode cJ7_rangeCheck_23922 30 = .ok (.iload_n 2, 1) := by decide +kernel
theorem dJ7_rangeCheck_23922_31 : decode cJ7_rangeCheck_23922 31 = .ok (.invokevirtual 54, 3) := by decide +kernel
theorem dJ7_rangeCheck_23922_34 : decode cJ7_rangeCheck_23922 34 = .ok (.ldc 59, 2) := by decide +kernel
theorem dJ7_rangeCheck_23922_36 : decode cJ7_rangeCheck_23922 36 = .ok (.invokevirtual 50, 3) := by decide +kernel
theorem dJ7_rangeCheck_23922_39 : decode cJ7_rangeCheck_23922 39 = .ok (.invokevirtual 61, 3) := by decide +kernel
theorem dJ7_rangeCheck_23922_42 : decode cJ7_rangeCheck_23922 42 = .ok (.invokespecial 65, 3) := by decide +kernel
theorem dJ7_rangeCheck_23922_45 : decode cJ7_rangeCheck_23922 45 = .ok (.athrow, 1) := by decide +kernel
theorem dJ7_rangeCheck_23922_46 : decode cJ7_rangeCheck_23922 46 = .ok (.iload_n 1, 1) := by decide +kernel
theorem dJ7_rangeCheck_23922_47 : decode cJ7_rangeCheck_23922 47 = .ok (.ifCond .ge 12, 3) := by decide +kernel
theorem dJ7_rangeCheck_23922_50 : decode cJ7_rangeCheck_23922 50 = .ok (.new 68, 3) := by decide +kernel
theorem dJ7_rangeCheck_23922_53 : decode cJ7_rangeCheck_23922 53 = .ok (.dup, 1) := by decide +kernel
theorem dJ7_rangeCheck_23922_54 : decode cJ7_rangeCheck_23922 54 = .ok (.iload_n 1, 1) := by decide +kernel
theorem dJ7_rangeCheck_23922_55 : decode cJ7_rangeCheck_23922 55 = .ok (.invokespecial 70, 3) := by decide +kernel
theorem dJ7_rangeCheck_23922_58 : decode cJ7_rangeCheck_23922 58 = .ok (.athrow, 1) := by decide +kernel
theorem dJ7_rangeCheck_23922_59 : decode cJ7_rangeCheck_23922 59 = .ok (.iload_n 2, 1) := by decide +kernel
theorem dJ7_rangeCheck_23922_60 : decode cJ7_rangeCheck_23922 60 = .ok (.iload_n 0, 1) := by decide +kernel
theorem dJ7_rangeCheck_23922_61 : decode cJ7_rangeCheck_23922 61 = .ok (.if_icmp .le 12, 3) := by decide +kernel
theorem dJ7_rangeCheck_23922_64 : decode cJ7_rangeCheck_23922 64 = .ok (.new 68, 3) := by decide +kernel
theorem dJ7_rangeCheck_23922_67 : decode cJ7_rangeCheck_23922 67 = .ok (.dup, 1) := by decide +kernel
theorem dJ7_rangeCheck_23922_68 : decode cJ7_rangeCheck_23922 68 = .ok (.iload_n 2, 1) := by decide +kernel
theorem dJ7_rangeCheck_23922_69 : decode cJ7_rangeCheck_23922 69 = .ok (.invokespecial 70, 3) := by decide +kernel
theorem dJ7_rangeCheck_23922_72 : decode cJ7_rangeCheck_23922 72 = .ok (.athrow, 1) := by decide +kernel
theorem dJ7_rangeCheck_23922_73 : decode cJ7_rangeCheck_23922 73 = .ok (.return_, 1) := by decide +kernel
theorem dJ7_fill_eb02e_0 : decode cJ7_fill_eb02e 0 = .ok (.aload_n 0, 1) := by decide +kernel
theorem dJ7_fill_eb02e_1 : decode cJ7_fill_eb02e 1 = .ok (.arraylength, 1) := by decide +kernel
theorem dJ7_fill_eb02e_2 : decode cJ7_fill_eb02e 2 = .ok (.iload_n 1, 1) := by decide +kernel
theorem dJ7_fill_eb02e_3 : decode cJ7_fill_eb02e 3 = .ok (.iload_n 2, 1) := by decide +kernel
theorem dJ7_fill_eb02e_4 : decode cJ7_fill_eb02e 4 = .ok (.invokestatic 13, 3) := by decide +kernel
theorem dJ7_fill_eb02e_7 : decode cJ7_fill_eb02e 7 = .ok (.iload_n 1, 1) := by decide +kernel
theorem dJ7_fill_eb02e_8 : decode cJ7_fill_eb02e 8 = .ok (.istore 4, 2) := by decide +kernel
theorem dJ7_fill_eb02e_10 : decode cJ7_fill_eb02e 10 = .ok (.iload 4, 2) := by decide +kernel
theorem dJ7_fill_eb02e_12 : decode cJ7_fill_eb02e 12 = .ok (.iload_n 2, 1) := by decide +kernel
theorem dJ7_fill_eb02e_13 : decode cJ7_fill_eb02e 13 = .ok (.if_icmp .ge 14, 3) := by decide +kernel
theorem dJ7_fill_eb02e_16 : decode cJ7_fill_eb02e 16 = .ok (.aload_n 0, 1) := by decide +kernel
theorem dJ7_fill_eb02e_17 : decode cJ7_fill_eb02e 17 = .ok (.iload 4, 2) := by decide +kernel
theorem dJ7_fill_eb02e_19 : decode cJ7_fill_eb02e 19 = .ok (.iload_n 3, 1) := by decide +kernel
theorem dJ7_fill_eb02e_20 : decode cJ7_fill_eb02e 20 = .ok (.bastore, 1) := by decide +kernel
theorem dJ7_fill_eb02e_21 : decode cJ7_fill_eb02e 21 = .ok (.iinc 4 1, 3) := by decide +kernel
theorem dJ7_fill_eb02e_24 : decode cJ7_fill_eb02e 24 = .ok (.goto (-14), 3) := by decide +kernel
theorem dJ7_fill_eb02e_27 : decode cJ7_fill_eb02e 27 = .ok (.return_, 1) := by decide +kernel
theorem dJ7_copyOf_9075b_0 : decode cJ7_copyOf_9075b 0 = .ok (.iload_n 1, 1) := by decide +kernel
theorem dJ7_copyOf_9075b_1 : decode cJ7_copyOf_9075b 1 = .ok (.aload_n 0, 1) := by decide +kernel
theorem dJ7_copyOf_9075b_2 : decode cJ7_copyOf_9075b 2 = .ok (.arraylength, 1) := by decide +kernel
theorem dJ7_copyOf_9075b_3 : decode cJ7_copyOf_9075b 3 = .ok (.if_icmp .ne 11, 3) := by decide +kernel
theorem dJ7_copyOf_9075b_6 : decode cJ7_copyOf_9075b 6 = .ok (.aload_n 0, 1) := by decide +kernel
theorem dJ7_copyOf_9075b_7 : decode cJ7_copyOf_9075b 7 = .ok (.invokevirtual 310, 3) := by decide +kernel
theorem dJ7_copyOf_9075b_10 : decode cJ7_copyOf_9075b 10 = .ok (.checkcast 311, 3) := by decide +kernel
theorem dJ7_copyOf_9075b_13 : decode cJ7_copyOf_9075b 13 = .ok (.areturn, 1) := by decide +kernel
theorem dJ7_copyOf_9075b_14 : decode cJ7_copyOf_9075b 14 = .ok (.iload_n 1, 1) := by decide +kernel
theorem dJ7_copyOf_9075b_15 : decode cJ7_copyOf_9075b 15 = .ok (.newarray .byte, 2) := by decide +kernel
theorem dJ7_copyOf_9075b_17 : decode cJ7_copyOf_9075b 17 = .ok (.astore_n 2, 1) := by decide +kernel
theorem dJ7_copyOf_9075b_18 : decode cJ7_copyOf_9075b 18 = .ok (.aload_n 0, 1) := by decide +kernel
theorem dJ7_copyOf_9075b_19 : decode cJ7_copyOf_9075b 19 = .ok (.iconst 0, 1) := by decide +kernel
theorem dJ7_copyOf_9075b_20 : decode cJ7_copyOf_9075b 20 = .ok (.aload_n 2, 1) := by decide +kernel
theorem dJ7_copyOf_9075b_21 : decode cJ7_copyOf_9075b 21 = .ok (.iconst 0, 1) := by decide +kernel
theorem dJ7_copyOf_9075b_22 : decode cJ7_copyOf_9075b 22 = .ok (.aload_n 0, 1) := by decide +kernel
theorem dJ7_copyOf_9075b_23 : decode cJ7_copyOf_9075b 23 = .ok (.arraylength, 1) := by decide +kernel
theorem dJ7_copyOf_9075b_24 : decode cJ7_copyOf_9075b 24 = .ok (.iload_n 1, 1) := by decide +kernel
theorem dJ7_copyOf_9075b_25 : decode cJ7_copyOf_9075b 25 = .ok (.invokestatic 304, 3) := by decide +kernel
theorem dJ7_copyOf_9075b_28 : decode cJ7_copyOf_9075b 28 = .ok (.invokestatic 150, 3) := by decide +kernel
theorem dJ7_copyOf_9075b_31 : decode cJ7_copyOf_9075b 31 = .ok (.aload_n 2, 1) := by decide +kernel
theorem dJ7_copyOf_9075b_32 : decode cJ7_copyOf_9075b 32 = .ok (.areturn, 1) := by decide +kernel
theorem dJ7_checkLength_df160_0 : decode cJ7_checkLength_df160 0 = .ok (.iload_n 1, 1) := by decide +kernel
theorem dJ7_checkLength_df160_1 : decode cJ7_checkLength_df160 1 = .ok (.iload_n 0, 1) := by decide +kernel
theorem dJ7_checkLength_df160_2 : decode cJ7_checkLength_df160 2 = .ok (.if_icmp .ge 35, 3) := by decide +kernel
theorem dJ7_checkLength_df160_5 : decode cJ7_checkLength_df160 5 = .ok (.new 43, 3) := by decide +kernel
theorem dJ7_checkLength_df160_8 : decode cJ7_checkLength_df160 8 = .ok (.dup, 1) := by decide +kernel
theorem dJ7_checkLength_df160_9 : decode cJ7_checkLength_df160 9 = .ok (.new 45, 3) := by decide +kernel
theorem dJ7_checkLength_df160_12 : decode cJ7_checkLength_df160 12 = .ok (.dup, 1) := by decide +kernel
theorem dJ7_checkLength_df160_13 : decode cJ7_checkLength_df160 13 = .ok (.invokespecial 47, 3) := by decide +kernel
theorem dJ7_checkLength_df160_16 : decode cJ7_checkLength_df160 16 = .ok (.iload_n 0, 1) := by decide +kernel
theorem dJ7_checkLength_df160_17 : decode cJ7_checkLength_df160 17 = .ok (.invokevirtual 54, 3) := by decide +kernel
theorem dJ7_checkLength_df160_20 : decode cJ7_checkLength_df160 20 = .ok (.ldc_w 337, 3) := by decide +kernel
theorem dJ7_checkLength_df160_23 : decode cJ7_checkLength_df160 23 = .ok (.invokevirtual 50, 3) := by decide +kernel
theorem dJ7_checkLength_df160_26 : decode cJ7_checkLength_df160 26 = .ok (.iload_n 1, 1) := by decide +kernel
theorem dJ7_checkLength_df160_27 : decode cJ7_checkLength_df160 27 = .ok (.invokevirtual 54, 3) := by decide +kernel
theorem dJ7_checkLength_df160_30 : decode cJ7_checkLength_df160 30 = .ok (.invokevirtual 61, 3) := by decide +kernel
theorem dJ7_checkLength_df160_33 : decode cJ7_checkLength_df160 33 = .ok (.invokespecial 65, 3) := by decide +kernel
theorem dJ7_checkLength_df160_36 : decode cJ7_checkLength_df160 36 = .ok (.athrow, 1) := by decide +kernel
theorem dJ7_checkLength_df160_37 : decode cJ7_checkLength_df160 37 = .ok (.return_, 1) := by decide +kernel
theorem dJ7_copyOfRange_39247_0 : decode cJ7_copyOfRange_39247 0 = .ok (.iload_n 1, 1) := by decide +kernel
theorem dJ7_copyOfRange_39247_1 : decode cJ7_copyOfRange_39247 1 = .ok (.ifCond .ne 9, 3) := by decide +kernel
theorem dJ7_copyOfRange_39247_4 : decode cJ7_copyOfRange_39247 4 = .ok (.iload_n 2, 1) := by decide +kernel
theorem dJ7_copyOfRange_39247_5 : decode cJ7_copyOfRange_39247 5 = .ok (.aload_n 0, 1) := by decide +kernel
theorem dJ7_copyOfRange_39247_6 : decode cJ7_copyOfRange_39247 6 = .ok (.arraylength, 1) := by decide +kernel
theorem dJ7_copyOfRange_39247_7 : decode cJ7_copyOfRange_39247 7 = .ok (.if_icmp .eq 10, 3) := by decide +kernel
theorem dJ7_copyOfRange_39247_10 : decode cJ7_copyOfRange_39247 10 = .ok (.aload_n 0, 1) := by decide +kernel
theorem dJ7_copyOfRange_39247_11 : decode cJ7_copyOfRange_39247 11 = .ok (.iload_n 1, 1) := by decide +kernel
theorem dJ7_copyOfRange_39247_12 : decode cJ7_copyOfRange_39247 12 = .ok (.iload_n 2, 1) := by decide +kernel
theorem dJ7_copyOfRange_39247_13 : decode cJ7_copyOfRange_39247 13 = .ok (.invokestatic 339, 3) := by decide +kernel
theorem dJ7_copyOfRange_39247_16 : decode cJ7_copyOfRange_39247 16 = .ok (.areturn, 1) := by decide +kernel
theorem dJ7_copyOfRange_39247_17 : decode cJ7_copyOfRange_39247 17 = .ok (.aload_n 0, 1) := by decide +kernel
theorem dJ7_copyOfRange_39247_18 : decode cJ7_copyOfRange_39247 18 = .ok (.invokevirtual 310, 3) := by decide +kernel
theorem dJ7_copyOfRange_39247_21 : decode cJ7_copyOfRange_39247 21 = .ok (.checkcast 311, 3) := by decide +kernel
theorem dJ7_copyOfRange_39247_24 : decode cJ7_copyOfRange_39247 24 = .ok (.areturn, 1) := by decide +kernel
theorem dJ7_copyOfRangeByte_39247_0 : decode cJ7_copyOfRangeByte_39247 0 = .ok (.iload_n 1, 1) := by decide +kernel
theorem dJ7_copyOfRangeByte_39247_1 : decode cJ7_copyOfRangeByte_39247 1 = .ok (.iload_n 2, 1) := by decide +kernel
theorem dJ7_copyOfRangeByte_39247_2 : decode cJ7_copyOfRangeByte_39247 2 = .ok (.invokestatic 343, 3) := by decide +kernel
theorem dJ7_copyOfRangeByte_39247_5 : decode cJ7_copyOfRangeByte_39247 5 = .ok (.iload_n 2, 1) := by decide +kernel
theorem dJ7_copyOfRangeByte_39247_6 : decode cJ7_copyOfRangeByte_39247 6 = .ok (.iload_n 1, 1) := by decide +kernel
theorem dJ7_copyOfRangeByte_39247_7 : decode cJ7_copyOfRangeByte_39247 7 = .ok (.isub, 1) := by decide +kernel
theorem dJ7_copyOfRangeByte_39247_8 : decode cJ7_copyOfRangeByte_39247 8 = .ok (.istore_n 3, 1) := by decide +kernel
theorem dJ7_copyOfRangeByte_39247_9 : decode cJ7_copyOfRangeByte_39247 9 = .ok (.iload_n 3, 1) := by decide +kernel
theorem dJ7_copyOfRangeByte_39247_10 : decode cJ7_copyOfRangeByte_39247 10 = .ok (.newarray .byte, 2) := by decide +kernel
theorem dJ7_copyOfRangeByte_39247_12 : decode cJ7_copyOfRangeByte_39247 12 = .ok (.astore 4, 2) := by decide +kernel
theorem dJ7_copyOfRangeByte_39247_14 : decode cJ7_copyOfRangeByte_39247 14 = .ok (.aload_n 0, 1) := by decide +kernel
theorem dJ7_copyOfRangeByte_39247_15 : decode cJ7_copyOfRangeByte_39247 15 = .ok (.iload_n 1, 1) := by decide +kernel
theorem dJ7_copyOfRangeByte_39247_16 : decode cJ7_copyOfRangeByte_39247 16 = .ok (.aload 4, 2) := by decide +kernel
theorem dJ7_copyOfRangeByte_39247_18 : decode cJ7_copyOfRangeByte_39247 18 = .ok (.iconst 0, 1) := by decide +kernel
theorem dJ7_copyOfRangeByte_39247_19 : decode cJ7_copyOfRangeByte_39247 19 = .ok (.aload_n 0, 1) := by decide +kernel
theorem dJ7_copyOfRangeByte_39247_20 : decode cJ7_copyOfRangeByte_39247 20 = .ok (.arraylength, 1) := by decide +kernel
theorem dJ7_copyOfRangeByte_39247_21 : decode cJ7_copyOfRangeByte_39247 21 = .ok (.iload_n 1, 1) := by decide +kernel
theorem dJ7_copyOfRangeByte_39247_22 : decode cJ7_copyOfRangeByte_39247 22 = .ok (.isub, 1) := by decide +kernel
theorem dJ7_copyOfRangeByte_39247_23 : decode cJ7_copyOfRangeByte_39247 23 = .ok (.iload_n 3, 1) := by decide +kernel
theorem dJ7_copyOfRangeByte_39247_24 : decode cJ7_copyOfRangeByte_39247 24 = .ok (.invokestatic 304, 3) := by decide +kernel
theorem dJ7_copyOfRangeByte_39247_27 : decode cJ7_copyOfRangeByte_39247 27 = .ok (.invokestatic 150, 3) := by decide +kernel
theorem dJ7_copyOfRangeByte_39247_30 : decode cJ7_copyOfRangeByte_39247 30 = .ok (.aload 4, 2) := by decide +kernel
theorem dJ7_copyOfRangeByte_39247_32 : decode cJ7_copyOfRangeByte_39247 32 = .ok (.areturn, 1) := by decide +kernel
theorem dJ8_newLength_cabcc_0 : decode cJ8_newLength_cabcc 0 = .ok (.iload_n 0, 1) := by decide +kernel
theorem dJ8_newLength_cabcc_1 : decode cJ8_newLength_cabcc 1 = .ok (.iload_n 1, 1) := by decide +kernel
theorem dJ8_newLength_cabcc_2 : decode cJ8_newLength_cabcc 2 = .ok (.iload_n 2, 1) := by decide +kernel
theorem dJ8_newLength_cabcc_3 : decode cJ8_newLength_cabcc 3 = .ok (.invokestatic 194, 3) := by decide +kernel
theorem dJ8_newLength_cabcc_6 : decode cJ8_newLength_cabcc 6 = .ok (.iadd, 1) := by decide +kernel
theorem dJ8_newLength_cabcc_7 : decode cJ8_newLength_cabcc 7 = .ok (.istore_n 3, 1) := by decide +kernel
theorem dJ8_newLength_cabcc_8 : decode cJ8_newLength_cabcc 8 = .ok (.iconst 0, 1) := by decide +kernel
theorem dJ8_newLength_cabcc_9 : decode cJ8_newLength_cabcc 9 = .ok (.iload_n 3, 1) := by decide +kernel
theorem dJ8_newLength_cabcc_10 : decode cJ8_newLength_cabcc 10 = .ok (.if_icmp .ge 11, 3) := by decide +kernel
theorem dJ8_newLength_cabcc_13 : decode cJ8_newLength_cabcc 13 = .ok (.iload_n 3, 1) := by decide +kernel
theorem dJ8_newLength_cabcc_14 : decode cJ8_newLength_cabcc 14 = .ok (.ldc 200, 2) := by decide +kernel
theorem dJ8_newLength_cabcc_16 : decode cJ8_newLength_cabcc 16 = .ok (.if_icmp .gt 5, 3) := by decide +kernel
theorem dJ8_newLength_cabcc_19 : decode cJ8_newLength_cabcc 19 = .ok (.iload_n 3, 1) := by decide +kernel
theorem dJ8_newLength_cabcc_20 : decode cJ8_newLength_cabcc 20 = .ok (.ireturn, 1) := by decide +kernel
theorem dJ8_newLength_cabcc_21 : decode cJ8_newLength_cabcc 21 = .ok (.iload_n 0, 1) := by decide +kernel
theorem dJ8_newLength_cabcc_22 : decode cJ8_newLength_cabcc 22 = .ok (.iload_n 1, 1) := by decide +kernel
theorem dJ8_newLength_cabcc_23 : decode cJ8_newLength_cabcc 23 = .ok (.invokestatic 201, 3) := by decide +kernel
theorem dJ8_newLength_cabcc_26 : decode cJ8_newLength_cabcc 26 = .ok (.ireturn, 1) := by decide +kernel
theorem dJ8_hugeLength_7cf53_0 : decode cJ8_hugeLength_7cf53 0 = .ok (.iload_n 0, 1) := by decide +kernel
theorem dJ8_hugeLength_7cf53_1 : decode cJ8_hugeLength_7cf53 1 = .ok (.iload_n 1, 1) := by decide +kernel
theorem dJ8_hugeLength_7cf53_2 : decode cJ8_hugeLength_7cf53 2 = .ok (.iadd, 1) := by decide +kernel
theorem dJ8_hugeLength_7cf53_3 : decode cJ8_hugeLength_7cf53 3 = .ok (.istore_n 2, 1) := by decide +kernel
theorem dJ8_hugeLength_7cf53_4 : decode cJ8_hugeLength_7cf53 4 = .ok (.iload_n 2, 1) := by decide +kernel
theorem dJ8_hugeLength_7cf53_5 : decode cJ8_hugeLength_7cf53 5 = .ok (.ifCond .ge 44, 3) := by decide +kernel
theorem dJ8_hugeLength_7cf53_8 : decode cJ8_hugeLength_7cf53 8 = .ok (.new 204, 3) := by decide +kernel
theorem dJ8_hugeLength_7cf53_11 : decode cJ8_hugeLength_7cf53 11 = .ok (.dup, 1) := by decide +kernel
theorem dJ8_hugeLength_7cf53_12 : decode cJ8_hugeLength_7cf53 12 = .ok (.new 89, 3) := by decide +kernel
theorem dJ8_hugeLength_7cf53_15 : decode cJ8_hugeLength_7cf53 15 = .ok (.dup, 1) := by decide +kernel
theorem dJ8_hugeLength_7cf53_16 : decode cJ8_hugeLength_7cf53 16 = .ok (.invokespecial 91, 3) := by decide +kernel
theorem dJ8_hugeLength_7cf53_19 : decode cJ8_hugeLength_7cf53 19 = .ok (.ldc 206, 2) := by decide +kernel
theorem dJ8_hugeLength_7cf53_21 : decode cJ8_hugeLength_7cf53 21 = .ok (.invokevirtual 94, 3) := by decide +kernel
theorem dJ8_hugeLength_7cf53_24 : decode cJ8_hugeLength_7cf53 24 = .ok (.iload_n 0, 1) := by decide +kernel
theorem dJ8_hugeLength_7cf53_25 : decode cJ8_hugeLength_7cf53 25 = .ok (.invokevirtual 98, 3) := by decide +kernel
theorem dJ8_hugeLength_7cf53_28 : decode cJ8_hugeLength_7cf53 28 = .ok (.ldc 208, 2) := by decide +kernel
theorem dJ8_hugeLength_7cf53_30 : decode cJ8_hugeLength_7cf53 30 = .ok (.invokevirtual 94, 3) := by decide +kernel
theorem dJ8_hugeLength_7cf53_33 : decode cJ8_hugeLength_7cf53 33 = .ok (.iload_n 1, 1) := by decide +kernel
theorem dJ8_hugeLength_7cf53_34 : decode cJ8_hugeLength_7cf53 34 = .ok (.invokevirtual 98, 3) := by decide +kernel
theorem dJ8_hugeLength_7cf53_37 : decode cJ8_hugeLength_7cf53 37 = .ok (.ldc 210, 2) := by decide +kernel
theorem dJ8_hugeLength_7cf53_39 : decode cJ8_hugeLength_7cf53 39 = .ok (.invokevirtual 94, 3) := by decide +kernel
theorem dJ8_hugeLength_7cf53_42 : decode cJ8_hugeLength_7cf53 42 = .ok (.invokevirtual 101, 3) := by decide +kernel
theorem dJ8_hugeLength_7cf53_45 : decode cJ8_hugeLength_7cf53 45 = .ok (.invokespecial 212, 3) := by decide +kernel
theorem dJ8_hugeLength_7cf53_48 : decode cJ8_hugeLength_7cf53 48 = .ok (.athrow, 1) := by decide +kernel
theorem dJ8_hugeLength_7cf53_49 : decode cJ8_hugeLength_7cf53 49 = .ok (.iload_n 2, 1) := by decide +kernel
theorem dJ8_hugeLength_7cf53_50 : decode cJ8_hugeLength_7cf53 50 = .ok (.ldc 200, 2) := by decide +kernel
theorem dJ8_hugeLength_7cf53_52 : decode cJ8_hugeLength_7cf53 52 = .ok (.if_icmp .gt 6, 3) := by decide +kernel
theorem dJ8_hugeLength_7cf53_55 : decode cJ8_hugeLength_7cf53 55 = .ok (.ldc 200, 2) := by decide +kernel
theorem dJ8_hugeLength_7cf53_57 : decode cJ8_hugeLength_7cf53 57 = .ok (.ireturn, 1) := by decide +kernel
theorem dJ8_hugeLength_7cf53_58 : decode cJ8_hugeLength_7cf53 58 = .ok (.iload_n 2, 1) := by decide +kernel
theorem dJ8_hugeLength_7cf53_59 : decode cJ8_hugeLength_7cf53 59 = .ok (.ireturn, 1) := by decide +kernel
theorem dJ3_checkIndex_8e157_0 : decode cJ3_checkIndex_8e157 0 = .ok (.iload_n 0, 1) := by decide +kernel
theorem dJ3_checkIndex_8e157_1 : decode cJ3_checkIndex_8e157 1 = .ok (.ifCond .lt 8, 3) := by decide +kernel
theorem dJ3_checkIndex_8e157_4 : decode cJ3_checkIndex_8e157 4 = .ok (.iload_n 0, 1) := by decide +kernel
theorem dJ3_checkIndex_8e157_5 : decode cJ3_checkIndex_8e157 5 = .ok (.iload_n 1, 1) := by decide +kernel
theorem dJ3_checkIndex_8e157_6 : decode cJ3_checkIndex_8e157 6 = .ok (.if_icmp .lt 10, 3) := by decide +kernel
theorem dJ3_checkIndex_8e157_9 : decode cJ3_checkIndex_8e157 9 = .ok (.aload_n 2, 1) := by decide +kernel
theorem dJ3_checkIndex_8e157_10 : decode cJ3_checkIndex_8e157 10 = .ok (.iload_n 0, 1) := by decide +kernel
theorem dJ3_checkIndex_8e157_11 : decode cJ3_checkIndex_8e157 11 = .ok (.iload_n 1, 1) := by decide +kernel
theorem dJ3_checkIndex_8e157_12 : decode cJ3_checkIndex_8e157 12 = .ok (.invokestatic 95, 3) := by decide +kernel
theorem dJ3_checkIndex_8e157_15 : decode cJ3_checkIndex_8e157 15 = .ok (.athrow, 1) := by decide +kernel
theorem dJ3_checkIndex_8e157_16 : decode cJ3_checkIndex_8e157 16 = .ok (.iload_n 0, 1) := by decide +kernel
theorem dJ3_checkIndex_8e157_17 : decode cJ3_checkIndex_8e157 17 = .ok (.ireturn, 1) := by decide +kernel
theorem dJ3_checkFromToIndex_8c36e_0 : decode cJ3_checkFromToIndex_8c36e 0 = .ok (.iload_n 0, 1) := by decide +kernel
theorem dJ3_checkFromToIndex_8c36e_1 : decode cJ3_checkFromToIndex_8c36e 1 = .ok (.ifCond .lt 13, 3) := by decide +kernel
theorem dJ3_checkFromToIndex_8c36e_4 : decode cJ3_checkFromToIndex_8c36e 4 = .ok (.iload_n 0, 1) := by decide +kernel
theorem dJ3_checkFromToIndex_8c36e_5 : decode cJ3_checkFromToIndex_8c36e 5 = .ok (.iload_n 1, 1) := by decide +kernel
theorem dJ3_checkFromToIndex_8c36e_6 : decode cJ3_checkFromToIndex_8c36e 6 = .ok (.if_icmp .gt 8, 3) := by decide +kernel
theorem dJ3_checkFromToIndex_8c36e_9 : decode cJ3_checkFromToIndex_8c36e 9 = .ok (.iload_n 1, 1) := by decide +kernel
theorem dJ3_checkFromToIndex_8c36e_10 : decode cJ3_checkFromToIndex_8c36e 10 = .ok (.iload_n 2, 1) := by decide +kernel
theorem dJ3_checkFromToIndex_8c36e_11 : decode cJ3_checkFromToIndex_8c36e 11 = .ok (.if_icmp .le 11, 3) := by decide +kernel
theorem dJ3_checkFromToIndex_8c36e_14 : decode cJ3_checkFromToIndex_8c36e 14 = .ok (.aload_n 3, 1) := by decide +kernel
theorem dJ3_checkFromToIndex_8c36e_15 : decode cJ3_checkFromToIndex_8c36e 15 = .ok (.iload_n 0, 1) := by decide +kernel
theorem dJ3_checkFromToIndex_8c36e_16 : decode cJ3_checkFromToIndex_8c36e 16 = .ok (.iload_n 1, 1) := by decide +kernel
theorem dJ3_checkFromToIndex_8c36e_17 : decode cJ3_checkFromToIndex_8c36e 17 = .ok (.iload_n 2, 1) := by decide +kernel
theorem dJ3_checkFromToIndex_8c36e_18 : decode cJ3_checkFromToIndex_8c36e 18 = .ok (.invokestatic 99, 3) := by decide +kernel
theorem dJ3_checkFromToIndex_8c36e_21 : decode cJ3_checkFromToIndex_8c36e 21 = .ok (.athrow, 1) := by decide +kernel
theorem dJ3_checkFromToIndex_8c36e_22 : decode cJ3_checkFromToIndex_8c36e 22 = .ok (.iload_n 0, 1) := by decide +kernel
theorem dJ3_checkFromToIndex_8c36e_23 : decode cJ3_checkFromToIndex_8c36e 23 = .ok (.ireturn, 1) := by decide +kernel
theorem dJ3_checkFromIndexSize_8c36e_0 : decode cJ3_checkFromIndexSize_8c36e 0 = .ok (.iload_n 2, 1) := by decide +kernel
theorem dJ3_checkFromIndexSize_8c36e_1 : decode cJ3_checkFromIndexSize_8c36e 1 = .ok (.iload_n 0, 1) := by decide +kernel
theorem dJ3_checkFromIndexSize_8c36e_2 : decode cJ3_checkFromIndexSize_8c36e 2 = .ok (.ior, 1) := by decide +kernel
theorem dJ3_checkFromIndexSize_8c36e_3 : decode cJ3_checkFromIndexSize_8c36e 3 = .ok (.iload_n 1, 1) := by decide +kernel
theorem dJ3_checkFromIndexSize_8c36e_4 : decode cJ3_checkFromIndexSize_8c36e 4 = .ok (.ior, 1) := by decide +kernel
theorem dJ3_checkFromIndexSize_8c36e_5 : decode cJ3_checkFromIndexSize_8c36e 5 = .ok (.ifCond .lt 10, 3) := by decide +kernel
theorem dJ3_checkFromIndexSize_8c36e_8 : decode cJ3_checkFromIndexSize_8c36e 8 = .ok (.iload_n 1, 1) := by decide +kernel
theorem dJ3_checkFromIndexSize_8c36e_9 : decode cJ3_checkFromIndexSize_8c36e 9 = .ok (.iload_n 2, 1) := by decide +kernel
theorem dJ3_checkFromIndexSize_8c36e_10 : decode cJ3_checkFromIndexSize_8c36e 10 = .ok (.iload_n 0, 1) := by decide +kernel
theorem dJ3_checkFromIndexSize_8c36e_11 : decode cJ3_checkFromIndexSize_8c36e 11 = .ok (.isub, 1) := by decide +kernel
theorem dJ3_checkFromIndexSize_8c36e_12 : decode cJ3_checkFromIndexSize_8c36e 12 = .ok (.if_icmp .le 11, 3) := by decide +kernel
theorem dJ3_checkFromIndexSize_8c36e_15 : decode cJ3_checkFromIndexSize_8c36e 15 = .ok (.aload_n 3, 1) := by decide +kernel
theorem dJ3_checkFromIndexSize_8c36e_16 : decode cJ3_checkFromIndexSize_8c36e 16 = .ok (.iload_n 0, 1) := by decide +kernel
theorem dJ3_checkFromIndexSize_8c36e_17 : decode cJ3_checkFromIndexSize_8c36e 17 = .ok (.iload_n 1, 1) := by decide +kernel
theorem dJ3_checkFromIndexSize_8c36e_18 : decode cJ3_checkFromIndexSize_8c36e 18 = .ok (.iload_n 2, 1) := by decide +kernel
theorem dJ3_checkFromIndexSize_8c36e_19 : decode cJ3_checkFromIndexSize_8c36e 19 = .ok (.invokestatic 103, 3) := by decide +kernel
theorem dJ3_checkFromIndexSize_8c36e_22 : decode cJ3_checkFromIndexSize_8c36e 22 = .ok (.athrow, 1) := by decide +kernel
theorem dJ3_checkFromIndexSize_8c36e_23 : decode cJ3_checkFromIndexSize_8c36e 23 = .ok (.iload_n 0, 1) := by decide +kernel
theorem dJ3_checkFromIndexSize_8c36e_24 : decode cJ3_checkFromIndexSize_8c36e 24 = .ok (.ireturn, 1) := by decide +kernel
theorem dL_addFrog_0 : decode cL_addFrog 0 = .ok (.aload_n 3, 1) := by decide +kernel
theorem dL_addFrog_1 : decode cL_addFrog 1 = .ok (.iconst 0, 1) := by decide +kernel
theorem dL_addFrog_2 : decode cL_addFrog 2 = .ok (.aload_n 0, 1) := by decide +kernel
theorem dL_addFrog_3 : decode cL_addFrog 3 = .ok (.iload_n 1, 1) := by decide +kernel
theorem dL_addFrog_4 : decode cL_addFrog 4 = .ok (.iload_n 2, 1) := by decide +kernel
theorem dL_addFrog_5 : decode cL_addFrog 5 = .ok (.invokevirtual 7, 3) := by decide +kernel
theorem dL_addFrog_8 : decode cL_addFrog 8 = .ok (.i2l, 1) := by decide +kernel
theorem dL_addFrog_9 : decode cL_addFrog 9 = .ok (.lastore, 1) := by decide +kernel
theorem dL_addFrog_10 : decode cL_addFrog 10 = .ok (.goto 15, 3) := by decide +kernel
theorem dL_addFrog_13 : decode cL_addFrog 13 = .ok (.astore 4, 2) := by decide +kernel
theorem dL_addFrog_15 : decode cL_addFrog 15 = .ok (.iconst 1, 1) := by decide +kernel
theorem dL_addFrog_16 : decode cL_addFrog 16 = .ok (.ireturn, 1) := by decide +kernel
theorem dL_addFrog_17 : decode cL_addFrog 17 = .ok (.astore 4, 2) := by decide +kernel
theorem dL_addFrog_19 : decode cL_addFrog 19 = .ok (.iconst 2, 1) := by decide +kernel
theorem dL_addFrog_20 : decode cL_addFrog 20 = .ok (.ireturn, 1) := by decide +kernel
theorem dL_addFrog_21 : decode cL_addFrog 21 = .ok (.astore 4, 2) := by decide +kernel
theorem dL_addFrog_23 : decode cL_addFrog 23 = .ok (.iconst 3, 1) := by decide +kernel
theorem dL_addFrog_24 : decode cL_addFrog 24 = .ok (.ireturn, 1) := by decide +kernel
theorem dL_addFrog_25 : decode cL_addFrog 25 = .ok (.iconst 0, 1) := by decide +kernel
theorem dL_addFrog_26 : decode cL_addFrog 26 = .ok (.ireturn, 1) := by decide +kernel
theorem dL_addPad_0 : decode cL_addPad 0 = .ok (.aload_n 2, 1) := by decide +kernel
theorem dL_addPad_1 : decode cL_addPad 1 = .ok (.iconst 0, 1) := by decide +kernel
theorem dL_addPad_2 : decode cL_addPad 2 = .ok (.aload_n 0, 1) := by decide +kernel
theorem dL_addPad_3 : decode cL_addPad 3 = .ok (.iload_n 1, 1) := by decide +kernel
theorem dL_addPad_4 : decode cL_addPad 4 = .ok (.invokevirtual 19, 3) := by decide +kernel
theorem dL_addPad_7 : decode cL_addPad 7 = .ok (.i2l, 1) := by decide +kernel
theorem dL_addPad_8 : decode cL_addPad 8 = .ok (.lastore, 1) := by decide +kernel
theorem dL_addPad_9 : decode cL_addPad 9 = .ok (.goto 9, 3) := by decide +kernel
theorem dL_addPad_12 : decode cL_addPad 12 = .ok (.astore_n 3, 1) := by decide +kernel
theorem dL_addPad_13 : decode cL_addPad 13 = .ok (.iconst 1, 1) := by decide +kernel
theorem dL_addPad_14 : decode cL_addPad 14 = .ok (.ireturn, 1) := by decide +kernel
theorem dL_addPad_15 : decode cL_addPad 15 = .ok (.astore_n 3, 1) := by decide +kernel
theorem dL_addPad_16 : decode cL_addPad 16 = .ok (.iconst 2, 1) := by decide +kernel
theorem dL_addPad_17 : decode cL_addPad 17 = .ok (.ireturn, 1) := by decide +kernel
theorem dL_addPad_18 : decode cL_addPad 18 = .ok (.iconst 0, 1) := by decide +kernel
theorem dL_addPad_19 : decode cL_addPad 19 = .ok (.ireturn, 1) := by decide +kernel
theorem dL_hop_0 : decode cL_hop 0 = .ok (.aload_n 3, 1) := by decide +kernel
theorem dL_hop_1 : decode cL_hop 1 = .ok (.iconst 0, 1) := by decide +kernel
theorem dL_hop_2 : decode cL_hop 2 = .ok (.aload_n 0, 1) := by decide +kernel
theorem dL_hop_3 : decode cL_hop 3 = .ok (.iload_n 1, 1) := by decide +kernel
theorem dL_hop_4 : decode cL_hop 4 = .ok (.iload_n 2, 1) := by decide +kernel
theorem dL_hop_5 : decode cL_hop 5 = .ok (.invokevirtual 23, 3) := by decide +kernel
theorem dL_hop_8 : decode cL_hop 8 = .ok (.i2l, 1) := by decide +kernel
theorem dL_hop_9 : decode cL_hop 9 = .ok (.lastore, 1) := by decide +kernel
theorem dL_hop_10 : decode cL_hop 10 = .ok (.goto 11, 3) := by decide +kernel
theorem dL_hop_13 : decode cL_hop 13 = .ok (.astore 4, 2) := by decide +kernel
theorem dL_hop_15 : decode cL_hop 15 = .ok (.iconst 1, 1) := by decide +kernel
theorem dL_hop_16 : decode cL_hop 16 = .ok (.ireturn, 1) := by decide +kernel
theorem dL_hop_17 : decode cL_hop 17 = .ok (.astore 4, 2) := by decide +kernel
theorem dL_hop_19 : decode cL_hop 19 = .ok (.iconst 2, 1) := by decide +kernel
theorem dL_hop_20 : decode cL_hop 20 = .ok (.ireturn, 1) := by decide +kernel
theorem dL_hop_21 : decode cL_hop 21 = .ok (.iconst 0, 1) := by decide +kernel
theorem dL_hop_22 : decode cL_hop 22 = .ok (.ireturn, 1) := by decide +kernel
theorem dL_dive_0 : decode cL_dive 0 = .ok (.aload_n 2, 1) := by decide +kernel
theorem dL_dive_1 : decode cL_dive 1 = .ok (.iconst 0, 1) := by decide +kernel
theorem dL_dive_2 : decode cL_dive 2 = .ok (.aload_n 0, 1) := by decide +kernel
theorem dL_dive_3 : decode cL_dive 3 = .ok (.iload_n 1, 1) := by decide +kernel
theorem dL_dive_4 : decode cL_dive 4 = .ok (.invokevirtual 26, 3) := by decide +kernel
theorem dL_dive_7 : decode cL_dive 7 = .ok (.i2l, 1) := by decide +kernel
theorem dL_dive_8 : decode cL_dive 8 = .ok (.lastore, 1) := by decide +kernel
theorem dL_dive_9 : decode cL_dive 9 = .ok (.goto 9, 3) := by decide +kernel
theorem dL_dive_12 : decode cL_dive 12 = .ok (.astore_n 3, 1) := by decide +kernel
theorem dL_dive_13 : decode cL_dive 13 = .ok (.iconst 1, 1) := by decide +kernel
theorem dL_dive_14 : decode cL_dive 14 = .ok (.ireturn, 1) := by decide +kernel
theorem dL_dive_15 : decode cL_dive 15 = .ok (.astore_n 3, 1) := by decide +kernel
theorem dL_dive_16 : decode cL_dive 16 = .ok (.iconst 2, 1) := by decide +kernel
theorem dL_dive_17 : decode cL_dive 17 = .ok (.ireturn, 1) := by decide +kernel
theorem dL_dive_18 : decode cL_dive 18 = .ok (.iconst 0, 1) := by decide +kernel
theorem dL_dive_19 : decode cL_dive 19 = .ok (.ireturn, 1) := by decide +kernel
theorem dL_pondOf_0 : decode cL_pondOf 0 = .ok (.aload_n 2, 1) := by decide +kernel
theorem dL_pondOf_1 : decode cL_pondOf 1 = .ok (.iconst 0, 1) := by decide +kernel
theorem dL_pondOf_2 : decode cL_pondOf 2 = .ok (.aload_n 0, 1) := by decide +kernel
theorem dL_pondOf_3 : decode cL_pondOf 3 = .ok (.iload_n 1, 1) := by decide +kernel
theorem dL_pondOf_4 : decode cL_pondOf 4 = .ok (.invokevirtual 29, 3) := by decide +kernel
theorem dL_pondOf_7 : decode cL_pondOf 7 = .ok (.i2l, 1) := by decide +kernel
theorem dL_pondOf_8 : decode cL_pondOf 8 = .ok (.lastore, 1) := by decide +kernel
theorem dL_pondOf_9 : decode cL_pondOf 9 = .ok (.goto 6, 3) := by decide +kernel
theorem dL_pondOf_12 : decode cL_pondOf 12 = .ok (.astore_n 3, 1) := by decide +kernel
theorem dL_pondOf_13 : decode cL_pondOf 13 = .ok (.iconst 1, 1) := by decide +kernel
theorem dL_pondOf_14 : decode cL_pondOf 14 = .ok (.ireturn, 1) := by decide +kernel
theorem dL_pondOf_15 : decode cL_pondOf 15 = .ok (.iconst 0, 1) := by decide +kernel
theorem dL_pondOf_16 : decode cL_pondOf 16 = .ok (.ireturn, 1) := by decide +kernel
theorem dL_weightOf_0 : decode cL_weightOf 0 = .ok (.aload_n 2, 1) := by decide +kernel
theorem dL_weightOf_1 : decode cL_weightOf 1 = .ok (.iconst 0, 1) := by decide +kernel
theorem dL_weightOf_2 : decode cL_weightOf 2 = .ok (.aload_n 0, 1) := by decide +kernel
theorem dL_weightOf_3 : decode cL_weightOf 3 = .ok (.iload_n 1, 1) := by decide +kernel
theorem dL_weightOf_4 : decode cL_weightOf 4 = .ok (.invokevirtual 32, 3) := by decide +kernel
theorem dL_weightOf_7 : decode cL_weightOf 7 = .ok (.i2l, 1) := by decide +kernel
theorem dL_weightOf_8 : decode cL_weightOf 8 = .ok (.lastore, 1) := by decide +kernel
theorem dL_weightOf_9 : decode cL_weightOf 9 = .ok (.goto 6, 3) := by decide +kernel
theorem dL_weightOf_12 : decode cL_weightOf 12 = .ok (.astore_n 3, 1) := by decide +kernel
theorem dL_weightOf_13 : decode cL_weightOf 13 = .ok (.iconst 1, 1) := by decide +kernel
theorem dL_weightOf_14 : decode cL_weightOf 14 = .ok (.ireturn, 1) := by decide +kernel
theorem dL_weightOf_15 : decode cL_weightOf 15 = .ok (.iconst 0, 1) := by decide +kernel
theorem dL_weightOf_16 : decode cL_weightOf 16 = .ok (.ireturn, 1) := by decide +kernel
theorem dL_padOf_0 : decode cL_padOf 0 = .ok (.aload_n 2, 1) := by decide +kernel
theorem dL_padOf_1 : decode cL_padOf 1 = .ok (.iconst 0, 1) := by decide +kernel
theorem dL_padOf_2 : decode cL_padOf 2 = .ok (.aload_n 0, 1) := by decide +kernel
theorem dL_padOf_3 : decode cL_padOf 3 = .ok (.iload_n 1, 1) := by decide +kernel
theorem dL_padOf_4 : decode cL_padOf 4 = .ok (.invokevirtual 35, 3) := by decide +kernel
theorem dL_padOf_7 : decode cL_padOf 7 = .ok (.i2l, 1) := by decide +kernel
theorem dL_padOf_8 : decode cL_padOf 8 = .ok (.lastore, 1) := by decide +kernel
theorem dL_padOf_9 : decode cL_padOf 9 = .ok (.goto 9, 3) := by decide +kernel
theorem dL_padOf_12 : decode cL_padOf 12 = .ok (.astore_n 3, 1) := by decide +kernel
theorem dL_padOf_13 : decode cL_padOf 13 = .ok (.iconst 1, 1) := by decide +kernel
theorem dL_padOf_14 : decode cL_padOf 14 = .ok (.ireturn, 1) := by decide +kernel
theorem dL_padOf_15 : decode cL_padOf 15 = .ok (.astore_n 3, 1) := by decide +kernel
theorem dL_padOf_16 : decode cL_padOf 16 = .ok (.iconst 2, 1) := by decide +kernel
theorem dL_padOf_17 : decode cL_padOf 17 = .ok (.ireturn, 1) := by decide +kernel
theorem dL_padOf_18 : decode cL_padOf 18 = .ok (.iconst 0, 1) := by decide +kernel
theorem dL_padOf_19 : decode cL_padOf 19 = .ok (.ireturn, 1) := by decide +kernel
theorem dL_frogsOn_0 : decode cL_frogsOn 0 = .ok (.aload_n 2, 1) := by decide +kernel
theorem dL_frogsOn_1 : decode cL_frogsOn 1 = .ok (.iconst 0, 1) := by decide +kernel
theorem dL_frogsOn_2 : decode cL_frogsOn 2 = .ok (.aload_n 0, 1) := by decide +kernel
theorem dL_frogsOn_3 : decode cL_frogsOn 3 = .ok (.iload_n 1, 1) := by decide +kernel
theorem dL_frogsOn_4 : decode cL_frogsOn 4 = .ok (.invokevirtual 40, 3) := by decide +kernel
theorem dL_frogsOn_7 : decode cL_frogsOn 7 = .ok (.i2l, 1) := by decide +kernel
theorem dL_frogsOn_8 : decode cL_frogsOn 8 = .ok (.lastore, 1) := by decide +kernel
theorem dL_frogsOn_9 : decode cL_frogsOn 9 = .ok (.goto 6, 3) := by decide +kernel
theorem dL_frogsOn_12 : decode cL_frogsOn 12 = .ok (.astore_n 3, 1) := by decide +kernel
theorem dL_frogsOn_13 : decode cL_frogsOn 13 = .ok (.iconst 1, 1) := by decide +kernel
theorem dL_frogsOn_14 : decode cL_frogsOn 14 = .ok (.ireturn, 1) := by decide +kernel
theorem dL_frogsOn_15 : decode cL_frogsOn 15 = .ok (.iconst 0, 1) := by decide +kernel
theorem dL_frogsOn_16 : decode cL_frogsOn 16 = .ok (.ireturn, 1) := by decide +kernel
theorem dL_padWeight_0 : decode cL_padWeight 0 = .ok (.aload_n 2, 1) := by decide +kernel
theorem dL_padWeight_1 : decode cL_padWeight 1 = .ok (.iconst 0, 1) := by decide +kernel
theorem dL_padWeight_2 : decode cL_padWeight 2 = .ok (.aload_n 0, 1) := by decide +kernel
theorem dL_padWeight_3 : decode cL_padWeight 3 = .ok (.iload_n 1, 1) := by decide +kernel
theorem dL_padWeight_4 : decode cL_padWeight 4 = .ok (.invokevirtual 43, 3) := by decide +kernel
theorem dL_padWeight_7 : decode cL_padWeight 7 = .ok (.i2l, 1) := by decide +kernel
theorem dL_padWeight_8 : decode cL_padWeight 8 = .ok (.lastore, 1) := by decide +kernel
theorem dL_padWeight_9 : decode cL_padWeight 9 = .ok (.goto 6, 3) := by decide +kernel
theorem dL_padWeight_12 : decode cL_padWeight 12 = .ok (.astore_n 3, 1) := by decide +kernel
theorem dL_padWeight_13 : decode cL_padWeight 13 = .ok (.iconst 1, 1) := by decide +kernel
theorem dL_padWeight_14 : decode cL_padWeight 14 = .ok (.ireturn, 1) := by decide +kernel
theorem dL_padWeight_15 : decode cL_padWeight 15 = .ok (.iconst 0, 1) := by decide +kernel
theorem dL_padWeight_16 : decode cL_padWeight 16 = .ok (.ireturn, 1) := by decide +kernel
theorem dL_addMotion_0 : decode cL_addMotion 0 = .ok (.aload_n 2, 1) := by decide +kernel
theorem dL_addMotion_1 : decode cL_addMotion 1 = .ok (.iconst 0, 1) := by decide +kernel
theorem dL_addMotion_2 : decode cL_addMotion 2 = .ok (.aload_n 0, 1) := by decide +kernel
theorem dL_addMotion_3 : decode cL_addMotion 3 = .ok (.iload_n 1, 1) := by decide +kernel
theorem dL_addMotion_4 : decode cL_addMotion 4 = .ok (.invokevirtual 46, 3) := by decide +kernel
theorem dL_addMotion_7 : decode cL_addMotion 7 = .ok (.i2l, 1) := by decide +kernel
theorem dL_addMotion_8 : decode cL_addMotion 8 = .ok (.lastore, 1) := by decide +kernel
theorem dL_addMotion_9 : decode cL_addMotion 9 = .ok (.goto 9, 3) := by decide +kernel
theorem dL_addMotion_12 : decode cL_addMotion 12 = .ok (.astore_n 3, 1) := by decide +kernel
theorem dL_addMotion_13 : decode cL_addMotion 13 = .ok (.iconst 1, 1) := by decide +kernel
theorem dL_addMotion_14 : decode cL_addMotion 14 = .ok (.ireturn, 1) := by decide +kernel
theorem dL_addMotion_15 : decode cL_addMotion 15 = .ok (.astore_n 3, 1) := by decide +kernel
theorem dL_addMotion_16 : decode cL_addMotion 16 = .ok (.iconst 2, 1) := by decide +kernel
theorem dL_addMotion_17 : decode cL_addMotion 17 = .ok (.ireturn, 1) := by decide +kernel
theorem dL_addMotion_18 : decode cL_addMotion 18 = .ok (.iconst 0, 1) := by decide +kernel
theorem dL_addMotion_19 : decode cL_addMotion 19 = .ok (.ireturn, 1) := by decide +kernel
theorem dL_isEntitled_0 : decode cL_isEntitled 0 = .ok (.aload_n 3, 1) := by decide +kernel
theorem dL_isEntitled_1 : decode cL_isEntitled 1 = .ok (.iconst 0, 1) := by decide +kernel
theorem dL_isEntitled_2 : decode cL_isEntitled 2 = .ok (.aload_n 0, 1) := by decide +kernel
theorem dL_isEntitled_3 : decode cL_isEntitled 3 = .ok (.iload_n 1, 1) := by decide +kernel
theorem dL_isEntitled_4 : decode cL_isEntitled 4 = .ok (.iload_n 2, 1) := by decide +kernel
theorem dL_isEntitled_5 : decode cL_isEntitled 5 = .ok (.invokevirtual 49, 3) := by decide +kernel
theorem dL_isEntitled_8 : decode cL_isEntitled 8 = .ok (.ifCond .eq 7, 3) := by decide +kernel
theorem dL_isEntitled_11 : decode cL_isEntitled 11 = .ok (.lconst 1, 1) := by decide +kernel
theorem dL_isEntitled_12 : decode cL_isEntitled 12 = .ok (.goto 4, 3) := by decide +kernel
theorem dL_isEntitled_15 : decode cL_isEntitled 15 = .ok (.lconst 0, 1) := by decide +kernel
theorem dL_isEntitled_16 : decode cL_isEntitled 16 = .ok (.lastore, 1) := by decide +kernel
theorem dL_isEntitled_17 : decode cL_isEntitled 17 = .ok (.goto 7, 3) := by decide +kernel
theorem dL_isEntitled_20 : decode cL_isEntitled 20 = .ok (.astore 4, 2) := by decide +kernel
theorem dL_isEntitled_22 : decode cL_isEntitled 22 = .ok (.iconst 1, 1) := by decide +kernel
theorem dL_isEntitled_23 : decode cL_isEntitled 23 = .ok (.ireturn, 1) := by decide +kernel
theorem dL_isEntitled_24 : decode cL_isEntitled 24 = .ok (.iconst 0, 1) := by decide +kernel
theorem dL_isEntitled_25 : decode cL_isEntitled 25 = .ok (.ireturn, 1) := by decide +kernel
theorem dL_signUp_0 : decode cL_signUp 0 = .ok (.aload_n 3, 1) := by decide +kernel
theorem dL_signUp_1 : decode cL_signUp 1 = .ok (.iconst 0, 1) := by decide +kernel
theorem dL_signUp_2 : decode cL_signUp 2 = .ok (.aload_n 0, 1) := by decide +kernel
theorem dL_signUp_3 : decode cL_signUp 3 = .ok (.iload_n 1, 1) := by decide +kernel
theorem dL_signUp_4 : decode cL_signUp 4 = .ok (.iload_n 2, 1) := by decide +kernel
theorem dL_signUp_5 : decode cL_signUp 5 = .ok (.invokevirtual 53, 3) := by decide +kernel
theorem dL_signUp_8 : decode cL_signUp 8 = .ok (.i2l, 1) := by decide +kernel
theorem dL_signUp_9 : decode cL_signUp 9 = .ok (.lastore, 1) := by decide +kernel
theorem dL_signUp_10 : decode cL_signUp 10 = .ok (.goto 19, 3) := by decide +kernel
theorem dL_signUp_13 : decode cL_signUp 13 = .ok (.astore 4, 2) := by decide +kernel
theorem dL_signUp_15 : decode cL_signUp 15 = .ok (.iconst 1, 1) := by decide +kernel
theorem dL_signUp_16 : decode cL_signUp 16 = .ok (.ireturn, 1) := by decide +kernel
theorem dL_signUp_17 : decode cL_signUp 17 = .ok (.astore 4, 2) := by decide +kernel
theorem dL_signUp_19 : decode cL_signUp 19 = .ok (.iconst 2, 1) := by decide +kernel
theorem dL_signUp_20 : decode cL_signUp 20 = .ok (.ireturn, 1) := by decide +kernel
theorem dL_signUp_21 : decode cL_signUp 21 = .ok (.astore 4, 2) := by decide +kernel
theorem dL_signUp_23 : decode cL_signUp 23 = .ok (.iconst 3, 1) := by decide +kernel
theorem dL_signUp_24 : decode cL_signUp 24 = .ok (.ireturn, 1) := by decide +kernel
theorem dL_signUp_25 : decode cL_signUp 25 = .ok (.astore 4, 2) := by decide +kernel
theorem dL_signUp_27 : decode cL_signUp 27 = .ok (.iconst 4, 1) := by decide +kernel
theorem dL_signUp_28 : decode cL_signUp 28 = .ok (.ireturn, 1) := by decide +kernel
theorem dL_signUp_29 : decode cL_signUp 29 = .ok (.iconst 0, 1) := by decide +kernel
theorem dL_signUp_30 : decode cL_signUp 30 = .ok (.ireturn, 1) := by decide +kernel
theorem dL_strike_0 : decode cL_strike 0 = .ok (.aload_n 3, 1) := by decide +kernel
theorem dL_strike_1 : decode cL_strike 1 = .ok (.iconst 0, 1) := by decide +kernel
theorem dL_strike_2 : decode cL_strike 2 = .ok (.aload_n 0, 1) := by decide +kernel
theorem dL_strike_3 : decode cL_strike 3 = .ok (.iload_n 1, 1) := by decide +kernel
theorem dL_strike_4 : decode cL_strike 4 = .ok (.iload_n 2, 1) := by decide +kernel
theorem dL_strike_5 : decode cL_strike 5 = .ok (.invokevirtual 58, 3) := by decide +kernel
theorem dL_strike_8 : decode cL_strike 8 = .ok (.i2l, 1) := by decide +kernel
theorem dL_strike_9 : decode cL_strike 9 = .ok (.lastore, 1) := by decide +kernel
theorem dL_strike_10 : decode cL_strike 10 = .ok (.goto 11, 3) := by decide +kernel
theorem dL_strike_13 : decode cL_strike 13 = .ok (.astore 4, 2) := by decide +kernel
theorem dL_strike_15 : decode cL_strike 15 = .ok (.iconst 1, 1) := by decide +kernel
theorem dL_strike_16 : decode cL_strike 16 = .ok (.ireturn, 1) := by decide +kernel
theorem dL_strike_17 : decode cL_strike 17 = .ok (.astore 4, 2) := by decide +kernel
theorem dL_strike_19 : decode cL_strike 19 = .ok (.iconst 2, 1) := by decide +kernel
theorem dL_strike_20 : decode cL_strike 20 = .ok (.ireturn, 1) := by decide +kernel
theorem dL_strike_21 : decode cL_strike 21 = .ok (.iconst 0, 1) := by decide +kernel
theorem dL_strike_22 : decode cL_strike 22 = .ok (.ireturn, 1) := by decide +kernel
theorem dL_callNext_0 : decode cL_callNext 0 = .ok (.aload_n 2, 1) := by decide +kernel
theorem dL_callNext_1 : decode cL_callNext 1 = .ok (.iconst 0, 1) := by decide +kernel
theorem dL_callNext_2 : decode cL_callNext 2 = .ok (.aload_n 0, 1) := by decide +kernel
theorem dL_callNext_3 : decode cL_callNext 3 = .ok (.iload_n 1, 1) := by decide +kernel
theorem dL_callNext_4 : decode cL_callNext 4 = .ok (.invokevirtual 61, 3) := by decide +kernel
theorem dL_callNext_7 : decode cL_callNext 7 = .ok (.ifCond .eq 7, 3) := by decide +kernel
theorem dL_callNext_10 : decode cL_callNext 10 = .ok (.lconst 1, 1) := by decide +kernel
theorem dL_callNext_11 : decode cL_callNext 11 = .ok (.goto 4, 3) := by decide +kernel
theorem dL_callNext_14 : decode cL_callNext 14 = .ok (.lconst 0, 1) := by decide +kernel
theorem dL_callNext_15 : decode cL_callNext 15 = .ok (.lastore, 1) := by decide +kernel
theorem dL_callNext_16 : decode cL_callNext 16 = .ok (.goto 9, 3) := by decide +kernel
theorem dL_callNext_19 : decode cL_callNext 19 = .ok (.astore_n 3, 1) := by decide +kernel
theorem dL_callNext_20 : decode cL_callNext 20 = .ok (.iconst 1, 1) := by decide +kernel
theorem dL_callNext_21 : decode cL_callNext 21 = .ok (.ireturn, 1) := by decide +kernel
theorem dL_callNext_22 : decode cL_callNext 22 = .ok (.astore_n 3, 1) := by decide +kernel
theorem dL_callNext_23 : decode cL_callNext 23 = .ok (.iconst 2, 1) := by decide +kernel
theorem dL_callNext_24 : decode cL_callNext 24 = .ok (.ireturn, 1) := by decide +kernel
theorem dL_callNext_25 : decode cL_callNext 25 = .ok (.iconst 0, 1) := by decide +kernel
theorem dL_callNext_26 : decode cL_callNext 26 = .ok (.ireturn, 1) := by decide +kernel
theorem dL_listLength_0 : decode cL_listLength 0 = .ok (.aload_n 2, 1) := by decide +kernel
theorem dL_listLength_1 : decode cL_listLength 1 = .ok (.iconst 0, 1) := by decide +kernel
theorem dL_listLength_2 : decode cL_listLength 2 = .ok (.aload_n 0, 1) := by decide +kernel
theorem dL_listLength_3 : decode cL_listLength 3 = .ok (.iload_n 1, 1) := by decide +kernel
theorem dL_listLength_4 : decode cL_listLength 4 = .ok (.invokevirtual 65, 3) := by decide +kernel
theorem dL_listLength_7 : decode cL_listLength 7 = .ok (.i2l, 1) := by decide +kernel
theorem dL_listLength_8 : decode cL_listLength 8 = .ok (.lastore, 1) := by decide +kernel
theorem dL_listLength_9 : decode cL_listLength 9 = .ok (.goto 6, 3) := by decide +kernel
theorem dL_listLength_12 : decode cL_listLength 12 = .ok (.astore_n 3, 1) := by decide +kernel
theorem dL_listLength_13 : decode cL_listLength 13 = .ok (.iconst 1, 1) := by decide +kernel
theorem dL_listLength_14 : decode cL_listLength 14 = .ok (.ireturn, 1) := by decide +kernel
theorem dL_listLength_15 : decode cL_listLength 15 = .ok (.iconst 0, 1) := by decide +kernel
theorem dL_listLength_16 : decode cL_listLength 16 = .ok (.ireturn, 1) := by decide +kernel
theorem dL_nextFrog_0 : decode cL_nextFrog 0 = .ok (.aload_n 2, 1) := by decide +kernel
theorem dL_nextFrog_1 : decode cL_nextFrog 1 = .ok (.iconst 0, 1) := by decide +kernel
theorem dL_nextFrog_2 : decode cL_nextFrog 2 = .ok (.aload_n 0, 1) := by decide +kernel
theorem dL_nextFrog_3 : decode cL_nextFrog 3 = .ok (.iload_n 1, 1) := by decide +kernel
theorem dL_nextFrog_4 : decode cL_nextFrog 4 = .ok (.invokevirtual 68, 3) := by decide +kernel
theorem dL_nextFrog_7 : decode cL_nextFrog 7 = .ok (.i2l, 1) := by decide +kernel
theorem dL_nextFrog_8 : decode cL_nextFrog 8 = .ok (.lastore, 1) := by decide +kernel
theorem dL_nextFrog_9 : decode cL_nextFrog 9 = .ok (.goto 9, 3) := by decide +kernel
theorem dL_nextFrog_12 : decode cL_nextFrog 12 = .ok (.astore_n 3, 1) := by decide +kernel
theorem dL_nextFrog_13 : decode cL_nextFrog 13 = .ok (.iconst 1, 1) := by decide +kernel
theorem dL_nextFrog_14 : decode cL_nextFrog 14 = .ok (.ireturn, 1) := by decide +kernel
theorem dL_nextFrog_15 : decode cL_nextFrog 15 = .ok (.astore_n 3, 1) := by decide +kernel
theorem dL_nextFrog_16 : decode cL_nextFrog 16 = .ok (.iconst 2, 1) := by decide +kernel
theorem dL_nextFrog_17 : decode cL_nextFrog 17 = .ok (.ireturn, 1) := by decide +kernel
theorem dL_nextFrog_18 : decode cL_nextFrog 18 = .ok (.iconst 0, 1) := by decide +kernel
theorem dL_nextFrog_19 : decode cL_nextFrog 19 = .ok (.ireturn, 1) := by decide +kernel
theorem dL_nextFrogByScan_0 : decode cL_nextFrogByScan 0 = .ok (.aload_n 2, 1) := by decide +kernel
theorem dL_nextFrogByScan_1 : decode cL_nextFrogByScan 1 = .ok (.iconst 0, 1) := by decide +kernel
theorem dL_nextFrogByScan_2 : decode cL_nextFrogByScan 2 = .ok (.aload_n 0, 1) := by decide +kernel
theorem dL_nextFrogByScan_3 : decode cL_nextFrogByScan 3 = .ok (.iload_n 1, 1) := by decide +kernel
theorem dL_nextFrogByScan_4 : decode cL_nextFrogByScan 4 = .ok (.invokevirtual 71, 3) := by decide +kernel
theorem dL_nextFrogByScan_7 : decode cL_nextFrogByScan 7 = .ok (.i2l, 1) := by decide +kernel
theorem dL_nextFrogByScan_8 : decode cL_nextFrogByScan 8 = .ok (.lastore, 1) := by decide +kernel
theorem dL_nextFrogByScan_9 : decode cL_nextFrogByScan 9 = .ok (.goto 9, 3) := by decide +kernel
theorem dL_nextFrogByScan_12 : decode cL_nextFrogByScan 12 = .ok (.astore_n 3, 1) := by decide +kernel
theorem dL_nextFrogByScan_13 : decode cL_nextFrogByScan 13 = .ok (.iconst 1, 1) := by decide +kernel
theorem dL_nextFrogByScan_14 : decode cL_nextFrogByScan 14 = .ok (.ireturn, 1) := by decide +kernel
theorem dL_nextFrogByScan_15 : decode cL_nextFrogByScan 15 = .ok (.astore_n 3, 1) := by decide +kernel
theorem dL_nextFrogByScan_16 : decode cL_nextFrogByScan 16 = .ok (.iconst 2, 1) := by decide +kernel
theorem dL_nextFrogByScan_17 : decode cL_nextFrogByScan 17 = .ok (.ireturn, 1) := by decide +kernel
theorem dL_nextFrogByScan_18 : decode cL_nextFrogByScan 18 = .ok (.iconst 0, 1) := by decide +kernel
theorem dL_nextFrogByScan_19 : decode cL_nextFrogByScan 19 = .ok (.ireturn, 1) := by decide +kernel
theorem dL_frogsBefore_0 : decode cL_frogsBefore 0 = .ok (.aload_n 3, 1) := by decide +kernel
theorem dL_frogsBefore_1 : decode cL_frogsBefore 1 = .ok (.iconst 0, 1) := by decide +kernel
theorem dL_frogsBefore_2 : decode cL_frogsBefore 2 = .ok (.aload_n 0, 1) := by decide +kernel
theorem dL_frogsBefore_3 : decode cL_frogsBefore 3 = .ok (.iload_n 1, 1) := by decide +kernel
theorem dL_frogsBefore_4 : decode cL_frogsBefore 4 = .ok (.iload_n 2, 1) := by decide +kernel
theorem dL_frogsBefore_5 : decode cL_frogsBefore 5 = .ok (.invokevirtual 74, 3) := by decide +kernel
theorem dL_frogsBefore_8 : decode cL_frogsBefore 8 = .ok (.i2l, 1) := by decide +kernel
theorem dL_frogsBefore_9 : decode cL_frogsBefore 9 = .ok (.lastore, 1) := by decide +kernel
theorem dL_frogsBefore_10 : decode cL_frogsBefore 10 = .ok (.goto 11, 3) := by decide +kernel
theorem dL_frogsBefore_13 : decode cL_frogsBefore 13 = .ok (.astore 4, 2) := by decide +kernel
theorem dL_frogsBefore_15 : decode cL_frogsBefore 15 = .ok (.iconst 1, 1) := by decide +kernel
theorem dL_frogsBefore_16 : decode cL_frogsBefore 16 = .ok (.ireturn, 1) := by decide +kernel
theorem dL_frogsBefore_17 : decode cL_frogsBefore 17 = .ok (.astore 4, 2) := by decide +kernel
theorem dL_frogsBefore_19 : decode cL_frogsBefore 19 = .ok (.iconst 2, 1) := by decide +kernel
theorem dL_frogsBefore_20 : decode cL_frogsBefore 20 = .ok (.ireturn, 1) := by decide +kernel
theorem dL_frogsBefore_21 : decode cL_frogsBefore 21 = .ok (.iconst 0, 1) := by decide +kernel
theorem dL_frogsBefore_22 : decode cL_frogsBefore 22 = .ok (.ireturn, 1) := by decide +kernel
theorem dL_speeches_0 : decode cL_speeches 0 = .ok (.aload_n 2, 1) := by decide +kernel
theorem dL_speeches_1 : decode cL_speeches 1 = .ok (.iconst 0, 1) := by decide +kernel
theorem dL_speeches_2 : decode cL_speeches 2 = .ok (.aload_n 0, 1) := by decide +kernel
theorem dL_speeches_3 : decode cL_speeches 3 = .ok (.iload_n 1, 1) := by decide +kernel
theorem dL_speeches_4 : decode cL_speeches 4 = .ok (.invokevirtual 77, 3) := by decide +kernel
theorem dL_speeches_7 : decode cL_speeches 7 = .ok (.i2l, 1) := by decide +kernel
theorem dL_speeches_8 : decode cL_speeches 8 = .ok (.lastore, 1) := by decide +kernel
theorem dL_speeches_9 : decode cL_speeches 9 = .ok (.goto 6, 3) := by decide +kernel
theorem dL_speeches_12 : decode cL_speeches 12 = .ok (.astore_n 3, 1) := by decide +kernel
theorem dL_speeches_13 : decode cL_speeches 13 = .ok (.iconst 1, 1) := by decide +kernel
theorem dL_speeches_14 : decode cL_speeches 14 = .ok (.ireturn, 1) := by decide +kernel
theorem dL_speeches_15 : decode cL_speeches 15 = .ok (.iconst 0, 1) := by decide +kernel
theorem dL_speeches_16 : decode cL_speeches 16 = .ok (.ireturn, 1) := by decide +kernel
theorem dL_speechesOn_0 : decode cL_speechesOn 0 = .ok (.aload_n 2, 1) := by decide +kernel
theorem dL_speechesOn_1 : decode cL_speechesOn 1 = .ok (.iconst 0, 1) := by decide +kernel
theorem dL_speechesOn_2 : decode cL_speechesOn 2 = .ok (.aload_n 0, 1) := by decide +kernel
theorem dL_speechesOn_3 : decode cL_speechesOn 3 = .ok (.iload_n 1, 1) := by decide +kernel
theorem dL_speechesOn_4 : decode cL_speechesOn 4 = .ok (.invokevirtual 80, 3) := by decide +kernel
theorem dL_speechesOn_7 : decode cL_speechesOn 7 = .ok (.i2l, 1) := by decide +kernel
theorem dL_speechesOn_8 : decode cL_speechesOn 8 = .ok (.lastore, 1) := by decide +kernel
theorem dL_speechesOn_9 : decode cL_speechesOn 9 = .ok (.goto 6, 3) := by decide +kernel
theorem dL_speechesOn_12 : decode cL_speechesOn 12 = .ok (.astore_n 3, 1) := by decide +kernel
theorem dL_speechesOn_13 : decode cL_speechesOn 13 = .ok (.iconst 1, 1) := by decide +kernel
theorem dL_speechesOn_14 : decode cL_speechesOn 14 = .ok (.ireturn, 1) := by decide +kernel
theorem dL_speechesOn_15 : decode cL_speechesOn 15 = .ok (.iconst 0, 1) := by decide +kernel
theorem dL_speechesOn_16 : decode cL_speechesOn 16 = .ok (.ireturn, 1) := by decide +kernel
theorem dL_frogAtRank_0 : decode cL_frogAtRank 0 = .ok (.aload_n 2, 1) := by decide +kernel
theorem dL_frogAtRank_1 : decode cL_frogAtRank 1 = .ok (.iconst 0, 1) := by decide +kernel
theorem dL_frogAtRank_2 : decode cL_frogAtRank 2 = .ok (.aload_n 0, 1) := by decide +kernel
theorem dL_frogAtRank_3 : decode cL_frogAtRank 3 = .ok (.iload_n 1, 1) := by decide +kernel
theorem dL_frogAtRank_4 : decode cL_frogAtRank 4 = .ok (.invokevirtual 83, 3) := by decide +kernel
theorem dL_frogAtRank_7 : decode cL_frogAtRank 7 = .ok (.i2l, 1) := by decide +kernel
theorem dL_frogAtRank_8 : decode cL_frogAtRank 8 = .ok (.lastore, 1) := by decide +kernel
theorem dL_frogAtRank_9 : decode cL_frogAtRank 9 = .ok (.goto 6, 3) := by decide +kernel
theorem dL_frogAtRank_12 : decode cL_frogAtRank 12 = .ok (.astore_n 3, 1) := by decide +kernel
theorem dL_frogAtRank_13 : decode cL_frogAtRank 13 = .ok (.iconst 1, 1) := by decide +kernel
theorem dL_frogAtRank_14 : decode cL_frogAtRank 14 = .ok (.ireturn, 1) := by decide +kernel
theorem dL_frogAtRank_15 : decode cL_frogAtRank 15 = .ok (.iconst 0, 1) := by decide +kernel
theorem dL_frogAtRank_16 : decode cL_frogAtRank 16 = .ok (.ireturn, 1) := by decide +kernel
theorem dL_supportClosure_0 : decode cL_supportClosure 0 = .ok (.aload_n 3, 1) := by decide +kernel
theorem dL_supportClosure_1 : decode cL_supportClosure 1 = .ok (.iconst 0, 1) := by decide +kernel
theorem dL_supportClosure_2 : decode cL_supportClosure 2 = .ok (.aload_n 0, 1) := by decide +kernel
theorem dL_supportClosure_3 : decode cL_supportClosure 3 = .ok (.iload_n 1, 1) := by decide +kernel
theorem dL_supportClosure_4 : decode cL_supportClosure 4 = .ok (.iload_n 2, 1) := by decide +kernel
theorem dL_supportClosure_5 : decode cL_supportClosure 5 = .ok (.invokevirtual 86, 3) := by decide +kernel
theorem dL_supportClosure_8 : decode cL_supportClosure 8 = .ok (.ifCond .eq 7, 3) := by decide +kernel
theorem dL_supportClosure_11 : decode cL_supportClosure 11 = .ok (.lconst 1, 1) := by decide +kernel
theorem dL_supportClosure_12 : decode cL_supportClosure 12 = .ok (.goto 4, 3) := by decide +kernel
theorem dL_supportClosure_15 : decode cL_supportClosure 15 = .ok (.lconst 0, 1) := by decide +kernel
theorem dL_supportClosure_16 : decode cL_supportClosure 16 = .ok (.lastore, 1) := by decide +kernel
theorem dL_supportClosure_17 : decode cL_supportClosure 17 = .ok (.goto 19, 3) := by decide +kernel
theorem dL_supportClosure_20 : decode cL_supportClosure 20 = .ok (.astore 4, 2) := by decide +kernel
theorem dL_supportClosure_22 : decode cL_supportClosure 22 = .ok (.iconst 1, 1) := by decide +kernel
theorem dL_supportClosure_23 : decode cL_supportClosure 23 = .ok (.ireturn, 1) := by decide +kernel
theorem dL_supportClosure_24 : decode cL_supportClosure 24 = .ok (.astore 4, 2) := by decide +kernel
theorem dL_supportClosure_26 : decode cL_supportClosure 26 = .ok (.iconst 2, 1) := by decide +kernel
theorem dL_supportClosure_27 : decode cL_supportClosure 27 = .ok (.ireturn, 1) := by decide +kernel
theorem dL_supportClosure_28 : decode cL_supportClosure 28 = .ok (.astore 4, 2) := by decide +kernel
theorem dL_supportClosure_30 : decode cL_supportClosure 30 = .ok (.iconst 3, 1) := by decide +kernel
theorem dL_supportClosure_31 : decode cL_supportClosure 31 = .ok (.ireturn, 1) := by decide +kernel
theorem dL_supportClosure_32 : decode cL_supportClosure 32 = .ok (.astore 4, 2) := by decide +kernel
theorem dL_supportClosure_34 : decode cL_supportClosure 34 = .ok (.iconst 4, 1) := by decide +kernel
theorem dL_supportClosure_35 : decode cL_supportClosure 35 = .ok (.ireturn, 1) := by decide +kernel
theorem dL_supportClosure_36 : decode cL_supportClosure 36 = .ok (.iconst 0, 1) := by decide +kernel
theorem dL_supportClosure_37 : decode cL_supportClosure 37 = .ok (.ireturn, 1) := by decide +kernel
theorem dL_isListClosed_0 : decode cL_isListClosed 0 = .ok (.aload_n 2, 1) := by decide +kernel
theorem dL_isListClosed_1 : decode cL_isListClosed 1 = .ok (.iconst 0, 1) := by decide +kernel
theorem dL_isListClosed_2 : decode cL_isListClosed 2 = .ok (.aload_n 0, 1) := by decide +kernel
theorem dL_isListClosed_3 : decode cL_isListClosed 3 = .ok (.iload_n 1, 1) := by decide +kernel
theorem dL_isListClosed_4 : decode cL_isListClosed 4 = .ok (.invokevirtual 89, 3) := by decide +kernel
theorem dL_isListClosed_7 : decode cL_isListClosed 7 = .ok (.ifCond .eq 7, 3) := by decide +kernel
theorem dL_isListClosed_10 : decode cL_isListClosed 10 = .ok (.lconst 1, 1) := by decide +kernel
theorem dL_isListClosed_11 : decode cL_isListClosed 11 = .ok (.goto 4, 3) := by decide +kernel
theorem dL_isListClosed_14 : decode cL_isListClosed 14 = .ok (.lconst 0, 1) := by decide +kernel
theorem dL_isListClosed_15 : decode cL_isListClosed 15 = .ok (.lastore, 1) := by decide +kernel
theorem dL_isListClosed_16 : decode cL_isListClosed 16 = .ok (.goto 6, 3) := by decide +kernel
theorem dL_isListClosed_19 : decode cL_isListClosed 19 = .ok (.astore_n 3, 1) := by decide +kernel
theorem dL_isListClosed_20 : decode cL_isListClosed 20 = .ok (.iconst 1, 1) := by decide +kernel
theorem dL_isListClosed_21 : decode cL_isListClosed 21 = .ok (.ireturn, 1) := by decide +kernel
theorem dL_isListClosed_22 : decode cL_isListClosed 22 = .ok (.iconst 0, 1) := by decide +kernel
theorem dL_isListClosed_23 : decode cL_isListClosed 23 = .ok (.ireturn, 1) := by decide +kernel
theorem dL_closureWeight_0 : decode cL_closureWeight 0 = .ok (.aload_n 2, 1) := by decide +kernel
theorem dL_closureWeight_1 : decode cL_closureWeight 1 = .ok (.iconst 0, 1) := by decide +kernel
theorem dL_closureWeight_2 : decode cL_closureWeight 2 = .ok (.aload_n 0, 1) := by decide +kernel
theorem dL_closureWeight_3 : decode cL_closureWeight 3 = .ok (.iload_n 1, 1) := by decide +kernel
theorem dL_closureWeight_4 : decode cL_closureWeight 4 = .ok (.invokevirtual 92, 3) := by decide +kernel
theorem dL_closureWeight_7 : decode cL_closureWeight 7 = .ok (.i2l, 1) := by decide +kernel
theorem dL_closureWeight_8 : decode cL_closureWeight 8 = .ok (.lastore, 1) := by decide +kernel
theorem dL_closureWeight_9 : decode cL_closureWeight 9 = .ok (.goto 6, 3) := by decide +kernel
theorem dL_closureWeight_12 : decode cL_closureWeight 12 = .ok (.astore_n 3, 1) := by decide +kernel
theorem dL_closureWeight_13 : decode cL_closureWeight 13 = .ok (.iconst 1, 1) := by decide +kernel
theorem dL_closureWeight_14 : decode cL_closureWeight 14 = .ok (.ireturn, 1) := by decide +kernel
theorem dL_closureWeight_15 : decode cL_closureWeight 15 = .ok (.iconst 0, 1) := by decide +kernel
theorem dL_closureWeight_16 : decode cL_closureWeight 16 = .ok (.ireturn, 1) := by decide +kernel
theorem dL_entitledWeight_0 : decode cL_entitledWeight 0 = .ok (.aload_n 2, 1) := by decide +kernel
theorem dL_entitledWeight_1 : decode cL_entitledWeight 1 = .ok (.iconst 0, 1) := by decide +kernel
theorem dL_entitledWeight_2 : decode cL_entitledWeight 2 = .ok (.aload_n 0, 1) := by decide +kernel
theorem dL_entitledWeight_3 : decode cL_entitledWeight 3 = .ok (.iload_n 1, 1) := by decide +kernel
theorem dL_entitledWeight_4 : decode cL_entitledWeight 4 = .ok (.invokevirtual 95, 3) := by decide +kernel
theorem dL_entitledWeight_7 : decode cL_entitledWeight 7 = .ok (.i2l, 1) := by decide +kernel
theorem dL_entitledWeight_8 : decode cL_entitledWeight 8 = .ok (.lastore, 1) := by decide +kernel
theorem dL_entitledWeight_9 : decode cL_entitledWeight 9 = .ok (.goto 6, 3) := by decide +kernel
theorem dL_entitledWeight_12 : decode cL_entitledWeight 12 = .ok (.astore_n 3, 1) := by decide +kernel
theorem dL_entitledWeight_13 : decode cL_entitledWeight 13 = .ok (.iconst 1, 1) := by decide +kernel
theorem dL_entitledWeight_14 : decode cL_entitledWeight 14 = .ok (.ireturn, 1) := by decide +kernel
theorem dL_entitledWeight_15 : decode cL_entitledWeight 15 = .ok (.iconst 0, 1) := by decide +kernel
theorem dL_entitledWeight_16 : decode cL_entitledWeight 16 = .ok (.ireturn, 1) := by decide +kernel
theorem dL_croak_0 : decode cL_croak 0 = .ok (.aload 5, 2) := by decide +kernel
theorem dL_croak_2 : decode cL_croak 2 = .ok (.iconst 0, 1) := by decide +kernel
theorem dL_croak_3 : decode cL_croak 3 = .ok (.aload_n 0, 1) := by decide +kernel
theorem dL_croak_4 : decode cL_croak 4 = .ok (.iload_n 1, 1) := by decide +kernel
theorem dL_croak_5 : decode cL_croak 5 = .ok (.iload_n 2, 1) := by decide +kernel
theorem dL_croak_6 : decode cL_croak 6 = .ok (.iload_n 3, 1) := by decide +kernel
theorem dL_croak_7 : decode cL_croak 7 = .ok (.iload 4, 2) := by decide +kernel
theorem dL_croak_9 : decode cL_croak 9 = .ok (.invokevirtual 98, 3) := by decide +kernel
theorem dL_croak_12 : decode cL_croak 12 = .ok (.i2l, 1) := by decide +kernel
theorem dL_croak_13 : decode cL_croak 13 = .ok (.lastore, 1) := by decide +kernel
theorem dL_croak_14 : decode cL_croak 14 = .ok (.goto 19, 3) := by decide +kernel
theorem dL_croak_17 : decode cL_croak 17 = .ok (.astore 6, 2) := by decide +kernel
theorem dL_croak_19 : decode cL_croak 19 = .ok (.iconst 1, 1) := by decide +kernel
theorem dL_croak_20 : decode cL_croak 20 = .ok (.ireturn, 1) := by decide +kernel
theorem dL_croak_21 : decode cL_croak 21 = .ok (.astore 6, 2) := by decide +kernel
theorem dL_croak_23 : decode cL_croak 23 = .ok (.iconst 2, 1) := by decide +kernel
theorem dL_croak_24 : decode cL_croak 24 = .ok (.ireturn, 1) := by decide +kernel
theorem dL_croak_25 : decode cL_croak 25 = .ok (.astore 6, 2) := by decide +kernel
theorem dL_croak_27 : decode cL_croak 27 = .ok (.iconst 3, 1) := by decide +kernel
theorem dL_croak_28 : decode cL_croak 28 = .ok (.ireturn, 1) := by decide +kernel
theorem dL_croak_29 : decode cL_croak 29 = .ok (.astore 6, 2) := by decide +kernel
theorem dL_croak_31 : decode cL_croak 31 = .ok (.iconst 4, 1) := by decide +kernel
theorem dL_croak_32 : decode cL_croak 32 = .ok (.ireturn, 1) := by decide +kernel
theorem dL_croak_33 : decode cL_croak 33 = .ok (.iconst 0, 1) := by decide +kernel
theorem dL_croak_34 : decode cL_croak 34 = .ok (.ireturn, 1) := by decide +kernel
theorem dL_decide_0 : decode cL_decide 0 = .ok (.aload_n 2, 1) := by decide +kernel
theorem dL_decide_1 : decode cL_decide 1 = .ok (.iconst 0, 1) := by decide +kernel
theorem dL_decide_2 : decode cL_decide 2 = .ok (.aload_n 0, 1) := by decide +kernel
theorem dL_decide_3 : decode cL_decide 3 = .ok (.iload_n 1, 1) := by decide +kernel
theorem dL_decide_4 : decode cL_decide 4 = .ok (.invokevirtual 102, 3) := by decide +kernel
theorem dL_decide_7 : decode cL_decide 7 = .ok (.ifCond .eq 7, 3) := by decide +kernel
theorem dL_decide_10 : decode cL_decide 10 = .ok (.lconst 1, 1) := by decide +kernel
theorem dL_decide_11 : decode cL_decide 11 = .ok (.goto 4, 3) := by decide +kernel
theorem dL_decide_14 : decode cL_decide 14 = .ok (.lconst 0, 1) := by decide +kernel
theorem dL_decide_15 : decode cL_decide 15 = .ok (.lastore, 1) := by decide +kernel
theorem dL_decide_16 : decode cL_decide 16 = .ok (.goto 9, 3) := by decide +kernel
theorem dL_decide_19 : decode cL_decide 19 = .ok (.astore_n 3, 1) := by decide +kernel
theorem dL_decide_20 : decode cL_decide 20 = .ok (.iconst 1, 1) := by decide +kernel
theorem dL_decide_21 : decode cL_decide 21 = .ok (.ireturn, 1) := by decide +kernel
theorem dL_decide_22 : decode cL_decide 22 = .ok (.astore_n 3, 1) := by decide +kernel
theorem dL_decide_23 : decode cL_decide 23 = .ok (.iconst 2, 1) := by decide +kernel
theorem dL_decide_24 : decode cL_decide 24 = .ok (.ireturn, 1) := by decide +kernel
theorem dL_decide_25 : decode cL_decide 25 = .ok (.iconst 0, 1) := by decide +kernel
theorem dL_decide_26 : decode cL_decide 26 = .ok (.ireturn, 1) := by decide +kernel
theorem dL_isDecided_0 : decode cL_isDecided 0 = .ok (.aload_n 2, 1) := by decide +kernel
theorem dL_isDecided_1 : decode cL_isDecided 1 = .ok (.iconst 0, 1) := by decide +kernel
theorem dL_isDecided_2 : decode cL_isDecided 2 = .ok (.aload_n 0, 1) := by decide +kernel
theorem dL_isDecided_3 : decode cL_isDecided 3 = .ok (.iload_n 1, 1) := by decide +kernel
theorem dL_isDecided_4 : decode cL_isDecided 4 = .ok (.invokevirtual 105, 3) := by decide +kernel
theorem dL_isDecided_7 : decode cL_isDecided 7 = .ok (.ifCond .eq 7, 3) := by decide +kernel
theorem dL_isDecided_10 : decode cL_isDecided 10 = .ok (.lconst 1, 1) := by decide +kernel
theorem dL_isDecided_11 : decode cL_isDecided 11 = .ok (.goto 4, 3) := by decide +kernel
theorem dL_isDecided_14 : decode cL_isDecided 14 = .ok (.lconst 0, 1) := by decide +kernel
theorem dL_isDecided_15 : decode cL_isDecided 15 = .ok (.lastore, 1) := by decide +kernel
theorem dL_isDecided_16 : decode cL_isDecided 16 = .ok (.goto 6, 3) := by decide +kernel
theorem dL_isDecided_19 : decode cL_isDecided 19 = .ok (.astore_n 3, 1) := by decide +kernel
theorem dL_isDecided_20 : decode cL_isDecided 20 = .ok (.iconst 1, 1) := by decide +kernel
theorem dL_isDecided_21 : decode cL_isDecided 21 = .ok (.ireturn, 1) := by decide +kernel
theorem dL_isDecided_22 : decode cL_isDecided 22 = .ok (.iconst 0, 1) := by decide +kernel
theorem dL_isDecided_23 : decode cL_isDecided 23 = .ok (.ireturn, 1) := by decide +kernel
theorem dL_isAdopted_0 : decode cL_isAdopted 0 = .ok (.aload_n 2, 1) := by decide +kernel
theorem dL_isAdopted_1 : decode cL_isAdopted 1 = .ok (.iconst 0, 1) := by decide +kernel
theorem dL_isAdopted_2 : decode cL_isAdopted 2 = .ok (.aload_n 0, 1) := by decide +kernel
theorem dL_isAdopted_3 : decode cL_isAdopted 3 = .ok (.iload_n 1, 1) := by decide +kernel
theorem dL_isAdopted_4 : decode cL_isAdopted 4 = .ok (.invokevirtual 108, 3) := by decide +kernel
theorem dL_isAdopted_7 : decode cL_isAdopted 7 = .ok (.ifCond .eq 7, 3) := by decide +kernel
theorem dL_isAdopted_10 : decode cL_isAdopted 10 = .ok (.lconst 1, 1) := by decide +kernel
theorem dL_isAdopted_11 : decode cL_isAdopted 11 = .ok (.goto 4, 3) := by decide +kernel
theorem dL_isAdopted_14 : decode cL_isAdopted 14 = .ok (.lconst 0, 1) := by decide +kernel
theorem dL_isAdopted_15 : decode cL_isAdopted 15 = .ok (.lastore, 1) := by decide +kernel
theorem dL_isAdopted_16 : decode cL_isAdopted 16 = .ok (.goto 6, 3) := by decide +kernel
theorem dL_isAdopted_19 : decode cL_isAdopted 19 = .ok (.astore_n 3, 1) := by decide +kernel
theorem dL_isAdopted_20 : decode cL_isAdopted 20 = .ok (.iconst 1, 1) := by decide +kernel
theorem dL_isAdopted_21 : decode cL_isAdopted 21 = .ok (.ireturn, 1) := by decide +kernel
theorem dL_isAdopted_22 : decode cL_isAdopted 22 = .ok (.iconst 0, 1) := by decide +kernel
theorem dL_isAdopted_23 : decode cL_isAdopted 23 = .ok (.ireturn, 1) := by decide +kernel
theorem dL_croaksFor_0 : decode cL_croaksFor 0 = .ok (.aload_n 2, 1) := by decide +kernel
theorem dL_croaksFor_1 : decode cL_croaksFor 1 = .ok (.iconst 0, 1) := by decide +kernel
theorem dL_croaksFor_2 : decode cL_croaksFor 2 = .ok (.aload_n 0, 1) := by decide +kernel
theorem dL_croaksFor_3 : decode cL_croaksFor 3 = .ok (.iload_n 1, 1) := by decide +kernel
theorem dL_croaksFor_4 : decode cL_croaksFor 4 = .ok (.invokevirtual 111, 3) := by decide +kernel
theorem dL_croaksFor_7 : decode cL_croaksFor 7 = .ok (.i2l, 1) := by decide +kernel
theorem dL_croaksFor_8 : decode cL_croaksFor 8 = .ok (.lastore, 1) := by decide +kernel
theorem dL_croaksFor_9 : decode cL_croaksFor 9 = .ok (.goto 6, 3) := by decide +kernel
theorem dL_croaksFor_12 : decode cL_croaksFor 12 = .ok (.astore_n 3, 1) := by decide +kernel
theorem dL_croaksFor_13 : decode cL_croaksFor 13 = .ok (.iconst 1, 1) := by decide +kernel
theorem dL_croaksFor_14 : decode cL_croaksFor 14 = .ok (.ireturn, 1) := by decide +kernel
theorem dL_croaksFor_15 : decode cL_croaksFor 15 = .ok (.iconst 0, 1) := by decide +kernel
theorem dL_croaksFor_16 : decode cL_croaksFor 16 = .ok (.ireturn, 1) := by decide +kernel
theorem dL_croaksForByPonds_0 : decode cL_croaksForByPonds 0 = .ok (.aload_n 2, 1) := by decide +kernel
theorem dL_croaksForByPonds_1 : decode cL_croaksForByPonds 1 = .ok (.iconst 0, 1) := by decide +kernel
theorem dL_croaksForByPonds_2 : decode cL_croaksForByPonds 2 = .ok (.aload_n 0, 1) := by decide +kernel
theorem dL_croaksForByPonds_3 : decode cL_croaksForByPonds 3 = .ok (.iload_n 1, 1) := by decide +kernel
theorem dL_croaksForByPonds_4 : decode cL_croaksForByPonds 4 = .ok (.invokevirtual 114, 3) := by decide +kernel
theorem dL_croaksForByPonds_7 : decode cL_croaksForByPonds 7 = .ok (.i2l, 1) := by decide +kernel
theorem dL_croaksForByPonds_8 : decode cL_croaksForByPonds 8 = .ok (.lastore, 1) := by decide +kernel
theorem dL_croaksForByPonds_9 : decode cL_croaksForByPonds 9 = .ok (.goto 6, 3) := by decide +kernel
theorem dL_croaksForByPonds_12 : decode cL_croaksForByPonds 12 = .ok (.astore_n 3, 1) := by decide +kernel
theorem dL_croaksForByPonds_13 : decode cL_croaksForByPonds 13 = .ok (.iconst 1, 1) := by decide +kernel
theorem dL_croaksForByPonds_14 : decode cL_croaksForByPonds 14 = .ok (.ireturn, 1) := by decide +kernel
theorem dL_croaksForByPonds_15 : decode cL_croaksForByPonds 15 = .ok (.iconst 0, 1) := by decide +kernel
theorem dL_croaksForByPonds_16 : decode cL_croaksForByPonds 16 = .ok (.ireturn, 1) := by decide +kernel
theorem dL_croaksAgainst_0 : decode cL_croaksAgainst 0 = .ok (.aload_n 2, 1) := by decide +kernel
theorem dL_croaksAgainst_1 : decode cL_croaksAgainst 1 = .ok (.iconst 0, 1) := by decide +kernel
theorem dL_croaksAgainst_2 : decode cL_croaksAgainst 2 = .ok (.aload_n 0, 1) := by decide +kernel
theorem dL_croaksAgainst_3 : decode cL_croaksAgainst 3 = .ok (.iload_n 1, 1) := by decide +kernel
theorem dL_croaksAgainst_4 : decode cL_croaksAgainst 4 = .ok (.invokevirtual 117, 3) := by decide +kernel
theorem dL_croaksAgainst_7 : decode cL_croaksAgainst 7 = .ok (.i2l, 1) := by decide +kernel
theorem dL_croaksAgainst_8 : decode cL_croaksAgainst 8 = .ok (.lastore, 1) := by decide +kernel
theorem dL_croaksAgainst_9 : decode cL_croaksAgainst 9 = .ok (.goto 6, 3) := by decide +kernel
theorem dL_croaksAgainst_12 : decode cL_croaksAgainst 12 = .ok (.astore_n 3, 1) := by decide +kernel
theorem dL_croaksAgainst_13 : decode cL_croaksAgainst 13 = .ok (.iconst 1, 1) := by decide +kernel
theorem dL_croaksAgainst_14 : decode cL_croaksAgainst 14 = .ok (.ireturn, 1) := by decide +kernel
theorem dL_croaksAgainst_15 : decode cL_croaksAgainst 15 = .ok (.iconst 0, 1) := by decide +kernel
theorem dL_croaksAgainst_16 : decode cL_croaksAgainst 16 = .ok (.ireturn, 1) := by decide +kernel
theorem dL_strongestFrog_0 : decode cL_strongestFrog 0 = .ok (.aload_n 2, 1) := by decide +kernel
theorem dL_strongestFrog_1 : decode cL_strongestFrog 1 = .ok (.iconst 0, 1) := by decide +kernel
theorem dL_strongestFrog_2 : decode cL_strongestFrog 2 = .ok (.aload_n 0, 1) := by decide +kernel
theorem dL_strongestFrog_3 : decode cL_strongestFrog 3 = .ok (.iload_n 1, 1) := by decide +kernel
theorem dL_strongestFrog_4 : decode cL_strongestFrog 4 = .ok (.invokevirtual 120, 3) := by decide +kernel
theorem dL_strongestFrog_7 : decode cL_strongestFrog 7 = .ok (.i2l, 1) := by decide +kernel
theorem dL_strongestFrog_8 : decode cL_strongestFrog 8 = .ok (.lastore, 1) := by decide +kernel
theorem dL_strongestFrog_9 : decode cL_strongestFrog 9 = .ok (.goto 9, 3) := by decide +kernel
theorem dL_strongestFrog_12 : decode cL_strongestFrog 12 = .ok (.astore_n 3, 1) := by decide +kernel
theorem dL_strongestFrog_13 : decode cL_strongestFrog 13 = .ok (.iconst 1, 1) := by decide +kernel
theorem dL_strongestFrog_14 : decode cL_strongestFrog 14 = .ok (.ireturn, 1) := by decide +kernel
theorem dL_strongestFrog_15 : decode cL_strongestFrog 15 = .ok (.astore_n 3, 1) := by decide +kernel
theorem dL_strongestFrog_16 : decode cL_strongestFrog 16 = .ok (.iconst 2, 1) := by decide +kernel
theorem dL_strongestFrog_17 : decode cL_strongestFrog 17 = .ok (.ireturn, 1) := by decide +kernel
theorem dL_strongestFrog_18 : decode cL_strongestFrog 18 = .ok (.iconst 0, 1) := by decide +kernel
theorem dL_strongestFrog_19 : decode cL_strongestFrog 19 = .ok (.ireturn, 1) := by decide +kernel
theorem dL_shareFor_0 : decode cL_shareFor 0 = .ok (.aload_n 2, 1) := by decide +kernel
theorem dL_shareFor_1 : decode cL_shareFor 1 = .ok (.iconst 0, 1) := by decide +kernel
theorem dL_shareFor_2 : decode cL_shareFor 2 = .ok (.aload_n 0, 1) := by decide +kernel
theorem dL_shareFor_3 : decode cL_shareFor 3 = .ok (.iload_n 1, 1) := by decide +kernel
theorem dL_shareFor_4 : decode cL_shareFor 4 = .ok (.invokevirtual 123, 3) := by decide +kernel
theorem dL_shareFor_7 : decode cL_shareFor 7 = .ok (.f2d, 1) := by decide +kernel
theorem dL_shareFor_8 : decode cL_shareFor 8 = .ok (.dastore, 1) := by decide +kernel
theorem dL_shareFor_9 : decode cL_shareFor 9 = .ok (.goto 9, 3) := by decide +kernel
theorem dL_shareFor_12 : decode cL_shareFor 12 = .ok (.astore_n 3, 1) := by decide +kernel
theorem dL_shareFor_13 : decode cL_shareFor 13 = .ok (.iconst 1, 1) := by decide +kernel
theorem dL_shareFor_14 : decode cL_shareFor 14 = .ok (.ireturn, 1) := by decide +kernel
theorem dL_shareFor_15 : decode cL_shareFor 15 = .ok (.astore_n 3, 1) := by decide +kernel
theorem dL_shareFor_16 : decode cL_shareFor 16 = .ok (.iconst 2, 1) := by decide +kernel
theorem dL_shareFor_17 : decode cL_shareFor 17 = .ok (.ireturn, 1) := by decide +kernel
theorem dL_shareFor_18 : decode cL_shareFor 18 = .ok (.iconst 0, 1) := by decide +kernel
theorem dL_shareFor_19 : decode cL_shareFor 19 = .ok (.ireturn, 1) := by decide +kernel
theorem dL_append_0 : decode cL_append 0 = .ok (.aload_n 2, 1) := by decide +kernel
theorem dL_append_1 : decode cL_append 1 = .ok (.iconst 0, 1) := by decide +kernel
theorem dL_append_2 : decode cL_append 2 = .ok (.aload_n 0, 1) := by decide +kernel
theorem dL_append_3 : decode cL_append 3 = .ok (.iload_n 1, 1) := by decide +kernel
theorem dL_append_4 : decode cL_append 4 = .ok (.invokevirtual 129, 3) := by decide +kernel
theorem dL_append_7 : decode cL_append 7 = .ok (.i2l, 1) := by decide +kernel
theorem dL_append_8 : decode cL_append 8 = .ok (.lastore, 1) := by decide +kernel
theorem dL_append_9 : decode cL_append 9 = .ok (.goto 9, 3) := by decide +kernel
theorem dL_append_12 : decode cL_append 12 = .ok (.astore_n 3, 1) := by decide +kernel
theorem dL_append_13 : decode cL_append 13 = .ok (.iconst 1, 1) := by decide +kernel
theorem dL_append_14 : decode cL_append 14 = .ok (.ireturn, 1) := by decide +kernel
theorem dL_append_15 : decode cL_append 15 = .ok (.astore_n 3, 1) := by decide +kernel
theorem dL_append_16 : decode cL_append 16 = .ok (.iconst 2, 1) := by decide +kernel
theorem dL_append_17 : decode cL_append 17 = .ok (.ireturn, 1) := by decide +kernel
theorem dL_append_18 : decode cL_append 18 = .ok (.iconst 0, 1) := by decide +kernel
theorem dL_append_19 : decode cL_append 19 = .ok (.ireturn, 1) := by decide +kernel
theorem dL_run_0 : decode cL_run 0 = .ok (.aload_n 1, 1) := by decide +kernel
theorem dL_run_1 : decode cL_run 1 = .ok (.iconst 0, 1) := by decide +kernel
theorem dL_run_2 : decode cL_run 2 = .ok (.aload_n 0, 1) := by decide +kernel
theorem dL_run_3 : decode cL_run 3 = .ok (.invokevirtual 133, 3) := by decide +kernel
theorem dL_run_6 : decode cL_run 6 = .ok (.i2l, 1) := by decide +kernel
theorem dL_run_7 : decode cL_run 7 = .ok (.lastore, 1) := by decide +kernel
theorem dL_run_8 : decode cL_run 8 = .ok (.goto 9, 3) := by decide +kernel
theorem dL_run_11 : decode cL_run 11 = .ok (.astore_n 2, 1) := by decide +kernel
theorem dL_run_12 : decode cL_run 12 = .ok (.iconst 1, 1) := by decide +kernel
theorem dL_run_13 : decode cL_run 13 = .ok (.ireturn, 1) := by decide +kernel
theorem dL_run_14 : decode cL_run 14 = .ok (.astore_n 2, 1) := by decide +kernel
theorem dL_run_15 : decode cL_run 15 = .ok (.iconst 2, 1) := by decide +kernel
theorem dL_run_16 : decode cL_run 16 = .ok (.ireturn, 1) := by decide +kernel
theorem dL_run_17 : decode cL_run 17 = .ok (.iconst 0, 1) := by decide +kernel
theorem dL_run_18 : decode cL_run 18 = .ok (.ireturn, 1) := by decide +kernel
theorem dL_errorPosition_0 : decode cL_errorPosition 0 = .ok (.aload_n 1, 1) := by decide +kernel
theorem dL_errorPosition_1 : decode cL_errorPosition 1 = .ok (.iconst 0, 1) := by decide +kernel
theorem dL_errorPosition_2 : decode cL_errorPosition 2 = .ok (.aload_n 0, 1) := by decide +kernel
theorem dL_errorPosition_3 : decode cL_errorPosition 3 = .ok (.invokevirtual 137, 3) := by decide +kernel
theorem dL_errorPosition_6 : decode cL_errorPosition 6 = .ok (.i2l, 1) := by decide +kernel
theorem dL_errorPosition_7 : decode cL_errorPosition 7 = .ok (.lastore, 1) := by decide +kernel
theorem dL_errorPosition_8 : decode cL_errorPosition 8 = .ok (.goto 6, 3) := by decide +kernel
theorem dL_errorPosition_11 : decode cL_errorPosition 11 = .ok (.astore_n 2, 1) := by decide +kernel
theorem dL_errorPosition_12 : decode cL_errorPosition 12 = .ok (.iconst 1, 1) := by decide +kernel
theorem dL_errorPosition_13 : decode cL_errorPosition 13 = .ok (.ireturn, 1) := by decide +kernel
theorem dL_errorPosition_14 : decode cL_errorPosition 14 = .ok (.iconst 0, 1) := by decide +kernel
theorem dL_errorPosition_15 : decode cL_errorPosition 15 = .ok (.ireturn, 1) := by decide +kernel
theorem dL_failedCommand_0 : decode cL_failedCommand 0 = .ok (.aload_n 1, 1) := by decide +kernel
theorem dL_failedCommand_1 : decode cL_failedCommand 1 = .ok (.iconst 0, 1) := by decide +kernel
theorem dL_failedCommand_2 : decode cL_failedCommand 2 = .ok (.aload_n 0, 1) := by decide +kernel
theorem dL_failedCommand_3 : decode cL_failedCommand 3 = .ok (.invokevirtual 140, 3) := by decide +kernel
theorem dL_failedCommand_6 : decode cL_failedCommand 6 = .ok (.i2l, 1) := by decide +kernel
theorem dL_failedCommand_7 : decode cL_failedCommand 7 = .ok (.lastore, 1) := by decide +kernel
theorem dL_failedCommand_8 : decode cL_failedCommand 8 = .ok (.goto 6, 3) := by decide +kernel
theorem dL_failedCommand_11 : decode cL_failedCommand 11 = .ok (.astore_n 2, 1) := by decide +kernel
theorem dL_failedCommand_12 : decode cL_failedCommand 12 = .ok (.iconst 1, 1) := by decide +kernel
theorem dL_failedCommand_13 : decode cL_failedCommand 13 = .ok (.ireturn, 1) := by decide +kernel
theorem dL_failedCommand_14 : decode cL_failedCommand 14 = .ok (.iconst 0, 1) := by decide +kernel
theorem dL_failedCommand_15 : decode cL_failedCommand 15 = .ok (.ireturn, 1) := by decide +kernel
theorem dL_describeList_0 : decode cL_describeList 0 = .ok (.aload_n 2, 1) := by decide +kernel
theorem dL_describeList_1 : decode cL_describeList 1 = .ok (.iconst 0, 1) := by decide +kernel
theorem dL_describeList_2 : decode cL_describeList 2 = .ok (.aload_n 0, 1) := by decide +kernel
theorem dL_describeList_3 : decode cL_describeList 3 = .ok (.iload_n 1, 1) := by decide +kernel
theorem dL_describeList_4 : decode cL_describeList 4 = .ok (.invokevirtual 143, 3) := by decide +kernel
theorem dL_describeList_7 : decode cL_describeList 7 = .ok (.i2l, 1) := by decide +kernel
theorem dL_describeList_8 : decode cL_describeList 8 = .ok (.lastore, 1) := by decide +kernel
theorem dL_describeList_9 : decode cL_describeList 9 = .ok (.goto 6, 3) := by decide +kernel
theorem dL_describeList_12 : decode cL_describeList 12 = .ok (.astore_n 3, 1) := by decide +kernel
theorem dL_describeList_13 : decode cL_describeList 13 = .ok (.iconst 1, 1) := by decide +kernel
theorem dL_describeList_14 : decode cL_describeList 14 = .ok (.ireturn, 1) := by decide +kernel
theorem dL_describeList_15 : decode cL_describeList 15 = .ok (.iconst 0, 1) := by decide +kernel
theorem dL_describeList_16 : decode cL_describeList 16 = .ok (.ireturn, 1) := by decide +kernel
theorem dL_lineAt_0 : decode cL_lineAt 0 = .ok (.aload_n 2, 1) := by decide +kernel
theorem dL_lineAt_1 : decode cL_lineAt 1 = .ok (.iconst 0, 1) := by decide +kernel
theorem dL_lineAt_2 : decode cL_lineAt 2 = .ok (.aload_n 0, 1) := by decide +kernel
theorem dL_lineAt_3 : decode cL_lineAt 3 = .ok (.iload_n 1, 1) := by decide +kernel
theorem dL_lineAt_4 : decode cL_lineAt 4 = .ok (.invokevirtual 146, 3) := by decide +kernel
theorem dL_lineAt_7 : decode cL_lineAt 7 = .ok (.i2l, 1) := by decide +kernel
theorem dL_lineAt_8 : decode cL_lineAt 8 = .ok (.lastore, 1) := by decide +kernel
theorem dL_lineAt_9 : decode cL_lineAt 9 = .ok (.goto 6, 3) := by decide +kernel
theorem dL_lineAt_12 : decode cL_lineAt 12 = .ok (.astore_n 3, 1) := by decide +kernel
theorem dL_lineAt_13 : decode cL_lineAt 13 = .ok (.iconst 1, 1) := by decide +kernel
theorem dL_lineAt_14 : decode cL_lineAt 14 = .ok (.ireturn, 1) := by decide +kernel
theorem dL_lineAt_15 : decode cL_lineAt 15 = .ok (.iconst 0, 1) := by decide +kernel
theorem dL_lineAt_16 : decode cL_lineAt 16 = .ok (.ireturn, 1) := by decide +kernel
theorem dL_meanSittingWeight_0 : decode cL_meanSittingWeight 0 = .ok (.aload_n 1, 1) := by decide +kernel
theorem dL_meanSittingWeight_1 : decode cL_meanSittingWeight 1 = .ok (.iconst 0, 1) := by decide +kernel
theorem dL_meanSittingWeight_2 : decode cL_meanSittingWeight 2 = .ok (.aload_n 0, 1) := by decide +kernel
theorem dL_meanSittingWeight_3 : decode cL_meanSittingWeight 3 = .ok (.invokevirtual 150, 3) := by decide +kernel
theorem dL_meanSittingWeight_6 : decode cL_meanSittingWeight 6 = .ok (.dastore, 1) := by decide +kernel
theorem dL_meanSittingWeight_7 : decode cL_meanSittingWeight 7 = .ok (.goto 6, 3) := by decide +kernel
theorem dL_meanSittingWeight_10 : decode cL_meanSittingWeight 10 = .ok (.astore_n 2, 1) := by decide +kernel
theorem dL_meanSittingWeight_11 : decode cL_meanSittingWeight 11 = .ok (.iconst 1, 1) := by decide +kernel
theorem dL_meanSittingWeight_12 : decode cL_meanSittingWeight 12 = .ok (.ireturn, 1) := by decide +kernel
theorem dL_meanSittingWeight_13 : decode cL_meanSittingWeight 13 = .ok (.iconst 0, 1) := by decide +kernel
theorem dL_meanSittingWeight_14 : decode cL_meanSittingWeight 14 = .ok (.ireturn, 1) := by decide +kernel
theorem dL_undo_0 : decode cL_undo 0 = .ok (.aload_n 1, 1) := by decide +kernel
theorem dL_undo_1 : decode cL_undo 1 = .ok (.iconst 0, 1) := by decide +kernel
theorem dL_undo_2 : decode cL_undo 2 = .ok (.aload_n 0, 1) := by decide +kernel
theorem dL_undo_3 : decode cL_undo 3 = .ok (.invokevirtual 154, 3) := by decide +kernel
theorem dL_undo_6 : decode cL_undo 6 = .ok (.i2l, 1) := by decide +kernel
theorem dL_undo_7 : decode cL_undo 7 = .ok (.lastore, 1) := by decide +kernel
theorem dL_undo_8 : decode cL_undo 8 = .ok (.goto 6, 3) := by decide +kernel
theorem dL_undo_11 : decode cL_undo 11 = .ok (.astore_n 2, 1) := by decide +kernel
theorem dL_undo_12 : decode cL_undo 12 = .ok (.iconst 1, 1) := by decide +kernel
theorem dL_undo_13 : decode cL_undo 13 = .ok (.ireturn, 1) := by decide +kernel
theorem dL_undo_14 : decode cL_undo 14 = .ok (.iconst 0, 1) := by decide +kernel
theorem dL_undo_15 : decode cL_undo 15 = .ok (.ireturn, 1) := by decide +kernel
theorem dL_restore_0 : decode cL_restore 0 = .ok (.aload_n 1, 1) := by decide +kernel
theorem dL_restore_1 : decode cL_restore 1 = .ok (.iconst 0, 1) := by decide +kernel
theorem dL_restore_2 : decode cL_restore 2 = .ok (.aload_n 0, 1) := by decide +kernel
theorem dL_restore_3 : decode cL_restore 3 = .ok (.invokevirtual 157, 3) := by decide +kernel
theorem dL_restore_6 : decode cL_restore 6 = .ok (.i2l, 1) := by decide +kernel
theorem dL_restore_7 : decode cL_restore 7 = .ok (.lastore, 1) := by decide +kernel
theorem dL_restore_8 : decode cL_restore 8 = .ok (.goto 6, 3) := by decide +kernel
theorem dL_restore_11 : decode cL_restore 11 = .ok (.astore_n 2, 1) := by decide +kernel
theorem dL_restore_12 : decode cL_restore 12 = .ok (.iconst 1, 1) := by decide +kernel
theorem dL_restore_13 : decode cL_restore 13 = .ok (.ireturn, 1) := by decide +kernel
theorem dL_restore_14 : decode cL_restore 14 = .ok (.iconst 0, 1) := by decide +kernel
theorem dL_restore_15 : decode cL_restore 15 = .ok (.ireturn, 1) := by decide +kernel
