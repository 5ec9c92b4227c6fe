theorem dX12_fitOf_0 : decode cX12_fitOf 0 = .ok (.aload_n 0, 1) := by decide +kernel
theorem dX12_fitOf_1 : decode cX12_fitOf 1 = .ok (.getfield 35, 3) := by decide +kernel
theorem dX12_fitOf_4 : decode cX12_fitOf 4 = .ok (.iconst 1, 1) := by decide +kernel
theorem dX12_fitOf_5 : decode cX12_fitOf 5 = .ok (.iaload, 1) := by decide +kernel
theorem dX12_fitOf_6 : decode cX12_fitOf 6 = .ok (.aload_n 0, 1) := by decide +kernel
theorem dX12_fitOf_7 : decode cX12_fitOf 7 = .ok (.getfield 35, 3) := by decide +kernel
theorem dX12_fitOf_10 : decode cX12_fitOf 10 = .ok (.bipush 21, 2) := by decide +kernel
theorem dX12_fitOf_12 : decode cX12_fitOf 12 = .ok (.iload_n 1, 1) := by decide +kernel
theorem dX12_fitOf_13 : decode cX12_fitOf 13 = .ok (.iadd, 1) := by decide +kernel
theorem dX12_fitOf_14 : decode cX12_fitOf 14 = .ok (.iaload, 1) := by decide +kernel
theorem dX12_fitOf_15 : decode cX12_fitOf 15 = .ok (.isub, 1) := by decide +kernel
theorem dX12_fitOf_16 : decode cX12_fitOf 16 = .ok (.ireturn, 1) := by decide +kernel
theorem dX12_pea_0 : decode cX12_pea 0 = .ok (.aload_n 0, 1) := by decide +kernel
theorem dX12_pea_1 : decode cX12_pea 1 = .ok (.iconst 0, 1) := by decide +kernel
theorem dX12_pea_2 : decode cX12_pea 2 = .ok (.putfield 63, 3) := by decide +kernel
theorem dX12_pea_5 : decode cX12_pea 5 = .ok (.aload_n 0, 1) := by decide +kernel
theorem dX12_pea_6 : decode cX12_pea 6 = .ok (.iconst 0, 1) := by decide +kernel
theorem dX12_pea_7 : decode cX12_pea 7 = .ok (.putfield 66, 3) := by decide +kernel
theorem dX12_pea_10 : decode cX12_pea 10 = .ok (.aload_n 0, 1) := by decide +kernel
theorem dX12_pea_11 : decode cX12_pea 11 = .ok (.iload_n 1, 1) := by decide +kernel
theorem dX12_pea_12 : decode cX12_pea 12 = .ok (.invokevirtual 322, 3) := by decide +kernel
theorem dX12_pea_15 : decode cX12_pea 15 = .ok (.ifCond .ne 9, 3) := by decide +kernel
theorem dX12_pea_18 : decode cX12_pea 18 = .ok (.aload_n 0, 1) := by decide +kernel
theorem dX12_pea_19 : decode cX12_pea 19 = .ok (.iconst 2, 1) := by decide +kernel
theorem dX12_pea_20 : decode cX12_pea 20 = .ok (.invokevirtual 319, 3) := by decide +kernel
theorem dX12_pea_23 : decode cX12_pea 23 = .ok (.ireturn, 1) := by decide +kernel
theorem dX12_pea_24 : decode cX12_pea 24 = .ok (.iload_n 2, 1) := by decide +kernel
theorem dX12_pea_25 : decode cX12_pea 25 = .ok (.tableswitch 134 0 5 #[39, 49, 59, 69, 79, 102], 39) := by decide +kernel
theorem dX12_pea_64 : decode cX12_pea 64 = .ok (.aload_n 0, 1) := by decide +kernel
theorem dX12_pea_65 : decode cX12_pea 65 = .ok (.getfield 35, 3) := by decide +kernel
theorem dX12_pea_68 : decode cX12_pea 68 = .ok (.bipush 21, 2) := by decide +kernel
theorem dX12_pea_70 : decode cX12_pea 70 = .ok (.iload_n 1, 1) := by decide +kernel
theorem dX12_pea_71 : decode cX12_pea 71 = .ok (.iadd, 1) := by decide +kernel
theorem dX12_pea_72 : decode cX12_pea 72 = .ok (.iaload, 1) := by decide +kernel
theorem dX12_pea_73 : decode cX12_pea 73 = .ok (.ireturn, 1) := by decide +kernel
theorem dX12_pea_74 : decode cX12_pea 74 = .ok (.aload_n 0, 1) := by decide +kernel
theorem dX12_pea_75 : decode cX12_pea 75 = .ok (.getfield 35, 3) := by decide +kernel
theorem dX12_pea_78 : decode cX12_pea 78 = .ok (.bipush 29, 2) := by decide +kernel
theorem dX12_pea_80 : decode cX12_pea 80 = .ok (.iload_n 1, 1) := by decide +kernel
theorem dX12_pea_81 : decode cX12_pea 81 = .ok (.iadd, 1) := by decide +kernel
theorem dX12_pea_82 : decode cX12_pea 82 = .ok (.iaload, 1) := by decide +kernel
theorem dX12_pea_83 : decode cX12_pea 83 = .ok (.ireturn, 1) := by decide +kernel
theorem dX12_pea_84 : decode cX12_pea 84 = .ok (.aload_n 0, 1) := by decide +kernel
theorem dX12_pea_85 : decode cX12_pea 85 = .ok (.getfield 35, 3) := by decide +kernel
theorem dX12_pea_88 : decode cX12_pea 88 = .ok (.bipush 37, 2) := by decide +kernel
theorem dX12_pea_90 : decode cX12_pea 90 = .ok (.iload_n 1, 1) := by decide +kernel
theorem dX12_pea_91 : decode cX12_pea 91 = .ok (.iadd, 1) := by decide +kernel
theorem dX12_pea_92 : decode cX12_pea 92 = .ok (.iaload, 1) := by decide +kernel
theorem dX12_pea_93 : decode cX12_pea 93 = .ok (.ireturn, 1) := by decide +kernel
theorem dX12_pea_94 : decode cX12_pea 94 = .ok (.aload_n 0, 1) := by decide +kernel
theorem dX12_pea_95 : decode cX12_pea 95 = .ok (.getfield 35, 3) := by decide +kernel
theorem dX12_pea_98 : decode cX12_pea 98 = .ok (.bipush 45, 2) := by decide +kernel
theorem dX12_pea_100 : decode cX12_pea 100 = .ok (.iload_n 1, 1) := by decide +kernel
theorem dX12_pea_101 : decode cX12_pea 101 = .ok (.iadd, 1) := by decide +kernel
theorem dX12_pea_102 : decode cX12_pea 102 = .ok (.iaload, 1) := by decide +kernel
theorem dX12_pea_103 : decode cX12_pea 103 = .ok (.ireturn, 1) := by decide +kernel
theorem dX12_pea_104 : decode cX12_pea 104 = .ok (.aload_n 0, 1) := by decide +kernel
theorem dX12_pea_105 : decode cX12_pea 105 = .ok (.iload_n 1, 1) := by decide +kernel
theorem dX12_pea_106 : decode cX12_pea 106 = .ok (.invokevirtual 325, 3) := by decide +kernel
theorem dX12_pea_109 : decode cX12_pea 109 = .ok (.ifCond .ge 12, 3) := by decide +kernel
theorem dX12_pea_112 : decode cX12_pea 112 = .ok (.aload_n 0, 1) := by decide +kernel
theorem dX12_pea_113 : decode cX12_pea 113 = .ok (.bipush 9, 2) := by decide +kernel
theorem dX12_pea_115 : decode cX12_pea 115 = .ok (.invokevirtual 319, 3) := by decide +kernel
theorem dX12_pea_118 : decode cX12_pea 118 = .ok (.goto 8, 3) := by decide +kernel
theorem dX12_pea_121 : decode cX12_pea 121 = .ok (.aload_n 0, 1) := by decide +kernel
theorem dX12_pea_122 : decode cX12_pea 122 = .ok (.iload_n 1, 1) := by decide +kernel
theorem dX12_pea_123 : decode cX12_pea 123 = .ok (.invokevirtual 325, 3) := by decide +kernel
theorem dX12_pea_126 : decode cX12_pea 126 = .ok (.ireturn, 1) := by decide +kernel
theorem dX12_pea_127 : decode cX12_pea 127 = .ok (.aload_n 0, 1) := by decide +kernel
theorem dX12_pea_128 : decode cX12_pea 128 = .ok (.iload_n 1, 1) := by decide +kernel
theorem dX12_pea_129 : decode cX12_pea 129 = .ok (.invokevirtual 325, 3) := by decide +kernel
theorem dX12_pea_132 : decode cX12_pea 132 = .ok (.ifCond .ge 12, 3) := by decide +kernel
theorem dX12_pea_135 : decode cX12_pea 135 = .ok (.aload_n 0, 1) := by decide +kernel
theorem dX12_pea_136 : decode cX12_pea 136 = .ok (.bipush 9, 2) := by decide +kernel
theorem dX12_pea_138 : decode cX12_pea 138 = .ok (.invokevirtual 319, 3) := by decide +kernel
theorem dX12_pea_141 : decode cX12_pea 141 = .ok (.goto 17, 3) := by decide +kernel
theorem dX12_pea_144 : decode cX12_pea 144 = .ok (.aload_n 0, 1) := by decide +kernel
theorem dX12_pea_145 : decode cX12_pea 145 = .ok (.iload_n 1, 1) := by decide +kernel
theorem dX12_pea_146 : decode cX12_pea 146 = .ok (.invokevirtual 325, 3) := by decide +kernel
theorem dX12_pea_149 : decode cX12_pea 149 = .ok (.iconst 2, 1) := by decide +kernel
theorem dX12_pea_150 : decode cX12_pea 150 = .ok (.if_icmp .le 7, 3) := by decide +kernel
theorem dX12_pea_153 : decode cX12_pea 153 = .ok (.iconst 1, 1) := by decide +kernel
theorem dX12_pea_154 : decode cX12_pea 154 = .ok (.goto 4, 3) := by decide +kernel
theorem dX12_pea_157 : decode cX12_pea 157 = .ok (.iconst 0, 1) := by decide +kernel
theorem dX12_pea_158 : decode cX12_pea 158 = .ok (.ireturn, 1) := by decide +kernel
theorem dX12_pea_159 : decode cX12_pea 159 = .ok (.aload_n 0, 1) := by decide +kernel
theorem dX12_pea_160 : decode cX12_pea 160 = .ok (.iconst 5, 1) := by decide +kernel
theorem dX12_pea_161 : decode cX12_pea 161 = .ok (.invokevirtual 319, 3) := by decide +kernel
theorem dX12_pea_164 : decode cX12_pea 164 = .ok (.ireturn, 1) := by decide +kernel
theorem dX12_isShooterAt_0 : decode cX12_isShooterAt 0 = .ok (.iload_n 1, 1) := by decide +kernel
theorem dX12_isShooterAt_1 : decode cX12_isShooterAt 1 = .ok (.i2l, 1) := by decide +kernel
theorem dX12_isShooterAt_2 : decode cX12_isShooterAt 2 = .ok (.lconst 0, 1) := by decide +kernel
theorem dX12_isShooterAt_3 : decode cX12_isShooterAt 3 = .ok (.aload_n 0, 1) := by decide +kernel
theorem dX12_isShooterAt_4 : decode cX12_isShooterAt 4 = .ok (.getfield 35, 3) := by decide +kernel
theorem dX12_isShooterAt_7 : decode cX12_isShooterAt 7 = .ok (.bipush 6, 2) := by decide +kernel
theorem dX12_isShooterAt_9 : decode cX12_isShooterAt 9 = .ok (.iaload, 1) := by decide +kernel
theorem dX12_isShooterAt_10 : decode cX12_isShooterAt 10 = .ok (.iconst 1, 1) := by decide +kernel
theorem dX12_isShooterAt_11 : decode cX12_isShooterAt 11 = .ok (.isub, 1) := by decide +kernel
theorem dX12_isShooterAt_12 : decode cX12_isShooterAt 12 = .ok (.i2l, 1) := by decide +kernel
theorem dX12_isShooterAt_13 : decode cX12_isShooterAt 13 = .ok (.invokestatic 98, 3) := by decide +kernel
theorem dX12_isShooterAt_16 : decode cX12_isShooterAt 16 = .ok (.ireturn, 1) := by decide +kernel
theorem dX12_holeAt_0 : decode cX12_holeAt 0 = .ok (.bipush 83, 2) := by decide +kernel
theorem dX12_holeAt_2 : decode cX12_holeAt 2 = .ok (.iconst 4, 1) := by decide +kernel
theorem dX12_holeAt_3 : decode cX12_holeAt 3 = .ok (.iload_n 0, 1) := by decide +kernel
theorem dX12_holeAt_4 : decode cX12_holeAt 4 = .ok (.imul, 1) := by decide +kernel
theorem dX12_holeAt_5 : decode cX12_holeAt 5 = .ok (.iadd, 1) := by decide +kernel
theorem dX12_holeAt_6 : decode cX12_holeAt 6 = .ok (.ireturn, 1) := by decide +kernel
theorem dX12_isHoleOf_0 : decode cX12_isHoleOf 0 = .ok (.iload_n 2, 1) := by decide +kernel
theorem dX12_isHoleOf_1 : decode cX12_isHoleOf 1 = .ok (.ifCond .lt 18, 3) := by decide +kernel
theorem dX12_isHoleOf_4 : decode cX12_isHoleOf 4 = .ok (.aload_n 0, 1) := by decide +kernel
theorem dX12_isHoleOf_5 : decode cX12_isHoleOf 5 = .ok (.getfield 35, 3) := by decide +kernel
theorem dX12_isHoleOf_8 : decode cX12_isHoleOf 8 = .ok (.iload_n 1, 1) := by decide +kernel
theorem dX12_isHoleOf_9 : decode cX12_isHoleOf 9 = .ok (.invokestatic 474, 3) := by decide +kernel
theorem dX12_isHoleOf_12 : decode cX12_isHoleOf 12 = .ok (.iconst 2, 1) := by decide +kernel
theorem dX12_isHoleOf_13 : decode cX12_isHoleOf 13 = .ok (.iadd, 1) := by decide +kernel
theorem dX12_isHoleOf_14 : decode cX12_isHoleOf 14 = .ok (.iaload, 1) := by decide +kernel
theorem dX12_isHoleOf_15 : decode cX12_isHoleOf 15 = .ok (.iload_n 2, 1) := by decide +kernel
theorem dX12_isHoleOf_16 : decode cX12_isHoleOf 16 = .ok (.if_icmp .ne 26, 3) := by decide +kernel
theorem dX12_isHoleOf_19 : decode cX12_isHoleOf 19 = .ok (.iload_n 3, 1) := by decide +kernel
theorem dX12_isHoleOf_20 : decode cX12_isHoleOf 20 = .ok (.ifCond .lt 18, 3) := by decide +kernel
theorem dX12_isHoleOf_23 : decode cX12_isHoleOf 23 = .ok (.aload_n 0, 1) := by decide +kernel
theorem dX12_isHoleOf_24 : decode cX12_isHoleOf 24 = .ok (.getfield 35, 3) := by decide +kernel
theorem dX12_isHoleOf_27 : decode cX12_isHoleOf 27 = .ok (.iload_n 1, 1) := by decide +kernel
theorem dX12_isHoleOf_28 : decode cX12_isHoleOf 28 = .ok (.invokestatic 474, 3) := by decide +kernel
theorem dX12_isHoleOf_31 : decode cX12_isHoleOf 31 = .ok (.iconst 3, 1) := by decide +kernel
theorem dX12_isHoleOf_32 : decode cX12_isHoleOf 32 = .ok (.iadd, 1) := by decide +kernel
theorem dX12_isHoleOf_33 : decode cX12_isHoleOf 33 = .ok (.iaload, 1) := by decide +kernel
theorem dX12_isHoleOf_34 : decode cX12_isHoleOf 34 = .ok (.iload_n 3, 1) := by decide +kernel
theorem dX12_isHoleOf_35 : decode cX12_isHoleOf 35 = .ok (.if_icmp .ne 7, 3) := by decide +kernel
theorem dX12_isHoleOf_38 : decode cX12_isHoleOf 38 = .ok (.iconst 1, 1) := by decide +kernel
theorem dX12_isHoleOf_39 : decode cX12_isHoleOf 39 = .ok (.goto 4, 3) := by decide +kernel
theorem dX12_isHoleOf_42 : decode cX12_isHoleOf 42 = .ok (.iconst 0, 1) := by decide +kernel
theorem dX12_isHoleOf_43 : decode cX12_isHoleOf 43 = .ok (.ireturn, 1) := by decide +kernel
theorem dX12_holesOf_0 : decode cX12_holesOf 0 = .ok (.iconst 0, 1) := by decide +kernel
theorem dX12_holesOf_1 : decode cX12_holesOf 1 = .ok (.istore_n 3, 1) := by decide +kernel
theorem dX12_holesOf_2 : decode cX12_holesOf 2 = .ok (.iconst 0, 1) := by decide +kernel
theorem dX12_holesOf_3 : decode cX12_holesOf 3 = .ok (.istore 4, 2) := by decide +kernel
theorem dX12_holesOf_5 : decode cX12_holesOf 5 = .ok (.iload 4, 2) := by decide +kernel
theorem dX12_holesOf_7 : decode cX12_holesOf 7 = .ok (.aload_n 0, 1) := by decide +kernel
theorem dX12_holesOf_8 : decode cX12_holesOf 8 = .ok (.getfield 35, 3) := by decide +kernel
theorem dX12_holesOf_11 : decode cX12_holesOf 11 = .ok (.bipush 8, 2) := by decide +kernel
theorem dX12_holesOf_13 : decode cX12_holesOf 13 = .ok (.iaload, 1) := by decide +kernel
theorem dX12_holesOf_14 : decode cX12_holesOf 14 = .ok (.if_icmp .ge 28, 3) := by decide +kernel
theorem dX12_holesOf_17 : decode cX12_holesOf 17 = .ok (.iload_n 3, 1) := by decide +kernel
theorem dX12_holesOf_18 : decode cX12_holesOf 18 = .ok (.aload_n 0, 1) := by decide +kernel
theorem dX12_holesOf_19 : decode cX12_holesOf 19 = .ok (.iload 4, 2) := by decide +kernel
theorem dX12_holesOf_21 : decode cX12_holesOf 21 = .ok (.iload_n 1, 1) := by decide +kernel
theorem dX12_holesOf_22 : decode cX12_holesOf 22 = .ok (.iload_n 2, 1) := by decide +kernel
theorem dX12_holesOf_23 : decode cX12_holesOf 23 = .ok (.invokevirtual 328, 3) := by decide +kernel
theorem dX12_holesOf_26 : decode cX12_holesOf 26 = .ok (.ifCond .eq 7, 3) := by decide +kernel
theorem dX12_holesOf_29 : decode cX12_holesOf 29 = .ok (.iconst 1, 1) := by decide +kernel
theorem dX12_holesOf_30 : decode cX12_holesOf 30 = .ok (.goto 4, 3) := by decide +kernel
theorem dX12_holesOf_33 : decode cX12_holesOf 33 = .ok (.iconst 0, 1) := by decide +kernel
theorem dX12_holesOf_34 : decode cX12_holesOf 34 = .ok (.iadd, 1) := by decide +kernel
theorem dX12_holesOf_35 : decode cX12_holesOf 35 = .ok (.istore_n 3, 1) := by decide +kernel
theorem dX12_holesOf_36 : decode cX12_holesOf 36 = .ok (.iinc 4 1, 3) := by decide +kernel
theorem dX12_holesOf_39 : decode cX12_holesOf 39 = .ok (.goto (-34), 3) := by decide +kernel
theorem dX12_holesOf_42 : decode cX12_holesOf 42 = .ok (.iload_n 3, 1) := by decide +kernel
theorem dX12_holesOf_43 : decode cX12_holesOf 43 = .ok (.ireturn, 1) := by decide +kernel
theorem dX12_shooter_0 : decode cX12_shooter 0 = .ok (.aload_n 0, 1) := by decide +kernel
theorem dX12_shooter_1 : decode cX12_shooter 1 = .ok (.iconst 0, 1) := by decide +kernel
theorem dX12_shooter_2 : decode cX12_shooter 2 = .ok (.putfield 63, 3) := by decide +kernel
theorem dX12_shooter_5 : decode cX12_shooter 5 = .ok (.aload_n 0, 1) := by decide +kernel
theorem dX12_shooter_6 : decode cX12_shooter 6 = .ok (.iconst 0, 1) := by decide +kernel
theorem dX12_shooter_7 : decode cX12_shooter 7 = .ok (.putfield 66, 3) := by decide +kernel
theorem dX12_shooter_10 : decode cX12_shooter 10 = .ok (.aload_n 0, 1) := by decide +kernel
theorem dX12_shooter_11 : decode cX12_shooter 11 = .ok (.iload_n 1, 1) := by decide +kernel
theorem dX12_shooter_12 : decode cX12_shooter 12 = .ok (.invokevirtual 332, 3) := by decide +kernel
theorem dX12_shooter_15 : decode cX12_shooter 15 = .ok (.ifCond .ne 9, 3) := by decide +kernel
theorem dX12_shooter_18 : decode cX12_shooter 18 = .ok (.aload_n 0, 1) := by decide +kernel
theorem dX12_shooter_19 : decode cX12_shooter 19 = .ok (.iconst 2, 1) := by decide +kernel
theorem dX12_shooter_20 : decode cX12_shooter 20 = .ok (.invokevirtual 319, 3) := by decide +kernel
theorem dX12_shooter_23 : decode cX12_shooter 23 = .ok (.ireturn, 1) := by decide +kernel
theorem dX12_shooter_24 : decode cX12_shooter 24 = .ok (.iload_n 2, 1) := by decide +kernel
theorem dX12_shooter_25 : decode cX12_shooter 25 = .ok (.tableswitch 96 0 5 #[39, 49, 59, 69, 79, 89], 39) := by decide +kernel
theorem dX12_shooter_64 : decode cX12_shooter 64 = .ok (.aload_n 0, 1) := by decide +kernel
theorem dX12_shooter_65 : decode cX12_shooter 65 = .ok (.getfield 35, 3) := by decide +kernel
theorem dX12_shooter_68 : decode cX12_shooter 68 = .ok (.bipush 53, 2) := by decide +kernel
theorem dX12_shooter_70 : decode cX12_shooter 70 = .ok (.iload_n 1, 1) := by decide +kernel
theorem dX12_shooter_71 : decode cX12_shooter 71 = .ok (.iadd, 1) := by decide +kernel
theorem dX12_shooter_72 : decode cX12_shooter 72 = .ok (.iaload, 1) := by decide +kernel
theorem dX12_shooter_73 : decode cX12_shooter 73 = .ok (.ireturn, 1) := by decide +kernel
theorem dX12_shooter_74 : decode cX12_shooter 74 = .ok (.aload_n 0, 1) := by decide +kernel
theorem dX12_shooter_75 : decode cX12_shooter 75 = .ok (.getfield 35, 3) := by decide +kernel
theorem dX12_shooter_78 : decode cX12_shooter 78 = .ok (.bipush 59, 2) := by decide +kernel
theorem dX12_shooter_80 : decode cX12_shooter 80 = .ok (.iload_n 1, 1) := by decide +kernel
theorem dX12_shooter_81 : decode cX12_shooter 81 = .ok (.iadd, 1) := by decide +kernel
theorem dX12_shooter_82 : decode cX12_shooter 82 = .ok (.iaload, 1) := by decide +kernel
theorem dX12_shooter_83 : decode cX12_shooter 83 = .ok (.ireturn, 1) := by decide +kernel
theorem dX12_shooter_84 : decode cX12_shooter 84 = .ok (.aload_n 0, 1) := by decide +kernel
theorem dX12_shooter_85 : decode cX12_shooter 85 = .ok (.getfield 35, 3) := by decide +kernel
theorem dX12_shooter_88 : decode cX12_shooter 88 = .ok (.bipush 65, 2) := by decide +kernel
theorem dX12_shooter_90 : decode cX12_shooter 90 = .ok (.iload_n 1, 1) := by decide +kernel
theorem dX12_shooter_91 : decode cX12_shooter 91 = .ok (.iadd, 1) := by decide +kernel
theorem dX12_shooter_92 : decode cX12_shooter 92 = .ok (.iaload, 1) := by decide +kernel
theorem dX12_shooter_93 : decode cX12_shooter 93 = .ok (.ireturn, 1) := by decide +kernel
theorem dX12_shooter_94 : decode cX12_shooter 94 = .ok (.aload_n 0, 1) := by decide +kernel
theorem dX12_shooter_95 : decode cX12_shooter 95 = .ok (.getfield 35, 3) := by decide +kernel
theorem dX12_shooter_98 : decode cX12_shooter 98 = .ok (.bipush 71, 2) := by decide +kernel
theorem dX12_shooter_100 : decode cX12_shooter 100 = .ok (.iload_n 1, 1) := by decide +kernel
theorem dX12_shooter_101 : decode cX12_shooter 101 = .ok (.iadd, 1) := by decide +kernel
theorem dX12_shooter_102 : decode cX12_shooter 102 = .ok (.iaload, 1) := by decide +kernel
theorem dX12_shooter_103 : decode cX12_shooter 103 = .ok (.ireturn, 1) := by decide +kernel
theorem dX12_shooter_104 : decode cX12_shooter 104 = .ok (.aload_n 0, 1) := by decide +kernel
theorem dX12_shooter_105 : decode cX12_shooter 105 = .ok (.getfield 35, 3) := by decide +kernel
theorem dX12_shooter_108 : decode cX12_shooter 108 = .ok (.bipush 77, 2) := by decide +kernel
theorem dX12_shooter_110 : decode cX12_shooter 110 = .ok (.iload_n 1, 1) := by decide +kernel
theorem dX12_shooter_111 : decode cX12_shooter 111 = .ok (.iadd, 1) := by decide +kernel
theorem dX12_shooter_112 : decode cX12_shooter 112 = .ok (.iaload, 1) := by decide +kernel
theorem dX12_shooter_113 : decode cX12_shooter 113 = .ok (.ireturn, 1) := by decide +kernel
theorem dX12_shooter_114 : decode cX12_shooter 114 = .ok (.aload_n 0, 1) := by decide +kernel
theorem dX12_shooter_115 : decode cX12_shooter 115 = .ok (.iload_n 1, 1) := by decide +kernel
theorem dX12_shooter_116 : decode cX12_shooter 116 = .ok (.iconst (-1), 1) := by decide +kernel
theorem dX12_shooter_117 : decode cX12_shooter 117 = .ok (.invokevirtual 335, 3) := by decide +kernel
theorem dX12_shooter_120 : decode cX12_shooter 120 = .ok (.ireturn, 1) := by decide +kernel
theorem dX12_shooter_121 : decode cX12_shooter 121 = .ok (.aload_n 0, 1) := by decide +kernel
theorem dX12_shooter_122 : decode cX12_shooter 122 = .ok (.iconst 5, 1) := by decide +kernel
theorem dX12_shooter_123 : decode cX12_shooter 123 = .ok (.invokevirtual 319, 3) := by decide +kernel
theorem dX12_shooter_126 : decode cX12_shooter 126 = .ok (.ireturn, 1) := by decide +kernel
theorem dX12_isPuffing_0 : decode cX12_isPuffing 0 = .ok (.iload_n 0, 1) := by decide +kernel
theorem dX12_isPuffing_1 : decode cX12_isPuffing 1 = .ok (.i2l, 1) := by decide +kernel
theorem dX12_isPuffing_2 : decode cX12_isPuffing 2 = .ok (.lconst 1, 1) := by decide +kernel
theorem dX12_isPuffing_3 : decode cX12_isPuffing 3 = .ok (.iload_n 1, 1) := by decide +kernel
theorem dX12_isPuffing_4 : decode cX12_isPuffing 4 = .ok (.i2l, 1) := by decide +kernel
theorem dX12_isPuffing_5 : decode cX12_isPuffing 5 = .ok (.invokestatic 98, 3) := by decide +kernel
theorem dX12_isPuffing_8 : decode cX12_isPuffing 8 = .ok (.ireturn, 1) := by decide +kernel
theorem dX12_isSpit_0 : decode cX12_isSpit 0 = .ok (.iload_n 0, 1) := by decide +kernel
theorem dX12_isSpit_1 : decode cX12_isSpit 1 = .ok (.i2l, 1) := by decide +kernel
theorem dX12_isSpit_2 : decode cX12_isSpit 2 = .ok (.lconst 0, 1) := by decide +kernel
theorem dX12_isSpit_3 : decode cX12_isSpit 3 = .ok (.ldc2_w 359, 3) := by decide +kernel
theorem dX12_isSpit_6 : decode cX12_isSpit 6 = .ok (.invokestatic 98, 3) := by decide +kernel
theorem dX12_isSpit_9 : decode cX12_isSpit 9 = .ok (.ireturn, 1) := by decide +kernel
theorem dX12_paceOf_0 : decode cX12_paceOf 0 = .ok (.iload_n 2, 1) := by decide +kernel
theorem dX12_paceOf_1 : decode cX12_paceOf 1 = .ok (.aload_n 0, 1) := by decide +kernel
theorem dX12_paceOf_2 : decode cX12_paceOf 2 = .ok (.getfield 35, 3) := by decide +kernel
theorem dX12_paceOf_5 : decode cX12_paceOf 5 = .ok (.iconst 0, 1) := by decide +kernel
theorem dX12_paceOf_6 : decode cX12_paceOf 6 = .ok (.iaload, 1) := by decide +kernel
theorem dX12_paceOf_7 : decode cX12_paceOf 7 = .ok (.imul, 1) := by decide +kernel
theorem dX12_paceOf_8 : decode cX12_paceOf 8 = .ok (.aload_n 0, 1) := by decide +kernel
theorem dX12_paceOf_9 : decode cX12_paceOf 9 = .ok (.getfield 35, 3) := by decide +kernel
theorem dX12_paceOf_12 : decode cX12_paceOf 12 = .ok (.bipush 29, 2) := by decide +kernel
theorem dX12_paceOf_14 : decode cX12_paceOf 14 = .ok (.iload_n 1, 1) := by decide +kernel
theorem dX12_paceOf_15 : decode cX12_paceOf 15 = .ok (.iadd, 1) := by decide +kernel
theorem dX12_paceOf_16 : decode cX12_paceOf 16 = .ok (.iaload, 1) := by decide +kernel
theorem dX12_paceOf_17 : decode cX12_paceOf 17 = .ok (.aload_n 0, 1) := by decide +kernel
theorem dX12_paceOf_18 : decode cX12_paceOf 18 = .ok (.iload_n 1, 1) := by decide +kernel
theorem dX12_paceOf_19 : decode cX12_paceOf 19 = .ok (.invokevirtual 325, 3) := by decide +kernel
theorem dX12_paceOf_22 : decode cX12_paceOf 22 = .ok (.iadd, 1) := by decide +kernel
theorem dX12_paceOf_23 : decode cX12_paceOf 23 = .ok (.iload_n 3, 1) := by decide +kernel
theorem dX12_paceOf_24 : decode cX12_paceOf 24 = .ok (.iadd, 1) := by decide +kernel
theorem dX12_paceOf_25 : decode cX12_paceOf 25 = .ok (.idiv, 1) := by decide +kernel
theorem dX12_paceOf_26 : decode cX12_paceOf 26 = .ok (.istore 4, 2) := by decide +kernel
theorem dX12_paceOf_28 : decode cX12_paceOf 28 = .ok (.aload_n 0, 1) := by decide +kernel
theorem dX12_paceOf_29 : decode cX12_paceOf 29 = .ok (.getfield 35, 3) := by decide +kernel
theorem dX12_paceOf_32 : decode cX12_paceOf 32 = .ok (.bipush 45, 2) := by decide +kernel
theorem dX12_paceOf_34 : decode cX12_paceOf 34 = .ok (.iload_n 1, 1) := by decide +kernel
theorem dX12_paceOf_35 : decode cX12_paceOf 35 = .ok (.iadd, 1) := by decide +kernel
theorem dX12_paceOf_36 : decode cX12_paceOf 36 = .ok (.iaload, 1) := by decide +kernel
theorem dX12_paceOf_37 : decode cX12_paceOf 37 = .ok (.iconst 1, 1) := by decide +kernel
theorem dX12_paceOf_38 : decode cX12_paceOf 38 = .ok (.if_icmp .ne 10, 3) := by decide +kernel
theorem dX12_paceOf_41 : decode cX12_paceOf 41 = .ok (.iload 4, 2) := by decide +kernel
theorem dX12_paceOf_43 : decode cX12_paceOf 43 = .ok (.iconst 2, 1) := by decide +kernel
theorem dX12_paceOf_44 : decode cX12_paceOf 44 = .ok (.idiv, 1) := by decide +kernel
theorem dX12_paceOf_45 : decode cX12_paceOf 45 = .ok (.goto 5, 3) := by decide +kernel
theorem dX12_paceOf_48 : decode cX12_paceOf 48 = .ok (.iload 4, 2) := by decide +kernel
theorem dX12_paceOf_50 : decode cX12_paceOf 50 = .ok (.ireturn, 1) := by decide +kernel
theorem dX12_fateOf_0 : decode cX12_fateOf 0 = .ok (.aload_n 0, 1) := by decide +kernel
theorem dX12_fateOf_1 : decode cX12_fateOf 1 = .ok (.iload_n 1, 1) := by decide +kernel
theorem dX12_fateOf_2 : decode cX12_fateOf 2 = .ok (.invokevirtual 325, 3) := by decide +kernel
theorem dX12_fateOf_5 : decode cX12_fateOf 5 = .ok (.ifCond .ge 5, 3) := by decide +kernel
theorem dX12_fateOf_8 : decode cX12_fateOf 8 = .ok (.iconst 1, 1) := by decide +kernel
theorem dX12_fateOf_9 : decode cX12_fateOf 9 = .ok (.ireturn, 1) := by decide +kernel
theorem dX12_fateOf_10 : decode cX12_fateOf 10 = .ok (.iload_n 3, 1) := by decide +kernel
theorem dX12_fateOf_11 : decode cX12_fateOf 11 = .ok (.aload_n 0, 1) := by decide +kernel
theorem dX12_fateOf_12 : decode cX12_fateOf 12 = .ok (.getfield 35, 3) := by decide +kernel
theorem dX12_fateOf_15 : decode cX12_fateOf 15 = .ok (.bipush 45, 2) := by decide +kernel
theorem dX12_fateOf_17 : decode cX12_fateOf 17 = .ok (.iload_n 1, 1) := by decide +kernel
theorem dX12_fateOf_18 : decode cX12_fateOf 18 = .ok (.iadd, 1) := by decide +kernel
theorem dX12_fateOf_19 : decode cX12_fateOf 19 = .ok (.iaload, 1) := by decide +kernel
theorem dX12_fateOf_20 : decode cX12_fateOf 20 = .ok (.iconst 1, 1) := by decide +kernel
theorem dX12_fateOf_21 : decode cX12_fateOf 21 = .ok (.if_icmp .ne 7, 3) := by decide +kernel
theorem dX12_fateOf_24 : decode cX12_fateOf 24 = .ok (.iconst 3, 1) := by decide +kernel
theorem dX12_fateOf_25 : decode cX12_fateOf 25 = .ok (.goto 5, 3) := by decide +kernel
theorem dX12_fateOf_28 : decode cX12_fateOf 28 = .ok (.bipush 8, 2) := by decide +kernel
theorem dX12_fateOf_30 : decode cX12_fateOf 30 = .ok (.if_icmp .lt 5, 3) := by decide +kernel
theorem dX12_fateOf_33 : decode cX12_fateOf 33 = .ok (.iconst 2, 1) := by decide +kernel
theorem dX12_fateOf_34 : decode cX12_fateOf 34 = .ok (.ireturn, 1) := by decide +kernel
theorem dX12_fateOf_35 : decode cX12_fateOf 35 = .ok (.aload_n 0, 1) := by decide +kernel
theorem dX12_fateOf_36 : decode cX12_fateOf 36 = .ok (.iload_n 1, 1) := by decide +kernel
theorem dX12_fateOf_37 : decode cX12_fateOf 37 = .ok (.iload_n 2, 1) := by decide +kernel
theorem dX12_fateOf_38 : decode cX12_fateOf 38 = .ok (.iload_n 3, 1) := by decide +kernel
theorem dX12_fateOf_39 : decode cX12_fateOf 39 = .ok (.invokevirtual 338, 3) := by decide +kernel
theorem dX12_fateOf_42 : decode cX12_fateOf 42 = .ok (.bipush 24, 2) := by decide +kernel
theorem dX12_fateOf_44 : decode cX12_fateOf 44 = .ok (.if_icmp .ge 7, 3) := by decide +kernel
theorem dX12_fateOf_47 : decode cX12_fateOf 47 = .ok (.iconst 3, 1) := by decide +kernel
theorem dX12_fateOf_48 : decode cX12_fateOf 48 = .ok (.goto 4, 3) := by decide +kernel
theorem dX12_fateOf_51 : decode cX12_fateOf 51 = .ok (.iconst 0, 1) := by decide +kernel
theorem dX12_fateOf_52 : decode cX12_fateOf 52 = .ok (.ireturn, 1) := by decide +kernel
theorem dX12_pace_0 : decode cX12_pace 0 = .ok (.aload_n 0, 1) := by decide +kernel
theorem dX12_pace_1 : decode cX12_pace 1 = .ok (.iconst 0, 1) := by decide +kernel
theorem dX12_pace_2 : decode cX12_pace 2 = .ok (.putfield 63, 3) := by decide +kernel
theorem dX12_pace_5 : decode cX12_pace 5 = .ok (.aload_n 0, 1) := by decide +kernel
theorem dX12_pace_6 : decode cX12_pace 6 = .ok (.iconst 0, 1) := by decide +kernel
theorem dX12_pace_7 : decode cX12_pace 7 = .ok (.putfield 66, 3) := by decide +kernel
theorem dX12_pace_10 : decode cX12_pace 10 = .ok (.aload_n 0, 1) := by decide +kernel
theorem dX12_pace_11 : decode cX12_pace 11 = .ok (.iload_n 1, 1) := by decide +kernel
theorem dX12_pace_12 : decode cX12_pace 12 = .ok (.invokevirtual 322, 3) := by decide +kernel
theorem dX12_pace_15 : decode cX12_pace 15 = .ok (.ifCond .ne 9, 3) := by decide +kernel
theorem dX12_pace_18 : decode cX12_pace 18 = .ok (.aload_n 0, 1) := by decide +kernel
theorem dX12_pace_19 : decode cX12_pace 19 = .ok (.iconst 2, 1) := by decide +kernel
theorem dX12_pace_20 : decode cX12_pace 20 = .ok (.invokevirtual 319, 3) := by decide +kernel
theorem dX12_pace_23 : decode cX12_pace 23 = .ok (.ireturn, 1) := by decide +kernel
theorem dX12_pace_24 : decode cX12_pace 24 = .ok (.iload_n 2, 1) := by decide +kernel
theorem dX12_pace_25 : decode cX12_pace 25 = .ok (.bipush 40, 2) := by decide +kernel
theorem dX12_pace_27 : decode cX12_pace 27 = .ok (.invokestatic 361, 3) := by decide +kernel
theorem dX12_pace_30 : decode cX12_pace 30 = .ok (.ifCond .eq 10, 3) := by decide +kernel
theorem dX12_pace_33 : decode cX12_pace 33 = .ok (.iload_n 3, 1) := by decide +kernel
theorem dX12_pace_34 : decode cX12_pace 34 = .ok (.invokestatic 364, 3) := by decide +kernel
theorem dX12_pace_37 : decode cX12_pace 37 = .ok (.ifCond .ne 9, 3) := by decide +kernel
theorem dX12_pace_40 : decode cX12_pace 40 = .ok (.aload_n 0, 1) := by decide +kernel
theorem dX12_pace_41 : decode cX12_pace 41 = .ok (.iconst 5, 1) := by decide +kernel
theorem dX12_pace_42 : decode cX12_pace 42 = .ok (.invokevirtual 319, 3) := by decide +kernel
theorem dX12_pace_45 : decode cX12_pace 45 = .ok (.ireturn, 1) := by decide +kernel
theorem dX12_pace_46 : decode cX12_pace 46 = .ok (.aload_n 0, 1) := by decide +kernel
theorem dX12_pace_47 : decode cX12_pace 47 = .ok (.iload_n 1, 1) := by decide +kernel
theorem dX12_pace_48 : decode cX12_pace 48 = .ok (.iload_n 2, 1) := by decide +kernel
theorem dX12_pace_49 : decode cX12_pace 49 = .ok (.iload_n 3, 1) := by decide +kernel
theorem dX12_pace_50 : decode cX12_pace 50 = .ok (.invokevirtual 342, 3) := by decide +kernel
theorem dX12_pace_53 : decode cX12_pace 53 = .ok (.ifCond .ne 13, 3) := by decide +kernel
theorem dX12_pace_56 : decode cX12_pace 56 = .ok (.aload_n 0, 1) := by decide +kernel
theorem dX12_pace_57 : decode cX12_pace 57 = .ok (.iload_n 1, 1) := by decide +kernel
theorem dX12_pace_58 : decode cX12_pace 58 = .ok (.iload_n 2, 1) := by decide +kernel
theorem dX12_pace_59 : decode cX12_pace 59 = .ok (.iload_n 3, 1) := by decide +kernel
theorem dX12_pace_60 : decode cX12_pace 60 = .ok (.invokevirtual 338, 3) := by decide +kernel
theorem dX12_pace_63 : decode cX12_pace 63 = .ok (.goto 9, 3) := by decide +kernel
theorem dX12_pace_66 : decode cX12_pace 66 = .ok (.aload_n 0, 1) := by decide +kernel
theorem dX12_pace_67 : decode cX12_pace 67 = .ok (.bipush 9, 2) := by decide +kernel
theorem dX12_pace_69 : decode cX12_pace 69 = .ok (.invokevirtual 319, 3) := by decide +kernel
theorem dX12_pace_72 : decode cX12_pace 72 = .ok (.ireturn, 1) := by decide +kernel
theorem dX12_flies_0 : decode cX12_flies 0 = .ok (.aload_n 0, 1) := by decide +kernel
theorem dX12_flies_1 : decode cX12_flies 1 = .ok (.iload_n 1, 1) := by decide +kernel
theorem dX12_flies_2 : decode cX12_flies 2 = .ok (.iload_n 2, 1) := by decide +kernel
theorem dX12_flies_3 : decode cX12_flies 3 = .ok (.iload_n 3, 1) := by decide +kernel
theorem dX12_flies_4 : decode cX12_flies 4 = .ok (.invokevirtual 342, 3) := by decide +kernel
theorem dX12_flies_7 : decode cX12_flies 7 = .ok (.ifCond .eq 5, 3) := by decide +kernel
theorem dX12_flies_10 : decode cX12_flies 10 = .ok (.iconst 0, 1) := by decide +kernel
theorem dX12_flies_11 : decode cX12_flies 11 = .ok (.ireturn, 1) := by decide +kernel
theorem dX12_flies_12 : decode cX12_flies 12 = .ok (.aload_n 0, 1) := by decide +kernel
theorem dX12_flies_13 : decode cX12_flies 13 = .ok (.iload_n 1, 1) := by decide +kernel
theorem dX12_flies_14 : decode cX12_flies 14 = .ok (.iload_n 2, 1) := by decide +kernel
theorem dX12_flies_15 : decode cX12_flies 15 = .ok (.iload_n 3, 1) := by decide +kernel
theorem dX12_flies_16 : decode cX12_flies 16 = .ok (.invokevirtual 338, 3) := by decide +kernel
theorem dX12_flies_19 : decode cX12_flies 19 = .ok (.istore 4, 2) := by decide +kernel
theorem dX12_flies_21 : decode cX12_flies 21 = .ok (.aload_n 0, 1) := by decide +kernel
theorem dX12_flies_22 : decode cX12_flies 22 = .ok (.sipush 240, 3) := by decide +kernel
theorem dX12_flies_25 : decode cX12_flies 25 = .ok (.aload_n 0, 1) := by decide +kernel
theorem dX12_flies_26 : decode cX12_flies 26 = .ok (.getfield 35, 3) := by decide +kernel
theorem dX12_flies_29 : decode cX12_flies 29 = .ok (.iconst 2, 1) := by decide +kernel
theorem dX12_flies_30 : decode cX12_flies 30 = .ok (.iaload, 1) := by decide +kernel
theorem dX12_flies_31 : decode cX12_flies 31 = .ok (.imul, 1) := by decide +kernel
theorem dX12_flies_32 : decode cX12_flies 32 = .ok (.iload 4, 2) := by decide +kernel
theorem dX12_flies_34 : decode cX12_flies 34 = .ok (.iadd, 1) := by decide +kernel
theorem dX12_flies_35 : decode cX12_flies 35 = .ok (.iconst 1, 1) := by decide +kernel
theorem dX12_flies_36 : decode cX12_flies 36 = .ok (.isub, 1) := by decide +kernel
theorem dX12_flies_37 : decode cX12_flies 37 = .ok (.iload 4, 2) := by decide +kernel
theorem dX12_flies_39 : decode cX12_flies 39 = .ok (.idiv, 1) := by decide +kernel
theorem dX12_flies_40 : decode cX12_flies 40 = .ok (.putfield 345, 3) := by decide +kernel
theorem dX12_flies_43 : decode cX12_flies 43 = .ok (.aload_n 0, 1) := by decide +kernel
theorem dX12_flies_44 : decode cX12_flies 44 = .ok (.aload_n 0, 1) := by decide +kernel
theorem dX12_flies_45 : decode cX12_flies 45 = .ok (.getfield 345, 3) := by decide +kernel
theorem dX12_flies_48 : decode cX12_flies 48 = .ok (.aload_n 0, 1) := by decide +kernel
theorem dX12_flies_49 : decode cX12_flies 49 = .ok (.getfield 345, 3) := by decide +kernel
theorem dX12_flies_52 : decode cX12_flies 52 = .ok (.imul, 1) := by decide +kernel
theorem dX12_flies_53 : decode cX12_flies 53 = .ok (.bipush 64, 2) := by decide +kernel
theorem dX12_flies_55 : decode cX12_flies 55 = .ok (.idiv, 1) := by decide +kernel
theorem dX12_flies_56 : decode cX12_flies 56 = .ok (.putfield 348, 3) := by decide +kernel
theorem dX12_flies_59 : decode cX12_flies 59 = .ok (.aload_n 0, 1) := by decide +kernel
theorem dX12_flies_60 : decode cX12_flies 60 = .ok (.aload_n 0, 1) := by decide +kernel
theorem dX12_flies_61 : decode cX12_flies 61 = .ok (.getfield 35, 3) := by decide +kernel
theorem dX12_flies_64 : decode cX12_flies 64 = .ok (.iconst 3, 1) := by decide +kernel
theorem dX12_flies_65 : decode cX12_flies 65 = .ok (.iaload, 1) := by decide +kernel
theorem dX12_flies_66 : decode cX12_flies 66 = .ok (.invokestatic 351, 3) := by decide +kernel
theorem dX12_flies_69 : decode cX12_flies 69 = .ok (.aload_n 0, 1) := by decide +kernel
theorem dX12_flies_70 : decode cX12_flies 70 = .ok (.getfield 345, 3) := by decide +kernel
theorem dX12_flies_73 : decode cX12_flies 73 = .ok (.imul, 1) := by decide +kernel
theorem dX12_flies_74 : decode cX12_flies 74 = .ok (.bipush 8, 2) := by decide +kernel
theorem dX12_flies_76 : decode cX12_flies 76 = .ok (.idiv, 1) := by decide +kernel
theorem dX12_flies_77 : decode cX12_flies 77 = .ok (.putfield 353, 3) := by decide +kernel
theorem dX12_flies_80 : decode cX12_flies 80 = .ok (.aload_n 0, 1) := by decide +kernel
theorem dX12_flies_81 : decode cX12_flies 81 = .ok (.aload_n 0, 1) := by decide +kernel
theorem dX12_flies_82 : decode cX12_flies 82 = .ok (.getfield 35, 3) := by decide +kernel
theorem dX12_flies_85 : decode cX12_flies 85 = .ok (.iconst 3, 1) := by decide +kernel
theorem dX12_flies_86 : decode cX12_flies 86 = .ok (.iaload, 1) := by decide +kernel
theorem dX12_flies_87 : decode cX12_flies 87 = .ok (.ifCond .ge 11, 3) := by decide +kernel
theorem dX12_flies_90 : decode cX12_flies 90 = .ok (.aload_n 0, 1) := by decide +kernel
theorem dX12_flies_91 : decode cX12_flies 91 = .ok (.getfield 353, 3) := by decide +kernel
theorem dX12_flies_94 : decode cX12_flies 94 = .ok (.ineg, 1) := by decide +kernel
theorem dX12_flies_95 : decode cX12_flies 95 = .ok (.goto 7, 3) := by decide +kernel
theorem dX12_flies_98 : decode cX12_flies 98 = .ok (.aload_n 0, 1) := by decide +kernel
theorem dX12_flies_99 : decode cX12_flies 99 = .ok (.getfield 353, 3) := by decide +kernel
theorem dX12_flies_102 : decode cX12_flies 102 = .ok (.putfield 353, 3) := by decide +kernel
theorem dX12_flies_105 : decode cX12_flies 105 = .ok (.aload_n 0, 1) := by decide +kernel
theorem dX12_flies_106 : decode cX12_flies 106 = .ok (.aload_n 0, 1) := by decide +kernel
theorem dX12_flies_107 : decode cX12_flies 107 = .ok (.getfield 35, 3) := by decide +kernel
theorem dX12_flies_110 : decode cX12_flies 110 = .ok (.bipush 37, 2) := by decide +kernel
theorem dX12_flies_112 : decode cX12_flies 112 = .ok (.iload_n 1, 1) := by decide +kernel
theorem dX12_flies_113 : decode cX12_flies 113 = .ok (.iadd, 1) := by decide +kernel
theorem dX12_flies_114 : decode cX12_flies 114 = .ok (.iaload, 1) := by decide +kernel
theorem dX12_flies_115 : decode cX12_flies 115 = .ok (.aload_n 0, 1) := by decide +kernel
theorem dX12_flies_116 : decode cX12_flies 116 = .ok (.getfield 345, 3) := by decide +kernel
theorem dX12_flies_119 : decode cX12_flies 119 = .ok (.imul, 1) := by decide +kernel
theorem dX12_flies_120 : decode cX12_flies 120 = .ok (.bipush 16, 2) := by decide +kernel
theorem dX12_flies_122 : decode cX12_flies 122 = .ok (.idiv, 1) := by decide +kernel
theorem dX12_flies_123 : decode cX12_flies 123 = .ok (.putfield 356, 3) := by decide +kernel
theorem dX12_flies_126 : decode cX12_flies 126 = .ok (.aload_n 0, 1) := by decide +kernel
theorem dX12_flies_127 : decode cX12_flies 127 = .ok (.aload_n 0, 1) := by decide +kernel
theorem dX12_flies_128 : decode cX12_flies 128 = .ok (.iload_n 1, 1) := by decide +kernel
theorem dX12_flies_129 : decode cX12_flies 129 = .ok (.invokevirtual 325, 3) := by decide +kernel
theorem dX12_flies_132 : decode cX12_flies 132 = .ok (.iconst 2, 1) := by decide +kernel
theorem dX12_flies_133 : decode cX12_flies 133 = .ok (.if_icmp .le 12, 3) := by decide +kernel
theorem dX12_flies_136 : decode cX12_flies 136 = .ok (.iconst 2, 1) := by decide +kernel
theorem dX12_flies_137 : decode cX12_flies 137 = .ok (.aload_n 0, 1) := by decide +kernel
theorem dX12_flies_138 : decode cX12_flies 138 = .ok (.getfield 356, 3) := by decide +kernel
theorem dX12_flies_141 : decode cX12_flies 141 = .ok (.imul, 1) := by decide +kernel
theorem dX12_flies_142 : decode cX12_flies 142 = .ok (.goto 7, 3) := by decide +kernel
theorem dX12_flies_145 : decode cX12_flies 145 = .ok (.aload_n 0, 1) := by decide +kernel
theorem dX12_flies_146 : decode cX12_flies 146 = .ok (.getfield 356, 3) := by decide +kernel
theorem dX12_flies_149 : decode cX12_flies 149 = .ok (.putfield 356, 3) := by decide +kernel
theorem dX12_flies_152 : decode cX12_flies 152 = .ok (.iconst 1, 1) := by decide +kernel
theorem dX12_flies_153 : decode cX12_flies 153 = .ok (.ireturn, 1) := by decide +kernel
theorem dX12_flight_0 : decode cX12_flight 0 = .ok (.aload_n 0, 1) := by decide +kernel
theorem dX12_flight_1 : decode cX12_flight 1 = .ok (.iconst 0, 1) := by decide +kernel
theorem dX12_flight_2 : decode cX12_flight 2 = .ok (.putfield 63, 3) := by decide +kernel
theorem dX12_flight_5 : decode cX12_flight 5 = .ok (.aload_n 0, 1) := by decide +kernel
theorem dX12_flight_6 : decode cX12_flight 6 = .ok (.iconst 0, 1) := by decide +kernel
theorem dX12_flight_7 : decode cX12_flight 7 = .ok (.putfield 66, 3) := by decide +kernel
theorem dX12_flight_10 : decode cX12_flight 10 = .ok (.aload_n 0, 1) := by decide +kernel
theorem dX12_flight_11 : decode cX12_flight 11 = .ok (.iload_n 1, 1) := by decide +kernel
theorem dX12_flight_12 : decode cX12_flight 12 = .ok (.invokevirtual 322, 3) := by decide +kernel
theorem dX12_flight_15 : decode cX12_flight 15 = .ok (.ifCond .ne 9, 3) := by decide +kernel
theorem dX12_flight_18 : decode cX12_flight 18 = .ok (.aload_n 0, 1) := by decide +kernel
theorem dX12_flight_19 : decode cX12_flight 19 = .ok (.iconst 2, 1) := by decide +kernel
theorem dX12_flight_20 : decode cX12_flight 20 = .ok (.invokevirtual 319, 3) := by decide +kernel
theorem dX12_flight_23 : decode cX12_flight 23 = .ok (.ireturn, 1) := by decide +kernel
theorem dX12_flight_24 : decode cX12_flight 24 = .ok (.iload_n 2, 1) := by decide +kernel
theorem dX12_flight_25 : decode cX12_flight 25 = .ok (.bipush 40, 2) := by decide +kernel
theorem dX12_flight_27 : decode cX12_flight 27 = .ok (.invokestatic 361, 3) := by decide +kernel
theorem dX12_flight_30 : decode cX12_flight 30 = .ok (.ifCond .eq 23, 3) := by decide +kernel
theorem dX12_flight_33 : decode cX12_flight 33 = .ok (.iload_n 3, 1) := by decide +kernel
theorem dX12_flight_34 : decode cX12_flight 34 = .ok (.invokestatic 364, 3) := by decide +kernel
theorem dX12_flight_37 : decode cX12_flight 37 = .ok (.ifCond .eq 16, 3) := by decide +kernel
theorem dX12_flight_40 : decode cX12_flight 40 = .ok (.iload 4, 2) := by decide +kernel
theorem dX12_flight_42 : decode cX12_flight 42 = .ok (.i2l, 1) := by decide +kernel
theorem dX12_flight_43 : decode cX12_flight 43 = .ok (.lconst 0, 1) := by decide +kernel
theorem dX12_flight_44 : decode cX12_flight 44 = .ok (.ldc2_w 96, 3) := by decide +kernel
theorem dX12_flight_47 : decode cX12_flight 47 = .ok (.invokestatic 98, 3) := by decide +kernel
theorem dX12_flight_50 : decode cX12_flight 50 = .ok (.ifCond .ne 9, 3) := by decide +kernel
theorem dX12_flight_53 : decode cX12_flight 53 = .ok (.aload_n 0, 1) := by decide +kernel
theorem dX12_flight_54 : decode cX12_flight 54 = .ok (.iconst 5, 1) := by decide +kernel
theorem dX12_flight_55 : decode cX12_flight 55 = .ok (.invokevirtual 319, 3) := by decide +kernel
theorem dX12_flight_58 : decode cX12_flight 58 = .ok (.ireturn, 1) := by decide +kernel
theorem dX12_flight_59 : decode cX12_flight 59 = .ok (.aload_n 0, 1) := by decide +kernel
theorem dX12_flight_60 : decode cX12_flight 60 = .ok (.iload_n 1, 1) := by decide +kernel
theorem dX12_flight_61 : decode cX12_flight 61 = .ok (.iload_n 2, 1) := by decide +kernel
theorem dX12_flight_62 : decode cX12_flight 62 = .ok (.iload_n 3, 1) := by decide +kernel
theorem dX12_flight_63 : decode cX12_flight 63 = .ok (.invokevirtual 367, 3) := by decide +kernel
theorem dX12_flight_66 : decode cX12_flight 66 = .ok (.ifCond .ne 10, 3) := by decide +kernel
theorem dX12_flight_69 : decode cX12_flight 69 = .ok (.aload_n 0, 1) := by decide +kernel
theorem dX12_flight_70 : decode cX12_flight 70 = .ok (.bipush 9, 2) := by decide +kernel
theorem dX12_flight_72 : decode cX12_flight 72 = .ok (.invokevirtual 319, 3) := by decide +kernel
theorem dX12_flight_75 : decode cX12_flight 75 = .ok (.ireturn, 1) := by decide +kernel
theorem dX12_flight_76 : decode cX12_flight 76 = .ok (.iload 4, 2) := by decide +kernel
theorem dX12_flight_78 : decode cX12_flight 78 = .ok (.ifCond .ne 10, 3) := by decide +kernel
theorem dX12_flight_81 : decode cX12_flight 81 = .ok (.aload_n 0, 1) := by decide +kernel
theorem dX12_flight_82 : decode cX12_flight 82 = .ok (.getfield 345, 3) := by decide +kernel
theorem dX12_flight_85 : decode cX12_flight 85 = .ok (.goto 33, 3) := by decide +kernel
theorem dX12_flight_88 : decode cX12_flight 88 = .ok (.iload 4, 2) := by decide +kernel
theorem dX12_flight_90 : decode cX12_flight 90 = .ok (.iconst 1, 1) := by decide +kernel
theorem dX12_flight_91 : decode cX12_flight 91 = .ok (.if_icmp .ne 10, 3) := by decide +kernel
theorem dX12_flight_94 : decode cX12_flight 94 = .ok (.aload_n 0, 1) := by decide +kernel
theorem dX12_flight_95 : decode cX12_flight 95 = .ok (.getfield 348, 3) := by decide +kernel
theorem dX12_flight_98 : decode cX12_flight 98 = .ok (.goto 20, 3) := by decide +kernel
theorem dX12_flight_101 : decode cX12_flight 101 = .ok (.iload 4, 2) := by decide +kernel
theorem dX12_flight_103 : decode cX12_flight 103 = .ok (.iconst 2, 1) := by decide +kernel
theorem dX12_flight_104 : decode cX12_flight 104 = .ok (.if_icmp .ne 10, 3) := by decide +kernel
theorem dX12_flight_107 : decode cX12_flight 107 = .ok (.aload_n 0, 1) := by decide +kernel
theorem dX12_flight_108 : decode cX12_flight 108 = .ok (.getfield 353, 3) := by decide +kernel
theorem dX12_flight_111 : decode cX12_flight 111 = .ok (.goto 7, 3) := by decide +kernel
theorem dX12_flight_114 : decode cX12_flight 114 = .ok (.aload_n 0, 1) := by decide +kernel
theorem dX12_flight_115 : decode cX12_flight 115 = .ok (.getfield 356, 3) := by decide +kernel
theorem dX12_flight_118 : decode cX12_flight 118 = .ok (.ireturn, 1) := by decide +kernel
theorem dX12_becomes_0 : decode cX12_becomes 0 = .ok (.aload_n 0, 1) := by decide +kernel
theorem dX12_becomes_1 : decode cX12_becomes 1 = .ok (.iconst 0, 1) := by decide +kernel
theorem dX12_becomes_2 : decode cX12_becomes 2 = .ok (.putfield 63, 3) := by decide +kernel
theorem dX12_becomes_5 : decode cX12_becomes 5 = .ok (.aload_n 0, 1) := by decide +kernel
theorem dX12_becomes_6 : decode cX12_becomes 6 = .ok (.iconst 0, 1) := by decide +kernel
theorem dX12_becomes_7 : decode cX12_becomes 7 = .ok (.putfield 66, 3) := by decide +kernel
theorem dX12_becomes_10 : decode cX12_becomes 10 = .ok (.aload_n 0, 1) := by decide +kernel
theorem dX12_becomes_11 : decode cX12_becomes 11 = .ok (.iload_n 1, 1) := by decide +kernel
theorem dX12_becomes_12 : decode cX12_becomes 12 = .ok (.invokevirtual 322, 3) := by decide +kernel
theorem dX12_becomes_15 : decode cX12_becomes 15 = .ok (.ifCond .ne 9, 3) := by decide +kernel
theorem dX12_becomes_18 : decode cX12_becomes 18 = .ok (.aload_n 0, 1) := by decide +kernel
theorem dX12_becomes_19 : decode cX12_becomes 19 = .ok (.iconst 2, 1) := by decide +kernel
theorem dX12_becomes_20 : decode cX12_becomes 20 = .ok (.invokevirtual 319, 3) := by decide +kernel
theorem dX12_becomes_23 : decode cX12_becomes 23 = .ok (.ireturn, 1) := by decide +kernel
theorem dX12_becomes_24 : decode cX12_becomes 24 = .ok (.iload_n 2, 1) := by decide +kernel
theorem dX12_becomes_25 : decode cX12_becomes 25 = .ok (.bipush 40, 2) := by decide +kernel
theorem dX12_becomes_27 : decode cX12_becomes 27 = .ok (.invokestatic 361, 3) := by decide +kernel
theorem dX12_becomes_30 : decode cX12_becomes 30 = .ok (.ifCond .eq 20, 3) := by decide +kernel
theorem dX12_becomes_33 : decode cX12_becomes 33 = .ok (.iload_n 3, 1) := by decide +kernel
theorem dX12_becomes_34 : decode cX12_becomes 34 = .ok (.invokestatic 364, 3) := by decide +kernel
theorem dX12_becomes_37 : decode cX12_becomes 37 = .ok (.ifCond .eq 13, 3) := by decide +kernel
theorem dX12_becomes_40 : decode cX12_becomes 40 = .ok (.aload_n 0, 1) := by decide +kernel
theorem dX12_becomes_41 : decode cX12_becomes 41 = .ok (.iload_n 1, 1) := by decide +kernel
theorem dX12_becomes_42 : decode cX12_becomes 42 = .ok (.iload_n 2, 1) := by decide +kernel
theorem dX12_becomes_43 : decode cX12_becomes 43 = .ok (.iload_n 3, 1) := by decide +kernel
theorem dX12_becomes_44 : decode cX12_becomes 44 = .ok (.invokevirtual 342, 3) := by decide +kernel
theorem dX12_becomes_47 : decode cX12_becomes 47 = .ok (.goto 8, 3) := by decide +kernel
theorem dX12_becomes_50 : decode cX12_becomes 50 = .ok (.aload_n 0, 1) := by decide +kernel
theorem dX12_becomes_51 : decode cX12_becomes 51 = .ok (.iconst 5, 1) := by decide +kernel
theorem dX12_becomes_52 : decode cX12_becomes 52 = .ok (.invokevirtual 319, 3) := by decide +kernel
theorem dX12_becomes_55 : decode cX12_becomes 55 = .ok (.ireturn, 1) := by decide +kernel
theorem dX12_isAim_0 : decode cX12_isAim 0 = .ok (.iload_n 0, 1) := by decide +kernel
theorem dX12_isAim_1 : decode cX12_isAim 1 = .ok (.i2l, 1) := by decide +kernel
theorem dX12_isAim_2 : decode cX12_isAim 2 = .ok (.ldc2_w 370, 3) := by decide +kernel
theorem dX12_isAim_5 : decode cX12_isAim 5 = .ok (.ldc2_w 372, 3) := by decide +kernel
theorem dX12_isAim_8 : decode cX12_isAim 8 = .ok (.invokestatic 98, 3) := by decide +kernel
theorem dX12_isAim_11 : decode cX12_isAim 11 = .ok (.ifCond .eq 21, 3) := by decide +kernel
theorem dX12_isAim_14 : decode cX12_isAim 14 = .ok (.iload_n 1, 1) := by decide +kernel
theorem dX12_isAim_15 : decode cX12_isAim 15 = .ok (.i2l, 1) := by decide +kernel
theorem dX12_isAim_16 : decode cX12_isAim 16 = .ok (.ldc2_w 370, 3) := by decide +kernel
theorem dX12_isAim_19 : decode cX12_isAim 19 = .ok (.ldc2_w 372, 3) := by decide +kernel
theorem dX12_isAim_22 : decode cX12_isAim 22 = .ok (.invokestatic 98, 3) := by decide +kernel
theorem dX12_isAim_25 : decode cX12_isAim 25 = .ok (.ifCond .eq 7, 3) := by decide +kernel
theorem dX12_isAim_28 : decode cX12_isAim 28 = .ok (.iconst 1, 1) := by decide +kernel
theorem dX12_isAim_29 : decode cX12_isAim 29 = .ok (.goto 4, 3) := by decide +kernel
theorem dX12_isAim_32 : decode cX12_isAim 32 = .ok (.iconst 0, 1) := by decide +kernel
theorem dX12_isAim_33 : decode cX12_isAim 33 = .ok (.ireturn, 1) := by decide +kernel
theorem dX12_strikeX_0 : decode cX12_strikeX 0 = .ok (.iload_n 2, 1) := by decide +kernel
theorem dX12_strikeX_1 : decode cX12_strikeX 1 = .ok (.aload_n 0, 1) := by decide +kernel
theorem dX12_strikeX_2 : decode cX12_strikeX 2 = .ok (.getfield 35, 3) := by decide +kernel
theorem dX12_strikeX_5 : decode cX12_strikeX 5 = .ok (.bipush 65, 2) := by decide +kernel
theorem dX12_strikeX_7 : decode cX12_strikeX 7 = .ok (.iload_n 1, 1) := by decide +kernel
theorem dX12_strikeX_8 : decode cX12_strikeX 8 = .ok (.iadd, 1) := by decide +kernel
theorem dX12_strikeX_9 : decode cX12_strikeX 9 = .ok (.iaload, 1) := by decide +kernel
theorem dX12_strikeX_10 : decode cX12_strikeX 10 = .ok (.iadd, 1) := by decide +kernel
theorem dX12_strikeX_11 : decode cX12_strikeX 11 = .ok (.aload_n 0, 1) := by decide +kernel
theorem dX12_strikeX_12 : decode cX12_strikeX 12 = .ok (.getfield 353, 3) := by decide +kernel
theorem dX12_strikeX_15 : decode cX12_strikeX 15 = .ok (.iadd, 1) := by decide +kernel
theorem dX12_strikeX_16 : decode cX12_strikeX 16 = .ok (.iload 4, 2) := by decide +kernel
theorem dX12_strikeX_18 : decode cX12_strikeX 18 = .ok (.iadd, 1) := by decide +kernel
theorem dX12_strikeX_19 : decode cX12_strikeX 19 = .ok (.iload_n 3, 1) := by decide +kernel
theorem dX12_strikeX_20 : decode cX12_strikeX 20 = .ok (.aload_n 0, 1) := by decide +kernel
theorem dX12_strikeX_21 : decode cX12_strikeX 21 = .ok (.getfield 356, 3) := by decide +kernel
theorem dX12_strikeX_24 : decode cX12_strikeX 24 = .ok (.imul, 1) := by decide +kernel
theorem dX12_strikeX_25 : decode cX12_strikeX 25 = .ok (.iadd, 1) := by decide +kernel
theorem dX12_strikeX_26 : decode cX12_strikeX 26 = .ok (.ireturn, 1) := by decide +kernel
theorem dX12_strikeY_0 : decode cX12_strikeY 0 = .ok (.iload_n 2, 1) := by decide +kernel
theorem dX12_strikeY_1 : decode cX12_strikeY 1 = .ok (.aload_n 0, 1) := by decide +kernel
theorem dX12_strikeY_2 : decode cX12_strikeY 2 = .ok (.getfield 35, 3) := by decide +kernel
theorem dX12_strikeY_5 : decode cX12_strikeY 5 = .ok (.bipush 71, 2) := by decide +kernel
theorem dX12_strikeY_7 : decode cX12_strikeY 7 = .ok (.iload_n 1, 1) := by decide +kernel
theorem dX12_strikeY_8 : decode cX12_strikeY 8 = .ok (.iadd, 1) := by decide +kernel
theorem dX12_strikeY_9 : decode cX12_strikeY 9 = .ok (.iaload, 1) := by decide +kernel
theorem dX12_strikeY_10 : decode cX12_strikeY 10 = .ok (.iadd, 1) := by decide +kernel
theorem dX12_strikeY_11 : decode cX12_strikeY 11 = .ok (.iload_n 3, 1) := by decide +kernel
theorem dX12_strikeY_12 : decode cX12_strikeY 12 = .ok (.iadd, 1) := by decide +kernel
theorem dX12_strikeY_13 : decode cX12_strikeY 13 = .ok (.aload_n 0, 1) := by decide +kernel
theorem dX12_strikeY_14 : decode cX12_strikeY 14 = .ok (.getfield 348, 3) := by decide +kernel
theorem dX12_strikeY_17 : decode cX12_strikeY 17 = .ok (.isub, 1) := by decide +kernel
theorem dX12_strikeY_18 : decode cX12_strikeY 18 = .ok (.ireturn, 1) := by decide +kernel
theorem dX12_strikes_0 : decode cX12_strikes 0 = .ok (.aload_n 0, 1) := by decide +kernel
theorem dX12_strikes_1 : decode cX12_strikes 1 = .ok (.iconst 0, 1) := by decide +kernel
theorem dX12_strikes_2 : decode cX12_strikes 2 = .ok (.putfield 63, 3) := by decide +kernel
theorem dX12_strikes_5 : decode cX12_strikes 5 = .ok (.aload_n 0, 1) := by decide +kernel
theorem dX12_strikes_6 : decode cX12_strikes 6 = .ok (.iconst 0, 1) := by decide +kernel
theorem dX12_strikes_7 : decode cX12_strikes 7 = .ok (.putfield 66, 3) := by decide +kernel
theorem dX12_strikes_10 : decode cX12_strikes 10 = .ok (.aload_n 0, 1) := by decide +kernel
theorem dX12_strikes_11 : decode cX12_strikes 11 = .ok (.iload_n 2, 1) := by decide +kernel
theorem dX12_strikes_12 : decode cX12_strikes 12 = .ok (.invokevirtual 322, 3) := by decide +kernel
theorem dX12_strikes_15 : decode cX12_strikes 15 = .ok (.ifCond .eq 11, 3) := by decide +kernel
theorem dX12_strikes_18 : decode cX12_strikes 18 = .ok (.aload_n 0, 1) := by decide +kernel
theorem dX12_strikes_19 : decode cX12_strikes 19 = .ok (.iload_n 1, 1) := by decide +kernel
theorem dX12_strikes_20 : decode cX12_strikes 20 = .ok (.invokevirtual 332, 3) := by decide +kernel
theorem dX12_strikes_23 : decode cX12_strikes 23 = .ok (.ifCond .ne 9, 3) := by decide +kernel
theorem dX12_strikes_26 : decode cX12_strikes 26 = .ok (.aload_n 0, 1) := by decide +kernel
theorem dX12_strikes_27 : decode cX12_strikes 27 = .ok (.iconst 2, 1) := by decide +kernel
theorem dX12_strikes_28 : decode cX12_strikes 28 = .ok (.invokevirtual 319, 3) := by decide +kernel
theorem dX12_strikes_31 : decode cX12_strikes 31 = .ok (.ireturn, 1) := by decide +kernel
theorem dX12_strikes_32 : decode cX12_strikes 32 = .ok (.iload_n 3, 1) := by decide +kernel
theorem dX12_strikes_33 : decode cX12_strikes 33 = .ok (.aload_n 0, 1) := by decide +kernel
theorem dX12_strikes_34 : decode cX12_strikes 34 = .ok (.getfield 35, 3) := by decide +kernel
theorem dX12_strikes_37 : decode cX12_strikes 37 = .ok (.bipush 53, 2) := by decide +kernel
theorem dX12_strikes_39 : decode cX12_strikes 39 = .ok (.iload_n 1, 1) := by decide +kernel
theorem dX12_strikes_40 : decode cX12_strikes 40 = .ok (.iadd, 1) := by decide +kernel
theorem dX12_strikes_41 : decode cX12_strikes 41 = .ok (.iaload, 1) := by decide +kernel
theorem dX12_strikes_42 : decode cX12_strikes 42 = .ok (.invokestatic 361, 3) := by decide +kernel
theorem dX12_strikes_45 : decode cX12_strikes 45 = .ok (.ifCond .eq 37, 3) := by decide +kernel
theorem dX12_strikes_48 : decode cX12_strikes 48 = .ok (.iload 4, 2) := by decide +kernel
theorem dX12_strikes_50 : decode cX12_strikes 50 = .ok (.iload 5, 2) := by decide +kernel
theorem dX12_strikes_52 : decode cX12_strikes 52 = .ok (.invokestatic 374, 3) := by decide +kernel
theorem dX12_strikes_55 : decode cX12_strikes 55 = .ok (.ifCond .eq 27, 3) := by decide +kernel
theorem dX12_strikes_58 : decode cX12_strikes 58 = .ok (.iload 6, 2) := by decide +kernel
theorem dX12_strikes_60 : decode cX12_strikes 60 = .ok (.i2l, 1) := by decide +kernel
theorem dX12_strikes_61 : decode cX12_strikes 61 = .ok (.ldc2_w 94, 3) := by decide +kernel
theorem dX12_strikes_64 : decode cX12_strikes 64 = .ok (.lconst 1, 1) := by decide +kernel
theorem dX12_strikes_65 : decode cX12_strikes 65 = .ok (.invokestatic 98, 3) := by decide +kernel
theorem dX12_strikes_68 : decode cX12_strikes 68 = .ok (.ifCond .eq 14, 3) := by decide +kernel
theorem dX12_strikes_71 : decode cX12_strikes 71 = .ok (.iload 7, 2) := by decide +kernel
theorem dX12_strikes_73 : decode cX12_strikes 73 = .ok (.i2l, 1) := by decide +kernel
theorem dX12_strikes_74 : decode cX12_strikes 74 = .ok (.lconst 0, 1) := by decide +kernel
theorem dX12_strikes_75 : decode cX12_strikes 75 = .ok (.lconst 1, 1) := by decide +kernel
theorem dX12_strikes_76 : decode cX12_strikes 76 = .ok (.invokestatic 98, 3) := by decide +kernel
theorem dX12_strikes_79 : decode cX12_strikes 79 = .ok (.ifCond .ne 9, 3) := by decide +kernel
theorem dX12_strikes_82 : decode cX12_strikes 82 = .ok (.aload_n 0, 1) := by decide +kernel
theorem dX12_strikes_83 : decode cX12_strikes 83 = .ok (.iconst 5, 1) := by decide +kernel
theorem dX12_strikes_84 : decode cX12_strikes 84 = .ok (.invokevirtual 319, 3) := by decide +kernel
theorem dX12_strikes_87 : decode cX12_strikes 87 = .ok (.ireturn, 1) := by decide +kernel
theorem dX12_strikes_88 : decode cX12_strikes 88 = .ok (.aload_n 0, 1) := by decide +kernel
theorem dX12_strikes_89 : decode cX12_strikes 89 = .ok (.iload_n 2, 1) := by decide +kernel
theorem dX12_strikes_90 : decode cX12_strikes 90 = .ok (.iload_n 3, 1) := by decide +kernel
theorem dX12_strikes_91 : decode cX12_strikes 91 = .ok (.aload_n 0, 1) := by decide +kernel
theorem dX12_strikes_92 : decode cX12_strikes 92 = .ok (.getfield 35, 3) := by decide +kernel
theorem dX12_strikes_95 : decode cX12_strikes 95 = .ok (.bipush 7, 2) := by decide +kernel
theorem dX12_strikes_97 : decode cX12_strikes 97 = .ok (.iaload, 1) := by decide +kernel
theorem dX12_strikes_98 : decode cX12_strikes 98 = .ok (.invokevirtual 367, 3) := by decide +kernel
theorem dX12_strikes_101 : decode cX12_strikes 101 = .ok (.ifCond .ne 10, 3) := by decide +kernel
theorem dX12_strikes_104 : decode cX12_strikes 104 = .ok (.aload_n 0, 1) := by decide +kernel
theorem dX12_strikes_105 : decode cX12_strikes 105 = .ok (.bipush 9, 2) := by decide +kernel
theorem dX12_strikes_107 : decode cX12_strikes 107 = .ok (.invokevirtual 319, 3) := by decide +kernel
theorem dX12_strikes_110 : decode cX12_strikes 110 = .ok (.ireturn, 1) := by decide +kernel
theorem dX12_strikes_111 : decode cX12_strikes 111 = .ok (.iload 7, 2) := by decide +kernel
theorem dX12_strikes_113 : decode cX12_strikes 113 = .ok (.ifCond .ne 16, 3) := by decide +kernel
theorem dX12_strikes_116 : decode cX12_strikes 116 = .ok (.aload_n 0, 1) := by decide +kernel
theorem dX12_strikes_117 : decode cX12_strikes 117 = .ok (.iload_n 1, 1) := by decide +kernel
theorem dX12_strikes_118 : decode cX12_strikes 118 = .ok (.iload 4, 2) := by decide +kernel
theorem dX12_strikes_120 : decode cX12_strikes 120 = .ok (.iload 6, 2) := by decide +kernel
theorem dX12_strikes_122 : decode cX12_strikes 122 = .ok (.iconst 0, 1) := by decide +kernel
theorem dX12_strikes_123 : decode cX12_strikes 123 = .ok (.invokevirtual 377, 3) := by decide +kernel
theorem dX12_strikes_126 : decode cX12_strikes 126 = .ok (.goto 11, 3) := by decide +kernel
theorem dX12_strikes_129 : decode cX12_strikes 129 = .ok (.aload_n 0, 1) := by decide +kernel
theorem dX12_strikes_130 : decode cX12_strikes 130 = .ok (.iload_n 1, 1) := by decide +kernel
theorem dX12_strikes_131 : decode cX12_strikes 131 = .ok (.iload 5, 2) := by decide +kernel
theorem dX12_strikes_133 : decode cX12_strikes 133 = .ok (.iconst 0, 1) := by decide +kernel
theorem dX12_strikes_134 : decode cX12_strikes 134 = .ok (.invokevirtual 381, 3) := by decide +kernel
theorem dX12_strikes_137 : decode cX12_strikes 137 = .ok (.ireturn, 1) := by decide +kernel
theorem dX12_isPlace_0 : decode cX12_isPlace 0 = .ok (.iload_n 0, 1) := by decide +kernel
theorem dX12_isPlace_1 : decode cX12_isPlace 1 = .ok (.i2l, 1) := by decide +kernel
theorem dX12_isPlace_2 : decode cX12_isPlace 2 = .ok (.ldc2_w 387, 3) := by decide +kernel
theorem dX12_isPlace_5 : decode cX12_isPlace 5 = .ok (.ldc2_w 389, 3) := by decide +kernel
theorem dX12_isPlace_8 : decode cX12_isPlace 8 = .ok (.invokestatic 98, 3) := by decide +kernel
theorem dX12_isPlace_11 : decode cX12_isPlace 11 = .ok (.ifCond .eq 21, 3) := by decide +kernel
theorem dX12_isPlace_14 : decode cX12_isPlace 14 = .ok (.iload_n 1, 1) := by decide +kernel
theorem dX12_isPlace_15 : decode cX12_isPlace 15 = .ok (.i2l, 1) := by decide +kernel
theorem dX12_isPlace_16 : decode cX12_isPlace 16 = .ok (.ldc2_w 387, 3) := by decide +kernel
theorem dX12_isPlace_19 : decode cX12_isPlace 19 = .ok (.ldc2_w 389, 3) := by decide +kernel
theorem dX12_isPlace_22 : decode cX12_isPlace 22 = .ok (.invokestatic 98, 3) := by decide +kernel
theorem dX12_isPlace_25 : decode cX12_isPlace 25 = .ok (.ifCond .eq 7, 3) := by decide +kernel
theorem dX12_isPlace_28 : decode cX12_isPlace 28 = .ok (.iconst 1, 1) := by decide +kernel
theorem dX12_isPlace_29 : decode cX12_isPlace 29 = .ok (.goto 4, 3) := by decide +kernel
theorem dX12_isPlace_32 : decode cX12_isPlace 32 = .ok (.iconst 0, 1) := by decide +kernel
theorem dX12_isPlace_33 : decode cX12_isPlace 33 = .ok (.ireturn, 1) := by decide +kernel
theorem dX12_ringOf_0 : decode cX12_ringOf 0 = .ok (.aload_n 0, 1) := by decide +kernel
theorem dX12_ringOf_1 : decode cX12_ringOf 1 = .ok (.getfield 35, 3) := by decide +kernel
theorem dX12_ringOf_4 : decode cX12_ringOf 4 = .ok (.iconst 4, 1) := by decide +kernel
theorem dX12_ringOf_5 : decode cX12_ringOf 5 = .ok (.iaload, 1) := by decide +kernel
theorem dX12_ringOf_6 : decode cX12_ringOf 6 = .ok (.iconst 1, 1) := by decide +kernel
theorem dX12_ringOf_7 : decode cX12_ringOf 7 = .ok (.isub, 1) := by decide +kernel
theorem dX12_ringOf_8 : decode cX12_ringOf 8 = .ok (.istore_n 3, 1) := by decide +kernel
theorem dX12_ringOf_9 : decode cX12_ringOf 9 = .ok (.iload_n 3, 1) := by decide +kernel
theorem dX12_ringOf_10 : decode cX12_ringOf 10 = .ok (.ifCond .lt 40, 3) := by decide +kernel
theorem dX12_ringOf_13 : decode cX12_ringOf 13 = .ok (.iload_n 1, 1) := by decide +kernel
theorem dX12_ringOf_14 : decode cX12_ringOf 14 = .ok (.iload_n 1, 1) := by decide +kernel
theorem dX12_ringOf_15 : decode cX12_ringOf 15 = .ok (.imul, 1) := by decide +kernel
theorem dX12_ringOf_16 : decode cX12_ringOf 16 = .ok (.iload_n 2, 1) := by decide +kernel
theorem dX12_ringOf_17 : decode cX12_ringOf 17 = .ok (.iload_n 2, 1) := by decide +kernel
theorem dX12_ringOf_18 : decode cX12_ringOf 18 = .ok (.imul, 1) := by decide +kernel
theorem dX12_ringOf_19 : decode cX12_ringOf 19 = .ok (.iadd, 1) := by decide +kernel
theorem dX12_ringOf_20 : decode cX12_ringOf 20 = .ok (.aload_n 0, 1) := by decide +kernel
theorem dX12_ringOf_21 : decode cX12_ringOf 21 = .ok (.getfield 35, 3) := by decide +kernel
theorem dX12_ringOf_24 : decode cX12_ringOf 24 = .ok (.bipush 9, 2) := by decide +kernel
theorem dX12_ringOf_26 : decode cX12_ringOf 26 = .ok (.iload_n 3, 1) := by decide +kernel
theorem dX12_ringOf_27 : decode cX12_ringOf 27 = .ok (.iadd, 1) := by decide +kernel
theorem dX12_ringOf_28 : decode cX12_ringOf 28 = .ok (.iaload, 1) := by decide +kernel
theorem dX12_ringOf_29 : decode cX12_ringOf 29 = .ok (.aload_n 0, 1) := by decide +kernel
theorem dX12_ringOf_30 : decode cX12_ringOf 30 = .ok (.getfield 35, 3) := by decide +kernel
theorem dX12_ringOf_33 : decode cX12_ringOf 33 = .ok (.bipush 9, 2) := by decide +kernel
theorem dX12_ringOf_35 : decode cX12_ringOf 35 = .ok (.iload_n 3, 1) := by decide +kernel
theorem dX12_ringOf_36 : decode cX12_ringOf 36 = .ok (.iadd, 1) := by decide +kernel
theorem dX12_ringOf_37 : decode cX12_ringOf 37 = .ok (.iaload, 1) := by decide +kernel
theorem dX12_ringOf_38 : decode cX12_ringOf 38 = .ok (.imul, 1) := by decide +kernel
theorem dX12_ringOf_39 : decode cX12_ringOf 39 = .ok (.if_icmp .gt 5, 3) := by decide +kernel
theorem dX12_ringOf_42 : decode cX12_ringOf 42 = .ok (.iload_n 3, 1) := by decide +kernel
theorem dX12_ringOf_43 : decode cX12_ringOf 43 = .ok (.ireturn, 1) := by decide +kernel
theorem dX12_ringOf_44 : decode cX12_ringOf 44 = .ok (.iinc 3 (-1), 3) := by decide +kernel
theorem dX12_ringOf_47 : decode cX12_ringOf 47 = .ok (.goto (-38), 3) := by decide +kernel
theorem dX12_ringOf_50 : decode cX12_ringOf 50 = .ok (.iconst (-1), 1) := by decide +kernel
theorem dX12_ringOf_51 : decode cX12_ringOf 51 = .ok (.ireturn, 1) := by decide +kernel
theorem dX12_pointsOf_0 : decode cX12_pointsOf 0 = .ok (.aload_n 0, 1) := by decide +kernel
theorem dX12_pointsOf_1 : decode cX12_pointsOf 1 = .ok (.iload_n 1, 1) := by decide +kernel
theorem dX12_pointsOf_2 : decode cX12_pointsOf 2 = .ok (.iload_n 2, 1) := by decide +kernel
theorem dX12_pointsOf_3 : decode cX12_pointsOf 3 = .ok (.invokevirtual 384, 3) := by decide +kernel
theorem dX12_pointsOf_6 : decode cX12_pointsOf 6 = .ok (.istore_n 3, 1) := by decide +kernel
theorem dX12_pointsOf_7 : decode cX12_pointsOf 7 = .ok (.iload_n 3, 1) := by decide +kernel
theorem dX12_pointsOf_8 : decode cX12_pointsOf 8 = .ok (.ifCond .ge 7, 3) := by decide +kernel
theorem dX12_pointsOf_11 : decode cX12_pointsOf 11 = .ok (.iconst 0, 1) := by decide +kernel
theorem dX12_pointsOf_12 : decode cX12_pointsOf 12 = .ok (.goto 12, 3) := by decide +kernel
theorem dX12_pointsOf_15 : decode cX12_pointsOf 15 = .ok (.aload_n 0, 1) := by decide +kernel
theorem dX12_pointsOf_16 : decode cX12_pointsOf 16 = .ok (.getfield 35, 3) := by decide +kernel
theorem dX12_pointsOf_19 : decode cX12_pointsOf 19 = .ok (.bipush 15, 2) := by decide +kernel
theorem dX12_pointsOf_21 : decode cX12_pointsOf 21 = .ok (.iload_n 3, 1) := by decide +kernel
theorem dX12_pointsOf_22 : decode cX12_pointsOf 22 = .ok (.iadd, 1) := by decide +kernel
theorem dX12_pointsOf_23 : decode cX12_pointsOf 23 = .ok (.iaload, 1) := by decide +kernel
theorem dX12_pointsOf_24 : decode cX12_pointsOf 24 = .ok (.ireturn, 1) := by decide +kernel
theorem dX12_points_0 : decode cX12_points 0 = .ok (.aload_n 0, 1) := by decide +kernel
theorem dX12_points_1 : decode cX12_points 1 = .ok (.iconst 0, 1) := by decide +kernel
theorem dX12_points_2 : decode cX12_points 2 = .ok (.putfield 63, 3) := by decide +kernel
theorem dX12_points_5 : decode cX12_points 5 = .ok (.aload_n 0, 1) := by decide +kernel
theorem dX12_points_6 : decode cX12_points 6 = .ok (.iconst 0, 1) := by decide +kernel
theorem dX12_points_7 : decode cX12_points 7 = .ok (.putfield 66, 3) := by decide +kernel
theorem dX12_points_10 : decode cX12_points 10 = .ok (.iload_n 1, 1) := by decide +kernel
theorem dX12_points_11 : decode cX12_points 11 = .ok (.iload_n 2, 1) := by decide +kernel
theorem dX12_points_12 : decode cX12_points 12 = .ok (.invokestatic 391, 3) := by decide +kernel
theorem dX12_points_15 : decode cX12_points 15 = .ok (.ifCond .eq 12, 3) := by decide +kernel
theorem dX12_points_18 : decode cX12_points 18 = .ok (.aload_n 0, 1) := by decide +kernel
theorem dX12_points_19 : decode cX12_points 19 = .ok (.iload_n 1, 1) := by decide +kernel
theorem dX12_points_20 : decode cX12_points 20 = .ok (.iload_n 2, 1) := by decide +kernel
theorem dX12_points_21 : decode cX12_points 21 = .ok (.invokevirtual 394, 3) := by decide +kernel
theorem dX12_points_24 : decode cX12_points 24 = .ok (.goto 8, 3) := by decide +kernel
theorem dX12_points_27 : decode cX12_points 27 = .ok (.aload_n 0, 1) := by decide +kernel
theorem dX12_points_28 : decode cX12_points 28 = .ok (.iconst 5, 1) := by decide +kernel
theorem dX12_points_29 : decode cX12_points 29 = .ok (.invokevirtual 319, 3) := by decide +kernel
theorem dX12_points_32 : decode cX12_points 32 = .ok (.ireturn, 1) := by decide +kernel
theorem dX12_ringAt_0 : decode cX12_ringAt 0 = .ok (.aload_n 0, 1) := by decide +kernel
theorem dX12_ringAt_1 : decode cX12_ringAt 1 = .ok (.iconst 0, 1) := by decide +kernel
theorem dX12_ringAt_2 : decode cX12_ringAt 2 = .ok (.putfield 63, 3) := by decide +kernel
theorem dX12_ringAt_5 : decode cX12_ringAt 5 = .ok (.aload_n 0, 1) := by decide +kernel
theorem dX12_ringAt_6 : decode cX12_ringAt 6 = .ok (.iconst 0, 1) := by decide +kernel
theorem dX12_ringAt_7 : decode cX12_ringAt 7 = .ok (.putfield 66, 3) := by decide +kernel
theorem dX12_ringAt_10 : decode cX12_ringAt 10 = .ok (.iload_n 1, 1) := by decide +kernel
theorem dX12_ringAt_11 : decode cX12_ringAt 11 = .ok (.iload_n 2, 1) := by decide +kernel
theorem dX12_ringAt_12 : decode cX12_ringAt 12 = .ok (.invokestatic 391, 3) := by decide +kernel
theorem dX12_ringAt_15 : decode cX12_ringAt 15 = .ok (.ifCond .ne 9, 3) := by decide +kernel
theorem dX12_ringAt_18 : decode cX12_ringAt 18 = .ok (.aload_n 0, 1) := by decide +kernel
theorem dX12_ringAt_19 : decode cX12_ringAt 19 = .ok (.iconst 5, 1) := by decide +kernel
theorem dX12_ringAt_20 : decode cX12_ringAt 20 = .ok (.invokevirtual 319, 3) := by decide +kernel
theorem dX12_ringAt_23 : decode cX12_ringAt 23 = .ok (.ireturn, 1) := by decide +kernel
theorem dX12_ringAt_24 : decode cX12_ringAt 24 = .ok (.aload_n 0, 1) := by decide +kernel
theorem dX12_ringAt_25 : decode cX12_ringAt 25 = .ok (.iload_n 1, 1) := by decide +kernel
theorem dX12_ringAt_26 : decode cX12_ringAt 26 = .ok (.iload_n 2, 1) := by decide +kernel
theorem dX12_ringAt_27 : decode cX12_ringAt 27 = .ok (.invokevirtual 384, 3) := by decide +kernel
theorem dX12_ringAt_30 : decode cX12_ringAt 30 = .ok (.istore_n 3, 1) := by decide +kernel
theorem dX12_ringAt_31 : decode cX12_ringAt 31 = .ok (.iload_n 3, 1) := by decide +kernel
theorem dX12_ringAt_32 : decode cX12_ringAt 32 = .ok (.ifCond .ge 12, 3) := by decide +kernel
theorem dX12_ringAt_35 : decode cX12_ringAt 35 = .ok (.aload_n 0, 1) := by decide +kernel
theorem dX12_ringAt_36 : decode cX12_ringAt 36 = .ok (.bipush 8, 2) := by decide +kernel
theorem dX12_ringAt_38 : decode cX12_ringAt 38 = .ok (.invokevirtual 319, 3) := by decide +kernel
theorem dX12_ringAt_41 : decode cX12_ringAt 41 = .ok (.goto 4, 3) := by decide +kernel
theorem dX12_ringAt_44 : decode cX12_ringAt 44 = .ok (.iload_n 3, 1) := by decide +kernel
theorem dX12_ringAt_45 : decode cX12_ringAt 45 = .ok (.ireturn, 1) := by decide +kernel
theorem dX12_handOf_0 : decode cX12_handOf 0 = .ok (.aload_n 0, 1) := by decide +kernel
theorem dX12_handOf_1 : decode cX12_handOf 1 = .ok (.getfield 35, 3) := by decide +kernel
theorem dX12_handOf_4 : decode cX12_handOf 4 = .ok (.bipush 59, 2) := by decide +kernel
theorem dX12_handOf_6 : decode cX12_handOf 6 = .ok (.iload_n 1, 1) := by decide +kernel
theorem dX12_handOf_7 : decode cX12_handOf 7 = .ok (.iadd, 1) := by decide +kernel
theorem dX12_handOf_8 : decode cX12_handOf 8 = .ok (.iaload, 1) := by decide +kernel
theorem dX12_handOf_9 : decode cX12_handOf 9 = .ok (.istore_n 3, 1) := by decide +kernel
theorem dX12_handOf_10 : decode cX12_handOf 10 = .ok (.iload_n 2, 1) := by decide +kernel
theorem dX12_handOf_11 : decode cX12_handOf 11 = .ok (.ifCond .ne 7, 3) := by decide +kernel
theorem dX12_handOf_14 : decode cX12_handOf 14 = .ok (.iload_n 3, 1) := by decide +kernel
theorem dX12_handOf_15 : decode cX12_handOf 15 = .ok (.goto 30, 3) := by decide +kernel
theorem dX12_handOf_18 : decode cX12_handOf 18 = .ok (.iload_n 2, 1) := by decide +kernel
theorem dX12_handOf_19 : decode cX12_handOf 19 = .ok (.iconst 1, 1) := by decide +kernel
theorem dX12_handOf_20 : decode cX12_handOf 20 = .ok (.if_icmp .ne 11, 3) := by decide +kernel
theorem dX12_handOf_23 : decode cX12_handOf 23 = .ok (.iload_n 3, 1) := by decide +kernel
theorem dX12_handOf_24 : decode cX12_handOf 24 = .ok (.iconst 1, 1) := by decide +kernel
theorem dX12_handOf_25 : decode cX12_handOf 25 = .ok (.iadd, 1) := by decide +kernel
theorem dX12_handOf_26 : decode cX12_handOf 26 = .ok (.iconst 2, 1) := by decide +kernel
theorem dX12_handOf_27 : decode cX12_handOf 27 = .ok (.idiv, 1) := by decide +kernel
theorem dX12_handOf_28 : decode cX12_handOf 28 = .ok (.goto 17, 3) := by decide +kernel
theorem dX12_handOf_31 : decode cX12_handOf 31 = .ok (.iload_n 2, 1) := by decide +kernel
theorem dX12_handOf_32 : decode cX12_handOf 32 = .ok (.iconst 2, 1) := by decide +kernel
theorem dX12_handOf_33 : decode cX12_handOf 33 = .ok (.if_icmp .ne 11, 3) := by decide +kernel
theorem dX12_handOf_36 : decode cX12_handOf 36 = .ok (.iconst 1, 1) := by decide +kernel
theorem dX12_handOf_37 : decode cX12_handOf 37 = .ok (.iload_n 3, 1) := by decide +kernel
theorem dX12_handOf_38 : decode cX12_handOf 38 = .ok (.invokestatic 397, 3) := by decide +kernel
theorem dX12_handOf_41 : decode cX12_handOf 41 = .ok (.goto 4, 3) := by decide +kernel
theorem dX12_handOf_44 : decode cX12_handOf 44 = .ok (.iconst 0, 1) := by decide +kernel
theorem dX12_handOf_45 : decode cX12_handOf 45 = .ok (.ireturn, 1) := by decide +kernel
theorem dX12_hand_0 : decode cX12_hand 0 = .ok (.aload_n 0, 1) := by decide +kernel
theorem dX12_hand_1 : decode cX12_hand 1 = .ok (.iconst 0, 1) := by decide +kernel
theorem dX12_hand_2 : decode cX12_hand 2 = .ok (.putfield 63, 3) := by decide +kernel
theorem dX12_hand_5 : decode cX12_hand 5 = .ok (.aload_n 0, 1) := by decide +kernel
theorem dX12_hand_6 : decode cX12_hand 6 = .ok (.iconst 0, 1) := by decide +kernel
theorem dX12_hand_7 : decode cX12_hand 7 = .ok (.putfield 66, 3) := by decide +kernel
theorem dX12_hand_10 : decode cX12_hand 10 = .ok (.aload_n 0, 1) := by decide +kernel
theorem dX12_hand_11 : decode cX12_hand 11 = .ok (.iload_n 1, 1) := by decide +kernel
theorem dX12_hand_12 : decode cX12_hand 12 = .ok (.invokevirtual 332, 3) := by decide +kernel
theorem dX12_hand_15 : decode cX12_hand 15 = .ok (.ifCond .ne 9, 3) := by decide +kernel
theorem dX12_hand_18 : decode cX12_hand 18 = .ok (.aload_n 0, 1) := by decide +kernel
theorem dX12_hand_19 : decode cX12_hand 19 = .ok (.iconst 2, 1) := by decide +kernel
theorem dX12_hand_20 : decode cX12_hand 20 = .ok (.invokevirtual 319, 3) := by decide +kernel
theorem dX12_hand_23 : decode cX12_hand 23 = .ok (.ireturn, 1) := by decide +kernel
theorem dX12_hand_24 : decode cX12_hand 24 = .ok (.iload_n 2, 1) := by decide +kernel
theorem dX12_hand_25 : decode cX12_hand 25 = .ok (.i2l, 1) := by decide +kernel
theorem dX12_hand_26 : decode cX12_hand 26 = .ok (.lconst 0, 1) := by decide +kernel
theorem dX12_hand_27 : decode cX12_hand 27 = .ok (.ldc2_w 96, 3) := by decide +kernel
theorem dX12_hand_30 : decode cX12_hand 30 = .ok (.invokestatic 98, 3) := by decide +kernel
theorem dX12_hand_33 : decode cX12_hand 33 = .ok (.ifCond .eq 12, 3) := by decide +kernel
theorem dX12_hand_36 : decode cX12_hand 36 = .ok (.aload_n 0, 1) := by decide +kernel
theorem dX12_hand_37 : decode cX12_hand 37 = .ok (.iload_n 1, 1) := by decide +kernel
theorem dX12_hand_38 : decode cX12_hand 38 = .ok (.iload_n 2, 1) := by decide +kernel
theorem dX12_hand_39 : decode cX12_hand 39 = .ok (.invokevirtual 400, 3) := by decide +kernel
theorem dX12_hand_42 : decode cX12_hand 42 = .ok (.goto 8, 3) := by decide +kernel
theorem dX12_hand_45 : decode cX12_hand 45 = .ok (.aload_n 0, 1) := by decide +kernel
theorem dX12_hand_46 : decode cX12_hand 46 = .ok (.iconst 5, 1) := by decide +kernel
theorem dX12_hand_47 : decode cX12_hand 47 = .ok (.invokevirtual 319, 3) := by decide +kernel
theorem dX12_hand_50 : decode cX12_hand 50 = .ok (.ireturn, 1) := by decide +kernel
theorem dX12_isShot_0 : decode cX12_isShot 0 = .ok (.aload_n 0, 1) := by decide +kernel
theorem dX12_isShot_1 : decode cX12_isShot 1 = .ok (.iload_n 1, 1) := by decide +kernel
theorem dX12_isShot_2 : decode cX12_isShot 2 = .ok (.invokevirtual 332, 3) := by decide +kernel
theorem dX12_isShot_5 : decode cX12_isShot 5 = .ok (.ifCond .eq 15, 3) := by decide +kernel
theorem dX12_isShot_8 : decode cX12_isShot 8 = .ok (.aload_n 0, 1) := by decide +kernel
theorem dX12_isShot_9 : decode cX12_isShot 9 = .ok (.iload_n 2, 1) := by decide +kernel
theorem dX12_isShot_10 : decode cX12_isShot 10 = .ok (.invokevirtual 322, 3) := by decide +kernel
theorem dX12_isShot_13 : decode cX12_isShot 13 = .ok (.ifCond .eq 7, 3) := by decide +kernel
theorem dX12_isShot_16 : decode cX12_isShot 16 = .ok (.iconst 1, 1) := by decide +kernel
theorem dX12_isShot_17 : decode cX12_isShot 17 = .ok (.goto 4, 3) := by decide +kernel
theorem dX12_isShot_20 : decode cX12_isShot 20 = .ok (.iconst 0, 1) := by decide +kernel
theorem dX12_isShot_21 : decode cX12_isShot 21 = .ok (.ireturn, 1) := by decide +kernel
theorem dX12_counts_0 : decode cX12_counts 0 = .ok (.iconst 0, 1) := by decide +kernel
theorem dX12_counts_1 : decode cX12_counts 1 = .ok (.istore 8, 2) := by decide +kernel
theorem dX12_counts_3 : decode cX12_counts 3 = .ok (.iload 8, 2) := by decide +kernel
theorem dX12_counts_5 : decode cX12_counts 5 = .ok (.bipush 21, 2) := by decide +kernel
theorem dX12_counts_7 : decode cX12_counts 7 = .ok (.if_icmp .ge 17, 3) := by decide +kernel
theorem dX12_counts_10 : decode cX12_counts 10 = .ok (.aload_n 0, 1) := by decide +kernel
theorem dX12_counts_11 : decode cX12_counts 11 = .ok (.getfield 44, 3) := by decide +kernel
theorem dX12_counts_14 : decode cX12_counts 14 = .ok (.iload 8, 2) := by decide +kernel
theorem dX12_counts_16 : decode cX12_counts 16 = .ok (.iconst 0, 1) := by decide +kernel
theorem dX12_counts_17 : decode cX12_counts 17 = .ok (.iastore, 1) := by decide +kernel
theorem dX12_counts_18 : decode cX12_counts 18 = .ok (.iinc 8 1, 3) := by decide +kernel
theorem dX12_counts_21 : decode cX12_counts 21 = .ok (.goto (-18), 3) := by decide +kernel
theorem dX12_counts_24 : decode cX12_counts 24 = .ok (.aload_n 0, 1) := by decide +kernel
theorem dX12_counts_25 : decode cX12_counts 25 = .ok (.iconst 1, 1) := by decide +kernel
theorem dX12_counts_26 : decode cX12_counts 26 = .ok (.putfield 403, 3) := by decide +kernel
theorem dX12_counts_29 : decode cX12_counts 29 = .ok (.aload_n 0, 1) := by decide +kernel
theorem dX12_counts_30 : decode cX12_counts 30 = .ok (.iconst 0, 1) := by decide +kernel
theorem dX12_counts_31 : decode cX12_counts 31 = .ok (.putfield 406, 3) := by decide +kernel
theorem dX12_counts_34 : decode cX12_counts 34 = .ok (.aload_n 0, 1) := by decide +kernel
theorem dX12_counts_35 : decode cX12_counts 35 = .ok (.iload_n 2, 1) := by decide +kernel
theorem dX12_counts_36 : decode cX12_counts 36 = .ok (.iload_n 3, 1) := by decide +kernel
theorem dX12_counts_37 : decode cX12_counts 37 = .ok (.iload 7, 2) := by decide +kernel
theorem dX12_counts_39 : decode cX12_counts 39 = .ok (.invokevirtual 367, 3) := by decide +kernel
theorem dX12_counts_42 : decode cX12_counts 42 = .ok (.ifCond .ne 11, 3) := by decide +kernel
theorem dX12_counts_45 : decode cX12_counts 45 = .ok (.aload_n 0, 1) := by decide +kernel
theorem dX12_counts_46 : decode cX12_counts 46 = .ok (.getfield 44, 3) := by decide +kernel
theorem dX12_counts_49 : decode cX12_counts 49 = .ok (.iconst 0, 1) := by decide +kernel
theorem dX12_counts_50 : decode cX12_counts 50 = .ok (.iconst 1, 1) := by decide +kernel
theorem dX12_counts_51 : decode cX12_counts 51 = .ok (.iastore, 1) := by decide +kernel
theorem dX12_counts_52 : decode cX12_counts 52 = .ok (.return_, 1) := by decide +kernel
theorem dX12_counts_53 : decode cX12_counts 53 = .ok (.aload_n 0, 1) := by decide +kernel
theorem dX12_counts_54 : decode cX12_counts 54 = .ok (.iload_n 1, 1) := by decide +kernel
theorem dX12_counts_55 : decode cX12_counts 55 = .ok (.iload 4, 2) := by decide +kernel
theorem dX12_counts_57 : decode cX12_counts 57 = .ok (.invokevirtual 400, 3) := by decide +kernel
theorem dX12_counts_60 : decode cX12_counts 60 = .ok (.istore 8, 2) := by decide +kernel
theorem dX12_counts_62 : decode cX12_counts 62 = .ok (.aload_n 0, 1) := by decide +kernel
theorem dX12_counts_63 : decode cX12_counts 63 = .ok (.getfield 356, 3) := by decide +kernel
theorem dX12_counts_66 : decode cX12_counts 66 = .ok (.ifCond .le 7, 3) := by decide +kernel
theorem dX12_counts_69 : decode cX12_counts 69 = .ok (.iconst 2, 1) := by decide +kernel
theorem dX12_counts_70 : decode cX12_counts 70 = .ok (.goto 4, 3) := by decide +kernel
theorem dX12_counts_73 : decode cX12_counts 73 = .ok (.iconst 1, 1) := by decide +kernel
theorem dX12_counts_74 : decode cX12_counts 74 = .ok (.istore 9, 2) := by decide +kernel
theorem dX12_counts_76 : decode cX12_counts 76 = .ok (.aload_n 0, 1) := by decide +kernel
theorem dX12_counts_77 : decode cX12_counts 77 = .ok (.iconst 2, 1) := by decide +kernel
theorem dX12_counts_78 : decode cX12_counts 78 = .ok (.iload 8, 2) := by decide +kernel
theorem dX12_counts_80 : decode cX12_counts 80 = .ok (.imul, 1) := by decide +kernel
theorem dX12_counts_81 : decode cX12_counts 81 = .ok (.iconst 1, 1) := by decide +kernel
theorem dX12_counts_82 : decode cX12_counts 82 = .ok (.iadd, 1) := by decide +kernel
theorem dX12_counts_83 : decode cX12_counts 83 = .ok (.iconst 2, 1) := by decide +kernel
theorem dX12_counts_84 : decode cX12_counts 84 = .ok (.iload 8, 2) := by decide +kernel
theorem dX12_counts_86 : decode cX12_counts 86 = .ok (.imul, 1) := by decide +kernel
theorem dX12_counts_87 : decode cX12_counts 87 = .ok (.iconst 1, 1) := by decide +kernel
theorem dX12_counts_88 : decode cX12_counts 88 = .ok (.iadd, 1) := by decide +kernel
theorem dX12_counts_89 : decode cX12_counts 89 = .ok (.imul, 1) := by decide +kernel
theorem dX12_counts_90 : decode cX12_counts 90 = .ok (.iload 9, 2) := by decide +kernel
theorem dX12_counts_92 : decode cX12_counts 92 = .ok (.imul, 1) := by decide +kernel
theorem dX12_counts_93 : decode cX12_counts 93 = .ok (.putfield 403, 3) := by decide +kernel
theorem dX12_counts_96 : decode cX12_counts 96 = .ok (.iload 8, 2) := by decide +kernel
theorem dX12_counts_98 : decode cX12_counts 98 = .ok (.ineg, 1) := by decide +kernel
theorem dX12_counts_99 : decode cX12_counts 99 = .ok (.istore 10, 2) := by decide +kernel
theorem dX12_counts_101 : decode cX12_counts 101 = .ok (.iload 10, 2) := by decide +kernel
theorem dX12_counts_103 : decode cX12_counts 103 = .ok (.iload 8, 2) := by decide +kernel
theorem dX12_counts_105 : decode cX12_counts 105 = .ok (.if_icmp .gt 99, 3) := by decide +kernel
theorem dX12_counts_108 : decode cX12_counts 108 = .ok (.iload 8, 2) := by decide +kernel
theorem dX12_counts_110 : decode cX12_counts 110 = .ok (.ineg, 1) := by decide +kernel
theorem dX12_counts_111 : decode cX12_counts 111 = .ok (.istore 11, 2) := by decide +kernel
theorem dX12_counts_113 : decode cX12_counts 113 = .ok (.iload 11, 2) := by decide +kernel
theorem dX12_counts_115 : decode cX12_counts 115 = .ok (.iload 8, 2) := by decide +kernel
theorem dX12_counts_117 : decode cX12_counts 117 = .ok (.if_icmp .gt 81, 3) := by decide +kernel
theorem dX12_counts_120 : decode cX12_counts 120 = .ok (.iconst 0, 1) := by decide +kernel
theorem dX12_counts_121 : decode cX12_counts 121 = .ok (.istore 12, 2) := by decide +kernel
theorem dX12_counts_123 : decode cX12_counts 123 = .ok (.iload 12, 2) := by decide +kernel
theorem dX12_counts_125 : decode cX12_counts 125 = .ok (.iload 9, 2) := by decide +kernel
theorem dX12_counts_127 : decode cX12_counts 127 = .ok (.if_icmp .ge 65, 3) := by decide +kernel
theorem dX12_counts_130 : decode cX12_counts 130 = .ok (.aload_n 0, 1) := by decide +kernel
theorem dX12_counts_131 : decode cX12_counts 131 = .ok (.aload_n 0, 1) := by decide +kernel
theorem dX12_counts_132 : decode cX12_counts 132 = .ok (.iload_n 1, 1) := by decide +kernel
theorem dX12_counts_133 : decode cX12_counts 133 = .ok (.iload 5, 2) := by decide +kernel
theorem dX12_counts_135 : decode cX12_counts 135 = .ok (.iload 12, 2) := by decide +kernel
theorem dX12_counts_137 : decode cX12_counts 137 = .ok (.ifCond .ne 7, 3) := by decide +kernel
theorem dX12_counts_140 : decode cX12_counts 140 = .ok (.iconst 1, 1) := by decide +kernel
theorem dX12_counts_141 : decode cX12_counts 141 = .ok (.goto 4, 3) := by decide +kernel
theorem dX12_counts_144 : decode cX12_counts 144 = .ok (.iconst (-1), 1) := by decide +kernel
theorem dX12_counts_145 : decode cX12_counts 145 = .ok (.iload 10, 2) := by decide +kernel
theorem dX12_counts_147 : decode cX12_counts 147 = .ok (.invokevirtual 377, 3) := by decide +kernel
theorem dX12_counts_150 : decode cX12_counts 150 = .ok (.aload_n 0, 1) := by decide +kernel
theorem dX12_counts_151 : decode cX12_counts 151 = .ok (.iload_n 1, 1) := by decide +kernel
theorem dX12_counts_152 : decode cX12_counts 152 = .ok (.iload 6, 2) := by decide +kernel
theorem dX12_counts_154 : decode cX12_counts 154 = .ok (.iload 11, 2) := by decide +kernel
theorem dX12_counts_156 : decode cX12_counts 156 = .ok (.invokevirtual 381, 3) := by decide +kernel
theorem dX12_counts_159 : decode cX12_counts 159 = .ok (.invokevirtual 394, 3) := by decide +kernel
theorem dX12_counts_162 : decode cX12_counts 162 = .ok (.istore 13, 2) := by decide +kernel
theorem dX12_counts_164 : decode cX12_counts 164 = .ok (.aload_n 0, 1) := by decide +kernel
theorem dX12_counts_165 : decode cX12_counts 165 = .ok (.getfield 44, 3) := by decide +kernel
theorem dX12_counts_168 : decode cX12_counts 168 = .ok (.iload 13, 2) := by decide +kernel
theorem dX12_counts_170 : decode cX12_counts 170 = .ok (.dup2, 1) := by decide +kernel
theorem dX12_counts_171 : decode cX12_counts 171 = .ok (.iaload, 1) := by decide +kernel
theorem dX12_counts_172 : decode cX12_counts 172 = .ok (.iconst 1, 1) := by decide +kernel
theorem dX12_counts_173 : decode cX12_counts 173 = .ok (.iadd, 1) := by decide +kernel
theorem dX12_counts_174 : decode cX12_counts 174 = .ok (.iastore, 1) := by decide +kernel
theorem dX12_counts_175 : decode cX12_counts 175 = .ok (.aload_n 0, 1) := by decide +kernel
theorem dX12_counts_176 : decode cX12_counts 176 = .ok (.dup, 1) := by decide +kernel
theorem dX12_counts_177 : decode cX12_counts 177 = .ok (.getfield 406, 3) := by decide +kernel
theorem dX12_counts_180 : decode cX12_counts 180 = .ok (.iload 13, 2) := by decide +kernel
theorem dX12_counts_182 : decode cX12_counts 182 = .ok (.iadd, 1) := by decide +kernel
theorem dX12_counts_183 : decode cX12_counts 183 = .ok (.putfield 406, 3) := by decide +kernel
theorem dX12_counts_186 : decode cX12_counts 186 = .ok (.iinc 12 1, 3) := by decide +kernel
theorem dX12_counts_189 : decode cX12_counts 189 = .ok (.goto (-66), 3) := by decide +kernel
theorem dX12_counts_192 : decode cX12_counts 192 = .ok (.iinc 11 1, 3) := by decide +kernel
theorem dX12_counts_195 : decode cX12_counts 195 = .ok (.goto (-82), 3) := by decide +kernel
theorem dX12_counts_198 : decode cX12_counts 198 = .ok (.iinc 10 1, 3) := by decide +kernel
theorem dX12_counts_201 : decode cX12_counts 201 = .ok (.goto (-100), 3) := by decide +kernel
theorem dX12_counts_204 : decode cX12_counts 204 = .ok (.return_, 1) := by decide +kernel
theorem dX12_fraction_0 : decode cX12_fraction 0 = .ok (.lload_n 1, 1) := by decide +kernel
theorem dX12_fraction_1 : decode cX12_fraction 1 = .ok (.invokestatic 72, 3) := by decide +kernel
theorem dX12_fraction_4 : decode cX12_fraction 4 = .ok (.lstore 5, 2) := by decide +kernel
theorem dX12_fraction_6 : decode cX12_fraction 6 = .ok (.lload_n 3, 1) := by decide +kernel
theorem dX12_fraction_7 : decode cX12_fraction 7 = .ok (.lstore 7, 2) := by decide +kernel
theorem dX12_fraction_9 : decode cX12_fraction 9 = .ok (.lload 7, 2) := by decide +kernel
theorem dX12_fraction_11 : decode cX12_fraction 11 = .ok (.lconst 0, 1) := by decide +kernel
theorem dX12_fraction_12 : decode cX12_fraction 12 = .ok (.lcmp, 1) := by decide +kernel
theorem dX12_fraction_13 : decode cX12_fraction 13 = .ok (.ifCond .eq 21, 3) := by decide +kernel
theorem dX12_fraction_16 : decode cX12_fraction 16 = .ok (.lload 5, 2) := by decide +kernel
theorem dX12_fraction_18 : decode cX12_fraction 18 = .ok (.lload 7, 2) := by decide +kernel
theorem dX12_fraction_20 : decode cX12_fraction 20 = .ok (.lrem, 1) := by decide +kernel
theorem dX12_fraction_21 : decode cX12_fraction 21 = .ok (.lstore 9, 2) := by decide +kernel
theorem dX12_fraction_23 : decode cX12_fraction 23 = .ok (.lload 7, 2) := by decide +kernel
theorem dX12_fraction_25 : decode cX12_fraction 25 = .ok (.lstore 5, 2) := by decide +kernel
theorem dX12_fraction_27 : decode cX12_fraction 27 = .ok (.lload 9, 2) := by decide +kernel
theorem dX12_fraction_29 : decode cX12_fraction 29 = .ok (.lstore 7, 2) := by decide +kernel
theorem dX12_fraction_31 : decode cX12_fraction 31 = .ok (.goto (-22), 3) := by decide +kernel
theorem dX12_fraction_34 : decode cX12_fraction 34 = .ok (.aload_n 0, 1) := by decide +kernel
theorem dX12_fraction_35 : decode cX12_fraction 35 = .ok (.lload_n 1, 1) := by decide +kernel
theorem dX12_fraction_36 : decode cX12_fraction 36 = .ok (.lload 5, 2) := by decide +kernel
theorem dX12_fraction_38 : decode cX12_fraction 38 = .ok (.ldiv, 1) := by decide +kernel
theorem dX12_fraction_39 : decode cX12_fraction 39 = .ok (.putfield 69, 3) := by decide +kernel
theorem dX12_fraction_42 : decode cX12_fraction 42 = .ok (.aload_n 0, 1) := by decide +kernel
theorem dX12_fraction_43 : decode cX12_fraction 43 = .ok (.lload_n 3, 1) := by decide +kernel
theorem dX12_fraction_44 : decode cX12_fraction 44 = .ok (.lload 5, 2) := by decide +kernel
theorem dX12_fraction_46 : decode cX12_fraction 46 = .ok (.ldiv, 1) := by decide +kernel
theorem dX12_fraction_47 : decode cX12_fraction 47 = .ok (.putfield 7, 3) := by decide +kernel
theorem dX12_fraction_50 : decode cX12_fraction 50 = .ok (.iconst 1, 1) := by decide +kernel
theorem dX12_fraction_51 : decode cX12_fraction 51 = .ok (.ireturn, 1) := by decide +kernel
theorem dX12_odds_0 : decode cX12_odds 0 = .ok (.aload_n 0, 1) := by decide +kernel
theorem dX12_odds_1 : decode cX12_odds 1 = .ok (.iconst 0, 1) := by decide +kernel
theorem dX12_odds_2 : decode cX12_odds 2 = .ok (.putfield 63, 3) := by decide +kernel
theorem dX12_odds_5 : decode cX12_odds 5 = .ok (.aload_n 0, 1) := by decide +kernel
theorem dX12_odds_6 : decode cX12_odds 6 = .ok (.iconst 0, 1) := by decide +kernel
theorem dX12_odds_7 : decode cX12_odds 7 = .ok (.putfield 66, 3) := by decide +kernel
theorem dX12_odds_10 : decode cX12_odds 10 = .ok (.aload_n 0, 1) := by decide +kernel
theorem dX12_odds_11 : decode cX12_odds 11 = .ok (.iload_n 1, 1) := by decide +kernel
theorem dX12_odds_12 : decode cX12_odds 12 = .ok (.iload_n 2, 1) := by decide +kernel
theorem dX12_odds_13 : decode cX12_odds 13 = .ok (.invokevirtual 409, 3) := by decide +kernel
theorem dX12_odds_16 : decode cX12_odds 16 = .ok (.ifCond .ne 9, 3) := by decide +kernel
theorem dX12_odds_19 : decode cX12_odds 19 = .ok (.aload_n 0, 1) := by decide +kernel
theorem dX12_odds_20 : decode cX12_odds 20 = .ok (.iconst 2, 1) := by decide +kernel
theorem dX12_odds_21 : decode cX12_odds 21 = .ok (.invokevirtual 78, 3) := by decide +kernel
theorem dX12_odds_24 : decode cX12_odds 24 = .ok (.ireturn, 1) := by decide +kernel
theorem dX12_odds_25 : decode cX12_odds 25 = .ok (.iload_n 3, 1) := by decide +kernel
theorem dX12_odds_26 : decode cX12_odds 26 = .ok (.aload_n 0, 1) := by decide +kernel
theorem dX12_odds_27 : decode cX12_odds 27 = .ok (.getfield 35, 3) := by decide +kernel
theorem dX12_odds_30 : decode cX12_odds 30 = .ok (.bipush 53, 2) := by decide +kernel
theorem dX12_odds_32 : decode cX12_odds 32 = .ok (.iload_n 1, 1) := by decide +kernel
theorem dX12_odds_33 : decode cX12_odds 33 = .ok (.iadd, 1) := by decide +kernel
theorem dX12_odds_34 : decode cX12_odds 34 = .ok (.iaload, 1) := by decide +kernel
theorem dX12_odds_35 : decode cX12_odds 35 = .ok (.invokestatic 361, 3) := by decide +kernel
theorem dX12_odds_38 : decode cX12_odds 38 = .ok (.ifCond .eq 39, 3) := by decide +kernel
theorem dX12_odds_41 : decode cX12_odds 41 = .ok (.iload 4, 2) := by decide +kernel
theorem dX12_odds_43 : decode cX12_odds 43 = .ok (.i2l, 1) := by decide +kernel
theorem dX12_odds_44 : decode cX12_odds 44 = .ok (.lconst 0, 1) := by decide +kernel
theorem dX12_odds_45 : decode cX12_odds 45 = .ok (.ldc2_w 96, 3) := by decide +kernel
theorem dX12_odds_48 : decode cX12_odds 48 = .ok (.invokestatic 98, 3) := by decide +kernel
theorem dX12_odds_51 : decode cX12_odds 51 = .ok (.ifCond .eq 26, 3) := by decide +kernel
theorem dX12_odds_54 : decode cX12_odds 54 = .ok (.iload 5, 2) := by decide +kernel
theorem dX12_odds_56 : decode cX12_odds 56 = .ok (.iload 6, 2) := by decide +kernel
theorem dX12_odds_58 : decode cX12_odds 58 = .ok (.invokestatic 374, 3) := by decide +kernel
theorem dX12_odds_61 : decode cX12_odds 61 = .ok (.ifCond .eq 16, 3) := by decide +kernel
theorem dX12_odds_64 : decode cX12_odds 64 = .ok (.iload 7, 2) := by decide +kernel
theorem dX12_odds_66 : decode cX12_odds 66 = .ok (.i2l, 1) := by decide +kernel
theorem dX12_odds_67 : decode cX12_odds 67 = .ok (.lconst 1, 1) := by decide +kernel
theorem dX12_odds_68 : decode cX12_odds 68 = .ok (.ldc2_w 359, 3) := by decide +kernel
theorem dX12_odds_71 : decode cX12_odds 71 = .ok (.invokestatic 98, 3) := by decide +kernel
theorem dX12_odds_74 : decode cX12_odds 74 = .ok (.ifCond .ne 9, 3) := by decide +kernel
theorem dX12_odds_77 : decode cX12_odds 77 = .ok (.aload_n 0, 1) := by decide +kernel
theorem dX12_odds_78 : decode cX12_odds 78 = .ok (.iconst 5, 1) := by decide +kernel
theorem dX12_odds_79 : decode cX12_odds 79 = .ok (.invokevirtual 78, 3) := by decide +kernel
theorem dX12_odds_82 : decode cX12_odds 82 = .ok (.ireturn, 1) := by decide +kernel
theorem dX12_odds_83 : decode cX12_odds 83 = .ok (.aload_n 0, 1) := by decide +kernel
theorem dX12_odds_84 : decode cX12_odds 84 = .ok (.iload_n 1, 1) := by decide +kernel
theorem dX12_odds_85 : decode cX12_odds 85 = .ok (.iload_n 2, 1) := by decide +kernel
theorem dX12_odds_86 : decode cX12_odds 86 = .ok (.iload_n 3, 1) := by decide +kernel
theorem dX12_odds_87 : decode cX12_odds 87 = .ok (.iload 4, 2) := by decide +kernel
theorem dX12_odds_89 : decode cX12_odds 89 = .ok (.iload 5, 2) := by decide +kernel
theorem dX12_odds_91 : decode cX12_odds 91 = .ok (.iload 6, 2) := by decide +kernel
theorem dX12_odds_93 : decode cX12_odds 93 = .ok (.aload_n 0, 1) := by decide +kernel
theorem dX12_odds_94 : decode cX12_odds 94 = .ok (.getfield 35, 3) := by decide +kernel
theorem dX12_odds_97 : decode cX12_odds 97 = .ok (.bipush 7, 2) := by decide +kernel
theorem dX12_odds_99 : decode cX12_odds 99 = .ok (.iaload, 1) := by decide +kernel
theorem dX12_odds_100 : decode cX12_odds 100 = .ok (.invokevirtual 412, 3) := by decide +kernel
theorem dX12_odds_103 : decode cX12_odds 103 = .ok (.iconst 0, 1) := by decide +kernel
theorem dX12_odds_104 : decode cX12_odds 104 = .ok (.istore 8, 2) := by decide +kernel
theorem dX12_odds_106 : decode cX12_odds 106 = .ok (.iload 7, 2) := by decide +kernel
theorem dX12_odds_108 : decode cX12_odds 108 = .ok (.istore 9, 2) := by decide +kernel
theorem dX12_odds_110 : decode cX12_odds 110 = .ok (.iload 9, 2) := by decide +kernel
theorem dX12_odds_112 : decode cX12_odds 112 = .ok (.bipush 21, 2) := by decide +kernel
theorem dX12_odds_114 : decode cX12_odds 114 = .ok (.if_icmp .ge 21, 3) := by decide +kernel
theorem dX12_odds_117 : decode cX12_odds 117 = .ok (.iload 8, 2) := by decide +kernel
theorem dX12_odds_119 : decode cX12_odds 119 = .ok (.aload_n 0, 1) := by decide +kernel
theorem dX12_odds_120 : decode cX12_odds 120 = .ok (.getfield 44, 3) := by decide +kernel
theorem dX12_odds_123 : decode cX12_odds 123 = .ok (.iload 9, 2) := by decide +kernel
theorem dX12_odds_125 : decode cX12_odds 125 = .ok (.iaload, 1) := by decide +kernel
theorem dX12_odds_126 : decode cX12_odds 126 = .ok (.iadd, 1) := by decide +kernel
theorem dX12_odds_127 : decode cX12_odds 127 = .ok (.istore 8, 2) := by decide +kernel
theorem dX12_odds_129 : decode cX12_odds 129 = .ok (.iinc 9 1, 3) := by decide +kernel
theorem dX12_odds_132 : decode cX12_odds 132 = .ok (.goto (-22), 3) := by decide +kernel
theorem dX12_odds_135 : decode cX12_odds 135 = .ok (.aload_n 0, 1) := by decide +kernel
theorem dX12_odds_136 : decode cX12_odds 136 = .ok (.iload 8, 2) := by decide +kernel
theorem dX12_odds_138 : decode cX12_odds 138 = .ok (.i2l, 1) := by decide +kernel
theorem dX12_odds_139 : decode cX12_odds 139 = .ok (.aload_n 0, 1) := by decide +kernel
theorem dX12_odds_140 : decode cX12_odds 140 = .ok (.getfield 403, 3) := by decide +kernel
theorem dX12_odds_143 : decode cX12_odds 143 = .ok (.i2l, 1) := by decide +kernel
theorem dX12_odds_144 : decode cX12_odds 144 = .ok (.invokevirtual 416, 3) := by decide +kernel
theorem dX12_odds_147 : decode cX12_odds 147 = .ok (.ireturn, 1) := by decide +kernel
theorem dX12_mean_0 : decode cX12_mean 0 = .ok (.aload_n 0, 1) := by decide +kernel
theorem dX12_mean_1 : decode cX12_mean 1 = .ok (.iconst 0, 1) := by decide +kernel
theorem dX12_mean_2 : decode cX12_mean 2 = .ok (.putfield 63, 3) := by decide +kernel
theorem dX12_mean_5 : decode cX12_mean 5 = .ok (.aload_n 0, 1) := by decide +kernel
theorem dX12_mean_6 : decode cX12_mean 6 = .ok (.iconst 0, 1) := by decide +kernel
theorem dX12_mean_7 : decode cX12_mean 7 = .ok (.putfield 66, 3) := by decide +kernel
theorem dX12_mean_10 : decode cX12_mean 10 = .ok (.aload_n 0, 1) := by decide +kernel
theorem dX12_mean_11 : decode cX12_mean 11 = .ok (.iload_n 1, 1) := by decide +kernel
theorem dX12_mean_12 : decode cX12_mean 12 = .ok (.iload_n 2, 1) := by decide +kernel
theorem dX12_mean_13 : decode cX12_mean 13 = .ok (.invokevirtual 409, 3) := by decide +kernel
theorem dX12_mean_16 : decode cX12_mean 16 = .ok (.ifCond .ne 9, 3) := by decide +kernel
theorem dX12_mean_19 : decode cX12_mean 19 = .ok (.aload_n 0, 1) := by decide +kernel
theorem dX12_mean_20 : decode cX12_mean 20 = .ok (.iconst 2, 1) := by decide +kernel
theorem dX12_mean_21 : decode cX12_mean 21 = .ok (.invokevirtual 78, 3) := by decide +kernel
theorem dX12_mean_24 : decode cX12_mean 24 = .ok (.ireturn, 1) := by decide +kernel
theorem dX12_mean_25 : decode cX12_mean 25 = .ok (.iload_n 3, 1) := by decide +kernel
theorem dX12_mean_26 : decode cX12_mean 26 = .ok (.aload_n 0, 1) := by decide +kernel
theorem dX12_mean_27 : decode cX12_mean 27 = .ok (.getfield 35, 3) := by decide +kernel
theorem dX12_mean_30 : decode cX12_mean 30 = .ok (.bipush 53, 2) := by decide +kernel
theorem dX12_mean_32 : decode cX12_mean 32 = .ok (.iload_n 1, 1) := by decide +kernel
theorem dX12_mean_33 : decode cX12_mean 33 = .ok (.iadd, 1) := by decide +kernel
theorem dX12_mean_34 : decode cX12_mean 34 = .ok (.iaload, 1) := by decide +kernel
theorem dX12_mean_35 : decode cX12_mean 35 = .ok (.invokestatic 361, 3) := by decide +kernel
theorem dX12_mean_38 : decode cX12_mean 38 = .ok (.ifCond .eq 26, 3) := by decide +kernel
theorem dX12_mean_41 : decode cX12_mean 41 = .ok (.iload 4, 2) := by decide +kernel
theorem dX12_mean_43 : decode cX12_mean 43 = .ok (.i2l, 1) := by decide +kernel
theorem dX12_mean_44 : decode cX12_mean 44 = .ok (.lconst 0, 1) := by decide +kernel
theorem dX12_mean_45 : decode cX12_mean 45 = .ok (.ldc2_w 96, 3) := by decide +kernel
theorem dX12_mean_48 : decode cX12_mean 48 = .ok (.invokestatic 98, 3) := by decide +kernel
theorem dX12_mean_51 : decode cX12_mean 51 = .ok (.ifCond .eq 13, 3) := by decide +kernel
theorem dX12_mean_54 : decode cX12_mean 54 = .ok (.iload 5, 2) := by decide +kernel
theorem dX12_mean_56 : decode cX12_mean 56 = .ok (.iload 6, 2) := by decide +kernel
theorem dX12_mean_58 : decode cX12_mean 58 = .ok (.invokestatic 374, 3) := by decide +kernel
theorem dX12_mean_61 : decode cX12_mean 61 = .ok (.ifCond .ne 9, 3) := by decide +kernel
theorem dX12_mean_64 : decode cX12_mean 64 = .ok (.aload_n 0, 1) := by decide +kernel
theorem dX12_mean_65 : decode cX12_mean 65 = .ok (.iconst 5, 1) := by decide +kernel
theorem dX12_mean_66 : decode cX12_mean 66 = .ok (.invokevirtual 78, 3) := by decide +kernel
theorem dX12_mean_69 : decode cX12_mean 69 = .ok (.ireturn, 1) := by decide +kernel
theorem dX12_mean_70 : decode cX12_mean 70 = .ok (.aload_n 0, 1) := by decide +kernel
theorem dX12_mean_71 : decode cX12_mean 71 = .ok (.iload_n 1, 1) := by decide +kernel
theorem dX12_mean_72 : decode cX12_mean 72 = .ok (.iload_n 2, 1) := by decide +kernel
theorem dX12_mean_73 : decode cX12_mean 73 = .ok (.iload_n 3, 1) := by decide +kernel
theorem dX12_mean_74 : decode cX12_mean 74 = .ok (.iload 4, 2) := by decide +kernel
theorem dX12_mean_76 : decode cX12_mean 76 = .ok (.iload 5, 2) := by decide +kernel
theorem dX12_mean_78 : decode cX12_mean 78 = .ok (.iload 6, 2) := by decide +kernel
theorem dX12_mean_80 : decode cX12_mean 80 = .ok (.aload_n 0, 1) := by decide +kernel
theorem dX12_mean_81 : decode cX12_mean 81 = .ok (.getfield 35, 3) := by decide +kernel
theorem dX12_mean_84 : decode cX12_mean 84 = .ok (.bipush 7, 2) := by decide +kernel
theorem dX12_mean_86 : decode cX12_mean 86 = .ok (.iaload, 1) := by decide +kernel
theorem dX12_mean_87 : decode cX12_mean 87 = .ok (.invokevirtual 412, 3) := by decide +kernel
theorem dX12_mean_90 : decode cX12_mean 90 = .ok (.aload_n 0, 1) := by decide +kernel
theorem dX12_mean_91 : decode cX12_mean 91 = .ok (.aload_n 0, 1) := by decide +kernel
theorem dX12_mean_92 : decode cX12_mean 92 = .ok (.getfield 406, 3) := by decide +kernel
theorem dX12_mean_95 : decode cX12_mean 95 = .ok (.i2l, 1) := by decide +kernel
theorem dX12_mean_96 : decode cX12_mean 96 = .ok (.aload_n 0, 1) := by decide +kernel
theorem dX12_mean_97 : decode cX12_mean 97 = .ok (.getfield 403, 3) := by decide +kernel
theorem dX12_mean_100 : decode cX12_mean 100 = .ok (.i2l, 1) := by decide +kernel
theorem dX12_mean_101 : decode cX12_mean 101 = .ok (.invokevirtual 416, 3) := by decide +kernel
theorem dX12_mean_104 : decode cX12_mean 104 = .ok (.ireturn, 1) := by decide +kernel
theorem dX12_noBest_0 : decode cX12_noBest 0 = .ok (.aload_n 0, 1) := by decide +kernel
theorem dX12_noBest_1 : decode cX12_noBest 1 = .ok (.ldc2_w 94, 3) := by decide +kernel
theorem dX12_noBest_4 : decode cX12_noBest 4 = .ok (.putfield 420, 3) := by decide +kernel
theorem dX12_noBest_7 : decode cX12_noBest 7 = .ok (.aload_n 0, 1) := by decide +kernel
theorem dX12_noBest_8 : decode cX12_noBest 8 = .ok (.lconst 1, 1) := by decide +kernel
theorem dX12_noBest_9 : decode cX12_noBest 9 = .ok (.putfield 423, 3) := by decide +kernel
theorem dX12_noBest_12 : decode cX12_noBest 12 = .ok (.return_, 1) := by decide +kernel
theorem dX12_isBetter_0 : decode cX12_isBetter 0 = .ok (.aload_n 0, 1) := by decide +kernel
theorem dX12_isBetter_1 : decode cX12_isBetter 1 = .ok (.getfield 406, 3) := by decide +kernel
theorem dX12_isBetter_4 : decode cX12_isBetter 4 = .ok (.i2l, 1) := by decide +kernel
theorem dX12_isBetter_5 : decode cX12_isBetter 5 = .ok (.aload_n 0, 1) := by decide +kernel
theorem dX12_isBetter_6 : decode cX12_isBetter 6 = .ok (.getfield 423, 3) := by decide +kernel
theorem dX12_isBetter_9 : decode cX12_isBetter 9 = .ok (.lmul, 1) := by decide +kernel
theorem dX12_isBetter_10 : decode cX12_isBetter 10 = .ok (.aload_n 0, 1) := by decide +kernel
theorem dX12_isBetter_11 : decode cX12_isBetter 11 = .ok (.getfield 420, 3) := by decide +kernel
theorem dX12_isBetter_14 : decode cX12_isBetter 14 = .ok (.aload_n 0, 1) := by decide +kernel
theorem dX12_isBetter_15 : decode cX12_isBetter 15 = .ok (.getfield 403, 3) := by decide +kernel
theorem dX12_isBetter_18 : decode cX12_isBetter 18 = .ok (.i2l, 1) := by decide +kernel
theorem dX12_isBetter_19 : decode cX12_isBetter 19 = .ok (.lmul, 1) := by decide +kernel
theorem dX12_isBetter_20 : decode cX12_isBetter 20 = .ok (.lcmp, 1) := by decide +kernel
theorem dX12_isBetter_21 : decode cX12_isBetter 21 = .ok (.ifCond .gt 5, 3) := by decide +kernel
theorem dX12_isBetter_24 : decode cX12_isBetter 24 = .ok (.iconst 0, 1) := by decide +kernel
theorem dX12_isBetter_25 : decode cX12_isBetter 25 = .ok (.ireturn, 1) := by decide +kernel
theorem dX12_isBetter_26 : decode cX12_isBetter 26 = .ok (.aload_n 0, 1) := by decide +kernel
theorem dX12_isBetter_27 : decode cX12_isBetter 27 = .ok (.aload_n 0, 1) := by decide +kernel
theorem dX12_isBetter_28 : decode cX12_isBetter 28 = .ok (.getfield 406, 3) := by decide +kernel
theorem dX12_isBetter_31 : decode cX12_isBetter 31 = .ok (.i2l, 1) := by decide +kernel
theorem dX12_isBetter_32 : decode cX12_isBetter 32 = .ok (.putfield 420, 3) := by decide +kernel
theorem dX12_isBetter_35 : decode cX12_isBetter 35 = .ok (.aload_n 0, 1) := by decide +kernel
theorem dX12_isBetter_36 : decode cX12_isBetter 36 = .ok (.aload_n 0, 1) := by decide +kernel
theorem dX12_isBetter_37 : decode cX12_isBetter 37 = .ok (.getfield 403, 3) := by decide +kernel
theorem dX12_isBetter_40 : decode cX12_isBetter 40 = .ok (.i2l, 1) := by decide +kernel
theorem dX12_isBetter_41 : decode cX12_isBetter 41 = .ok (.putfield 423, 3) := by decide +kernel
theorem dX12_isBetter_44 : decode cX12_isBetter 44 = .ok (.iconst 1, 1) := by decide +kernel
theorem dX12_isBetter_45 : decode cX12_isBetter 45 = .ok (.ireturn, 1) := by decide +kernel
theorem dX12_bestAim_0 : decode cX12_bestAim 0 = .ok (.aload_n 0, 1) := by decide +kernel
theorem dX12_bestAim_1 : decode cX12_bestAim 1 = .ok (.iconst 0, 1) := by decide +kernel
theorem dX12_bestAim_2 : decode cX12_bestAim 2 = .ok (.putfield 63, 3) := by decide +kernel
theorem dX12_bestAim_5 : decode cX12_bestAim 5 = .ok (.aload_n 0, 1) := by decide +kernel
theorem dX12_bestAim_6 : decode cX12_bestAim 6 = .ok (.iconst 0, 1) := by decide +kernel
theorem dX12_bestAim_7 : decode cX12_bestAim 7 = .ok (.putfield 66, 3) := by decide +kernel
theorem dX12_bestAim_10 : decode cX12_bestAim 10 = .ok (.aload_n 0, 1) := by decide +kernel
theorem dX12_bestAim_11 : decode cX12_bestAim 11 = .ok (.iload_n 1, 1) := by decide +kernel
theorem dX12_bestAim_12 : decode cX12_bestAim 12 = .ok (.iload_n 2, 1) := by decide +kernel
theorem dX12_bestAim_13 : decode cX12_bestAim 13 = .ok (.invokevirtual 409, 3) := by decide +kernel
theorem dX12_bestAim_16 : decode cX12_bestAim 16 = .ok (.ifCond .ne 9, 3) := by decide +kernel
theorem dX12_bestAim_19 : decode cX12_bestAim 19 = .ok (.aload_n 0, 1) := by decide +kernel
theorem dX12_bestAim_20 : decode cX12_bestAim 20 = .ok (.iconst 2, 1) := by decide +kernel
theorem dX12_bestAim_21 : decode cX12_bestAim 21 = .ok (.invokevirtual 319, 3) := by decide +kernel
theorem dX12_bestAim_24 : decode cX12_bestAim 24 = .ok (.ireturn, 1) := by decide +kernel
theorem dX12_bestAim_25 : decode cX12_bestAim 25 = .ok (.iload_n 3, 1) := by decide +kernel
theorem dX12_bestAim_26 : decode cX12_bestAim 26 = .ok (.aload_n 0, 1) := by decide +kernel
theorem dX12_bestAim_27 : decode cX12_bestAim 27 = .ok (.getfield 35, 3) := by decide +kernel
theorem dX12_bestAim_30 : decode cX12_bestAim 30 = .ok (.bipush 53, 2) := by decide +kernel
theorem dX12_bestAim_32 : decode cX12_bestAim 32 = .ok (.iload_n 1, 1) := by decide +kernel
theorem dX12_bestAim_33 : decode cX12_bestAim 33 = .ok (.iadd, 1) := by decide +kernel
theorem dX12_bestAim_34 : decode cX12_bestAim 34 = .ok (.iaload, 1) := by decide +kernel
theorem dX12_bestAim_35 : decode cX12_bestAim 35 = .ok (.invokestatic 361, 3) := by decide +kernel
theorem dX12_bestAim_38 : decode cX12_bestAim 38 = .ok (.ifCond .eq 27, 3) := by decide +kernel
theorem dX12_bestAim_41 : decode cX12_bestAim 41 = .ok (.iload 4, 2) := by decide +kernel
theorem dX12_bestAim_43 : decode cX12_bestAim 43 = .ok (.i2l, 1) := by decide +kernel
theorem dX12_bestAim_44 : decode cX12_bestAim 44 = .ok (.lconst 0, 1) := by decide +kernel
theorem dX12_bestAim_45 : decode cX12_bestAim 45 = .ok (.ldc2_w 96, 3) := by decide +kernel
theorem dX12_bestAim_48 : decode cX12_bestAim 48 = .ok (.invokestatic 98, 3) := by decide +kernel
theorem dX12_bestAim_51 : decode cX12_bestAim 51 = .ok (.ifCond .eq 14, 3) := by decide +kernel
theorem dX12_bestAim_54 : decode cX12_bestAim 54 = .ok (.iload 5, 2) := by decide +kernel
theorem dX12_bestAim_56 : decode cX12_bestAim 56 = .ok (.i2l, 1) := by decide +kernel
theorem dX12_bestAim_57 : decode cX12_bestAim 57 = .ok (.lconst 0, 1) := by decide +kernel
theorem dX12_bestAim_58 : decode cX12_bestAim 58 = .ok (.lconst 1, 1) := by decide +kernel
theorem dX12_bestAim_59 : decode cX12_bestAim 59 = .ok (.invokestatic 98, 3) := by decide +kernel
theorem dX12_bestAim_62 : decode cX12_bestAim 62 = .ok (.ifCond .ne 9, 3) := by decide +kernel
theorem dX12_bestAim_65 : decode cX12_bestAim 65 = .ok (.aload_n 0, 1) := by decide +kernel
theorem dX12_bestAim_66 : decode cX12_bestAim 66 = .ok (.iconst 5, 1) := by decide +kernel
theorem dX12_bestAim_67 : decode cX12_bestAim 67 = .ok (.invokevirtual 319, 3) := by decide +kernel
theorem dX12_bestAim_70 : decode cX12_bestAim 70 = .ok (.ireturn, 1) := by decide +kernel
theorem dX12_bestAim_71 : decode cX12_bestAim 71 = .ok (.aload_n 0, 1) := by decide +kernel
theorem dX12_bestAim_72 : decode cX12_bestAim 72 = .ok (.invokevirtual 426, 3) := by decide +kernel
theorem dX12_bestAim_75 : decode cX12_bestAim 75 = .ok (.iconst 0, 1) := by decide +kernel
theorem dX12_bestAim_76 : decode cX12_bestAim 76 = .ok (.istore 6, 2) := by decide +kernel
theorem dX12_bestAim_78 : decode cX12_bestAim 78 = .ok (.bipush (-20), 2) := by decide +kernel
theorem dX12_bestAim_80 : decode cX12_bestAim 80 = .ok (.istore 7, 2) := by decide +kernel
theorem dX12_bestAim_82 : decode cX12_bestAim 82 = .ok (.iload 7, 2) := by decide +kernel
theorem dX12_bestAim_84 : decode cX12_bestAim 84 = .ok (.bipush 20, 2) := by decide +kernel
theorem dX12_bestAim_86 : decode cX12_bestAim 86 = .ok (.if_icmp .gt 67, 3) := by decide +kernel
theorem dX12_bestAim_89 : decode cX12_bestAim 89 = .ok (.bipush (-20), 2) := by decide +kernel
theorem dX12_bestAim_91 : decode cX12_bestAim 91 = .ok (.istore 8, 2) := by decide +kernel
theorem dX12_bestAim_93 : decode cX12_bestAim 93 = .ok (.iload 8, 2) := by decide +kernel
theorem dX12_bestAim_95 : decode cX12_bestAim 95 = .ok (.bipush 20, 2) := by decide +kernel
theorem dX12_bestAim_97 : decode cX12_bestAim 97 = .ok (.if_icmp .gt 50, 3) := by decide +kernel
theorem dX12_bestAim_100 : decode cX12_bestAim 100 = .ok (.aload_n 0, 1) := by decide +kernel
theorem dX12_bestAim_101 : decode cX12_bestAim 101 = .ok (.iload_n 1, 1) := by decide +kernel
theorem dX12_bestAim_102 : decode cX12_bestAim 102 = .ok (.iload_n 2, 1) := by decide +kernel
theorem dX12_bestAim_103 : decode cX12_bestAim 103 = .ok (.iload_n 3, 1) := by decide +kernel
theorem dX12_bestAim_104 : decode cX12_bestAim 104 = .ok (.iload 4, 2) := by decide +kernel
theorem dX12_bestAim_106 : decode cX12_bestAim 106 = .ok (.iload 7, 2) := by decide +kernel
theorem dX12_bestAim_108 : decode cX12_bestAim 108 = .ok (.iload 8, 2) := by decide +kernel
theorem dX12_bestAim_110 : decode cX12_bestAim 110 = .ok (.aload_n 0, 1) := by decide +kernel
theorem dX12_bestAim_111 : decode cX12_bestAim 111 = .ok (.getfield 35, 3) := by decide +kernel
theorem dX12_bestAim_114 : decode cX12_bestAim 114 = .ok (.bipush 7, 2) := by decide +kernel
theorem dX12_bestAim_116 : decode cX12_bestAim 116 = .ok (.iaload, 1) := by decide +kernel
theorem dX12_bestAim_117 : decode cX12_bestAim 117 = .ok (.invokevirtual 412, 3) := by decide +kernel
theorem dX12_bestAim_120 : decode cX12_bestAim 120 = .ok (.aload_n 0, 1) := by decide +kernel
theorem dX12_bestAim_121 : decode cX12_bestAim 121 = .ok (.invokevirtual 429, 3) := by decide +kernel
theorem dX12_bestAim_124 : decode cX12_bestAim 124 = .ok (.ifCond .eq 17, 3) := by decide +kernel
theorem dX12_bestAim_127 : decode cX12_bestAim 127 = .ok (.iload 5, 2) := by decide +kernel
theorem dX12_bestAim_129 : decode cX12_bestAim 129 = .ok (.ifCond .ne 8, 3) := by decide +kernel
theorem dX12_bestAim_132 : decode cX12_bestAim 132 = .ok (.iload 7, 2) := by decide +kernel
theorem dX12_bestAim_134 : decode cX12_bestAim 134 = .ok (.goto 5, 3) := by decide +kernel
theorem dX12_bestAim_137 : decode cX12_bestAim 137 = .ok (.iload 8, 2) := by decide +kernel
theorem dX12_bestAim_139 : decode cX12_bestAim 139 = .ok (.istore 6, 2) := by decide +kernel
theorem dX12_bestAim_141 : decode cX12_bestAim 141 = .ok (.iinc 8 1, 3) := by decide +kernel
theorem dX12_bestAim_144 : decode cX12_bestAim 144 = .ok (.goto (-51), 3) := by decide +kernel
theorem dX12_bestAim_147 : decode cX12_bestAim 147 = .ok (.iinc 7 1, 3) := by decide +kernel
theorem dX12_bestAim_150 : decode cX12_bestAim 150 = .ok (.goto (-68), 3) := by decide +kernel
theorem dX12_bestAim_153 : decode cX12_bestAim 153 = .ok (.aload_n 0, 1) := by decide +kernel
theorem dX12_bestAim_154 : decode cX12_bestAim 154 = .ok (.aload_n 0, 1) := by decide +kernel
theorem dX12_bestAim_155 : decode cX12_bestAim 155 = .ok (.getfield 420, 3) := by decide +kernel
theorem dX12_bestAim_158 : decode cX12_bestAim 158 = .ok (.aload_n 0, 1) := by decide +kernel
theorem dX12_bestAim_159 : decode cX12_bestAim 159 = .ok (.getfield 423, 3) := by decide +kernel
theorem dX12_bestAim_162 : decode cX12_bestAim 162 = .ok (.invokevirtual 416, 3) := by decide +kernel
theorem dX12_bestAim_165 : decode cX12_bestAim 165 = .ok (.pop, 1) := by decide +kernel
theorem dX12_bestAim_166 : decode cX12_bestAim 166 = .ok (.iload 6, 2) := by decide +kernel
theorem dX12_bestAim_168 : decode cX12_bestAim 168 = .ok (.ireturn, 1) := by decide +kernel
theorem dX12_bestPuff_0 : decode cX12_bestPuff 0 = .ok (.aload_n 0, 1) := by decide +kernel
theorem dX12_bestPuff_1 : decode cX12_bestPuff 1 = .ok (.iconst 0, 1) := by decide +kernel
theorem dX12_bestPuff_2 : decode cX12_bestPuff 2 = .ok (.putfield 63, 3) := by decide +kernel
theorem dX12_bestPuff_5 : decode cX12_bestPuff 5 = .ok (.aload_n 0, 1) := by decide +kernel
theorem dX12_bestPuff_6 : decode cX12_bestPuff 6 = .ok (.iconst 0, 1) := by decide +kernel
theorem dX12_bestPuff_7 : decode cX12_bestPuff 7 = .ok (.putfield 66, 3) := by decide +kernel
theorem dX12_bestPuff_10 : decode cX12_bestPuff 10 = .ok (.aload_n 0, 1) := by decide +kernel
theorem dX12_bestPuff_11 : decode cX12_bestPuff 11 = .ok (.iload_n 1, 1) := by decide +kernel
theorem dX12_bestPuff_12 : decode cX12_bestPuff 12 = .ok (.iload_n 2, 1) := by decide +kernel
theorem dX12_bestPuff_13 : decode cX12_bestPuff 13 = .ok (.invokevirtual 409, 3) := by decide +kernel
theorem dX12_bestPuff_16 : decode cX12_bestPuff 16 = .ok (.ifCond .ne 9, 3) := by decide +kernel
theorem dX12_bestPuff_19 : decode cX12_bestPuff 19 = .ok (.aload_n 0, 1) := by decide +kernel
theorem dX12_bestPuff_20 : decode cX12_bestPuff 20 = .ok (.iconst 2, 1) := by decide +kernel
theorem dX12_bestPuff_21 : decode cX12_bestPuff 21 = .ok (.invokevirtual 319, 3) := by decide +kernel
theorem dX12_bestPuff_24 : decode cX12_bestPuff 24 = .ok (.ireturn, 1) := by decide +kernel
theorem dX12_bestPuff_25 : decode cX12_bestPuff 25 = .ok (.iload_n 3, 1) := by decide +kernel
theorem dX12_bestPuff_26 : decode cX12_bestPuff 26 = .ok (.i2l, 1) := by decide +kernel
theorem dX12_bestPuff_27 : decode cX12_bestPuff 27 = .ok (.lconst 0, 1) := by decide +kernel
theorem dX12_bestPuff_28 : decode cX12_bestPuff 28 = .ok (.ldc2_w 96, 3) := by decide +kernel
theorem dX12_bestPuff_31 : decode cX12_bestPuff 31 = .ok (.invokestatic 98, 3) := by decide +kernel
theorem dX12_bestPuff_34 : decode cX12_bestPuff 34 = .ok (.ifCond .eq 13, 3) := by decide +kernel
theorem dX12_bestPuff_37 : decode cX12_bestPuff 37 = .ok (.iload 4, 2) := by decide +kernel
theorem dX12_bestPuff_39 : decode cX12_bestPuff 39 = .ok (.iload 5, 2) := by decide +kernel
theorem dX12_bestPuff_41 : decode cX12_bestPuff 41 = .ok (.invokestatic 374, 3) := by decide +kernel
theorem dX12_bestPuff_44 : decode cX12_bestPuff 44 = .ok (.ifCond .ne 9, 3) := by decide +kernel
theorem dX12_bestPuff_47 : decode cX12_bestPuff 47 = .ok (.aload_n 0, 1) := by decide +kernel
theorem dX12_bestPuff_48 : decode cX12_bestPuff 48 = .ok (.iconst 5, 1) := by decide +kernel
theorem dX12_bestPuff_49 : decode cX12_bestPuff 49 = .ok (.invokevirtual 319, 3) := by decide +kernel
theorem dX12_bestPuff_52 : decode cX12_bestPuff 52 = .ok (.ireturn, 1) := by decide +kernel
theorem dX12_bestPuff_53 : decode cX12_bestPuff 53 = .ok (.aload_n 0, 1) := by decide +kernel
theorem dX12_bestPuff_54 : decode cX12_bestPuff 54 = .ok (.invokevirtual 426, 3) := by decide +kernel
theorem dX12_bestPuff_57 : decode cX12_bestPuff 57 = .ok (.iconst 1, 1) := by decide +kernel
theorem dX12_bestPuff_58 : decode cX12_bestPuff 58 = .ok (.istore 6, 2) := by decide +kernel
theorem dX12_bestPuff_60 : decode cX12_bestPuff 60 = .ok (.iconst 1, 1) := by decide +kernel
theorem dX12_bestPuff_61 : decode cX12_bestPuff 61 = .ok (.istore 7, 2) := by decide +kernel
theorem dX12_bestPuff_63 : decode cX12_bestPuff 63 = .ok (.iload 7, 2) := by decide +kernel
theorem dX12_bestPuff_65 : decode cX12_bestPuff 65 = .ok (.aload_n 0, 1) := by decide +kernel
theorem dX12_bestPuff_66 : decode cX12_bestPuff 66 = .ok (.getfield 35, 3) := by decide +kernel
theorem dX12_bestPuff_69 : decode cX12_bestPuff 69 = .ok (.bipush 53, 2) := by decide +kernel
theorem dX12_bestPuff_71 : decode cX12_bestPuff 71 = .ok (.iload_n 1, 1) := by decide +kernel
theorem dX12_bestPuff_72 : decode cX12_bestPuff 72 = .ok (.iadd, 1) := by decide +kernel
theorem dX12_bestPuff_73 : decode cX12_bestPuff 73 = .ok (.iaload, 1) := by decide +kernel
theorem dX12_bestPuff_74 : decode cX12_bestPuff 74 = .ok (.if_icmp .gt 40, 3) := by decide +kernel
theorem dX12_bestPuff_77 : decode cX12_bestPuff 77 = .ok (.aload_n 0, 1) := by decide +kernel
theorem dX12_bestPuff_78 : decode cX12_bestPuff 78 = .ok (.iload_n 1, 1) := by decide +kernel
theorem dX12_bestPuff_79 : decode cX12_bestPuff 79 = .ok (.iload_n 2, 1) := by decide +kernel
theorem dX12_bestPuff_80 : decode cX12_bestPuff 80 = .ok (.iload 7, 2) := by decide +kernel
theorem dX12_bestPuff_82 : decode cX12_bestPuff 82 = .ok (.iload_n 3, 1) := by decide +kernel
theorem dX12_bestPuff_83 : decode cX12_bestPuff 83 = .ok (.iload 4, 2) := by decide +kernel
theorem dX12_bestPuff_85 : decode cX12_bestPuff 85 = .ok (.iload 5, 2) := by decide +kernel
theorem dX12_bestPuff_87 : decode cX12_bestPuff 87 = .ok (.aload_n 0, 1) := by decide +kernel
theorem dX12_bestPuff_88 : decode cX12_bestPuff 88 = .ok (.getfield 35, 3) := by decide +kernel
theorem dX12_bestPuff_91 : decode cX12_bestPuff 91 = .ok (.bipush 7, 2) := by decide +kernel
theorem dX12_bestPuff_93 : decode cX12_bestPuff 93 = .ok (.iaload, 1) := by decide +kernel
theorem dX12_bestPuff_94 : decode cX12_bestPuff 94 = .ok (.invokevirtual 412, 3) := by decide +kernel
theorem dX12_bestPuff_97 : decode cX12_bestPuff 97 = .ok (.aload_n 0, 1) := by decide +kernel
theorem dX12_bestPuff_98 : decode cX12_bestPuff 98 = .ok (.invokevirtual 429, 3) := by decide +kernel
theorem dX12_bestPuff_101 : decode cX12_bestPuff 101 = .ok (.ifCond .eq 7, 3) := by decide +kernel
theorem dX12_bestPuff_104 : decode cX12_bestPuff 104 = .ok (.iload 7, 2) := by decide +kernel
theorem dX12_bestPuff_106 : decode cX12_bestPuff 106 = .ok (.istore 6, 2) := by decide +kernel
theorem dX12_bestPuff_108 : decode cX12_bestPuff 108 = .ok (.iinc 7 1, 3) := by decide +kernel
theorem dX12_bestPuff_111 : decode cX12_bestPuff 111 = .ok (.goto (-48), 3) := by decide +kernel
theorem dX12_bestPuff_114 : decode cX12_bestPuff 114 = .ok (.aload_n 0, 1) := by decide +kernel
theorem dX12_bestPuff_115 : decode cX12_bestPuff 115 = .ok (.aload_n 0, 1) := by decide +kernel
theorem dX12_bestPuff_116 : decode cX12_bestPuff 116 = .ok (.getfield 420, 3) := by decide +kernel
theorem dX12_bestPuff_119 : decode cX12_bestPuff 119 = .ok (.aload_n 0, 1) := by decide +kernel
theorem dX12_bestPuff_120 : decode cX12_bestPuff 120 = .ok (.getfield 423, 3) := by decide +kernel
theorem dX12_bestPuff_123 : decode cX12_bestPuff 123 = .ok (.invokevirtual 416, 3) := by decide +kernel
theorem dX12_bestPuff_126 : decode cX12_bestPuff 126 = .ok (.pop, 1) := by decide +kernel
theorem dX12_bestPuff_127 : decode cX12_bestPuff 127 = .ok (.iload 6, 2) := by decide +kernel
theorem dX12_bestPuff_129 : decode cX12_bestPuff 129 = .ok (.ireturn, 1) := by decide +kernel
theorem dX12_bestBeat_0 : decode cX12_bestBeat 0 = .ok (.aload_n 0, 1) := by decide +kernel
theorem dX12_bestBeat_1 : decode cX12_bestBeat 1 = .ok (.iconst 0, 1) := by decide +kernel
theorem dX12_bestBeat_2 : decode cX12_bestBeat 2 = .ok (.putfield 63, 3) := by decide +kernel
theorem dX12_bestBeat_5 : decode cX12_bestBeat 5 = .ok (.aload_n 0, 1) := by decide +kernel
theorem dX12_bestBeat_6 : decode cX12_bestBeat 6 = .ok (.iconst 0, 1) := by decide +kernel
theorem dX12_bestBeat_7 : decode cX12_bestBeat 7 = .ok (.putfield 66, 3) := by decide +kernel
theorem dX12_bestBeat_10 : decode cX12_bestBeat 10 = .ok (.aload_n 0, 1) := by decide +kernel
theorem dX12_bestBeat_11 : decode cX12_bestBeat 11 = .ok (.iload_n 1, 1) := by decide +kernel
theorem dX12_bestBeat_12 : decode cX12_bestBeat 12 = .ok (.iload_n 2, 1) := by decide +kernel
theorem dX12_bestBeat_13 : decode cX12_bestBeat 13 = .ok (.invokevirtual 409, 3) := by decide +kernel
theorem dX12_bestBeat_16 : decode cX12_bestBeat 16 = .ok (.ifCond .ne 9, 3) := by decide +kernel
theorem dX12_bestBeat_19 : decode cX12_bestBeat 19 = .ok (.aload_n 0, 1) := by decide +kernel
theorem dX12_bestBeat_20 : decode cX12_bestBeat 20 = .ok (.iconst 2, 1) := by decide +kernel
theorem dX12_bestBeat_21 : decode cX12_bestBeat 21 = .ok (.invokevirtual 319, 3) := by decide +kernel
theorem dX12_bestBeat_24 : decode cX12_bestBeat 24 = .ok (.ireturn, 1) := by decide +kernel
theorem dX12_bestBeat_25 : decode cX12_bestBeat 25 = .ok (.iload_n 3, 1) := by decide +kernel
theorem dX12_bestBeat_26 : decode cX12_bestBeat 26 = .ok (.aload_n 0, 1) := by decide +kernel
theorem dX12_bestBeat_27 : decode cX12_bestBeat 27 = .ok (.getfield 35, 3) := by decide +kernel
theorem dX12_bestBeat_30 : decode cX12_bestBeat 30 = .ok (.bipush 53, 2) := by decide +kernel
theorem dX12_bestBeat_32 : decode cX12_bestBeat 32 = .ok (.iload_n 1, 1) := by decide +kernel
theorem dX12_bestBeat_33 : decode cX12_bestBeat 33 = .ok (.iadd, 1) := by decide +kernel
theorem dX12_bestBeat_34 : decode cX12_bestBeat 34 = .ok (.iaload, 1) := by decide +kernel
theorem dX12_bestBeat_35 : decode cX12_bestBeat 35 = .ok (.invokestatic 361, 3) := by decide +kernel
theorem dX12_bestBeat_38 : decode cX12_bestBeat 38 = .ok (.ifCond .eq 13, 3) := by decide +kernel
theorem dX12_bestBeat_41 : decode cX12_bestBeat 41 = .ok (.iload 4, 2) := by decide +kernel
theorem dX12_bestBeat_43 : decode cX12_bestBeat 43 = .ok (.iload 5, 2) := by decide +kernel
theorem dX12_bestBeat_45 : decode cX12_bestBeat 45 = .ok (.invokestatic 374, 3) := by decide +kernel
theorem dX12_bestBeat_48 : decode cX12_bestBeat 48 = .ok (.ifCond .ne 9, 3) := by decide +kernel
theorem dX12_bestBeat_51 : decode cX12_bestBeat 51 = .ok (.aload_n 0, 1) := by decide +kernel
theorem dX12_bestBeat_52 : decode cX12_bestBeat 52 = .ok (.iconst 5, 1) := by decide +kernel
theorem dX12_bestBeat_53 : decode cX12_bestBeat 53 = .ok (.invokevirtual 319, 3) := by decide +kernel
theorem dX12_bestBeat_56 : decode cX12_bestBeat 56 = .ok (.ireturn, 1) := by decide +kernel
theorem dX12_bestBeat_57 : decode cX12_bestBeat 57 = .ok (.aload_n 0, 1) := by decide +kernel
theorem dX12_bestBeat_58 : decode cX12_bestBeat 58 = .ok (.invokevirtual 426, 3) := by decide +kernel
theorem dX12_bestBeat_61 : decode cX12_bestBeat 61 = .ok (.iconst 0, 1) := by decide +kernel
theorem dX12_bestBeat_62 : decode cX12_bestBeat 62 = .ok (.istore 6, 2) := by decide +kernel
theorem dX12_bestBeat_64 : decode cX12_bestBeat 64 = .ok (.iconst 0, 1) := by decide +kernel
theorem dX12_bestBeat_65 : decode cX12_bestBeat 65 = .ok (.istore 7, 2) := by decide +kernel
theorem dX12_bestBeat_67 : decode cX12_bestBeat 67 = .ok (.iload 7, 2) := by decide +kernel
theorem dX12_bestBeat_69 : decode cX12_bestBeat 69 = .ok (.iconst 4, 1) := by decide +kernel
theorem dX12_bestBeat_70 : decode cX12_bestBeat 70 = .ok (.if_icmp .ge 40, 3) := by decide +kernel
theorem dX12_bestBeat_73 : decode cX12_bestBeat 73 = .ok (.aload_n 0, 1) := by decide +kernel
theorem dX12_bestBeat_74 : decode cX12_bestBeat 74 = .ok (.iload_n 1, 1) := by decide +kernel
theorem dX12_bestBeat_75 : decode cX12_bestBeat 75 = .ok (.iload_n 2, 1) := by decide +kernel
theorem dX12_bestBeat_76 : decode cX12_bestBeat 76 = .ok (.iload_n 3, 1) := by decide +kernel
theorem dX12_bestBeat_77 : decode cX12_bestBeat 77 = .ok (.iload 7, 2) := by decide +kernel
theorem dX12_bestBeat_79 : decode cX12_bestBeat 79 = .ok (.iload 4, 2) := by decide +kernel
theorem dX12_bestBeat_81 : decode cX12_bestBeat 81 = .ok (.iload 5, 2) := by decide +kernel
theorem dX12_bestBeat_83 : decode cX12_bestBeat 83 = .ok (.aload_n 0, 1) := by decide +kernel
theorem dX12_bestBeat_84 : decode cX12_bestBeat 84 = .ok (.getfield 35, 3) := by decide +kernel
theorem dX12_bestBeat_87 : decode cX12_bestBeat 87 = .ok (.bipush 7, 2) := by decide +kernel
theorem dX12_bestBeat_89 : decode cX12_bestBeat 89 = .ok (.iaload, 1) := by decide +kernel
theorem dX12_bestBeat_90 : decode cX12_bestBeat 90 = .ok (.invokevirtual 412, 3) := by decide +kernel
theorem dX12_bestBeat_93 : decode cX12_bestBeat 93 = .ok (.aload_n 0, 1) := by decide +kernel
theorem dX12_bestBeat_94 : decode cX12_bestBeat 94 = .ok (.invokevirtual 429, 3) := by decide +kernel
theorem dX12_bestBeat_97 : decode cX12_bestBeat 97 = .ok (.ifCond .eq 7, 3) := by decide +kernel
theorem dX12_bestBeat_100 : decode cX12_bestBeat 100 = .ok (.iload 7, 2) := by decide +kernel
theorem dX12_bestBeat_102 : decode cX12_bestBeat 102 = .ok (.istore 6, 2) := by decide +kernel
theorem dX12_bestBeat_104 : decode cX12_bestBeat 104 = .ok (.iinc 7 1, 3) := by decide +kernel
theorem dX12_bestBeat_107 : decode cX12_bestBeat 107 = .ok (.goto (-40), 3) := by decide +kernel
theorem dX12_bestBeat_110 : decode cX12_bestBeat 110 = .ok (.aload_n 0, 1) := by decide +kernel
theorem dX12_bestBeat_111 : decode cX12_bestBeat 111 = .ok (.aload_n 0, 1) := by decide +kernel
theorem dX12_bestBeat_112 : decode cX12_bestBeat 112 = .ok (.getfield 420, 3) := by decide +kernel
theorem dX12_bestBeat_115 : decode cX12_bestBeat 115 = .ok (.aload_n 0, 1) := by decide +kernel
theorem dX12_bestBeat_116 : decode cX12_bestBeat 116 = .ok (.getfield 423, 3) := by decide +kernel
theorem dX12_bestBeat_119 : decode cX12_bestBeat 119 = .ok (.invokevirtual 416, 3) := by decide +kernel
theorem dX12_bestBeat_122 : decode cX12_bestBeat 122 = .ok (.pop, 1) := by decide +kernel
theorem dX12_bestBeat_123 : decode cX12_bestBeat 123 = .ok (.iload 6, 2) := by decide +kernel
theorem dX12_bestBeat_125 : decode cX12_bestBeat 125 = .ok (.ireturn, 1) := by decide +kernel
theorem dX12_longest_0 : decode cX12_longest 0 = .ok (.aload_n 0, 1) := by decide +kernel
theorem dX12_longest_1 : decode cX12_longest 1 = .ok (.iconst 0, 1) := by decide +kernel
theorem dX12_longest_2 : decode cX12_longest 2 = .ok (.putfield 63, 3) := by decide +kernel
theorem dX12_longest_5 : decode cX12_longest 5 = .ok (.aload_n 0, 1) := by decide +kernel
theorem dX12_longest_6 : decode cX12_longest 6 = .ok (.iconst 0, 1) := by decide +kernel
theorem dX12_longest_7 : decode cX12_longest 7 = .ok (.putfield 66, 3) := by decide +kernel
theorem dX12_longest_10 : decode cX12_longest 10 = .ok (.aload_n 0, 1) := by decide +kernel
theorem dX12_longest_11 : decode cX12_longest 11 = .ok (.iload_n 1, 1) := by decide +kernel
theorem dX12_longest_12 : decode cX12_longest 12 = .ok (.iload_n 2, 1) := by decide +kernel
theorem dX12_longest_13 : decode cX12_longest 13 = .ok (.invokevirtual 409, 3) := by decide +kernel
theorem dX12_longest_16 : decode cX12_longest 16 = .ok (.ifCond .ne 9, 3) := by decide +kernel
theorem dX12_longest_19 : decode cX12_longest 19 = .ok (.aload_n 0, 1) := by decide +kernel
theorem dX12_longest_20 : decode cX12_longest 20 = .ok (.iconst 2, 1) := by decide +kernel
theorem dX12_longest_21 : decode cX12_longest 21 = .ok (.invokevirtual 319, 3) := by decide +kernel
theorem dX12_longest_24 : decode cX12_longest 24 = .ok (.ireturn, 1) := by decide +kernel
theorem dX12_longest_25 : decode cX12_longest 25 = .ok (.iload_n 3, 1) := by decide +kernel
theorem dX12_longest_26 : decode cX12_longest 26 = .ok (.aload_n 0, 1) := by decide +kernel
theorem dX12_longest_27 : decode cX12_longest 27 = .ok (.getfield 35, 3) := by decide +kernel
theorem dX12_longest_30 : decode cX12_longest 30 = .ok (.bipush 53, 2) := by decide +kernel
theorem dX12_longest_32 : decode cX12_longest 32 = .ok (.iload_n 1, 1) := by decide +kernel
theorem dX12_longest_33 : decode cX12_longest 33 = .ok (.iadd, 1) := by decide +kernel
theorem dX12_longest_34 : decode cX12_longest 34 = .ok (.iaload, 1) := by decide +kernel
theorem dX12_longest_35 : decode cX12_longest 35 = .ok (.invokestatic 361, 3) := by decide +kernel
theorem dX12_longest_38 : decode cX12_longest 38 = .ok (.ifCond .eq 26, 3) := by decide +kernel
theorem dX12_longest_41 : decode cX12_longest 41 = .ok (.iload 4, 2) := by decide +kernel
theorem dX12_longest_43 : decode cX12_longest 43 = .ok (.i2l, 1) := by decide +kernel
theorem dX12_longest_44 : decode cX12_longest 44 = .ok (.lconst 0, 1) := by decide +kernel
theorem dX12_longest_45 : decode cX12_longest 45 = .ok (.ldc2_w 96, 3) := by decide +kernel
theorem dX12_longest_48 : decode cX12_longest 48 = .ok (.invokestatic 98, 3) := by decide +kernel
theorem dX12_longest_51 : decode cX12_longest 51 = .ok (.ifCond .eq 13, 3) := by decide +kernel
theorem dX12_longest_54 : decode cX12_longest 54 = .ok (.iload 5, 2) := by decide +kernel
theorem dX12_longest_56 : decode cX12_longest 56 = .ok (.iload 6, 2) := by decide +kernel
theorem dX12_longest_58 : decode cX12_longest 58 = .ok (.invokestatic 374, 3) := by decide +kernel
theorem dX12_longest_61 : decode cX12_longest 61 = .ok (.ifCond .ne 9, 3) := by decide +kernel
theorem dX12_longest_64 : decode cX12_longest 64 = .ok (.aload_n 0, 1) := by decide +kernel
theorem dX12_longest_65 : decode cX12_longest 65 = .ok (.iconst 5, 1) := by decide +kernel
theorem dX12_longest_66 : decode cX12_longest 66 = .ok (.invokevirtual 319, 3) := by decide +kernel
theorem dX12_longest_69 : decode cX12_longest 69 = .ok (.ireturn, 1) := by decide +kernel
theorem dX12_longest_70 : decode cX12_longest 70 = .ok (.aload_n 0, 1) := by decide +kernel
theorem dX12_longest_71 : decode cX12_longest 71 = .ok (.invokevirtual 426, 3) := by decide +kernel
theorem dX12_longest_74 : decode cX12_longest 74 = .ok (.aload_n 0, 1) := by decide +kernel
theorem dX12_longest_75 : decode cX12_longest 75 = .ok (.getfield 35, 3) := by decide +kernel
theorem dX12_longest_78 : decode cX12_longest 78 = .ok (.iconst 0, 1) := by decide +kernel
theorem dX12_longest_79 : decode cX12_longest 79 = .ok (.iaload, 1) := by decide +kernel
theorem dX12_longest_80 : decode cX12_longest 80 = .ok (.istore 7, 2) := by decide +kernel
theorem dX12_longest_82 : decode cX12_longest 82 = .ok (.bipush 12, 2) := by decide +kernel
theorem dX12_longest_84 : decode cX12_longest 84 = .ok (.istore 8, 2) := by decide +kernel
theorem dX12_longest_86 : decode cX12_longest 86 = .ok (.bipush 12, 2) := by decide +kernel
theorem dX12_longest_88 : decode cX12_longest 88 = .ok (.istore 9, 2) := by decide +kernel
theorem dX12_longest_90 : decode cX12_longest 90 = .ok (.iload 9, 2) := by decide +kernel
theorem dX12_longest_92 : decode cX12_longest 92 = .ok (.bipush 48, 2) := by decide +kernel
theorem dX12_longest_94 : decode cX12_longest 94 = .ok (.if_icmp .gt 48, 3) := by decide +kernel
theorem dX12_longest_97 : decode cX12_longest 97 = .ok (.aload_n 0, 1) := by decide +kernel
theorem dX12_longest_98 : decode cX12_longest 98 = .ok (.getfield 35, 3) := by decide +kernel
theorem dX12_longest_101 : decode cX12_longest 101 = .ok (.iconst 0, 1) := by decide +kernel
theorem dX12_longest_102 : decode cX12_longest 102 = .ok (.iload 9, 2) := by decide +kernel
theorem dX12_longest_104 : decode cX12_longest 104 = .ok (.iastore, 1) := by decide +kernel
theorem dX12_longest_105 : decode cX12_longest 105 = .ok (.aload_n 0, 1) := by decide +kernel
theorem dX12_longest_106 : decode cX12_longest 106 = .ok (.iload_n 1, 1) := by decide +kernel
theorem dX12_longest_107 : decode cX12_longest 107 = .ok (.iload_n 2, 1) := by decide +kernel
theorem dX12_longest_108 : decode cX12_longest 108 = .ok (.iload_n 3, 1) := by decide +kernel
theorem dX12_longest_109 : decode cX12_longest 109 = .ok (.iload 4, 2) := by decide +kernel
theorem dX12_longest_111 : decode cX12_longest 111 = .ok (.iload 5, 2) := by decide +kernel
theorem dX12_longest_113 : decode cX12_longest 113 = .ok (.iload 6, 2) := by decide +kernel
theorem dX12_longest_115 : decode cX12_longest 115 = .ok (.aload_n 0, 1) := by decide +kernel
theorem dX12_longest_116 : decode cX12_longest 116 = .ok (.getfield 35, 3) := by decide +kernel
theorem dX12_longest_119 : decode cX12_longest 119 = .ok (.bipush 7, 2) := by decide +kernel
theorem dX12_longest_121 : decode cX12_longest 121 = .ok (.iaload, 1) := by decide +kernel
theorem dX12_longest_122 : decode cX12_longest 122 = .ok (.invokevirtual 412, 3) := by decide +kernel
theorem dX12_longest_125 : decode cX12_longest 125 = .ok (.aload_n 0, 1) := by decide +kernel
theorem dX12_longest_126 : decode cX12_longest 126 = .ok (.invokevirtual 429, 3) := by decide +kernel
theorem dX12_longest_129 : decode cX12_longest 129 = .ok (.ifCond .eq 7, 3) := by decide +kernel
theorem dX12_longest_132 : decode cX12_longest 132 = .ok (.iload 9, 2) := by decide +kernel
theorem dX12_longest_134 : decode cX12_longest 134 = .ok (.istore 8, 2) := by decide +kernel
theorem dX12_longest_136 : decode cX12_longest 136 = .ok (.iinc 9 1, 3) := by decide +kernel
theorem dX12_longest_139 : decode cX12_longest 139 = .ok (.goto (-49), 3) := by decide +kernel
theorem dX12_longest_142 : decode cX12_longest 142 = .ok (.aload_n 0, 1) := by decide +kernel
theorem dX12_longest_143 : decode cX12_longest 143 = .ok (.getfield 35, 3) := by decide +kernel
theorem dX12_longest_146 : decode cX12_longest 146 = .ok (.iconst 0, 1) := by decide +kernel
theorem dX12_longest_147 : decode cX12_longest 147 = .ok (.iload 7, 2) := by decide +kernel
theorem dX12_longest_149 : decode cX12_longest 149 = .ok (.iastore, 1) := by decide +kernel
theorem dX12_longest_150 : decode cX12_longest 150 = .ok (.aload_n 0, 1) := by decide +kernel
theorem dX12_longest_151 : decode cX12_longest 151 = .ok (.aload_n 0, 1) := by decide +kernel
theorem dX12_longest_152 : decode cX12_longest 152 = .ok (.getfield 420, 3) := by decide +kernel
theorem dX12_longest_155 : decode cX12_longest 155 = .ok (.aload_n 0, 1) := by decide +kernel
theorem dX12_longest_156 : decode cX12_longest 156 = .ok (.getfield 423, 3) := by decide +kernel
theorem dX12_longest_159 : decode cX12_longest 159 = .ok (.invokevirtual 416, 3) := by decide +kernel
theorem dX12_longest_162 : decode cX12_longest 162 = .ok (.pop, 1) := by decide +kernel
theorem dX12_longest_163 : decode cX12_longest 163 = .ok (.iload 8, 2) := by decide +kernel
theorem dX12_longest_165 : decode cX12_longest 165 = .ok (.ireturn, 1) := by decide +kernel
theorem dX12_bestPea_0 : decode cX12_bestPea 0 = .ok (.aload_n 0, 1) := by decide +kernel
theorem dX12_bestPea_1 : decode cX12_bestPea 1 = .ok (.iconst 0, 1) := by decide +kernel
theorem dX12_bestPea_2 : decode cX12_bestPea 2 = .ok (.putfield 63, 3) := by decide +kernel
theorem dX12_bestPea_5 : decode cX12_bestPea 5 = .ok (.aload_n 0, 1) := by decide +kernel
theorem dX12_bestPea_6 : decode cX12_bestPea 6 = .ok (.iconst 0, 1) := by decide +kernel
theorem dX12_bestPea_7 : decode cX12_bestPea 7 = .ok (.putfield 66, 3) := by decide +kernel
theorem dX12_bestPea_10 : decode cX12_bestPea 10 = .ok (.aload_n 0, 1) := by decide +kernel
theorem dX12_bestPea_11 : decode cX12_bestPea 11 = .ok (.iload_n 1, 1) := by decide +kernel
theorem dX12_bestPea_12 : decode cX12_bestPea 12 = .ok (.invokevirtual 332, 3) := by decide +kernel
theorem dX12_bestPea_15 : decode cX12_bestPea 15 = .ok (.ifCond .ne 9, 3) := by decide +kernel
theorem dX12_bestPea_18 : decode cX12_bestPea 18 = .ok (.aload_n 0, 1) := by decide +kernel
theorem dX12_bestPea_19 : decode cX12_bestPea 19 = .ok (.iconst 2, 1) := by decide +kernel
theorem dX12_bestPea_20 : decode cX12_bestPea 20 = .ok (.invokevirtual 319, 3) := by decide +kernel
theorem dX12_bestPea_23 : decode cX12_bestPea 23 = .ok (.ireturn, 1) := by decide +kernel
theorem dX12_bestPea_24 : decode cX12_bestPea 24 = .ok (.iload_n 2, 1) := by decide +kernel
theorem dX12_bestPea_25 : decode cX12_bestPea 25 = .ok (.aload_n 0, 1) := by decide +kernel
theorem dX12_bestPea_26 : decode cX12_bestPea 26 = .ok (.getfield 35, 3) := by decide +kernel
theorem dX12_bestPea_29 : decode cX12_bestPea 29 = .ok (.bipush 53, 2) := by decide +kernel
theorem dX12_bestPea_31 : decode cX12_bestPea 31 = .ok (.iload_n 1, 1) := by decide +kernel
theorem dX12_bestPea_32 : decode cX12_bestPea 32 = .ok (.iadd, 1) := by decide +kernel
theorem dX12_bestPea_33 : decode cX12_bestPea 33 = .ok (.iaload, 1) := by decide +kernel
theorem dX12_bestPea_34 : decode cX12_bestPea 34 = .ok (.invokestatic 361, 3) := by decide +kernel
theorem dX12_bestPea_37 : decode cX12_bestPea 37 = .ok (.ifCond .eq 15, 3) := by decide +kernel
theorem dX12_bestPea_40 : decode cX12_bestPea 40 = .ok (.iload_n 3, 1) := by decide +kernel
theorem dX12_bestPea_41 : decode cX12_bestPea 41 = .ok (.i2l, 1) := by decide +kernel
theorem dX12_bestPea_42 : decode cX12_bestPea 42 = .ok (.lconst 0, 1) := by decide +kernel
theorem dX12_bestPea_43 : decode cX12_bestPea 43 = .ok (.ldc2_w 96, 3) := by decide +kernel
theorem dX12_bestPea_46 : decode cX12_bestPea 46 = .ok (.invokestatic 98, 3) := by decide +kernel
theorem dX12_bestPea_49 : decode cX12_bestPea 49 = .ok (.ifCond .ne 9, 3) := by decide +kernel
theorem dX12_bestPea_52 : decode cX12_bestPea 52 = .ok (.aload_n 0, 1) := by decide +kernel
theorem dX12_bestPea_53 : decode cX12_bestPea 53 = .ok (.iconst 5, 1) := by decide +kernel
theorem dX12_bestPea_54 : decode cX12_bestPea 54 = .ok (.invokevirtual 319, 3) := by decide +kernel
theorem dX12_bestPea_57 : decode cX12_bestPea 57 = .ok (.ireturn, 1) := by decide +kernel
theorem dX12_bestPea_58 : decode cX12_bestPea 58 = .ok (.aload_n 0, 1) := by decide +kernel
theorem dX12_bestPea_59 : decode cX12_bestPea 59 = .ok (.getfield 35, 3) := by decide +kernel
theorem dX12_bestPea_62 : decode cX12_bestPea 62 = .ok (.iconst 5, 1) := by decide +kernel
theorem dX12_bestPea_63 : decode cX12_bestPea 63 = .ok (.iaload, 1) := by decide +kernel
theorem dX12_bestPea_64 : decode cX12_bestPea 64 = .ok (.ifCond .ne 10, 3) := by decide +kernel
theorem dX12_bestPea_67 : decode cX12_bestPea 67 = .ok (.aload_n 0, 1) := by decide +kernel
theorem dX12_bestPea_68 : decode cX12_bestPea 68 = .ok (.bipush 8, 2) := by decide +kernel
theorem dX12_bestPea_70 : decode cX12_bestPea 70 = .ok (.invokevirtual 319, 3) := by decide +kernel
theorem dX12_bestPea_73 : decode cX12_bestPea 73 = .ok (.ireturn, 1) := by decide +kernel
theorem dX12_bestPea_74 : decode cX12_bestPea 74 = .ok (.aload_n 0, 1) := by decide +kernel
theorem dX12_bestPea_75 : decode cX12_bestPea 75 = .ok (.invokevirtual 426, 3) := by decide +kernel
theorem dX12_bestPea_78 : decode cX12_bestPea 78 = .ok (.iconst 0, 1) := by decide +kernel
theorem dX12_bestPea_79 : decode cX12_bestPea 79 = .ok (.istore 4, 2) := by decide +kernel
theorem dX12_bestPea_81 : decode cX12_bestPea 81 = .ok (.iconst 0, 1) := by decide +kernel
theorem dX12_bestPea_82 : decode cX12_bestPea 82 = .ok (.istore 5, 2) := by decide +kernel
theorem dX12_bestPea_84 : decode cX12_bestPea 84 = .ok (.iload 5, 2) := by decide +kernel
theorem dX12_bestPea_86 : decode cX12_bestPea 86 = .ok (.aload_n 0, 1) := by decide +kernel
theorem dX12_bestPea_87 : decode cX12_bestPea 87 = .ok (.getfield 35, 3) := by decide +kernel
theorem dX12_bestPea_90 : decode cX12_bestPea 90 = .ok (.iconst 5, 1) := by decide +kernel
theorem dX12_bestPea_91 : decode cX12_bestPea 91 = .ok (.iaload, 1) := by decide +kernel
theorem dX12_bestPea_92 : decode cX12_bestPea 92 = .ok (.if_icmp .ge 38, 3) := by decide +kernel
theorem dX12_bestPea_95 : decode cX12_bestPea 95 = .ok (.aload_n 0, 1) := by decide +kernel
theorem dX12_bestPea_96 : decode cX12_bestPea 96 = .ok (.iload_n 1, 1) := by decide +kernel
theorem dX12_bestPea_97 : decode cX12_bestPea 97 = .ok (.iload 5, 2) := by decide +kernel
theorem dX12_bestPea_99 : decode cX12_bestPea 99 = .ok (.iload_n 2, 1) := by decide +kernel
theorem dX12_bestPea_100 : decode cX12_bestPea 100 = .ok (.iload_n 3, 1) := by decide +kernel
theorem dX12_bestPea_101 : decode cX12_bestPea 101 = .ok (.iconst 0, 1) := by decide +kernel
theorem dX12_bestPea_102 : decode cX12_bestPea 102 = .ok (.iconst 0, 1) := by decide +kernel
theorem dX12_bestPea_103 : decode cX12_bestPea 103 = .ok (.aload_n 0, 1) := by decide +kernel
theorem dX12_bestPea_104 : decode cX12_bestPea 104 = .ok (.getfield 35, 3) := by decide +kernel
theorem dX12_bestPea_107 : decode cX12_bestPea 107 = .ok (.bipush 7, 2) := by decide +kernel
theorem dX12_bestPea_109 : decode cX12_bestPea 109 = .ok (.iaload, 1) := by decide +kernel
theorem dX12_bestPea_110 : decode cX12_bestPea 110 = .ok (.invokevirtual 412, 3) := by decide +kernel
theorem dX12_bestPea_113 : decode cX12_bestPea 113 = .ok (.aload_n 0, 1) := by decide +kernel
theorem dX12_bestPea_114 : decode cX12_bestPea 114 = .ok (.invokevirtual 429, 3) := by decide +kernel
theorem dX12_bestPea_117 : decode cX12_bestPea 117 = .ok (.ifCond .eq 7, 3) := by decide +kernel
theorem dX12_bestPea_120 : decode cX12_bestPea 120 = .ok (.iload 5, 2) := by decide +kernel
theorem dX12_bestPea_122 : decode cX12_bestPea 122 = .ok (.istore 4, 2) := by decide +kernel
theorem dX12_bestPea_124 : decode cX12_bestPea 124 = .ok (.iinc 5 1, 3) := by decide +kernel
theorem dX12_bestPea_127 : decode cX12_bestPea 127 = .ok (.goto (-43), 3) := by decide +kernel
theorem dX12_bestPea_130 : decode cX12_bestPea 130 = .ok (.aload_n 0, 1) := by decide +kernel
theorem dX12_bestPea_131 : decode cX12_bestPea 131 = .ok (.aload_n 0, 1) := by decide +kernel
theorem dX12_bestPea_132 : decode cX12_bestPea 132 = .ok (.getfield 420, 3) := by decide +kernel
theorem dX12_bestPea_135 : decode cX12_bestPea 135 = .ok (.aload_n 0, 1) := by decide +kernel
theorem dX12_bestPea_136 : decode cX12_bestPea 136 = .ok (.getfield 423, 3) := by decide +kernel
theorem dX12_bestPea_139 : decode cX12_bestPea 139 = .ok (.invokevirtual 416, 3) := by decide +kernel
theorem dX12_bestPea_142 : decode cX12_bestPea 142 = .ok (.pop, 1) := by decide +kernel
theorem dX12_bestPea_143 : decode cX12_bestPea 143 = .ok (.iload 4, 2) := by decide +kernel
theorem dX12_bestPea_145 : decode cX12_bestPea 145 = .ok (.ireturn, 1) := by decide +kernel
theorem dX12_seriesOf_0 : decode cX12_seriesOf 0 = .ok (.lconst 0, 1) := by decide +kernel
theorem dX12_seriesOf_1 : decode cX12_seriesOf 1 = .ok (.lstore 8, 2) := by decide +kernel
theorem dX12_seriesOf_3 : decode cX12_seriesOf 3 = .ok (.iconst 0, 1) := by decide +kernel
theorem dX12_seriesOf_4 : decode cX12_seriesOf 4 = .ok (.istore 10, 2) := by decide +kernel
theorem dX12_seriesOf_6 : decode cX12_seriesOf 6 = .ok (.iconst 1, 1) := by decide +kernel
theorem dX12_seriesOf_7 : decode cX12_seriesOf 7 = .ok (.istore 11, 2) := by decide +kernel
theorem dX12_seriesOf_9 : decode cX12_seriesOf 9 = .ok (.iload 11, 2) := by decide +kernel
theorem dX12_seriesOf_11 : decode cX12_seriesOf 11 = .ok (.iload 6, 2) := by decide +kernel
theorem dX12_seriesOf_13 : decode cX12_seriesOf 13 = .ok (.if_icmp .gt 76, 3) := by decide +kernel
theorem dX12_seriesOf_16 : decode cX12_seriesOf 16 = .ok (.aload_n 0, 1) := by decide +kernel
theorem dX12_seriesOf_17 : decode cX12_seriesOf 17 = .ok (.iload_n 1, 1) := by decide +kernel
theorem dX12_seriesOf_18 : decode cX12_seriesOf 18 = .ok (.iload_n 2, 1) := by decide +kernel
theorem dX12_seriesOf_19 : decode cX12_seriesOf 19 = .ok (.iload_n 3, 1) := by decide +kernel
theorem dX12_seriesOf_20 : decode cX12_seriesOf 20 = .ok (.iconst 2, 1) := by decide +kernel
theorem dX12_seriesOf_21 : decode cX12_seriesOf 21 = .ok (.iload 4, 2) := by decide +kernel
theorem dX12_seriesOf_23 : decode cX12_seriesOf 23 = .ok (.iload 5, 2) := by decide +kernel
theorem dX12_seriesOf_25 : decode cX12_seriesOf 25 = .ok (.iload 10, 2) := by decide +kernel
theorem dX12_seriesOf_27 : decode cX12_seriesOf 27 = .ok (.invokevirtual 412, 3) := by decide +kernel
theorem dX12_seriesOf_30 : decode cX12_seriesOf 30 = .ok (.lload 8, 2) := by decide +kernel
theorem dX12_seriesOf_32 : decode cX12_seriesOf 32 = .ok (.aload_n 0, 1) := by decide +kernel
theorem dX12_seriesOf_33 : decode cX12_seriesOf 33 = .ok (.getfield 406, 3) := by decide +kernel
theorem dX12_seriesOf_36 : decode cX12_seriesOf 36 = .ok (.i2l, 1) := by decide +kernel
theorem dX12_seriesOf_37 : decode cX12_seriesOf 37 = .ok (.ldc2_w 149, 3) := by decide +kernel
theorem dX12_seriesOf_40 : decode cX12_seriesOf 40 = .ok (.aload_n 0, 1) := by decide +kernel
theorem dX12_seriesOf_41 : decode cX12_seriesOf 41 = .ok (.getfield 403, 3) := by decide +kernel
theorem dX12_seriesOf_44 : decode cX12_seriesOf 44 = .ok (.i2l, 1) := by decide +kernel
theorem dX12_seriesOf_45 : decode cX12_seriesOf 45 = .ok (.ldiv, 1) := by decide +kernel
theorem dX12_seriesOf_46 : decode cX12_seriesOf 46 = .ok (.lmul, 1) := by decide +kernel
theorem dX12_seriesOf_47 : decode cX12_seriesOf 47 = .ok (.ladd, 1) := by decide +kernel
theorem dX12_seriesOf_48 : decode cX12_seriesOf 48 = .ok (.lstore 8, 2) := by decide +kernel
theorem dX12_seriesOf_50 : decode cX12_seriesOf 50 = .ok (.aload_n 0, 1) := by decide +kernel
theorem dX12_seriesOf_51 : decode cX12_seriesOf 51 = .ok (.iload_n 2, 1) := by decide +kernel
theorem dX12_seriesOf_52 : decode cX12_seriesOf 52 = .ok (.iload_n 3, 1) := by decide +kernel
theorem dX12_seriesOf_53 : decode cX12_seriesOf 53 = .ok (.iload 10, 2) := by decide +kernel
theorem dX12_seriesOf_55 : decode cX12_seriesOf 55 = .ok (.invokevirtual 342, 3) := by decide +kernel
theorem dX12_seriesOf_58 : decode cX12_seriesOf 58 = .ok (.ifCond .ne 14, 3) := by decide +kernel
theorem dX12_seriesOf_61 : decode cX12_seriesOf 61 = .ok (.bipush 20, 2) := by decide +kernel
theorem dX12_seriesOf_63 : decode cX12_seriesOf 63 = .ok (.iload 10, 2) := by decide +kernel
theorem dX12_seriesOf_65 : decode cX12_seriesOf 65 = .ok (.iconst 1, 1) := by decide +kernel
theorem dX12_seriesOf_66 : decode cX12_seriesOf 66 = .ok (.iadd, 1) := by decide +kernel
theorem dX12_seriesOf_67 : decode cX12_seriesOf 67 = .ok (.invokestatic 397, 3) := by decide +kernel
theorem dX12_seriesOf_70 : decode cX12_seriesOf 70 = .ok (.istore 10, 2) := by decide +kernel
theorem dX12_seriesOf_72 : decode cX12_seriesOf 72 = .ok (.iload 11, 2) := by decide +kernel
theorem dX12_seriesOf_74 : decode cX12_seriesOf 74 = .ok (.iload 7, 2) := by decide +kernel
theorem dX12_seriesOf_76 : decode cX12_seriesOf 76 = .ok (.irem, 1) := by decide +kernel
theorem dX12_seriesOf_77 : decode cX12_seriesOf 77 = .ok (.ifCond .ne 6, 3) := by decide +kernel
theorem dX12_seriesOf_80 : decode cX12_seriesOf 80 = .ok (.iconst 0, 1) := by decide +kernel
theorem dX12_seriesOf_81 : decode cX12_seriesOf 81 = .ok (.istore 10, 2) := by decide +kernel
theorem dX12_seriesOf_83 : decode cX12_seriesOf 83 = .ok (.iinc 11 1, 3) := by decide +kernel
theorem dX12_seriesOf_86 : decode cX12_seriesOf 86 = .ok (.goto (-77), 3) := by decide +kernel
theorem dX12_seriesOf_89 : decode cX12_seriesOf 89 = .ok (.lload 8, 2) := by decide +kernel
theorem dX12_seriesOf_91 : decode cX12_seriesOf 91 = .ok (.lreturn, 1) := by decide +kernel
theorem dX12_series_0 : decode cX12_series 0 = .ok (.aload_n 0, 1) := by decide +kernel
theorem dX12_series_1 : decode cX12_series 1 = .ok (.iconst 0, 1) := by decide +kernel
theorem dX12_series_2 : decode cX12_series 2 = .ok (.putfield 63, 3) := by decide +kernel
theorem dX12_series_5 : decode cX12_series 5 = .ok (.aload_n 0, 1) := by decide +kernel
theorem dX12_series_6 : decode cX12_series 6 = .ok (.iconst 0, 1) := by decide +kernel
theorem dX12_series_7 : decode cX12_series 7 = .ok (.putfield 66, 3) := by decide +kernel
theorem dX12_series_10 : decode cX12_series 10 = .ok (.aload_n 0, 1) := by decide +kernel
theorem dX12_series_11 : decode cX12_series 11 = .ok (.iload_n 1, 1) := by decide +kernel
theorem dX12_series_12 : decode cX12_series 12 = .ok (.iload_n 2, 1) := by decide +kernel
theorem dX12_series_13 : decode cX12_series 13 = .ok (.invokevirtual 409, 3) := by decide +kernel
theorem dX12_series_16 : decode cX12_series 16 = .ok (.ifCond .ne 9, 3) := by decide +kernel
theorem dX12_series_19 : decode cX12_series 19 = .ok (.aload_n 0, 1) := by decide +kernel
theorem dX12_series_20 : decode cX12_series 20 = .ok (.iconst 2, 1) := by decide +kernel
theorem dX12_series_21 : decode cX12_series 21 = .ok (.invokevirtual 78, 3) := by decide +kernel
theorem dX12_series_24 : decode cX12_series 24 = .ok (.ireturn, 1) := by decide +kernel
theorem dX12_series_25 : decode cX12_series 25 = .ok (.iload_n 3, 1) := by decide +kernel
theorem dX12_series_26 : decode cX12_series 26 = .ok (.aload_n 0, 1) := by decide +kernel
theorem dX12_series_27 : decode cX12_series 27 = .ok (.getfield 35, 3) := by decide +kernel
theorem dX12_series_30 : decode cX12_series 30 = .ok (.bipush 53, 2) := by decide +kernel
theorem dX12_series_32 : decode cX12_series 32 = .ok (.iload_n 1, 1) := by decide +kernel
theorem dX12_series_33 : decode cX12_series 33 = .ok (.iadd, 1) := by decide +kernel
theorem dX12_series_34 : decode cX12_series 34 = .ok (.iaload, 1) := by decide +kernel
theorem dX12_series_35 : decode cX12_series 35 = .ok (.invokestatic 361, 3) := by decide +kernel
theorem dX12_series_38 : decode cX12_series 38 = .ok (.ifCond .eq 39, 3) := by decide +kernel
theorem dX12_series_41 : decode cX12_series 41 = .ok (.iload 4, 2) := by decide +kernel
theorem dX12_series_43 : decode cX12_series 43 = .ok (.iload 5, 2) := by decide +kernel
theorem dX12_series_45 : decode cX12_series 45 = .ok (.invokestatic 374, 3) := by decide +kernel
theorem dX12_series_48 : decode cX12_series 48 = .ok (.ifCond .eq 29, 3) := by decide +kernel
theorem dX12_series_51 : decode cX12_series 51 = .ok (.iload 6, 2) := by decide +kernel
theorem dX12_series_53 : decode cX12_series 53 = .ok (.i2l, 1) := by decide +kernel
theorem dX12_series_54 : decode cX12_series 54 = .ok (.lconst 1, 1) := by decide +kernel
theorem dX12_series_55 : decode cX12_series 55 = .ok (.ldc2_w 432, 3) := by decide +kernel
theorem dX12_series_58 : decode cX12_series 58 = .ok (.invokestatic 98, 3) := by decide +kernel
theorem dX12_series_61 : decode cX12_series 61 = .ok (.ifCond .eq 16, 3) := by decide +kernel
theorem dX12_series_64 : decode cX12_series 64 = .ok (.iload 7, 2) := by decide +kernel
theorem dX12_series_66 : decode cX12_series 66 = .ok (.i2l, 1) := by decide +kernel
theorem dX12_series_67 : decode cX12_series 67 = .ok (.lconst 1, 1) := by decide +kernel
theorem dX12_series_68 : decode cX12_series 68 = .ok (.ldc2_w 432, 3) := by decide +kernel
theorem dX12_series_71 : decode cX12_series 71 = .ok (.invokestatic 98, 3) := by decide +kernel
theorem dX12_series_74 : decode cX12_series 74 = .ok (.ifCond .ne 9, 3) := by decide +kernel
theorem dX12_series_77 : decode cX12_series 77 = .ok (.aload_n 0, 1) := by decide +kernel
theorem dX12_series_78 : decode cX12_series 78 = .ok (.iconst 5, 1) := by decide +kernel
theorem dX12_series_79 : decode cX12_series 79 = .ok (.invokevirtual 78, 3) := by decide +kernel
theorem dX12_series_82 : decode cX12_series 82 = .ok (.ireturn, 1) := by decide +kernel
theorem dX12_series_83 : decode cX12_series 83 = .ok (.aload_n 0, 1) := by decide +kernel
theorem dX12_series_84 : decode cX12_series 84 = .ok (.aload_n 0, 1) := by decide +kernel
theorem dX12_series_85 : decode cX12_series 85 = .ok (.iload_n 1, 1) := by decide +kernel
theorem dX12_series_86 : decode cX12_series 86 = .ok (.iload_n 2, 1) := by decide +kernel
theorem dX12_series_87 : decode cX12_series 87 = .ok (.iload_n 3, 1) := by decide +kernel
theorem dX12_series_88 : decode cX12_series 88 = .ok (.iload 4, 2) := by decide +kernel
theorem dX12_series_90 : decode cX12_series 90 = .ok (.iload 5, 2) := by decide +kernel
theorem dX12_series_92 : decode cX12_series 92 = .ok (.iload 6, 2) := by decide +kernel
theorem dX12_series_94 : decode cX12_series 94 = .ok (.iload 7, 2) := by decide +kernel
theorem dX12_series_96 : decode cX12_series 96 = .ok (.invokevirtual 434, 3) := by decide +kernel
theorem dX12_series_99 : decode cX12_series 99 = .ok (.ldc2_w 149, 3) := by decide +kernel
theorem dX12_series_102 : decode cX12_series 102 = .ok (.invokevirtual 416, 3) := by decide +kernel
theorem dX12_series_105 : decode cX12_series 105 = .ok (.ireturn, 1) := by decide +kernel
theorem dX12_wipeEvery_0 : decode cX12_wipeEvery 0 = .ok (.aload_n 0, 1) := by decide +kernel
theorem dX12_wipeEvery_1 : decode cX12_wipeEvery 1 = .ok (.iconst 0, 1) := by decide +kernel
theorem dX12_wipeEvery_2 : decode cX12_wipeEvery 2 = .ok (.putfield 63, 3) := by decide +kernel
theorem dX12_wipeEvery_5 : decode cX12_wipeEvery 5 = .ok (.aload_n 0, 1) := by decide +kernel
theorem dX12_wipeEvery_6 : decode cX12_wipeEvery 6 = .ok (.iconst 0, 1) := by decide +kernel
theorem dX12_wipeEvery_7 : decode cX12_wipeEvery 7 = .ok (.putfield 66, 3) := by decide +kernel
theorem dX12_wipeEvery_10 : decode cX12_wipeEvery 10 = .ok (.aload_n 0, 1) := by decide +kernel
theorem dX12_wipeEvery_11 : decode cX12_wipeEvery 11 = .ok (.iload_n 1, 1) := by decide +kernel
theorem dX12_wipeEvery_12 : decode cX12_wipeEvery 12 = .ok (.iload_n 2, 1) := by decide +kernel
theorem dX12_wipeEvery_13 : decode cX12_wipeEvery 13 = .ok (.invokevirtual 409, 3) := by decide +kernel
theorem dX12_wipeEvery_16 : decode cX12_wipeEvery 16 = .ok (.ifCond .ne 9, 3) := by decide +kernel
theorem dX12_wipeEvery_19 : decode cX12_wipeEvery 19 = .ok (.aload_n 0, 1) := by decide +kernel
theorem dX12_wipeEvery_20 : decode cX12_wipeEvery 20 = .ok (.iconst 2, 1) := by decide +kernel
theorem dX12_wipeEvery_21 : decode cX12_wipeEvery 21 = .ok (.invokevirtual 319, 3) := by decide +kernel
theorem dX12_wipeEvery_24 : decode cX12_wipeEvery 24 = .ok (.ireturn, 1) := by decide +kernel
theorem dX12_wipeEvery_25 : decode cX12_wipeEvery 25 = .ok (.iload_n 3, 1) := by decide +kernel
theorem dX12_wipeEvery_26 : decode cX12_wipeEvery 26 = .ok (.aload_n 0, 1) := by decide +kernel
theorem dX12_wipeEvery_27 : decode cX12_wipeEvery 27 = .ok (.getfield 35, 3) := by decide +kernel
theorem dX12_wipeEvery_30 : decode cX12_wipeEvery 30 = .ok (.bipush 53, 2) := by decide +kernel
theorem dX12_wipeEvery_32 : decode cX12_wipeEvery 32 = .ok (.iload_n 1, 1) := by decide +kernel
theorem dX12_wipeEvery_33 : decode cX12_wipeEvery 33 = .ok (.iadd, 1) := by decide +kernel
theorem dX12_wipeEvery_34 : decode cX12_wipeEvery 34 = .ok (.iaload, 1) := by decide +kernel
theorem dX12_wipeEvery_35 : decode cX12_wipeEvery 35 = .ok (.invokestatic 361, 3) := by decide +kernel
theorem dX12_wipeEvery_38 : decode cX12_wipeEvery 38 = .ok (.ifCond .eq 29, 3) := by decide +kernel
theorem dX12_wipeEvery_41 : decode cX12_wipeEvery 41 = .ok (.iload 4, 2) := by decide +kernel
theorem dX12_wipeEvery_43 : decode cX12_wipeEvery 43 = .ok (.i2l, 1) := by decide +kernel
theorem dX12_wipeEvery_44 : decode cX12_wipeEvery 44 = .ok (.lconst 1, 1) := by decide +kernel
theorem dX12_wipeEvery_45 : decode cX12_wipeEvery 45 = .ok (.ldc2_w 432, 3) := by decide +kernel
theorem dX12_wipeEvery_48 : decode cX12_wipeEvery 48 = .ok (.invokestatic 98, 3) := by decide +kernel
theorem dX12_wipeEvery_51 : decode cX12_wipeEvery 51 = .ok (.ifCond .eq 16, 3) := by decide +kernel
theorem dX12_wipeEvery_54 : decode cX12_wipeEvery 54 = .ok (.iload 5, 2) := by decide +kernel
theorem dX12_wipeEvery_56 : decode cX12_wipeEvery 56 = .ok (.i2l, 1) := by decide +kernel
theorem dX12_wipeEvery_57 : decode cX12_wipeEvery 57 = .ok (.lconst 0, 1) := by decide +kernel
theorem dX12_wipeEvery_58 : decode cX12_wipeEvery 58 = .ok (.ldc2_w 438, 3) := by decide +kernel
theorem dX12_wipeEvery_61 : decode cX12_wipeEvery 61 = .ok (.invokestatic 98, 3) := by decide +kernel
theorem dX12_wipeEvery_64 : decode cX12_wipeEvery 64 = .ok (.ifCond .ne 9, 3) := by decide +kernel
theorem dX12_wipeEvery_67 : decode cX12_wipeEvery 67 = .ok (.aload_n 0, 1) := by decide +kernel
theorem dX12_wipeEvery_68 : decode cX12_wipeEvery 68 = .ok (.iconst 5, 1) := by decide +kernel
theorem dX12_wipeEvery_69 : decode cX12_wipeEvery 69 = .ok (.invokevirtual 319, 3) := by decide +kernel
theorem dX12_wipeEvery_72 : decode cX12_wipeEvery 72 = .ok (.ireturn, 1) := by decide +kernel
theorem dX12_wipeEvery_73 : decode cX12_wipeEvery 73 = .ok (.iconst 0, 1) := by decide +kernel
theorem dX12_wipeEvery_74 : decode cX12_wipeEvery 74 = .ok (.istore 6, 2) := by decide +kernel
theorem dX12_wipeEvery_76 : decode cX12_wipeEvery 76 = .ok (.lconst 0, 1) := by decide +kernel
theorem dX12_wipeEvery_77 : decode cX12_wipeEvery 77 = .ok (.lstore 7, 2) := by decide +kernel
theorem dX12_wipeEvery_79 : decode cX12_wipeEvery 79 = .ok (.iconst 1, 1) := by decide +kernel
theorem dX12_wipeEvery_80 : decode cX12_wipeEvery 80 = .ok (.istore 9, 2) := by decide +kernel
theorem dX12_wipeEvery_82 : decode cX12_wipeEvery 82 = .ok (.iload 9, 2) := by decide +kernel
theorem dX12_wipeEvery_84 : decode cX12_wipeEvery 84 = .ok (.bipush 10, 2) := by decide +kernel
theorem dX12_wipeEvery_86 : decode cX12_wipeEvery 86 = .ok (.if_icmp .ge 67, 3) := by decide +kernel
theorem dX12_wipeEvery_89 : decode cX12_wipeEvery 89 = .ok (.ldc2_w 440, 3) := by decide +kernel
theorem dX12_wipeEvery_92 : decode cX12_wipeEvery 92 = .ok (.aload_n 0, 1) := by decide +kernel
theorem dX12_wipeEvery_93 : decode cX12_wipeEvery 93 = .ok (.iload_n 1, 1) := by decide +kernel
theorem dX12_wipeEvery_94 : decode cX12_wipeEvery 94 = .ok (.iload_n 2, 1) := by decide +kernel
theorem dX12_wipeEvery_95 : decode cX12_wipeEvery 95 = .ok (.iload_n 3, 1) := by decide +kernel
theorem dX12_wipeEvery_96 : decode cX12_wipeEvery 96 = .ok (.iconst 0, 1) := by decide +kernel
theorem dX12_wipeEvery_97 : decode cX12_wipeEvery 97 = .ok (.iconst 0, 1) := by decide +kernel
theorem dX12_wipeEvery_98 : decode cX12_wipeEvery 98 = .ok (.iload 4, 2) := by decide +kernel
theorem dX12_wipeEvery_100 : decode cX12_wipeEvery 100 = .ok (.iload 9, 2) := by decide +kernel
theorem dX12_wipeEvery_102 : decode cX12_wipeEvery 102 = .ok (.invokevirtual 434, 3) := by decide +kernel
theorem dX12_wipeEvery_105 : decode cX12_wipeEvery 105 = .ok (.lmul, 1) := by decide +kernel
theorem dX12_wipeEvery_106 : decode cX12_wipeEvery 106 = .ok (.ldc2_w 149, 3) := by decide +kernel
theorem dX12_wipeEvery_109 : decode cX12_wipeEvery 109 = .ok (.iload 5, 2) := by decide +kernel
theorem dX12_wipeEvery_111 : decode cX12_wipeEvery 111 = .ok (.i2l, 1) := by decide +kernel
theorem dX12_wipeEvery_112 : decode cX12_wipeEvery 112 = .ok (.lmul, 1) := by decide +kernel
theorem dX12_wipeEvery_113 : decode cX12_wipeEvery 113 = .ok (.iload 4, 2) := by decide +kernel
theorem dX12_wipeEvery_115 : decode cX12_wipeEvery 115 = .ok (.iload 9, 2) := by decide +kernel
theorem dX12_wipeEvery_117 : decode cX12_wipeEvery 117 = .ok (.idiv, 1) := by decide +kernel
theorem dX12_wipeEvery_118 : decode cX12_wipeEvery 118 = .ok (.i2l, 1) := by decide +kernel
theorem dX12_wipeEvery_119 : decode cX12_wipeEvery 119 = .ok (.lmul, 1) := by decide +kernel
theorem dX12_wipeEvery_120 : decode cX12_wipeEvery 120 = .ok (.lsub, 1) := by decide +kernel
theorem dX12_wipeEvery_121 : decode cX12_wipeEvery 121 = .ok (.lstore 10, 2) := by decide +kernel
theorem dX12_wipeEvery_123 : decode cX12_wipeEvery 123 = .ok (.iload 6, 2) := by decide +kernel
theorem dX12_wipeEvery_125 : decode cX12_wipeEvery 125 = .ok (.ifCond .le 14, 3) := by decide +kernel
theorem dX12_wipeEvery_128 : decode cX12_wipeEvery 128 = .ok (.lload 10, 2) := by decide +kernel
theorem dX12_wipeEvery_130 : decode cX12_wipeEvery 130 = .ok (.lload 7, 2) := by decide +kernel
theorem dX12_wipeEvery_132 : decode cX12_wipeEvery 132 = .ok (.lcmp, 1) := by decide +kernel
theorem dX12_wipeEvery_133 : decode cX12_wipeEvery 133 = .ok (.ifCond .gt 6, 3) := by decide +kernel
theorem dX12_wipeEvery_136 : decode cX12_wipeEvery 136 = .ok (.goto 11, 3) := by decide +kernel
theorem dX12_wipeEvery_139 : decode cX12_wipeEvery 139 = .ok (.iload 9, 2) := by decide +kernel
theorem dX12_wipeEvery_141 : decode cX12_wipeEvery 141 = .ok (.istore 6, 2) := by decide +kernel
theorem dX12_wipeEvery_143 : decode cX12_wipeEvery 143 = .ok (.lload 10, 2) := by decide +kernel
theorem dX12_wipeEvery_145 : decode cX12_wipeEvery 145 = .ok (.lstore 7, 2) := by decide +kernel
theorem dX12_wipeEvery_147 : decode cX12_wipeEvery 147 = .ok (.iinc 9 1, 3) := by decide +kernel
theorem dX12_wipeEvery_150 : decode cX12_wipeEvery 150 = .ok (.goto (-68), 3) := by decide +kernel
theorem dX12_wipeEvery_153 : decode cX12_wipeEvery 153 = .ok (.iload 6, 2) := by decide +kernel
theorem dX12_wipeEvery_155 : decode cX12_wipeEvery 155 = .ok (.ireturn, 1) := by decide +kernel
theorem dX12_sumUp_0 : decode cX12_sumUp 0 = .ok (.aload_n 0, 1) := by decide +kernel
theorem dX12_sumUp_1 : decode cX12_sumUp 1 = .ok (.iload_n 1, 1) := by decide +kernel
theorem dX12_sumUp_2 : decode cX12_sumUp 2 = .ok (.iload_n 2, 1) := by decide +kernel
theorem dX12_sumUp_3 : decode cX12_sumUp 3 = .ok (.aload_n 0, 1) := by decide +kernel
theorem dX12_sumUp_4 : decode cX12_sumUp 4 = .ok (.getfield 35, 3) := by decide +kernel
theorem dX12_sumUp_7 : decode cX12_sumUp 7 = .ok (.bipush 53, 2) := by decide +kernel
theorem dX12_sumUp_9 : decode cX12_sumUp 9 = .ok (.iload_n 1, 1) := by decide +kernel
theorem dX12_sumUp_10 : decode cX12_sumUp 10 = .ok (.iadd, 1) := by decide +kernel
theorem dX12_sumUp_11 : decode cX12_sumUp 11 = .ok (.iaload, 1) := by decide +kernel
theorem dX12_sumUp_12 : decode cX12_sumUp 12 = .ok (.iconst 2, 1) := by decide +kernel
theorem dX12_sumUp_13 : decode cX12_sumUp 13 = .ok (.iconst 0, 1) := by decide +kernel
theorem dX12_sumUp_14 : decode cX12_sumUp 14 = .ok (.iconst 0, 1) := by decide +kernel
theorem dX12_sumUp_15 : decode cX12_sumUp 15 = .ok (.iconst 0, 1) := by decide +kernel
theorem dX12_sumUp_16 : decode cX12_sumUp 16 = .ok (.invokevirtual 412, 3) := by decide +kernel
theorem dX12_sumUp_19 : decode cX12_sumUp 19 = .ok (.iconst 0, 1) := by decide +kernel
theorem dX12_sumUp_20 : decode cX12_sumUp 20 = .ok (.istore 5, 2) := by decide +kernel
theorem dX12_sumUp_22 : decode cX12_sumUp 22 = .ok (.iload 5, 2) := by decide +kernel
theorem dX12_sumUp_24 : decode cX12_sumUp 24 = .ok (.bipush 101, 2) := by decide +kernel
theorem dX12_sumUp_26 : decode cX12_sumUp 26 = .ok (.if_icmp .ge 24, 3) := by decide +kernel
theorem dX12_sumUp_29 : decode cX12_sumUp 29 = .ok (.aload 4, 2) := by decide +kernel
theorem dX12_sumUp_31 : decode cX12_sumUp 31 = .ok (.iload 5, 2) := by decide +kernel
theorem dX12_sumUp_33 : decode cX12_sumUp 33 = .ok (.iload 5, 2) := by decide +kernel
theorem dX12_sumUp_35 : decode cX12_sumUp 35 = .ok (.ifCond .ne 7, 3) := by decide +kernel
theorem dX12_sumUp_38 : decode cX12_sumUp 38 = .ok (.lconst 1, 1) := by decide +kernel
theorem dX12_sumUp_39 : decode cX12_sumUp 39 = .ok (.goto 4, 3) := by decide +kernel
theorem dX12_sumUp_42 : decode cX12_sumUp 42 = .ok (.lconst 0, 1) := by decide +kernel
theorem dX12_sumUp_43 : decode cX12_sumUp 43 = .ok (.lastore, 1) := by decide +kernel
theorem dX12_sumUp_44 : decode cX12_sumUp 44 = .ok (.iinc 5 1, 3) := by decide +kernel
theorem dX12_sumUp_47 : decode cX12_sumUp 47 = .ok (.goto (-25), 3) := by decide +kernel
theorem dX12_sumUp_50 : decode cX12_sumUp 50 = .ok (.iconst 0, 1) := by decide +kernel
theorem dX12_sumUp_51 : decode cX12_sumUp 51 = .ok (.istore 5, 2) := by decide +kernel
theorem dX12_sumUp_53 : decode cX12_sumUp 53 = .ok (.iload 5, 2) := by decide +kernel
theorem dX12_sumUp_55 : decode cX12_sumUp 55 = .ok (.iload_n 3, 1) := by decide +kernel
theorem dX12_sumUp_56 : decode cX12_sumUp 56 = .ok (.if_icmp .ge 123, 3) := by decide +kernel
theorem dX12_sumUp_59 : decode cX12_sumUp 59 = .ok (.iconst 0, 1) := by decide +kernel
theorem dX12_sumUp_60 : decode cX12_sumUp 60 = .ok (.istore 6, 2) := by decide +kernel
theorem dX12_sumUp_62 : decode cX12_sumUp 62 = .ok (.iload 6, 2) := by decide +kernel
theorem dX12_sumUp_64 : decode cX12_sumUp 64 = .ok (.bipush 101, 2) := by decide +kernel
theorem dX12_sumUp_66 : decode cX12_sumUp 66 = .ok (.if_icmp .ge 17, 3) := by decide +kernel
theorem dX12_sumUp_69 : decode cX12_sumUp 69 = .ok (.aload_n 0, 1) := by decide +kernel
theorem dX12_sumUp_70 : decode cX12_sumUp 70 = .ok (.getfield 53, 3) := by decide +kernel
theorem dX12_sumUp_73 : decode cX12_sumUp 73 = .ok (.iload 6, 2) := by decide +kernel
theorem dX12_sumUp_75 : decode cX12_sumUp 75 = .ok (.lconst 0, 1) := by decide +kernel
theorem dX12_sumUp_76 : decode cX12_sumUp 76 = .ok (.lastore, 1) := by decide +kernel
theorem dX12_sumUp_77 : decode cX12_sumUp 77 = .ok (.iinc 6 1, 3) := by decide +kernel
theorem dX12_sumUp_80 : decode cX12_sumUp 80 = .ok (.goto (-18), 3) := by decide +kernel
theorem dX12_sumUp_83 : decode cX12_sumUp 83 = .ok (.iconst 0, 1) := by decide +kernel
theorem dX12_sumUp_84 : decode cX12_sumUp 84 = .ok (.istore 6, 2) := by decide +kernel
theorem dX12_sumUp_86 : decode cX12_sumUp 86 = .ok (.iload 6, 2) := by decide +kernel
theorem dX12_sumUp_88 : decode cX12_sumUp 88 = .ok (.bipush 20, 2) := by decide +kernel
theorem dX12_sumUp_90 : decode cX12_sumUp 90 = .ok (.iload 5, 2) := by decide +kernel
theorem dX12_sumUp_92 : decode cX12_sumUp 92 = .ok (.imul, 1) := by decide +kernel
theorem dX12_sumUp_93 : decode cX12_sumUp 93 = .ok (.if_icmp .gt 52, 3) := by decide +kernel
theorem dX12_sumUp_96 : decode cX12_sumUp 96 = .ok (.iconst 0, 1) := by decide +kernel
theorem dX12_sumUp_97 : decode cX12_sumUp 97 = .ok (.istore 7, 2) := by decide +kernel
theorem dX12_sumUp_99 : decode cX12_sumUp 99 = .ok (.iload 7, 2) := by decide +kernel
theorem dX12_sumUp_101 : decode cX12_sumUp 101 = .ok (.bipush 21, 2) := by decide +kernel
theorem dX12_sumUp_103 : decode cX12_sumUp 103 = .ok (.if_icmp .ge 36, 3) := by decide +kernel
theorem dX12_sumUp_106 : decode cX12_sumUp 106 = .ok (.aload_n 0, 1) := by decide +kernel
theorem dX12_sumUp_107 : decode cX12_sumUp 107 = .ok (.getfield 53, 3) := by decide +kernel
theorem dX12_sumUp_110 : decode cX12_sumUp 110 = .ok (.iload 6, 2) := by decide +kernel
theorem dX12_sumUp_112 : decode cX12_sumUp 112 = .ok (.iload 7, 2) := by decide +kernel
theorem dX12_sumUp_114 : decode cX12_sumUp 114 = .ok (.iadd, 1) := by decide +kernel
theorem dX12_sumUp_115 : decode cX12_sumUp 115 = .ok (.dup2, 1) := by decide +kernel
theorem dX12_sumUp_116 : decode cX12_sumUp 116 = .ok (.laload, 1) := by decide +kernel
theorem dX12_sumUp_117 : decode cX12_sumUp 117 = .ok (.aload 4, 2) := by decide +kernel
theorem dX12_sumUp_119 : decode cX12_sumUp 119 = .ok (.iload 6, 2) := by decide +kernel
theorem dX12_sumUp_121 : decode cX12_sumUp 121 = .ok (.laload, 1) := by decide +kernel
theorem dX12_sumUp_122 : decode cX12_sumUp 122 = .ok (.aload_n 0, 1) := by decide +kernel
theorem dX12_sumUp_123 : decode cX12_sumUp 123 = .ok (.getfield 44, 3) := by decide +kernel
theorem dX12_sumUp_126 : decode cX12_sumUp 126 = .ok (.iload 7, 2) := by decide +kernel
theorem dX12_sumUp_128 : decode cX12_sumUp 128 = .ok (.iaload, 1) := by decide +kernel
theorem dX12_sumUp_129 : decode cX12_sumUp 129 = .ok (.i2l, 1) := by decide +kernel
theorem dX12_sumUp_130 : decode cX12_sumUp 130 = .ok (.lmul, 1) := by decide +kernel
theorem dX12_sumUp_131 : decode cX12_sumUp 131 = .ok (.ladd, 1) := by decide +kernel
theorem dX12_sumUp_132 : decode cX12_sumUp 132 = .ok (.lastore, 1) := by decide +kernel
theorem dX12_sumUp_133 : decode cX12_sumUp 133 = .ok (.iinc 7 1, 3) := by decide +kernel
theorem dX12_sumUp_136 : decode cX12_sumUp 136 = .ok (.goto (-37), 3) := by decide +kernel
theorem dX12_sumUp_139 : decode cX12_sumUp 139 = .ok (.iinc 6 1, 3) := by decide +kernel
theorem dX12_sumUp_142 : decode cX12_sumUp 142 = .ok (.goto (-56), 3) := by decide +kernel
theorem dX12_sumUp_145 : decode cX12_sumUp 145 = .ok (.iconst 0, 1) := by decide +kernel
theorem dX12_sumUp_146 : decode cX12_sumUp 146 = .ok (.istore 6, 2) := by decide +kernel
theorem dX12_sumUp_148 : decode cX12_sumUp 148 = .ok (.iload 6, 2) := by decide +kernel
theorem dX12_sumUp_150 : decode cX12_sumUp 150 = .ok (.bipush 101, 2) := by decide +kernel
theorem dX12_sumUp_152 : decode cX12_sumUp 152 = .ok (.if_icmp .ge 21, 3) := by decide +kernel
theorem dX12_sumUp_155 : decode cX12_sumUp 155 = .ok (.aload 4, 2) := by decide +kernel
theorem dX12_sumUp_157 : decode cX12_sumUp 157 = .ok (.iload 6, 2) := by decide +kernel
theorem dX12_sumUp_159 : decode cX12_sumUp 159 = .ok (.aload_n 0, 1) := by decide +kernel
theorem dX12_sumUp_160 : decode cX12_sumUp 160 = .ok (.getfield 53, 3) := by decide +kernel
theorem dX12_sumUp_163 : decode cX12_sumUp 163 = .ok (.iload 6, 2) := by decide +kernel
theorem dX12_sumUp_165 : decode cX12_sumUp 165 = .ok (.laload, 1) := by decide +kernel
theorem dX12_sumUp_166 : decode cX12_sumUp 166 = .ok (.lastore, 1) := by decide +kernel
theorem dX12_sumUp_167 : decode cX12_sumUp 167 = .ok (.iinc 6 1, 3) := by decide +kernel
theorem dX12_sumUp_170 : decode cX12_sumUp 170 = .ok (.goto (-22), 3) := by decide +kernel
theorem dX12_sumUp_173 : decode cX12_sumUp 173 = .ok (.iinc 5 1, 3) := by decide +kernel
theorem dX12_sumUp_176 : decode cX12_sumUp 176 = .ok (.goto (-123), 3) := by decide +kernel
theorem dX12_sumUp_179 : decode cX12_sumUp 179 = .ok (.return_, 1) := by decide +kernel
theorem dX12_waysOf_0 : decode cX12_waysOf 0 = .ok (.lconst 1, 1) := by decide +kernel
theorem dX12_waysOf_1 : decode cX12_waysOf 1 = .ok (.lstore_n 2, 1) := by decide +kernel
theorem dX12_waysOf_2 : decode cX12_waysOf 2 = .ok (.iconst 0, 1) := by decide +kernel
theorem dX12_waysOf_3 : decode cX12_waysOf 3 = .ok (.istore 4, 2) := by decide +kernel
theorem dX12_waysOf_5 : decode cX12_waysOf 5 = .ok (.iload 4, 2) := by decide +kernel
theorem dX12_waysOf_7 : decode cX12_waysOf 7 = .ok (.iload_n 1, 1) := by decide +kernel
theorem dX12_waysOf_8 : decode cX12_waysOf 8 = .ok (.if_icmp .ge 17, 3) := by decide +kernel
theorem dX12_waysOf_11 : decode cX12_waysOf 11 = .ok (.lload_n 2, 1) := by decide +kernel
theorem dX12_waysOf_12 : decode cX12_waysOf 12 = .ok (.aload_n 0, 1) := by decide +kernel
theorem dX12_waysOf_13 : decode cX12_waysOf 13 = .ok (.getfield 403, 3) := by decide +kernel
theorem dX12_waysOf_16 : decode cX12_waysOf 16 = .ok (.i2l, 1) := by decide +kernel
theorem dX12_waysOf_17 : decode cX12_waysOf 17 = .ok (.lmul, 1) := by decide +kernel
theorem dX12_waysOf_18 : decode cX12_waysOf 18 = .ok (.lstore_n 2, 1) := by decide +kernel
theorem dX12_waysOf_19 : decode cX12_waysOf 19 = .ok (.iinc 4 1, 3) := by decide +kernel
theorem dX12_waysOf_22 : decode cX12_waysOf 22 = .ok (.goto (-17), 3) := by decide +kernel
theorem dX12_waysOf_25 : decode cX12_waysOf 25 = .ok (.lload_n 2, 1) := by decide +kernel
theorem dX12_waysOf_26 : decode cX12_waysOf 26 = .ok (.lreturn, 1) := by decide +kernel
theorem dX12_turns_0 : decode cX12_turns 0 = .ok (.aload_n 0, 1) := by decide +kernel
theorem dX12_turns_1 : decode cX12_turns 1 = .ok (.iconst 0, 1) := by decide +kernel
theorem dX12_turns_2 : decode cX12_turns 2 = .ok (.putfield 63, 3) := by decide +kernel
theorem dX12_turns_5 : decode cX12_turns 5 = .ok (.aload_n 0, 1) := by decide +kernel
theorem dX12_turns_6 : decode cX12_turns 6 = .ok (.iconst 0, 1) := by decide +kernel
theorem dX12_turns_7 : decode cX12_turns 7 = .ok (.putfield 66, 3) := by decide +kernel
theorem dX12_turns_10 : decode cX12_turns 10 = .ok (.aload_n 0, 1) := by decide +kernel
theorem dX12_turns_11 : decode cX12_turns 11 = .ok (.iload_n 1, 1) := by decide +kernel
theorem dX12_turns_12 : decode cX12_turns 12 = .ok (.iload_n 2, 1) := by decide +kernel
theorem dX12_turns_13 : decode cX12_turns 13 = .ok (.invokevirtual 409, 3) := by decide +kernel
theorem dX12_turns_16 : decode cX12_turns 16 = .ok (.ifCond .eq 13, 3) := by decide +kernel
theorem dX12_turns_19 : decode cX12_turns 19 = .ok (.aload_n 0, 1) := by decide +kernel
theorem dX12_turns_20 : decode cX12_turns 20 = .ok (.iload_n 3, 1) := by decide +kernel
theorem dX12_turns_21 : decode cX12_turns 21 = .ok (.iload 4, 2) := by decide +kernel
theorem dX12_turns_23 : decode cX12_turns 23 = .ok (.invokevirtual 409, 3) := by decide +kernel
theorem dX12_turns_26 : decode cX12_turns 26 = .ok (.ifCond .ne 9, 3) := by decide +kernel
theorem dX12_turns_29 : decode cX12_turns 29 = .ok (.aload_n 0, 1) := by decide +kernel
theorem dX12_turns_30 : decode cX12_turns 30 = .ok (.iconst 2, 1) := by decide +kernel
theorem dX12_turns_31 : decode cX12_turns 31 = .ok (.invokevirtual 78, 3) := by decide +kernel
theorem dX12_turns_34 : decode cX12_turns 34 = .ok (.ireturn, 1) := by decide +kernel
theorem dX12_turns_35 : decode cX12_turns 35 = .ok (.iload 5, 2) := by decide +kernel
theorem dX12_turns_37 : decode cX12_turns 37 = .ok (.i2l, 1) := by decide +kernel
theorem dX12_turns_38 : decode cX12_turns 38 = .ok (.lconst 1, 1) := by decide +kernel
theorem dX12_turns_39 : decode cX12_turns 39 = .ok (.ldc2_w 442, 3) := by decide +kernel
theorem dX12_turns_42 : decode cX12_turns 42 = .ok (.invokestatic 98, 3) := by decide +kernel
theorem dX12_turns_45 : decode cX12_turns 45 = .ok (.ifCond .eq 16, 3) := by decide +kernel
theorem dX12_turns_48 : decode cX12_turns 48 = .ok (.iload 6, 2) := by decide +kernel
theorem dX12_turns_50 : decode cX12_turns 50 = .ok (.i2l, 1) := by decide +kernel
theorem dX12_turns_51 : decode cX12_turns 51 = .ok (.lconst 0, 1) := by decide +kernel
theorem dX12_turns_52 : decode cX12_turns 52 = .ok (.ldc2_w 444, 3) := by decide +kernel
theorem dX12_turns_55 : decode cX12_turns 55 = .ok (.invokestatic 98, 3) := by decide +kernel
theorem dX12_turns_58 : decode cX12_turns 58 = .ok (.ifCond .ne 9, 3) := by decide +kernel
theorem dX12_turns_61 : decode cX12_turns 61 = .ok (.aload_n 0, 1) := by decide +kernel
theorem dX12_turns_62 : decode cX12_turns 62 = .ok (.iconst 5, 1) := by decide +kernel
theorem dX12_turns_63 : decode cX12_turns 63 = .ok (.invokevirtual 78, 3) := by decide +kernel
theorem dX12_turns_66 : decode cX12_turns 66 = .ok (.ireturn, 1) := by decide +kernel
theorem dX12_turns_67 : decode cX12_turns 67 = .ok (.aload_n 0, 1) := by decide +kernel
theorem dX12_turns_68 : decode cX12_turns 68 = .ok (.iload_n 1, 1) := by decide +kernel
theorem dX12_turns_69 : decode cX12_turns 69 = .ok (.iload_n 2, 1) := by decide +kernel
theorem dX12_turns_70 : decode cX12_turns 70 = .ok (.iload 5, 2) := by decide +kernel
theorem dX12_turns_72 : decode cX12_turns 72 = .ok (.aload_n 0, 1) := by decide +kernel
theorem dX12_turns_73 : decode cX12_turns 73 = .ok (.getfield 47, 3) := by decide +kernel
theorem dX12_turns_76 : decode cX12_turns 76 = .ok (.invokevirtual 446, 3) := by decide +kernel
theorem dX12_turns_79 : decode cX12_turns 79 = .ok (.aload_n 0, 1) := by decide +kernel
theorem dX12_turns_80 : decode cX12_turns 80 = .ok (.aload_n 0, 1) := by decide +kernel
theorem dX12_turns_81 : decode cX12_turns 81 = .ok (.iload 5, 2) := by decide +kernel
theorem dX12_turns_83 : decode cX12_turns 83 = .ok (.invokevirtual 450, 3) := by decide +kernel
theorem dX12_turns_86 : decode cX12_turns 86 = .ok (.putfield 454, 3) := by decide +kernel
theorem dX12_turns_89 : decode cX12_turns 89 = .ok (.aload_n 0, 1) := by decide +kernel
theorem dX12_turns_90 : decode cX12_turns 90 = .ok (.iload_n 3, 1) := by decide +kernel
theorem dX12_turns_91 : decode cX12_turns 91 = .ok (.iload 4, 2) := by decide +kernel
theorem dX12_turns_93 : decode cX12_turns 93 = .ok (.iload 5, 2) := by decide +kernel
theorem dX12_turns_95 : decode cX12_turns 95 = .ok (.aload_n 0, 1) := by decide +kernel
theorem dX12_turns_96 : decode cX12_turns 96 = .ok (.getfield 50, 3) := by decide +kernel
theorem dX12_turns_99 : decode cX12_turns 99 = .ok (.invokevirtual 446, 3) := by decide +kernel
theorem dX12_turns_102 : decode cX12_turns 102 = .ok (.aload_n 0, 1) := by decide +kernel
theorem dX12_turns_103 : decode cX12_turns 103 = .ok (.aload_n 0, 1) := by decide +kernel
theorem dX12_turns_104 : decode cX12_turns 104 = .ok (.iload 5, 2) := by decide +kernel
theorem dX12_turns_106 : decode cX12_turns 106 = .ok (.invokevirtual 450, 3) := by decide +kernel
theorem dX12_turns_109 : decode cX12_turns 109 = .ok (.putfield 457, 3) := by decide +kernel
theorem dX12_turns_112 : decode cX12_turns 112 = .ok (.lconst 0, 1) := by decide +kernel
theorem dX12_turns_113 : decode cX12_turns 113 = .ok (.lstore 7, 2) := by decide +kernel
theorem dX12_turns_115 : decode cX12_turns 115 = .ok (.iconst 0, 1) := by decide +kernel
theorem dX12_turns_116 : decode cX12_turns 116 = .ok (.istore 9, 2) := by decide +kernel
theorem dX12_turns_118 : decode cX12_turns 118 = .ok (.iload 9, 2) := by decide +kernel
theorem dX12_turns_120 : decode cX12_turns 120 = .ok (.bipush 101, 2) := by decide +kernel
theorem dX12_turns_122 : decode cX12_turns 122 = .ok (.if_icmp .ge 83, 3) := by decide +kernel
theorem dX12_turns_125 : decode cX12_turns 125 = .ok (.iconst 0, 1) := by decide +kernel
theorem dX12_turns_126 : decode cX12_turns 126 = .ok (.istore 10, 2) := by decide +kernel
theorem dX12_turns_128 : decode cX12_turns 128 = .ok (.iload 10, 2) := by decide +kernel
theorem dX12_turns_130 : decode cX12_turns 130 = .ok (.bipush 101, 2) := by decide +kernel
theorem dX12_turns_132 : decode cX12_turns 132 = .ok (.if_icmp .ge 67, 3) := by decide +kernel
theorem dX12_turns_135 : decode cX12_turns 135 = .ok (.iload 6, 2) := by decide +kernel
theorem dX12_turns_137 : decode cX12_turns 137 = .ok (.ifCond .ne 13, 3) := by decide +kernel
theorem dX12_turns_140 : decode cX12_turns 140 = .ok (.iload 9, 2) := by decide +kernel
theorem dX12_turns_142 : decode cX12_turns 142 = .ok (.iload 10, 2) := by decide +kernel
theorem dX12_turns_144 : decode cX12_turns 144 = .ok (.if_icmp .le 49, 3) := by decide +kernel
theorem dX12_turns_147 : decode cX12_turns 147 = .ok (.goto 26, 3) := by decide +kernel
theorem dX12_turns_150 : decode cX12_turns 150 = .ok (.iload 6, 2) := by decide +kernel
theorem dX12_turns_152 : decode cX12_turns 152 = .ok (.iconst 1, 1) := by decide +kernel
theorem dX12_turns_153 : decode cX12_turns 153 = .ok (.if_icmp .ne 13, 3) := by decide +kernel
theorem dX12_turns_156 : decode cX12_turns 156 = .ok (.iload 9, 2) := by decide +kernel
theorem dX12_turns_158 : decode cX12_turns 158 = .ok (.iload 10, 2) := by decide +kernel
theorem dX12_turns_160 : decode cX12_turns 160 = .ok (.if_icmp .ne 33, 3) := by decide +kernel
theorem dX12_turns_163 : decode cX12_turns 163 = .ok (.goto 10, 3) := by decide +kernel
theorem dX12_turns_166 : decode cX12_turns 166 = .ok (.iload 9, 2) := by decide +kernel
theorem dX12_turns_168 : decode cX12_turns 168 = .ok (.iload 10, 2) := by decide +kernel
theorem dX12_turns_170 : decode cX12_turns 170 = .ok (.if_icmp .ge 23, 3) := by decide +kernel
theorem dX12_turns_173 : decode cX12_turns 173 = .ok (.lload 7, 2) := by decide +kernel
theorem dX12_turns_175 : decode cX12_turns 175 = .ok (.aload_n 0, 1) := by decide +kernel
theorem dX12_turns_176 : decode cX12_turns 176 = .ok (.getfield 47, 3) := by decide +kernel
theorem dX12_turns_179 : decode cX12_turns 179 = .ok (.iload 9, 2) := by decide +kernel
theorem dX12_turns_181 : decode cX12_turns 181 = .ok (.laload, 1) := by decide +kernel
theorem dX12_turns_182 : decode cX12_turns 182 = .ok (.aload_n 0, 1) := by decide +kernel
theorem dX12_turns_183 : decode cX12_turns 183 = .ok (.getfield 50, 3) := by decide +kernel
theorem dX12_turns_186 : decode cX12_turns 186 = .ok (.iload 10, 2) := by decide +kernel
theorem dX12_turns_188 : decode cX12_turns 188 = .ok (.laload, 1) := by decide +kernel
theorem dX12_turns_189 : decode cX12_turns 189 = .ok (.lmul, 1) := by decide +kernel
theorem dX12_turns_190 : decode cX12_turns 190 = .ok (.ladd, 1) := by decide +kernel
theorem dX12_turns_191 : decode cX12_turns 191 = .ok (.lstore 7, 2) := by decide +kernel
theorem dX12_turns_193 : decode cX12_turns 193 = .ok (.iinc 10 1, 3) := by decide +kernel
theorem dX12_turns_196 : decode cX12_turns 196 = .ok (.goto (-68), 3) := by decide +kernel
theorem dX12_turns_199 : decode cX12_turns 199 = .ok (.iinc 9 1, 3) := by decide +kernel
theorem dX12_turns_202 : decode cX12_turns 202 = .ok (.goto (-84), 3) := by decide +kernel
theorem dX12_turns_205 : decode cX12_turns 205 = .ok (.aload_n 0, 1) := by decide +kernel
theorem dX12_turns_206 : decode cX12_turns 206 = .ok (.lload 7, 2) := by decide +kernel
theorem dX12_turns_208 : decode cX12_turns 208 = .ok (.aload_n 0, 1) := by decide +kernel
theorem dX12_turns_209 : decode cX12_turns 209 = .ok (.getfield 454, 3) := by decide +kernel
theorem dX12_turns_212 : decode cX12_turns 212 = .ok (.aload_n 0, 1) := by decide +kernel
theorem dX12_turns_213 : decode cX12_turns 213 = .ok (.getfield 457, 3) := by decide +kernel
theorem dX12_turns_216 : decode cX12_turns 216 = .ok (.lmul, 1) := by decide +kernel
theorem dX12_turns_217 : decode cX12_turns 217 = .ok (.invokevirtual 416, 3) := by decide +kernel
theorem dX12_turns_220 : decode cX12_turns 220 = .ok (.ireturn, 1) := by decide +kernel
theorem dX12_isTray_0 : decode cX12_isTray 0 = .ok (.iload_n 1, 1) := by decide +kernel
theorem dX12_isTray_1 : decode cX12_isTray 1 = .ok (.i2l, 1) := by decide +kernel
theorem dX12_isTray_2 : decode cX12_isTray 2 = .ok (.lconst 0, 1) := by decide +kernel
theorem dX12_isTray_3 : decode cX12_isTray 3 = .ok (.ldc2_w 96, 3) := by decide +kernel
theorem dX12_isTray_6 : decode cX12_isTray 6 = .ok (.invokestatic 98, 3) := by decide +kernel
theorem dX12_isTray_9 : decode cX12_isTray 9 = .ok (.ireturn, 1) := by decide +kernel
theorem dX12_numberOf_0 : decode cX12_numberOf 0 = .ok (.aload_n 0, 1) := by decide +kernel
theorem dX12_numberOf_1 : decode cX12_numberOf 1 = .ok (.getfield 20, 3) := by decide +kernel
theorem dX12_numberOf_4 : decode cX12_numberOf 4 = .ok (.bipush 60, 2) := by decide +kernel
theorem dX12_numberOf_6 : decode cX12_numberOf 6 = .ok (.iload_n 1, 1) := by decide +kernel
theorem dX12_numberOf_7 : decode cX12_numberOf 7 = .ok (.imul, 1) := by decide +kernel
theorem dX12_numberOf_8 : decode cX12_numberOf 8 = .ok (.iload_n 2, 1) := by decide +kernel
theorem dX12_numberOf_9 : decode cX12_numberOf 9 = .ok (.iadd, 1) := by decide +kernel
theorem dX12_numberOf_10 : decode cX12_numberOf 10 = .ok (.laload, 1) := by decide +kernel
theorem dX12_numberOf_11 : decode cX12_numberOf 11 = .ok (.lreturn, 1) := by decide +kernel
theorem dX12_beats_0 : decode cX12_beats 0 = .ok (.aload_n 0, 1) := by decide +kernel
theorem dX12_beats_1 : decode cX12_beats 1 = .ok (.iload_n 1, 1) := by decide +kernel
theorem dX12_beats_2 : decode cX12_beats 2 = .ok (.iload_n 3, 1) := by decide +kernel
theorem dX12_beats_3 : decode cX12_beats 3 = .ok (.iconst 1, 1) := by decide +kernel
theorem dX12_beats_4 : decode cX12_beats 4 = .ok (.aload_n 0, 1) := by decide +kernel
theorem dX12_beats_5 : decode cX12_beats 5 = .ok (.getfield 47, 3) := by decide +kernel
theorem dX12_beats_8 : decode cX12_beats 8 = .ok (.invokevirtual 446, 3) := by decide +kernel
theorem dX12_beats_11 : decode cX12_beats 11 = .ok (.aload_n 0, 1) := by decide +kernel
theorem dX12_beats_12 : decode cX12_beats 12 = .ok (.iload_n 2, 1) := by decide +kernel
theorem dX12_beats_13 : decode cX12_beats 13 = .ok (.iload_n 3, 1) := by decide +kernel
theorem dX12_beats_14 : decode cX12_beats 14 = .ok (.iconst 1, 1) := by decide +kernel
theorem dX12_beats_15 : decode cX12_beats 15 = .ok (.aload_n 0, 1) := by decide +kernel
theorem dX12_beats_16 : decode cX12_beats 16 = .ok (.getfield 50, 3) := by decide +kernel
theorem dX12_beats_19 : decode cX12_beats 19 = .ok (.invokevirtual 446, 3) := by decide +kernel
theorem dX12_beats_22 : decode cX12_beats 22 = .ok (.lconst 0, 1) := by decide +kernel
theorem dX12_beats_23 : decode cX12_beats 23 = .ok (.lstore 4, 2) := by decide +kernel
theorem dX12_beats_25 : decode cX12_beats 25 = .ok (.iconst 0, 1) := by decide +kernel
theorem dX12_beats_26 : decode cX12_beats 26 = .ok (.istore 6, 2) := by decide +kernel
theorem dX12_beats_28 : decode cX12_beats 28 = .ok (.iload 6, 2) := by decide +kernel
theorem dX12_beats_30 : decode cX12_beats 30 = .ok (.bipush 101, 2) := by decide +kernel
theorem dX12_beats_32 : decode cX12_beats 32 = .ok (.if_icmp .ge 45, 3) := by decide +kernel
theorem dX12_beats_35 : decode cX12_beats 35 = .ok (.iconst 0, 1) := by decide +kernel
theorem dX12_beats_36 : decode cX12_beats 36 = .ok (.istore 7, 2) := by decide +kernel
theorem dX12_beats_38 : decode cX12_beats 38 = .ok (.iload 7, 2) := by decide +kernel
theorem dX12_beats_40 : decode cX12_beats 40 = .ok (.iload 6, 2) := by decide +kernel
theorem dX12_beats_42 : decode cX12_beats 42 = .ok (.if_icmp .ge 29, 3) := by decide +kernel
theorem dX12_beats_45 : decode cX12_beats 45 = .ok (.lload 4, 2) := by decide +kernel
theorem dX12_beats_47 : decode cX12_beats 47 = .ok (.aload_n 0, 1) := by decide +kernel
theorem dX12_beats_48 : decode cX12_beats 48 = .ok (.getfield 47, 3) := by decide +kernel
theorem dX12_beats_51 : decode cX12_beats 51 = .ok (.iload 6, 2) := by decide +kernel
theorem dX12_beats_53 : decode cX12_beats 53 = .ok (.laload, 1) := by decide +kernel
theorem dX12_beats_54 : decode cX12_beats 54 = .ok (.aload_n 0, 1) := by decide +kernel
theorem dX12_beats_55 : decode cX12_beats 55 = .ok (.getfield 50, 3) := by decide +kernel
theorem dX12_beats_58 : decode cX12_beats 58 = .ok (.iload 7, 2) := by decide +kernel
theorem dX12_beats_60 : decode cX12_beats 60 = .ok (.laload, 1) := by decide +kernel
theorem dX12_beats_61 : decode cX12_beats 61 = .ok (.lmul, 1) := by decide +kernel
theorem dX12_beats_62 : decode cX12_beats 62 = .ok (.ladd, 1) := by decide +kernel
theorem dX12_beats_63 : decode cX12_beats 63 = .ok (.lstore 4, 2) := by decide +kernel
theorem dX12_beats_65 : decode cX12_beats 65 = .ok (.iinc 7 1, 3) := by decide +kernel
theorem dX12_beats_68 : decode cX12_beats 68 = .ok (.goto (-30), 3) := by decide +kernel
theorem dX12_beats_71 : decode cX12_beats 71 = .ok (.iinc 6 1, 3) := by decide +kernel
theorem dX12_beats_74 : decode cX12_beats 74 = .ok (.goto (-46), 3) := by decide +kernel
theorem dX12_beats_77 : decode cX12_beats 77 = .ok (.lload 4, 2) := by decide +kernel
theorem dX12_beats_79 : decode cX12_beats 79 = .ok (.lreturn, 1) := by decide +kernel
theorem dX12_decides_0 : decode cX12_decides 0 = .ok (.aload_n 0, 1) := by decide +kernel
theorem dX12_decides_1 : decode cX12_decides 1 = .ok (.iload_n 1, 1) := by decide +kernel
theorem dX12_decides_2 : decode cX12_decides 2 = .ok (.iload_n 2, 1) := by decide +kernel
theorem dX12_decides_3 : decode cX12_decides 3 = .ok (.iload_n 3, 1) := by decide +kernel
theorem dX12_decides_4 : decode cX12_decides 4 = .ok (.invokevirtual 460, 3) := by decide +kernel
theorem dX12_decides_7 : decode cX12_decides 7 = .ok (.aload_n 0, 1) := by decide +kernel
theorem dX12_decides_8 : decode cX12_decides 8 = .ok (.iload_n 2, 1) := by decide +kernel
theorem dX12_decides_9 : decode cX12_decides 9 = .ok (.iload_n 1, 1) := by decide +kernel
theorem dX12_decides_10 : decode cX12_decides 10 = .ok (.iload_n 3, 1) := by decide +kernel
theorem dX12_decides_11 : decode cX12_decides 11 = .ok (.invokevirtual 460, 3) := by decide +kernel
theorem dX12_decides_14 : decode cX12_decides 14 = .ok (.ladd, 1) := by decide +kernel
theorem dX12_decides_15 : decode cX12_decides 15 = .ok (.lreturn, 1) := by decide +kernel
theorem dX12_knock_0 : decode cX12_knock 0 = .ok (.aload_n 0, 1) := by decide +kernel
theorem dX12_knock_1 : decode cX12_knock 1 = .ok (.iconst 0, 1) := by decide +kernel
theorem dX12_knock_2 : decode cX12_knock 2 = .ok (.putfield 63, 3) := by decide +kernel
theorem dX12_knock_5 : decode cX12_knock 5 = .ok (.aload_n 0, 1) := by decide +kernel
theorem dX12_knock_6 : decode cX12_knock 6 = .ok (.iconst 0, 1) := by decide +kernel
theorem dX12_knock_7 : decode cX12_knock 7 = .ok (.putfield 66, 3) := by decide +kernel
theorem dX12_knock_10 : decode cX12_knock 10 = .ok (.aload_n 0, 1) := by decide +kernel
theorem dX12_knock_11 : decode cX12_knock 11 = .ok (.iload_n 1, 1) := by decide +kernel
theorem dX12_knock_12 : decode cX12_knock 12 = .ok (.invokevirtual 464, 3) := by decide +kernel
theorem dX12_knock_15 : decode cX12_knock 15 = .ok (.ifCond .ne 9, 3) := by decide +kernel
theorem dX12_knock_18 : decode cX12_knock 18 = .ok (.aload_n 0, 1) := by decide +kernel
theorem dX12_knock_19 : decode cX12_knock 19 = .ok (.iconst 1, 1) := by decide +kernel
theorem dX12_knock_20 : decode cX12_knock 20 = .ok (.invokevirtual 78, 3) := by decide +kernel
theorem dX12_knock_23 : decode cX12_knock 23 = .ok (.ireturn, 1) := by decide +kernel
theorem dX12_knock_24 : decode cX12_knock 24 = .ok (.aload_n 0, 1) := by decide +kernel
theorem dX12_knock_25 : decode cX12_knock 25 = .ok (.getfield 17, 3) := by decide +kernel
theorem dX12_knock_28 : decode cX12_knock 28 = .ok (.iload_n 1, 1) := by decide +kernel
theorem dX12_knock_29 : decode cX12_knock 29 = .ok (.iaload, 1) := by decide +kernel
theorem dX12_knock_30 : decode cX12_knock 30 = .ok (.ifCond .ge 9, 3) := by decide +kernel
theorem dX12_knock_33 : decode cX12_knock 33 = .ok (.aload_n 0, 1) := by decide +kernel
theorem dX12_knock_34 : decode cX12_knock 34 = .ok (.iconst 3, 1) := by decide +kernel
theorem dX12_knock_35 : decode cX12_knock 35 = .ok (.invokevirtual 78, 3) := by decide +kernel
theorem dX12_knock_38 : decode cX12_knock 38 = .ok (.ireturn, 1) := by decide +kernel
theorem dX12_knock_39 : decode cX12_knock 39 = .ok (.aload_n 0, 1) := by decide +kernel
theorem dX12_knock_40 : decode cX12_knock 40 = .ok (.getfield 17, 3) := by decide +kernel
theorem dX12_knock_43 : decode cX12_knock 43 = .ok (.iload_n 1, 1) := by decide +kernel
theorem dX12_knock_44 : decode cX12_knock 44 = .ok (.iaload, 1) := by decide +kernel
theorem dX12_knock_45 : decode cX12_knock 45 = .ok (.iconst 4, 1) := by decide +kernel
theorem dX12_knock_46 : decode cX12_knock 46 = .ok (.if_icmp .ge 9, 3) := by decide +kernel
theorem dX12_knock_49 : decode cX12_knock 49 = .ok (.aload_n 0, 1) := by decide +kernel
theorem dX12_knock_50 : decode cX12_knock 50 = .ok (.iconst 4, 1) := by decide +kernel
theorem dX12_knock_51 : decode cX12_knock 51 = .ok (.invokevirtual 78, 3) := by decide +kernel
theorem dX12_knock_54 : decode cX12_knock 54 = .ok (.ireturn, 1) := by decide +kernel
theorem dX12_knock_55 : decode cX12_knock 55 = .ok (.aload_n 0, 1) := by decide +kernel
theorem dX12_knock_56 : decode cX12_knock 56 = .ok (.iload_n 2, 1) := by decide +kernel
theorem dX12_knock_57 : decode cX12_knock 57 = .ok (.invokevirtual 322, 3) := by decide +kernel
theorem dX12_knock_60 : decode cX12_knock 60 = .ok (.ifCond .ne 9, 3) := by decide +kernel
theorem dX12_knock_63 : decode cX12_knock 63 = .ok (.aload_n 0, 1) := by decide +kernel
theorem dX12_knock_64 : decode cX12_knock 64 = .ok (.iconst 2, 1) := by decide +kernel
theorem dX12_knock_65 : decode cX12_knock 65 = .ok (.invokevirtual 78, 3) := by decide +kernel
theorem dX12_knock_68 : decode cX12_knock 68 = .ok (.ireturn, 1) := by decide +kernel
theorem dX12_knock_69 : decode cX12_knock 69 = .ok (.iconst 0, 1) := by decide +kernel
theorem dX12_knock_70 : decode cX12_knock 70 = .ok (.istore 4, 2) := by decide +kernel
theorem dX12_knock_72 : decode cX12_knock 72 = .ok (.iload 4, 2) := by decide +kernel
theorem dX12_knock_74 : decode cX12_knock 74 = .ok (.iconst 4, 1) := by decide +kernel
theorem dX12_knock_75 : decode cX12_knock 75 = .ok (.if_icmp .ge 39, 3) := by decide +kernel
theorem dX12_knock_78 : decode cX12_knock 78 = .ok (.aload_n 0, 1) := by decide +kernel
theorem dX12_knock_79 : decode cX12_knock 79 = .ok (.iload_n 1, 1) := by decide +kernel
theorem dX12_knock_80 : decode cX12_knock 80 = .ok (.iload 4, 2) := by decide +kernel
theorem dX12_knock_82 : decode cX12_knock 82 = .ok (.invokevirtual 467, 3) := by decide +kernel
theorem dX12_knock_85 : decode cX12_knock 85 = .ok (.lconst 0, 1) := by decide +kernel
theorem dX12_knock_86 : decode cX12_knock 86 = .ok (.aload_n 0, 1) := by decide +kernel
theorem dX12_knock_87 : decode cX12_knock 87 = .ok (.getfield 35, 3) := by decide +kernel
theorem dX12_knock_90 : decode cX12_knock 90 = .ok (.bipush 6, 2) := by decide +kernel
theorem dX12_knock_92 : decode cX12_knock 92 = .ok (.iaload, 1) := by decide +kernel
theorem dX12_knock_93 : decode cX12_knock 93 = .ok (.iconst 1, 1) := by decide +kernel
theorem dX12_knock_94 : decode cX12_knock 94 = .ok (.isub, 1) := by decide +kernel
theorem dX12_knock_95 : decode cX12_knock 95 = .ok (.i2l, 1) := by decide +kernel
theorem dX12_knock_96 : decode cX12_knock 96 = .ok (.invokestatic 98, 3) := by decide +kernel
theorem dX12_knock_99 : decode cX12_knock 99 = .ok (.ifCond .ne 9, 3) := by decide +kernel
theorem dX12_knock_102 : decode cX12_knock 102 = .ok (.aload_n 0, 1) := by decide +kernel
theorem dX12_knock_103 : decode cX12_knock 103 = .ok (.iconst 2, 1) := by decide +kernel
theorem dX12_knock_104 : decode cX12_knock 104 = .ok (.invokevirtual 78, 3) := by decide +kernel
theorem dX12_knock_107 : decode cX12_knock 107 = .ok (.ireturn, 1) := by decide +kernel
theorem dX12_knock_108 : decode cX12_knock 108 = .ok (.iinc 4 1, 3) := by decide +kernel
theorem dX12_knock_111 : decode cX12_knock 111 = .ok (.goto (-39), 3) := by decide +kernel
theorem dX12_knock_114 : decode cX12_knock 114 = .ok (.iload_n 3, 1) := by decide +kernel
theorem dX12_knock_115 : decode cX12_knock 115 = .ok (.i2l, 1) := by decide +kernel
theorem dX12_knock_116 : decode cX12_knock 116 = .ok (.lconst 0, 1) := by decide +kernel
theorem dX12_knock_117 : decode cX12_knock 117 = .ok (.ldc2_w 96, 3) := by decide +kernel
theorem dX12_knock_120 : decode cX12_knock 120 = .ok (.invokestatic 98, 3) := by decide +kernel
theorem dX12_knock_123 : decode cX12_knock 123 = .ok (.ifCond .ne 9, 3) := by decide +kernel
theorem dX12_knock_126 : decode cX12_knock 126 = .ok (.aload_n 0, 1) := by decide +kernel
theorem dX12_knock_127 : decode cX12_knock 127 = .ok (.iconst 5, 1) := by decide +kernel
theorem dX12_knock_128 : decode cX12_knock 128 = .ok (.invokevirtual 78, 3) := by decide +kernel
theorem dX12_knock_131 : decode cX12_knock 131 = .ok (.ireturn, 1) := by decide +kernel
theorem dX12_knock_132 : decode cX12_knock 132 = .ok (.aload_n 0, 1) := by decide +kernel
theorem dX12_knock_133 : decode cX12_knock 133 = .ok (.iload_n 1, 1) := by decide +kernel
theorem dX12_knock_134 : decode cX12_knock 134 = .ok (.iload_n 3, 1) := by decide +kernel
theorem dX12_knock_135 : decode cX12_knock 135 = .ok (.invokevirtual 467, 3) := by decide +kernel
theorem dX12_knock_138 : decode cX12_knock 138 = .ok (.l2i, 1) := by decide +kernel
theorem dX12_knock_139 : decode cX12_knock 139 = .ok (.istore 4, 2) := by decide +kernel
theorem dX12_knock_141 : decode cX12_knock 141 = .ok (.aload_n 0, 1) := by decide +kernel
theorem dX12_knock_142 : decode cX12_knock 142 = .ok (.iload_n 1, 1) := by decide +kernel
theorem dX12_knock_143 : decode cX12_knock 143 = .ok (.iload_n 3, 1) := by decide +kernel
theorem dX12_knock_144 : decode cX12_knock 144 = .ok (.iconst 1, 1) := by decide +kernel
theorem dX12_knock_145 : decode cX12_knock 145 = .ok (.ixor, 1) := by decide +kernel
theorem dX12_knock_146 : decode cX12_knock 146 = .ok (.invokevirtual 467, 3) := by decide +kernel
theorem dX12_knock_149 : decode cX12_knock 149 = .ok (.l2i, 1) := by decide +kernel
theorem dX12_knock_150 : decode cX12_knock 150 = .ok (.istore 5, 2) := by decide +kernel
theorem dX12_knock_152 : decode cX12_knock 152 = .ok (.aload_n 0, 1) := by decide +kernel
theorem dX12_knock_153 : decode cX12_knock 153 = .ok (.iload_n 1, 1) := by decide +kernel
theorem dX12_knock_154 : decode cX12_knock 154 = .ok (.iload_n 3, 1) := by decide +kernel
theorem dX12_knock_155 : decode cX12_knock 155 = .ok (.iconst 2, 1) := by decide +kernel
theorem dX12_knock_156 : decode cX12_knock 156 = .ok (.if_icmp .ge 7, 3) := by decide +kernel
theorem dX12_knock_159 : decode cX12_knock 159 = .ok (.iconst 2, 1) := by decide +kernel
theorem dX12_knock_160 : decode cX12_knock 160 = .ok (.goto 4, 3) := by decide +kernel
theorem dX12_knock_163 : decode cX12_knock 163 = .ok (.iconst 0, 1) := by decide +kernel
theorem dX12_knock_164 : decode cX12_knock 164 = .ok (.invokevirtual 467, 3) := by decide +kernel
theorem dX12_knock_167 : decode cX12_knock 167 = .ok (.l2i, 1) := by decide +kernel
theorem dX12_knock_168 : decode cX12_knock 168 = .ok (.istore 6, 2) := by decide +kernel
theorem dX12_knock_170 : decode cX12_knock 170 = .ok (.aload_n 0, 1) := by decide +kernel
theorem dX12_knock_171 : decode cX12_knock 171 = .ok (.iload_n 1, 1) := by decide +kernel
theorem dX12_knock_172 : decode cX12_knock 172 = .ok (.iload_n 3, 1) := by decide +kernel
theorem dX12_knock_173 : decode cX12_knock 173 = .ok (.iconst 2, 1) := by decide +kernel
theorem dX12_knock_174 : decode cX12_knock 174 = .ok (.if_icmp .ge 7, 3) := by decide +kernel
theorem dX12_knock_177 : decode cX12_knock 177 = .ok (.iconst 3, 1) := by decide +kernel
theorem dX12_knock_178 : decode cX12_knock 178 = .ok (.goto 4, 3) := by decide +kernel
theorem dX12_knock_181 : decode cX12_knock 181 = .ok (.iconst 1, 1) := by decide +kernel
theorem dX12_knock_182 : decode cX12_knock 182 = .ok (.invokevirtual 467, 3) := by decide +kernel
theorem dX12_knock_185 : decode cX12_knock 185 = .ok (.l2i, 1) := by decide +kernel
theorem dX12_knock_186 : decode cX12_knock 186 = .ok (.istore 7, 2) := by decide +kernel
theorem dX12_knock_188 : decode cX12_knock 188 = .ok (.aload_n 0, 1) := by decide +kernel
theorem dX12_knock_189 : decode cX12_knock 189 = .ok (.iload 4, 2) := by decide +kernel
theorem dX12_knock_191 : decode cX12_knock 191 = .ok (.iload 5, 2) := by decide +kernel
theorem dX12_knock_193 : decode cX12_knock 193 = .ok (.iload_n 2, 1) := by decide +kernel
theorem dX12_knock_194 : decode cX12_knock 194 = .ok (.invokevirtual 471, 3) := by decide +kernel
theorem dX12_knock_197 : decode cX12_knock 197 = .ok (.lstore 8, 2) := by decide +kernel
theorem dX12_knock_199 : decode cX12_knock 199 = .ok (.aload_n 0, 1) := by decide +kernel
theorem dX12_knock_200 : decode cX12_knock 200 = .ok (.iload 6, 2) := by decide +kernel
theorem dX12_knock_202 : decode cX12_knock 202 = .ok (.iload 7, 2) := by decide +kernel
theorem dX12_knock_204 : decode cX12_knock 204 = .ok (.iload_n 2, 1) := by decide +kernel
theorem dX12_knock_205 : decode cX12_knock 205 = .ok (.invokevirtual 471, 3) := by decide +kernel
theorem dX12_knock_208 : decode cX12_knock 208 = .ok (.lstore 10, 2) := by decide +kernel
theorem dX12_knock_210 : decode cX12_knock 210 = .ok (.aload_n 0, 1) := by decide +kernel
theorem dX12_knock_211 : decode cX12_knock 211 = .ok (.iload 4, 2) := by decide +kernel
theorem dX12_knock_213 : decode cX12_knock 213 = .ok (.iload 6, 2) := by decide +kernel
theorem dX12_knock_215 : decode cX12_knock 215 = .ok (.iload_n 2, 1) := by decide +kernel
theorem dX12_knock_216 : decode cX12_knock 216 = .ok (.invokevirtual 471, 3) := by decide +kernel
theorem dX12_knock_219 : decode cX12_knock 219 = .ok (.lstore 12, 2) := by decide +kernel
theorem dX12_knock_221 : decode cX12_knock 221 = .ok (.aload_n 0, 1) := by decide +kernel
theorem dX12_knock_222 : decode cX12_knock 222 = .ok (.iload 4, 2) := by decide +kernel
theorem dX12_knock_224 : decode cX12_knock 224 = .ok (.iload 7, 2) := by decide +kernel
theorem dX12_knock_226 : decode cX12_knock 226 = .ok (.iload_n 2, 1) := by decide +kernel
theorem dX12_knock_227 : decode cX12_knock 227 = .ok (.invokevirtual 471, 3) := by decide +kernel
theorem dX12_knock_230 : decode cX12_knock 230 = .ok (.lstore 14, 2) := by decide +kernel
theorem dX12_knock_232 : decode cX12_knock 232 = .ok (.lload 8, 2) := by decide +kernel
theorem dX12_knock_234 : decode cX12_knock 234 = .ok (.lconst 0, 1) := by decide +kernel
theorem dX12_knock_235 : decode cX12_knock 235 = .ok (.lcmp, 1) := by decide +kernel
theorem dX12_knock_236 : decode cX12_knock 236 = .ok (.ifCond .eq 24, 3) := by decide +kernel
theorem dX12_knock_239 : decode cX12_knock 239 = .ok (.lload 10, 2) := by decide +kernel
theorem dX12_knock_241 : decode cX12_knock 241 = .ok (.lconst 0, 1) := by decide +kernel
theorem dX12_knock_242 : decode cX12_knock 242 = .ok (.lcmp, 1) := by decide +kernel
theorem dX12_knock_243 : decode cX12_knock 243 = .ok (.ifCond .eq 17, 3) := by decide +kernel
theorem dX12_knock_246 : decode cX12_knock 246 = .ok (.lload 12, 2) := by decide +kernel
theorem dX12_knock_248 : decode cX12_knock 248 = .ok (.lconst 0, 1) := by decide +kernel
theorem dX12_knock_249 : decode cX12_knock 249 = .ok (.lcmp, 1) := by decide +kernel
theorem dX12_knock_250 : decode cX12_knock 250 = .ok (.ifCond .eq 10, 3) := by decide +kernel
theorem dX12_knock_253 : decode cX12_knock 253 = .ok (.lload 14, 2) := by decide +kernel
theorem dX12_knock_255 : decode cX12_knock 255 = .ok (.lconst 0, 1) := by decide +kernel
theorem dX12_knock_256 : decode cX12_knock 256 = .ok (.lcmp, 1) := by decide +kernel
theorem dX12_knock_257 : decode cX12_knock 257 = .ok (.ifCond .ne 10, 3) := by decide +kernel
theorem dX12_knock_260 : decode cX12_knock 260 = .ok (.aload_n 0, 1) := by decide +kernel
theorem dX12_knock_261 : decode cX12_knock 261 = .ok (.bipush 9, 2) := by decide +kernel
theorem dX12_knock_263 : decode cX12_knock 263 = .ok (.invokevirtual 78, 3) := by decide +kernel
theorem dX12_knock_266 : decode cX12_knock 266 = .ok (.ireturn, 1) := by decide +kernel
theorem dX12_knock_267 : decode cX12_knock 267 = .ok (.aload_n 0, 1) := by decide +kernel
theorem dX12_knock_268 : decode cX12_knock 268 = .ok (.iload 4, 2) := by decide +kernel
theorem dX12_knock_270 : decode cX12_knock 270 = .ok (.iload 5, 2) := by decide +kernel
theorem dX12_knock_272 : decode cX12_knock 272 = .ok (.iload_n 2, 1) := by decide +kernel
theorem dX12_knock_273 : decode cX12_knock 273 = .ok (.invokevirtual 460, 3) := by decide +kernel
theorem dX12_knock_276 : decode cX12_knock 276 = .ok (.aload_n 0, 1) := by decide +kernel
theorem dX12_knock_277 : decode cX12_knock 277 = .ok (.iload 6, 2) := by decide +kernel
theorem dX12_knock_279 : decode cX12_knock 279 = .ok (.iload 7, 2) := by decide +kernel
theorem dX12_knock_281 : decode cX12_knock 281 = .ok (.iload_n 2, 1) := by decide +kernel
theorem dX12_knock_282 : decode cX12_knock 282 = .ok (.invokevirtual 460, 3) := by decide +kernel
theorem dX12_knock_285 : decode cX12_knock 285 = .ok (.aload_n 0, 1) := by decide +kernel
theorem dX12_knock_286 : decode cX12_knock 286 = .ok (.iload 4, 2) := by decide +kernel
theorem dX12_knock_288 : decode cX12_knock 288 = .ok (.iload 6, 2) := by decide +kernel
theorem dX12_knock_290 : decode cX12_knock 290 = .ok (.iload_n 2, 1) := by decide +kernel
theorem dX12_knock_291 : decode cX12_knock 291 = .ok (.invokevirtual 460, 3) := by decide +kernel
theorem dX12_knock_294 : decode cX12_knock 294 = .ok (.lmul, 1) := by decide +kernel
theorem dX12_knock_295 : decode cX12_knock 295 = .ok (.lload 14, 2) := by decide +kernel
theorem dX12_knock_297 : decode cX12_knock 297 = .ok (.lmul, 1) := by decide +kernel
theorem dX12_knock_298 : decode cX12_knock 298 = .ok (.aload_n 0, 1) := by decide +kernel
theorem dX12_knock_299 : decode cX12_knock 299 = .ok (.iload 7, 2) := by decide +kernel
theorem dX12_knock_301 : decode cX12_knock 301 = .ok (.iload 6, 2) := by decide +kernel
theorem dX12_knock_303 : decode cX12_knock 303 = .ok (.iload_n 2, 1) := by decide +kernel
theorem dX12_knock_304 : decode cX12_knock 304 = .ok (.invokevirtual 460, 3) := by decide +kernel
theorem dX12_knock_307 : decode cX12_knock 307 = .ok (.aload_n 0, 1) := by decide +kernel
theorem dX12_knock_308 : decode cX12_knock 308 = .ok (.iload 4, 2) := by decide +kernel
theorem dX12_knock_310 : decode cX12_knock 310 = .ok (.iload 7, 2) := by decide +kernel
theorem dX12_knock_312 : decode cX12_knock 312 = .ok (.iload_n 2, 1) := by decide +kernel
theorem dX12_knock_313 : decode cX12_knock 313 = .ok (.invokevirtual 460, 3) := by decide +kernel
theorem dX12_knock_316 : decode cX12_knock 316 = .ok (.lmul, 1) := by decide +kernel
theorem dX12_knock_317 : decode cX12_knock 317 = .ok (.lload 12, 2) := by decide +kernel
theorem dX12_knock_319 : decode cX12_knock 319 = .ok (.lmul, 1) := by decide +kernel
theorem dX12_knock_320 : decode cX12_knock 320 = .ok (.ladd, 1) := by decide +kernel
theorem dX12_knock_321 : decode cX12_knock 321 = .ok (.lmul, 1) := by decide +kernel
theorem dX12_knock_322 : decode cX12_knock 322 = .ok (.lstore 16, 2) := by decide +kernel
theorem dX12_knock_324 : decode cX12_knock 324 = .ok (.aload_n 0, 1) := by decide +kernel
theorem dX12_knock_325 : decode cX12_knock 325 = .ok (.lload 16, 2) := by decide +kernel
theorem dX12_knock_327 : decode cX12_knock 327 = .ok (.lload 8, 2) := by decide +kernel
theorem dX12_knock_329 : decode cX12_knock 329 = .ok (.lload 10, 2) := by decide +kernel
theorem dX12_knock_331 : decode cX12_knock 331 = .ok (.lmul, 1) := by decide +kernel
theorem dX12_knock_332 : decode cX12_knock 332 = .ok (.lload 12, 2) := by decide +kernel
theorem dX12_knock_334 : decode cX12_knock 334 = .ok (.lmul, 1) := by decide +kernel
theorem dX12_knock_335 : decode cX12_knock 335 = .ok (.lload 14, 2) := by decide +kernel
theorem dX12_knock_337 : decode cX12_knock 337 = .ok (.lmul, 1) := by decide +kernel
theorem dX12_knock_338 : decode cX12_knock 338 = .ok (.invokevirtual 416, 3) := by decide +kernel
theorem dX12_knock_341 : decode cX12_knock 341 = .ok (.ireturn, 1) := by decide +kernel
theorem dX12_hole_0 : decode cX12_hole 0 = .ok (.aload_n 0, 1) := by decide +kernel
theorem dX12_hole_1 : decode cX12_hole 1 = .ok (.iconst 0, 1) := by decide +kernel
theorem dX12_hole_2 : decode cX12_hole 2 = .ok (.putfield 63, 3) := by decide +kernel
theorem dX12_hole_5 : decode cX12_hole 5 = .ok (.aload_n 0, 1) := by decide +kernel
theorem dX12_hole_6 : decode cX12_hole 6 = .ok (.iconst 0, 1) := by decide +kernel
theorem dX12_hole_7 : decode cX12_hole 7 = .ok (.putfield 66, 3) := by decide +kernel
theorem dX12_hole_10 : decode cX12_hole 10 = .ok (.iload_n 2, 1) := by decide +kernel
theorem dX12_hole_11 : decode cX12_hole 11 = .ok (.i2l, 1) := by decide +kernel
theorem dX12_hole_12 : decode cX12_hole 12 = .ok (.lconst 0, 1) := by decide +kernel
theorem dX12_hole_13 : decode cX12_hole 13 = .ok (.ldc2_w 96, 3) := by decide +kernel
theorem dX12_hole_16 : decode cX12_hole 16 = .ok (.invokestatic 98, 3) := by decide +kernel
theorem dX12_hole_19 : decode cX12_hole 19 = .ok (.ifCond .ne 9, 3) := by decide +kernel
theorem dX12_hole_22 : decode cX12_hole 22 = .ok (.aload_n 0, 1) := by decide +kernel
theorem dX12_hole_23 : decode cX12_hole 23 = .ok (.iconst 5, 1) := by decide +kernel
theorem dX12_hole_24 : decode cX12_hole 24 = .ok (.invokevirtual 319, 3) := by decide +kernel
theorem dX12_hole_27 : decode cX12_hole 27 = .ok (.ireturn, 1) := by decide +kernel
theorem dX12_hole_28 : decode cX12_hole 28 = .ok (.iload_n 1, 1) := by decide +kernel
theorem dX12_hole_29 : decode cX12_hole 29 = .ok (.i2l, 1) := by decide +kernel
theorem dX12_hole_30 : decode cX12_hole 30 = .ok (.lconst 0, 1) := by decide +kernel
theorem dX12_hole_31 : decode cX12_hole 31 = .ok (.aload_n 0, 1) := by decide +kernel
theorem dX12_hole_32 : decode cX12_hole 32 = .ok (.getfield 35, 3) := by decide +kernel
theorem dX12_hole_35 : decode cX12_hole 35 = .ok (.bipush 8, 2) := by decide +kernel
theorem dX12_hole_37 : decode cX12_hole 37 = .ok (.iaload, 1) := by decide +kernel
theorem dX12_hole_38 : decode cX12_hole 38 = .ok (.iconst 1, 1) := by decide +kernel
theorem dX12_hole_39 : decode cX12_hole 39 = .ok (.isub, 1) := by decide +kernel
theorem dX12_hole_40 : decode cX12_hole 40 = .ok (.i2l, 1) := by decide +kernel
theorem dX12_hole_41 : decode cX12_hole 41 = .ok (.invokestatic 98, 3) := by decide +kernel
theorem dX12_hole_44 : decode cX12_hole 44 = .ok (.ifCond .eq 17, 3) := by decide +kernel
theorem dX12_hole_47 : decode cX12_hole 47 = .ok (.aload_n 0, 1) := by decide +kernel
theorem dX12_hole_48 : decode cX12_hole 48 = .ok (.getfield 35, 3) := by decide +kernel
theorem dX12_hole_51 : decode cX12_hole 51 = .ok (.iload_n 1, 1) := by decide +kernel
theorem dX12_hole_52 : decode cX12_hole 52 = .ok (.invokestatic 474, 3) := by decide +kernel
theorem dX12_hole_55 : decode cX12_hole 55 = .ok (.iload_n 2, 1) := by decide +kernel
theorem dX12_hole_56 : decode cX12_hole 56 = .ok (.iadd, 1) := by decide +kernel
theorem dX12_hole_57 : decode cX12_hole 57 = .ok (.iaload, 1) := by decide +kernel
theorem dX12_hole_58 : decode cX12_hole 58 = .ok (.goto 9, 3) := by decide +kernel
theorem dX12_hole_61 : decode cX12_hole 61 = .ok (.aload_n 0, 1) := by decide +kernel
theorem dX12_hole_62 : decode cX12_hole 62 = .ok (.bipush 8, 2) := by decide +kernel
theorem dX12_hole_64 : decode cX12_hole 64 = .ok (.invokevirtual 319, 3) := by decide +kernel
theorem dX12_hole_67 : decode cX12_hole 67 = .ok (.ireturn, 1) := by decide +kernel
theorem dX12_sumHoles_0 : decode cX12_sumHoles 0 = .ok (.aload_n 0, 1) := by decide +kernel
theorem dX12_sumHoles_1 : decode cX12_sumHoles 1 = .ok (.lconst 0, 1) := by decide +kernel
theorem dX12_sumHoles_2 : decode cX12_sumHoles 2 = .ok (.putfield 477, 3) := by decide +kernel
theorem dX12_sumHoles_5 : decode cX12_sumHoles 5 = .ok (.aload_n 0, 1) := by decide +kernel
theorem dX12_sumHoles_6 : decode cX12_sumHoles 6 = .ok (.lconst 0, 1) := by decide +kernel
theorem dX12_sumHoles_7 : decode cX12_sumHoles 7 = .ok (.putfield 480, 3) := by decide +kernel
theorem dX12_sumHoles_10 : decode cX12_sumHoles 10 = .ok (.aload_n 0, 1) := by decide +kernel
theorem dX12_sumHoles_11 : decode cX12_sumHoles 11 = .ok (.lconst 0, 1) := by decide +kernel
theorem dX12_sumHoles_12 : decode cX12_sumHoles 12 = .ok (.putfield 483, 3) := by decide +kernel
theorem dX12_sumHoles_15 : decode cX12_sumHoles 15 = .ok (.aload_n 0, 1) := by decide +kernel
theorem dX12_sumHoles_16 : decode cX12_sumHoles 16 = .ok (.lconst 0, 1) := by decide +kernel
theorem dX12_sumHoles_17 : decode cX12_sumHoles 17 = .ok (.putfield 486, 3) := by decide +kernel
theorem dX12_sumHoles_20 : decode cX12_sumHoles 20 = .ok (.iconst 0, 1) := by decide +kernel
theorem dX12_sumHoles_21 : decode cX12_sumHoles 21 = .ok (.istore_n 3, 1) := by decide +kernel
theorem dX12_sumHoles_22 : decode cX12_sumHoles 22 = .ok (.iload_n 3, 1) := by decide +kernel
theorem dX12_sumHoles_23 : decode cX12_sumHoles 23 = .ok (.aload_n 0, 1) := by decide +kernel
theorem dX12_sumHoles_24 : decode cX12_sumHoles 24 = .ok (.getfield 35, 3) := by decide +kernel
theorem dX12_sumHoles_27 : decode cX12_sumHoles 27 = .ok (.bipush 8, 2) := by decide +kernel
theorem dX12_sumHoles_29 : decode cX12_sumHoles 29 = .ok (.iaload, 1) := by decide +kernel
theorem dX12_sumHoles_30 : decode cX12_sumHoles 30 = .ok (.if_icmp .ge 101, 3) := by decide +kernel
theorem dX12_sumHoles_33 : decode cX12_sumHoles 33 = .ok (.aload_n 0, 1) := by decide +kernel
theorem dX12_sumHoles_34 : decode cX12_sumHoles 34 = .ok (.iload_n 3, 1) := by decide +kernel
theorem dX12_sumHoles_35 : decode cX12_sumHoles 35 = .ok (.iload_n 1, 1) := by decide +kernel
theorem dX12_sumHoles_36 : decode cX12_sumHoles 36 = .ok (.iload_n 2, 1) := by decide +kernel
theorem dX12_sumHoles_37 : decode cX12_sumHoles 37 = .ok (.invokevirtual 328, 3) := by decide +kernel
theorem dX12_sumHoles_40 : decode cX12_sumHoles 40 = .ok (.ifCond .ne 6, 3) := by decide +kernel
theorem dX12_sumHoles_43 : decode cX12_sumHoles 43 = .ok (.goto 82, 3) := by decide +kernel
theorem dX12_sumHoles_46 : decode cX12_sumHoles 46 = .ok (.aload_n 0, 1) := by decide +kernel
theorem dX12_sumHoles_47 : decode cX12_sumHoles 47 = .ok (.getfield 35, 3) := by decide +kernel
theorem dX12_sumHoles_50 : decode cX12_sumHoles 50 = .ok (.iload_n 3, 1) := by decide +kernel
theorem dX12_sumHoles_51 : decode cX12_sumHoles 51 = .ok (.invokestatic 474, 3) := by decide +kernel
theorem dX12_sumHoles_54 : decode cX12_sumHoles 54 = .ok (.iaload, 1) := by decide +kernel
theorem dX12_sumHoles_55 : decode cX12_sumHoles 55 = .ok (.istore 4, 2) := by decide +kernel
theorem dX12_sumHoles_57 : decode cX12_sumHoles 57 = .ok (.aload_n 0, 1) := by decide +kernel
theorem dX12_sumHoles_58 : decode cX12_sumHoles 58 = .ok (.getfield 35, 3) := by decide +kernel
theorem dX12_sumHoles_61 : decode cX12_sumHoles 61 = .ok (.iload_n 3, 1) := by decide +kernel
theorem dX12_sumHoles_62 : decode cX12_sumHoles 62 = .ok (.invokestatic 474, 3) := by decide +kernel
theorem dX12_sumHoles_65 : decode cX12_sumHoles 65 = .ok (.iconst 1, 1) := by decide +kernel
theorem dX12_sumHoles_66 : decode cX12_sumHoles 66 = .ok (.iadd, 1) := by decide +kernel
theorem dX12_sumHoles_67 : decode cX12_sumHoles 67 = .ok (.iaload, 1) := by decide +kernel
theorem dX12_sumHoles_68 : decode cX12_sumHoles 68 = .ok (.istore 5, 2) := by decide +kernel
theorem dX12_sumHoles_70 : decode cX12_sumHoles 70 = .ok (.aload_n 0, 1) := by decide +kernel
theorem dX12_sumHoles_71 : decode cX12_sumHoles 71 = .ok (.dup, 1) := by decide +kernel
theorem dX12_sumHoles_72 : decode cX12_sumHoles 72 = .ok (.getfield 477, 3) := by decide +kernel
theorem dX12_sumHoles_75 : decode cX12_sumHoles 75 = .ok (.lconst 1, 1) := by decide +kernel
theorem dX12_sumHoles_76 : decode cX12_sumHoles 76 = .ok (.ladd, 1) := by decide +kernel
theorem dX12_sumHoles_77 : decode cX12_sumHoles 77 = .ok (.putfield 477, 3) := by decide +kernel
theorem dX12_sumHoles_80 : decode cX12_sumHoles 80 = .ok (.aload_n 0, 1) := by decide +kernel
theorem dX12_sumHoles_81 : decode cX12_sumHoles 81 = .ok (.dup, 1) := by decide +kernel
theorem dX12_sumHoles_82 : decode cX12_sumHoles 82 = .ok (.getfield 480, 3) := by decide +kernel
theorem dX12_sumHoles_85 : decode cX12_sumHoles 85 = .ok (.iload 4, 2) := by decide +kernel
theorem dX12_sumHoles_87 : decode cX12_sumHoles 87 = .ok (.i2l, 1) := by decide +kernel
theorem dX12_sumHoles_88 : decode cX12_sumHoles 88 = .ok (.ladd, 1) := by decide +kernel
theorem dX12_sumHoles_89 : decode cX12_sumHoles 89 = .ok (.putfield 480, 3) := by decide +kernel
theorem dX12_sumHoles_92 : decode cX12_sumHoles 92 = .ok (.aload_n 0, 1) := by decide +kernel
theorem dX12_sumHoles_93 : decode cX12_sumHoles 93 = .ok (.dup, 1) := by decide +kernel
theorem dX12_sumHoles_94 : decode cX12_sumHoles 94 = .ok (.getfield 483, 3) := by decide +kernel
theorem dX12_sumHoles_97 : decode cX12_sumHoles 97 = .ok (.iload 5, 2) := by decide +kernel
theorem dX12_sumHoles_99 : decode cX12_sumHoles 99 = .ok (.i2l, 1) := by decide +kernel
theorem dX12_sumHoles_100 : decode cX12_sumHoles 100 = .ok (.ladd, 1) := by decide +kernel
theorem dX12_sumHoles_101 : decode cX12_sumHoles 101 = .ok (.putfield 483, 3) := by decide +kernel
theorem dX12_sumHoles_104 : decode cX12_sumHoles 104 = .ok (.aload_n 0, 1) := by decide +kernel
theorem dX12_sumHoles_105 : decode cX12_sumHoles 105 = .ok (.dup, 1) := by decide +kernel
theorem dX12_sumHoles_106 : decode cX12_sumHoles 106 = .ok (.getfield 486, 3) := by decide +kernel
theorem dX12_sumHoles_109 : decode cX12_sumHoles 109 = .ok (.iload 4, 2) := by decide +kernel
theorem dX12_sumHoles_111 : decode cX12_sumHoles 111 = .ok (.iload 4, 2) := by decide +kernel
theorem dX12_sumHoles_113 : decode cX12_sumHoles 113 = .ok (.imul, 1) := by decide +kernel
theorem dX12_sumHoles_114 : decode cX12_sumHoles 114 = .ok (.iload 5, 2) := by decide +kernel
theorem dX12_sumHoles_116 : decode cX12_sumHoles 116 = .ok (.iload 5, 2) := by decide +kernel
theorem dX12_sumHoles_118 : decode cX12_sumHoles 118 = .ok (.imul, 1) := by decide +kernel
theorem dX12_sumHoles_119 : decode cX12_sumHoles 119 = .ok (.iadd, 1) := by decide +kernel
theorem dX12_sumHoles_120 : decode cX12_sumHoles 120 = .ok (.i2l, 1) := by decide +kernel
theorem dX12_sumHoles_121 : decode cX12_sumHoles 121 = .ok (.ladd, 1) := by decide +kernel
theorem dX12_sumHoles_122 : decode cX12_sumHoles 122 = .ok (.putfield 486, 3) := by decide +kernel
theorem dX12_sumHoles_125 : decode cX12_sumHoles 125 = .ok (.iinc 3 1, 3) := by decide +kernel
theorem dX12_sumHoles_128 : decode cX12_sumHoles 128 = .ok (.goto (-106), 3) := by decide +kernel
theorem dX12_sumHoles_131 : decode cX12_sumHoles 131 = .ok (.return_, 1) := by decide +kernel
theorem dX12_spread_0 : decode cX12_spread 0 = .ok (.aload_n 0, 1) := by decide +kernel
theorem dX12_spread_1 : decode cX12_spread 1 = .ok (.getfield 477, 3) := by decide +kernel
theorem dX12_spread_4 : decode cX12_spread 4 = .ok (.aload_n 0, 1) := by decide +kernel
theorem dX12_spread_5 : decode cX12_spread 5 = .ok (.getfield 486, 3) := by decide +kernel
theorem dX12_spread_8 : decode cX12_spread 8 = .ok (.lmul, 1) := by decide +kernel
theorem dX12_spread_9 : decode cX12_spread 9 = .ok (.aload_n 0, 1) := by decide +kernel
theorem dX12_spread_10 : decode cX12_spread 10 = .ok (.getfield 480, 3) := by decide +kernel
theorem dX12_spread_13 : decode cX12_spread 13 = .ok (.aload_n 0, 1) := by decide +kernel
theorem dX12_spread_14 : decode cX12_spread 14 = .ok (.getfield 480, 3) := by decide +kernel
theorem dX12_spread_17 : decode cX12_spread 17 = .ok (.lmul, 1) := by decide +kernel
theorem dX12_spread_18 : decode cX12_spread 18 = .ok (.lsub, 1) := by decide +kernel
theorem dX12_spread_19 : decode cX12_spread 19 = .ok (.aload_n 0, 1) := by decide +kernel
theorem dX12_spread_20 : decode cX12_spread 20 = .ok (.getfield 483, 3) := by decide +kernel
theorem dX12_spread_23 : decode cX12_spread 23 = .ok (.aload_n 0, 1) := by decide +kernel
theorem dX12_spread_24 : decode cX12_spread 24 = .ok (.getfield 483, 3) := by decide +kernel
theorem dX12_spread_27 : decode cX12_spread 27 = .ok (.lmul, 1) := by decide +kernel
theorem dX12_spread_28 : decode cX12_spread 28 = .ok (.lsub, 1) := by decide +kernel
theorem dX12_spread_29 : decode cX12_spread 29 = .ok (.lreturn, 1) := by decide +kernel
theorem dX12_lean_0 : decode cX12_lean 0 = .ok (.aload_n 0, 1) := by decide +kernel
theorem dX12_lean_1 : decode cX12_lean 1 = .ok (.iconst 0, 1) := by decide +kernel
theorem dX12_lean_2 : decode cX12_lean 2 = .ok (.putfield 63, 3) := by decide +kernel
theorem dX12_lean_5 : decode cX12_lean 5 = .ok (.aload_n 0, 1) := by decide +kernel
theorem dX12_lean_6 : decode cX12_lean 6 = .ok (.iconst 0, 1) := by decide +kernel
theorem dX12_lean_7 : decode cX12_lean 7 = .ok (.putfield 66, 3) := by decide +kernel
theorem dX12_lean_10 : decode cX12_lean 10 = .ok (.iload_n 1, 1) := by decide +kernel
theorem dX12_lean_11 : decode cX12_lean 11 = .ok (.iconst (-1), 1) := by decide +kernel
theorem dX12_lean_12 : decode cX12_lean 12 = .ok (.if_icmp .eq 11, 3) := by decide +kernel
theorem dX12_lean_15 : decode cX12_lean 15 = .ok (.aload_n 0, 1) := by decide +kernel
theorem dX12_lean_16 : decode cX12_lean 16 = .ok (.iload_n 1, 1) := by decide +kernel
theorem dX12_lean_17 : decode cX12_lean 17 = .ok (.invokevirtual 332, 3) := by decide +kernel
theorem dX12_lean_20 : decode cX12_lean 20 = .ok (.ifCond .eq 16, 3) := by decide +kernel
theorem dX12_lean_23 : decode cX12_lean 23 = .ok (.iload_n 2, 1) := by decide +kernel
theorem dX12_lean_24 : decode cX12_lean 24 = .ok (.iconst (-1), 1) := by decide +kernel
theorem dX12_lean_25 : decode cX12_lean 25 = .ok (.if_icmp .eq 17, 3) := by decide +kernel
theorem dX12_lean_28 : decode cX12_lean 28 = .ok (.aload_n 0, 1) := by decide +kernel
theorem dX12_lean_29 : decode cX12_lean 29 = .ok (.iload_n 2, 1) := by decide +kernel
theorem dX12_lean_30 : decode cX12_lean 30 = .ok (.invokevirtual 322, 3) := by decide +kernel
theorem dX12_lean_33 : decode cX12_lean 33 = .ok (.ifCond .ne 9, 3) := by decide +kernel
theorem dX12_lean_36 : decode cX12_lean 36 = .ok (.aload_n 0, 1) := by decide +kernel
theorem dX12_lean_37 : decode cX12_lean 37 = .ok (.iconst 2, 1) := by decide +kernel
theorem dX12_lean_38 : decode cX12_lean 38 = .ok (.invokevirtual 78, 3) := by decide +kernel
theorem dX12_lean_41 : decode cX12_lean 41 = .ok (.ireturn, 1) := by decide +kernel
theorem dX12_lean_42 : decode cX12_lean 42 = .ok (.iload_n 3, 1) := by decide +kernel
theorem dX12_lean_43 : decode cX12_lean 43 = .ok (.i2l, 1) := by decide +kernel
theorem dX12_lean_44 : decode cX12_lean 44 = .ok (.lconst 0, 1) := by decide +kernel
theorem dX12_lean_45 : decode cX12_lean 45 = .ok (.ldc2_w 444, 3) := by decide +kernel
theorem dX12_lean_48 : decode cX12_lean 48 = .ok (.invokestatic 98, 3) := by decide +kernel
theorem dX12_lean_51 : decode cX12_lean 51 = .ok (.ifCond .ne 9, 3) := by decide +kernel
theorem dX12_lean_54 : decode cX12_lean 54 = .ok (.aload_n 0, 1) := by decide +kernel
theorem dX12_lean_55 : decode cX12_lean 55 = .ok (.iconst 5, 1) := by decide +kernel
theorem dX12_lean_56 : decode cX12_lean 56 = .ok (.invokevirtual 78, 3) := by decide +kernel
theorem dX12_lean_59 : decode cX12_lean 59 = .ok (.ireturn, 1) := by decide +kernel
theorem dX12_lean_60 : decode cX12_lean 60 = .ok (.aload_n 0, 1) := by decide +kernel
theorem dX12_lean_61 : decode cX12_lean 61 = .ok (.iload_n 1, 1) := by decide +kernel
theorem dX12_lean_62 : decode cX12_lean 62 = .ok (.iload_n 2, 1) := by decide +kernel
theorem dX12_lean_63 : decode cX12_lean 63 = .ok (.invokevirtual 489, 3) := by decide +kernel
theorem dX12_lean_66 : decode cX12_lean 66 = .ok (.aload_n 0, 1) := by decide +kernel
theorem dX12_lean_67 : decode cX12_lean 67 = .ok (.getfield 477, 3) := by decide +kernel
theorem dX12_lean_70 : decode cX12_lean 70 = .ok (.lconst 0, 1) := by decide +kernel
theorem dX12_lean_71 : decode cX12_lean 71 = .ok (.lcmp, 1) := by decide +kernel
theorem dX12_lean_72 : decode cX12_lean 72 = .ok (.ifCond .ne 10, 3) := by decide +kernel
theorem dX12_lean_75 : decode cX12_lean 75 = .ok (.aload_n 0, 1) := by decide +kernel
theorem dX12_lean_76 : decode cX12_lean 76 = .ok (.bipush 8, 2) := by decide +kernel
theorem dX12_lean_78 : decode cX12_lean 78 = .ok (.invokevirtual 78, 3) := by decide +kernel
theorem dX12_lean_81 : decode cX12_lean 81 = .ok (.ireturn, 1) := by decide +kernel
theorem dX12_lean_82 : decode cX12_lean 82 = .ok (.iload_n 3, 1) := by decide +kernel
theorem dX12_lean_83 : decode cX12_lean 83 = .ok (.iconst 2, 1) := by decide +kernel
theorem dX12_lean_84 : decode cX12_lean 84 = .ok (.if_icmp .ne 21, 3) := by decide +kernel
theorem dX12_lean_87 : decode cX12_lean 87 = .ok (.aload_n 0, 1) := by decide +kernel
theorem dX12_lean_88 : decode cX12_lean 88 = .ok (.aload_n 0, 1) := by decide +kernel
theorem dX12_lean_89 : decode cX12_lean 89 = .ok (.invokevirtual 492, 3) := by decide +kernel
theorem dX12_lean_92 : decode cX12_lean 92 = .ok (.aload_n 0, 1) := by decide +kernel
theorem dX12_lean_93 : decode cX12_lean 93 = .ok (.getfield 477, 3) := by decide +kernel
theorem dX12_lean_96 : decode cX12_lean 96 = .ok (.aload_n 0, 1) := by decide +kernel
theorem dX12_lean_97 : decode cX12_lean 97 = .ok (.getfield 477, 3) := by decide +kernel
theorem dX12_lean_100 : decode cX12_lean 100 = .ok (.lmul, 1) := by decide +kernel
theorem dX12_lean_101 : decode cX12_lean 101 = .ok (.invokevirtual 416, 3) := by decide +kernel
theorem dX12_lean_104 : decode cX12_lean 104 = .ok (.ireturn, 1) := by decide +kernel
theorem dX12_lean_105 : decode cX12_lean 105 = .ok (.aload_n 0, 1) := by decide +kernel
theorem dX12_lean_106 : decode cX12_lean 106 = .ok (.iload_n 3, 1) := by decide +kernel
theorem dX12_lean_107 : decode cX12_lean 107 = .ok (.ifCond .ne 10, 3) := by decide +kernel
theorem dX12_lean_110 : decode cX12_lean 110 = .ok (.aload_n 0, 1) := by decide +kernel
theorem dX12_lean_111 : decode cX12_lean 111 = .ok (.getfield 480, 3) := by decide +kernel
theorem dX12_lean_114 : decode cX12_lean 114 = .ok (.goto 7, 3) := by decide +kernel
theorem dX12_lean_117 : decode cX12_lean 117 = .ok (.aload_n 0, 1) := by decide +kernel
theorem dX12_lean_118 : decode cX12_lean 118 = .ok (.getfield 483, 3) := by decide +kernel
theorem dX12_lean_121 : decode cX12_lean 121 = .ok (.aload_n 0, 1) := by decide +kernel
theorem dX12_lean_122 : decode cX12_lean 122 = .ok (.getfield 477, 3) := by decide +kernel
theorem dX12_lean_125 : decode cX12_lean 125 = .ok (.invokevirtual 416, 3) := by decide +kernel
theorem dX12_lean_128 : decode cX12_lean 128 = .ok (.ireturn, 1) := by decide +kernel
theorem dX12_whose_0 : decode cX12_whose 0 = .ok (.aload_n 0, 1) := by decide +kernel
theorem dX12_whose_1 : decode cX12_whose 1 = .ok (.iconst 0, 1) := by decide +kernel
theorem dX12_whose_2 : decode cX12_whose 2 = .ok (.putfield 63, 3) := by decide +kernel
theorem dX12_whose_5 : decode cX12_whose 5 = .ok (.aload_n 0, 1) := by decide +kernel
theorem dX12_whose_6 : decode cX12_whose 6 = .ok (.iconst 0, 1) := by decide +kernel
theorem dX12_whose_7 : decode cX12_whose 7 = .ok (.putfield 66, 3) := by decide +kernel
theorem dX12_whose_10 : decode cX12_whose 10 = .ok (.iload_n 1, 1) := by decide +kernel
theorem dX12_whose_11 : decode cX12_whose 11 = .ok (.i2l, 1) := by decide +kernel
theorem dX12_whose_12 : decode cX12_whose 12 = .ok (.ldc2_w 496, 3) := by decide +kernel
theorem dX12_whose_15 : decode cX12_whose 15 = .ok (.ldc2_w 438, 3) := by decide +kernel
theorem dX12_whose_18 : decode cX12_whose 18 = .ok (.invokestatic 98, 3) := by decide +kernel
theorem dX12_whose_21 : decode cX12_whose 21 = .ok (.ifCond .eq 17, 3) := by decide +kernel
theorem dX12_whose_24 : decode cX12_whose 24 = .ok (.iload_n 2, 1) := by decide +kernel
theorem dX12_whose_25 : decode cX12_whose 25 = .ok (.i2l, 1) := by decide +kernel
theorem dX12_whose_26 : decode cX12_whose 26 = .ok (.ldc2_w 496, 3) := by decide +kernel
theorem dX12_whose_29 : decode cX12_whose 29 = .ok (.ldc2_w 438, 3) := by decide +kernel
theorem dX12_whose_32 : decode cX12_whose 32 = .ok (.invokestatic 98, 3) := by decide +kernel
theorem dX12_whose_35 : decode cX12_whose 35 = .ok (.ifCond .ne 9, 3) := by decide +kernel
theorem dX12_whose_38 : decode cX12_whose 38 = .ok (.aload_n 0, 1) := by decide +kernel
theorem dX12_whose_39 : decode cX12_whose 39 = .ok (.iconst 5, 1) := by decide +kernel
theorem dX12_whose_40 : decode cX12_whose 40 = .ok (.invokevirtual 319, 3) := by decide +kernel
theorem dX12_whose_43 : decode cX12_whose 43 = .ok (.ireturn, 1) := by decide +kernel
theorem dX12_whose_44 : decode cX12_whose 44 = .ok (.iconst (-1), 1) := by decide +kernel
theorem dX12_whose_45 : decode cX12_whose 45 = .ok (.istore_n 3, 1) := by decide +kernel
theorem dX12_whose_46 : decode cX12_whose 46 = .ok (.lconst 0, 1) := by decide +kernel
theorem dX12_whose_47 : decode cX12_whose 47 = .ok (.lstore 4, 2) := by decide +kernel
theorem dX12_whose_49 : decode cX12_whose 49 = .ok (.lconst 1, 1) := by decide +kernel
theorem dX12_whose_50 : decode cX12_whose 50 = .ok (.lstore 6, 2) := by decide +kernel
theorem dX12_whose_52 : decode cX12_whose 52 = .ok (.iconst 0, 1) := by decide +kernel
theorem dX12_whose_53 : decode cX12_whose 53 = .ok (.istore 8, 2) := by decide +kernel
theorem dX12_whose_55 : decode cX12_whose 55 = .ok (.iload 8, 2) := by decide +kernel
theorem dX12_whose_57 : decode cX12_whose 57 = .ok (.aload_n 0, 1) := by decide +kernel
theorem dX12_whose_58 : decode cX12_whose 58 = .ok (.getfield 35, 3) := by decide +kernel
theorem dX12_whose_61 : decode cX12_whose 61 = .ok (.bipush 6, 2) := by decide +kernel
theorem dX12_whose_63 : decode cX12_whose 63 = .ok (.iaload, 1) := by decide +kernel
theorem dX12_whose_64 : decode cX12_whose 64 = .ok (.if_icmp .ge 115, 3) := by decide +kernel
theorem dX12_whose_67 : decode cX12_whose 67 = .ok (.aload_n 0, 1) := by decide +kernel
theorem dX12_whose_68 : decode cX12_whose 68 = .ok (.iload 8, 2) := by decide +kernel
theorem dX12_whose_70 : decode cX12_whose 70 = .ok (.iconst (-1), 1) := by decide +kernel
theorem dX12_whose_71 : decode cX12_whose 71 = .ok (.invokevirtual 489, 3) := by decide +kernel
theorem dX12_whose_74 : decode cX12_whose 74 = .ok (.aload_n 0, 1) := by decide +kernel
theorem dX12_whose_75 : decode cX12_whose 75 = .ok (.getfield 477, 3) := by decide +kernel
theorem dX12_whose_78 : decode cX12_whose 78 = .ok (.lconst 0, 1) := by decide +kernel
theorem dX12_whose_79 : decode cX12_whose 79 = .ok (.lcmp, 1) := by decide +kernel
theorem dX12_whose_80 : decode cX12_whose 80 = .ok (.ifCond .ne 6, 3) := by decide +kernel
theorem dX12_whose_83 : decode cX12_whose 83 = .ok (.goto 90, 3) := by decide +kernel
theorem dX12_whose_86 : decode cX12_whose 86 = .ok (.aload_n 0, 1) := by decide +kernel
theorem dX12_whose_87 : decode cX12_whose 87 = .ok (.getfield 477, 3) := by decide +kernel
theorem dX12_whose_90 : decode cX12_whose 90 = .ok (.iload_n 1, 1) := by decide +kernel
theorem dX12_whose_91 : decode cX12_whose 91 = .ok (.i2l, 1) := by decide +kernel
theorem dX12_whose_92 : decode cX12_whose 92 = .ok (.lmul, 1) := by decide +kernel
theorem dX12_whose_93 : decode cX12_whose 93 = .ok (.aload_n 0, 1) := by decide +kernel
theorem dX12_whose_94 : decode cX12_whose 94 = .ok (.getfield 480, 3) := by decide +kernel
theorem dX12_whose_97 : decode cX12_whose 97 = .ok (.lsub, 1) := by decide +kernel
theorem dX12_whose_98 : decode cX12_whose 98 = .ok (.lstore 9, 2) := by decide +kernel
theorem dX12_whose_100 : decode cX12_whose 100 = .ok (.aload_n 0, 1) := by decide +kernel
theorem dX12_whose_101 : decode cX12_whose 101 = .ok (.getfield 477, 3) := by decide +kernel
theorem dX12_whose_104 : decode cX12_whose 104 = .ok (.iload_n 2, 1) := by decide +kernel
theorem dX12_whose_105 : decode cX12_whose 105 = .ok (.i2l, 1) := by decide +kernel
theorem dX12_whose_106 : decode cX12_whose 106 = .ok (.lmul, 1) := by decide +kernel
theorem dX12_whose_107 : decode cX12_whose 107 = .ok (.aload_n 0, 1) := by decide +kernel
theorem dX12_whose_108 : decode cX12_whose 108 = .ok (.getfield 483, 3) := by decide +kernel
theorem dX12_whose_111 : decode cX12_whose 111 = .ok (.lsub, 1) := by decide +kernel
theorem dX12_whose_112 : decode cX12_whose 112 = .ok (.lstore 11, 2) := by decide +kernel
theorem dX12_whose_114 : decode cX12_whose 114 = .ok (.lload 9, 2) := by decide +kernel
theorem dX12_whose_116 : decode cX12_whose 116 = .ok (.lload 9, 2) := by decide +kernel
theorem dX12_whose_118 : decode cX12_whose 118 = .ok (.lmul, 1) := by decide +kernel
theorem dX12_whose_119 : decode cX12_whose 119 = .ok (.lload 11, 2) := by decide +kernel
theorem dX12_whose_121 : decode cX12_whose 121 = .ok (.lload 11, 2) := by decide +kernel
theorem dX12_whose_123 : decode cX12_whose 123 = .ok (.lmul, 1) := by decide +kernel
theorem dX12_whose_124 : decode cX12_whose 124 = .ok (.ladd, 1) := by decide +kernel
theorem dX12_whose_125 : decode cX12_whose 125 = .ok (.lstore 13, 2) := by decide +kernel
theorem dX12_whose_127 : decode cX12_whose 127 = .ok (.iload_n 3, 1) := by decide +kernel
theorem dX12_whose_128 : decode cX12_whose 128 = .ok (.ifCond .lt 27, 3) := by decide +kernel
theorem dX12_whose_131 : decode cX12_whose 131 = .ok (.lload 13, 2) := by decide +kernel
theorem dX12_whose_133 : decode cX12_whose 133 = .ok (.lload 6, 2) := by decide +kernel
theorem dX12_whose_135 : decode cX12_whose 135 = .ok (.lmul, 1) := by decide +kernel
theorem dX12_whose_136 : decode cX12_whose 136 = .ok (.lload 4, 2) := by decide +kernel
theorem dX12_whose_138 : decode cX12_whose 138 = .ok (.aload_n 0, 1) := by decide +kernel
theorem dX12_whose_139 : decode cX12_whose 139 = .ok (.getfield 477, 3) := by decide +kernel
theorem dX12_whose_142 : decode cX12_whose 142 = .ok (.lmul, 1) := by decide +kernel
theorem dX12_whose_143 : decode cX12_whose 143 = .ok (.aload_n 0, 1) := by decide +kernel
theorem dX12_whose_144 : decode cX12_whose 144 = .ok (.getfield 477, 3) := by decide +kernel
theorem dX12_whose_147 : decode cX12_whose 147 = .ok (.lmul, 1) := by decide +kernel
theorem dX12_whose_148 : decode cX12_whose 148 = .ok (.lcmp, 1) := by decide +kernel
theorem dX12_whose_149 : decode cX12_whose 149 = .ok (.ifCond .lt 6, 3) := by decide +kernel
theorem dX12_whose_152 : decode cX12_whose 152 = .ok (.goto 21, 3) := by decide +kernel
theorem dX12_whose_155 : decode cX12_whose 155 = .ok (.iload 8, 2) := by decide +kernel
theorem dX12_whose_157 : decode cX12_whose 157 = .ok (.istore_n 3, 1) := by decide +kernel
theorem dX12_whose_158 : decode cX12_whose 158 = .ok (.lload 13, 2) := by decide +kernel
theorem dX12_whose_160 : decode cX12_whose 160 = .ok (.lstore 4, 2) := by decide +kernel
theorem dX12_whose_162 : decode cX12_whose 162 = .ok (.aload_n 0, 1) := by decide +kernel
theorem dX12_whose_163 : decode cX12_whose 163 = .ok (.getfield 477, 3) := by decide +kernel
theorem dX12_whose_166 : decode cX12_whose 166 = .ok (.aload_n 0, 1) := by decide +kernel
theorem dX12_whose_167 : decode cX12_whose 167 = .ok (.getfield 477, 3) := by decide +kernel
theorem dX12_whose_170 : decode cX12_whose 170 = .ok (.lmul, 1) := by decide +kernel
theorem dX12_whose_171 : decode cX12_whose 171 = .ok (.lstore 6, 2) := by decide +kernel
theorem dX12_whose_173 : decode cX12_whose 173 = .ok (.iinc 8 1, 3) := by decide +kernel
theorem dX12_whose_176 : decode cX12_whose 176 = .ok (.goto (-121), 3) := by decide +kernel
theorem dX12_whose_179 : decode cX12_whose 179 = .ok (.iload_n 3, 1) := by decide +kernel
theorem dX12_whose_180 : decode cX12_whose 180 = .ok (.ifCond .ge 12, 3) := by decide +kernel
theorem dX12_whose_183 : decode cX12_whose 183 = .ok (.aload_n 0, 1) := by decide +kernel
theorem dX12_whose_184 : decode cX12_whose 184 = .ok (.bipush 8, 2) := by decide +kernel
theorem dX12_whose_186 : decode cX12_whose 186 = .ok (.invokevirtual 319, 3) := by decide +kernel
theorem dX12_whose_189 : decode cX12_whose 189 = .ok (.goto 4, 3) := by decide +kernel
theorem dX12_whose_192 : decode cX12_whose 192 = .ok (.iload_n 3, 1) := by decide +kernel
theorem dX12_whose_193 : decode cX12_whose 193 = .ok (.ireturn, 1) := by decide +kernel
theorem dX12_worst_0 : decode cX12_worst 0 = .ok (.aload_n 0, 1) := by decide +kernel
theorem dX12_worst_1 : decode cX12_worst 1 = .ok (.iconst 0, 1) := by decide +kernel
theorem dX12_worst_2 : decode cX12_worst 2 = .ok (.putfield 63, 3) := by decide +kernel
theorem dX12_worst_5 : decode cX12_worst 5 = .ok (.aload_n 0, 1) := by decide +kernel
theorem dX12_worst_6 : decode cX12_worst 6 = .ok (.iconst 0, 1) := by decide +kernel
theorem dX12_worst_7 : decode cX12_worst 7 = .ok (.putfield 66, 3) := by decide +kernel
theorem dX12_worst_10 : decode cX12_worst 10 = .ok (.iload_n 1, 1) := by decide +kernel
theorem dX12_worst_11 : decode cX12_worst 11 = .ok (.i2l, 1) := by decide +kernel
theorem dX12_worst_12 : decode cX12_worst 12 = .ok (.lconst 0, 1) := by decide +kernel
theorem dX12_worst_13 : decode cX12_worst 13 = .ok (.lconst 1, 1) := by decide +kernel
theorem dX12_worst_14 : decode cX12_worst 14 = .ok (.invokestatic 98, 3) := by decide +kernel
theorem dX12_worst_17 : decode cX12_worst 17 = .ok (.ifCond .ne 9, 3) := by decide +kernel
theorem dX12_worst_20 : decode cX12_worst 20 = .ok (.aload_n 0, 1) := by decide +kernel
theorem dX12_worst_21 : decode cX12_worst 21 = .ok (.iconst 5, 1) := by decide +kernel
theorem dX12_worst_22 : decode cX12_worst 22 = .ok (.invokevirtual 319, 3) := by decide +kernel
theorem dX12_worst_25 : decode cX12_worst 25 = .ok (.ireturn, 1) := by decide +kernel
theorem dX12_worst_26 : decode cX12_worst 26 = .ok (.iconst (-1), 1) := by decide +kernel
theorem dX12_worst_27 : decode cX12_worst 27 = .ok (.istore_n 2, 1) := by decide +kernel
theorem dX12_worst_28 : decode cX12_worst 28 = .ok (.lconst 0, 1) := by decide +kernel
theorem dX12_worst_29 : decode cX12_worst 29 = .ok (.lstore_n 3, 1) := by decide +kernel
theorem dX12_worst_30 : decode cX12_worst 30 = .ok (.lconst 1, 1) := by decide +kernel
theorem dX12_worst_31 : decode cX12_worst 31 = .ok (.lstore 5, 2) := by decide +kernel
theorem dX12_worst_33 : decode cX12_worst 33 = .ok (.iconst 0, 1) := by decide +kernel
theorem dX12_worst_34 : decode cX12_worst 34 = .ok (.istore 7, 2) := by decide +kernel
theorem dX12_worst_36 : decode cX12_worst 36 = .ok (.iload 7, 2) := by decide +kernel
theorem dX12_worst_38 : decode cX12_worst 38 = .ok (.iload_n 1, 1) := by decide +kernel
theorem dX12_worst_39 : decode cX12_worst 39 = .ok (.ifCond .ne 13, 3) := by decide +kernel
theorem dX12_worst_42 : decode cX12_worst 42 = .ok (.aload_n 0, 1) := by decide +kernel
theorem dX12_worst_43 : decode cX12_worst 43 = .ok (.getfield 35, 3) := by decide +kernel
theorem dX12_worst_46 : decode cX12_worst 46 = .ok (.bipush 6, 2) := by decide +kernel
theorem dX12_worst_48 : decode cX12_worst 48 = .ok (.iaload, 1) := by decide +kernel
theorem dX12_worst_49 : decode cX12_worst 49 = .ok (.goto 9, 3) := by decide +kernel
theorem dX12_worst_52 : decode cX12_worst 52 = .ok (.aload_n 0, 1) := by decide +kernel
theorem dX12_worst_53 : decode cX12_worst 53 = .ok (.getfield 35, 3) := by decide +kernel
theorem dX12_worst_56 : decode cX12_worst 56 = .ok (.iconst 5, 1) := by decide +kernel
theorem dX12_worst_57 : decode cX12_worst 57 = .ok (.iaload, 1) := by decide +kernel
theorem dX12_worst_58 : decode cX12_worst 58 = .ok (.if_icmp .ge 90, 3) := by decide +kernel
theorem dX12_worst_61 : decode cX12_worst 61 = .ok (.aload_n 0, 1) := by decide +kernel
theorem dX12_worst_62 : decode cX12_worst 62 = .ok (.iload_n 1, 1) := by decide +kernel
theorem dX12_worst_63 : decode cX12_worst 63 = .ok (.ifCond .ne 8, 3) := by decide +kernel
theorem dX12_worst_66 : decode cX12_worst 66 = .ok (.iload 7, 2) := by decide +kernel
theorem dX12_worst_68 : decode cX12_worst 68 = .ok (.goto 4, 3) := by decide +kernel
theorem dX12_worst_71 : decode cX12_worst 71 = .ok (.iconst (-1), 1) := by decide +kernel
theorem dX12_worst_72 : decode cX12_worst 72 = .ok (.iload_n 1, 1) := by decide +kernel
theorem dX12_worst_73 : decode cX12_worst 73 = .ok (.ifCond .ne 7, 3) := by decide +kernel
theorem dX12_worst_76 : decode cX12_worst 76 = .ok (.iconst (-1), 1) := by decide +kernel
theorem dX12_worst_77 : decode cX12_worst 77 = .ok (.goto 5, 3) := by decide +kernel
theorem dX12_worst_80 : decode cX12_worst 80 = .ok (.iload 7, 2) := by decide +kernel
theorem dX12_worst_82 : decode cX12_worst 82 = .ok (.invokevirtual 489, 3) := by decide +kernel
theorem dX12_worst_85 : decode cX12_worst 85 = .ok (.aload_n 0, 1) := by decide +kernel
theorem dX12_worst_86 : decode cX12_worst 86 = .ok (.getfield 477, 3) := by decide +kernel
theorem dX12_worst_89 : decode cX12_worst 89 = .ok (.lconst 0, 1) := by decide +kernel
theorem dX12_worst_90 : decode cX12_worst 90 = .ok (.lcmp, 1) := by decide +kernel
theorem dX12_worst_91 : decode cX12_worst 91 = .ok (.ifCond .eq 51, 3) := by decide +kernel
theorem dX12_worst_94 : decode cX12_worst 94 = .ok (.iload_n 2, 1) := by decide +kernel
theorem dX12_worst_95 : decode cX12_worst 95 = .ok (.ifCond .lt 28, 3) := by decide +kernel
theorem dX12_worst_98 : decode cX12_worst 98 = .ok (.aload_n 0, 1) := by decide +kernel
theorem dX12_worst_99 : decode cX12_worst 99 = .ok (.invokevirtual 492, 3) := by decide +kernel
theorem dX12_worst_102 : decode cX12_worst 102 = .ok (.lload 5, 2) := by decide +kernel
theorem dX12_worst_104 : decode cX12_worst 104 = .ok (.lmul, 1) := by decide +kernel
theorem dX12_worst_105 : decode cX12_worst 105 = .ok (.lload_n 3, 1) := by decide +kernel
theorem dX12_worst_106 : decode cX12_worst 106 = .ok (.aload_n 0, 1) := by decide +kernel
theorem dX12_worst_107 : decode cX12_worst 107 = .ok (.getfield 477, 3) := by decide +kernel
theorem dX12_worst_110 : decode cX12_worst 110 = .ok (.lmul, 1) := by decide +kernel
theorem dX12_worst_111 : decode cX12_worst 111 = .ok (.aload_n 0, 1) := by decide +kernel
theorem dX12_worst_112 : decode cX12_worst 112 = .ok (.getfield 477, 3) := by decide +kernel
theorem dX12_worst_115 : decode cX12_worst 115 = .ok (.lmul, 1) := by decide +kernel
theorem dX12_worst_116 : decode cX12_worst 116 = .ok (.lcmp, 1) := by decide +kernel
theorem dX12_worst_117 : decode cX12_worst 117 = .ok (.ifCond .gt 6, 3) := by decide +kernel
theorem dX12_worst_120 : decode cX12_worst 120 = .ok (.goto 22, 3) := by decide +kernel
theorem dX12_worst_123 : decode cX12_worst 123 = .ok (.iload 7, 2) := by decide +kernel
theorem dX12_worst_125 : decode cX12_worst 125 = .ok (.istore_n 2, 1) := by decide +kernel
theorem dX12_worst_126 : decode cX12_worst 126 = .ok (.aload_n 0, 1) := by decide +kernel
theorem dX12_worst_127 : decode cX12_worst 127 = .ok (.invokevirtual 492, 3) := by decide +kernel
theorem dX12_worst_130 : decode cX12_worst 130 = .ok (.lstore_n 3, 1) := by decide +kernel
theorem dX12_worst_131 : decode cX12_worst 131 = .ok (.aload_n 0, 1) := by decide +kernel
theorem dX12_worst_132 : decode cX12_worst 132 = .ok (.getfield 477, 3) := by decide +kernel
theorem dX12_worst_135 : decode cX12_worst 135 = .ok (.aload_n 0, 1) := by decide +kernel
theorem dX12_worst_136 : decode cX12_worst 136 = .ok (.getfield 477, 3) := by decide +kernel
theorem dX12_worst_139 : decode cX12_worst 139 = .ok (.lmul, 1) := by decide +kernel
theorem dX12_worst_140 : decode cX12_worst 140 = .ok (.lstore 5, 2) := by decide +kernel
theorem dX12_worst_142 : decode cX12_worst 142 = .ok (.iinc 7 1, 3) := by decide +kernel
theorem dX12_worst_145 : decode cX12_worst 145 = .ok (.goto (-109), 3) := by decide +kernel
theorem dX12_worst_148 : decode cX12_worst 148 = .ok (.iload_n 2, 1) := by decide +kernel
theorem dX12_worst_149 : decode cX12_worst 149 = .ok (.ifCond .ge 12, 3) := by decide +kernel
theorem dX12_worst_152 : decode cX12_worst 152 = .ok (.aload_n 0, 1) := by decide +kernel
theorem dX12_worst_153 : decode cX12_worst 153 = .ok (.bipush 8, 2) := by decide +kernel
theorem dX12_worst_155 : decode cX12_worst 155 = .ok (.invokevirtual 319, 3) := by decide +kernel
theorem dX12_worst_158 : decode cX12_worst 158 = .ok (.goto 4, 3) := by decide +kernel
theorem dX12_worst_161 : decode cX12_worst 161 = .ok (.iload_n 2, 1) := by decide +kernel
theorem dX12_worst_162 : decode cX12_worst 162 = .ok (.ireturn, 1) := by decide +kernel
theorem dX12_sieve_0 : decode cX12_sieve 0 = .ok (.aload_n 0, 1) := by decide +kernel
theorem dX12_sieve_1 : decode cX12_sieve 1 = .ok (.iconst 0, 1) := by decide +kernel
theorem dX12_sieve_2 : decode cX12_sieve 2 = .ok (.putfield 63, 3) := by decide +kernel
theorem dX12_sieve_5 : decode cX12_sieve 5 = .ok (.aload_n 0, 1) := by decide +kernel
theorem dX12_sieve_6 : decode cX12_sieve 6 = .ok (.iconst 0, 1) := by decide +kernel
theorem dX12_sieve_7 : decode cX12_sieve 7 = .ok (.putfield 66, 3) := by decide +kernel
theorem dX12_sieve_10 : decode cX12_sieve 10 = .ok (.iload_n 1, 1) := by decide +kernel
theorem dX12_sieve_11 : decode cX12_sieve 11 = .ok (.i2l, 1) := by decide +kernel
theorem dX12_sieve_12 : decode cX12_sieve 12 = .ok (.lconst 1, 1) := by decide +kernel
theorem dX12_sieve_13 : decode cX12_sieve 13 = .ok (.ldc2_w 498, 3) := by decide +kernel
theorem dX12_sieve_16 : decode cX12_sieve 16 = .ok (.invokestatic 98, 3) := by decide +kernel
theorem dX12_sieve_19 : decode cX12_sieve 19 = .ok (.ifCond .ne 9, 3) := by decide +kernel
theorem dX12_sieve_22 : decode cX12_sieve 22 = .ok (.aload_n 0, 1) := by decide +kernel
theorem dX12_sieve_23 : decode cX12_sieve 23 = .ok (.iconst 5, 1) := by decide +kernel
theorem dX12_sieve_24 : decode cX12_sieve 24 = .ok (.invokevirtual 319, 3) := by decide +kernel
theorem dX12_sieve_27 : decode cX12_sieve 27 = .ok (.ireturn, 1) := by decide +kernel
theorem dX12_sieve_28 : decode cX12_sieve 28 = .ok (.iconst 0, 1) := by decide +kernel
theorem dX12_sieve_29 : decode cX12_sieve 29 = .ok (.istore_n 2, 1) := by decide +kernel
theorem dX12_sieve_30 : decode cX12_sieve 30 = .ok (.iconst 0, 1) := by decide +kernel
theorem dX12_sieve_31 : decode cX12_sieve 31 = .ok (.istore_n 3, 1) := by decide +kernel
theorem dX12_sieve_32 : decode cX12_sieve 32 = .ok (.iload_n 3, 1) := by decide +kernel
theorem dX12_sieve_33 : decode cX12_sieve 33 = .ok (.aload_n 0, 1) := by decide +kernel
theorem dX12_sieve_34 : decode cX12_sieve 34 = .ok (.getfield 35, 3) := by decide +kernel
theorem dX12_sieve_37 : decode cX12_sieve 37 = .ok (.iconst 5, 1) := by decide +kernel
theorem dX12_sieve_38 : decode cX12_sieve 38 = .ok (.iaload, 1) := by decide +kernel
theorem dX12_sieve_39 : decode cX12_sieve 39 = .ok (.if_icmp .ge 32, 3) := by decide +kernel
theorem dX12_sieve_42 : decode cX12_sieve 42 = .ok (.iload_n 2, 1) := by decide +kernel
theorem dX12_sieve_43 : decode cX12_sieve 43 = .ok (.aload_n 0, 1) := by decide +kernel
theorem dX12_sieve_44 : decode cX12_sieve 44 = .ok (.getfield 35, 3) := by decide +kernel
theorem dX12_sieve_47 : decode cX12_sieve 47 = .ok (.bipush 21, 2) := by decide +kernel
theorem dX12_sieve_49 : decode cX12_sieve 49 = .ok (.iload_n 3, 1) := by decide +kernel
theorem dX12_sieve_50 : decode cX12_sieve 50 = .ok (.iadd, 1) := by decide +kernel
theorem dX12_sieve_51 : decode cX12_sieve 51 = .ok (.iaload, 1) := by decide +kernel
theorem dX12_sieve_52 : decode cX12_sieve 52 = .ok (.iload_n 1, 1) := by decide +kernel
theorem dX12_sieve_53 : decode cX12_sieve 53 = .ok (.if_icmp .gt 9, 3) := by decide +kernel
theorem dX12_sieve_56 : decode cX12_sieve 56 = .ok (.iconst 1, 1) := by decide +kernel
theorem dX12_sieve_57 : decode cX12_sieve 57 = .ok (.iload_n 3, 1) := by decide +kernel
theorem dX12_sieve_58 : decode cX12_sieve 58 = .ok (.ishl, 1) := by decide +kernel
theorem dX12_sieve_59 : decode cX12_sieve 59 = .ok (.goto 4, 3) := by decide +kernel
theorem dX12_sieve_62 : decode cX12_sieve 62 = .ok (.iconst 0, 1) := by decide +kernel
theorem dX12_sieve_63 : decode cX12_sieve 63 = .ok (.ior, 1) := by decide +kernel
theorem dX12_sieve_64 : decode cX12_sieve 64 = .ok (.istore_n 2, 1) := by decide +kernel
theorem dX12_sieve_65 : decode cX12_sieve 65 = .ok (.iinc 3 1, 3) := by decide +kernel
theorem dX12_sieve_68 : decode cX12_sieve 68 = .ok (.goto (-36), 3) := by decide +kernel
theorem dX12_sieve_71 : decode cX12_sieve 71 = .ok (.iload_n 2, 1) := by decide +kernel
theorem dX12_sieve_72 : decode cX12_sieve 72 = .ok (.ireturn, 1) := by decide +kernel
theorem dX12_same_0 : decode cX12_same 0 = .ok (.aload_n 0, 1) := by decide +kernel
theorem dX12_same_1 : decode cX12_same 1 = .ok (.iconst 0, 1) := by decide +kernel
theorem dX12_same_2 : decode cX12_same 2 = .ok (.putfield 63, 3) := by decide +kernel
theorem dX12_same_5 : decode cX12_same 5 = .ok (.aload_n 0, 1) := by decide +kernel
theorem dX12_same_6 : decode cX12_same 6 = .ok (.iconst 0, 1) := by decide +kernel
theorem dX12_same_7 : decode cX12_same 7 = .ok (.putfield 66, 3) := by decide +kernel
theorem dX12_same_10 : decode cX12_same 10 = .ok (.iconst 0, 1) := by decide +kernel
theorem dX12_same_11 : decode cX12_same 11 = .ok (.istore_n 1, 1) := by decide +kernel
theorem dX12_same_12 : decode cX12_same 12 = .ok (.iconst 0, 1) := by decide +kernel
theorem dX12_same_13 : decode cX12_same 13 = .ok (.istore_n 2, 1) := by decide +kernel
theorem dX12_same_14 : decode cX12_same 14 = .ok (.iload_n 2, 1) := by decide +kernel
theorem dX12_same_15 : decode cX12_same 15 = .ok (.aload_n 0, 1) := by decide +kernel
theorem dX12_same_16 : decode cX12_same 16 = .ok (.getfield 35, 3) := by decide +kernel
theorem dX12_same_19 : decode cX12_same 19 = .ok (.bipush 8, 2) := by decide +kernel
theorem dX12_same_21 : decode cX12_same 21 = .ok (.iaload, 1) := by decide +kernel
theorem dX12_same_22 : decode cX12_same 22 = .ok (.if_icmp .ge 76, 3) := by decide +kernel
theorem dX12_same_25 : decode cX12_same 25 = .ok (.iconst 0, 1) := by decide +kernel
theorem dX12_same_26 : decode cX12_same 26 = .ok (.istore_n 3, 1) := by decide +kernel
theorem dX12_same_27 : decode cX12_same 27 = .ok (.iload_n 3, 1) := by decide +kernel
theorem dX12_same_28 : decode cX12_same 28 = .ok (.iload_n 2, 1) := by decide +kernel
theorem dX12_same_29 : decode cX12_same 29 = .ok (.if_icmp .ge 63, 3) := by decide +kernel
theorem dX12_same_32 : decode cX12_same 32 = .ok (.iload_n 1, 1) := by decide +kernel
theorem dX12_same_33 : decode cX12_same 33 = .ok (.aload_n 0, 1) := by decide +kernel
theorem dX12_same_34 : decode cX12_same 34 = .ok (.getfield 35, 3) := by decide +kernel
theorem dX12_same_37 : decode cX12_same 37 = .ok (.iload_n 2, 1) := by decide +kernel
theorem dX12_same_38 : decode cX12_same 38 = .ok (.invokestatic 474, 3) := by decide +kernel
theorem dX12_same_41 : decode cX12_same 41 = .ok (.iaload, 1) := by decide +kernel
theorem dX12_same_42 : decode cX12_same 42 = .ok (.aload_n 0, 1) := by decide +kernel
theorem dX12_same_43 : decode cX12_same 43 = .ok (.getfield 35, 3) := by decide +kernel
theorem dX12_same_46 : decode cX12_same 46 = .ok (.iload_n 3, 1) := by decide +kernel
theorem dX12_same_47 : decode cX12_same 47 = .ok (.invokestatic 474, 3) := by decide +kernel
theorem dX12_same_50 : decode cX12_same 50 = .ok (.iaload, 1) := by decide +kernel
theorem dX12_same_51 : decode cX12_same 51 = .ok (.if_icmp .ne 32, 3) := by decide +kernel
theorem dX12_same_54 : decode cX12_same 54 = .ok (.aload_n 0, 1) := by decide +kernel
theorem dX12_same_55 : decode cX12_same 55 = .ok (.getfield 35, 3) := by decide +kernel
theorem dX12_same_58 : decode cX12_same 58 = .ok (.iload_n 2, 1) := by decide +kernel
theorem dX12_same_59 : decode cX12_same 59 = .ok (.invokestatic 474, 3) := by decide +kernel
theorem dX12_same_62 : decode cX12_same 62 = .ok (.iconst 1, 1) := by decide +kernel
theorem dX12_same_63 : decode cX12_same 63 = .ok (.iadd, 1) := by decide +kernel
theorem dX12_same_64 : decode cX12_same 64 = .ok (.iaload, 1) := by decide +kernel
theorem dX12_same_65 : decode cX12_same 65 = .ok (.aload_n 0, 1) := by decide +kernel
theorem dX12_same_66 : decode cX12_same 66 = .ok (.getfield 35, 3) := by decide +kernel
theorem dX12_same_69 : decode cX12_same 69 = .ok (.iload_n 3, 1) := by decide +kernel
theorem dX12_same_70 : decode cX12_same 70 = .ok (.invokestatic 474, 3) := by decide +kernel
theorem dX12_same_73 : decode cX12_same 73 = .ok (.iconst 1, 1) := by decide +kernel
theorem dX12_same_74 : decode cX12_same 74 = .ok (.iadd, 1) := by decide +kernel
theorem dX12_same_75 : decode cX12_same 75 = .ok (.iaload, 1) := by decide +kernel
theorem dX12_same_76 : decode cX12_same 76 = .ok (.if_icmp .ne 7, 3) := by decide +kernel
theorem dX12_same_79 : decode cX12_same 79 = .ok (.iconst 1, 1) := by decide +kernel
theorem dX12_same_80 : decode cX12_same 80 = .ok (.goto 4, 3) := by decide +kernel
theorem dX12_same_83 : decode cX12_same 83 = .ok (.iconst 0, 1) := by decide +kernel
theorem dX12_same_84 : decode cX12_same 84 = .ok (.iadd, 1) := by decide +kernel
theorem dX12_same_85 : decode cX12_same 85 = .ok (.istore_n 1, 1) := by decide +kernel
theorem dX12_same_86 : decode cX12_same 86 = .ok (.iinc 3 1, 3) := by decide +kernel
theorem dX12_same_89 : decode cX12_same 89 = .ok (.goto (-62), 3) := by decide +kernel
theorem dX12_same_92 : decode cX12_same 92 = .ok (.iinc 2 1, 3) := by decide +kernel
theorem dX12_same_95 : decode cX12_same 95 = .ok (.goto (-81), 3) := by decide +kernel
theorem dX12_same_98 : decode cX12_same 98 = .ok (.iload_n 1, 1) := by decide +kernel
theorem dX12_same_99 : decode cX12_same 99 = .ok (.ireturn, 1) := by decide +kernel
theorem dX12_shoots_0 : decode cX12_shoots 0 = .ok (.aload_n 0, 1) := by decide +kernel
theorem dX12_shoots_1 : decode cX12_shoots 1 = .ok (.iload_n 1, 1) := by decide +kernel
theorem dX12_shoots_2 : decode cX12_shoots 2 = .ok (.iload_n 3, 1) := by decide +kernel
theorem dX12_shoots_3 : decode cX12_shoots 3 = .ok (.iload 5, 2) := by decide +kernel
theorem dX12_shoots_5 : decode cX12_shoots 5 = .ok (.iload 6, 2) := by decide +kernel
theorem dX12_shoots_7 : decode cX12_shoots 7 = .ok (.invokevirtual 377, 3) := by decide +kernel
theorem dX12_shoots_10 : decode cX12_shoots 10 = .ok (.istore 8, 2) := by decide +kernel
theorem dX12_shoots_12 : decode cX12_shoots 12 = .ok (.aload_n 0, 1) := by decide +kernel
theorem dX12_shoots_13 : decode cX12_shoots 13 = .ok (.iload_n 1, 1) := by decide +kernel
theorem dX12_shoots_14 : decode cX12_shoots 14 = .ok (.iload 4, 2) := by decide +kernel
theorem dX12_shoots_16 : decode cX12_shoots 16 = .ok (.iload 7, 2) := by decide +kernel
theorem dX12_shoots_18 : decode cX12_shoots 18 = .ok (.invokevirtual 381, 3) := by decide +kernel
theorem dX12_shoots_21 : decode cX12_shoots 21 = .ok (.istore 9, 2) := by decide +kernel
theorem dX12_shoots_23 : decode cX12_shoots 23 = .ok (.aload_n 0, 1) := by decide +kernel
theorem dX12_shoots_24 : decode cX12_shoots 24 = .ok (.iload 8, 2) := by decide +kernel
theorem dX12_shoots_26 : decode cX12_shoots 26 = .ok (.iload 9, 2) := by decide +kernel
theorem dX12_shoots_28 : decode cX12_shoots 28 = .ok (.invokevirtual 394, 3) := by decide +kernel
theorem dX12_shoots_31 : decode cX12_shoots 31 = .ok (.istore 10, 2) := by decide +kernel
theorem dX12_shoots_33 : decode cX12_shoots 33 = .ok (.aload_n 0, 1) := by decide +kernel
theorem dX12_shoots_34 : decode cX12_shoots 34 = .ok (.getfield 35, 3) := by decide +kernel
theorem dX12_shoots_37 : decode cX12_shoots 37 = .ok (.bipush 7, 2) := by decide +kernel
theorem dX12_shoots_39 : decode cX12_shoots 39 = .ok (.bipush 20, 2) := by decide +kernel
theorem dX12_shoots_41 : decode cX12_shoots 41 = .ok (.aload_n 0, 1) := by decide +kernel
theorem dX12_shoots_42 : decode cX12_shoots 42 = .ok (.getfield 35, 3) := by decide +kernel
theorem dX12_shoots_45 : decode cX12_shoots 45 = .ok (.bipush 7, 2) := by decide +kernel
theorem dX12_shoots_47 : decode cX12_shoots 47 = .ok (.iaload, 1) := by decide +kernel
theorem dX12_shoots_48 : decode cX12_shoots 48 = .ok (.iconst 1, 1) := by decide +kernel
theorem dX12_shoots_49 : decode cX12_shoots 49 = .ok (.iadd, 1) := by decide +kernel
theorem dX12_shoots_50 : decode cX12_shoots 50 = .ok (.invokestatic 397, 3) := by decide +kernel
theorem dX12_shoots_53 : decode cX12_shoots 53 = .ok (.iastore, 1) := by decide +kernel
theorem dX12_shoots_54 : decode cX12_shoots 54 = .ok (.aload_n 0, 1) := by decide +kernel
theorem dX12_shoots_55 : decode cX12_shoots 55 = .ok (.getfield 35, 3) := by decide +kernel
theorem dX12_shoots_58 : decode cX12_shoots 58 = .ok (.bipush 77, 2) := by decide +kernel
theorem dX12_shoots_60 : decode cX12_shoots 60 = .ok (.iload_n 1, 1) := by decide +kernel
theorem dX12_shoots_61 : decode cX12_shoots 61 = .ok (.iadd, 1) := by decide +kernel
theorem dX12_shoots_62 : decode cX12_shoots 62 = .ok (.dup2, 1) := by decide +kernel
theorem dX12_shoots_63 : decode cX12_shoots 63 = .ok (.iaload, 1) := by decide +kernel
theorem dX12_shoots_64 : decode cX12_shoots 64 = .ok (.iload 10, 2) := by decide +kernel
theorem dX12_shoots_66 : decode cX12_shoots 66 = .ok (.iadd, 1) := by decide +kernel
theorem dX12_shoots_67 : decode cX12_shoots 67 = .ok (.iastore, 1) := by decide +kernel
theorem dX12_shoots_68 : decode cX12_shoots 68 = .ok (.iload 8, 2) := by decide +kernel
theorem dX12_shoots_70 : decode cX12_shoots 70 = .ok (.i2l, 1) := by decide +kernel
theorem dX12_shoots_71 : decode cX12_shoots 71 = .ok (.ldc2_w 496, 3) := by decide +kernel
theorem dX12_shoots_74 : decode cX12_shoots 74 = .ok (.ldc2_w 438, 3) := by decide +kernel
theorem dX12_shoots_77 : decode cX12_shoots 77 = .ok (.invokestatic 98, 3) := by decide +kernel
theorem dX12_shoots_80 : decode cX12_shoots 80 = .ok (.ifCond .eq 81, 3) := by decide +kernel
theorem dX12_shoots_83 : decode cX12_shoots 83 = .ok (.iload 9, 2) := by decide +kernel
theorem dX12_shoots_85 : decode cX12_shoots 85 = .ok (.i2l, 1) := by decide +kernel
theorem dX12_shoots_86 : decode cX12_shoots 86 = .ok (.ldc2_w 496, 3) := by decide +kernel
theorem dX12_shoots_89 : decode cX12_shoots 89 = .ok (.ldc2_w 438, 3) := by decide +kernel
theorem dX12_shoots_92 : decode cX12_shoots 92 = .ok (.invokestatic 98, 3) := by decide +kernel
theorem dX12_shoots_95 : decode cX12_shoots 95 = .ok (.ifCond .eq 66, 3) := by decide +kernel
theorem dX12_shoots_98 : decode cX12_shoots 98 = .ok (.aload_n 0, 1) := by decide +kernel
theorem dX12_shoots_99 : decode cX12_shoots 99 = .ok (.getfield 35, 3) := by decide +kernel
theorem dX12_shoots_102 : decode cX12_shoots 102 = .ok (.bipush 8, 2) := by decide +kernel
theorem dX12_shoots_104 : decode cX12_shoots 104 = .ok (.iaload, 1) := by decide +kernel
theorem dX12_shoots_105 : decode cX12_shoots 105 = .ok (.invokestatic 474, 3) := by decide +kernel
theorem dX12_shoots_108 : decode cX12_shoots 108 = .ok (.istore 11, 2) := by decide +kernel
theorem dX12_shoots_110 : decode cX12_shoots 110 = .ok (.aload_n 0, 1) := by decide +kernel
theorem dX12_shoots_111 : decode cX12_shoots 111 = .ok (.getfield 35, 3) := by decide +kernel
theorem dX12_shoots_114 : decode cX12_shoots 114 = .ok (.iload 11, 2) := by decide +kernel
theorem dX12_shoots_116 : decode cX12_shoots 116 = .ok (.iload 8, 2) := by decide +kernel
theorem dX12_shoots_118 : decode cX12_shoots 118 = .ok (.iastore, 1) := by decide +kernel
theorem dX12_shoots_119 : decode cX12_shoots 119 = .ok (.aload_n 0, 1) := by decide +kernel
theorem dX12_shoots_120 : decode cX12_shoots 120 = .ok (.getfield 35, 3) := by decide +kernel
theorem dX12_shoots_123 : decode cX12_shoots 123 = .ok (.iload 11, 2) := by decide +kernel
theorem dX12_shoots_125 : decode cX12_shoots 125 = .ok (.iconst 1, 1) := by decide +kernel
theorem dX12_shoots_126 : decode cX12_shoots 126 = .ok (.iadd, 1) := by decide +kernel
theorem dX12_shoots_127 : decode cX12_shoots 127 = .ok (.iload 9, 2) := by decide +kernel
theorem dX12_shoots_129 : decode cX12_shoots 129 = .ok (.iastore, 1) := by decide +kernel
theorem dX12_shoots_130 : decode cX12_shoots 130 = .ok (.aload_n 0, 1) := by decide +kernel
theorem dX12_shoots_131 : decode cX12_shoots 131 = .ok (.getfield 35, 3) := by decide +kernel
theorem dX12_shoots_134 : decode cX12_shoots 134 = .ok (.iload 11, 2) := by decide +kernel
theorem dX12_shoots_136 : decode cX12_shoots 136 = .ok (.iconst 2, 1) := by decide +kernel
theorem dX12_shoots_137 : decode cX12_shoots 137 = .ok (.iadd, 1) := by decide +kernel
theorem dX12_shoots_138 : decode cX12_shoots 138 = .ok (.iload_n 1, 1) := by decide +kernel
theorem dX12_shoots_139 : decode cX12_shoots 139 = .ok (.iastore, 1) := by decide +kernel
theorem dX12_shoots_140 : decode cX12_shoots 140 = .ok (.aload_n 0, 1) := by decide +kernel
theorem dX12_shoots_141 : decode cX12_shoots 141 = .ok (.getfield 35, 3) := by decide +kernel
theorem dX12_shoots_144 : decode cX12_shoots 144 = .ok (.iload 11, 2) := by decide +kernel
theorem dX12_shoots_146 : decode cX12_shoots 146 = .ok (.iconst 3, 1) := by decide +kernel
theorem dX12_shoots_147 : decode cX12_shoots 147 = .ok (.iadd, 1) := by decide +kernel
theorem dX12_shoots_148 : decode cX12_shoots 148 = .ok (.iload_n 2, 1) := by decide +kernel
theorem dX12_shoots_149 : decode cX12_shoots 149 = .ok (.iastore, 1) := by decide +kernel
theorem dX12_shoots_150 : decode cX12_shoots 150 = .ok (.aload_n 0, 1) := by decide +kernel
theorem dX12_shoots_151 : decode cX12_shoots 151 = .ok (.getfield 35, 3) := by decide +kernel
theorem dX12_shoots_154 : decode cX12_shoots 154 = .ok (.bipush 8, 2) := by decide +kernel
theorem dX12_shoots_156 : decode cX12_shoots 156 = .ok (.dup2, 1) := by decide +kernel
theorem dX12_shoots_157 : decode cX12_shoots 157 = .ok (.iaload, 1) := by decide +kernel
theorem dX12_shoots_158 : decode cX12_shoots 158 = .ok (.iconst 1, 1) := by decide +kernel
theorem dX12_shoots_159 : decode cX12_shoots 159 = .ok (.iadd, 1) := by decide +kernel
theorem dX12_shoots_160 : decode cX12_shoots 160 = .ok (.iastore, 1) := by decide +kernel
theorem dX12_shoots_161 : decode cX12_shoots 161 = .ok (.iload 10, 2) := by decide +kernel
theorem dX12_shoots_163 : decode cX12_shoots 163 = .ok (.ireturn, 1) := by decide +kernel
theorem dX12_shoot_0 : decode cX12_shoot 0 = .ok (.aload_n 0, 1) := by decide +kernel
theorem dX12_shoot_1 : decode cX12_shoot 1 = .ok (.iconst 0, 1) := by decide +kernel
theorem dX12_shoot_2 : decode cX12_shoot 2 = .ok (.putfield 63, 3) := by decide +kernel
theorem dX12_shoot_5 : decode cX12_shoot 5 = .ok (.aload_n 0, 1) := by decide +kernel
theorem dX12_shoot_6 : decode cX12_shoot 6 = .ok (.iconst 0, 1) := by decide +kernel
theorem dX12_shoot_7 : decode cX12_shoot 7 = .ok (.putfield 66, 3) := by decide +kernel
theorem dX12_shoot_10 : decode cX12_shoot 10 = .ok (.aload_n 0, 1) := by decide +kernel
theorem dX12_shoot_11 : decode cX12_shoot 11 = .ok (.iload_n 1, 1) := by decide +kernel
theorem dX12_shoot_12 : decode cX12_shoot 12 = .ok (.iload_n 2, 1) := by decide +kernel
theorem dX12_shoot_13 : decode cX12_shoot 13 = .ok (.invokevirtual 409, 3) := by decide +kernel
theorem dX12_shoot_16 : decode cX12_shoot 16 = .ok (.ifCond .ne 9, 3) := by decide +kernel
theorem dX12_shoot_19 : decode cX12_shoot 19 = .ok (.aload_n 0, 1) := by decide +kernel
theorem dX12_shoot_20 : decode cX12_shoot 20 = .ok (.iconst 2, 1) := by decide +kernel
theorem dX12_shoot_21 : decode cX12_shoot 21 = .ok (.invokevirtual 319, 3) := by decide +kernel
theorem dX12_shoot_24 : decode cX12_shoot 24 = .ok (.ireturn, 1) := by decide +kernel
theorem dX12_shoot_25 : decode cX12_shoot 25 = .ok (.iload_n 3, 1) := by decide +kernel
theorem dX12_shoot_26 : decode cX12_shoot 26 = .ok (.aload_n 0, 1) := by decide +kernel
theorem dX12_shoot_27 : decode cX12_shoot 27 = .ok (.getfield 35, 3) := by decide +kernel
theorem dX12_shoot_30 : decode cX12_shoot 30 = .ok (.bipush 53, 2) := by decide +kernel
theorem dX12_shoot_32 : decode cX12_shoot 32 = .ok (.iload_n 1, 1) := by decide +kernel
theorem dX12_shoot_33 : decode cX12_shoot 33 = .ok (.iadd, 1) := by decide +kernel
theorem dX12_shoot_34 : decode cX12_shoot 34 = .ok (.iaload, 1) := by decide +kernel
theorem dX12_shoot_35 : decode cX12_shoot 35 = .ok (.invokestatic 361, 3) := by decide +kernel
theorem dX12_shoot_38 : decode cX12_shoot 38 = .ok (.ifCond .eq 56, 3) := by decide +kernel
theorem dX12_shoot_41 : decode cX12_shoot 41 = .ok (.iload 4, 2) := by decide +kernel
theorem dX12_shoot_43 : decode cX12_shoot 43 = .ok (.iload 5, 2) := by decide +kernel
theorem dX12_shoot_45 : decode cX12_shoot 45 = .ok (.invokestatic 374, 3) := by decide +kernel
theorem dX12_shoot_48 : decode cX12_shoot 48 = .ok (.ifCond .eq 46, 3) := by decide +kernel
theorem dX12_shoot_51 : decode cX12_shoot 51 = .ok (.iload 6, 2) := by decide +kernel
theorem dX12_shoot_53 : decode cX12_shoot 53 = .ok (.i2l, 1) := by decide +kernel
theorem dX12_shoot_54 : decode cX12_shoot 54 = .ok (.ldc2_w 94, 3) := by decide +kernel
theorem dX12_shoot_57 : decode cX12_shoot 57 = .ok (.lconst 1, 1) := by decide +kernel
theorem dX12_shoot_58 : decode cX12_shoot 58 = .ok (.invokestatic 98, 3) := by decide +kernel
theorem dX12_shoot_61 : decode cX12_shoot 61 = .ok (.ifCond .eq 33, 3) := by decide +kernel
theorem dX12_shoot_64 : decode cX12_shoot 64 = .ok (.iload 7, 2) := by decide +kernel
theorem dX12_shoot_66 : decode cX12_shoot 66 = .ok (.i2l, 1) := by decide +kernel
theorem dX12_shoot_67 : decode cX12_shoot 67 = .ok (.ldc2_w 500, 3) := by decide +kernel
theorem dX12_shoot_70 : decode cX12_shoot 70 = .ok (.ldc2_w 502, 3) := by decide +kernel
theorem dX12_shoot_73 : decode cX12_shoot 73 = .ok (.invokestatic 98, 3) := by decide +kernel
theorem dX12_shoot_76 : decode cX12_shoot 76 = .ok (.ifCond .eq 18, 3) := by decide +kernel
theorem dX12_shoot_79 : decode cX12_shoot 79 = .ok (.iload 8, 2) := by decide +kernel
theorem dX12_shoot_81 : decode cX12_shoot 81 = .ok (.i2l, 1) := by decide +kernel
theorem dX12_shoot_82 : decode cX12_shoot 82 = .ok (.ldc2_w 500, 3) := by decide +kernel
theorem dX12_shoot_85 : decode cX12_shoot 85 = .ok (.ldc2_w 502, 3) := by decide +kernel
theorem dX12_shoot_88 : decode cX12_shoot 88 = .ok (.invokestatic 98, 3) := by decide +kernel
theorem dX12_shoot_91 : decode cX12_shoot 91 = .ok (.ifCond .ne 9, 3) := by decide +kernel
theorem dX12_shoot_94 : decode cX12_shoot 94 = .ok (.aload_n 0, 1) := by decide +kernel
theorem dX12_shoot_95 : decode cX12_shoot 95 = .ok (.iconst 5, 1) := by decide +kernel
theorem dX12_shoot_96 : decode cX12_shoot 96 = .ok (.invokevirtual 319, 3) := by decide +kernel
theorem dX12_shoot_99 : decode cX12_shoot 99 = .ok (.ireturn, 1) := by decide +kernel
theorem dX12_shoot_100 : decode cX12_shoot 100 = .ok (.aload_n 0, 1) := by decide +kernel
theorem dX12_shoot_101 : decode cX12_shoot 101 = .ok (.getfield 35, 3) := by decide +kernel
theorem dX12_shoot_104 : decode cX12_shoot 104 = .ok (.bipush 8, 2) := by decide +kernel
theorem dX12_shoot_106 : decode cX12_shoot 106 = .ok (.iaload, 1) := by decide +kernel
theorem dX12_shoot_107 : decode cX12_shoot 107 = .ok (.bipush 60, 2) := by decide +kernel
theorem dX12_shoot_109 : decode cX12_shoot 109 = .ok (.if_icmp .ne 10, 3) := by decide +kernel
theorem dX12_shoot_112 : decode cX12_shoot 112 = .ok (.aload_n 0, 1) := by decide +kernel
theorem dX12_shoot_113 : decode cX12_shoot 113 = .ok (.bipush 7, 2) := by decide +kernel
theorem dX12_shoot_115 : decode cX12_shoot 115 = .ok (.invokevirtual 319, 3) := by decide +kernel
theorem dX12_shoot_118 : decode cX12_shoot 118 = .ok (.ireturn, 1) := by decide +kernel
theorem dX12_shoot_119 : decode cX12_shoot 119 = .ok (.aload_n 0, 1) := by decide +kernel
theorem dX12_shoot_120 : decode cX12_shoot 120 = .ok (.iload_n 2, 1) := by decide +kernel
theorem dX12_shoot_121 : decode cX12_shoot 121 = .ok (.iload_n 3, 1) := by decide +kernel
theorem dX12_shoot_122 : decode cX12_shoot 122 = .ok (.aload_n 0, 1) := by decide +kernel
theorem dX12_shoot_123 : decode cX12_shoot 123 = .ok (.getfield 35, 3) := by decide +kernel
theorem dX12_shoot_126 : decode cX12_shoot 126 = .ok (.bipush 7, 2) := by decide +kernel
theorem dX12_shoot_128 : decode cX12_shoot 128 = .ok (.iaload, 1) := by decide +kernel
theorem dX12_shoot_129 : decode cX12_shoot 129 = .ok (.invokevirtual 367, 3) := by decide +kernel
theorem dX12_shoot_132 : decode cX12_shoot 132 = .ok (.ifCond .eq 22, 3) := by decide +kernel
theorem dX12_shoot_135 : decode cX12_shoot 135 = .ok (.aload_n 0, 1) := by decide +kernel
theorem dX12_shoot_136 : decode cX12_shoot 136 = .ok (.iload_n 1, 1) := by decide +kernel
theorem dX12_shoot_137 : decode cX12_shoot 137 = .ok (.iload_n 2, 1) := by decide +kernel
theorem dX12_shoot_138 : decode cX12_shoot 138 = .ok (.iload 4, 2) := by decide +kernel
theorem dX12_shoot_140 : decode cX12_shoot 140 = .ok (.iload 5, 2) := by decide +kernel
theorem dX12_shoot_142 : decode cX12_shoot 142 = .ok (.iload 6, 2) := by decide +kernel
theorem dX12_shoot_144 : decode cX12_shoot 144 = .ok (.iload 7, 2) := by decide +kernel
theorem dX12_shoot_146 : decode cX12_shoot 146 = .ok (.iload 8, 2) := by decide +kernel
theorem dX12_shoot_148 : decode cX12_shoot 148 = .ok (.invokevirtual 504, 3) := by decide +kernel
theorem dX12_shoot_151 : decode cX12_shoot 151 = .ok (.goto 9, 3) := by decide +kernel
theorem dX12_shoot_154 : decode cX12_shoot 154 = .ok (.aload_n 0, 1) := by decide +kernel
theorem dX12_shoot_155 : decode cX12_shoot 155 = .ok (.bipush 9, 2) := by decide +kernel
theorem dX12_shoot_157 : decode cX12_shoot 157 = .ok (.invokevirtual 319, 3) := by decide +kernel
theorem dX12_shoot_160 : decode cX12_shoot 160 = .ok (.ireturn, 1) := by decide +kernel
theorem dX12_wipe_0 : decode cX12_wipe 0 = .ok (.aload_n 0, 1) := by decide +kernel
theorem dX12_wipe_1 : decode cX12_wipe 1 = .ok (.iconst 0, 1) := by decide +kernel
theorem dX12_wipe_2 : decode cX12_wipe 2 = .ok (.putfield 63, 3) := by decide +kernel
theorem dX12_wipe_5 : decode cX12_wipe 5 = .ok (.aload_n 0, 1) := by decide +kernel
theorem dX12_wipe_6 : decode cX12_wipe 6 = .ok (.iconst 0, 1) := by decide +kernel
theorem dX12_wipe_7 : decode cX12_wipe 7 = .ok (.putfield 66, 3) := by decide +kernel
theorem dX12_wipe_10 : decode cX12_wipe 10 = .ok (.aload_n 0, 1) := by decide +kernel
theorem dX12_wipe_11 : decode cX12_wipe 11 = .ok (.getfield 35, 3) := by decide +kernel
theorem dX12_wipe_14 : decode cX12_wipe 14 = .ok (.bipush 7, 2) := by decide +kernel
theorem dX12_wipe_16 : decode cX12_wipe 16 = .ok (.iaload, 1) := by decide +kernel
theorem dX12_wipe_17 : decode cX12_wipe 17 = .ok (.istore_n 1, 1) := by decide +kernel
theorem dX12_wipe_18 : decode cX12_wipe 18 = .ok (.aload_n 0, 1) := by decide +kernel
theorem dX12_wipe_19 : decode cX12_wipe 19 = .ok (.getfield 35, 3) := by decide +kernel
theorem dX12_wipe_22 : decode cX12_wipe 22 = .ok (.bipush 7, 2) := by decide +kernel
theorem dX12_wipe_24 : decode cX12_wipe 24 = .ok (.iconst 0, 1) := by decide +kernel
theorem dX12_wipe_25 : decode cX12_wipe 25 = .ok (.iastore, 1) := by decide +kernel
theorem dX12_wipe_26 : decode cX12_wipe 26 = .ok (.iload_n 1, 1) := by decide +kernel
theorem dX12_wipe_27 : decode cX12_wipe 27 = .ok (.ireturn, 1) := by decide +kernel
theorem dX12_draw_0 : decode cX12_draw 0 = .ok (.aload_n 0, 1) := by decide +kernel
theorem dX12_draw_1 : decode cX12_draw 1 = .ok (.aload_n 0, 1) := by decide +kernel
theorem dX12_draw_2 : decode cX12_draw 2 = .ok (.getfield 508, 3) := by decide +kernel
theorem dX12_draw_5 : decode cX12_draw 5 = .ok (.sipush 2851, 3) := by decide +kernel
theorem dX12_draw_8 : decode cX12_draw 8 = .ok (.imul, 1) := by decide +kernel
theorem dX12_draw_9 : decode cX12_draw 9 = .ok (.sipush 11027, 3) := by decide +kernel
theorem dX12_draw_12 : decode cX12_draw 12 = .ok (.iadd, 1) := by decide +kernel
theorem dX12_draw_13 : decode cX12_draw 13 = .ok (.ldc_w 511, 3) := by decide +kernel
theorem dX12_draw_16 : decode cX12_draw 16 = .ok (.irem, 1) := by decide +kernel
theorem dX12_draw_17 : decode cX12_draw 17 = .ok (.putfield 508, 3) := by decide +kernel
theorem dX12_draw_20 : decode cX12_draw 20 = .ok (.aload_n 0, 1) := by decide +kernel
theorem dX12_draw_21 : decode cX12_draw 21 = .ok (.getfield 508, 3) := by decide +kernel
theorem dX12_draw_24 : decode cX12_draw 24 = .ok (.bipush 8, 2) := by decide +kernel
theorem dX12_draw_26 : decode cX12_draw 26 = .ok (.idiv, 1) := by decide +kernel
theorem dX12_draw_27 : decode cX12_draw 27 = .ok (.iload_n 1, 1) := by decide +kernel
theorem dX12_draw_28 : decode cX12_draw 28 = .ok (.irem, 1) := by decide +kernel
theorem dX12_draw_29 : decode cX12_draw 29 = .ok (.ireturn, 1) := by decide +kernel
theorem dX12_drawHand_0 : decode cX12_drawHand 0 = .ok (.iload_n 1, 1) := by decide +kernel
theorem dX12_drawHand_1 : decode cX12_drawHand 1 = .ok (.ifCond .ne 7, 3) := by decide +kernel
theorem dX12_drawHand_4 : decode cX12_drawHand 4 = .ok (.iconst 0, 1) := by decide +kernel
theorem dX12_drawHand_5 : decode cX12_drawHand 5 = .ok (.goto 14, 3) := by decide +kernel
theorem dX12_drawHand_8 : decode cX12_drawHand 8 = .ok (.aload_n 0, 1) := by decide +kernel
theorem dX12_drawHand_9 : decode cX12_drawHand 9 = .ok (.iconst 2, 1) := by decide +kernel
theorem dX12_drawHand_10 : decode cX12_drawHand 10 = .ok (.iload_n 1, 1) := by decide +kernel
theorem dX12_drawHand_11 : decode cX12_drawHand 11 = .ok (.imul, 1) := by decide +kernel
theorem dX12_drawHand_12 : decode cX12_drawHand 12 = .ok (.iconst 1, 1) := by decide +kernel
theorem dX12_drawHand_13 : decode cX12_drawHand 13 = .ok (.iadd, 1) := by decide +kernel
theorem dX12_drawHand_14 : decode cX12_drawHand 14 = .ok (.invokevirtual 512, 3) := by decide +kernel
theorem dX12_drawHand_17 : decode cX12_drawHand 17 = .ok (.iload_n 1, 1) := by decide +kernel
theorem dX12_drawHand_18 : decode cX12_drawHand 18 = .ok (.isub, 1) := by decide +kernel
theorem dX12_drawHand_19 : decode cX12_drawHand 19 = .ok (.ireturn, 1) := by decide +kernel
theorem dX12_shootsBy_0 : decode cX12_shootsBy 0 = .ok (.aload_n 0, 1) := by decide +kernel
theorem dX12_shootsBy_1 : decode cX12_shootsBy 1 = .ok (.getfield 35, 3) := by decide +kernel
theorem dX12_shootsBy_4 : decode cX12_shootsBy 4 = .ok (.iconst 5, 1) := by decide +kernel
theorem dX12_shootsBy_5 : decode cX12_shootsBy 5 = .ok (.iaload, 1) := by decide +kernel
theorem dX12_shootsBy_6 : decode cX12_shootsBy 6 = .ok (.ifCond .eq 26, 3) := by decide +kernel
theorem dX12_shootsBy_9 : decode cX12_shootsBy 9 = .ok (.aload_n 0, 1) := by decide +kernel
theorem dX12_shootsBy_10 : decode cX12_shootsBy 10 = .ok (.aload_n 0, 1) := by decide +kernel
theorem dX12_shootsBy_11 : decode cX12_shootsBy 11 = .ok (.getfield 515, 3) := by decide +kernel
theorem dX12_shootsBy_14 : decode cX12_shootsBy 14 = .ok (.invokevirtual 325, 3) := by decide +kernel
theorem dX12_shootsBy_17 : decode cX12_shootsBy 17 = .ok (.ifCond .lt 15, 3) := by decide +kernel
theorem dX12_shootsBy_20 : decode cX12_shootsBy 20 = .ok (.aload_n 0, 1) := by decide +kernel
theorem dX12_shootsBy_21 : decode cX12_shootsBy 21 = .ok (.getfield 35, 3) := by decide +kernel
theorem dX12_shootsBy_24 : decode cX12_shootsBy 24 = .ok (.bipush 8, 2) := by decide +kernel
theorem dX12_shootsBy_26 : decode cX12_shootsBy 26 = .ok (.iaload, 1) := by decide +kernel
theorem dX12_shootsBy_27 : decode cX12_shootsBy 27 = .ok (.bipush 60, 2) := by decide +kernel
theorem dX12_shootsBy_29 : decode cX12_shootsBy 29 = .ok (.if_icmp .ne 5, 3) := by decide +kernel
theorem dX12_shootsBy_32 : decode cX12_shootsBy 32 = .ok (.iconst 0, 1) := by decide +kernel
theorem dX12_shootsBy_33 : decode cX12_shootsBy 33 = .ok (.ireturn, 1) := by decide +kernel
theorem dX12_shootsBy_34 : decode cX12_shootsBy 34 = .ok (.aload_n 0, 1) := by decide +kernel
theorem dX12_shootsBy_35 : decode cX12_shootsBy 35 = .ok (.aload_n 0, 1) := by decide +kernel
theorem dX12_shootsBy_36 : decode cX12_shootsBy 36 = .ok (.getfield 515, 3) := by decide +kernel
theorem dX12_shootsBy_39 : decode cX12_shootsBy 39 = .ok (.aload_n 0, 1) := by decide +kernel
theorem dX12_shootsBy_40 : decode cX12_shootsBy 40 = .ok (.getfield 518, 3) := by decide +kernel
theorem dX12_shootsBy_43 : decode cX12_shootsBy 43 = .ok (.aload_n 0, 1) := by decide +kernel
theorem dX12_shootsBy_44 : decode cX12_shootsBy 44 = .ok (.getfield 35, 3) := by decide +kernel
theorem dX12_shootsBy_47 : decode cX12_shootsBy 47 = .ok (.bipush 53, 2) := by decide +kernel
theorem dX12_shootsBy_49 : decode cX12_shootsBy 49 = .ok (.iload_n 1, 1) := by decide +kernel
theorem dX12_shootsBy_50 : decode cX12_shootsBy 50 = .ok (.iadd, 1) := by decide +kernel
theorem dX12_shootsBy_51 : decode cX12_shootsBy 51 = .ok (.iaload, 1) := by decide +kernel
theorem dX12_shootsBy_52 : decode cX12_shootsBy 52 = .ok (.invokestatic 397, 3) := by decide +kernel
theorem dX12_shootsBy_55 : decode cX12_shootsBy 55 = .ok (.aload_n 0, 1) := by decide +kernel
theorem dX12_shootsBy_56 : decode cX12_shootsBy 56 = .ok (.getfield 35, 3) := by decide +kernel
theorem dX12_shootsBy_59 : decode cX12_shootsBy 59 = .ok (.bipush 7, 2) := by decide +kernel
theorem dX12_shootsBy_61 : decode cX12_shootsBy 61 = .ok (.iaload, 1) := by decide +kernel
theorem dX12_shootsBy_62 : decode cX12_shootsBy 62 = .ok (.invokevirtual 367, 3) := by decide +kernel
theorem dX12_shootsBy_65 : decode cX12_shootsBy 65 = .ok (.ifCond .ne 15, 3) := by decide +kernel
theorem dX12_shootsBy_68 : decode cX12_shootsBy 68 = .ok (.aload_n 0, 1) := by decide +kernel
theorem dX12_shootsBy_69 : decode cX12_shootsBy 69 = .ok (.dup, 1) := by decide +kernel
theorem dX12_shootsBy_70 : decode cX12_shootsBy 70 = .ok (.getfield 521, 3) := by decide +kernel
theorem dX12_shootsBy_73 : decode cX12_shootsBy 73 = .ok (.iconst 1, 1) := by decide +kernel
theorem dX12_shootsBy_74 : decode cX12_shootsBy 74 = .ok (.iadd, 1) := by decide +kernel
theorem dX12_shootsBy_75 : decode cX12_shootsBy 75 = .ok (.putfield 521, 3) := by decide +kernel
theorem dX12_shootsBy_78 : decode cX12_shootsBy 78 = .ok (.iconst 1, 1) := by decide +kernel
theorem dX12_shootsBy_79 : decode cX12_shootsBy 79 = .ok (.ireturn, 1) := by decide +kernel
theorem dX12_shootsBy_80 : decode cX12_shootsBy 80 = .ok (.aload_n 0, 1) := by decide +kernel
theorem dX12_shootsBy_81 : decode cX12_shootsBy 81 = .ok (.iload_n 1, 1) := by decide +kernel
theorem dX12_shootsBy_82 : decode cX12_shootsBy 82 = .ok (.aload_n 0, 1) := by decide +kernel
theorem dX12_shootsBy_83 : decode cX12_shootsBy 83 = .ok (.getfield 524, 3) := by decide +kernel
theorem dX12_shootsBy_86 : decode cX12_shootsBy 86 = .ok (.invokevirtual 400, 3) := by decide +kernel
theorem dX12_shootsBy_89 : decode cX12_shootsBy 89 = .ok (.istore_n 2, 1) := by decide +kernel
theorem dX12_shootsBy_90 : decode cX12_shootsBy 90 = .ok (.aload_n 0, 1) := by decide +kernel
theorem dX12_shootsBy_91 : decode cX12_shootsBy 91 = .ok (.iload_n 2, 1) := by decide +kernel
theorem dX12_shootsBy_92 : decode cX12_shootsBy 92 = .ok (.invokevirtual 527, 3) := by decide +kernel
theorem dX12_shootsBy_95 : decode cX12_shootsBy 95 = .ok (.istore_n 3, 1) := by decide +kernel
theorem dX12_shootsBy_96 : decode cX12_shootsBy 96 = .ok (.aload_n 0, 1) := by decide +kernel
theorem dX12_shootsBy_97 : decode cX12_shootsBy 97 = .ok (.iload_n 2, 1) := by decide +kernel
theorem dX12_shootsBy_98 : decode cX12_shootsBy 98 = .ok (.invokevirtual 527, 3) := by decide +kernel
theorem dX12_shootsBy_101 : decode cX12_shootsBy 101 = .ok (.istore 4, 2) := by decide +kernel
theorem dX12_shootsBy_103 : decode cX12_shootsBy 103 = .ok (.aload_n 0, 1) := by decide +kernel
theorem dX12_shootsBy_104 : decode cX12_shootsBy 104 = .ok (.getfield 356, 3) := by decide +kernel
theorem dX12_shootsBy_107 : decode cX12_shootsBy 107 = .ok (.ifCond .ne 7, 3) := by decide +kernel
theorem dX12_shootsBy_110 : decode cX12_shootsBy 110 = .ok (.iconst 0, 1) := by decide +kernel
theorem dX12_shootsBy_111 : decode cX12_shootsBy 111 = .ok (.goto 16, 3) := by decide +kernel
theorem dX12_shootsBy_114 : decode cX12_shootsBy 114 = .ok (.aload_n 0, 1) := by decide +kernel
theorem dX12_shootsBy_115 : decode cX12_shootsBy 115 = .ok (.iconst 2, 1) := by decide +kernel
theorem dX12_shootsBy_116 : decode cX12_shootsBy 116 = .ok (.invokevirtual 512, 3) := by decide +kernel
theorem dX12_shootsBy_119 : decode cX12_shootsBy 119 = .ok (.ifCond .ne 7, 3) := by decide +kernel
theorem dX12_shootsBy_122 : decode cX12_shootsBy 122 = .ok (.iconst 1, 1) := by decide +kernel
theorem dX12_shootsBy_123 : decode cX12_shootsBy 123 = .ok (.goto 4, 3) := by decide +kernel
theorem dX12_shootsBy_126 : decode cX12_shootsBy 126 = .ok (.iconst (-1), 1) := by decide +kernel
theorem dX12_shootsBy_127 : decode cX12_shootsBy 127 = .ok (.istore 5, 2) := by decide +kernel
theorem dX12_shootsBy_129 : decode cX12_shootsBy 129 = .ok (.aload_n 0, 1) := by decide +kernel
theorem dX12_shootsBy_130 : decode cX12_shootsBy 130 = .ok (.dup, 1) := by decide +kernel
theorem dX12_shootsBy_131 : decode cX12_shootsBy 131 = .ok (.getfield 530, 3) := by decide +kernel
theorem dX12_shootsBy_134 : decode cX12_shootsBy 134 = .ok (.iconst 1, 1) := by decide +kernel
theorem dX12_shootsBy_135 : decode cX12_shootsBy 135 = .ok (.iadd, 1) := by decide +kernel
theorem dX12_shootsBy_136 : decode cX12_shootsBy 136 = .ok (.putfield 530, 3) := by decide +kernel
theorem dX12_shootsBy_139 : decode cX12_shootsBy 139 = .ok (.aload_n 0, 1) := by decide +kernel
theorem dX12_shootsBy_140 : decode cX12_shootsBy 140 = .ok (.dup, 1) := by decide +kernel
theorem dX12_shootsBy_141 : decode cX12_shootsBy 141 = .ok (.getfield 533, 3) := by decide +kernel
theorem dX12_shootsBy_144 : decode cX12_shootsBy 144 = .ok (.aload_n 0, 1) := by decide +kernel
theorem dX12_shootsBy_145 : decode cX12_shootsBy 145 = .ok (.iload_n 1, 1) := by decide +kernel
theorem dX12_shootsBy_146 : decode cX12_shootsBy 146 = .ok (.aload_n 0, 1) := by decide +kernel
theorem dX12_shootsBy_147 : decode cX12_shootsBy 147 = .ok (.getfield 515, 3) := by decide +kernel
theorem dX12_shootsBy_150 : decode cX12_shootsBy 150 = .ok (.aload_n 0, 1) := by decide +kernel
theorem dX12_shootsBy_151 : decode cX12_shootsBy 151 = .ok (.getfield 536, 3) := by decide +kernel
theorem dX12_shootsBy_154 : decode cX12_shootsBy 154 = .ok (.aload_n 0, 1) := by decide +kernel
theorem dX12_shootsBy_155 : decode cX12_shootsBy 155 = .ok (.getfield 539, 3) := by decide +kernel
theorem dX12_shootsBy_158 : decode cX12_shootsBy 158 = .ok (.iload 5, 2) := by decide +kernel
theorem dX12_shootsBy_160 : decode cX12_shootsBy 160 = .ok (.iload_n 3, 1) := by decide +kernel
theorem dX12_shootsBy_161 : decode cX12_shootsBy 161 = .ok (.iload 4, 2) := by decide +kernel
theorem dX12_shootsBy_163 : decode cX12_shootsBy 163 = .ok (.invokevirtual 504, 3) := by decide +kernel
theorem dX12_shootsBy_166 : decode cX12_shootsBy 166 = .ok (.iadd, 1) := by decide +kernel
theorem dX12_shootsBy_167 : decode cX12_shootsBy 167 = .ok (.putfield 533, 3) := by decide +kernel
theorem dX12_shootsBy_170 : decode cX12_shootsBy 170 = .ok (.iconst 1, 1) := by decide +kernel
theorem dX12_shootsBy_171 : decode cX12_shootsBy 171 = .ok (.ireturn, 1) := by decide +kernel
theorem dX12_does_0 : decode cX12_does 0 = .ok (.aload_n 0, 1) := by decide +kernel
theorem dX12_does_1 : decode cX12_does 1 = .ok (.getfield 35, 3) := by decide +kernel
theorem dX12_does_4 : decode cX12_does 4 = .ok (.iload_n 1, 1) := by decide +kernel
theorem dX12_does_5 : decode cX12_does 5 = .ok (.iaload, 1) := by decide +kernel
theorem dX12_does_6 : decode cX12_does 6 = .ok (.istore_n 2, 1) := by decide +kernel
theorem dX12_does_7 : decode cX12_does 7 = .ok (.iload_n 2, 1) := by decide +kernel
theorem dX12_does_8 : decode cX12_does 8 = .ok (.iconst 4, 1) := by decide +kernel
theorem dX12_does_9 : decode cX12_does 9 = .ok (.if_icmp .ne 16, 3) := by decide +kernel
theorem dX12_does_12 : decode cX12_does 12 = .ok (.aload_n 0, 1) := by decide +kernel
theorem dX12_does_13 : decode cX12_does 13 = .ok (.aload_n 0, 1) := by decide +kernel
theorem dX12_does_14 : decode cX12_does 14 = .ok (.getfield 35, 3) := by decide +kernel
theorem dX12_does_17 : decode cX12_does 17 = .ok (.iload_n 1, 1) := by decide +kernel
theorem dX12_does_18 : decode cX12_does 18 = .ok (.iconst 1, 1) := by decide +kernel
theorem dX12_does_19 : decode cX12_does 19 = .ok (.iadd, 1) := by decide +kernel
theorem dX12_does_20 : decode cX12_does 20 = .ok (.iaload, 1) := by decide +kernel
theorem dX12_does_21 : decode cX12_does 21 = .ok (.invokevirtual 542, 3) := by decide +kernel
theorem dX12_does_24 : decode cX12_does 24 = .ok (.ireturn, 1) := by decide +kernel
theorem dX12_does_25 : decode cX12_does 25 = .ok (.iload_n 2, 1) := by decide +kernel
theorem dX12_does_26 : decode cX12_does 26 = .ok (.ifCond .ne 18, 3) := by decide +kernel
theorem dX12_does_29 : decode cX12_does 29 = .ok (.aload_n 0, 1) := by decide +kernel
theorem dX12_does_30 : decode cX12_does 30 = .ok (.aload_n 0, 1) := by decide +kernel
theorem dX12_does_31 : decode cX12_does 31 = .ok (.getfield 35, 3) := by decide +kernel
theorem dX12_does_34 : decode cX12_does 34 = .ok (.iload_n 1, 1) := by decide +kernel
theorem dX12_does_35 : decode cX12_does 35 = .ok (.iconst 1, 1) := by decide +kernel
theorem dX12_does_36 : decode cX12_does 36 = .ok (.iadd, 1) := by decide +kernel
theorem dX12_does_37 : decode cX12_does 37 = .ok (.iaload, 1) := by decide +kernel
theorem dX12_does_38 : decode cX12_does 38 = .ok (.putfield 515, 3) := by decide +kernel
theorem dX12_does_41 : decode cX12_does 41 = .ok (.goto 119, 3) := by decide +kernel
theorem dX12_does_44 : decode cX12_does 44 = .ok (.iload_n 2, 1) := by decide +kernel
theorem dX12_does_45 : decode cX12_does 45 = .ok (.iconst 1, 1) := by decide +kernel
theorem dX12_does_46 : decode cX12_does 46 = .ok (.if_icmp .ne 30, 3) := by decide +kernel
theorem dX12_does_49 : decode cX12_does 49 = .ok (.aload_n 0, 1) := by decide +kernel
theorem dX12_does_50 : decode cX12_does 50 = .ok (.aload_n 0, 1) := by decide +kernel
theorem dX12_does_51 : decode cX12_does 51 = .ok (.getfield 35, 3) := by decide +kernel
theorem dX12_does_54 : decode cX12_does 54 = .ok (.iload_n 1, 1) := by decide +kernel
theorem dX12_does_55 : decode cX12_does 55 = .ok (.iconst 1, 1) := by decide +kernel
theorem dX12_does_56 : decode cX12_does 56 = .ok (.iadd, 1) := by decide +kernel
theorem dX12_does_57 : decode cX12_does 57 = .ok (.iaload, 1) := by decide +kernel
theorem dX12_does_58 : decode cX12_does 58 = .ok (.putfield 536, 3) := by decide +kernel
theorem dX12_does_61 : decode cX12_does 61 = .ok (.aload_n 0, 1) := by decide +kernel
theorem dX12_does_62 : decode cX12_does 62 = .ok (.aload_n 0, 1) := by decide +kernel
theorem dX12_does_63 : decode cX12_does 63 = .ok (.getfield 35, 3) := by decide +kernel
theorem dX12_does_66 : decode cX12_does 66 = .ok (.iload_n 1, 1) := by decide +kernel
theorem dX12_does_67 : decode cX12_does 67 = .ok (.iconst 2, 1) := by decide +kernel
theorem dX12_does_68 : decode cX12_does 68 = .ok (.iadd, 1) := by decide +kernel
theorem dX12_does_69 : decode cX12_does 69 = .ok (.iaload, 1) := by decide +kernel
theorem dX12_does_70 : decode cX12_does 70 = .ok (.putfield 539, 3) := by decide +kernel
theorem dX12_does_73 : decode cX12_does 73 = .ok (.goto 87, 3) := by decide +kernel
theorem dX12_does_76 : decode cX12_does 76 = .ok (.iload_n 2, 1) := by decide +kernel
theorem dX12_does_77 : decode cX12_does 77 = .ok (.iconst 2, 1) := by decide +kernel
theorem dX12_does_78 : decode cX12_does 78 = .ok (.if_icmp .ne 18, 3) := by decide +kernel
theorem dX12_does_81 : decode cX12_does 81 = .ok (.aload_n 0, 1) := by decide +kernel
theorem dX12_does_82 : decode cX12_does 82 = .ok (.aload_n 0, 1) := by decide +kernel
theorem dX12_does_83 : decode cX12_does 83 = .ok (.getfield 35, 3) := by decide +kernel
theorem dX12_does_86 : decode cX12_does 86 = .ok (.iload_n 1, 1) := by decide +kernel
theorem dX12_does_87 : decode cX12_does 87 = .ok (.iconst 1, 1) := by decide +kernel
theorem dX12_does_88 : decode cX12_does 88 = .ok (.iadd, 1) := by decide +kernel
theorem dX12_does_89 : decode cX12_does 89 = .ok (.iaload, 1) := by decide +kernel
theorem dX12_does_90 : decode cX12_does 90 = .ok (.putfield 518, 3) := by decide +kernel
theorem dX12_does_93 : decode cX12_does 93 = .ok (.goto 67, 3) := by decide +kernel
theorem dX12_does_96 : decode cX12_does 96 = .ok (.iload_n 2, 1) := by decide +kernel
theorem dX12_does_97 : decode cX12_does 97 = .ok (.iconst 3, 1) := by decide +kernel
theorem dX12_does_98 : decode cX12_does 98 = .ok (.if_icmp .ne 18, 3) := by decide +kernel
theorem dX12_does_101 : decode cX12_does 101 = .ok (.aload_n 0, 1) := by decide +kernel
theorem dX12_does_102 : decode cX12_does 102 = .ok (.aload_n 0, 1) := by decide +kernel
theorem dX12_does_103 : decode cX12_does 103 = .ok (.getfield 35, 3) := by decide +kernel
theorem dX12_does_106 : decode cX12_does 106 = .ok (.iload_n 1, 1) := by decide +kernel
theorem dX12_does_107 : decode cX12_does 107 = .ok (.iconst 1, 1) := by decide +kernel
theorem dX12_does_108 : decode cX12_does 108 = .ok (.iadd, 1) := by decide +kernel
theorem dX12_does_109 : decode cX12_does 109 = .ok (.iaload, 1) := by decide +kernel
theorem dX12_does_110 : decode cX12_does 110 = .ok (.putfield 524, 3) := by decide +kernel
theorem dX12_does_113 : decode cX12_does 113 = .ok (.goto 47, 3) := by decide +kernel
theorem dX12_does_116 : decode cX12_does 116 = .ok (.iload_n 2, 1) := by decide +kernel
theorem dX12_does_117 : decode cX12_does 117 = .ok (.iconst 5, 1) := by decide +kernel
theorem dX12_does_118 : decode cX12_does 118 = .ok (.if_icmp .ne 14, 3) := by decide +kernel
theorem dX12_does_121 : decode cX12_does 121 = .ok (.aload_n 0, 1) := by decide +kernel
theorem dX12_does_122 : decode cX12_does 122 = .ok (.getfield 35, 3) := by decide +kernel
theorem dX12_does_125 : decode cX12_does 125 = .ok (.bipush 7, 2) := by decide +kernel
theorem dX12_does_127 : decode cX12_does 127 = .ok (.iconst 0, 1) := by decide +kernel
theorem dX12_does_128 : decode cX12_does 128 = .ok (.iastore, 1) := by decide +kernel
theorem dX12_does_129 : decode cX12_does 129 = .ok (.goto 31, 3) := by decide +kernel
theorem dX12_does_132 : decode cX12_does 132 = .ok (.aload_n 0, 1) := by decide +kernel
theorem dX12_does_133 : decode cX12_does 133 = .ok (.getfield 35, 3) := by decide +kernel
theorem dX12_does_136 : decode cX12_does 136 = .ok (.iconst 5, 1) := by decide +kernel
theorem dX12_does_137 : decode cX12_does 137 = .ok (.iaload, 1) := by decide +kernel
theorem dX12_does_138 : decode cX12_does 138 = .ok (.ifCond .ne 5, 3) := by decide +kernel
theorem dX12_does_141 : decode cX12_does 141 = .ok (.iconst 0, 1) := by decide +kernel
theorem dX12_does_142 : decode cX12_does 142 = .ok (.ireturn, 1) := by decide +kernel
theorem dX12_does_143 : decode cX12_does 143 = .ok (.aload_n 0, 1) := by decide +kernel
theorem dX12_does_144 : decode cX12_does 144 = .ok (.aload_n 0, 1) := by decide +kernel
theorem dX12_does_145 : decode cX12_does 145 = .ok (.getfield 515, 3) := by decide +kernel
theorem dX12_does_148 : decode cX12_does 148 = .ok (.iconst 1, 1) := by decide +kernel
theorem dX12_does_149 : decode cX12_does 149 = .ok (.iadd, 1) := by decide +kernel
theorem dX12_does_150 : decode cX12_does 150 = .ok (.aload_n 0, 1) := by decide +kernel
theorem dX12_does_151 : decode cX12_does 151 = .ok (.getfield 35, 3) := by decide +kernel
theorem dX12_does_154 : decode cX12_does 154 = .ok (.iconst 5, 1) := by decide +kernel
theorem dX12_does_155 : decode cX12_does 155 = .ok (.iaload, 1) := by decide +kernel
theorem dX12_does_156 : decode cX12_does 156 = .ok (.irem, 1) := by decide +kernel
theorem dX12_does_157 : decode cX12_does 157 = .ok (.putfield 515, 3) := by decide +kernel
theorem dX12_does_160 : decode cX12_does 160 = .ok (.iconst 1, 1) := by decide +kernel
theorem dX12_does_161 : decode cX12_does 161 = .ok (.ireturn, 1) := by decide +kernel
theorem dX12_isSo_0 : decode cX12_isSo 0 = .ok (.aload_n 0, 1) := by decide +kernel
theorem dX12_isSo_1 : decode cX12_isSo 1 = .ok (.getfield 35, 3) := by decide +kernel
theorem dX12_isSo_4 : decode cX12_isSo 4 = .ok (.iload_n 1, 1) := by decide +kernel
theorem dX12_isSo_5 : decode cX12_isSo 5 = .ok (.bipush 6, 2) := by decide +kernel
theorem dX12_isSo_7 : decode cX12_isSo 7 = .ok (.iadd, 1) := by decide +kernel
theorem dX12_isSo_8 : decode cX12_isSo 8 = .ok (.iaload, 1) := by decide +kernel
theorem dX12_isSo_9 : decode cX12_isSo 9 = .ok (.istore_n 2, 1) := by decide +kernel
theorem dX12_isSo_10 : decode cX12_isSo 10 = .ok (.iload_n 2, 1) := by decide +kernel
theorem dX12_isSo_11 : decode cX12_isSo 11 = .ok (.ifCond .ne 22, 3) := by decide +kernel
theorem dX12_isSo_14 : decode cX12_isSo 14 = .ok (.aload_n 0, 1) := by decide +kernel
theorem dX12_isSo_15 : decode cX12_isSo 15 = .ok (.getfield 35, 3) := by decide +kernel
theorem dX12_isSo_18 : decode cX12_isSo 18 = .ok (.bipush 77, 2) := by decide +kernel
theorem dX12_isSo_20 : decode cX12_isSo 20 = .ok (.aload_n 0, 1) := by decide +kernel
theorem dX12_isSo_21 : decode cX12_isSo 21 = .ok (.getfield 35, 3) := by decide +kernel
theorem dX12_isSo_24 : decode cX12_isSo 24 = .ok (.iload_n 1, 1) := by decide +kernel
theorem dX12_isSo_25 : decode cX12_isSo 25 = .ok (.iconst 1, 1) := by decide +kernel
theorem dX12_isSo_26 : decode cX12_isSo 26 = .ok (.iadd, 1) := by decide +kernel
theorem dX12_isSo_27 : decode cX12_isSo 27 = .ok (.iaload, 1) := by decide +kernel
theorem dX12_isSo_28 : decode cX12_isSo 28 = .ok (.iadd, 1) := by decide +kernel
theorem dX12_isSo_29 : decode cX12_isSo 29 = .ok (.iaload, 1) := by decide +kernel
theorem dX12_isSo_30 : decode cX12_isSo 30 = .ok (.goto 25, 3) := by decide +kernel
theorem dX12_isSo_33 : decode cX12_isSo 33 = .ok (.iload_n 2, 1) := by decide +kernel
theorem dX12_isSo_34 : decode cX12_isSo 34 = .ok (.iconst 1, 1) := by decide +kernel
theorem dX12_isSo_35 : decode cX12_isSo 35 = .ok (.if_icmp .ne 13, 3) := by decide +kernel
theorem dX12_isSo_38 : decode cX12_isSo 38 = .ok (.aload_n 0, 1) := by decide +kernel
theorem dX12_isSo_39 : decode cX12_isSo 39 = .ok (.getfield 35, 3) := by decide +kernel
theorem dX12_isSo_42 : decode cX12_isSo 42 = .ok (.bipush 8, 2) := by decide +kernel
theorem dX12_isSo_44 : decode cX12_isSo 44 = .ok (.iaload, 1) := by decide +kernel
theorem dX12_isSo_45 : decode cX12_isSo 45 = .ok (.goto 10, 3) := by decide +kernel
theorem dX12_isSo_48 : decode cX12_isSo 48 = .ok (.aload_n 0, 1) := by decide +kernel
theorem dX12_isSo_49 : decode cX12_isSo 49 = .ok (.getfield 35, 3) := by decide +kernel
theorem dX12_isSo_52 : decode cX12_isSo 52 = .ok (.bipush 7, 2) := by decide +kernel
theorem dX12_isSo_54 : decode cX12_isSo 54 = .ok (.iaload, 1) := by decide +kernel
theorem dX12_isSo_55 : decode cX12_isSo 55 = .ok (.istore_n 3, 1) := by decide +kernel
theorem dX12_isSo_56 : decode cX12_isSo 56 = .ok (.aload_n 0, 1) := by decide +kernel
theorem dX12_isSo_57 : decode cX12_isSo 57 = .ok (.getfield 35, 3) := by decide +kernel
theorem dX12_isSo_60 : decode cX12_isSo 60 = .ok (.iload_n 1, 1) := by decide +kernel
theorem dX12_isSo_61 : decode cX12_isSo 61 = .ok (.bipush 7, 2) := by decide +kernel
theorem dX12_isSo_63 : decode cX12_isSo 63 = .ok (.iadd, 1) := by decide +kernel
theorem dX12_isSo_64 : decode cX12_isSo 64 = .ok (.iaload, 1) := by decide +kernel
theorem dX12_isSo_65 : decode cX12_isSo 65 = .ok (.bipush 60, 2) := by decide +kernel
theorem dX12_isSo_67 : decode cX12_isSo 67 = .ok (.if_icmp .ne 23, 3) := by decide +kernel
theorem dX12_isSo_70 : decode cX12_isSo 70 = .ok (.iload_n 3, 1) := by decide +kernel
theorem dX12_isSo_71 : decode cX12_isSo 71 = .ok (.aload_n 0, 1) := by decide +kernel
theorem dX12_isSo_72 : decode cX12_isSo 72 = .ok (.getfield 35, 3) := by decide +kernel
theorem dX12_isSo_75 : decode cX12_isSo 75 = .ok (.iload_n 1, 1) := by decide +kernel
theorem dX12_isSo_76 : decode cX12_isSo 76 = .ok (.iconst 2, 1) := by decide +kernel
theorem dX12_isSo_77 : decode cX12_isSo 77 = .ok (.iadd, 1) := by decide +kernel
theorem dX12_isSo_78 : decode cX12_isSo 78 = .ok (.iaload, 1) := by decide +kernel
theorem dX12_isSo_79 : decode cX12_isSo 79 = .ok (.if_icmp .ge 7, 3) := by decide +kernel
theorem dX12_isSo_82 : decode cX12_isSo 82 = .ok (.iconst 1, 1) := by decide +kernel
theorem dX12_isSo_83 : decode cX12_isSo 83 = .ok (.goto 58, 3) := by decide +kernel
theorem dX12_isSo_86 : decode cX12_isSo 86 = .ok (.iconst 0, 1) := by decide +kernel
theorem dX12_isSo_87 : decode cX12_isSo 87 = .ok (.goto 54, 3) := by decide +kernel
theorem dX12_isSo_90 : decode cX12_isSo 90 = .ok (.aload_n 0, 1) := by decide +kernel
theorem dX12_isSo_91 : decode cX12_isSo 91 = .ok (.getfield 35, 3) := by decide +kernel
theorem dX12_isSo_94 : decode cX12_isSo 94 = .ok (.iload_n 1, 1) := by decide +kernel
theorem dX12_isSo_95 : decode cX12_isSo 95 = .ok (.bipush 7, 2) := by decide +kernel
theorem dX12_isSo_97 : decode cX12_isSo 97 = .ok (.iadd, 1) := by decide +kernel
theorem dX12_isSo_98 : decode cX12_isSo 98 = .ok (.iaload, 1) := by decide +kernel
theorem dX12_isSo_99 : decode cX12_isSo 99 = .ok (.bipush 62, 2) := by decide +kernel
theorem dX12_isSo_101 : decode cX12_isSo 101 = .ok (.if_icmp .ne 23, 3) := by decide +kernel
theorem dX12_isSo_104 : decode cX12_isSo 104 = .ok (.iload_n 3, 1) := by decide +kernel
theorem dX12_isSo_105 : decode cX12_isSo 105 = .ok (.aload_n 0, 1) := by decide +kernel
theorem dX12_isSo_106 : decode cX12_isSo 106 = .ok (.getfield 35, 3) := by decide +kernel
theorem dX12_isSo_109 : decode cX12_isSo 109 = .ok (.iload_n 1, 1) := by decide +kernel
theorem dX12_isSo_110 : decode cX12_isSo 110 = .ok (.iconst 2, 1) := by decide +kernel
theorem dX12_isSo_111 : decode cX12_isSo 111 = .ok (.iadd, 1) := by decide +kernel
theorem dX12_isSo_112 : decode cX12_isSo 112 = .ok (.iaload, 1) := by decide +kernel
theorem dX12_isSo_113 : decode cX12_isSo 113 = .ok (.if_icmp .le 7, 3) := by decide +kernel
theorem dX12_isSo_116 : decode cX12_isSo 116 = .ok (.iconst 1, 1) := by decide +kernel
theorem dX12_isSo_117 : decode cX12_isSo 117 = .ok (.goto 24, 3) := by decide +kernel
theorem dX12_isSo_120 : decode cX12_isSo 120 = .ok (.iconst 0, 1) := by decide +kernel
theorem dX12_isSo_121 : decode cX12_isSo 121 = .ok (.goto 20, 3) := by decide +kernel
theorem dX12_isSo_124 : decode cX12_isSo 124 = .ok (.iload_n 3, 1) := by decide +kernel
theorem dX12_isSo_125 : decode cX12_isSo 125 = .ok (.aload_n 0, 1) := by decide +kernel
theorem dX12_isSo_126 : decode cX12_isSo 126 = .ok (.getfield 35, 3) := by decide +kernel
theorem dX12_isSo_129 : decode cX12_isSo 129 = .ok (.iload_n 1, 1) := by decide +kernel
theorem dX12_isSo_130 : decode cX12_isSo 130 = .ok (.iconst 2, 1) := by decide +kernel
theorem dX12_isSo_131 : decode cX12_isSo 131 = .ok (.iadd, 1) := by decide +kernel
theorem dX12_isSo_132 : decode cX12_isSo 132 = .ok (.iaload, 1) := by decide +kernel
theorem dX12_isSo_133 : decode cX12_isSo 133 = .ok (.if_icmp .ne 7, 3) := by decide +kernel
theorem dX12_isSo_136 : decode cX12_isSo 136 = .ok (.iconst 1, 1) := by decide +kernel
theorem dX12_isSo_137 : decode cX12_isSo 137 = .ok (.goto 4, 3) := by decide +kernel
theorem dX12_isSo_140 : decode cX12_isSo 140 = .ok (.iconst 0, 1) := by decide +kernel
theorem dX12_isSo_141 : decode cX12_isSo 141 = .ok (.ireturn, 1) := by decide +kernel
theorem dX12_doOne_0 : decode cX12_doOne 0 = .ok (.aload_n 0, 1) := by decide +kernel
theorem dX12_doOne_1 : decode cX12_doOne 1 = .ok (.getfield 545, 3) := by decide +kernel
theorem dX12_doOne_4 : decode cX12_doOne 4 = .ok (.sipush 300, 3) := by decide +kernel
theorem dX12_doOne_7 : decode cX12_doOne 7 = .ok (.if_icmp .ne 14, 3) := by decide +kernel
theorem dX12_doOne_10 : decode cX12_doOne 10 = .ok (.aload_n 0, 1) := by decide +kernel
theorem dX12_doOne_11 : decode cX12_doOne 11 = .ok (.iconst 1, 1) := by decide +kernel
theorem dX12_doOne_12 : decode cX12_doOne 12 = .ok (.putfield 548, 3) := by decide +kernel
theorem dX12_doOne_15 : decode cX12_doOne 15 = .ok (.aload_n 0, 1) := by decide +kernel
theorem dX12_doOne_16 : decode cX12_doOne 16 = .ok (.iconst 1, 1) := by decide +kernel
theorem dX12_doOne_17 : decode cX12_doOne 17 = .ok (.putfield 551, 3) := by decide +kernel
theorem dX12_doOne_20 : decode cX12_doOne 20 = .ok (.return_, 1) := by decide +kernel
theorem dX12_doOne_21 : decode cX12_doOne 21 = .ok (.aload_n 0, 1) := by decide +kernel
theorem dX12_doOne_22 : decode cX12_doOne 22 = .ok (.dup, 1) := by decide +kernel
theorem dX12_doOne_23 : decode cX12_doOne 23 = .ok (.getfield 545, 3) := by decide +kernel
theorem dX12_doOne_26 : decode cX12_doOne 26 = .ok (.iconst 1, 1) := by decide +kernel
theorem dX12_doOne_27 : decode cX12_doOne 27 = .ok (.iadd, 1) := by decide +kernel
theorem dX12_doOne_28 : decode cX12_doOne 28 = .ok (.putfield 545, 3) := by decide +kernel
theorem dX12_doOne_31 : decode cX12_doOne 31 = .ok (.sipush 325, 3) := by decide +kernel
theorem dX12_doOne_34 : decode cX12_doOne 34 = .ok (.bipush 9, 2) := by decide +kernel
theorem dX12_doOne_36 : decode cX12_doOne 36 = .ok (.iload_n 1, 1) := by decide +kernel
theorem dX12_doOne_37 : decode cX12_doOne 37 = .ok (.imul, 1) := by decide +kernel
theorem dX12_doOne_38 : decode cX12_doOne 38 = .ok (.iadd, 1) := by decide +kernel
theorem dX12_doOne_39 : decode cX12_doOne 39 = .ok (.istore_n 2, 1) := by decide +kernel
theorem dX12_doOne_40 : decode cX12_doOne 40 = .ok (.aload_n 0, 1) := by decide +kernel
theorem dX12_doOne_41 : decode cX12_doOne 41 = .ok (.getfield 35, 3) := by decide +kernel
theorem dX12_doOne_44 : decode cX12_doOne 44 = .ok (.iload_n 2, 1) := by decide +kernel
theorem dX12_doOne_45 : decode cX12_doOne 45 = .ok (.iaload, 1) := by decide +kernel
theorem dX12_doOne_46 : decode cX12_doOne 46 = .ok (.istore_n 3, 1) := by decide +kernel
theorem dX12_doOne_47 : decode cX12_doOne 47 = .ok (.iload_n 3, 1) := by decide +kernel
theorem dX12_doOne_48 : decode cX12_doOne 48 = .ok (.bipush 7, 2) := by decide +kernel
theorem dX12_doOne_50 : decode cX12_doOne 50 = .ok (.if_icmp .ge 28, 3) := by decide +kernel
theorem dX12_doOne_53 : decode cX12_doOne 53 = .ok (.aload_n 0, 1) := by decide +kernel
theorem dX12_doOne_54 : decode cX12_doOne 54 = .ok (.dup, 1) := by decide +kernel
theorem dX12_doOne_55 : decode cX12_doOne 55 = .ok (.getfield 554, 3) := by decide +kernel
theorem dX12_doOne_58 : decode cX12_doOne 58 = .ok (.aload_n 0, 1) := by decide +kernel
theorem dX12_doOne_59 : decode cX12_doOne 59 = .ok (.iload_n 2, 1) := by decide +kernel
theorem dX12_doOne_60 : decode cX12_doOne 60 = .ok (.invokevirtual 557, 3) := by decide +kernel
theorem dX12_doOne_63 : decode cX12_doOne 63 = .ok (.ifCond .eq 7, 3) := by decide +kernel
theorem dX12_doOne_66 : decode cX12_doOne 66 = .ok (.iconst 0, 1) := by decide +kernel
theorem dX12_doOne_67 : decode cX12_doOne 67 = .ok (.goto 4, 3) := by decide +kernel
theorem dX12_doOne_70 : decode cX12_doOne 70 = .ok (.iconst 1, 1) := by decide +kernel
theorem dX12_doOne_71 : decode cX12_doOne 71 = .ok (.iadd, 1) := by decide +kernel
theorem dX12_doOne_72 : decode cX12_doOne 72 = .ok (.putfield 554, 3) := by decide +kernel
theorem dX12_doOne_75 : decode cX12_doOne 75 = .ok (.goto 101, 3) := by decide +kernel
theorem dX12_doOne_78 : decode cX12_doOne 78 = .ok (.iload_n 3, 1) := by decide +kernel
theorem dX12_doOne_79 : decode cX12_doOne 79 = .ok (.bipush 7, 2) := by decide +kernel
theorem dX12_doOne_81 : decode cX12_doOne 81 = .ok (.if_icmp .ne 30, 3) := by decide +kernel
theorem dX12_doOne_84 : decode cX12_doOne 84 = .ok (.aload_n 0, 1) := by decide +kernel
theorem dX12_doOne_85 : decode cX12_doOne 85 = .ok (.iload_n 2, 1) := by decide +kernel
theorem dX12_doOne_86 : decode cX12_doOne 86 = .ok (.invokevirtual 560, 3) := by decide +kernel
theorem dX12_doOne_89 : decode cX12_doOne 89 = .ok (.ifCond .eq 22, 3) := by decide +kernel
theorem dX12_doOne_92 : decode cX12_doOne 92 = .ok (.aload_n 0, 1) := by decide +kernel
theorem dX12_doOne_93 : decode cX12_doOne 93 = .ok (.iload_n 1, 1) := by decide +kernel
theorem dX12_doOne_94 : decode cX12_doOne 94 = .ok (.iconst 1, 1) := by decide +kernel
theorem dX12_doOne_95 : decode cX12_doOne 95 = .ok (.iadd, 1) := by decide +kernel
theorem dX12_doOne_96 : decode cX12_doOne 96 = .ok (.aload_n 0, 1) := by decide +kernel
theorem dX12_doOne_97 : decode cX12_doOne 97 = .ok (.getfield 35, 3) := by decide +kernel
theorem dX12_doOne_100 : decode cX12_doOne 100 = .ok (.iload_n 2, 1) := by decide +kernel
theorem dX12_doOne_101 : decode cX12_doOne 101 = .ok (.bipush 8, 2) := by decide +kernel
theorem dX12_doOne_103 : decode cX12_doOne 103 = .ok (.iadd, 1) := by decide +kernel
theorem dX12_doOne_104 : decode cX12_doOne 104 = .ok (.iaload, 1) := by decide +kernel
theorem dX12_doOne_105 : decode cX12_doOne 105 = .ok (.invokevirtual 563, 3) := by decide +kernel
theorem dX12_doOne_108 : decode cX12_doOne 108 = .ok (.goto 68, 3) := by decide +kernel
theorem dX12_doOne_111 : decode cX12_doOne 111 = .ok (.iload_n 3, 1) := by decide +kernel
theorem dX12_doOne_112 : decode cX12_doOne 112 = .ok (.bipush 8, 2) := by decide +kernel
theorem dX12_doOne_114 : decode cX12_doOne 114 = .ok (.if_icmp .ne 51, 3) := by decide +kernel
theorem dX12_doOne_117 : decode cX12_doOne 117 = .ok (.iconst 0, 1) := by decide +kernel
theorem dX12_doOne_118 : decode cX12_doOne 118 = .ok (.istore 4, 2) := by decide +kernel
theorem dX12_doOne_120 : decode cX12_doOne 120 = .ok (.iload 4, 2) := by decide +kernel
theorem dX12_doOne_122 : decode cX12_doOne 122 = .ok (.aload_n 0, 1) := by decide +kernel
theorem dX12_doOne_123 : decode cX12_doOne 123 = .ok (.getfield 35, 3) := by decide +kernel
theorem dX12_doOne_126 : decode cX12_doOne 126 = .ok (.iload_n 2, 1) := by decide +kernel
theorem dX12_doOne_127 : decode cX12_doOne 127 = .ok (.iconst 1, 1) := by decide +kernel
theorem dX12_doOne_128 : decode cX12_doOne 128 = .ok (.iadd, 1) := by decide +kernel
theorem dX12_doOne_129 : decode cX12_doOne 129 = .ok (.iaload, 1) := by decide +kernel
theorem dX12_doOne_130 : decode cX12_doOne 130 = .ok (.if_icmp .ge 32, 3) := by decide +kernel
theorem dX12_doOne_133 : decode cX12_doOne 133 = .ok (.aload_n 0, 1) := by decide +kernel
theorem dX12_doOne_134 : decode cX12_doOne 134 = .ok (.getfield 548, 3) := by decide +kernel
theorem dX12_doOne_137 : decode cX12_doOne 137 = .ok (.ifCond .ne 25, 3) := by decide +kernel
theorem dX12_doOne_140 : decode cX12_doOne 140 = .ok (.aload_n 0, 1) := by decide +kernel
theorem dX12_doOne_141 : decode cX12_doOne 141 = .ok (.iload_n 1, 1) := by decide +kernel
theorem dX12_doOne_142 : decode cX12_doOne 142 = .ok (.iconst 1, 1) := by decide +kernel
theorem dX12_doOne_143 : decode cX12_doOne 143 = .ok (.iadd, 1) := by decide +kernel
theorem dX12_doOne_144 : decode cX12_doOne 144 = .ok (.aload_n 0, 1) := by decide +kernel
theorem dX12_doOne_145 : decode cX12_doOne 145 = .ok (.getfield 35, 3) := by decide +kernel
theorem dX12_doOne_148 : decode cX12_doOne 148 = .ok (.iload_n 2, 1) := by decide +kernel
theorem dX12_doOne_149 : decode cX12_doOne 149 = .ok (.bipush 8, 2) := by decide +kernel
theorem dX12_doOne_151 : decode cX12_doOne 151 = .ok (.iadd, 1) := by decide +kernel
theorem dX12_doOne_152 : decode cX12_doOne 152 = .ok (.iaload, 1) := by decide +kernel
theorem dX12_doOne_153 : decode cX12_doOne 153 = .ok (.invokevirtual 563, 3) := by decide +kernel
theorem dX12_doOne_156 : decode cX12_doOne 156 = .ok (.iinc 4 1, 3) := by decide +kernel
theorem dX12_doOne_159 : decode cX12_doOne 159 = .ok (.goto (-39), 3) := by decide +kernel
theorem dX12_doOne_162 : decode cX12_doOne 162 = .ok (.goto 14, 3) := by decide +kernel
theorem dX12_doOne_165 : decode cX12_doOne 165 = .ok (.iload_n 3, 1) := by decide +kernel
theorem dX12_doOne_166 : decode cX12_doOne 166 = .ok (.bipush 8, 2) := by decide +kernel
theorem dX12_doOne_168 : decode cX12_doOne 168 = .ok (.if_icmp .le 8, 3) := by decide +kernel
theorem dX12_doOne_171 : decode cX12_doOne 171 = .ok (.aload_n 0, 1) := by decide +kernel
theorem dX12_doOne_172 : decode cX12_doOne 172 = .ok (.iconst 1, 1) := by decide +kernel
theorem dX12_doOne_173 : decode cX12_doOne 173 = .ok (.putfield 548, 3) := by decide +kernel
theorem dX12_doOne_176 : decode cX12_doOne 176 = .ok (.return_, 1) := by decide +kernel
theorem dX12_doAll_0 : decode cX12_doAll 0 = .ok (.iload_n 1, 1) := by decide +kernel
theorem dX12_doAll_1 : decode cX12_doAll 1 = .ok (.istore_n 3, 1) := by decide +kernel
theorem dX12_doAll_2 : decode cX12_doAll 2 = .ok (.iload_n 3, 1) := by decide +kernel
theorem dX12_doAll_3 : decode cX12_doAll 3 = .ok (.iload_n 2, 1) := by decide +kernel
theorem dX12_doAll_4 : decode cX12_doAll 4 = .ok (.if_icmp .ge 35, 3) := by decide +kernel
theorem dX12_doAll_7 : decode cX12_doAll 7 = .ok (.aload_n 0, 1) := by decide +kernel
theorem dX12_doAll_8 : decode cX12_doAll 8 = .ok (.getfield 548, 3) := by decide +kernel
theorem dX12_doAll_11 : decode cX12_doAll 11 = .ok (.ifCond .ne 28, 3) := by decide +kernel
theorem dX12_doAll_14 : decode cX12_doAll 14 = .ok (.aload_n 0, 1) := by decide +kernel
theorem dX12_doAll_15 : decode cX12_doAll 15 = .ok (.iload_n 3, 1) := by decide +kernel
theorem dX12_doAll_16 : decode cX12_doAll 16 = .ok (.invokevirtual 566, 3) := by decide +kernel
theorem dX12_doAll_19 : decode cX12_doAll 19 = .ok (.aload_n 0, 1) := by decide +kernel
theorem dX12_doAll_20 : decode cX12_doAll 20 = .ok (.getfield 35, 3) := by decide +kernel
theorem dX12_doAll_23 : decode cX12_doAll 23 = .ok (.sipush 325, 3) := by decide +kernel
theorem dX12_doAll_26 : decode cX12_doAll 26 = .ok (.bipush 9, 2) := by decide +kernel
theorem dX12_doAll_28 : decode cX12_doAll 28 = .ok (.iload_n 3, 1) := by decide +kernel
theorem dX12_doAll_29 : decode cX12_doAll 29 = .ok (.imul, 1) := by decide +kernel
theorem dX12_doAll_30 : decode cX12_doAll 30 = .ok (.iadd, 1) := by decide +kernel
theorem dX12_doAll_31 : decode cX12_doAll 31 = .ok (.bipush 8, 2) := by decide +kernel
theorem dX12_doAll_33 : decode cX12_doAll 33 = .ok (.iadd, 1) := by decide +kernel
theorem dX12_doAll_34 : decode cX12_doAll 34 = .ok (.iaload, 1) := by decide +kernel
theorem dX12_doAll_35 : decode cX12_doAll 35 = .ok (.istore_n 3, 1) := by decide +kernel
theorem dX12_doAll_36 : decode cX12_doAll 36 = .ok (.goto (-34), 3) := by decide +kernel
theorem dX12_doAll_39 : decode cX12_doAll 39 = .ok (.return_, 1) := by decide +kernel
theorem dX12_plays_0 : decode cX12_plays 0 = .ok (.aload_n 0, 1) := by decide +kernel
theorem dX12_plays_1 : decode cX12_plays 1 = .ok (.iload_n 1, 1) := by decide +kernel
theorem dX12_plays_2 : decode cX12_plays 2 = .ok (.putfield 508, 3) := by decide +kernel
theorem dX12_plays_5 : decode cX12_plays 5 = .ok (.aload_n 0, 1) := by decide +kernel
theorem dX12_plays_6 : decode cX12_plays 6 = .ok (.iconst 0, 1) := by decide +kernel
theorem dX12_plays_7 : decode cX12_plays 7 = .ok (.putfield 545, 3) := by decide +kernel
theorem dX12_plays_10 : decode cX12_plays 10 = .ok (.aload_n 0, 1) := by decide +kernel
theorem dX12_plays_11 : decode cX12_plays 11 = .ok (.iconst 0, 1) := by decide +kernel
theorem dX12_plays_12 : decode cX12_plays 12 = .ok (.putfield 554, 3) := by decide +kernel
theorem dX12_plays_15 : decode cX12_plays 15 = .ok (.aload_n 0, 1) := by decide +kernel
theorem dX12_plays_16 : decode cX12_plays 16 = .ok (.iconst 0, 1) := by decide +kernel
theorem dX12_plays_17 : decode cX12_plays 17 = .ok (.putfield 530, 3) := by decide +kernel
theorem dX12_plays_20 : decode cX12_plays 20 = .ok (.aload_n 0, 1) := by decide +kernel
theorem dX12_plays_21 : decode cX12_plays 21 = .ok (.iconst 0, 1) := by decide +kernel
theorem dX12_plays_22 : decode cX12_plays 22 = .ok (.putfield 521, 3) := by decide +kernel
theorem dX12_plays_25 : decode cX12_plays 25 = .ok (.aload_n 0, 1) := by decide +kernel
theorem dX12_plays_26 : decode cX12_plays 26 = .ok (.iconst 0, 1) := by decide +kernel
theorem dX12_plays_27 : decode cX12_plays 27 = .ok (.putfield 533, 3) := by decide +kernel
theorem dX12_plays_30 : decode cX12_plays 30 = .ok (.aload_n 0, 1) := by decide +kernel
theorem dX12_plays_31 : decode cX12_plays 31 = .ok (.iconst 0, 1) := by decide +kernel
theorem dX12_plays_32 : decode cX12_plays 32 = .ok (.putfield 551, 3) := by decide +kernel
theorem dX12_plays_35 : decode cX12_plays 35 = .ok (.aload_n 0, 1) := by decide +kernel
theorem dX12_plays_36 : decode cX12_plays 36 = .ok (.iconst 0, 1) := by decide +kernel
theorem dX12_plays_37 : decode cX12_plays 37 = .ok (.putfield 515, 3) := by decide +kernel
theorem dX12_plays_40 : decode cX12_plays 40 = .ok (.aload_n 0, 1) := by decide +kernel
theorem dX12_plays_41 : decode cX12_plays 41 = .ok (.iconst 0, 1) := by decide +kernel
theorem dX12_plays_42 : decode cX12_plays 42 = .ok (.putfield 536, 3) := by decide +kernel
theorem dX12_plays_45 : decode cX12_plays 45 = .ok (.aload_n 0, 1) := by decide +kernel
theorem dX12_plays_46 : decode cX12_plays 46 = .ok (.iconst 0, 1) := by decide +kernel
theorem dX12_plays_47 : decode cX12_plays 47 = .ok (.putfield 539, 3) := by decide +kernel
theorem dX12_plays_50 : decode cX12_plays 50 = .ok (.aload_n 0, 1) := by decide +kernel
theorem dX12_plays_51 : decode cX12_plays 51 = .ok (.bipush 20, 2) := by decide +kernel
theorem dX12_plays_53 : decode cX12_plays 53 = .ok (.putfield 518, 3) := by decide +kernel
theorem dX12_plays_56 : decode cX12_plays 56 = .ok (.aload_n 0, 1) := by decide +kernel
theorem dX12_plays_57 : decode cX12_plays 57 = .ok (.iconst 0, 1) := by decide +kernel
theorem dX12_plays_58 : decode cX12_plays 58 = .ok (.putfield 524, 3) := by decide +kernel
theorem dX12_plays_61 : decode cX12_plays 61 = .ok (.aload_n 0, 1) := by decide +kernel
theorem dX12_plays_62 : decode cX12_plays 62 = .ok (.iconst 0, 1) := by decide +kernel
theorem dX12_plays_63 : decode cX12_plays 63 = .ok (.putfield 548, 3) := by decide +kernel
theorem dX12_plays_66 : decode cX12_plays 66 = .ok (.aload_n 0, 1) := by decide +kernel
theorem dX12_plays_67 : decode cX12_plays 67 = .ok (.iconst 0, 1) := by decide +kernel
theorem dX12_plays_68 : decode cX12_plays 68 = .ok (.aload_n 0, 1) := by decide +kernel
theorem dX12_plays_69 : decode cX12_plays 69 = .ok (.getfield 35, 3) := by decide +kernel
theorem dX12_plays_72 : decode cX12_plays 72 = .ok (.sipush 324, 3) := by decide +kernel
theorem dX12_plays_75 : decode cX12_plays 75 = .ok (.iaload, 1) := by decide +kernel
theorem dX12_plays_76 : decode cX12_plays 76 = .ok (.invokevirtual 563, 3) := by decide +kernel
theorem dX12_plays_79 : decode cX12_plays 79 = .ok (.return_, 1) := by decide +kernel
theorem dX12_play_0 : decode cX12_play 0 = .ok (.aload_n 0, 1) := by decide +kernel
theorem dX12_play_1 : decode cX12_play 1 = .ok (.iconst 0, 1) := by decide +kernel
theorem dX12_play_2 : decode cX12_play 2 = .ok (.putfield 63, 3) := by decide +kernel
theorem dX12_play_5 : decode cX12_play 5 = .ok (.aload_n 0, 1) := by decide +kernel
theorem dX12_play_6 : decode cX12_play 6 = .ok (.iconst 0, 1) := by decide +kernel
theorem dX12_play_7 : decode cX12_play 7 = .ok (.putfield 66, 3) := by decide +kernel
theorem dX12_play_10 : decode cX12_play 10 = .ok (.iload_n 1, 1) := by decide +kernel
theorem dX12_play_11 : decode cX12_play 11 = .ok (.i2l, 1) := by decide +kernel
theorem dX12_play_12 : decode cX12_play 12 = .ok (.lconst 0, 1) := by decide +kernel
theorem dX12_play_13 : decode cX12_play 13 = .ok (.ldc2_w 569, 3) := by decide +kernel
theorem dX12_play_16 : decode cX12_play 16 = .ok (.invokestatic 98, 3) := by decide +kernel
theorem dX12_play_19 : decode cX12_play 19 = .ok (.ifCond .ne 9, 3) := by decide +kernel
theorem dX12_play_22 : decode cX12_play 22 = .ok (.aload_n 0, 1) := by decide +kernel
theorem dX12_play_23 : decode cX12_play 23 = .ok (.iconst 5, 1) := by decide +kernel
theorem dX12_play_24 : decode cX12_play 24 = .ok (.invokevirtual 319, 3) := by decide +kernel
theorem dX12_play_27 : decode cX12_play 27 = .ok (.ireturn, 1) := by decide +kernel
theorem dX12_play_28 : decode cX12_play 28 = .ok (.aload_n 0, 1) := by decide +kernel
theorem dX12_play_29 : decode cX12_play 29 = .ok (.getfield 35, 3) := by decide +kernel
theorem dX12_play_32 : decode cX12_play 32 = .ok (.sipush 323, 3) := by decide +kernel
theorem dX12_play_35 : decode cX12_play 35 = .ok (.iaload, 1) := by decide +kernel
theorem dX12_play_36 : decode cX12_play 36 = .ok (.ifCond .ne 10, 3) := by decide +kernel
theorem dX12_play_39 : decode cX12_play 39 = .ok (.aload_n 0, 1) := by decide +kernel
theorem dX12_play_40 : decode cX12_play 40 = .ok (.bipush 8, 2) := by decide +kernel
theorem dX12_play_42 : decode cX12_play 42 = .ok (.invokevirtual 319, 3) := by decide +kernel
theorem dX12_play_45 : decode cX12_play 45 = .ok (.ireturn, 1) := by decide +kernel
theorem dX12_play_46 : decode cX12_play 46 = .ok (.aload_n 0, 1) := by decide +kernel
theorem dX12_play_47 : decode cX12_play 47 = .ok (.iload_n 1, 1) := by decide +kernel
theorem dX12_play_48 : decode cX12_play 48 = .ok (.invokevirtual 571, 3) := by decide +kernel
theorem dX12_play_51 : decode cX12_play 51 = .ok (.aload_n 0, 1) := by decide +kernel
theorem dX12_play_52 : decode cX12_play 52 = .ok (.getfield 56, 3) := by decide +kernel
theorem dX12_play_55 : decode cX12_play 55 = .ok (.iconst 0, 1) := by decide +kernel
theorem dX12_play_56 : decode cX12_play 56 = .ok (.aload_n 0, 1) := by decide +kernel
theorem dX12_play_57 : decode cX12_play 57 = .ok (.getfield 554, 3) := by decide +kernel
theorem dX12_play_60 : decode cX12_play 60 = .ok (.iastore, 1) := by decide +kernel
theorem dX12_play_61 : decode cX12_play 61 = .ok (.aload_n 0, 1) := by decide +kernel
theorem dX12_play_62 : decode cX12_play 62 = .ok (.getfield 56, 3) := by decide +kernel
theorem dX12_play_65 : decode cX12_play 65 = .ok (.iconst 1, 1) := by decide +kernel
theorem dX12_play_66 : decode cX12_play 66 = .ok (.aload_n 0, 1) := by decide +kernel
theorem dX12_play_67 : decode cX12_play 67 = .ok (.getfield 530, 3) := by decide +kernel
theorem dX12_play_70 : decode cX12_play 70 = .ok (.iastore, 1) := by decide +kernel
theorem dX12_play_71 : decode cX12_play 71 = .ok (.aload_n 0, 1) := by decide +kernel
theorem dX12_play_72 : decode cX12_play 72 = .ok (.getfield 56, 3) := by decide +kernel
theorem dX12_play_75 : decode cX12_play 75 = .ok (.iconst 2, 1) := by decide +kernel
theorem dX12_play_76 : decode cX12_play 76 = .ok (.aload_n 0, 1) := by decide +kernel
theorem dX12_play_77 : decode cX12_play 77 = .ok (.getfield 521, 3) := by decide +kernel
theorem dX12_play_80 : decode cX12_play 80 = .ok (.iastore, 1) := by decide +kernel
theorem dX12_play_81 : decode cX12_play 81 = .ok (.aload_n 0, 1) := by decide +kernel
theorem dX12_play_82 : decode cX12_play 82 = .ok (.getfield 56, 3) := by decide +kernel
theorem dX12_play_85 : decode cX12_play 85 = .ok (.iconst 3, 1) := by decide +kernel
theorem dX12_play_86 : decode cX12_play 86 = .ok (.aload_n 0, 1) := by decide +kernel
theorem dX12_play_87 : decode cX12_play 87 = .ok (.getfield 533, 3) := by decide +kernel
theorem dX12_play_90 : decode cX12_play 90 = .ok (.iastore, 1) := by decide +kernel
theorem dX12_play_91 : decode cX12_play 91 = .ok (.aload_n 0, 1) := by decide +kernel
theorem dX12_play_92 : decode cX12_play 92 = .ok (.getfield 56, 3) := by decide +kernel
theorem dX12_play_95 : decode cX12_play 95 = .ok (.iconst 4, 1) := by decide +kernel
theorem dX12_play_96 : decode cX12_play 96 = .ok (.aload_n 0, 1) := by decide +kernel
theorem dX12_play_97 : decode cX12_play 97 = .ok (.getfield 551, 3) := by decide +kernel
theorem dX12_play_100 : decode cX12_play 100 = .ok (.iastore, 1) := by decide +kernel
theorem dX12_play_101 : decode cX12_play 101 = .ok (.aload_n 0, 1) := by decide +kernel
theorem dX12_play_102 : decode cX12_play 102 = .ok (.iconst 1, 1) := by decide +kernel
theorem dX12_play_103 : decode cX12_play 103 = .ok (.putfield 574, 3) := by decide +kernel
theorem dX12_play_106 : decode cX12_play 106 = .ok (.aload_n 0, 1) := by decide +kernel
theorem dX12_play_107 : decode cX12_play 107 = .ok (.getfield 545, 3) := by decide +kernel
theorem dX12_play_110 : decode cX12_play 110 = .ok (.ireturn, 1) := by decide +kernel
theorem dX12_played_0 : decode cX12_played 0 = .ok (.aload_n 0, 1) := by decide +kernel
theorem dX12_played_1 : decode cX12_played 1 = .ok (.iconst 0, 1) := by decide +kernel
theorem dX12_played_2 : decode cX12_played 2 = .ok (.putfield 63, 3) := by decide +kernel
theorem dX12_played_5 : decode cX12_played 5 = .ok (.aload_n 0, 1) := by decide +kernel
theorem dX12_played_6 : decode cX12_played 6 = .ok (.iconst 0, 1) := by decide +kernel
theorem dX12_played_7 : decode cX12_played 7 = .ok (.putfield 66, 3) := by decide +kernel
theorem dX12_played_10 : decode cX12_played 10 = .ok (.iload_n 1, 1) := by decide +kernel
theorem dX12_played_11 : decode cX12_played 11 = .ok (.i2l, 1) := by decide +kernel
theorem dX12_played_12 : decode cX12_played 12 = .ok (.lconst 0, 1) := by decide +kernel
theorem dX12_played_13 : decode cX12_played 13 = .ok (.ldc2_w 147, 3) := by decide +kernel
theorem dX12_played_16 : decode cX12_played 16 = .ok (.invokestatic 98, 3) := by decide +kernel
theorem dX12_played_19 : decode cX12_played 19 = .ok (.ifCond .ne 9, 3) := by decide +kernel
theorem dX12_played_22 : decode cX12_played 22 = .ok (.aload_n 0, 1) := by decide +kernel
theorem dX12_played_23 : decode cX12_played 23 = .ok (.iconst 5, 1) := by decide +kernel
theorem dX12_played_24 : decode cX12_played 24 = .ok (.invokevirtual 319, 3) := by decide +kernel
theorem dX12_played_27 : decode cX12_played 27 = .ok (.ireturn, 1) := by decide +kernel
theorem dX12_played_28 : decode cX12_played 28 = .ok (.aload_n 0, 1) := by decide +kernel
theorem dX12_played_29 : decode cX12_played 29 = .ok (.getfield 574, 3) := by decide +kernel
theorem dX12_played_32 : decode cX12_played 32 = .ok (.ifCond .eq 12, 3) := by decide +kernel
theorem dX12_played_35 : decode cX12_played 35 = .ok (.aload_n 0, 1) := by decide +kernel
theorem dX12_played_36 : decode cX12_played 36 = .ok (.getfield 56, 3) := by decide +kernel
theorem dX12_played_39 : decode cX12_played 39 = .ok (.iload_n 1, 1) := by decide +kernel
theorem dX12_played_40 : decode cX12_played 40 = .ok (.iaload, 1) := by decide +kernel
theorem dX12_played_41 : decode cX12_played 41 = .ok (.goto 9, 3) := by decide +kernel
theorem dX12_played_44 : decode cX12_played 44 = .ok (.aload_n 0, 1) := by decide +kernel
theorem dX12_played_45 : decode cX12_played 45 = .ok (.bipush 8, 2) := by decide +kernel
theorem dX12_played_47 : decode cX12_played 47 = .ok (.invokevirtual 319, 3) := by decide +kernel
theorem dX12_played_50 : decode cX12_played 50 = .ok (.ireturn, 1) := by decide +kernel
theorem dX12_isAhead_0 : decode cX12_isAhead 0 = .ok (.iconst 0, 1) := by decide +kernel
theorem dX12_isAhead_1 : decode cX12_isAhead 1 = .ok (.istore_n 2, 1) := by decide +kernel
theorem dX12_isAhead_2 : decode cX12_isAhead 2 = .ok (.iload_n 2, 1) := by decide +kernel
theorem dX12_isAhead_3 : decode cX12_isAhead 3 = .ok (.aload_n 0, 1) := by decide +kernel
theorem dX12_isAhead_4 : decode cX12_isAhead 4 = .ok (.getfield 35, 3) := by decide +kernel
theorem dX12_isAhead_7 : decode cX12_isAhead 7 = .ok (.bipush 6, 2) := by decide +kernel
theorem dX12_isAhead_9 : decode cX12_isAhead 9 = .ok (.iaload, 1) := by decide +kernel
theorem dX12_isAhead_10 : decode cX12_isAhead 10 = .ok (.if_icmp .ge 37, 3) := by decide +kernel
theorem dX12_isAhead_13 : decode cX12_isAhead 13 = .ok (.iload_n 2, 1) := by decide +kernel
theorem dX12_isAhead_14 : decode cX12_isAhead 14 = .ok (.iload_n 1, 1) := by decide +kernel
theorem dX12_isAhead_15 : decode cX12_isAhead 15 = .ok (.if_icmp .eq 26, 3) := by decide +kernel
theorem dX12_isAhead_18 : decode cX12_isAhead 18 = .ok (.aload_n 0, 1) := by decide +kernel
theorem dX12_isAhead_19 : decode cX12_isAhead 19 = .ok (.getfield 35, 3) := by decide +kernel
theorem dX12_isAhead_22 : decode cX12_isAhead 22 = .ok (.bipush 77, 2) := by decide +kernel
theorem dX12_isAhead_24 : decode cX12_isAhead 24 = .ok (.iload_n 2, 1) := by decide +kernel
theorem dX12_isAhead_25 : decode cX12_isAhead 25 = .ok (.iadd, 1) := by decide +kernel
theorem dX12_isAhead_26 : decode cX12_isAhead 26 = .ok (.iaload, 1) := by decide +kernel
theorem dX12_isAhead_27 : decode cX12_isAhead 27 = .ok (.aload_n 0, 1) := by decide +kernel
theorem dX12_isAhead_28 : decode cX12_isAhead 28 = .ok (.getfield 35, 3) := by decide +kernel
theorem dX12_isAhead_31 : decode cX12_isAhead 31 = .ok (.bipush 77, 2) := by decide +kernel
theorem dX12_isAhead_33 : decode cX12_isAhead 33 = .ok (.iload_n 1, 1) := by decide +kernel
theorem dX12_isAhead_34 : decode cX12_isAhead 34 = .ok (.iadd, 1) := by decide +kernel
theorem dX12_isAhead_35 : decode cX12_isAhead 35 = .ok (.iaload, 1) := by decide +kernel
theorem dX12_isAhead_36 : decode cX12_isAhead 36 = .ok (.if_icmp .lt 5, 3) := by decide +kernel
theorem dX12_isAhead_39 : decode cX12_isAhead 39 = .ok (.iconst 0, 1) := by decide +kernel
theorem dX12_isAhead_40 : decode cX12_isAhead 40 = .ok (.ireturn, 1) := by decide +kernel
theorem dX12_isAhead_41 : decode cX12_isAhead 41 = .ok (.iinc 2 1, 3) := by decide +kernel
theorem dX12_isAhead_44 : decode cX12_isAhead 44 = .ok (.goto (-42), 3) := by decide +kernel
theorem dX12_isAhead_47 : decode cX12_isAhead 47 = .ok (.iconst 1, 1) := by decide +kernel
theorem dX12_isAhead_48 : decode cX12_isAhead 48 = .ok (.ireturn, 1) := by decide +kernel
theorem dX12_wins_0 : decode cX12_wins 0 = .ok (.aload_n 0, 1) := by decide +kernel
theorem dX12_wins_1 : decode cX12_wins 1 = .ok (.iconst 0, 1) := by decide +kernel
theorem dX12_wins_2 : decode cX12_wins 2 = .ok (.putfield 63, 3) := by decide +kernel
theorem dX12_wins_5 : decode cX12_wins 5 = .ok (.aload_n 0, 1) := by decide +kernel
theorem dX12_wins_6 : decode cX12_wins 6 = .ok (.iconst 0, 1) := by decide +kernel
theorem dX12_wins_7 : decode cX12_wins 7 = .ok (.putfield 66, 3) := by decide +kernel
theorem dX12_wins_10 : decode cX12_wins 10 = .ok (.aload_n 0, 1) := by decide +kernel
theorem dX12_wins_11 : decode cX12_wins 11 = .ok (.iload_n 1, 1) := by decide +kernel
theorem dX12_wins_12 : decode cX12_wins 12 = .ok (.invokevirtual 332, 3) := by decide +kernel
theorem dX12_wins_15 : decode cX12_wins 15 = .ok (.ifCond .ne 9, 3) := by decide +kernel
theorem dX12_wins_18 : decode cX12_wins 18 = .ok (.aload_n 0, 1) := by decide +kernel
theorem dX12_wins_19 : decode cX12_wins 19 = .ok (.iconst 2, 1) := by decide +kernel
theorem dX12_wins_20 : decode cX12_wins 20 = .ok (.invokevirtual 78, 3) := by decide +kernel
theorem dX12_wins_23 : decode cX12_wins 23 = .ok (.ireturn, 1) := by decide +kernel
theorem dX12_wins_24 : decode cX12_wins 24 = .ok (.iload_n 3, 1) := by decide +kernel
theorem dX12_wins_25 : decode cX12_wins 25 = .ok (.i2l, 1) := by decide +kernel
theorem dX12_wins_26 : decode cX12_wins 26 = .ok (.lconst 1, 1) := by decide +kernel
theorem dX12_wins_27 : decode cX12_wins 27 = .ok (.ldc2_w 359, 3) := by decide +kernel
theorem dX12_wins_30 : decode cX12_wins 30 = .ok (.invokestatic 98, 3) := by decide +kernel
theorem dX12_wins_33 : decode cX12_wins 33 = .ok (.ifCond .eq 18, 3) := by decide +kernel
theorem dX12_wins_36 : decode cX12_wins 36 = .ok (.iload_n 2, 1) := by decide +kernel
theorem dX12_wins_37 : decode cX12_wins 37 = .ok (.i2l, 1) := by decide +kernel
theorem dX12_wins_38 : decode cX12_wins 38 = .ok (.lconst 0, 1) := by decide +kernel
theorem dX12_wins_39 : decode cX12_wins 39 = .ok (.sipush 10000, 3) := by decide +kernel
theorem dX12_wins_42 : decode cX12_wins 42 = .ok (.iload_n 3, 1) := by decide +kernel
theorem dX12_wins_43 : decode cX12_wins 43 = .ok (.isub, 1) := by decide +kernel
theorem dX12_wins_44 : decode cX12_wins 44 = .ok (.i2l, 1) := by decide +kernel
theorem dX12_wins_45 : decode cX12_wins 45 = .ok (.invokestatic 98, 3) := by decide +kernel
theorem dX12_wins_48 : decode cX12_wins 48 = .ok (.ifCond .ne 9, 3) := by decide +kernel
theorem dX12_wins_51 : decode cX12_wins 51 = .ok (.aload_n 0, 1) := by decide +kernel
theorem dX12_wins_52 : decode cX12_wins 52 = .ok (.iconst 5, 1) := by decide +kernel
theorem dX12_wins_53 : decode cX12_wins 53 = .ok (.invokevirtual 78, 3) := by decide +kernel
theorem dX12_wins_56 : decode cX12_wins 56 = .ok (.ireturn, 1) := by decide +kernel
theorem dX12_wins_57 : decode cX12_wins 57 = .ok (.aload_n 0, 1) := by decide +kernel
theorem dX12_wins_58 : decode cX12_wins 58 = .ok (.getfield 35, 3) := by decide +kernel
theorem dX12_wins_61 : decode cX12_wins 61 = .ok (.sipush 323, 3) := by decide +kernel
theorem dX12_wins_64 : decode cX12_wins 64 = .ok (.iaload, 1) := by decide +kernel
theorem dX12_wins_65 : decode cX12_wins 65 = .ok (.ifCond .ne 10, 3) := by decide +kernel
theorem dX12_wins_68 : decode cX12_wins 68 = .ok (.aload_n 0, 1) := by decide +kernel
theorem dX12_wins_69 : decode cX12_wins 69 = .ok (.bipush 8, 2) := by decide +kernel
theorem dX12_wins_71 : decode cX12_wins 71 = .ok (.invokevirtual 78, 3) := by decide +kernel
theorem dX12_wins_74 : decode cX12_wins 74 = .ok (.ireturn, 1) := by decide +kernel
theorem dX12_wins_75 : decode cX12_wins 75 = .ok (.iconst 0, 1) := by decide +kernel
theorem dX12_wins_76 : decode cX12_wins 76 = .ok (.istore 4, 2) := by decide +kernel
theorem dX12_wins_78 : decode cX12_wins 78 = .ok (.iload 4, 2) := by decide +kernel
theorem dX12_wins_80 : decode cX12_wins 80 = .ok (.sipush 323, 3) := by decide +kernel
theorem dX12_wins_83 : decode cX12_wins 83 = .ok (.if_icmp .ge 23, 3) := by decide +kernel
theorem dX12_wins_86 : decode cX12_wins 86 = .ok (.aload_n 0, 1) := by decide +kernel
theorem dX12_wins_87 : decode cX12_wins 87 = .ok (.getfield 38, 3) := by decide +kernel
theorem dX12_wins_90 : decode cX12_wins 90 = .ok (.iload 4, 2) := by decide +kernel
theorem dX12_wins_92 : decode cX12_wins 92 = .ok (.aload_n 0, 1) := by decide +kernel
theorem dX12_wins_93 : decode cX12_wins 93 = .ok (.getfield 35, 3) := by decide +kernel
theorem dX12_wins_96 : decode cX12_wins 96 = .ok (.iload 4, 2) := by decide +kernel
theorem dX12_wins_98 : decode cX12_wins 98 = .ok (.iaload, 1) := by decide +kernel
theorem dX12_wins_99 : decode cX12_wins 99 = .ok (.iastore, 1) := by decide +kernel
theorem dX12_wins_100 : decode cX12_wins 100 = .ok (.iinc 4 1, 3) := by decide +kernel
theorem dX12_wins_103 : decode cX12_wins 103 = .ok (.goto (-25), 3) := by decide +kernel
theorem dX12_wins_106 : decode cX12_wins 106 = .ok (.iconst 0, 1) := by decide +kernel
theorem dX12_wins_107 : decode cX12_wins 107 = .ok (.istore 4, 2) := by decide +kernel
theorem dX12_wins_109 : decode cX12_wins 109 = .ok (.iconst 0, 1) := by decide +kernel
theorem dX12_wins_110 : decode cX12_wins 110 = .ok (.istore 5, 2) := by decide +kernel
theorem dX12_wins_112 : decode cX12_wins 112 = .ok (.iload 5, 2) := by decide +kernel
theorem dX12_wins_114 : decode cX12_wins 114 = .ok (.iload_n 3, 1) := by decide +kernel
theorem dX12_wins_115 : decode cX12_wins 115 = .ok (.if_icmp .ge 66, 3) := by decide +kernel
theorem dX12_wins_118 : decode cX12_wins 118 = .ok (.aload_n 0, 1) := by decide +kernel
theorem dX12_wins_119 : decode cX12_wins 119 = .ok (.iload_n 2, 1) := by decide +kernel
theorem dX12_wins_120 : decode cX12_wins 120 = .ok (.iload 5, 2) := by decide +kernel
theorem dX12_wins_122 : decode cX12_wins 122 = .ok (.iadd, 1) := by decide +kernel
theorem dX12_wins_123 : decode cX12_wins 123 = .ok (.invokevirtual 571, 3) := by decide +kernel
theorem dX12_wins_126 : decode cX12_wins 126 = .ok (.iload 4, 2) := by decide +kernel
theorem dX12_wins_128 : decode cX12_wins 128 = .ok (.aload_n 0, 1) := by decide +kernel
theorem dX12_wins_129 : decode cX12_wins 129 = .ok (.iload_n 1, 1) := by decide +kernel
theorem dX12_wins_130 : decode cX12_wins 130 = .ok (.invokevirtual 577, 3) := by decide +kernel
theorem dX12_wins_133 : decode cX12_wins 133 = .ok (.ifCond .eq 7, 3) := by decide +kernel
theorem dX12_wins_136 : decode cX12_wins 136 = .ok (.iconst 1, 1) := by decide +kernel
theorem dX12_wins_137 : decode cX12_wins 137 = .ok (.goto 4, 3) := by decide +kernel
theorem dX12_wins_140 : decode cX12_wins 140 = .ok (.iconst 0, 1) := by decide +kernel
theorem dX12_wins_141 : decode cX12_wins 141 = .ok (.iadd, 1) := by decide +kernel
theorem dX12_wins_142 : decode cX12_wins 142 = .ok (.istore 4, 2) := by decide +kernel
theorem dX12_wins_144 : decode cX12_wins 144 = .ok (.iconst 0, 1) := by decide +kernel
theorem dX12_wins_145 : decode cX12_wins 145 = .ok (.istore 6, 2) := by decide +kernel
theorem dX12_wins_147 : decode cX12_wins 147 = .ok (.iload 6, 2) := by decide +kernel
theorem dX12_wins_149 : decode cX12_wins 149 = .ok (.sipush 323, 3) := by decide +kernel
theorem dX12_wins_152 : decode cX12_wins 152 = .ok (.if_icmp .ge 23, 3) := by decide +kernel
theorem dX12_wins_155 : decode cX12_wins 155 = .ok (.aload_n 0, 1) := by decide +kernel
theorem dX12_wins_156 : decode cX12_wins 156 = .ok (.getfield 35, 3) := by decide +kernel
theorem dX12_wins_159 : decode cX12_wins 159 = .ok (.iload 6, 2) := by decide +kernel
theorem dX12_wins_161 : decode cX12_wins 161 = .ok (.aload_n 0, 1) := by decide +kernel
theorem dX12_wins_162 : decode cX12_wins 162 = .ok (.getfield 38, 3) := by decide +kernel
theorem dX12_wins_165 : decode cX12_wins 165 = .ok (.iload 6, 2) := by decide +kernel
theorem dX12_wins_167 : decode cX12_wins 167 = .ok (.iaload, 1) := by decide +kernel
theorem dX12_wins_168 : decode cX12_wins 168 = .ok (.iastore, 1) := by decide +kernel
theorem dX12_wins_169 : decode cX12_wins 169 = .ok (.iinc 6 1, 3) := by decide +kernel
theorem dX12_wins_172 : decode cX12_wins 172 = .ok (.goto (-25), 3) := by decide +kernel
theorem dX12_wins_175 : decode cX12_wins 175 = .ok (.iinc 5 1, 3) := by decide +kernel
theorem dX12_wins_178 : decode cX12_wins 178 = .ok (.goto (-66), 3) := by decide +kernel
theorem dX12_wins_181 : decode cX12_wins 181 = .ok (.aload_n 0, 1) := by decide +kernel
theorem dX12_wins_182 : decode cX12_wins 182 = .ok (.iload 4, 2) := by decide +kernel
theorem dX12_wins_184 : decode cX12_wins 184 = .ok (.i2l, 1) := by decide +kernel
theorem dX12_wins_185 : decode cX12_wins 185 = .ok (.iload_n 3, 1) := by decide +kernel
theorem dX12_wins_186 : decode cX12_wins 186 = .ok (.i2l, 1) := by decide +kernel
theorem dX12_wins_187 : decode cX12_wins 187 = .ok (.invokevirtual 416, 3) := by decide +kernel
theorem dX12_wins_190 : decode cX12_wins 190 = .ok (.ireturn, 1) := by decide +kernel
theorem dX12_mark_0 : decode cX12_mark 0 = .ok (.aload_n 0, 1) := by decide +kernel
theorem dX12_mark_1 : decode cX12_mark 1 = .ok (.iconst 0, 1) := by decide +kernel
theorem dX12_mark_2 : decode cX12_mark 2 = .ok (.putfield 63, 3) := by decide +kernel
theorem dX12_mark_5 : decode cX12_mark 5 = .ok (.aload_n 0, 1) := by decide +kernel
theorem dX12_mark_6 : decode cX12_mark 6 = .ok (.iconst 0, 1) := by decide +kernel
theorem dX12_mark_7 : decode cX12_mark 7 = .ok (.putfield 66, 3) := by decide +kernel
theorem dX12_mark_10 : decode cX12_mark 10 = .ok (.aload_n 0, 1) := by decide +kernel
theorem dX12_mark_11 : decode cX12_mark 11 = .ok (.getfield 580, 3) := by decide +kernel
theorem dX12_mark_14 : decode cX12_mark 14 = .ok (.iconst 3, 1) := by decide +kernel
theorem dX12_mark_15 : decode cX12_mark 15 = .ok (.if_icmp .ne 10, 3) := by decide +kernel
theorem dX12_mark_18 : decode cX12_mark 18 = .ok (.aload_n 0, 1) := by decide +kernel
theorem dX12_mark_19 : decode cX12_mark 19 = .ok (.bipush 7, 2) := by decide +kernel
theorem dX12_mark_21 : decode cX12_mark 21 = .ok (.invokevirtual 319, 3) := by decide +kernel
theorem dX12_mark_24 : decode cX12_mark 24 = .ok (.ireturn, 1) := by decide +kernel
theorem dX12_mark_25 : decode cX12_mark 25 = .ok (.aload_n 0, 1) := by decide +kernel
theorem dX12_mark_26 : decode cX12_mark 26 = .ok (.dup, 1) := by decide +kernel
theorem dX12_mark_27 : decode cX12_mark 27 = .ok (.getfield 580, 3) := by decide +kernel
theorem dX12_mark_30 : decode cX12_mark 30 = .ok (.iconst 1, 1) := by decide +kernel
theorem dX12_mark_31 : decode cX12_mark 31 = .ok (.iadd, 1) := by decide +kernel
theorem dX12_mark_32 : decode cX12_mark 32 = .ok (.putfield 580, 3) := by decide +kernel
theorem dX12_mark_35 : decode cX12_mark 35 = .ok (.aload_n 0, 1) := by decide +kernel
theorem dX12_mark_36 : decode cX12_mark 36 = .ok (.iconst 0, 1) := by decide +kernel
theorem dX12_mark_37 : decode cX12_mark 37 = .ok (.aload_n 0, 1) := by decide +kernel
theorem dX12_mark_38 : decode cX12_mark 38 = .ok (.getfield 580, 3) := by decide +kernel
theorem dX12_mark_41 : decode cX12_mark 41 = .ok (.invokevirtual 295, 3) := by decide +kernel
theorem dX12_mark_44 : decode cX12_mark 44 = .ok (.aload_n 0, 1) := by decide +kernel
theorem dX12_mark_45 : decode cX12_mark 45 = .ok (.getfield 580, 3) := by decide +kernel
theorem dX12_mark_48 : decode cX12_mark 48 = .ok (.ireturn, 1) := by decide +kernel
theorem dX12_back_0 : decode cX12_back 0 = .ok (.aload_n 0, 1) := by decide +kernel
theorem dX12_back_1 : decode cX12_back 1 = .ok (.iconst 0, 1) := by decide +kernel
theorem dX12_back_2 : decode cX12_back 2 = .ok (.putfield 63, 3) := by decide +kernel
theorem dX12_back_5 : decode cX12_back 5 = .ok (.aload_n 0, 1) := by decide +kernel
theorem dX12_back_6 : decode cX12_back 6 = .ok (.iconst 0, 1) := by decide +kernel
theorem dX12_back_7 : decode cX12_back 7 = .ok (.putfield 66, 3) := by decide +kernel
theorem dX12_back_10 : decode cX12_back 10 = .ok (.aload_n 0, 1) := by decide +kernel
theorem dX12_back_11 : decode cX12_back 11 = .ok (.getfield 580, 3) := by decide +kernel
theorem dX12_back_14 : decode cX12_back 14 = .ok (.ifCond .ne 10, 3) := by decide +kernel
theorem dX12_back_17 : decode cX12_back 17 = .ok (.aload_n 0, 1) := by decide +kernel
theorem dX12_back_18 : decode cX12_back 18 = .ok (.bipush 8, 2) := by decide +kernel
theorem dX12_back_20 : decode cX12_back 20 = .ok (.invokevirtual 319, 3) := by decide +kernel
theorem dX12_back_23 : decode cX12_back 23 = .ok (.ireturn, 1) := by decide +kernel
theorem dX12_back_24 : decode cX12_back 24 = .ok (.aload_n 0, 1) := by decide +kernel
theorem dX12_back_25 : decode cX12_back 25 = .ok (.aload_n 0, 1) := by decide +kernel
theorem dX12_back_26 : decode cX12_back 26 = .ok (.getfield 580, 3) := by decide +kernel
theorem dX12_back_29 : decode cX12_back 29 = .ok (.iconst 0, 1) := by decide +kernel
theorem dX12_back_30 : decode cX12_back 30 = .ok (.invokevirtual 295, 3) := by decide +kernel
theorem dX12_back_33 : decode cX12_back 33 = .ok (.aload_n 0, 1) := by decide +kernel
theorem dX12_back_34 : decode cX12_back 34 = .ok (.dup, 1) := by decide +kernel
theorem dX12_back_35 : decode cX12_back 35 = .ok (.getfield 580, 3) := by decide +kernel
theorem dX12_back_38 : decode cX12_back 38 = .ok (.iconst 1, 1) := by decide +kernel
theorem dX12_back_39 : decode cX12_back 39 = .ok (.isub, 1) := by decide +kernel
theorem dX12_back_40 : decode cX12_back 40 = .ok (.putfield 580, 3) := by decide +kernel
theorem dX12_back_43 : decode cX12_back 43 = .ok (.aload_n 0, 1) := by decide +kernel
theorem dX12_back_44 : decode cX12_back 44 = .ok (.getfield 580, 3) := by decide +kernel
theorem dX12_back_47 : decode cX12_back 47 = .ok (.ireturn, 1) := by decide +kernel
