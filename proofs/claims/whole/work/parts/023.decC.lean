theorem dX12_status_0 : decode cX12_status 0 = .ok (.aload_n 0, 1) := by decide +kernel
theorem dX12_status_1 : decode cX12_status 1 = .ok (.iconst 0, 1) := by decide +kernel
theorem dX12_status_2 : decode cX12_status 2 = .ok (.putfield 63, 3) := by decide +kernel
theorem dX12_status_5 : decode cX12_status 5 = .ok (.aload_n 0, 1) := by decide +kernel
theorem dX12_status_6 : decode cX12_status 6 = .ok (.getfield 66, 3) := by decide +kernel
theorem dX12_status_9 : decode cX12_status 9 = .ok (.ireturn, 1) := by decide +kernel
theorem dX12_top_0 : decode cX12_top 0 = .ok (.aload_n 0, 1) := by decide +kernel
theorem dX12_top_1 : decode cX12_top 1 = .ok (.iconst 0, 1) := by decide +kernel
theorem dX12_top_2 : decode cX12_top 2 = .ok (.putfield 63, 3) := by decide +kernel
theorem dX12_top_5 : decode cX12_top 5 = .ok (.aload_n 0, 1) := by decide +kernel
theorem dX12_top_6 : decode cX12_top 6 = .ok (.getfield 69, 3) := by decide +kernel
theorem dX12_top_9 : decode cX12_top 9 = .ok (.lreturn, 1) := by decide +kernel
theorem dX12_bottom_0 : decode cX12_bottom 0 = .ok (.aload_n 0, 1) := by decide +kernel
theorem dX12_bottom_1 : decode cX12_bottom 1 = .ok (.iconst 0, 1) := by decide +kernel
theorem dX12_bottom_2 : decode cX12_bottom 2 = .ok (.putfield 63, 3) := by decide +kernel
theorem dX12_bottom_5 : decode cX12_bottom 5 = .ok (.aload_n 0, 1) := by decide +kernel
theorem dX12_bottom_6 : decode cX12_bottom 6 = .ok (.getfield 7, 3) := by decide +kernel
theorem dX12_bottom_9 : decode cX12_bottom 9 = .ok (.lreturn, 1) := by decide +kernel
theorem dX12_no_0 : decode cX12_no 0 = .ok (.aload_n 0, 1) := by decide +kernel
theorem dX12_no_1 : decode cX12_no 1 = .ok (.iload_n 1, 1) := by decide +kernel
theorem dX12_no_2 : decode cX12_no 2 = .ok (.putfield 66, 3) := by decide +kernel
theorem dX12_no_5 : decode cX12_no 5 = .ok (.iconst 0, 1) := by decide +kernel
theorem dX12_no_6 : decode cX12_no 6 = .ok (.ireturn, 1) := by decide +kernel
theorem dX12_tray_0 : decode cX12_tray 0 = .ok (.aload_n 0, 1) := by decide +kernel
theorem dX12_tray_1 : decode cX12_tray 1 = .ok (.iconst 0, 1) := by decide +kernel
theorem dX12_tray_2 : decode cX12_tray 2 = .ok (.putfield 63, 3) := by decide +kernel
theorem dX12_tray_5 : decode cX12_tray 5 = .ok (.aload_n 0, 1) := by decide +kernel
theorem dX12_tray_6 : decode cX12_tray 6 = .ok (.iconst 0, 1) := by decide +kernel
theorem dX12_tray_7 : decode cX12_tray 7 = .ok (.putfield 66, 3) := by decide +kernel
theorem dX12_tray_10 : decode cX12_tray 10 = .ok (.iload_n 1, 1) := by decide +kernel
theorem dX12_tray_11 : decode cX12_tray 11 = .ok (.ifCond .lt 17, 3) := by decide +kernel
theorem dX12_tray_14 : decode cX12_tray 14 = .ok (.iload_n 1, 1) := by decide +kernel
theorem dX12_tray_15 : decode cX12_tray 15 = .ok (.iconst 4, 1) := by decide +kernel
theorem dX12_tray_16 : decode cX12_tray 16 = .ok (.if_icmp .ge 12, 3) := by decide +kernel
theorem dX12_tray_19 : decode cX12_tray 19 = .ok (.iload_n 2, 1) := by decide +kernel
theorem dX12_tray_20 : decode cX12_tray 20 = .ok (.ifCond .lt 8, 3) := by decide +kernel
theorem dX12_tray_23 : decode cX12_tray 23 = .ok (.iload_n 2, 1) := by decide +kernel
theorem dX12_tray_24 : decode cX12_tray 24 = .ok (.iconst 3, 1) := by decide +kernel
theorem dX12_tray_25 : decode cX12_tray 25 = .ok (.if_icmp .le 9, 3) := by decide +kernel
theorem dX12_tray_28 : decode cX12_tray 28 = .ok (.aload_n 0, 1) := by decide +kernel
theorem dX12_tray_29 : decode cX12_tray 29 = .ok (.iconst 1, 1) := by decide +kernel
theorem dX12_tray_30 : decode cX12_tray 30 = .ok (.invokevirtual 78, 3) := by decide +kernel
theorem dX12_tray_33 : decode cX12_tray 33 = .ok (.ireturn, 1) := by decide +kernel
theorem dX12_tray_34 : decode cX12_tray 34 = .ok (.iload_n 3, 1) := by decide +kernel
theorem dX12_tray_35 : decode cX12_tray 35 = .ok (.bipush 60, 2) := by decide +kernel
theorem dX12_tray_37 : decode cX12_tray 37 = .ok (.if_icmp .le 9, 3) := by decide +kernel
theorem dX12_tray_40 : decode cX12_tray 40 = .ok (.aload_n 0, 1) := by decide +kernel
theorem dX12_tray_41 : decode cX12_tray 41 = .ok (.iconst 5, 1) := by decide +kernel
theorem dX12_tray_42 : decode cX12_tray 42 = .ok (.invokevirtual 78, 3) := by decide +kernel
theorem dX12_tray_45 : decode cX12_tray 45 = .ok (.ireturn, 1) := by decide +kernel
theorem dX12_tray_46 : decode cX12_tray 46 = .ok (.iload_n 3, 1) := by decide +kernel
theorem dX12_tray_47 : decode cX12_tray 47 = .ok (.ifCond .ge 10, 3) := by decide +kernel
theorem dX12_tray_50 : decode cX12_tray 50 = .ok (.aload_n 0, 1) := by decide +kernel
theorem dX12_tray_51 : decode cX12_tray 51 = .ok (.bipush 6, 2) := by decide +kernel
theorem dX12_tray_53 : decode cX12_tray 53 = .ok (.invokevirtual 78, 3) := by decide +kernel
theorem dX12_tray_56 : decode cX12_tray 56 = .ok (.ireturn, 1) := by decide +kernel
theorem dX12_tray_57 : decode cX12_tray 57 = .ok (.aload_n 0, 1) := by decide +kernel
theorem dX12_tray_58 : decode cX12_tray 58 = .ok (.getfield 13, 3) := by decide +kernel
theorem dX12_tray_61 : decode cX12_tray 61 = .ok (.iload_n 1, 1) := by decide +kernel
theorem dX12_tray_62 : decode cX12_tray 62 = .ok (.iload_n 2, 1) := by decide +kernel
theorem dX12_tray_63 : decode cX12_tray 63 = .ok (.iastore, 1) := by decide +kernel
theorem dX12_tray_64 : decode cX12_tray 64 = .ok (.aload_n 0, 1) := by decide +kernel
theorem dX12_tray_65 : decode cX12_tray 65 = .ok (.getfield 17, 3) := by decide +kernel
theorem dX12_tray_68 : decode cX12_tray 68 = .ok (.iload_n 1, 1) := by decide +kernel
theorem dX12_tray_69 : decode cX12_tray 69 = .ok (.iload_n 3, 1) := by decide +kernel
theorem dX12_tray_70 : decode cX12_tray 70 = .ok (.iastore, 1) := by decide +kernel
theorem dX12_tray_71 : decode cX12_tray 71 = .ok (.iconst 0, 1) := by decide +kernel
theorem dX12_tray_72 : decode cX12_tray 72 = .ok (.istore 4, 2) := by decide +kernel
theorem dX12_tray_74 : decode cX12_tray 74 = .ok (.iload 4, 2) := by decide +kernel
theorem dX12_tray_76 : decode cX12_tray 76 = .ok (.iload_n 3, 1) := by decide +kernel
theorem dX12_tray_77 : decode cX12_tray 77 = .ok (.if_icmp .ge 22, 3) := by decide +kernel
theorem dX12_tray_80 : decode cX12_tray 80 = .ok (.aload_n 0, 1) := by decide +kernel
theorem dX12_tray_81 : decode cX12_tray 81 = .ok (.getfield 20, 3) := by decide +kernel
theorem dX12_tray_84 : decode cX12_tray 84 = .ok (.bipush 60, 2) := by decide +kernel
theorem dX12_tray_86 : decode cX12_tray 86 = .ok (.iload_n 1, 1) := by decide +kernel
theorem dX12_tray_87 : decode cX12_tray 87 = .ok (.imul, 1) := by decide +kernel
theorem dX12_tray_88 : decode cX12_tray 88 = .ok (.iload 4, 2) := by decide +kernel
theorem dX12_tray_90 : decode cX12_tray 90 = .ok (.iadd, 1) := by decide +kernel
theorem dX12_tray_91 : decode cX12_tray 91 = .ok (.lconst 0, 1) := by decide +kernel
theorem dX12_tray_92 : decode cX12_tray 92 = .ok (.lastore, 1) := by decide +kernel
theorem dX12_tray_93 : decode cX12_tray 93 = .ok (.iinc 4 1, 3) := by decide +kernel
theorem dX12_tray_96 : decode cX12_tray 96 = .ok (.goto (-22), 3) := by decide +kernel
theorem dX12_tray_99 : decode cX12_tray 99 = .ok (.iconst 1, 1) := by decide +kernel
theorem dX12_tray_100 : decode cX12_tray 100 = .ok (.ireturn, 1) := by decide +kernel
theorem dX12_trayed_0 : decode cX12_trayed 0 = .ok (.iload_n 1, 1) := by decide +kernel
theorem dX12_trayed_1 : decode cX12_trayed 1 = .ok (.ifCond .lt 8, 3) := by decide +kernel
theorem dX12_trayed_4 : decode cX12_trayed 4 = .ok (.iload_n 1, 1) := by decide +kernel
theorem dX12_trayed_5 : decode cX12_trayed 5 = .ok (.iconst 4, 1) := by decide +kernel
theorem dX12_trayed_6 : decode cX12_trayed 6 = .ok (.if_icmp .lt 7, 3) := by decide +kernel
theorem dX12_trayed_9 : decode cX12_trayed 9 = .ok (.iconst 1, 1) := by decide +kernel
theorem dX12_trayed_10 : decode cX12_trayed 10 = .ok (.goto 17, 3) := by decide +kernel
theorem dX12_trayed_13 : decode cX12_trayed 13 = .ok (.aload_n 0, 1) := by decide +kernel
theorem dX12_trayed_14 : decode cX12_trayed 14 = .ok (.getfield 17, 3) := by decide +kernel
theorem dX12_trayed_17 : decode cX12_trayed 17 = .ok (.iload_n 1, 1) := by decide +kernel
theorem dX12_trayed_18 : decode cX12_trayed 18 = .ok (.iaload, 1) := by decide +kernel
theorem dX12_trayed_19 : decode cX12_trayed 19 = .ok (.ifCond .ge 7, 3) := by decide +kernel
theorem dX12_trayed_22 : decode cX12_trayed 22 = .ok (.iconst 3, 1) := by decide +kernel
theorem dX12_trayed_23 : decode cX12_trayed 23 = .ok (.goto 4, 3) := by decide +kernel
theorem dX12_trayed_26 : decode cX12_trayed 26 = .ok (.iconst 0, 1) := by decide +kernel
theorem dX12_trayed_27 : decode cX12_trayed 27 = .ok (.ireturn, 1) := by decide +kernel
theorem dX12_placed_0 : decode cX12_placed 0 = .ok (.aload_n 0, 1) := by decide +kernel
theorem dX12_placed_1 : decode cX12_placed 1 = .ok (.iload_n 1, 1) := by decide +kernel
theorem dX12_placed_2 : decode cX12_placed 2 = .ok (.invokevirtual 82, 3) := by decide +kernel
theorem dX12_placed_5 : decode cX12_placed 5 = .ok (.istore_n 3, 1) := by decide +kernel
theorem dX12_placed_6 : decode cX12_placed 6 = .ok (.iload_n 3, 1) := by decide +kernel
theorem dX12_placed_7 : decode cX12_placed 7 = .ok (.ifCond .le 7, 3) := by decide +kernel
theorem dX12_placed_10 : decode cX12_placed 10 = .ok (.iload_n 3, 1) := by decide +kernel
theorem dX12_placed_11 : decode cX12_placed 11 = .ok (.goto 22, 3) := by decide +kernel
theorem dX12_placed_14 : decode cX12_placed 14 = .ok (.iload_n 2, 1) := by decide +kernel
theorem dX12_placed_15 : decode cX12_placed 15 = .ok (.ifCond .lt 13, 3) := by decide +kernel
theorem dX12_placed_18 : decode cX12_placed 18 = .ok (.iload_n 2, 1) := by decide +kernel
theorem dX12_placed_19 : decode cX12_placed 19 = .ok (.aload_n 0, 1) := by decide +kernel
theorem dX12_placed_20 : decode cX12_placed 20 = .ok (.getfield 17, 3) := by decide +kernel
theorem dX12_placed_23 : decode cX12_placed 23 = .ok (.iload_n 1, 1) := by decide +kernel
theorem dX12_placed_24 : decode cX12_placed 24 = .ok (.iaload, 1) := by decide +kernel
theorem dX12_placed_25 : decode cX12_placed 25 = .ok (.if_icmp .lt 7, 3) := by decide +kernel
theorem dX12_placed_28 : decode cX12_placed 28 = .ok (.iconst 4, 1) := by decide +kernel
theorem dX12_placed_29 : decode cX12_placed 29 = .ok (.goto 4, 3) := by decide +kernel
theorem dX12_placed_32 : decode cX12_placed 32 = .ok (.iconst 0, 1) := by decide +kernel
theorem dX12_placed_33 : decode cX12_placed 33 = .ok (.ireturn, 1) := by decide +kernel
theorem dX12_cut_0 : decode cX12_cut 0 = .ok (.iload_n 0, 1) := by decide +kernel
theorem dX12_cut_1 : decode cX12_cut 1 = .ok (.ifCond .ne 10, 3) := by decide +kernel
theorem dX12_cut_4 : decode cX12_cut 4 = .ok (.lload_n 1, 1) := by decide +kernel
theorem dX12_cut_5 : decode cX12_cut 5 = .ok (.l2i, 1) := by decide +kernel
theorem dX12_cut_6 : decode cX12_cut 6 = .ok (.i2b, 1) := by decide +kernel
theorem dX12_cut_7 : decode cX12_cut 7 = .ok (.i2l, 1) := by decide +kernel
theorem dX12_cut_8 : decode cX12_cut 8 = .ok (.goto 27, 3) := by decide +kernel
theorem dX12_cut_11 : decode cX12_cut 11 = .ok (.iload_n 0, 1) := by decide +kernel
theorem dX12_cut_12 : decode cX12_cut 12 = .ok (.iconst 1, 1) := by decide +kernel
theorem dX12_cut_13 : decode cX12_cut 13 = .ok (.if_icmp .ne 10, 3) := by decide +kernel
theorem dX12_cut_16 : decode cX12_cut 16 = .ok (.lload_n 1, 1) := by decide +kernel
theorem dX12_cut_17 : decode cX12_cut 17 = .ok (.l2i, 1) := by decide +kernel
theorem dX12_cut_18 : decode cX12_cut 18 = .ok (.i2s, 1) := by decide +kernel
theorem dX12_cut_19 : decode cX12_cut 19 = .ok (.i2l, 1) := by decide +kernel
theorem dX12_cut_20 : decode cX12_cut 20 = .ok (.goto 15, 3) := by decide +kernel
theorem dX12_cut_23 : decode cX12_cut 23 = .ok (.iload_n 0, 1) := by decide +kernel
theorem dX12_cut_24 : decode cX12_cut 24 = .ok (.iconst 2, 1) := by decide +kernel
theorem dX12_cut_25 : decode cX12_cut 25 = .ok (.if_icmp .ne 9, 3) := by decide +kernel
theorem dX12_cut_28 : decode cX12_cut 28 = .ok (.lload_n 1, 1) := by decide +kernel
theorem dX12_cut_29 : decode cX12_cut 29 = .ok (.l2i, 1) := by decide +kernel
theorem dX12_cut_30 : decode cX12_cut 30 = .ok (.i2l, 1) := by decide +kernel
theorem dX12_cut_31 : decode cX12_cut 31 = .ok (.goto 4, 3) := by decide +kernel
theorem dX12_cut_34 : decode cX12_cut 34 = .ok (.lload_n 1, 1) := by decide +kernel
theorem dX12_cut_35 : decode cX12_cut 35 = .ok (.lreturn, 1) := by decide +kernel
theorem dX12_write_0 : decode cX12_write 0 = .ok (.aload_n 0, 1) := by decide +kernel
theorem dX12_write_1 : decode cX12_write 1 = .ok (.iconst 0, 1) := by decide +kernel
theorem dX12_write_2 : decode cX12_write 2 = .ok (.putfield 63, 3) := by decide +kernel
theorem dX12_write_5 : decode cX12_write 5 = .ok (.aload_n 0, 1) := by decide +kernel
theorem dX12_write_6 : decode cX12_write 6 = .ok (.aload_n 0, 1) := by decide +kernel
theorem dX12_write_7 : decode cX12_write 7 = .ok (.iload_n 1, 1) := by decide +kernel
theorem dX12_write_8 : decode cX12_write 8 = .ok (.iload_n 2, 1) := by decide +kernel
theorem dX12_write_9 : decode cX12_write 9 = .ok (.invokevirtual 86, 3) := by decide +kernel
theorem dX12_write_12 : decode cX12_write 12 = .ok (.putfield 66, 3) := by decide +kernel
theorem dX12_write_15 : decode cX12_write 15 = .ok (.aload_n 0, 1) := by decide +kernel
theorem dX12_write_16 : decode cX12_write 16 = .ok (.getfield 66, 3) := by decide +kernel
theorem dX12_write_19 : decode cX12_write 19 = .ok (.ifCond .le 5, 3) := by decide +kernel
theorem dX12_write_22 : decode cX12_write 22 = .ok (.iconst 0, 1) := by decide +kernel
theorem dX12_write_23 : decode cX12_write 23 = .ok (.ireturn, 1) := by decide +kernel
theorem dX12_write_24 : decode cX12_write 24 = .ok (.aload_n 0, 1) := by decide +kernel
theorem dX12_write_25 : decode cX12_write 25 = .ok (.getfield 20, 3) := by decide +kernel
theorem dX12_write_28 : decode cX12_write 28 = .ok (.bipush 60, 2) := by decide +kernel
theorem dX12_write_30 : decode cX12_write 30 = .ok (.iload_n 1, 1) := by decide +kernel
theorem dX12_write_31 : decode cX12_write 31 = .ok (.imul, 1) := by decide +kernel
theorem dX12_write_32 : decode cX12_write 32 = .ok (.iload_n 2, 1) := by decide +kernel
theorem dX12_write_33 : decode cX12_write 33 = .ok (.iadd, 1) := by decide +kernel
theorem dX12_write_34 : decode cX12_write 34 = .ok (.aload_n 0, 1) := by decide +kernel
theorem dX12_write_35 : decode cX12_write 35 = .ok (.getfield 13, 3) := by decide +kernel
theorem dX12_write_38 : decode cX12_write 38 = .ok (.iload_n 1, 1) := by decide +kernel
theorem dX12_write_39 : decode cX12_write 39 = .ok (.iaload, 1) := by decide +kernel
theorem dX12_write_40 : decode cX12_write 40 = .ok (.lload_n 3, 1) := by decide +kernel
theorem dX12_write_41 : decode cX12_write 41 = .ok (.invokestatic 90, 3) := by decide +kernel
theorem dX12_write_44 : decode cX12_write 44 = .ok (.lastore, 1) := by decide +kernel
theorem dX12_write_45 : decode cX12_write 45 = .ok (.iconst 1, 1) := by decide +kernel
theorem dX12_write_46 : decode cX12_write 46 = .ok (.ireturn, 1) := by decide +kernel
theorem dX12_read_0 : decode cX12_read 0 = .ok (.aload_n 0, 1) := by decide +kernel
theorem dX12_read_1 : decode cX12_read 1 = .ok (.iconst 0, 1) := by decide +kernel
theorem dX12_read_2 : decode cX12_read 2 = .ok (.putfield 63, 3) := by decide +kernel
theorem dX12_read_5 : decode cX12_read 5 = .ok (.aload_n 0, 1) := by decide +kernel
theorem dX12_read_6 : decode cX12_read 6 = .ok (.aload_n 0, 1) := by decide +kernel
theorem dX12_read_7 : decode cX12_read 7 = .ok (.iload_n 1, 1) := by decide +kernel
theorem dX12_read_8 : decode cX12_read 8 = .ok (.iload_n 2, 1) := by decide +kernel
theorem dX12_read_9 : decode cX12_read 9 = .ok (.invokevirtual 86, 3) := by decide +kernel
theorem dX12_read_12 : decode cX12_read 12 = .ok (.putfield 66, 3) := by decide +kernel
theorem dX12_read_15 : decode cX12_read 15 = .ok (.aload_n 0, 1) := by decide +kernel
theorem dX12_read_16 : decode cX12_read 16 = .ok (.getfield 66, 3) := by decide +kernel
theorem dX12_read_19 : decode cX12_read 19 = .ok (.ifCond .le 9, 3) := by decide +kernel
theorem dX12_read_22 : decode cX12_read 22 = .ok (.ldc2_w 94, 3) := by decide +kernel
theorem dX12_read_25 : decode cX12_read 25 = .ok (.goto 14, 3) := by decide +kernel
theorem dX12_read_28 : decode cX12_read 28 = .ok (.aload_n 0, 1) := by decide +kernel
theorem dX12_read_29 : decode cX12_read 29 = .ok (.getfield 20, 3) := by decide +kernel
theorem dX12_read_32 : decode cX12_read 32 = .ok (.bipush 60, 2) := by decide +kernel
theorem dX12_read_34 : decode cX12_read 34 = .ok (.iload_n 1, 1) := by decide +kernel
theorem dX12_read_35 : decode cX12_read 35 = .ok (.imul, 1) := by decide +kernel
theorem dX12_read_36 : decode cX12_read 36 = .ok (.iload_n 2, 1) := by decide +kernel
theorem dX12_read_37 : decode cX12_read 37 = .ok (.iadd, 1) := by decide +kernel
theorem dX12_read_38 : decode cX12_read 38 = .ok (.laload, 1) := by decide +kernel
theorem dX12_read_39 : decode cX12_read 39 = .ok (.lreturn, 1) := by decide +kernel
theorem dX12_pour_0 : decode cX12_pour 0 = .ok (.aload_n 0, 1) := by decide +kernel
theorem dX12_pour_1 : decode cX12_pour 1 = .ok (.iconst 0, 1) := by decide +kernel
theorem dX12_pour_2 : decode cX12_pour 2 = .ok (.putfield 63, 3) := by decide +kernel
theorem dX12_pour_5 : decode cX12_pour 5 = .ok (.aload_n 0, 1) := by decide +kernel
theorem dX12_pour_6 : decode cX12_pour 6 = .ok (.iconst 0, 1) := by decide +kernel
theorem dX12_pour_7 : decode cX12_pour 7 = .ok (.putfield 66, 3) := by decide +kernel
theorem dX12_pour_10 : decode cX12_pour 10 = .ok (.iload_n 1, 1) := by decide +kernel
theorem dX12_pour_11 : decode cX12_pour 11 = .ok (.ifCond .lt 17, 3) := by decide +kernel
theorem dX12_pour_14 : decode cX12_pour 14 = .ok (.iload_n 1, 1) := by decide +kernel
theorem dX12_pour_15 : decode cX12_pour 15 = .ok (.iconst 4, 1) := by decide +kernel
theorem dX12_pour_16 : decode cX12_pour 16 = .ok (.if_icmp .ge 12, 3) := by decide +kernel
theorem dX12_pour_19 : decode cX12_pour 19 = .ok (.iload_n 3, 1) := by decide +kernel
theorem dX12_pour_20 : decode cX12_pour 20 = .ok (.ifCond .lt 8, 3) := by decide +kernel
theorem dX12_pour_23 : decode cX12_pour 23 = .ok (.iload_n 3, 1) := by decide +kernel
theorem dX12_pour_24 : decode cX12_pour 24 = .ok (.iconst 4, 1) := by decide +kernel
theorem dX12_pour_25 : decode cX12_pour 25 = .ok (.if_icmp .lt 9, 3) := by decide +kernel
theorem dX12_pour_28 : decode cX12_pour 28 = .ok (.aload_n 0, 1) := by decide +kernel
theorem dX12_pour_29 : decode cX12_pour 29 = .ok (.iconst 1, 1) := by decide +kernel
theorem dX12_pour_30 : decode cX12_pour 30 = .ok (.invokevirtual 78, 3) := by decide +kernel
theorem dX12_pour_33 : decode cX12_pour 33 = .ok (.ireturn, 1) := by decide +kernel
theorem dX12_pour_34 : decode cX12_pour 34 = .ok (.aload_n 0, 1) := by decide +kernel
theorem dX12_pour_35 : decode cX12_pour 35 = .ok (.getfield 17, 3) := by decide +kernel
theorem dX12_pour_38 : decode cX12_pour 38 = .ok (.iload_n 1, 1) := by decide +kernel
theorem dX12_pour_39 : decode cX12_pour 39 = .ok (.iaload, 1) := by decide +kernel
theorem dX12_pour_40 : decode cX12_pour 40 = .ok (.ifCond .lt 12, 3) := by decide +kernel
theorem dX12_pour_43 : decode cX12_pour 43 = .ok (.aload_n 0, 1) := by decide +kernel
theorem dX12_pour_44 : decode cX12_pour 44 = .ok (.getfield 17, 3) := by decide +kernel
theorem dX12_pour_47 : decode cX12_pour 47 = .ok (.iload_n 3, 1) := by decide +kernel
theorem dX12_pour_48 : decode cX12_pour 48 = .ok (.iaload, 1) := by decide +kernel
theorem dX12_pour_49 : decode cX12_pour 49 = .ok (.ifCond .ge 9, 3) := by decide +kernel
theorem dX12_pour_52 : decode cX12_pour 52 = .ok (.aload_n 0, 1) := by decide +kernel
theorem dX12_pour_53 : decode cX12_pour 53 = .ok (.iconst 3, 1) := by decide +kernel
theorem dX12_pour_54 : decode cX12_pour 54 = .ok (.invokevirtual 78, 3) := by decide +kernel
theorem dX12_pour_57 : decode cX12_pour 57 = .ok (.ireturn, 1) := by decide +kernel
theorem dX12_pour_58 : decode cX12_pour 58 = .ok (.aload_n 0, 1) := by decide +kernel
theorem dX12_pour_59 : decode cX12_pour 59 = .ok (.getfield 13, 3) := by decide +kernel
theorem dX12_pour_62 : decode cX12_pour 62 = .ok (.iload_n 1, 1) := by decide +kernel
theorem dX12_pour_63 : decode cX12_pour 63 = .ok (.iaload, 1) := by decide +kernel
theorem dX12_pour_64 : decode cX12_pour 64 = .ok (.aload_n 0, 1) := by decide +kernel
theorem dX12_pour_65 : decode cX12_pour 65 = .ok (.getfield 13, 3) := by decide +kernel
theorem dX12_pour_68 : decode cX12_pour 68 = .ok (.iload_n 3, 1) := by decide +kernel
theorem dX12_pour_69 : decode cX12_pour 69 = .ok (.iaload, 1) := by decide +kernel
theorem dX12_pour_70 : decode cX12_pour 70 = .ok (.if_icmp .eq 10, 3) := by decide +kernel
theorem dX12_pour_73 : decode cX12_pour 73 = .ok (.aload_n 0, 1) := by decide +kernel
theorem dX12_pour_74 : decode cX12_pour 74 = .ok (.bipush 11, 2) := by decide +kernel
theorem dX12_pour_76 : decode cX12_pour 76 = .ok (.invokevirtual 78, 3) := by decide +kernel
theorem dX12_pour_79 : decode cX12_pour 79 = .ok (.ireturn, 1) := by decide +kernel
theorem dX12_pour_80 : decode cX12_pour 80 = .ok (.iload 5, 2) := by decide +kernel
theorem dX12_pour_82 : decode cX12_pour 82 = .ok (.ifCond .ge 10, 3) := by decide +kernel
theorem dX12_pour_85 : decode cX12_pour 85 = .ok (.aload_n 0, 1) := by decide +kernel
theorem dX12_pour_86 : decode cX12_pour 86 = .ok (.bipush 6, 2) := by decide +kernel
theorem dX12_pour_88 : decode cX12_pour 88 = .ok (.invokevirtual 78, 3) := by decide +kernel
theorem dX12_pour_91 : decode cX12_pour 91 = .ok (.ireturn, 1) := by decide +kernel
theorem dX12_pour_92 : decode cX12_pour 92 = .ok (.iload_n 2, 1) := by decide +kernel
theorem dX12_pour_93 : decode cX12_pour 93 = .ok (.ifCond .lt 43, 3) := by decide +kernel
theorem dX12_pour_96 : decode cX12_pour 96 = .ok (.iload 4, 2) := by decide +kernel
theorem dX12_pour_98 : decode cX12_pour 98 = .ok (.ifCond .lt 38, 3) := by decide +kernel
theorem dX12_pour_101 : decode cX12_pour 101 = .ok (.iload_n 2, 1) := by decide +kernel
theorem dX12_pour_102 : decode cX12_pour 102 = .ok (.i2l, 1) := by decide +kernel
theorem dX12_pour_103 : decode cX12_pour 103 = .ok (.iload 5, 2) := by decide +kernel
theorem dX12_pour_105 : decode cX12_pour 105 = .ok (.i2l, 1) := by decide +kernel
theorem dX12_pour_106 : decode cX12_pour 106 = .ok (.ladd, 1) := by decide +kernel
theorem dX12_pour_107 : decode cX12_pour 107 = .ok (.aload_n 0, 1) := by decide +kernel
theorem dX12_pour_108 : decode cX12_pour 108 = .ok (.getfield 17, 3) := by decide +kernel
theorem dX12_pour_111 : decode cX12_pour 111 = .ok (.iload_n 1, 1) := by decide +kernel
theorem dX12_pour_112 : decode cX12_pour 112 = .ok (.iaload, 1) := by decide +kernel
theorem dX12_pour_113 : decode cX12_pour 113 = .ok (.i2l, 1) := by decide +kernel
theorem dX12_pour_114 : decode cX12_pour 114 = .ok (.lcmp, 1) := by decide +kernel
theorem dX12_pour_115 : decode cX12_pour 115 = .ok (.ifCond .gt 21, 3) := by decide +kernel
theorem dX12_pour_118 : decode cX12_pour 118 = .ok (.iload 4, 2) := by decide +kernel
theorem dX12_pour_120 : decode cX12_pour 120 = .ok (.i2l, 1) := by decide +kernel
theorem dX12_pour_121 : decode cX12_pour 121 = .ok (.iload 5, 2) := by decide +kernel
theorem dX12_pour_123 : decode cX12_pour 123 = .ok (.i2l, 1) := by decide +kernel
theorem dX12_pour_124 : decode cX12_pour 124 = .ok (.ladd, 1) := by decide +kernel
theorem dX12_pour_125 : decode cX12_pour 125 = .ok (.aload_n 0, 1) := by decide +kernel
theorem dX12_pour_126 : decode cX12_pour 126 = .ok (.getfield 17, 3) := by decide +kernel
theorem dX12_pour_129 : decode cX12_pour 129 = .ok (.iload_n 3, 1) := by decide +kernel
theorem dX12_pour_130 : decode cX12_pour 130 = .ok (.iaload, 1) := by decide +kernel
theorem dX12_pour_131 : decode cX12_pour 131 = .ok (.i2l, 1) := by decide +kernel
theorem dX12_pour_132 : decode cX12_pour 132 = .ok (.lcmp, 1) := by decide +kernel
theorem dX12_pour_133 : decode cX12_pour 133 = .ok (.ifCond .le 9, 3) := by decide +kernel
theorem dX12_pour_136 : decode cX12_pour 136 = .ok (.aload_n 0, 1) := by decide +kernel
theorem dX12_pour_137 : decode cX12_pour 137 = .ok (.iconst 4, 1) := by decide +kernel
theorem dX12_pour_138 : decode cX12_pour 138 = .ok (.invokevirtual 78, 3) := by decide +kernel
theorem dX12_pour_141 : decode cX12_pour 141 = .ok (.ireturn, 1) := by decide +kernel
theorem dX12_pour_142 : decode cX12_pour 142 = .ok (.iload_n 2, 1) := by decide +kernel
theorem dX12_pour_143 : decode cX12_pour 143 = .ok (.iload 4, 2) := by decide +kernel
theorem dX12_pour_145 : decode cX12_pour 145 = .ok (.if_icmp .ge 7, 3) := by decide +kernel
theorem dX12_pour_148 : decode cX12_pour 148 = .ok (.iconst 1, 1) := by decide +kernel
theorem dX12_pour_149 : decode cX12_pour 149 = .ok (.goto 4, 3) := by decide +kernel
theorem dX12_pour_152 : decode cX12_pour 152 = .ok (.iconst 0, 1) := by decide +kernel
theorem dX12_pour_153 : decode cX12_pour 153 = .ok (.istore 6, 2) := by decide +kernel
theorem dX12_pour_155 : decode cX12_pour 155 = .ok (.iconst 0, 1) := by decide +kernel
theorem dX12_pour_156 : decode cX12_pour 156 = .ok (.istore 7, 2) := by decide +kernel
theorem dX12_pour_158 : decode cX12_pour 158 = .ok (.iload 7, 2) := by decide +kernel
theorem dX12_pour_160 : decode cX12_pour 160 = .ok (.iload 5, 2) := by decide +kernel
theorem dX12_pour_162 : decode cX12_pour 162 = .ok (.if_icmp .ge 57, 3) := by decide +kernel
theorem dX12_pour_165 : decode cX12_pour 165 = .ok (.iload 6, 2) := by decide +kernel
theorem dX12_pour_167 : decode cX12_pour 167 = .ok (.ifCond .eq 13, 3) := by decide +kernel
theorem dX12_pour_170 : decode cX12_pour 170 = .ok (.iload 5, 2) := by decide +kernel
theorem dX12_pour_172 : decode cX12_pour 172 = .ok (.iconst 1, 1) := by decide +kernel
theorem dX12_pour_173 : decode cX12_pour 173 = .ok (.isub, 1) := by decide +kernel
theorem dX12_pour_174 : decode cX12_pour 174 = .ok (.iload 7, 2) := by decide +kernel
theorem dX12_pour_176 : decode cX12_pour 176 = .ok (.isub, 1) := by decide +kernel
theorem dX12_pour_177 : decode cX12_pour 177 = .ok (.goto 5, 3) := by decide +kernel
theorem dX12_pour_180 : decode cX12_pour 180 = .ok (.iload 7, 2) := by decide +kernel
theorem dX12_pour_182 : decode cX12_pour 182 = .ok (.istore 8, 2) := by decide +kernel
theorem dX12_pour_184 : decode cX12_pour 184 = .ok (.aload_n 0, 1) := by decide +kernel
theorem dX12_pour_185 : decode cX12_pour 185 = .ok (.getfield 20, 3) := by decide +kernel
theorem dX12_pour_188 : decode cX12_pour 188 = .ok (.bipush 60, 2) := by decide +kernel
theorem dX12_pour_190 : decode cX12_pour 190 = .ok (.iload_n 3, 1) := by decide +kernel
theorem dX12_pour_191 : decode cX12_pour 191 = .ok (.imul, 1) := by decide +kernel
theorem dX12_pour_192 : decode cX12_pour 192 = .ok (.iload 4, 2) := by decide +kernel
theorem dX12_pour_194 : decode cX12_pour 194 = .ok (.iadd, 1) := by decide +kernel
theorem dX12_pour_195 : decode cX12_pour 195 = .ok (.iload 8, 2) := by decide +kernel
theorem dX12_pour_197 : decode cX12_pour 197 = .ok (.iadd, 1) := by decide +kernel
theorem dX12_pour_198 : decode cX12_pour 198 = .ok (.aload_n 0, 1) := by decide +kernel
theorem dX12_pour_199 : decode cX12_pour 199 = .ok (.getfield 20, 3) := by decide +kernel
theorem dX12_pour_202 : decode cX12_pour 202 = .ok (.bipush 60, 2) := by decide +kernel
theorem dX12_pour_204 : decode cX12_pour 204 = .ok (.iload_n 1, 1) := by decide +kernel
theorem dX12_pour_205 : decode cX12_pour 205 = .ok (.imul, 1) := by decide +kernel
theorem dX12_pour_206 : decode cX12_pour 206 = .ok (.iload_n 2, 1) := by decide +kernel
theorem dX12_pour_207 : decode cX12_pour 207 = .ok (.iadd, 1) := by decide +kernel
theorem dX12_pour_208 : decode cX12_pour 208 = .ok (.iload 8, 2) := by decide +kernel
theorem dX12_pour_210 : decode cX12_pour 210 = .ok (.iadd, 1) := by decide +kernel
theorem dX12_pour_211 : decode cX12_pour 211 = .ok (.laload, 1) := by decide +kernel
theorem dX12_pour_212 : decode cX12_pour 212 = .ok (.lastore, 1) := by decide +kernel
theorem dX12_pour_213 : decode cX12_pour 213 = .ok (.iinc 7 1, 3) := by decide +kernel
theorem dX12_pour_216 : decode cX12_pour 216 = .ok (.goto (-58), 3) := by decide +kernel
theorem dX12_pour_219 : decode cX12_pour 219 = .ok (.iconst 1, 1) := by decide +kernel
theorem dX12_pour_220 : decode cX12_pour 220 = .ok (.ireturn, 1) := by decide +kernel
theorem dX12_lay_0 : decode cX12_lay 0 = .ok (.iconst 3, 1) := by decide +kernel
theorem dX12_lay_1 : decode cX12_lay 1 = .ok (.istore_n 2, 1) := by decide +kernel
theorem dX12_lay_2 : decode cX12_lay 2 = .ok (.iload_n 2, 1) := by decide +kernel
theorem dX12_lay_3 : decode cX12_lay 3 = .ok (.ifCond .lt 35, 3) := by decide +kernel
theorem dX12_lay_6 : decode cX12_lay 6 = .ok (.aload_n 0, 1) := by decide +kernel
theorem dX12_lay_7 : decode cX12_lay 7 = .ok (.getfield 24, 3) := by decide +kernel
theorem dX12_lay_10 : decode cX12_lay 10 = .ok (.aload_n 0, 1) := by decide +kernel
theorem dX12_lay_11 : decode cX12_lay 11 = .ok (.getfield 232, 3) := by decide +kernel
theorem dX12_lay_14 : decode cX12_lay 14 = .ok (.iload_n 1, 1) := by decide +kernel
theorem dX12_lay_15 : decode cX12_lay 15 = .ok (.bipush 8, 2) := by decide +kernel
theorem dX12_lay_17 : decode cX12_lay 17 = .ok (.iload_n 2, 1) := by decide +kernel
theorem dX12_lay_18 : decode cX12_lay 18 = .ok (.imul, 1) := by decide +kernel
theorem dX12_lay_19 : decode cX12_lay 19 = .ok (.ishr, 1) := by decide +kernel
theorem dX12_lay_20 : decode cX12_lay 20 = .ok (.i2b, 1) := by decide +kernel
theorem dX12_lay_21 : decode cX12_lay 21 = .ok (.bastore, 1) := by decide +kernel
theorem dX12_lay_22 : decode cX12_lay 22 = .ok (.aload_n 0, 1) := by decide +kernel
theorem dX12_lay_23 : decode cX12_lay 23 = .ok (.dup, 1) := by decide +kernel
theorem dX12_lay_24 : decode cX12_lay 24 = .ok (.getfield 232, 3) := by decide +kernel
theorem dX12_lay_27 : decode cX12_lay 27 = .ok (.iconst 1, 1) := by decide +kernel
theorem dX12_lay_28 : decode cX12_lay 28 = .ok (.iadd, 1) := by decide +kernel
theorem dX12_lay_29 : decode cX12_lay 29 = .ok (.putfield 232, 3) := by decide +kernel
theorem dX12_lay_32 : decode cX12_lay 32 = .ok (.iinc 2 (-1), 3) := by decide +kernel
theorem dX12_lay_35 : decode cX12_lay 35 = .ok (.goto (-33), 3) := by decide +kernel
theorem dX12_lay_38 : decode cX12_lay 38 = .ok (.return_, 1) := by decide +kernel
theorem dX12_feed_0 : decode cX12_feed 0 = .ok (.aload_n 0, 1) := by decide +kernel
theorem dX12_feed_1 : decode cX12_feed 1 = .ok (.iconst 0, 1) := by decide +kernel
theorem dX12_feed_2 : decode cX12_feed 2 = .ok (.putfield 63, 3) := by decide +kernel
theorem dX12_feed_5 : decode cX12_feed 5 = .ok (.aload_n 0, 1) := by decide +kernel
theorem dX12_feed_6 : decode cX12_feed 6 = .ok (.getfield 232, 3) := by decide +kernel
theorem dX12_feed_9 : decode cX12_feed 9 = .ok (.bipush 20, 2) := by decide +kernel
theorem dX12_feed_11 : decode cX12_feed 11 = .ok (.iadd, 1) := by decide +kernel
theorem dX12_feed_12 : decode cX12_feed 12 = .ok (.sipush 900, 3) := by decide +kernel
theorem dX12_feed_15 : decode cX12_feed 15 = .ok (.if_icmp .le 5, 3) := by decide +kernel
theorem dX12_feed_18 : decode cX12_feed 18 = .ok (.iconst (-1), 1) := by decide +kernel
theorem dX12_feed_19 : decode cX12_feed 19 = .ok (.ireturn, 1) := by decide +kernel
theorem dX12_feed_20 : decode cX12_feed 20 = .ok (.aload_n 0, 1) := by decide +kernel
theorem dX12_feed_21 : decode cX12_feed 21 = .ok (.iload_n 1, 1) := by decide +kernel
theorem dX12_feed_22 : decode cX12_feed 22 = .ok (.invokevirtual 235, 3) := by decide +kernel
theorem dX12_feed_25 : decode cX12_feed 25 = .ok (.aload_n 0, 1) := by decide +kernel
theorem dX12_feed_26 : decode cX12_feed 26 = .ok (.iload_n 2, 1) := by decide +kernel
theorem dX12_feed_27 : decode cX12_feed 27 = .ok (.invokevirtual 235, 3) := by decide +kernel
theorem dX12_feed_30 : decode cX12_feed 30 = .ok (.aload_n 0, 1) := by decide +kernel
theorem dX12_feed_31 : decode cX12_feed 31 = .ok (.iload_n 3, 1) := by decide +kernel
theorem dX12_feed_32 : decode cX12_feed 32 = .ok (.invokevirtual 235, 3) := by decide +kernel
theorem dX12_feed_35 : decode cX12_feed 35 = .ok (.aload_n 0, 1) := by decide +kernel
theorem dX12_feed_36 : decode cX12_feed 36 = .ok (.iload 4, 2) := by decide +kernel
theorem dX12_feed_38 : decode cX12_feed 38 = .ok (.invokevirtual 235, 3) := by decide +kernel
theorem dX12_feed_41 : decode cX12_feed 41 = .ok (.aload_n 0, 1) := by decide +kernel
theorem dX12_feed_42 : decode cX12_feed 42 = .ok (.iload 5, 2) := by decide +kernel
theorem dX12_feed_44 : decode cX12_feed 44 = .ok (.invokevirtual 235, 3) := by decide +kernel
theorem dX12_feed_47 : decode cX12_feed 47 = .ok (.aload_n 0, 1) := by decide +kernel
theorem dX12_feed_48 : decode cX12_feed 48 = .ok (.getfield 232, 3) := by decide +kernel
theorem dX12_feed_51 : decode cX12_feed 51 = .ok (.ireturn, 1) := by decide +kernel
theorem dX12_fault_0 : decode cX12_fault 0 = .ok (.aload_n 0, 1) := by decide +kernel
theorem dX12_fault_1 : decode cX12_fault 1 = .ok (.iconst 0, 1) := by decide +kernel
theorem dX12_fault_2 : decode cX12_fault 2 = .ok (.putfield 63, 3) := by decide +kernel
theorem dX12_fault_5 : decode cX12_fault 5 = .ok (.iload_n 1, 1) := by decide +kernel
theorem dX12_fault_6 : decode cX12_fault 6 = .ok (.ifCond .ne 10, 3) := by decide +kernel
theorem dX12_fault_9 : decode cX12_fault 9 = .ok (.aload_n 0, 1) := by decide +kernel
theorem dX12_fault_10 : decode cX12_fault 10 = .ok (.getfield 28, 3) := by decide +kernel
theorem dX12_fault_13 : decode cX12_fault 13 = .ok (.goto 16, 3) := by decide +kernel
theorem dX12_fault_16 : decode cX12_fault 16 = .ok (.iload_n 1, 1) := by decide +kernel
theorem dX12_fault_17 : decode cX12_fault 17 = .ok (.iconst 1, 1) := by decide +kernel
theorem dX12_fault_18 : decode cX12_fault 18 = .ok (.if_icmp .ne 10, 3) := by decide +kernel
theorem dX12_fault_21 : decode cX12_fault 21 = .ok (.aload_n 0, 1) := by decide +kernel
theorem dX12_fault_22 : decode cX12_fault 22 = .ok (.getfield 32, 3) := by decide +kernel
theorem dX12_fault_25 : decode cX12_fault 25 = .ok (.goto 4, 3) := by decide +kernel
theorem dX12_fault_28 : decode cX12_fault 28 = .ok (.iconst (-1), 1) := by decide +kernel
theorem dX12_fault_29 : decode cX12_fault 29 = .ok (.ireturn, 1) := by decide +kernel
theorem dX12_look2_0 : decode cX12_look2 0 = .ok (.iload_n 1, 1) := by decide +kernel
theorem dX12_look2_1 : decode cX12_look2 1 = .ok (.aload_n 0, 1) := by decide +kernel
theorem dX12_look2_2 : decode cX12_look2 2 = .ok (.getfield 102, 3) := by decide +kernel
theorem dX12_look2_5 : decode cX12_look2 5 = .ok (.if_icmp .ge 16, 3) := by decide +kernel
theorem dX12_look2_8 : decode cX12_look2 8 = .ok (.aload_n 0, 1) := by decide +kernel
theorem dX12_look2_9 : decode cX12_look2 9 = .ok (.getfield 24, 3) := by decide +kernel
theorem dX12_look2_12 : decode cX12_look2 12 = .ok (.iload_n 1, 1) := by decide +kernel
theorem dX12_look2_13 : decode cX12_look2 13 = .ok (.baload, 1) := by decide +kernel
theorem dX12_look2_14 : decode cX12_look2 14 = .ok (.sipush 255, 3) := by decide +kernel
theorem dX12_look2_17 : decode cX12_look2 17 = .ok (.iand, 1) := by decide +kernel
theorem dX12_look2_18 : decode cX12_look2 18 = .ok (.goto 4, 3) := by decide +kernel
theorem dX12_look2_21 : decode cX12_look2 21 = .ok (.iconst 0, 1) := by decide +kernel
theorem dX12_look2_22 : decode cX12_look2 22 = .ok (.ireturn, 1) := by decide +kernel
theorem dX12_isLetter_0 : decode cX12_isLetter 0 = .ok (.iload_n 0, 1) := by decide +kernel
theorem dX12_isLetter_1 : decode cX12_isLetter 1 = .ok (.bipush 97, 2) := by decide +kernel
theorem dX12_isLetter_3 : decode cX12_isLetter 3 = .ok (.if_icmp .lt 13, 3) := by decide +kernel
theorem dX12_isLetter_6 : decode cX12_isLetter 6 = .ok (.iload_n 0, 1) := by decide +kernel
theorem dX12_isLetter_7 : decode cX12_isLetter 7 = .ok (.bipush 122, 2) := by decide +kernel
theorem dX12_isLetter_9 : decode cX12_isLetter 9 = .ok (.if_icmp .gt 7, 3) := by decide +kernel
theorem dX12_isLetter_12 : decode cX12_isLetter 12 = .ok (.iconst 1, 1) := by decide +kernel
theorem dX12_isLetter_13 : decode cX12_isLetter 13 = .ok (.goto 4, 3) := by decide +kernel
theorem dX12_isLetter_16 : decode cX12_isLetter 16 = .ok (.iconst 0, 1) := by decide +kernel
theorem dX12_isLetter_17 : decode cX12_isLetter 17 = .ok (.ireturn, 1) := by decide +kernel
theorem dX12_isDigit_0 : decode cX12_isDigit 0 = .ok (.iload_n 0, 1) := by decide +kernel
theorem dX12_isDigit_1 : decode cX12_isDigit 1 = .ok (.bipush 48, 2) := by decide +kernel
theorem dX12_isDigit_3 : decode cX12_isDigit 3 = .ok (.if_icmp .lt 13, 3) := by decide +kernel
theorem dX12_isDigit_6 : decode cX12_isDigit 6 = .ok (.iload_n 0, 1) := by decide +kernel
theorem dX12_isDigit_7 : decode cX12_isDigit 7 = .ok (.bipush 57, 2) := by decide +kernel
theorem dX12_isDigit_9 : decode cX12_isDigit 9 = .ok (.if_icmp .gt 7, 3) := by decide +kernel
theorem dX12_isDigit_12 : decode cX12_isDigit 12 = .ok (.iconst 1, 1) := by decide +kernel
theorem dX12_isDigit_13 : decode cX12_isDigit 13 = .ok (.goto 4, 3) := by decide +kernel
theorem dX12_isDigit_16 : decode cX12_isDigit 16 = .ok (.iconst 0, 1) := by decide +kernel
theorem dX12_isDigit_17 : decode cX12_isDigit 17 = .ok (.ireturn, 1) := by decide +kernel
theorem dX12_isSignByte_0 : decode cX12_isSignByte 0 = .ok (.iload_n 1, 1) := by decide +kernel
theorem dX12_isSignByte_1 : decode cX12_isSignByte 1 = .ok (.bipush 59, 2) := by decide +kernel
theorem dX12_isSignByte_3 : decode cX12_isSignByte 3 = .ok (.if_icmp .eq 21, 3) := by decide +kernel
theorem dX12_isSignByte_6 : decode cX12_isSignByte 6 = .ok (.iload_n 1, 1) := by decide +kernel
theorem dX12_isSignByte_7 : decode cX12_isSignByte 7 = .ok (.bipush 60, 2) := by decide +kernel
theorem dX12_isSignByte_9 : decode cX12_isSignByte 9 = .ok (.if_icmp .eq 15, 3) := by decide +kernel
theorem dX12_isSignByte_12 : decode cX12_isSignByte 12 = .ok (.iload_n 1, 1) := by decide +kernel
theorem dX12_isSignByte_13 : decode cX12_isSignByte 13 = .ok (.bipush 62, 2) := by decide +kernel
theorem dX12_isSignByte_15 : decode cX12_isSignByte 15 = .ok (.if_icmp .eq 9, 3) := by decide +kernel
theorem dX12_isSignByte_18 : decode cX12_isSignByte 18 = .ok (.iload_n 1, 1) := by decide +kernel
theorem dX12_isSignByte_19 : decode cX12_isSignByte 19 = .ok (.bipush 61, 2) := by decide +kernel
theorem dX12_isSignByte_21 : decode cX12_isSignByte 21 = .ok (.if_icmp .ne 7, 3) := by decide +kernel
theorem dX12_isSignByte_24 : decode cX12_isSignByte 24 = .ok (.iconst 1, 1) := by decide +kernel
theorem dX12_isSignByte_25 : decode cX12_isSignByte 25 = .ok (.goto 4, 3) := by decide +kernel
theorem dX12_isSignByte_28 : decode cX12_isSignByte 28 = .ok (.iconst 0, 1) := by decide +kernel
theorem dX12_isSignByte_29 : decode cX12_isSignByte 29 = .ok (.ireturn, 1) := by decide +kernel
theorem dX12_next_0 : decode cX12_next 0 = .ok (.aload_n 0, 1) := by decide +kernel
theorem dX12_next_1 : decode cX12_next 1 = .ok (.aload_n 0, 1) := by decide +kernel
theorem dX12_next_2 : decode cX12_next 2 = .ok (.getfield 105, 3) := by decide +kernel
theorem dX12_next_5 : decode cX12_next 5 = .ok (.putfield 108, 3) := by decide +kernel
theorem dX12_next_8 : decode cX12_next 8 = .ok (.aload_n 0, 1) := by decide +kernel
theorem dX12_next_9 : decode cX12_next 9 = .ok (.getfield 108, 3) := by decide +kernel
theorem dX12_next_12 : decode cX12_next 12 = .ok (.aload_n 0, 1) := by decide +kernel
theorem dX12_next_13 : decode cX12_next 13 = .ok (.getfield 102, 3) := by decide +kernel
theorem dX12_next_16 : decode cX12_next 16 = .ok (.if_icmp .ge 42, 3) := by decide +kernel
theorem dX12_next_19 : decode cX12_next 19 = .ok (.aload_n 0, 1) := by decide +kernel
theorem dX12_next_20 : decode cX12_next 20 = .ok (.aload_n 0, 1) := by decide +kernel
theorem dX12_next_21 : decode cX12_next 21 = .ok (.getfield 108, 3) := by decide +kernel
theorem dX12_next_24 : decode cX12_next 24 = .ok (.invokevirtual 111, 3) := by decide +kernel
theorem dX12_next_27 : decode cX12_next 27 = .ok (.bipush 10, 2) := by decide +kernel
theorem dX12_next_29 : decode cX12_next 29 = .ok (.if_icmp .eq 16, 3) := by decide +kernel
theorem dX12_next_32 : decode cX12_next 32 = .ok (.aload_n 0, 1) := by decide +kernel
theorem dX12_next_33 : decode cX12_next 33 = .ok (.aload_n 0, 1) := by decide +kernel
theorem dX12_next_34 : decode cX12_next 34 = .ok (.getfield 108, 3) := by decide +kernel
theorem dX12_next_37 : decode cX12_next 37 = .ok (.invokevirtual 111, 3) := by decide +kernel
theorem dX12_next_40 : decode cX12_next 40 = .ok (.bipush 32, 2) := by decide +kernel
theorem dX12_next_42 : decode cX12_next 42 = .ok (.if_icmp .ne 16, 3) := by decide +kernel
theorem dX12_next_45 : decode cX12_next 45 = .ok (.aload_n 0, 1) := by decide +kernel
theorem dX12_next_46 : decode cX12_next 46 = .ok (.dup, 1) := by decide +kernel
theorem dX12_next_47 : decode cX12_next 47 = .ok (.getfield 108, 3) := by decide +kernel
theorem dX12_next_50 : decode cX12_next 50 = .ok (.iconst 1, 1) := by decide +kernel
theorem dX12_next_51 : decode cX12_next 51 = .ok (.iadd, 1) := by decide +kernel
theorem dX12_next_52 : decode cX12_next 52 = .ok (.putfield 108, 3) := by decide +kernel
theorem dX12_next_55 : decode cX12_next 55 = .ok (.goto (-47), 3) := by decide +kernel
theorem dX12_next_58 : decode cX12_next 58 = .ok (.aload_n 0, 1) := by decide +kernel
theorem dX12_next_59 : decode cX12_next 59 = .ok (.aload_n 0, 1) := by decide +kernel
theorem dX12_next_60 : decode cX12_next 60 = .ok (.getfield 108, 3) := by decide +kernel
theorem dX12_next_63 : decode cX12_next 63 = .ok (.putfield 105, 3) := by decide +kernel
theorem dX12_next_66 : decode cX12_next 66 = .ok (.aload_n 0, 1) := by decide +kernel
theorem dX12_next_67 : decode cX12_next 67 = .ok (.getfield 108, 3) := by decide +kernel
theorem dX12_next_70 : decode cX12_next 70 = .ok (.aload_n 0, 1) := by decide +kernel
theorem dX12_next_71 : decode cX12_next 71 = .ok (.getfield 102, 3) := by decide +kernel
theorem dX12_next_74 : decode cX12_next 74 = .ok (.if_icmp .lt 9, 3) := by decide +kernel
theorem dX12_next_77 : decode cX12_next 77 = .ok (.aload_n 0, 1) := by decide +kernel
theorem dX12_next_78 : decode cX12_next 78 = .ok (.iconst 0, 1) := by decide +kernel
theorem dX12_next_79 : decode cX12_next 79 = .ok (.putfield 114, 3) := by decide +kernel
theorem dX12_next_82 : decode cX12_next 82 = .ok (.return_, 1) := by decide +kernel
theorem dX12_next_83 : decode cX12_next 83 = .ok (.aload_n 0, 1) := by decide +kernel
theorem dX12_next_84 : decode cX12_next 84 = .ok (.aload_n 0, 1) := by decide +kernel
theorem dX12_next_85 : decode cX12_next 85 = .ok (.getfield 108, 3) := by decide +kernel
theorem dX12_next_88 : decode cX12_next 88 = .ok (.invokevirtual 111, 3) := by decide +kernel
theorem dX12_next_91 : decode cX12_next 91 = .ok (.istore_n 1, 1) := by decide +kernel
theorem dX12_next_92 : decode cX12_next 92 = .ok (.iload_n 1, 1) := by decide +kernel
theorem dX12_next_93 : decode cX12_next 93 = .ok (.invokestatic 117, 3) := by decide +kernel
theorem dX12_next_96 : decode cX12_next 96 = .ok (.ifCond .eq 102, 3) := by decide +kernel
theorem dX12_next_99 : decode cX12_next 99 = .ok (.aload_n 0, 1) := by decide +kernel
theorem dX12_next_100 : decode cX12_next 100 = .ok (.iconst 1, 1) := by decide +kernel
theorem dX12_next_101 : decode cX12_next 101 = .ok (.putfield 114, 3) := by decide +kernel
theorem dX12_next_104 : decode cX12_next 104 = .ok (.aload_n 0, 1) := by decide +kernel
theorem dX12_next_105 : decode cX12_next 105 = .ok (.lconst 0, 1) := by decide +kernel
theorem dX12_next_106 : decode cX12_next 106 = .ok (.putfield 120, 3) := by decide +kernel
theorem dX12_next_109 : decode cX12_next 109 = .ok (.aload_n 0, 1) := by decide +kernel
theorem dX12_next_110 : decode cX12_next 110 = .ok (.aload_n 0, 1) := by decide +kernel
theorem dX12_next_111 : decode cX12_next 111 = .ok (.getfield 105, 3) := by decide +kernel
theorem dX12_next_114 : decode cX12_next 114 = .ok (.invokevirtual 111, 3) := by decide +kernel
theorem dX12_next_117 : decode cX12_next 117 = .ok (.invokestatic 117, 3) := by decide +kernel
theorem dX12_next_120 : decode cX12_next 120 = .ok (.ifCond .eq 62, 3) := by decide +kernel
theorem dX12_next_123 : decode cX12_next 123 = .ok (.aload_n 0, 1) := by decide +kernel
theorem dX12_next_124 : decode cX12_next 124 = .ok (.aload_n 0, 1) := by decide +kernel
theorem dX12_next_125 : decode cX12_next 125 = .ok (.getfield 105, 3) := by decide +kernel
theorem dX12_next_128 : decode cX12_next 128 = .ok (.aload_n 0, 1) := by decide +kernel
theorem dX12_next_129 : decode cX12_next 129 = .ok (.getfield 108, 3) := by decide +kernel
theorem dX12_next_132 : decode cX12_next 132 = .ok (.isub, 1) := by decide +kernel
theorem dX12_next_133 : decode cX12_next 133 = .ok (.bipush 8, 2) := by decide +kernel
theorem dX12_next_135 : decode cX12_next 135 = .ok (.if_icmp .ge 28, 3) := by decide +kernel
theorem dX12_next_138 : decode cX12_next 138 = .ok (.aload_n 0, 1) := by decide +kernel
theorem dX12_next_139 : decode cX12_next 139 = .ok (.getfield 120, 3) := by decide +kernel
theorem dX12_next_142 : decode cX12_next 142 = .ok (.ldc2_w 123, 3) := by decide +kernel
theorem dX12_next_145 : decode cX12_next 145 = .ok (.lmul, 1) := by decide +kernel
theorem dX12_next_146 : decode cX12_next 146 = .ok (.aload_n 0, 1) := by decide +kernel
theorem dX12_next_147 : decode cX12_next 147 = .ok (.aload_n 0, 1) := by decide +kernel
theorem dX12_next_148 : decode cX12_next 148 = .ok (.getfield 105, 3) := by decide +kernel
theorem dX12_next_151 : decode cX12_next 151 = .ok (.invokevirtual 111, 3) := by decide +kernel
theorem dX12_next_154 : decode cX12_next 154 = .ok (.i2l, 1) := by decide +kernel
theorem dX12_next_155 : decode cX12_next 155 = .ok (.ladd, 1) := by decide +kernel
theorem dX12_next_156 : decode cX12_next 156 = .ok (.ldc2_w 125, 3) := by decide +kernel
theorem dX12_next_159 : decode cX12_next 159 = .ok (.lsub, 1) := by decide +kernel
theorem dX12_next_160 : decode cX12_next 160 = .ok (.goto 6, 3) := by decide +kernel
theorem dX12_next_163 : decode cX12_next 163 = .ok (.ldc2_w 94, 3) := by decide +kernel
theorem dX12_next_166 : decode cX12_next 166 = .ok (.putfield 120, 3) := by decide +kernel
theorem dX12_next_169 : decode cX12_next 169 = .ok (.aload_n 0, 1) := by decide +kernel
theorem dX12_next_170 : decode cX12_next 170 = .ok (.dup, 1) := by decide +kernel
theorem dX12_next_171 : decode cX12_next 171 = .ok (.getfield 105, 3) := by decide +kernel
theorem dX12_next_174 : decode cX12_next 174 = .ok (.iconst 1, 1) := by decide +kernel
theorem dX12_next_175 : decode cX12_next 175 = .ok (.iadd, 1) := by decide +kernel
theorem dX12_next_176 : decode cX12_next 176 = .ok (.putfield 105, 3) := by decide +kernel
theorem dX12_next_179 : decode cX12_next 179 = .ok (.goto (-70), 3) := by decide +kernel
theorem dX12_next_182 : decode cX12_next 182 = .ok (.aload_n 0, 1) := by decide +kernel
theorem dX12_next_183 : decode cX12_next 183 = .ok (.aload_n 0, 1) := by decide +kernel
theorem dX12_next_184 : decode cX12_next 184 = .ok (.getfield 105, 3) := by decide +kernel
theorem dX12_next_187 : decode cX12_next 187 = .ok (.aload_n 0, 1) := by decide +kernel
theorem dX12_next_188 : decode cX12_next 188 = .ok (.getfield 108, 3) := by decide +kernel
theorem dX12_next_191 : decode cX12_next 191 = .ok (.isub, 1) := by decide +kernel
theorem dX12_next_192 : decode cX12_next 192 = .ok (.putfield 127, 3) := by decide +kernel
theorem dX12_next_195 : decode cX12_next 195 = .ok (.goto 135, 3) := by decide +kernel
theorem dX12_next_198 : decode cX12_next 198 = .ok (.iload_n 1, 1) := by decide +kernel
theorem dX12_next_199 : decode cX12_next 199 = .ok (.invokestatic 130, 3) := by decide +kernel
theorem dX12_next_202 : decode cX12_next 202 = .ok (.ifCond .eq 96, 3) := by decide +kernel
theorem dX12_next_205 : decode cX12_next 205 = .ok (.aload_n 0, 1) := by decide +kernel
theorem dX12_next_206 : decode cX12_next 206 = .ok (.iconst 0, 1) := by decide +kernel
theorem dX12_next_207 : decode cX12_next 207 = .ok (.putfield 133, 3) := by decide +kernel
theorem dX12_next_210 : decode cX12_next 210 = .ok (.aload_n 0, 1) := by decide +kernel
theorem dX12_next_211 : decode cX12_next 211 = .ok (.aload_n 0, 1) := by decide +kernel
theorem dX12_next_212 : decode cX12_next 212 = .ok (.getfield 105, 3) := by decide +kernel
theorem dX12_next_215 : decode cX12_next 215 = .ok (.invokevirtual 111, 3) := by decide +kernel
theorem dX12_next_218 : decode cX12_next 218 = .ok (.invokestatic 130, 3) := by decide +kernel
theorem dX12_next_221 : decode cX12_next 221 = .ok (.ifCond .eq 52, 3) := by decide +kernel
theorem dX12_next_224 : decode cX12_next 224 = .ok (.aload_n 0, 1) := by decide +kernel
theorem dX12_next_225 : decode cX12_next 225 = .ok (.getfield 105, 3) := by decide +kernel
theorem dX12_next_228 : decode cX12_next 228 = .ok (.aload_n 0, 1) := by decide +kernel
theorem dX12_next_229 : decode cX12_next 229 = .ok (.getfield 108, 3) := by decide +kernel
theorem dX12_next_232 : decode cX12_next 232 = .ok (.isub, 1) := by decide +kernel
theorem dX12_next_233 : decode cX12_next 233 = .ok (.iconst 4, 1) := by decide +kernel
theorem dX12_next_234 : decode cX12_next 234 = .ok (.if_icmp .ge 26, 3) := by decide +kernel
theorem dX12_next_237 : decode cX12_next 237 = .ok (.aload_n 0, 1) := by decide +kernel
theorem dX12_next_238 : decode cX12_next 238 = .ok (.bipush 10, 2) := by decide +kernel
theorem dX12_next_240 : decode cX12_next 240 = .ok (.aload_n 0, 1) := by decide +kernel
theorem dX12_next_241 : decode cX12_next 241 = .ok (.getfield 133, 3) := by decide +kernel
theorem dX12_next_244 : decode cX12_next 244 = .ok (.imul, 1) := by decide +kernel
theorem dX12_next_245 : decode cX12_next 245 = .ok (.aload_n 0, 1) := by decide +kernel
theorem dX12_next_246 : decode cX12_next 246 = .ok (.aload_n 0, 1) := by decide +kernel
theorem dX12_next_247 : decode cX12_next 247 = .ok (.getfield 105, 3) := by decide +kernel
theorem dX12_next_250 : decode cX12_next 250 = .ok (.invokevirtual 111, 3) := by decide +kernel
theorem dX12_next_253 : decode cX12_next 253 = .ok (.iadd, 1) := by decide +kernel
theorem dX12_next_254 : decode cX12_next 254 = .ok (.bipush 48, 2) := by decide +kernel
theorem dX12_next_256 : decode cX12_next 256 = .ok (.isub, 1) := by decide +kernel
theorem dX12_next_257 : decode cX12_next 257 = .ok (.putfield 133, 3) := by decide +kernel
theorem dX12_next_260 : decode cX12_next 260 = .ok (.aload_n 0, 1) := by decide +kernel
theorem dX12_next_261 : decode cX12_next 261 = .ok (.dup, 1) := by decide +kernel
theorem dX12_next_262 : decode cX12_next 262 = .ok (.getfield 105, 3) := by decide +kernel
theorem dX12_next_265 : decode cX12_next 265 = .ok (.iconst 1, 1) := by decide +kernel
theorem dX12_next_266 : decode cX12_next 266 = .ok (.iadd, 1) := by decide +kernel
theorem dX12_next_267 : decode cX12_next 267 = .ok (.putfield 105, 3) := by decide +kernel
theorem dX12_next_270 : decode cX12_next 270 = .ok (.goto (-60), 3) := by decide +kernel
theorem dX12_next_273 : decode cX12_next 273 = .ok (.aload_n 0, 1) := by decide +kernel
theorem dX12_next_274 : decode cX12_next 274 = .ok (.aload_n 0, 1) := by decide +kernel
theorem dX12_next_275 : decode cX12_next 275 = .ok (.getfield 105, 3) := by decide +kernel
theorem dX12_next_278 : decode cX12_next 278 = .ok (.aload_n 0, 1) := by decide +kernel
theorem dX12_next_279 : decode cX12_next 279 = .ok (.getfield 108, 3) := by decide +kernel
theorem dX12_next_282 : decode cX12_next 282 = .ok (.isub, 1) := by decide +kernel
theorem dX12_next_283 : decode cX12_next 283 = .ok (.iconst 4, 1) := by decide +kernel
theorem dX12_next_284 : decode cX12_next 284 = .ok (.if_icmp .le 7, 3) := by decide +kernel
theorem dX12_next_287 : decode cX12_next 287 = .ok (.iconst 4, 1) := by decide +kernel
theorem dX12_next_288 : decode cX12_next 288 = .ok (.goto 4, 3) := by decide +kernel
theorem dX12_next_291 : decode cX12_next 291 = .ok (.iconst 2, 1) := by decide +kernel
theorem dX12_next_292 : decode cX12_next 292 = .ok (.putfield 114, 3) := by decide +kernel
theorem dX12_next_295 : decode cX12_next 295 = .ok (.goto 35, 3) := by decide +kernel
theorem dX12_next_298 : decode cX12_next 298 = .ok (.aload_n 0, 1) := by decide +kernel
theorem dX12_next_299 : decode cX12_next 299 = .ok (.aload_n 0, 1) := by decide +kernel
theorem dX12_next_300 : decode cX12_next 300 = .ok (.getfield 108, 3) := by decide +kernel
theorem dX12_next_303 : decode cX12_next 303 = .ok (.iconst 1, 1) := by decide +kernel
theorem dX12_next_304 : decode cX12_next 304 = .ok (.iadd, 1) := by decide +kernel
theorem dX12_next_305 : decode cX12_next 305 = .ok (.putfield 105, 3) := by decide +kernel
theorem dX12_next_308 : decode cX12_next 308 = .ok (.aload_n 0, 1) := by decide +kernel
theorem dX12_next_309 : decode cX12_next 309 = .ok (.iload_n 1, 1) := by decide +kernel
theorem dX12_next_310 : decode cX12_next 310 = .ok (.putfield 133, 3) := by decide +kernel
theorem dX12_next_313 : decode cX12_next 313 = .ok (.aload_n 0, 1) := by decide +kernel
theorem dX12_next_314 : decode cX12_next 314 = .ok (.aload_n 0, 1) := by decide +kernel
theorem dX12_next_315 : decode cX12_next 315 = .ok (.iload_n 1, 1) := by decide +kernel
theorem dX12_next_316 : decode cX12_next 316 = .ok (.invokevirtual 136, 3) := by decide +kernel
theorem dX12_next_319 : decode cX12_next 319 = .ok (.ifCond .eq 7, 3) := by decide +kernel
theorem dX12_next_322 : decode cX12_next 322 = .ok (.iconst 3, 1) := by decide +kernel
theorem dX12_next_323 : decode cX12_next 323 = .ok (.goto 4, 3) := by decide +kernel
theorem dX12_next_326 : decode cX12_next 326 = .ok (.iconst 4, 1) := by decide +kernel
theorem dX12_next_327 : decode cX12_next 327 = .ok (.putfield 114, 3) := by decide +kernel
theorem dX12_next_330 : decode cX12_next 330 = .ok (.return_, 1) := by decide +kernel
theorem dX12_opens_0 : decode cX12_opens 0 = .ok (.iload_n 1, 1) := by decide +kernel
theorem dX12_opens_1 : decode cX12_opens 1 = .ok (.ifCond .lt 16, 3) := by decide +kernel
theorem dX12_opens_4 : decode cX12_opens 4 = .ok (.iload_n 1, 1) := by decide +kernel
theorem dX12_opens_5 : decode cX12_opens 5 = .ok (.aload_n 0, 1) := by decide +kernel
theorem dX12_opens_6 : decode cX12_opens 6 = .ok (.getfield 232, 3) := by decide +kernel
theorem dX12_opens_9 : decode cX12_opens 9 = .ok (.if_icmp .gt 8, 3) := by decide +kernel
theorem dX12_opens_12 : decode cX12_opens 12 = .ok (.iload_n 1, 1) := by decide +kernel
theorem dX12_opens_13 : decode cX12_opens 13 = .ok (.iload_n 2, 1) := by decide +kernel
theorem dX12_opens_14 : decode cX12_opens 14 = .ok (.if_icmp .le 9, 3) := by decide +kernel
theorem dX12_opens_17 : decode cX12_opens 17 = .ok (.aload_n 0, 1) := by decide +kernel
theorem dX12_opens_18 : decode cX12_opens 18 = .ok (.iconst 5, 1) := by decide +kernel
theorem dX12_opens_19 : decode cX12_opens 19 = .ok (.invokevirtual 78, 3) := by decide +kernel
theorem dX12_opens_22 : decode cX12_opens 22 = .ok (.ireturn, 1) := by decide +kernel
theorem dX12_opens_23 : decode cX12_opens 23 = .ok (.aload_n 0, 1) := by decide +kernel
theorem dX12_opens_24 : decode cX12_opens 24 = .ok (.iload_n 1, 1) := by decide +kernel
theorem dX12_opens_25 : decode cX12_opens 25 = .ok (.putfield 102, 3) := by decide +kernel
theorem dX12_opens_28 : decode cX12_opens 28 = .ok (.aload_n 0, 1) := by decide +kernel
theorem dX12_opens_29 : decode cX12_opens 29 = .ok (.iconst 0, 1) := by decide +kernel
theorem dX12_opens_30 : decode cX12_opens 30 = .ok (.putfield 232, 3) := by decide +kernel
theorem dX12_opens_33 : decode cX12_opens 33 = .ok (.aload_n 0, 1) := by decide +kernel
theorem dX12_opens_34 : decode cX12_opens 34 = .ok (.iconst 0, 1) := by decide +kernel
theorem dX12_opens_35 : decode cX12_opens 35 = .ok (.putfield 105, 3) := by decide +kernel
theorem dX12_opens_38 : decode cX12_opens 38 = .ok (.aload_n 0, 1) := by decide +kernel
theorem dX12_opens_39 : decode cX12_opens 39 = .ok (.iconst 0, 1) := by decide +kernel
theorem dX12_opens_40 : decode cX12_opens 40 = .ok (.putfield 216, 3) := by decide +kernel
theorem dX12_opens_43 : decode cX12_opens 43 = .ok (.aload_n 0, 1) := by decide +kernel
theorem dX12_opens_44 : decode cX12_opens 44 = .ok (.invokevirtual 226, 3) := by decide +kernel
theorem dX12_opens_47 : decode cX12_opens 47 = .ok (.iconst 1, 1) := by decide +kernel
theorem dX12_opens_48 : decode cX12_opens 48 = .ok (.ireturn, 1) := by decide +kernel
theorem dX12_begins_0 : decode cX12_begins 0 = .ok (.aload_n 0, 1) := by decide +kernel
theorem dX12_begins_1 : decode cX12_begins 1 = .ok (.getfield 35, 3) := by decide +kernel
theorem dX12_begins_4 : decode cX12_begins 4 = .ok (.iload_n 1, 1) := by decide +kernel
theorem dX12_begins_5 : decode cX12_begins 5 = .ok (.iconst 0, 1) := by decide +kernel
theorem dX12_begins_6 : decode cX12_begins 6 = .ok (.iadd, 1) := by decide +kernel
theorem dX12_begins_7 : decode cX12_begins 7 = .ok (.bipush 24, 2) := by decide +kernel
theorem dX12_begins_9 : decode cX12_begins 9 = .ok (.iastore, 1) := by decide +kernel
theorem dX12_begins_10 : decode cX12_begins 10 = .ok (.aload_n 0, 1) := by decide +kernel
theorem dX12_begins_11 : decode cX12_begins 11 = .ok (.getfield 35, 3) := by decide +kernel
theorem dX12_begins_14 : decode cX12_begins 14 = .ok (.iload_n 1, 1) := by decide +kernel
theorem dX12_begins_15 : decode cX12_begins 15 = .ok (.iconst 1, 1) := by decide +kernel
theorem dX12_begins_16 : decode cX12_begins 16 = .ok (.iadd, 1) := by decide +kernel
theorem dX12_begins_17 : decode cX12_begins 17 = .ok (.bipush 8, 2) := by decide +kernel
theorem dX12_begins_19 : decode cX12_begins 19 = .ok (.iastore, 1) := by decide +kernel
theorem dX12_begins_20 : decode cX12_begins 20 = .ok (.aload_n 0, 1) := by decide +kernel
theorem dX12_begins_21 : decode cX12_begins 21 = .ok (.getfield 35, 3) := by decide +kernel
theorem dX12_begins_24 : decode cX12_begins 24 = .ok (.iload_n 1, 1) := by decide +kernel
theorem dX12_begins_25 : decode cX12_begins 25 = .ok (.iconst 2, 1) := by decide +kernel
theorem dX12_begins_26 : decode cX12_begins 26 = .ok (.iadd, 1) := by decide +kernel
theorem dX12_begins_27 : decode cX12_begins 27 = .ok (.bipush 12, 2) := by decide +kernel
theorem dX12_begins_29 : decode cX12_begins 29 = .ok (.iastore, 1) := by decide +kernel
theorem dX12_begins_30 : decode cX12_begins 30 = .ok (.return_, 1) := by decide +kernel
theorem dX12_spelled_0 : decode cX12_spelled 0 = .ok (.iload_n 0, 1) := by decide +kernel
theorem dX12_spelled_1 : decode cX12_spelled 1 = .ok (.i2l, 1) := by decide +kernel
theorem dX12_spelled_2 : decode cX12_spelled 2 = .ok (.ldc2_w 125, 3) := by decide +kernel
theorem dX12_spelled_5 : decode cX12_spelled 5 = .ok (.lsub, 1) := by decide +kernel
theorem dX12_spelled_6 : decode cX12_spelled 6 = .ok (.ldc2_w 123, 3) := by decide +kernel
theorem dX12_spelled_9 : decode cX12_spelled 9 = .ok (.lmul, 1) := by decide +kernel
theorem dX12_spelled_10 : decode cX12_spelled 10 = .ok (.iload_n 1, 1) := by decide +kernel
theorem dX12_spelled_11 : decode cX12_spelled 11 = .ok (.i2l, 1) := by decide +kernel
theorem dX12_spelled_12 : decode cX12_spelled 12 = .ok (.ladd, 1) := by decide +kernel
theorem dX12_spelled_13 : decode cX12_spelled 13 = .ok (.ldc2_w 125, 3) := by decide +kernel
theorem dX12_spelled_16 : decode cX12_spelled 16 = .ok (.lsub, 1) := by decide +kernel
theorem dX12_spelled_17 : decode cX12_spelled 17 = .ok (.lstore 6, 2) := by decide +kernel
theorem dX12_spelled_19 : decode cX12_spelled 19 = .ok (.iload_n 2, 1) := by decide +kernel
theorem dX12_spelled_20 : decode cX12_spelled 20 = .ok (.ifCond .le 19, 3) := by decide +kernel
theorem dX12_spelled_23 : decode cX12_spelled 23 = .ok (.lload 6, 2) := by decide +kernel
theorem dX12_spelled_25 : decode cX12_spelled 25 = .ok (.ldc2_w 123, 3) := by decide +kernel
theorem dX12_spelled_28 : decode cX12_spelled 28 = .ok (.lmul, 1) := by decide +kernel
theorem dX12_spelled_29 : decode cX12_spelled 29 = .ok (.iload_n 2, 1) := by decide +kernel
theorem dX12_spelled_30 : decode cX12_spelled 30 = .ok (.i2l, 1) := by decide +kernel
theorem dX12_spelled_31 : decode cX12_spelled 31 = .ok (.ladd, 1) := by decide +kernel
theorem dX12_spelled_32 : decode cX12_spelled 32 = .ok (.ldc2_w 125, 3) := by decide +kernel
theorem dX12_spelled_35 : decode cX12_spelled 35 = .ok (.lsub, 1) := by decide +kernel
theorem dX12_spelled_36 : decode cX12_spelled 36 = .ok (.goto 5, 3) := by decide +kernel
theorem dX12_spelled_39 : decode cX12_spelled 39 = .ok (.lload 6, 2) := by decide +kernel
theorem dX12_spelled_41 : decode cX12_spelled 41 = .ok (.lstore 6, 2) := by decide +kernel
theorem dX12_spelled_43 : decode cX12_spelled 43 = .ok (.iload_n 3, 1) := by decide +kernel
theorem dX12_spelled_44 : decode cX12_spelled 44 = .ok (.ifCond .le 19, 3) := by decide +kernel
theorem dX12_spelled_47 : decode cX12_spelled 47 = .ok (.lload 6, 2) := by decide +kernel
theorem dX12_spelled_49 : decode cX12_spelled 49 = .ok (.ldc2_w 123, 3) := by decide +kernel
theorem dX12_spelled_52 : decode cX12_spelled 52 = .ok (.lmul, 1) := by decide +kernel
theorem dX12_spelled_53 : decode cX12_spelled 53 = .ok (.iload_n 3, 1) := by decide +kernel
theorem dX12_spelled_54 : decode cX12_spelled 54 = .ok (.i2l, 1) := by decide +kernel
theorem dX12_spelled_55 : decode cX12_spelled 55 = .ok (.ladd, 1) := by decide +kernel
theorem dX12_spelled_56 : decode cX12_spelled 56 = .ok (.ldc2_w 125, 3) := by decide +kernel
theorem dX12_spelled_59 : decode cX12_spelled 59 = .ok (.lsub, 1) := by decide +kernel
theorem dX12_spelled_60 : decode cX12_spelled 60 = .ok (.goto 5, 3) := by decide +kernel
theorem dX12_spelled_63 : decode cX12_spelled 63 = .ok (.lload 6, 2) := by decide +kernel
theorem dX12_spelled_65 : decode cX12_spelled 65 = .ok (.lstore 6, 2) := by decide +kernel
theorem dX12_spelled_67 : decode cX12_spelled 67 = .ok (.iload 4, 2) := by decide +kernel
theorem dX12_spelled_69 : decode cX12_spelled 69 = .ok (.ifCond .le 20, 3) := by decide +kernel
theorem dX12_spelled_72 : decode cX12_spelled 72 = .ok (.lload 6, 2) := by decide +kernel
theorem dX12_spelled_74 : decode cX12_spelled 74 = .ok (.ldc2_w 123, 3) := by decide +kernel
theorem dX12_spelled_77 : decode cX12_spelled 77 = .ok (.lmul, 1) := by decide +kernel
theorem dX12_spelled_78 : decode cX12_spelled 78 = .ok (.iload 4, 2) := by decide +kernel
theorem dX12_spelled_80 : decode cX12_spelled 80 = .ok (.i2l, 1) := by decide +kernel
theorem dX12_spelled_81 : decode cX12_spelled 81 = .ok (.ladd, 1) := by decide +kernel
theorem dX12_spelled_82 : decode cX12_spelled 82 = .ok (.ldc2_w 125, 3) := by decide +kernel
theorem dX12_spelled_85 : decode cX12_spelled 85 = .ok (.lsub, 1) := by decide +kernel
theorem dX12_spelled_86 : decode cX12_spelled 86 = .ok (.goto 5, 3) := by decide +kernel
theorem dX12_spelled_89 : decode cX12_spelled 89 = .ok (.lload 6, 2) := by decide +kernel
theorem dX12_spelled_91 : decode cX12_spelled 91 = .ok (.lstore 6, 2) := by decide +kernel
theorem dX12_spelled_93 : decode cX12_spelled 93 = .ok (.iload 5, 2) := by decide +kernel
theorem dX12_spelled_95 : decode cX12_spelled 95 = .ok (.ifCond .le 20, 3) := by decide +kernel
theorem dX12_spelled_98 : decode cX12_spelled 98 = .ok (.lload 6, 2) := by decide +kernel
theorem dX12_spelled_100 : decode cX12_spelled 100 = .ok (.ldc2_w 123, 3) := by decide +kernel
theorem dX12_spelled_103 : decode cX12_spelled 103 = .ok (.lmul, 1) := by decide +kernel
theorem dX12_spelled_104 : decode cX12_spelled 104 = .ok (.iload 5, 2) := by decide +kernel
theorem dX12_spelled_106 : decode cX12_spelled 106 = .ok (.i2l, 1) := by decide +kernel
theorem dX12_spelled_107 : decode cX12_spelled 107 = .ok (.ladd, 1) := by decide +kernel
theorem dX12_spelled_108 : decode cX12_spelled 108 = .ok (.ldc2_w 125, 3) := by decide +kernel
theorem dX12_spelled_111 : decode cX12_spelled 111 = .ok (.lsub, 1) := by decide +kernel
theorem dX12_spelled_112 : decode cX12_spelled 112 = .ok (.goto 5, 3) := by decide +kernel
theorem dX12_spelled_115 : decode cX12_spelled 115 = .ok (.lload 6, 2) := by decide +kernel
theorem dX12_spelled_117 : decode cX12_spelled 117 = .ok (.lreturn, 1) := by decide +kernel
theorem dX12_isWord_0 : decode cX12_isWord 0 = .ok (.aload_n 0, 1) := by decide +kernel
theorem dX12_isWord_1 : decode cX12_isWord 1 = .ok (.getfield 114, 3) := by decide +kernel
theorem dX12_isWord_4 : decode cX12_isWord 4 = .ok (.iconst 1, 1) := by decide +kernel
theorem dX12_isWord_5 : decode cX12_isWord 5 = .ok (.if_icmp .ne 16, 3) := by decide +kernel
theorem dX12_isWord_8 : decode cX12_isWord 8 = .ok (.aload_n 0, 1) := by decide +kernel
theorem dX12_isWord_9 : decode cX12_isWord 9 = .ok (.getfield 120, 3) := by decide +kernel
theorem dX12_isWord_12 : decode cX12_isWord 12 = .ok (.lload_n 1, 1) := by decide +kernel
theorem dX12_isWord_13 : decode cX12_isWord 13 = .ok (.lcmp, 1) := by decide +kernel
theorem dX12_isWord_14 : decode cX12_isWord 14 = .ok (.ifCond .ne 7, 3) := by decide +kernel
theorem dX12_isWord_17 : decode cX12_isWord 17 = .ok (.iconst 1, 1) := by decide +kernel
theorem dX12_isWord_18 : decode cX12_isWord 18 = .ok (.goto 4, 3) := by decide +kernel
theorem dX12_isWord_21 : decode cX12_isWord 21 = .ok (.iconst 0, 1) := by decide +kernel
theorem dX12_isWord_22 : decode cX12_isWord 22 = .ok (.ireturn, 1) := by decide +kernel
theorem dX12_isTube_0 : decode cX12_isTube 0 = .ok (.aload_n 0, 1) := by decide +kernel
theorem dX12_isTube_1 : decode cX12_isTube 1 = .ok (.bipush 116, 2) := by decide +kernel
theorem dX12_isTube_3 : decode cX12_isTube 3 = .ok (.bipush 117, 2) := by decide +kernel
theorem dX12_isTube_5 : decode cX12_isTube 5 = .ok (.bipush 98, 2) := by decide +kernel
theorem dX12_isTube_7 : decode cX12_isTube 7 = .ok (.bipush 101, 2) := by decide +kernel
theorem dX12_isTube_9 : decode cX12_isTube 9 = .ok (.iconst 0, 1) := by decide +kernel
theorem dX12_isTube_10 : decode cX12_isTube 10 = .ok (.iconst 0, 1) := by decide +kernel
theorem dX12_isTube_11 : decode cX12_isTube 11 = .ok (.invokestatic 139, 3) := by decide +kernel
theorem dX12_isTube_14 : decode cX12_isTube 14 = .ok (.invokevirtual 143, 3) := by decide +kernel
theorem dX12_isTube_17 : decode cX12_isTube 17 = .ok (.ireturn, 1) := by decide +kernel
theorem dX12_fail_0 : decode cX12_fail 0 = .ok (.aload_n 0, 1) := by decide +kernel
theorem dX12_fail_1 : decode cX12_fail 1 = .ok (.getfield 216, 3) := by decide +kernel
theorem dX12_fail_4 : decode cX12_fail 4 = .ok (.ifCond .le 4, 3) := by decide +kernel
theorem dX12_fail_7 : decode cX12_fail 7 = .ok (.return_, 1) := by decide +kernel
theorem dX12_fail_8 : decode cX12_fail 8 = .ok (.aload_n 0, 1) := by decide +kernel
theorem dX12_fail_9 : decode cX12_fail 9 = .ok (.iload_n 1, 1) := by decide +kernel
theorem dX12_fail_10 : decode cX12_fail 10 = .ok (.putfield 216, 3) := by decide +kernel
theorem dX12_fail_13 : decode cX12_fail 13 = .ok (.aload_n 0, 1) := by decide +kernel
theorem dX12_fail_14 : decode cX12_fail 14 = .ok (.iload_n 2, 1) := by decide +kernel
theorem dX12_fail_15 : decode cX12_fail 15 = .ok (.putfield 219, 3) := by decide +kernel
theorem dX12_fail_18 : decode cX12_fail 18 = .ok (.return_, 1) := by decide +kernel
theorem dX12_wrong_0 : decode cX12_wrong 0 = .ok (.aload_n 0, 1) := by decide +kernel
theorem dX12_wrong_1 : decode cX12_wrong 1 = .ok (.aload_n 0, 1) := by decide +kernel
theorem dX12_wrong_2 : decode cX12_wrong 2 = .ok (.getfield 114, 3) := by decide +kernel
theorem dX12_wrong_5 : decode cX12_wrong 5 = .ok (.iconst 4, 1) := by decide +kernel
theorem dX12_wrong_6 : decode cX12_wrong 6 = .ok (.if_icmp .ne 7, 3) := by decide +kernel
theorem dX12_wrong_9 : decode cX12_wrong 9 = .ok (.iconst 1, 1) := by decide +kernel
theorem dX12_wrong_10 : decode cX12_wrong 10 = .ok (.goto 4, 3) := by decide +kernel
theorem dX12_wrong_13 : decode cX12_wrong 13 = .ok (.iconst 2, 1) := by decide +kernel
theorem dX12_wrong_14 : decode cX12_wrong 14 = .ok (.aload_n 0, 1) := by decide +kernel
theorem dX12_wrong_15 : decode cX12_wrong 15 = .ok (.getfield 108, 3) := by decide +kernel
theorem dX12_wrong_18 : decode cX12_wrong 18 = .ok (.invokevirtual 222, 3) := by decide +kernel
theorem dX12_wrong_21 : decode cX12_wrong 21 = .ok (.return_, 1) := by decide +kernel
theorem dX12_isIn_0 : decode cX12_isIn 0 = .ok (.lload_n 0, 1) := by decide +kernel
theorem dX12_isIn_1 : decode cX12_isIn 1 = .ok (.lload_n 2, 1) := by decide +kernel
theorem dX12_isIn_2 : decode cX12_isIn 2 = .ok (.lcmp, 1) := by decide +kernel
theorem dX12_isIn_3 : decode cX12_isIn 3 = .ok (.ifCond .lt 14, 3) := by decide +kernel
theorem dX12_isIn_6 : decode cX12_isIn 6 = .ok (.lload_n 0, 1) := by decide +kernel
theorem dX12_isIn_7 : decode cX12_isIn 7 = .ok (.lload 4, 2) := by decide +kernel
theorem dX12_isIn_9 : decode cX12_isIn 9 = .ok (.lcmp, 1) := by decide +kernel
theorem dX12_isIn_10 : decode cX12_isIn 10 = .ok (.ifCond .gt 7, 3) := by decide +kernel
theorem dX12_isIn_13 : decode cX12_isIn 13 = .ok (.iconst 1, 1) := by decide +kernel
theorem dX12_isIn_14 : decode cX12_isIn 14 = .ok (.goto 4, 3) := by decide +kernel
theorem dX12_isIn_17 : decode cX12_isIn 17 = .ok (.iconst 0, 1) := by decide +kernel
theorem dX12_isIn_18 : decode cX12_isIn 18 = .ok (.ireturn, 1) := by decide +kernel
theorem dX12_count_0 : decode cX12_count 0 = .ok (.aload_n 0, 1) := by decide +kernel
theorem dX12_count_1 : decode cX12_count 1 = .ok (.getfield 216, 3) := by decide +kernel
theorem dX12_count_4 : decode cX12_count 4 = .ok (.ifCond .ne 15, 3) := by decide +kernel
theorem dX12_count_7 : decode cX12_count 7 = .ok (.aload_n 0, 1) := by decide +kernel
theorem dX12_count_8 : decode cX12_count 8 = .ok (.getfield 114, 3) := by decide +kernel
theorem dX12_count_11 : decode cX12_count 11 = .ok (.iconst 2, 1) := by decide +kernel
theorem dX12_count_12 : decode cX12_count 12 = .ok (.if_icmp .eq 7, 3) := by decide +kernel
theorem dX12_count_15 : decode cX12_count 15 = .ok (.aload_n 0, 1) := by decide +kernel
theorem dX12_count_16 : decode cX12_count 16 = .ok (.invokevirtual 229, 3) := by decide +kernel
theorem dX12_count_19 : decode cX12_count 19 = .ok (.aload_n 0, 1) := by decide +kernel
theorem dX12_count_20 : decode cX12_count 20 = .ok (.getfield 216, 3) := by decide +kernel
theorem dX12_count_23 : decode cX12_count 23 = .ok (.ifCond .ne 27, 3) := by decide +kernel
theorem dX12_count_26 : decode cX12_count 26 = .ok (.aload_n 0, 1) := by decide +kernel
theorem dX12_count_27 : decode cX12_count 27 = .ok (.getfield 133, 3) := by decide +kernel
theorem dX12_count_30 : decode cX12_count 30 = .ok (.i2l, 1) := by decide +kernel
theorem dX12_count_31 : decode cX12_count 31 = .ok (.iload_n 1, 1) := by decide +kernel
theorem dX12_count_32 : decode cX12_count 32 = .ok (.i2l, 1) := by decide +kernel
theorem dX12_count_33 : decode cX12_count 33 = .ok (.iload_n 2, 1) := by decide +kernel
theorem dX12_count_34 : decode cX12_count 34 = .ok (.i2l, 1) := by decide +kernel
theorem dX12_count_35 : decode cX12_count 35 = .ok (.invokestatic 98, 3) := by decide +kernel
theorem dX12_count_38 : decode cX12_count 38 = .ok (.ifCond .ne 12, 3) := by decide +kernel
theorem dX12_count_41 : decode cX12_count 41 = .ok (.aload_n 0, 1) := by decide +kernel
theorem dX12_count_42 : decode cX12_count 42 = .ok (.iconst 4, 1) := by decide +kernel
theorem dX12_count_43 : decode cX12_count 43 = .ok (.aload_n 0, 1) := by decide +kernel
theorem dX12_count_44 : decode cX12_count 44 = .ok (.getfield 108, 3) := by decide +kernel
theorem dX12_count_47 : decode cX12_count 47 = .ok (.invokevirtual 222, 3) := by decide +kernel
theorem dX12_count_50 : decode cX12_count 50 = .ok (.aload_n 0, 1) := by decide +kernel
theorem dX12_count_51 : decode cX12_count 51 = .ok (.getfield 216, 3) := by decide +kernel
theorem dX12_count_54 : decode cX12_count 54 = .ok (.ifCond .le 5, 3) := by decide +kernel
theorem dX12_count_57 : decode cX12_count 57 = .ok (.iconst 0, 1) := by decide +kernel
theorem dX12_count_58 : decode cX12_count 58 = .ok (.ireturn, 1) := by decide +kernel
theorem dX12_count_59 : decode cX12_count 59 = .ok (.aload_n 0, 1) := by decide +kernel
theorem dX12_count_60 : decode cX12_count 60 = .ok (.getfield 133, 3) := by decide +kernel
theorem dX12_count_63 : decode cX12_count 63 = .ok (.istore_n 3, 1) := by decide +kernel
theorem dX12_count_64 : decode cX12_count 64 = .ok (.aload_n 0, 1) := by decide +kernel
theorem dX12_count_65 : decode cX12_count 65 = .ok (.invokevirtual 226, 3) := by decide +kernel
theorem dX12_count_68 : decode cX12_count 68 = .ok (.iload_n 3, 1) := by decide +kernel
theorem dX12_count_69 : decode cX12_count 69 = .ok (.ireturn, 1) := by decide +kernel
theorem dX12_isBore_0 : decode cX12_isBore 0 = .ok (.aload_n 0, 1) := by decide +kernel
theorem dX12_isBore_1 : decode cX12_isBore 1 = .ok (.bipush 98, 2) := by decide +kernel
theorem dX12_isBore_3 : decode cX12_isBore 3 = .ok (.bipush 111, 2) := by decide +kernel
theorem dX12_isBore_5 : decode cX12_isBore 5 = .ok (.bipush 114, 2) := by decide +kernel
theorem dX12_isBore_7 : decode cX12_isBore 7 = .ok (.bipush 101, 2) := by decide +kernel
theorem dX12_isBore_9 : decode cX12_isBore 9 = .ok (.iconst 0, 1) := by decide +kernel
theorem dX12_isBore_10 : decode cX12_isBore 10 = .ok (.iconst 0, 1) := by decide +kernel
theorem dX12_isBore_11 : decode cX12_isBore 11 = .ok (.invokestatic 139, 3) := by decide +kernel
theorem dX12_isBore_14 : decode cX12_isBore 14 = .ok (.invokevirtual 143, 3) := by decide +kernel
theorem dX12_isBore_17 : decode cX12_isBore 17 = .ok (.ireturn, 1) := by decide +kernel
theorem dX12_must_0 : decode cX12_must 0 = .ok (.aload_n 0, 1) := by decide +kernel
theorem dX12_must_1 : decode cX12_must 1 = .ok (.getfield 216, 3) := by decide +kernel
theorem dX12_must_4 : decode cX12_must 4 = .ok (.ifCond .le 4, 3) := by decide +kernel
theorem dX12_must_7 : decode cX12_must 7 = .ok (.return_, 1) := by decide +kernel
theorem dX12_must_8 : decode cX12_must 8 = .ok (.iload_n 1, 1) := by decide +kernel
theorem dX12_must_9 : decode cX12_must 9 = .ok (.ifCond .eq 10, 3) := by decide +kernel
theorem dX12_must_12 : decode cX12_must 12 = .ok (.aload_n 0, 1) := by decide +kernel
theorem dX12_must_13 : decode cX12_must 13 = .ok (.invokevirtual 226, 3) := by decide +kernel
theorem dX12_must_16 : decode cX12_must 16 = .ok (.goto 7, 3) := by decide +kernel
theorem dX12_must_19 : decode cX12_must 19 = .ok (.aload_n 0, 1) := by decide +kernel
theorem dX12_must_20 : decode cX12_must 20 = .ok (.invokevirtual 229, 3) := by decide +kernel
theorem dX12_must_23 : decode cX12_must 23 = .ok (.return_, 1) := by decide +kernel
theorem dX12_readTube_0 : decode cX12_readTube 0 = .ok (.aload_n 0, 1) := by decide +kernel
theorem dX12_readTube_1 : decode cX12_readTube 1 = .ok (.getfield 238, 3) := by decide +kernel
theorem dX12_readTube_4 : decode cX12_readTube 4 = .ok (.ifCond .eq 12, 3) := by decide +kernel
theorem dX12_readTube_7 : decode cX12_readTube 7 = .ok (.aload_n 0, 1) := by decide +kernel
theorem dX12_readTube_8 : decode cX12_readTube 8 = .ok (.iconst 5, 1) := by decide +kernel
theorem dX12_readTube_9 : decode cX12_readTube 9 = .ok (.aload_n 0, 1) := by decide +kernel
theorem dX12_readTube_10 : decode cX12_readTube 10 = .ok (.getfield 108, 3) := by decide +kernel
theorem dX12_readTube_13 : decode cX12_readTube 13 = .ok (.invokevirtual 222, 3) := by decide +kernel
theorem dX12_readTube_16 : decode cX12_readTube 16 = .ok (.aload_n 0, 1) := by decide +kernel
theorem dX12_readTube_17 : decode cX12_readTube 17 = .ok (.getfield 216, 3) := by decide +kernel
theorem dX12_readTube_20 : decode cX12_readTube 20 = .ok (.ifCond .le 4, 3) := by decide +kernel
theorem dX12_readTube_23 : decode cX12_readTube 23 = .ok (.return_, 1) := by decide +kernel
theorem dX12_readTube_24 : decode cX12_readTube 24 = .ok (.aload_n 0, 1) := by decide +kernel
theorem dX12_readTube_25 : decode cX12_readTube 25 = .ok (.iconst 1, 1) := by decide +kernel
theorem dX12_readTube_26 : decode cX12_readTube 26 = .ok (.putfield 238, 3) := by decide +kernel
theorem dX12_readTube_29 : decode cX12_readTube 29 = .ok (.aload_n 0, 1) := by decide +kernel
theorem dX12_readTube_30 : decode cX12_readTube 30 = .ok (.invokevirtual 226, 3) := by decide +kernel
theorem dX12_readTube_33 : decode cX12_readTube 33 = .ok (.aload_n 0, 1) := by decide +kernel
theorem dX12_readTube_34 : decode cX12_readTube 34 = .ok (.getfield 35, 3) := by decide +kernel
theorem dX12_readTube_37 : decode cX12_readTube 37 = .ok (.sipush 2400, 3) := by decide +kernel
theorem dX12_readTube_40 : decode cX12_readTube 40 = .ok (.aload_n 0, 1) := by decide +kernel
theorem dX12_readTube_41 : decode cX12_readTube 41 = .ok (.bipush 12, 2) := by decide +kernel
theorem dX12_readTube_43 : decode cX12_readTube 43 = .ok (.bipush 48, 2) := by decide +kernel
theorem dX12_readTube_45 : decode cX12_readTube 45 = .ok (.invokevirtual 242, 3) := by decide +kernel
theorem dX12_readTube_48 : decode cX12_readTube 48 = .ok (.iastore, 1) := by decide +kernel
theorem dX12_readTube_49 : decode cX12_readTube 49 = .ok (.aload_n 0, 1) := by decide +kernel
theorem dX12_readTube_50 : decode cX12_readTube 50 = .ok (.aload_n 0, 1) := by decide +kernel
theorem dX12_readTube_51 : decode cX12_readTube 51 = .ok (.invokevirtual 158, 3) := by decide +kernel
theorem dX12_readTube_54 : decode cX12_readTube 54 = .ok (.invokevirtual 245, 3) := by decide +kernel
theorem dX12_readTube_57 : decode cX12_readTube 57 = .ok (.aload_n 0, 1) := by decide +kernel
theorem dX12_readTube_58 : decode cX12_readTube 58 = .ok (.getfield 35, 3) := by decide +kernel
theorem dX12_readTube_61 : decode cX12_readTube 61 = .ok (.sipush 2401, 3) := by decide +kernel
theorem dX12_readTube_64 : decode cX12_readTube 64 = .ok (.aload_n 0, 1) := by decide +kernel
theorem dX12_readTube_65 : decode cX12_readTube 65 = .ok (.iconst 3, 1) := by decide +kernel
theorem dX12_readTube_66 : decode cX12_readTube 66 = .ok (.bipush 12, 2) := by decide +kernel
theorem dX12_readTube_68 : decode cX12_readTube 68 = .ok (.invokevirtual 242, 3) := by decide +kernel
theorem dX12_readTube_71 : decode cX12_readTube 71 = .ok (.iastore, 1) := by decide +kernel
theorem dX12_readTube_72 : decode cX12_readTube 72 = .ok (.return_, 1) := by decide +kernel
theorem dX12_isFar_0 : decode cX12_isFar 0 = .ok (.aload_n 0, 1) := by decide +kernel
theorem dX12_isFar_1 : decode cX12_isFar 1 = .ok (.bipush 102, 2) := by decide +kernel
theorem dX12_isFar_3 : decode cX12_isFar 3 = .ok (.bipush 97, 2) := by decide +kernel
theorem dX12_isFar_5 : decode cX12_isFar 5 = .ok (.bipush 114, 2) := by decide +kernel
theorem dX12_isFar_7 : decode cX12_isFar 7 = .ok (.iconst 0, 1) := by decide +kernel
theorem dX12_isFar_8 : decode cX12_isFar 8 = .ok (.iconst 0, 1) := by decide +kernel
theorem dX12_isFar_9 : decode cX12_isFar 9 = .ok (.iconst 0, 1) := by decide +kernel
theorem dX12_isFar_10 : decode cX12_isFar 10 = .ok (.invokestatic 139, 3) := by decide +kernel
theorem dX12_isFar_13 : decode cX12_isFar 13 = .ok (.invokevirtual 143, 3) := by decide +kernel
theorem dX12_isFar_16 : decode cX12_isFar 16 = .ok (.ireturn, 1) := by decide +kernel
theorem dX12_readFar_0 : decode cX12_readFar 0 = .ok (.aload_n 0, 1) := by decide +kernel
theorem dX12_readFar_1 : decode cX12_readFar 1 = .ok (.getfield 249, 3) := by decide +kernel
theorem dX12_readFar_4 : decode cX12_readFar 4 = .ok (.ifCond .eq 12, 3) := by decide +kernel
theorem dX12_readFar_7 : decode cX12_readFar 7 = .ok (.aload_n 0, 1) := by decide +kernel
theorem dX12_readFar_8 : decode cX12_readFar 8 = .ok (.iconst 5, 1) := by decide +kernel
theorem dX12_readFar_9 : decode cX12_readFar 9 = .ok (.aload_n 0, 1) := by decide +kernel
theorem dX12_readFar_10 : decode cX12_readFar 10 = .ok (.getfield 108, 3) := by decide +kernel
theorem dX12_readFar_13 : decode cX12_readFar 13 = .ok (.invokevirtual 222, 3) := by decide +kernel
theorem dX12_readFar_16 : decode cX12_readFar 16 = .ok (.aload_n 0, 1) := by decide +kernel
theorem dX12_readFar_17 : decode cX12_readFar 17 = .ok (.getfield 216, 3) := by decide +kernel
theorem dX12_readFar_20 : decode cX12_readFar 20 = .ok (.ifCond .le 4, 3) := by decide +kernel
theorem dX12_readFar_23 : decode cX12_readFar 23 = .ok (.return_, 1) := by decide +kernel
theorem dX12_readFar_24 : decode cX12_readFar 24 = .ok (.aload_n 0, 1) := by decide +kernel
theorem dX12_readFar_25 : decode cX12_readFar 25 = .ok (.iconst 1, 1) := by decide +kernel
theorem dX12_readFar_26 : decode cX12_readFar 26 = .ok (.putfield 249, 3) := by decide +kernel
theorem dX12_readFar_29 : decode cX12_readFar 29 = .ok (.aload_n 0, 1) := by decide +kernel
theorem dX12_readFar_30 : decode cX12_readFar 30 = .ok (.invokevirtual 226, 3) := by decide +kernel
theorem dX12_readFar_33 : decode cX12_readFar 33 = .ok (.aload_n 0, 1) := by decide +kernel
theorem dX12_readFar_34 : decode cX12_readFar 34 = .ok (.getfield 35, 3) := by decide +kernel
theorem dX12_readFar_37 : decode cX12_readFar 37 = .ok (.sipush 2402, 3) := by decide +kernel
theorem dX12_readFar_40 : decode cX12_readFar 40 = .ok (.aload_n 0, 1) := by decide +kernel
theorem dX12_readFar_41 : decode cX12_readFar 41 = .ok (.iconst 4, 1) := by decide +kernel
theorem dX12_readFar_42 : decode cX12_readFar 42 = .ok (.bipush 20, 2) := by decide +kernel
theorem dX12_readFar_44 : decode cX12_readFar 44 = .ok (.invokevirtual 242, 3) := by decide +kernel
theorem dX12_readFar_47 : decode cX12_readFar 47 = .ok (.iastore, 1) := by decide +kernel
theorem dX12_readFar_48 : decode cX12_readFar 48 = .ok (.return_, 1) := by decide +kernel
theorem dX12_isWind_0 : decode cX12_isWind 0 = .ok (.aload_n 0, 1) := by decide +kernel
theorem dX12_isWind_1 : decode cX12_isWind 1 = .ok (.bipush 119, 2) := by decide +kernel
theorem dX12_isWind_3 : decode cX12_isWind 3 = .ok (.bipush 105, 2) := by decide +kernel
theorem dX12_isWind_5 : decode cX12_isWind 5 = .ok (.bipush 110, 2) := by decide +kernel
theorem dX12_isWind_7 : decode cX12_isWind 7 = .ok (.bipush 100, 2) := by decide +kernel
theorem dX12_isWind_9 : decode cX12_isWind 9 = .ok (.iconst 0, 1) := by decide +kernel
theorem dX12_isWind_10 : decode cX12_isWind 10 = .ok (.iconst 0, 1) := by decide +kernel
theorem dX12_isWind_11 : decode cX12_isWind 11 = .ok (.invokestatic 139, 3) := by decide +kernel
theorem dX12_isWind_14 : decode cX12_isWind 14 = .ok (.invokevirtual 143, 3) := by decide +kernel
theorem dX12_isWind_17 : decode cX12_isWind 17 = .ok (.ireturn, 1) := by decide +kernel
theorem dX12_isLeft_0 : decode cX12_isLeft 0 = .ok (.aload_n 0, 1) := by decide +kernel
theorem dX12_isLeft_1 : decode cX12_isLeft 1 = .ok (.bipush 108, 2) := by decide +kernel
theorem dX12_isLeft_3 : decode cX12_isLeft 3 = .ok (.bipush 101, 2) := by decide +kernel
theorem dX12_isLeft_5 : decode cX12_isLeft 5 = .ok (.bipush 102, 2) := by decide +kernel
theorem dX12_isLeft_7 : decode cX12_isLeft 7 = .ok (.bipush 116, 2) := by decide +kernel
theorem dX12_isLeft_9 : decode cX12_isLeft 9 = .ok (.iconst 0, 1) := by decide +kernel
theorem dX12_isLeft_10 : decode cX12_isLeft 10 = .ok (.iconst 0, 1) := by decide +kernel
theorem dX12_isLeft_11 : decode cX12_isLeft 11 = .ok (.invokestatic 139, 3) := by decide +kernel
theorem dX12_isLeft_14 : decode cX12_isLeft 14 = .ok (.invokevirtual 143, 3) := by decide +kernel
theorem dX12_isLeft_17 : decode cX12_isLeft 17 = .ok (.ireturn, 1) := by decide +kernel
theorem dX12_readWind_0 : decode cX12_readWind 0 = .ok (.aload_n 0, 1) := by decide +kernel
theorem dX12_readWind_1 : decode cX12_readWind 1 = .ok (.getfield 252, 3) := by decide +kernel
theorem dX12_readWind_4 : decode cX12_readWind 4 = .ok (.ifCond .eq 12, 3) := by decide +kernel
theorem dX12_readWind_7 : decode cX12_readWind 7 = .ok (.aload_n 0, 1) := by decide +kernel
theorem dX12_readWind_8 : decode cX12_readWind 8 = .ok (.iconst 5, 1) := by decide +kernel
theorem dX12_readWind_9 : decode cX12_readWind 9 = .ok (.aload_n 0, 1) := by decide +kernel
theorem dX12_readWind_10 : decode cX12_readWind 10 = .ok (.getfield 108, 3) := by decide +kernel
theorem dX12_readWind_13 : decode cX12_readWind 13 = .ok (.invokevirtual 222, 3) := by decide +kernel
theorem dX12_readWind_16 : decode cX12_readWind 16 = .ok (.aload_n 0, 1) := by decide +kernel
theorem dX12_readWind_17 : decode cX12_readWind 17 = .ok (.getfield 216, 3) := by decide +kernel
theorem dX12_readWind_20 : decode cX12_readWind 20 = .ok (.ifCond .le 4, 3) := by decide +kernel
theorem dX12_readWind_23 : decode cX12_readWind 23 = .ok (.return_, 1) := by decide +kernel
theorem dX12_readWind_24 : decode cX12_readWind 24 = .ok (.aload_n 0, 1) := by decide +kernel
theorem dX12_readWind_25 : decode cX12_readWind 25 = .ok (.iconst 1, 1) := by decide +kernel
theorem dX12_readWind_26 : decode cX12_readWind 26 = .ok (.putfield 252, 3) := by decide +kernel
theorem dX12_readWind_29 : decode cX12_readWind 29 = .ok (.aload_n 0, 1) := by decide +kernel
theorem dX12_readWind_30 : decode cX12_readWind 30 = .ok (.invokevirtual 226, 3) := by decide +kernel
theorem dX12_readWind_33 : decode cX12_readWind 33 = .ok (.aload_n 0, 1) := by decide +kernel
theorem dX12_readWind_34 : decode cX12_readWind 34 = .ok (.getfield 35, 3) := by decide +kernel
theorem dX12_readWind_37 : decode cX12_readWind 37 = .ok (.sipush 2403, 3) := by decide +kernel
theorem dX12_readWind_40 : decode cX12_readWind 40 = .ok (.aload_n 0, 1) := by decide +kernel
theorem dX12_readWind_41 : decode cX12_readWind 41 = .ok (.iconst 0, 1) := by decide +kernel
theorem dX12_readWind_42 : decode cX12_readWind 42 = .ok (.bipush 9, 2) := by decide +kernel
theorem dX12_readWind_44 : decode cX12_readWind 44 = .ok (.invokevirtual 242, 3) := by decide +kernel
theorem dX12_readWind_47 : decode cX12_readWind 47 = .ok (.iastore, 1) := by decide +kernel
theorem dX12_readWind_48 : decode cX12_readWind 48 = .ok (.aload_n 0, 1) := by decide +kernel
theorem dX12_readWind_49 : decode cX12_readWind 49 = .ok (.getfield 216, 3) := by decide +kernel
theorem dX12_readWind_52 : decode cX12_readWind 52 = .ok (.ifCond .gt 10, 3) := by decide +kernel
theorem dX12_readWind_55 : decode cX12_readWind 55 = .ok (.aload_n 0, 1) := by decide +kernel
theorem dX12_readWind_56 : decode cX12_readWind 56 = .ok (.invokevirtual 167, 3) := by decide +kernel
theorem dX12_readWind_59 : decode cX12_readWind 59 = .ok (.ifCond .ne 4, 3) := by decide +kernel
theorem dX12_readWind_62 : decode cX12_readWind 62 = .ok (.return_, 1) := by decide +kernel
theorem dX12_readWind_63 : decode cX12_readWind 63 = .ok (.aload_n 0, 1) := by decide +kernel
theorem dX12_readWind_64 : decode cX12_readWind 64 = .ok (.getfield 35, 3) := by decide +kernel
theorem dX12_readWind_67 : decode cX12_readWind 67 = .ok (.sipush 2403, 3) := by decide +kernel
theorem dX12_readWind_70 : decode cX12_readWind 70 = .ok (.aload_n 0, 1) := by decide +kernel
theorem dX12_readWind_71 : decode cX12_readWind 71 = .ok (.getfield 35, 3) := by decide +kernel
theorem dX12_readWind_74 : decode cX12_readWind 74 = .ok (.sipush 2403, 3) := by decide +kernel
theorem dX12_readWind_77 : decode cX12_readWind 77 = .ok (.iaload, 1) := by decide +kernel
theorem dX12_readWind_78 : decode cX12_readWind 78 = .ok (.ineg, 1) := by decide +kernel
theorem dX12_readWind_79 : decode cX12_readWind 79 = .ok (.iastore, 1) := by decide +kernel
theorem dX12_readWind_80 : decode cX12_readWind 80 = .ok (.aload_n 0, 1) := by decide +kernel
theorem dX12_readWind_81 : decode cX12_readWind 81 = .ok (.invokevirtual 226, 3) := by decide +kernel
theorem dX12_readWind_84 : decode cX12_readWind 84 = .ok (.return_, 1) := by decide +kernel
theorem dX12_isRing_0 : decode cX12_isRing 0 = .ok (.aload_n 0, 1) := by decide +kernel
theorem dX12_isRing_1 : decode cX12_isRing 1 = .ok (.bipush 114, 2) := by decide +kernel
theorem dX12_isRing_3 : decode cX12_isRing 3 = .ok (.bipush 105, 2) := by decide +kernel
theorem dX12_isRing_5 : decode cX12_isRing 5 = .ok (.bipush 110, 2) := by decide +kernel
theorem dX12_isRing_7 : decode cX12_isRing 7 = .ok (.bipush 103, 2) := by decide +kernel
theorem dX12_isRing_9 : decode cX12_isRing 9 = .ok (.iconst 0, 1) := by decide +kernel
theorem dX12_isRing_10 : decode cX12_isRing 10 = .ok (.iconst 0, 1) := by decide +kernel
theorem dX12_isRing_11 : decode cX12_isRing 11 = .ok (.invokestatic 139, 3) := by decide +kernel
theorem dX12_isRing_14 : decode cX12_isRing 14 = .ok (.invokevirtual 143, 3) := by decide +kernel
theorem dX12_isRing_17 : decode cX12_isRing 17 = .ok (.ireturn, 1) := by decide +kernel
theorem dX12_isWorth_0 : decode cX12_isWorth 0 = .ok (.aload_n 0, 1) := by decide +kernel
theorem dX12_isWorth_1 : decode cX12_isWorth 1 = .ok (.bipush 119, 2) := by decide +kernel
theorem dX12_isWorth_3 : decode cX12_isWorth 3 = .ok (.bipush 111, 2) := by decide +kernel
theorem dX12_isWorth_5 : decode cX12_isWorth 5 = .ok (.bipush 114, 2) := by decide +kernel
theorem dX12_isWorth_7 : decode cX12_isWorth 7 = .ok (.bipush 116, 2) := by decide +kernel
theorem dX12_isWorth_9 : decode cX12_isWorth 9 = .ok (.bipush 104, 2) := by decide +kernel
theorem dX12_isWorth_11 : decode cX12_isWorth 11 = .ok (.iconst 0, 1) := by decide +kernel
theorem dX12_isWorth_12 : decode cX12_isWorth 12 = .ok (.invokestatic 139, 3) := by decide +kernel
theorem dX12_isWorth_15 : decode cX12_isWorth 15 = .ok (.invokevirtual 143, 3) := by decide +kernel
theorem dX12_isWorth_18 : decode cX12_isWorth 18 = .ok (.ireturn, 1) := by decide +kernel
theorem dX12_readRing_0 : decode cX12_readRing 0 = .ok (.aload_n 0, 1) := by decide +kernel
theorem dX12_readRing_1 : decode cX12_readRing 1 = .ok (.getfield 35, 3) := by decide +kernel
theorem dX12_readRing_4 : decode cX12_readRing 4 = .ok (.sipush 2404, 3) := by decide +kernel
theorem dX12_readRing_7 : decode cX12_readRing 7 = .ok (.iaload, 1) := by decide +kernel
theorem dX12_readRing_8 : decode cX12_readRing 8 = .ok (.istore_n 1, 1) := by decide +kernel
theorem dX12_readRing_9 : decode cX12_readRing 9 = .ok (.iload_n 1, 1) := by decide +kernel
theorem dX12_readRing_10 : decode cX12_readRing 10 = .ok (.bipush 6, 2) := by decide +kernel
theorem dX12_readRing_12 : decode cX12_readRing 12 = .ok (.if_icmp .ne 13, 3) := by decide +kernel
theorem dX12_readRing_15 : decode cX12_readRing 15 = .ok (.aload_n 0, 1) := by decide +kernel
theorem dX12_readRing_16 : decode cX12_readRing 16 = .ok (.bipush 6, 2) := by decide +kernel
theorem dX12_readRing_18 : decode cX12_readRing 18 = .ok (.aload_n 0, 1) := by decide +kernel
theorem dX12_readRing_19 : decode cX12_readRing 19 = .ok (.getfield 108, 3) := by decide +kernel
theorem dX12_readRing_22 : decode cX12_readRing 22 = .ok (.invokevirtual 222, 3) := by decide +kernel
theorem dX12_readRing_25 : decode cX12_readRing 25 = .ok (.aload_n 0, 1) := by decide +kernel
theorem dX12_readRing_26 : decode cX12_readRing 26 = .ok (.getfield 216, 3) := by decide +kernel
theorem dX12_readRing_29 : decode cX12_readRing 29 = .ok (.ifCond .le 4, 3) := by decide +kernel
theorem dX12_readRing_32 : decode cX12_readRing 32 = .ok (.return_, 1) := by decide +kernel
theorem dX12_readRing_33 : decode cX12_readRing 33 = .ok (.aload_n 0, 1) := by decide +kernel
theorem dX12_readRing_34 : decode cX12_readRing 34 = .ok (.invokevirtual 226, 3) := by decide +kernel
theorem dX12_readRing_37 : decode cX12_readRing 37 = .ok (.aload_n 0, 1) := by decide +kernel
theorem dX12_readRing_38 : decode cX12_readRing 38 = .ok (.iconst 1, 1) := by decide +kernel
theorem dX12_readRing_39 : decode cX12_readRing 39 = .ok (.iload_n 1, 1) := by decide +kernel
theorem dX12_readRing_40 : decode cX12_readRing 40 = .ok (.ifCond .ne 8, 3) := by decide +kernel
theorem dX12_readRing_43 : decode cX12_readRing 43 = .ok (.bipush 60, 2) := by decide +kernel
theorem dX12_readRing_45 : decode cX12_readRing 45 = .ok (.goto 17, 3) := by decide +kernel
theorem dX12_readRing_48 : decode cX12_readRing 48 = .ok (.aload_n 0, 1) := by decide +kernel
theorem dX12_readRing_49 : decode cX12_readRing 49 = .ok (.getfield 35, 3) := by decide +kernel
theorem dX12_readRing_52 : decode cX12_readRing 52 = .ok (.sipush 2409, 3) := by decide +kernel
theorem dX12_readRing_55 : decode cX12_readRing 55 = .ok (.iload_n 1, 1) := by decide +kernel
theorem dX12_readRing_56 : decode cX12_readRing 56 = .ok (.iadd, 1) := by decide +kernel
theorem dX12_readRing_57 : decode cX12_readRing 57 = .ok (.iconst 1, 1) := by decide +kernel
theorem dX12_readRing_58 : decode cX12_readRing 58 = .ok (.isub, 1) := by decide +kernel
theorem dX12_readRing_59 : decode cX12_readRing 59 = .ok (.iaload, 1) := by decide +kernel
theorem dX12_readRing_60 : decode cX12_readRing 60 = .ok (.iconst 1, 1) := by decide +kernel
theorem dX12_readRing_61 : decode cX12_readRing 61 = .ok (.isub, 1) := by decide +kernel
theorem dX12_readRing_62 : decode cX12_readRing 62 = .ok (.invokevirtual 242, 3) := by decide +kernel
theorem dX12_readRing_65 : decode cX12_readRing 65 = .ok (.istore_n 2, 1) := by decide +kernel
theorem dX12_readRing_66 : decode cX12_readRing 66 = .ok (.aload_n 0, 1) := by decide +kernel
theorem dX12_readRing_67 : decode cX12_readRing 67 = .ok (.aload_n 0, 1) := by decide +kernel
theorem dX12_readRing_68 : decode cX12_readRing 68 = .ok (.invokevirtual 173, 3) := by decide +kernel
theorem dX12_readRing_71 : decode cX12_readRing 71 = .ok (.invokevirtual 245, 3) := by decide +kernel
theorem dX12_readRing_74 : decode cX12_readRing 74 = .ok (.aload_n 0, 1) := by decide +kernel
theorem dX12_readRing_75 : decode cX12_readRing 75 = .ok (.iload_n 1, 1) := by decide +kernel
theorem dX12_readRing_76 : decode cX12_readRing 76 = .ok (.ifCond .ne 7, 3) := by decide +kernel
theorem dX12_readRing_79 : decode cX12_readRing 79 = .ok (.iconst 1, 1) := by decide +kernel
theorem dX12_readRing_80 : decode cX12_readRing 80 = .ok (.goto 17, 3) := by decide +kernel
theorem dX12_readRing_83 : decode cX12_readRing 83 = .ok (.aload_n 0, 1) := by decide +kernel
theorem dX12_readRing_84 : decode cX12_readRing 84 = .ok (.getfield 35, 3) := by decide +kernel
theorem dX12_readRing_87 : decode cX12_readRing 87 = .ok (.sipush 2415, 3) := by decide +kernel
theorem dX12_readRing_90 : decode cX12_readRing 90 = .ok (.iload_n 1, 1) := by decide +kernel
theorem dX12_readRing_91 : decode cX12_readRing 91 = .ok (.iadd, 1) := by decide +kernel
theorem dX12_readRing_92 : decode cX12_readRing 92 = .ok (.iconst 1, 1) := by decide +kernel
theorem dX12_readRing_93 : decode cX12_readRing 93 = .ok (.isub, 1) := by decide +kernel
theorem dX12_readRing_94 : decode cX12_readRing 94 = .ok (.iaload, 1) := by decide +kernel
theorem dX12_readRing_95 : decode cX12_readRing 95 = .ok (.iconst 1, 1) := by decide +kernel
theorem dX12_readRing_96 : decode cX12_readRing 96 = .ok (.iadd, 1) := by decide +kernel
theorem dX12_readRing_97 : decode cX12_readRing 97 = .ok (.bipush 20, 2) := by decide +kernel
theorem dX12_readRing_99 : decode cX12_readRing 99 = .ok (.invokevirtual 242, 3) := by decide +kernel
theorem dX12_readRing_102 : decode cX12_readRing 102 = .ok (.istore_n 3, 1) := by decide +kernel
theorem dX12_readRing_103 : decode cX12_readRing 103 = .ok (.aload_n 0, 1) := by decide +kernel
theorem dX12_readRing_104 : decode cX12_readRing 104 = .ok (.getfield 216, 3) := by decide +kernel
theorem dX12_readRing_107 : decode cX12_readRing 107 = .ok (.ifCond .le 4, 3) := by decide +kernel
theorem dX12_readRing_110 : decode cX12_readRing 110 = .ok (.return_, 1) := by decide +kernel
theorem dX12_readRing_111 : decode cX12_readRing 111 = .ok (.aload_n 0, 1) := by decide +kernel
theorem dX12_readRing_112 : decode cX12_readRing 112 = .ok (.getfield 35, 3) := by decide +kernel
theorem dX12_readRing_115 : decode cX12_readRing 115 = .ok (.sipush 2409, 3) := by decide +kernel
theorem dX12_readRing_118 : decode cX12_readRing 118 = .ok (.iload_n 1, 1) := by decide +kernel
theorem dX12_readRing_119 : decode cX12_readRing 119 = .ok (.iadd, 1) := by decide +kernel
theorem dX12_readRing_120 : decode cX12_readRing 120 = .ok (.iload_n 2, 1) := by decide +kernel
theorem dX12_readRing_121 : decode cX12_readRing 121 = .ok (.iastore, 1) := by decide +kernel
theorem dX12_readRing_122 : decode cX12_readRing 122 = .ok (.aload_n 0, 1) := by decide +kernel
theorem dX12_readRing_123 : decode cX12_readRing 123 = .ok (.getfield 35, 3) := by decide +kernel
theorem dX12_readRing_126 : decode cX12_readRing 126 = .ok (.sipush 2415, 3) := by decide +kernel
theorem dX12_readRing_129 : decode cX12_readRing 129 = .ok (.iload_n 1, 1) := by decide +kernel
theorem dX12_readRing_130 : decode cX12_readRing 130 = .ok (.iadd, 1) := by decide +kernel
theorem dX12_readRing_131 : decode cX12_readRing 131 = .ok (.iload_n 3, 1) := by decide +kernel
theorem dX12_readRing_132 : decode cX12_readRing 132 = .ok (.iastore, 1) := by decide +kernel
theorem dX12_readRing_133 : decode cX12_readRing 133 = .ok (.aload_n 0, 1) := by decide +kernel
theorem dX12_readRing_134 : decode cX12_readRing 134 = .ok (.getfield 35, 3) := by decide +kernel
theorem dX12_readRing_137 : decode cX12_readRing 137 = .ok (.sipush 2404, 3) := by decide +kernel
theorem dX12_readRing_140 : decode cX12_readRing 140 = .ok (.dup2, 1) := by decide +kernel
theorem dX12_readRing_141 : decode cX12_readRing 141 = .ok (.iaload, 1) := by decide +kernel
theorem dX12_readRing_142 : decode cX12_readRing 142 = .ok (.iconst 1, 1) := by decide +kernel
theorem dX12_readRing_143 : decode cX12_readRing 143 = .ok (.iadd, 1) := by decide +kernel
theorem dX12_readRing_144 : decode cX12_readRing 144 = .ok (.iastore, 1) := by decide +kernel
theorem dX12_readRing_145 : decode cX12_readRing 145 = .ok (.return_, 1) := by decide +kernel
theorem dX12_isPea_0 : decode cX12_isPea 0 = .ok (.aload_n 0, 1) := by decide +kernel
theorem dX12_isPea_1 : decode cX12_isPea 1 = .ok (.bipush 112, 2) := by decide +kernel
theorem dX12_isPea_3 : decode cX12_isPea 3 = .ok (.bipush 101, 2) := by decide +kernel
theorem dX12_isPea_5 : decode cX12_isPea 5 = .ok (.bipush 97, 2) := by decide +kernel
theorem dX12_isPea_7 : decode cX12_isPea 7 = .ok (.iconst 0, 1) := by decide +kernel
theorem dX12_isPea_8 : decode cX12_isPea 8 = .ok (.iconst 0, 1) := by decide +kernel
theorem dX12_isPea_9 : decode cX12_isPea 9 = .ok (.iconst 0, 1) := by decide +kernel
theorem dX12_isPea_10 : decode cX12_isPea 10 = .ok (.invokestatic 139, 3) := by decide +kernel
theorem dX12_isPea_13 : decode cX12_isPea 13 = .ok (.invokevirtual 143, 3) := by decide +kernel
theorem dX12_isPea_16 : decode cX12_isPea 16 = .ok (.ireturn, 1) := by decide +kernel
theorem dX12_isSize_0 : decode cX12_isSize 0 = .ok (.aload_n 0, 1) := by decide +kernel
theorem dX12_isSize_1 : decode cX12_isSize 1 = .ok (.bipush 115, 2) := by decide +kernel
theorem dX12_isSize_3 : decode cX12_isSize 3 = .ok (.bipush 105, 2) := by decide +kernel
theorem dX12_isSize_5 : decode cX12_isSize 5 = .ok (.bipush 122, 2) := by decide +kernel
theorem dX12_isSize_7 : decode cX12_isSize 7 = .ok (.bipush 101, 2) := by decide +kernel
theorem dX12_isSize_9 : decode cX12_isSize 9 = .ok (.iconst 0, 1) := by decide +kernel
theorem dX12_isSize_10 : decode cX12_isSize 10 = .ok (.iconst 0, 1) := by decide +kernel
theorem dX12_isSize_11 : decode cX12_isSize 11 = .ok (.invokestatic 139, 3) := by decide +kernel
theorem dX12_isSize_14 : decode cX12_isSize 14 = .ok (.invokevirtual 143, 3) := by decide +kernel
theorem dX12_isSize_17 : decode cX12_isSize 17 = .ok (.ireturn, 1) := by decide +kernel
theorem dX12_isWeight_0 : decode cX12_isWeight 0 = .ok (.aload_n 0, 1) := by decide +kernel
theorem dX12_isWeight_1 : decode cX12_isWeight 1 = .ok (.bipush 119, 2) := by decide +kernel
theorem dX12_isWeight_3 : decode cX12_isWeight 3 = .ok (.bipush 101, 2) := by decide +kernel
theorem dX12_isWeight_5 : decode cX12_isWeight 5 = .ok (.bipush 105, 2) := by decide +kernel
theorem dX12_isWeight_7 : decode cX12_isWeight 7 = .ok (.bipush 103, 2) := by decide +kernel
theorem dX12_isWeight_9 : decode cX12_isWeight 9 = .ok (.bipush 104, 2) := by decide +kernel
theorem dX12_isWeight_11 : decode cX12_isWeight 11 = .ok (.bipush 116, 2) := by decide +kernel
theorem dX12_isWeight_13 : decode cX12_isWeight 13 = .ok (.invokestatic 139, 3) := by decide +kernel
theorem dX12_isWeight_16 : decode cX12_isWeight 16 = .ok (.invokevirtual 143, 3) := by decide +kernel
theorem dX12_isWeight_19 : decode cX12_isWeight 19 = .ok (.ireturn, 1) := by decide +kernel
theorem dX12_isCrooked_0 : decode cX12_isCrooked 0 = .ok (.aload_n 0, 1) := by decide +kernel
theorem dX12_isCrooked_1 : decode cX12_isCrooked 1 = .ok (.bipush 99, 2) := by decide +kernel
theorem dX12_isCrooked_3 : decode cX12_isCrooked 3 = .ok (.bipush 114, 2) := by decide +kernel
theorem dX12_isCrooked_5 : decode cX12_isCrooked 5 = .ok (.bipush 111, 2) := by decide +kernel
theorem dX12_isCrooked_7 : decode cX12_isCrooked 7 = .ok (.bipush 111, 2) := by decide +kernel
theorem dX12_isCrooked_9 : decode cX12_isCrooked 9 = .ok (.bipush 107, 2) := by decide +kernel
theorem dX12_isCrooked_11 : decode cX12_isCrooked 11 = .ok (.bipush 101, 2) := by decide +kernel
theorem dX12_isCrooked_13 : decode cX12_isCrooked 13 = .ok (.invokestatic 139, 3) := by decide +kernel
theorem dX12_isCrooked_16 : decode cX12_isCrooked 16 = .ok (.ldc2_w 123, 3) := by decide +kernel
theorem dX12_isCrooked_19 : decode cX12_isCrooked 19 = .ok (.lmul, 1) := by decide +kernel
theorem dX12_isCrooked_20 : decode cX12_isCrooked 20 = .ok (.ldc2_w 147, 3) := by decide +kernel
theorem dX12_isCrooked_23 : decode cX12_isCrooked 23 = .ok (.ladd, 1) := by decide +kernel
theorem dX12_isCrooked_24 : decode cX12_isCrooked 24 = .ok (.invokevirtual 143, 3) := by decide +kernel
theorem dX12_isCrooked_27 : decode cX12_isCrooked 27 = .ok (.ireturn, 1) := by decide +kernel
theorem dX12_isWet_0 : decode cX12_isWet 0 = .ok (.aload_n 0, 1) := by decide +kernel
theorem dX12_isWet_1 : decode cX12_isWet 1 = .ok (.bipush 119, 2) := by decide +kernel
theorem dX12_isWet_3 : decode cX12_isWet 3 = .ok (.bipush 101, 2) := by decide +kernel
theorem dX12_isWet_5 : decode cX12_isWet 5 = .ok (.bipush 116, 2) := by decide +kernel
theorem dX12_isWet_7 : decode cX12_isWet 7 = .ok (.iconst 0, 1) := by decide +kernel
theorem dX12_isWet_8 : decode cX12_isWet 8 = .ok (.iconst 0, 1) := by decide +kernel
theorem dX12_isWet_9 : decode cX12_isWet 9 = .ok (.iconst 0, 1) := by decide +kernel
theorem dX12_isWet_10 : decode cX12_isWet 10 = .ok (.invokestatic 139, 3) := by decide +kernel
theorem dX12_isWet_13 : decode cX12_isWet 13 = .ok (.invokevirtual 143, 3) := by decide +kernel
theorem dX12_isWet_16 : decode cX12_isWet 16 = .ok (.ireturn, 1) := by decide +kernel
theorem dX12_isShooter_0 : decode cX12_isShooter 0 = .ok (.aload_n 0, 1) := by decide +kernel
theorem dX12_isShooter_1 : decode cX12_isShooter 1 = .ok (.bipush 115, 2) := by decide +kernel
theorem dX12_isShooter_3 : decode cX12_isShooter 3 = .ok (.bipush 104, 2) := by decide +kernel
theorem dX12_isShooter_5 : decode cX12_isShooter 5 = .ok (.bipush 111, 2) := by decide +kernel
theorem dX12_isShooter_7 : decode cX12_isShooter 7 = .ok (.bipush 111, 2) := by decide +kernel
theorem dX12_isShooter_9 : decode cX12_isShooter 9 = .ok (.bipush 116, 2) := by decide +kernel
theorem dX12_isShooter_11 : decode cX12_isShooter 11 = .ok (.bipush 101, 2) := by decide +kernel
theorem dX12_isShooter_13 : decode cX12_isShooter 13 = .ok (.invokestatic 139, 3) := by decide +kernel
theorem dX12_isShooter_16 : decode cX12_isShooter 16 = .ok (.ldc2_w 123, 3) := by decide +kernel
theorem dX12_isShooter_19 : decode cX12_isShooter 19 = .ok (.lmul, 1) := by decide +kernel
theorem dX12_isShooter_20 : decode cX12_isShooter 20 = .ok (.ldc2_w 149, 3) := by decide +kernel
theorem dX12_isShooter_23 : decode cX12_isShooter 23 = .ok (.ladd, 1) := by decide +kernel
theorem dX12_isShooter_24 : decode cX12_isShooter 24 = .ok (.invokevirtual 143, 3) := by decide +kernel
theorem dX12_isShooter_27 : decode cX12_isShooter 27 = .ok (.ireturn, 1) := by decide +kernel
theorem dX12_isShake_0 : decode cX12_isShake 0 = .ok (.aload_n 0, 1) := by decide +kernel
theorem dX12_isShake_1 : decode cX12_isShake 1 = .ok (.bipush 115, 2) := by decide +kernel
theorem dX12_isShake_3 : decode cX12_isShake 3 = .ok (.bipush 104, 2) := by decide +kernel
theorem dX12_isShake_5 : decode cX12_isShake 5 = .ok (.bipush 97, 2) := by decide +kernel
theorem dX12_isShake_7 : decode cX12_isShake 7 = .ok (.bipush 107, 2) := by decide +kernel
theorem dX12_isShake_9 : decode cX12_isShake 9 = .ok (.bipush 101, 2) := by decide +kernel
theorem dX12_isShake_11 : decode cX12_isShake 11 = .ok (.iconst 0, 1) := by decide +kernel
theorem dX12_isShake_12 : decode cX12_isShake 12 = .ok (.invokestatic 139, 3) := by decide +kernel
theorem dX12_isShake_15 : decode cX12_isShake 15 = .ok (.invokevirtual 143, 3) := by decide +kernel
theorem dX12_isShake_18 : decode cX12_isShake 18 = .ok (.ireturn, 1) := by decide +kernel
theorem dX12_isLean_0 : decode cX12_isLean 0 = .ok (.aload_n 0, 1) := by decide +kernel
theorem dX12_isLean_1 : decode cX12_isLean 1 = .ok (.bipush 108, 2) := by decide +kernel
theorem dX12_isLean_3 : decode cX12_isLean 3 = .ok (.bipush 101, 2) := by decide +kernel
theorem dX12_isLean_5 : decode cX12_isLean 5 = .ok (.bipush 97, 2) := by decide +kernel
theorem dX12_isLean_7 : decode cX12_isLean 7 = .ok (.bipush 110, 2) := by decide +kernel
theorem dX12_isLean_9 : decode cX12_isLean 9 = .ok (.iconst 0, 1) := by decide +kernel
theorem dX12_isLean_10 : decode cX12_isLean 10 = .ok (.iconst 0, 1) := by decide +kernel
theorem dX12_isLean_11 : decode cX12_isLean 11 = .ok (.invokestatic 139, 3) := by decide +kernel
theorem dX12_isLean_14 : decode cX12_isLean 14 = .ok (.invokevirtual 143, 3) := by decide +kernel
theorem dX12_isLean_17 : decode cX12_isLean 17 = .ok (.ireturn, 1) := by decide +kernel
theorem dX12_isLow_0 : decode cX12_isLow 0 = .ok (.aload_n 0, 1) := by decide +kernel
theorem dX12_isLow_1 : decode cX12_isLow 1 = .ok (.bipush 108, 2) := by decide +kernel
theorem dX12_isLow_3 : decode cX12_isLow 3 = .ok (.bipush 111, 2) := by decide +kernel
theorem dX12_isLow_5 : decode cX12_isLow 5 = .ok (.bipush 119, 2) := by decide +kernel
theorem dX12_isLow_7 : decode cX12_isLow 7 = .ok (.iconst 0, 1) := by decide +kernel
theorem dX12_isLow_8 : decode cX12_isLow 8 = .ok (.iconst 0, 1) := by decide +kernel
theorem dX12_isLow_9 : decode cX12_isLow 9 = .ok (.iconst 0, 1) := by decide +kernel
theorem dX12_isLow_10 : decode cX12_isLow 10 = .ok (.invokestatic 139, 3) := by decide +kernel
theorem dX12_isLow_13 : decode cX12_isLow 13 = .ok (.invokevirtual 143, 3) := by decide +kernel
theorem dX12_isLow_16 : decode cX12_isLow 16 = .ok (.ireturn, 1) := by decide +kernel
theorem dX12_isPuff_0 : decode cX12_isPuff 0 = .ok (.aload_n 0, 1) := by decide +kernel
theorem dX12_isPuff_1 : decode cX12_isPuff 1 = .ok (.bipush 112, 2) := by decide +kernel
theorem dX12_isPuff_3 : decode cX12_isPuff 3 = .ok (.bipush 117, 2) := by decide +kernel
theorem dX12_isPuff_5 : decode cX12_isPuff 5 = .ok (.bipush 102, 2) := by decide +kernel
theorem dX12_isPuff_7 : decode cX12_isPuff 7 = .ok (.bipush 102, 2) := by decide +kernel
theorem dX12_isPuff_9 : decode cX12_isPuff 9 = .ok (.iconst 0, 1) := by decide +kernel
theorem dX12_isPuff_10 : decode cX12_isPuff 10 = .ok (.iconst 0, 1) := by decide +kernel
theorem dX12_isPuff_11 : decode cX12_isPuff 11 = .ok (.invokestatic 139, 3) := by decide +kernel
theorem dX12_isPuff_14 : decode cX12_isPuff 14 = .ok (.invokevirtual 143, 3) := by decide +kernel
theorem dX12_isPuff_17 : decode cX12_isPuff 17 = .ok (.ireturn, 1) := by decide +kernel
theorem dX12_stepWord_0 : decode cX12_stepWord 0 = .ok (.aload_n 0, 1) := by decide +kernel
theorem dX12_stepWord_1 : decode cX12_stepWord 1 = .ok (.bipush 108, 2) := by decide +kernel
theorem dX12_stepWord_3 : decode cX12_stepWord 3 = .ok (.bipush 111, 2) := by decide +kernel
theorem dX12_stepWord_5 : decode cX12_stepWord 5 = .ok (.bipush 97, 2) := by decide +kernel
theorem dX12_stepWord_7 : decode cX12_stepWord 7 = .ok (.bipush 100, 2) := by decide +kernel
theorem dX12_stepWord_9 : decode cX12_stepWord 9 = .ok (.iconst 0, 1) := by decide +kernel
theorem dX12_stepWord_10 : decode cX12_stepWord 10 = .ok (.iconst 0, 1) := by decide +kernel
theorem dX12_stepWord_11 : decode cX12_stepWord 11 = .ok (.invokestatic 139, 3) := by decide +kernel
theorem dX12_stepWord_14 : decode cX12_stepWord 14 = .ok (.invokevirtual 143, 3) := by decide +kernel
theorem dX12_stepWord_17 : decode cX12_stepWord 17 = .ok (.ifCond .eq 5, 3) := by decide +kernel
theorem dX12_stepWord_20 : decode cX12_stepWord 20 = .ok (.iconst 0, 1) := by decide +kernel
theorem dX12_stepWord_21 : decode cX12_stepWord 21 = .ok (.ireturn, 1) := by decide +kernel
theorem dX12_stepWord_22 : decode cX12_stepWord 22 = .ok (.aload_n 0, 1) := by decide +kernel
theorem dX12_stepWord_23 : decode cX12_stepWord 23 = .ok (.bipush 97, 2) := by decide +kernel
theorem dX12_stepWord_25 : decode cX12_stepWord 25 = .ok (.bipush 105, 2) := by decide +kernel
theorem dX12_stepWord_27 : decode cX12_stepWord 27 = .ok (.bipush 109, 2) := by decide +kernel
theorem dX12_stepWord_29 : decode cX12_stepWord 29 = .ok (.iconst 0, 1) := by decide +kernel
theorem dX12_stepWord_30 : decode cX12_stepWord 30 = .ok (.iconst 0, 1) := by decide +kernel
theorem dX12_stepWord_31 : decode cX12_stepWord 31 = .ok (.iconst 0, 1) := by decide +kernel
theorem dX12_stepWord_32 : decode cX12_stepWord 32 = .ok (.invokestatic 139, 3) := by decide +kernel
theorem dX12_stepWord_35 : decode cX12_stepWord 35 = .ok (.invokevirtual 143, 3) := by decide +kernel
theorem dX12_stepWord_38 : decode cX12_stepWord 38 = .ok (.ifCond .eq 5, 3) := by decide +kernel
theorem dX12_stepWord_41 : decode cX12_stepWord 41 = .ok (.iconst 1, 1) := by decide +kernel
theorem dX12_stepWord_42 : decode cX12_stepWord 42 = .ok (.ireturn, 1) := by decide +kernel
theorem dX12_stepWord_43 : decode cX12_stepWord 43 = .ok (.aload_n 0, 1) := by decide +kernel
theorem dX12_stepWord_44 : decode cX12_stepWord 44 = .ok (.invokevirtual 151, 3) := by decide +kernel
theorem dX12_stepWord_47 : decode cX12_stepWord 47 = .ok (.ifCond .eq 5, 3) := by decide +kernel
theorem dX12_stepWord_50 : decode cX12_stepWord 50 = .ok (.iconst 2, 1) := by decide +kernel
theorem dX12_stepWord_51 : decode cX12_stepWord 51 = .ok (.ireturn, 1) := by decide +kernel
theorem dX12_stepWord_52 : decode cX12_stepWord 52 = .ok (.aload_n 0, 1) := by decide +kernel
theorem dX12_stepWord_53 : decode cX12_stepWord 53 = .ok (.bipush 98, 2) := by decide +kernel
theorem dX12_stepWord_55 : decode cX12_stepWord 55 = .ok (.bipush 101, 2) := by decide +kernel
theorem dX12_stepWord_57 : decode cX12_stepWord 57 = .ok (.bipush 97, 2) := by decide +kernel
theorem dX12_stepWord_59 : decode cX12_stepWord 59 = .ok (.bipush 116, 2) := by decide +kernel
theorem dX12_stepWord_61 : decode cX12_stepWord 61 = .ok (.iconst 0, 1) := by decide +kernel
theorem dX12_stepWord_62 : decode cX12_stepWord 62 = .ok (.iconst 0, 1) := by decide +kernel
theorem dX12_stepWord_63 : decode cX12_stepWord 63 = .ok (.invokestatic 139, 3) := by decide +kernel
theorem dX12_stepWord_66 : decode cX12_stepWord 66 = .ok (.invokevirtual 143, 3) := by decide +kernel
theorem dX12_stepWord_69 : decode cX12_stepWord 69 = .ok (.ifCond .eq 5, 3) := by decide +kernel
theorem dX12_stepWord_72 : decode cX12_stepWord 72 = .ok (.iconst 3, 1) := by decide +kernel
theorem dX12_stepWord_73 : decode cX12_stepWord 73 = .ok (.ireturn, 1) := by decide +kernel
theorem dX12_stepWord_74 : decode cX12_stepWord 74 = .ok (.aload_n 0, 1) := by decide +kernel
theorem dX12_stepWord_75 : decode cX12_stepWord 75 = .ok (.bipush 115, 2) := by decide +kernel
theorem dX12_stepWord_77 : decode cX12_stepWord 77 = .ok (.bipush 104, 2) := by decide +kernel
theorem dX12_stepWord_79 : decode cX12_stepWord 79 = .ok (.bipush 111, 2) := by decide +kernel
theorem dX12_stepWord_81 : decode cX12_stepWord 81 = .ok (.bipush 111, 2) := by decide +kernel
theorem dX12_stepWord_83 : decode cX12_stepWord 83 = .ok (.bipush 116, 2) := by decide +kernel
theorem dX12_stepWord_85 : decode cX12_stepWord 85 = .ok (.iconst 0, 1) := by decide +kernel
theorem dX12_stepWord_86 : decode cX12_stepWord 86 = .ok (.invokestatic 139, 3) := by decide +kernel
theorem dX12_stepWord_89 : decode cX12_stepWord 89 = .ok (.invokevirtual 143, 3) := by decide +kernel
theorem dX12_stepWord_92 : decode cX12_stepWord 92 = .ok (.ifCond .eq 5, 3) := by decide +kernel
theorem dX12_stepWord_95 : decode cX12_stepWord 95 = .ok (.iconst 4, 1) := by decide +kernel
theorem dX12_stepWord_96 : decode cX12_stepWord 96 = .ok (.ireturn, 1) := by decide +kernel
theorem dX12_stepWord_97 : decode cX12_stepWord 97 = .ok (.aload_n 0, 1) := by decide +kernel
theorem dX12_stepWord_98 : decode cX12_stepWord 98 = .ok (.bipush 119, 2) := by decide +kernel
theorem dX12_stepWord_100 : decode cX12_stepWord 100 = .ok (.bipush 105, 2) := by decide +kernel
theorem dX12_stepWord_102 : decode cX12_stepWord 102 = .ok (.bipush 112, 2) := by decide +kernel
theorem dX12_stepWord_104 : decode cX12_stepWord 104 = .ok (.bipush 101, 2) := by decide +kernel
theorem dX12_stepWord_106 : decode cX12_stepWord 106 = .ok (.iconst 0, 1) := by decide +kernel
theorem dX12_stepWord_107 : decode cX12_stepWord 107 = .ok (.iconst 0, 1) := by decide +kernel
theorem dX12_stepWord_108 : decode cX12_stepWord 108 = .ok (.invokestatic 139, 3) := by decide +kernel
theorem dX12_stepWord_111 : decode cX12_stepWord 111 = .ok (.invokevirtual 143, 3) := by decide +kernel
theorem dX12_stepWord_114 : decode cX12_stepWord 114 = .ok (.ifCond .eq 5, 3) := by decide +kernel
theorem dX12_stepWord_117 : decode cX12_stepWord 117 = .ok (.iconst 5, 1) := by decide +kernel
theorem dX12_stepWord_118 : decode cX12_stepWord 118 = .ok (.ireturn, 1) := by decide +kernel
theorem dX12_stepWord_119 : decode cX12_stepWord 119 = .ok (.aload_n 0, 1) := by decide +kernel
theorem dX12_stepWord_120 : decode cX12_stepWord 120 = .ok (.bipush 110, 2) := by decide +kernel
theorem dX12_stepWord_122 : decode cX12_stepWord 122 = .ok (.bipush 101, 2) := by decide +kernel
theorem dX12_stepWord_124 : decode cX12_stepWord 124 = .ok (.bipush 120, 2) := by decide +kernel
theorem dX12_stepWord_126 : decode cX12_stepWord 126 = .ok (.bipush 116, 2) := by decide +kernel
theorem dX12_stepWord_128 : decode cX12_stepWord 128 = .ok (.iconst 0, 1) := by decide +kernel
theorem dX12_stepWord_129 : decode cX12_stepWord 129 = .ok (.iconst 0, 1) := by decide +kernel
theorem dX12_stepWord_130 : decode cX12_stepWord 130 = .ok (.invokestatic 139, 3) := by decide +kernel
theorem dX12_stepWord_133 : decode cX12_stepWord 133 = .ok (.invokevirtual 143, 3) := by decide +kernel
theorem dX12_stepWord_136 : decode cX12_stepWord 136 = .ok (.ifCond .eq 6, 3) := by decide +kernel
theorem dX12_stepWord_139 : decode cX12_stepWord 139 = .ok (.bipush 6, 2) := by decide +kernel
theorem dX12_stepWord_141 : decode cX12_stepWord 141 = .ok (.ireturn, 1) := by decide +kernel
theorem dX12_stepWord_142 : decode cX12_stepWord 142 = .ok (.aload_n 0, 1) := by decide +kernel
theorem dX12_stepWord_143 : decode cX12_stepWord 143 = .ok (.bipush 119, 2) := by decide +kernel
theorem dX12_stepWord_145 : decode cX12_stepWord 145 = .ok (.bipush 104, 2) := by decide +kernel
theorem dX12_stepWord_147 : decode cX12_stepWord 147 = .ok (.bipush 101, 2) := by decide +kernel
theorem dX12_stepWord_149 : decode cX12_stepWord 149 = .ok (.bipush 110, 2) := by decide +kernel
theorem dX12_stepWord_151 : decode cX12_stepWord 151 = .ok (.iconst 0, 1) := by decide +kernel
theorem dX12_stepWord_152 : decode cX12_stepWord 152 = .ok (.iconst 0, 1) := by decide +kernel
theorem dX12_stepWord_153 : decode cX12_stepWord 153 = .ok (.invokestatic 139, 3) := by decide +kernel
theorem dX12_stepWord_156 : decode cX12_stepWord 156 = .ok (.invokevirtual 143, 3) := by decide +kernel
theorem dX12_stepWord_159 : decode cX12_stepWord 159 = .ok (.ifCond .eq 6, 3) := by decide +kernel
theorem dX12_stepWord_162 : decode cX12_stepWord 162 = .ok (.bipush 7, 2) := by decide +kernel
theorem dX12_stepWord_164 : decode cX12_stepWord 164 = .ok (.ireturn, 1) := by decide +kernel
theorem dX12_stepWord_165 : decode cX12_stepWord 165 = .ok (.aload_n 0, 1) := by decide +kernel
theorem dX12_stepWord_166 : decode cX12_stepWord 166 = .ok (.bipush 108, 2) := by decide +kernel
theorem dX12_stepWord_168 : decode cX12_stepWord 168 = .ok (.bipush 111, 2) := by decide +kernel
theorem dX12_stepWord_170 : decode cX12_stepWord 170 = .ok (.bipush 111, 2) := by decide +kernel
theorem dX12_stepWord_172 : decode cX12_stepWord 172 = .ok (.bipush 112, 2) := by decide +kernel
theorem dX12_stepWord_174 : decode cX12_stepWord 174 = .ok (.iconst 0, 1) := by decide +kernel
theorem dX12_stepWord_175 : decode cX12_stepWord 175 = .ok (.iconst 0, 1) := by decide +kernel
theorem dX12_stepWord_176 : decode cX12_stepWord 176 = .ok (.invokestatic 139, 3) := by decide +kernel
theorem dX12_stepWord_179 : decode cX12_stepWord 179 = .ok (.invokevirtual 143, 3) := by decide +kernel
theorem dX12_stepWord_182 : decode cX12_stepWord 182 = .ok (.ifCond .eq 6, 3) := by decide +kernel
theorem dX12_stepWord_185 : decode cX12_stepWord 185 = .ok (.bipush 8, 2) := by decide +kernel
theorem dX12_stepWord_187 : decode cX12_stepWord 187 = .ok (.ireturn, 1) := by decide +kernel
theorem dX12_stepWord_188 : decode cX12_stepWord 188 = .ok (.aload_n 0, 1) := by decide +kernel
theorem dX12_stepWord_189 : decode cX12_stepWord 189 = .ok (.bipush 115, 2) := by decide +kernel
theorem dX12_stepWord_191 : decode cX12_stepWord 191 = .ok (.bipush 116, 2) := by decide +kernel
theorem dX12_stepWord_193 : decode cX12_stepWord 193 = .ok (.bipush 111, 2) := by decide +kernel
theorem dX12_stepWord_195 : decode cX12_stepWord 195 = .ok (.bipush 112, 2) := by decide +kernel
theorem dX12_stepWord_197 : decode cX12_stepWord 197 = .ok (.iconst 0, 1) := by decide +kernel
theorem dX12_stepWord_198 : decode cX12_stepWord 198 = .ok (.iconst 0, 1) := by decide +kernel
theorem dX12_stepWord_199 : decode cX12_stepWord 199 = .ok (.invokestatic 139, 3) := by decide +kernel
theorem dX12_stepWord_202 : decode cX12_stepWord 202 = .ok (.invokevirtual 143, 3) := by decide +kernel
theorem dX12_stepWord_205 : decode cX12_stepWord 205 = .ok (.ifCond .eq 8, 3) := by decide +kernel
theorem dX12_stepWord_208 : decode cX12_stepWord 208 = .ok (.bipush 9, 2) := by decide +kernel
theorem dX12_stepWord_210 : decode cX12_stepWord 210 = .ok (.goto 4, 3) := by decide +kernel
theorem dX12_stepWord_213 : decode cX12_stepWord 213 = .ok (.iconst (-1), 1) := by decide +kernel
theorem dX12_stepWord_214 : decode cX12_stepWord 214 = .ok (.ireturn, 1) := by decide +kernel
theorem dX12_testWord_0 : decode cX12_testWord 0 = .ok (.aload_n 0, 1) := by decide +kernel
theorem dX12_testWord_1 : decode cX12_testWord 1 = .ok (.bipush 115, 2) := by decide +kernel
theorem dX12_testWord_3 : decode cX12_testWord 3 = .ok (.bipush 99, 2) := by decide +kernel
theorem dX12_testWord_5 : decode cX12_testWord 5 = .ok (.bipush 111, 2) := by decide +kernel
theorem dX12_testWord_7 : decode cX12_testWord 7 = .ok (.bipush 114, 2) := by decide +kernel
theorem dX12_testWord_9 : decode cX12_testWord 9 = .ok (.bipush 101, 2) := by decide +kernel
theorem dX12_testWord_11 : decode cX12_testWord 11 = .ok (.iconst 0, 1) := by decide +kernel
theorem dX12_testWord_12 : decode cX12_testWord 12 = .ok (.invokestatic 139, 3) := by decide +kernel
theorem dX12_testWord_15 : decode cX12_testWord 15 = .ok (.invokevirtual 143, 3) := by decide +kernel
theorem dX12_testWord_18 : decode cX12_testWord 18 = .ok (.ifCond .eq 5, 3) := by decide +kernel
theorem dX12_testWord_21 : decode cX12_testWord 21 = .ok (.iconst 0, 1) := by decide +kernel
theorem dX12_testWord_22 : decode cX12_testWord 22 = .ok (.ireturn, 1) := by decide +kernel
theorem dX12_testWord_23 : decode cX12_testWord 23 = .ok (.aload_n 0, 1) := by decide +kernel
theorem dX12_testWord_24 : decode cX12_testWord 24 = .ok (.bipush 104, 2) := by decide +kernel
theorem dX12_testWord_26 : decode cX12_testWord 26 = .ok (.bipush 111, 2) := by decide +kernel
theorem dX12_testWord_28 : decode cX12_testWord 28 = .ok (.bipush 108, 2) := by decide +kernel
theorem dX12_testWord_30 : decode cX12_testWord 30 = .ok (.bipush 101, 2) := by decide +kernel
theorem dX12_testWord_32 : decode cX12_testWord 32 = .ok (.bipush 115, 2) := by decide +kernel
theorem dX12_testWord_34 : decode cX12_testWord 34 = .ok (.iconst 0, 1) := by decide +kernel
theorem dX12_testWord_35 : decode cX12_testWord 35 = .ok (.invokestatic 139, 3) := by decide +kernel
theorem dX12_testWord_38 : decode cX12_testWord 38 = .ok (.invokevirtual 143, 3) := by decide +kernel
theorem dX12_testWord_41 : decode cX12_testWord 41 = .ok (.ifCond .eq 5, 3) := by decide +kernel
theorem dX12_testWord_44 : decode cX12_testWord 44 = .ok (.iconst 1, 1) := by decide +kernel
theorem dX12_testWord_45 : decode cX12_testWord 45 = .ok (.ireturn, 1) := by decide +kernel
theorem dX12_testWord_46 : decode cX12_testWord 46 = .ok (.aload_n 0, 1) := by decide +kernel
theorem dX12_testWord_47 : decode cX12_testWord 47 = .ok (.bipush 115, 2) := by decide +kernel
theorem dX12_testWord_49 : decode cX12_testWord 49 = .ok (.bipush 112, 2) := by decide +kernel
theorem dX12_testWord_51 : decode cX12_testWord 51 = .ok (.bipush 105, 2) := by decide +kernel
theorem dX12_testWord_53 : decode cX12_testWord 53 = .ok (.bipush 116, 2) := by decide +kernel
theorem dX12_testWord_55 : decode cX12_testWord 55 = .ok (.iconst 0, 1) := by decide +kernel
theorem dX12_testWord_56 : decode cX12_testWord 56 = .ok (.iconst 0, 1) := by decide +kernel
theorem dX12_testWord_57 : decode cX12_testWord 57 = .ok (.invokestatic 139, 3) := by decide +kernel
theorem dX12_testWord_60 : decode cX12_testWord 60 = .ok (.invokevirtual 143, 3) := by decide +kernel
theorem dX12_testWord_63 : decode cX12_testWord 63 = .ok (.ifCond .eq 7, 3) := by decide +kernel
theorem dX12_testWord_66 : decode cX12_testWord 66 = .ok (.iconst 2, 1) := by decide +kernel
theorem dX12_testWord_67 : decode cX12_testWord 67 = .ok (.goto 4, 3) := by decide +kernel
theorem dX12_testWord_70 : decode cX12_testWord 70 = .ok (.iconst (-1), 1) := by decide +kernel
theorem dX12_testWord_71 : decode cX12_testWord 71 = .ok (.ireturn, 1) := by decide +kernel
theorem dX12_isEnd_0 : decode cX12_isEnd 0 = .ok (.aload_n 0, 1) := by decide +kernel
theorem dX12_isEnd_1 : decode cX12_isEnd 1 = .ok (.bipush 101, 2) := by decide +kernel
theorem dX12_isEnd_3 : decode cX12_isEnd 3 = .ok (.bipush 110, 2) := by decide +kernel
theorem dX12_isEnd_5 : decode cX12_isEnd 5 = .ok (.bipush 100, 2) := by decide +kernel
theorem dX12_isEnd_7 : decode cX12_isEnd 7 = .ok (.iconst 0, 1) := by decide +kernel
theorem dX12_isEnd_8 : decode cX12_isEnd 8 = .ok (.iconst 0, 1) := by decide +kernel
theorem dX12_isEnd_9 : decode cX12_isEnd 9 = .ok (.iconst 0, 1) := by decide +kernel
theorem dX12_isEnd_10 : decode cX12_isEnd 10 = .ok (.invokestatic 139, 3) := by decide +kernel
theorem dX12_isEnd_13 : decode cX12_isEnd 13 = .ok (.invokevirtual 143, 3) := by decide +kernel
theorem dX12_isEnd_16 : decode cX12_isEnd 16 = .ok (.ireturn, 1) := by decide +kernel
theorem dX12_isKept_0 : decode cX12_isKept 0 = .ok (.aload_n 0, 1) := by decide +kernel
theorem dX12_isKept_1 : decode cX12_isKept 1 = .ok (.invokevirtual 155, 3) := by decide +kernel
theorem dX12_isKept_4 : decode cX12_isKept 4 = .ok (.ifCond .ne 80, 3) := by decide +kernel
theorem dX12_isKept_7 : decode cX12_isKept 7 = .ok (.aload_n 0, 1) := by decide +kernel
theorem dX12_isKept_8 : decode cX12_isKept 8 = .ok (.invokevirtual 158, 3) := by decide +kernel
theorem dX12_isKept_11 : decode cX12_isKept 11 = .ok (.ifCond .ne 73, 3) := by decide +kernel
theorem dX12_isKept_14 : decode cX12_isKept 14 = .ok (.aload_n 0, 1) := by decide +kernel
theorem dX12_isKept_15 : decode cX12_isKept 15 = .ok (.invokevirtual 161, 3) := by decide +kernel
theorem dX12_isKept_18 : decode cX12_isKept 18 = .ok (.ifCond .ne 66, 3) := by decide +kernel
theorem dX12_isKept_21 : decode cX12_isKept 21 = .ok (.aload_n 0, 1) := by decide +kernel
theorem dX12_isKept_22 : decode cX12_isKept 22 = .ok (.invokevirtual 164, 3) := by decide +kernel
theorem dX12_isKept_25 : decode cX12_isKept 25 = .ok (.ifCond .ne 59, 3) := by decide +kernel
theorem dX12_isKept_28 : decode cX12_isKept 28 = .ok (.aload_n 0, 1) := by decide +kernel
theorem dX12_isKept_29 : decode cX12_isKept 29 = .ok (.invokevirtual 167, 3) := by decide +kernel
theorem dX12_isKept_32 : decode cX12_isKept 32 = .ok (.ifCond .ne 52, 3) := by decide +kernel
theorem dX12_isKept_35 : decode cX12_isKept 35 = .ok (.aload_n 0, 1) := by decide +kernel
theorem dX12_isKept_36 : decode cX12_isKept 36 = .ok (.invokevirtual 170, 3) := by decide +kernel
theorem dX12_isKept_39 : decode cX12_isKept 39 = .ok (.ifCond .ne 45, 3) := by decide +kernel
theorem dX12_isKept_42 : decode cX12_isKept 42 = .ok (.aload_n 0, 1) := by decide +kernel
theorem dX12_isKept_43 : decode cX12_isKept 43 = .ok (.invokevirtual 173, 3) := by decide +kernel
theorem dX12_isKept_46 : decode cX12_isKept 46 = .ok (.ifCond .ne 38, 3) := by decide +kernel
theorem dX12_isKept_49 : decode cX12_isKept 49 = .ok (.aload_n 0, 1) := by decide +kernel
theorem dX12_isKept_50 : decode cX12_isKept 50 = .ok (.invokevirtual 176, 3) := by decide +kernel
theorem dX12_isKept_53 : decode cX12_isKept 53 = .ok (.ifCond .ne 31, 3) := by decide +kernel
theorem dX12_isKept_56 : decode cX12_isKept 56 = .ok (.aload_n 0, 1) := by decide +kernel
theorem dX12_isKept_57 : decode cX12_isKept 57 = .ok (.invokevirtual 179, 3) := by decide +kernel
theorem dX12_isKept_60 : decode cX12_isKept 60 = .ok (.ifCond .ne 24, 3) := by decide +kernel
theorem dX12_isKept_63 : decode cX12_isKept 63 = .ok (.aload_n 0, 1) := by decide +kernel
theorem dX12_isKept_64 : decode cX12_isKept 64 = .ok (.invokevirtual 182, 3) := by decide +kernel
theorem dX12_isKept_67 : decode cX12_isKept 67 = .ok (.ifCond .ne 17, 3) := by decide +kernel
theorem dX12_isKept_70 : decode cX12_isKept 70 = .ok (.aload_n 0, 1) := by decide +kernel
theorem dX12_isKept_71 : decode cX12_isKept 71 = .ok (.invokevirtual 185, 3) := by decide +kernel
theorem dX12_isKept_74 : decode cX12_isKept 74 = .ok (.ifCond .ne 10, 3) := by decide +kernel
theorem dX12_isKept_77 : decode cX12_isKept 77 = .ok (.aload_n 0, 1) := by decide +kernel
theorem dX12_isKept_78 : decode cX12_isKept 78 = .ok (.invokevirtual 188, 3) := by decide +kernel
theorem dX12_isKept_81 : decode cX12_isKept 81 = .ok (.ifCond .eq 5, 3) := by decide +kernel
theorem dX12_isKept_84 : decode cX12_isKept 84 = .ok (.iconst 1, 1) := by decide +kernel
theorem dX12_isKept_85 : decode cX12_isKept 85 = .ok (.ireturn, 1) := by decide +kernel
theorem dX12_isKept_86 : decode cX12_isKept 86 = .ok (.aload_n 0, 1) := by decide +kernel
theorem dX12_isKept_87 : decode cX12_isKept 87 = .ok (.invokevirtual 191, 3) := by decide +kernel
theorem dX12_isKept_90 : decode cX12_isKept 90 = .ok (.ifCond .ne 45, 3) := by decide +kernel
theorem dX12_isKept_93 : decode cX12_isKept 93 = .ok (.aload_n 0, 1) := by decide +kernel
theorem dX12_isKept_94 : decode cX12_isKept 94 = .ok (.invokevirtual 194, 3) := by decide +kernel
theorem dX12_isKept_97 : decode cX12_isKept 97 = .ok (.ifCond .ne 38, 3) := by decide +kernel
theorem dX12_isKept_100 : decode cX12_isKept 100 = .ok (.aload_n 0, 1) := by decide +kernel
theorem dX12_isKept_101 : decode cX12_isKept 101 = .ok (.invokevirtual 197, 3) := by decide +kernel
theorem dX12_isKept_104 : decode cX12_isKept 104 = .ok (.ifCond .ne 31, 3) := by decide +kernel
theorem dX12_isKept_107 : decode cX12_isKept 107 = .ok (.aload_n 0, 1) := by decide +kernel
theorem dX12_isKept_108 : decode cX12_isKept 108 = .ok (.invokevirtual 200, 3) := by decide +kernel
theorem dX12_isKept_111 : decode cX12_isKept 111 = .ok (.ifCond .ne 24, 3) := by decide +kernel
theorem dX12_isKept_114 : decode cX12_isKept 114 = .ok (.aload_n 0, 1) := by decide +kernel
theorem dX12_isKept_115 : decode cX12_isKept 115 = .ok (.invokevirtual 203, 3) := by decide +kernel
theorem dX12_isKept_118 : decode cX12_isKept 118 = .ok (.ifCond .ge 17, 3) := by decide +kernel
theorem dX12_isKept_121 : decode cX12_isKept 121 = .ok (.aload_n 0, 1) := by decide +kernel
theorem dX12_isKept_122 : decode cX12_isKept 122 = .ok (.invokevirtual 207, 3) := by decide +kernel
theorem dX12_isKept_125 : decode cX12_isKept 125 = .ok (.ifCond .ge 10, 3) := by decide +kernel
theorem dX12_isKept_128 : decode cX12_isKept 128 = .ok (.aload_n 0, 1) := by decide +kernel
theorem dX12_isKept_129 : decode cX12_isKept 129 = .ok (.invokevirtual 210, 3) := by decide +kernel
theorem dX12_isKept_132 : decode cX12_isKept 132 = .ok (.ifCond .eq 7, 3) := by decide +kernel
theorem dX12_isKept_135 : decode cX12_isKept 135 = .ok (.iconst 1, 1) := by decide +kernel
theorem dX12_isKept_136 : decode cX12_isKept 136 = .ok (.goto 4, 3) := by decide +kernel
theorem dX12_isKept_139 : decode cX12_isKept 139 = .ok (.iconst 0, 1) := by decide +kernel
theorem dX12_isKept_140 : decode cX12_isKept 140 = .ok (.ireturn, 1) := by decide +kernel
theorem dX12_isName_0 : decode cX12_isName 0 = .ok (.aload_n 0, 1) := by decide +kernel
theorem dX12_isName_1 : decode cX12_isName 1 = .ok (.getfield 114, 3) := by decide +kernel
theorem dX12_isName_4 : decode cX12_isName 4 = .ok (.iconst 1, 1) := by decide +kernel
theorem dX12_isName_5 : decode cX12_isName 5 = .ok (.if_icmp .ne 23, 3) := by decide +kernel
theorem dX12_isName_8 : decode cX12_isName 8 = .ok (.aload_n 0, 1) := by decide +kernel
theorem dX12_isName_9 : decode cX12_isName 9 = .ok (.getfield 127, 3) := by decide +kernel
theorem dX12_isName_12 : decode cX12_isName 12 = .ok (.bipush 8, 2) := by decide +kernel
theorem dX12_isName_14 : decode cX12_isName 14 = .ok (.if_icmp .gt 14, 3) := by decide +kernel
theorem dX12_isName_17 : decode cX12_isName 17 = .ok (.aload_n 0, 1) := by decide +kernel
theorem dX12_isName_18 : decode cX12_isName 18 = .ok (.invokevirtual 213, 3) := by decide +kernel
theorem dX12_isName_21 : decode cX12_isName 21 = .ok (.ifCond .ne 7, 3) := by decide +kernel
theorem dX12_isName_24 : decode cX12_isName 24 = .ok (.iconst 1, 1) := by decide +kernel
theorem dX12_isName_25 : decode cX12_isName 25 = .ok (.goto 4, 3) := by decide +kernel
theorem dX12_isName_28 : decode cX12_isName 28 = .ok (.iconst 0, 1) := by decide +kernel
theorem dX12_isName_29 : decode cX12_isName 29 = .ok (.ireturn, 1) := by decide +kernel
theorem dX12_peaNamed_0 : decode cX12_peaNamed 0 = .ok (.iconst 0, 1) := by decide +kernel
theorem dX12_peaNamed_1 : decode cX12_peaNamed 1 = .ok (.istore_n 2, 1) := by decide +kernel
theorem dX12_peaNamed_2 : decode cX12_peaNamed 2 = .ok (.iload_n 2, 1) := by decide +kernel
theorem dX12_peaNamed_3 : decode cX12_peaNamed 3 = .ok (.aload_n 0, 1) := by decide +kernel
theorem dX12_peaNamed_4 : decode cX12_peaNamed 4 = .ok (.getfield 35, 3) := by decide +kernel
theorem dX12_peaNamed_7 : decode cX12_peaNamed 7 = .ok (.sipush 600, 3) := by decide +kernel
theorem dX12_peaNamed_10 : decode cX12_peaNamed 10 = .ok (.iload_n 1, 1) := by decide +kernel
theorem dX12_peaNamed_11 : decode cX12_peaNamed 11 = .ok (.imul, 1) := by decide +kernel
theorem dX12_peaNamed_12 : decode cX12_peaNamed 12 = .ok (.iconst 5, 1) := by decide +kernel
theorem dX12_peaNamed_13 : decode cX12_peaNamed 13 = .ok (.iadd, 1) := by decide +kernel
theorem dX12_peaNamed_14 : decode cX12_peaNamed 14 = .ok (.iaload, 1) := by decide +kernel
theorem dX12_peaNamed_15 : decode cX12_peaNamed 15 = .ok (.if_icmp .ge 30, 3) := by decide +kernel
theorem dX12_peaNamed_18 : decode cX12_peaNamed 18 = .ok (.aload_n 0, 1) := by decide +kernel
theorem dX12_peaNamed_19 : decode cX12_peaNamed 19 = .ok (.getfield 41, 3) := by decide +kernel
theorem dX12_peaNamed_22 : decode cX12_peaNamed 22 = .ok (.bipush 14, 2) := by decide +kernel
theorem dX12_peaNamed_24 : decode cX12_peaNamed 24 = .ok (.iload_n 1, 1) := by decide +kernel
theorem dX12_peaNamed_25 : decode cX12_peaNamed 25 = .ok (.imul, 1) := by decide +kernel
theorem dX12_peaNamed_26 : decode cX12_peaNamed 26 = .ok (.iload_n 2, 1) := by decide +kernel
theorem dX12_peaNamed_27 : decode cX12_peaNamed 27 = .ok (.iadd, 1) := by decide +kernel
theorem dX12_peaNamed_28 : decode cX12_peaNamed 28 = .ok (.laload, 1) := by decide +kernel
theorem dX12_peaNamed_29 : decode cX12_peaNamed 29 = .ok (.aload_n 0, 1) := by decide +kernel
theorem dX12_peaNamed_30 : decode cX12_peaNamed 30 = .ok (.getfield 120, 3) := by decide +kernel
theorem dX12_peaNamed_33 : decode cX12_peaNamed 33 = .ok (.lcmp, 1) := by decide +kernel
theorem dX12_peaNamed_34 : decode cX12_peaNamed 34 = .ok (.ifCond .ne 5, 3) := by decide +kernel
theorem dX12_peaNamed_37 : decode cX12_peaNamed 37 = .ok (.iload_n 2, 1) := by decide +kernel
theorem dX12_peaNamed_38 : decode cX12_peaNamed 38 = .ok (.ireturn, 1) := by decide +kernel
theorem dX12_peaNamed_39 : decode cX12_peaNamed 39 = .ok (.iinc 2 1, 3) := by decide +kernel
theorem dX12_peaNamed_42 : decode cX12_peaNamed 42 = .ok (.goto (-40), 3) := by decide +kernel
theorem dX12_peaNamed_45 : decode cX12_peaNamed 45 = .ok (.iconst (-1), 1) := by decide +kernel
theorem dX12_peaNamed_46 : decode cX12_peaNamed 46 = .ok (.ireturn, 1) := by decide +kernel
theorem dX12_shooterNamed_0 : decode cX12_shooterNamed 0 = .ok (.iconst 0, 1) := by decide +kernel
theorem dX12_shooterNamed_1 : decode cX12_shooterNamed 1 = .ok (.istore_n 2, 1) := by decide +kernel
theorem dX12_shooterNamed_2 : decode cX12_shooterNamed 2 = .ok (.iload_n 2, 1) := by decide +kernel
theorem dX12_shooterNamed_3 : decode cX12_shooterNamed 3 = .ok (.aload_n 0, 1) := by decide +kernel
theorem dX12_shooterNamed_4 : decode cX12_shooterNamed 4 = .ok (.getfield 35, 3) := by decide +kernel
theorem dX12_shooterNamed_7 : decode cX12_shooterNamed 7 = .ok (.sipush 600, 3) := by decide +kernel
theorem dX12_shooterNamed_10 : decode cX12_shooterNamed 10 = .ok (.iload_n 1, 1) := by decide +kernel
theorem dX12_shooterNamed_11 : decode cX12_shooterNamed 11 = .ok (.imul, 1) := by decide +kernel
theorem dX12_shooterNamed_12 : decode cX12_shooterNamed 12 = .ok (.bipush 6, 2) := by decide +kernel
theorem dX12_shooterNamed_14 : decode cX12_shooterNamed 14 = .ok (.iadd, 1) := by decide +kernel
theorem dX12_shooterNamed_15 : decode cX12_shooterNamed 15 = .ok (.iaload, 1) := by decide +kernel
theorem dX12_shooterNamed_16 : decode cX12_shooterNamed 16 = .ok (.if_icmp .ge 33, 3) := by decide +kernel
theorem dX12_shooterNamed_19 : decode cX12_shooterNamed 19 = .ok (.aload_n 0, 1) := by decide +kernel
theorem dX12_shooterNamed_20 : decode cX12_shooterNamed 20 = .ok (.getfield 41, 3) := by decide +kernel
theorem dX12_shooterNamed_23 : decode cX12_shooterNamed 23 = .ok (.bipush 14, 2) := by decide +kernel
theorem dX12_shooterNamed_25 : decode cX12_shooterNamed 25 = .ok (.iload_n 1, 1) := by decide +kernel
theorem dX12_shooterNamed_26 : decode cX12_shooterNamed 26 = .ok (.imul, 1) := by decide +kernel
theorem dX12_shooterNamed_27 : decode cX12_shooterNamed 27 = .ok (.bipush 8, 2) := by decide +kernel
theorem dX12_shooterNamed_29 : decode cX12_shooterNamed 29 = .ok (.iadd, 1) := by decide +kernel
theorem dX12_shooterNamed_30 : decode cX12_shooterNamed 30 = .ok (.iload_n 2, 1) := by decide +kernel
theorem dX12_shooterNamed_31 : decode cX12_shooterNamed 31 = .ok (.iadd, 1) := by decide +kernel
theorem dX12_shooterNamed_32 : decode cX12_shooterNamed 32 = .ok (.laload, 1) := by decide +kernel
theorem dX12_shooterNamed_33 : decode cX12_shooterNamed 33 = .ok (.aload_n 0, 1) := by decide +kernel
theorem dX12_shooterNamed_34 : decode cX12_shooterNamed 34 = .ok (.getfield 120, 3) := by decide +kernel
theorem dX12_shooterNamed_37 : decode cX12_shooterNamed 37 = .ok (.lcmp, 1) := by decide +kernel
theorem dX12_shooterNamed_38 : decode cX12_shooterNamed 38 = .ok (.ifCond .ne 5, 3) := by decide +kernel
theorem dX12_shooterNamed_41 : decode cX12_shooterNamed 41 = .ok (.iload_n 2, 1) := by decide +kernel
theorem dX12_shooterNamed_42 : decode cX12_shooterNamed 42 = .ok (.ireturn, 1) := by decide +kernel
theorem dX12_shooterNamed_43 : decode cX12_shooterNamed 43 = .ok (.iinc 2 1, 3) := by decide +kernel
theorem dX12_shooterNamed_46 : decode cX12_shooterNamed 46 = .ok (.goto (-44), 3) := by decide +kernel
theorem dX12_shooterNamed_49 : decode cX12_shooterNamed 49 = .ok (.iconst (-1), 1) := by decide +kernel
theorem dX12_shooterNamed_50 : decode cX12_shooterNamed 50 = .ok (.ireturn, 1) := by decide +kernel
theorem dX12_readNew_0 : decode cX12_readNew 0 = .ok (.aload_n 0, 1) := by decide +kernel
theorem dX12_readNew_1 : decode cX12_readNew 1 = .ok (.invokevirtual 226, 3) := by decide +kernel
theorem dX12_readNew_4 : decode cX12_readNew 4 = .ok (.aload_n 0, 1) := by decide +kernel
theorem dX12_readNew_5 : decode cX12_readNew 5 = .ok (.invokevirtual 255, 3) := by decide +kernel
theorem dX12_readNew_8 : decode cX12_readNew 8 = .ok (.ifCond .ne 7, 3) := by decide +kernel
theorem dX12_readNew_11 : decode cX12_readNew 11 = .ok (.aload_n 0, 1) := by decide +kernel
theorem dX12_readNew_12 : decode cX12_readNew 12 = .ok (.invokevirtual 229, 3) := by decide +kernel
theorem dX12_readNew_15 : decode cX12_readNew 15 = .ok (.aload_n 0, 1) := by decide +kernel
theorem dX12_readNew_16 : decode cX12_readNew 16 = .ok (.getfield 216, 3) := by decide +kernel
theorem dX12_readNew_19 : decode cX12_readNew 19 = .ok (.ifCond .ne 28, 3) := by decide +kernel
theorem dX12_readNew_22 : decode cX12_readNew 22 = .ok (.aload_n 0, 1) := by decide +kernel
theorem dX12_readNew_23 : decode cX12_readNew 23 = .ok (.iconst 4, 1) := by decide +kernel
theorem dX12_readNew_24 : decode cX12_readNew 24 = .ok (.invokevirtual 258, 3) := by decide +kernel
theorem dX12_readNew_27 : decode cX12_readNew 27 = .ok (.ifCond .ge 11, 3) := by decide +kernel
theorem dX12_readNew_30 : decode cX12_readNew 30 = .ok (.aload_n 0, 1) := by decide +kernel
theorem dX12_readNew_31 : decode cX12_readNew 31 = .ok (.iconst 4, 1) := by decide +kernel
theorem dX12_readNew_32 : decode cX12_readNew 32 = .ok (.invokevirtual 261, 3) := by decide +kernel
theorem dX12_readNew_35 : decode cX12_readNew 35 = .ok (.ifCond .lt 12, 3) := by decide +kernel
theorem dX12_readNew_38 : decode cX12_readNew 38 = .ok (.aload_n 0, 1) := by decide +kernel
theorem dX12_readNew_39 : decode cX12_readNew 39 = .ok (.iconst 3, 1) := by decide +kernel
theorem dX12_readNew_40 : decode cX12_readNew 40 = .ok (.aload_n 0, 1) := by decide +kernel
theorem dX12_readNew_41 : decode cX12_readNew 41 = .ok (.getfield 108, 3) := by decide +kernel
theorem dX12_readNew_44 : decode cX12_readNew 44 = .ok (.invokevirtual 222, 3) := by decide +kernel
theorem dX12_readNew_47 : decode cX12_readNew 47 = .ok (.aload_n 0, 1) := by decide +kernel
theorem dX12_readNew_48 : decode cX12_readNew 48 = .ok (.getfield 216, 3) := by decide +kernel
theorem dX12_readNew_51 : decode cX12_readNew 51 = .ok (.ifCond .le 4, 3) := by decide +kernel
theorem dX12_readNew_54 : decode cX12_readNew 54 = .ok (.return_, 1) := by decide +kernel
theorem dX12_readNew_55 : decode cX12_readNew 55 = .ok (.aload_n 0, 1) := by decide +kernel
theorem dX12_readNew_56 : decode cX12_readNew 56 = .ok (.getfield 41, 3) := by decide +kernel
theorem dX12_readNew_59 : decode cX12_readNew 59 = .ok (.bipush 56, 2) := by decide +kernel
theorem dX12_readNew_61 : decode cX12_readNew 61 = .ok (.iload_n 1, 1) := by decide +kernel
theorem dX12_readNew_62 : decode cX12_readNew 62 = .ok (.iadd, 1) := by decide +kernel
theorem dX12_readNew_63 : decode cX12_readNew 63 = .ok (.aload_n 0, 1) := by decide +kernel
theorem dX12_readNew_64 : decode cX12_readNew 64 = .ok (.getfield 120, 3) := by decide +kernel
theorem dX12_readNew_67 : decode cX12_readNew 67 = .ok (.lastore, 1) := by decide +kernel
theorem dX12_readNew_68 : decode cX12_readNew 68 = .ok (.aload_n 0, 1) := by decide +kernel
theorem dX12_readNew_69 : decode cX12_readNew 69 = .ok (.invokevirtual 226, 3) := by decide +kernel
theorem dX12_readNew_72 : decode cX12_readNew 72 = .ok (.return_, 1) := by decide +kernel
theorem dX12_readPea_0 : decode cX12_readPea 0 = .ok (.aload_n 0, 1) := by decide +kernel
theorem dX12_readPea_1 : decode cX12_readPea 1 = .ok (.getfield 35, 3) := by decide +kernel
theorem dX12_readPea_4 : decode cX12_readPea 4 = .ok (.sipush 2405, 3) := by decide +kernel
theorem dX12_readPea_7 : decode cX12_readPea 7 = .ok (.iaload, 1) := by decide +kernel
theorem dX12_readPea_8 : decode cX12_readPea 8 = .ok (.istore_n 1, 1) := by decide +kernel
theorem dX12_readPea_9 : decode cX12_readPea 9 = .ok (.iload_n 1, 1) := by decide +kernel
theorem dX12_readPea_10 : decode cX12_readPea 10 = .ok (.bipush 8, 2) := by decide +kernel
theorem dX12_readPea_12 : decode cX12_readPea 12 = .ok (.if_icmp .ne 13, 3) := by decide +kernel
theorem dX12_readPea_15 : decode cX12_readPea 15 = .ok (.aload_n 0, 1) := by decide +kernel
theorem dX12_readPea_16 : decode cX12_readPea 16 = .ok (.bipush 6, 2) := by decide +kernel
theorem dX12_readPea_18 : decode cX12_readPea 18 = .ok (.aload_n 0, 1) := by decide +kernel
theorem dX12_readPea_19 : decode cX12_readPea 19 = .ok (.getfield 108, 3) := by decide +kernel
theorem dX12_readPea_22 : decode cX12_readPea 22 = .ok (.invokevirtual 222, 3) := by decide +kernel
theorem dX12_readPea_25 : decode cX12_readPea 25 = .ok (.aload_n 0, 1) := by decide +kernel
theorem dX12_readPea_26 : decode cX12_readPea 26 = .ok (.getfield 216, 3) := by decide +kernel
theorem dX12_readPea_29 : decode cX12_readPea 29 = .ok (.ifCond .le 4, 3) := by decide +kernel
theorem dX12_readPea_32 : decode cX12_readPea 32 = .ok (.return_, 1) := by decide +kernel
theorem dX12_readPea_33 : decode cX12_readPea 33 = .ok (.aload_n 0, 1) := by decide +kernel
theorem dX12_readPea_34 : decode cX12_readPea 34 = .ok (.iload_n 1, 1) := by decide +kernel
theorem dX12_readPea_35 : decode cX12_readPea 35 = .ok (.invokevirtual 264, 3) := by decide +kernel
theorem dX12_readPea_38 : decode cX12_readPea 38 = .ok (.aload_n 0, 1) := by decide +kernel
theorem dX12_readPea_39 : decode cX12_readPea 39 = .ok (.aload_n 0, 1) := by decide +kernel
theorem dX12_readPea_40 : decode cX12_readPea 40 = .ok (.invokevirtual 179, 3) := by decide +kernel
theorem dX12_readPea_43 : decode cX12_readPea 43 = .ok (.invokevirtual 245, 3) := by decide +kernel
theorem dX12_readPea_46 : decode cX12_readPea 46 = .ok (.aload_n 0, 1) := by decide +kernel
theorem dX12_readPea_47 : decode cX12_readPea 47 = .ok (.getfield 35, 3) := by decide +kernel
theorem dX12_readPea_50 : decode cX12_readPea 50 = .ok (.sipush 2421, 3) := by decide +kernel
theorem dX12_readPea_53 : decode cX12_readPea 53 = .ok (.iload_n 1, 1) := by decide +kernel
theorem dX12_readPea_54 : decode cX12_readPea 54 = .ok (.iadd, 1) := by decide +kernel
theorem dX12_readPea_55 : decode cX12_readPea 55 = .ok (.aload_n 0, 1) := by decide +kernel
theorem dX12_readPea_56 : decode cX12_readPea 56 = .ok (.iconst 1, 1) := by decide +kernel
theorem dX12_readPea_57 : decode cX12_readPea 57 = .ok (.bipush 12, 2) := by decide +kernel
theorem dX12_readPea_59 : decode cX12_readPea 59 = .ok (.invokevirtual 242, 3) := by decide +kernel
theorem dX12_readPea_62 : decode cX12_readPea 62 = .ok (.iastore, 1) := by decide +kernel
theorem dX12_readPea_63 : decode cX12_readPea 63 = .ok (.aload_n 0, 1) := by decide +kernel
theorem dX12_readPea_64 : decode cX12_readPea 64 = .ok (.aload_n 0, 1) := by decide +kernel
theorem dX12_readPea_65 : decode cX12_readPea 65 = .ok (.invokevirtual 182, 3) := by decide +kernel
theorem dX12_readPea_68 : decode cX12_readPea 68 = .ok (.invokevirtual 245, 3) := by decide +kernel
theorem dX12_readPea_71 : decode cX12_readPea 71 = .ok (.aload_n 0, 1) := by decide +kernel
theorem dX12_readPea_72 : decode cX12_readPea 72 = .ok (.getfield 35, 3) := by decide +kernel
theorem dX12_readPea_75 : decode cX12_readPea 75 = .ok (.sipush 2429, 3) := by decide +kernel
theorem dX12_readPea_78 : decode cX12_readPea 78 = .ok (.iload_n 1, 1) := by decide +kernel
theorem dX12_readPea_79 : decode cX12_readPea 79 = .ok (.iadd, 1) := by decide +kernel
theorem dX12_readPea_80 : decode cX12_readPea 80 = .ok (.aload_n 0, 1) := by decide +kernel
theorem dX12_readPea_81 : decode cX12_readPea 81 = .ok (.iconst 1, 1) := by decide +kernel
theorem dX12_readPea_82 : decode cX12_readPea 82 = .ok (.bipush 20, 2) := by decide +kernel
theorem dX12_readPea_84 : decode cX12_readPea 84 = .ok (.invokevirtual 242, 3) := by decide +kernel
theorem dX12_readPea_87 : decode cX12_readPea 87 = .ok (.iastore, 1) := by decide +kernel
theorem dX12_readPea_88 : decode cX12_readPea 88 = .ok (.aload_n 0, 1) := by decide +kernel
theorem dX12_readPea_89 : decode cX12_readPea 89 = .ok (.getfield 216, 3) := by decide +kernel
theorem dX12_readPea_92 : decode cX12_readPea 92 = .ok (.ifCond .ne 30, 3) := by decide +kernel
theorem dX12_readPea_95 : decode cX12_readPea 95 = .ok (.aload_n 0, 1) := by decide +kernel
theorem dX12_readPea_96 : decode cX12_readPea 96 = .ok (.invokevirtual 185, 3) := by decide +kernel
theorem dX12_readPea_99 : decode cX12_readPea 99 = .ok (.ifCond .eq 23, 3) := by decide +kernel
theorem dX12_readPea_102 : decode cX12_readPea 102 = .ok (.aload_n 0, 1) := by decide +kernel
theorem dX12_readPea_103 : decode cX12_readPea 103 = .ok (.invokevirtual 226, 3) := by decide +kernel
theorem dX12_readPea_106 : decode cX12_readPea 106 = .ok (.aload_n 0, 1) := by decide +kernel
theorem dX12_readPea_107 : decode cX12_readPea 107 = .ok (.getfield 35, 3) := by decide +kernel
theorem dX12_readPea_110 : decode cX12_readPea 110 = .ok (.sipush 2437, 3) := by decide +kernel
theorem dX12_readPea_113 : decode cX12_readPea 113 = .ok (.iload_n 1, 1) := by decide +kernel
theorem dX12_readPea_114 : decode cX12_readPea 114 = .ok (.iadd, 1) := by decide +kernel
theorem dX12_readPea_115 : decode cX12_readPea 115 = .ok (.aload_n 0, 1) := by decide +kernel
theorem dX12_readPea_116 : decode cX12_readPea 116 = .ok (.iconst 0, 1) := by decide +kernel
theorem dX12_readPea_117 : decode cX12_readPea 117 = .ok (.iconst 4, 1) := by decide +kernel
theorem dX12_readPea_118 : decode cX12_readPea 118 = .ok (.invokevirtual 242, 3) := by decide +kernel
theorem dX12_readPea_121 : decode cX12_readPea 121 = .ok (.iastore, 1) := by decide +kernel
theorem dX12_readPea_122 : decode cX12_readPea 122 = .ok (.aload_n 0, 1) := by decide +kernel
theorem dX12_readPea_123 : decode cX12_readPea 123 = .ok (.getfield 216, 3) := by decide +kernel
theorem dX12_readPea_126 : decode cX12_readPea 126 = .ok (.ifCond .ne 25, 3) := by decide +kernel
theorem dX12_readPea_129 : decode cX12_readPea 129 = .ok (.aload_n 0, 1) := by decide +kernel
theorem dX12_readPea_130 : decode cX12_readPea 130 = .ok (.invokevirtual 188, 3) := by decide +kernel
theorem dX12_readPea_133 : decode cX12_readPea 133 = .ok (.ifCond .eq 18, 3) := by decide +kernel
theorem dX12_readPea_136 : decode cX12_readPea 136 = .ok (.aload_n 0, 1) := by decide +kernel
theorem dX12_readPea_137 : decode cX12_readPea 137 = .ok (.getfield 35, 3) := by decide +kernel
theorem dX12_readPea_140 : decode cX12_readPea 140 = .ok (.sipush 2445, 3) := by decide +kernel
theorem dX12_readPea_143 : decode cX12_readPea 143 = .ok (.iload_n 1, 1) := by decide +kernel
theorem dX12_readPea_144 : decode cX12_readPea 144 = .ok (.iadd, 1) := by decide +kernel
theorem dX12_readPea_145 : decode cX12_readPea 145 = .ok (.iconst 1, 1) := by decide +kernel
theorem dX12_readPea_146 : decode cX12_readPea 146 = .ok (.iastore, 1) := by decide +kernel
theorem dX12_readPea_147 : decode cX12_readPea 147 = .ok (.aload_n 0, 1) := by decide +kernel
theorem dX12_readPea_148 : decode cX12_readPea 148 = .ok (.invokevirtual 226, 3) := by decide +kernel
theorem dX12_readPea_151 : decode cX12_readPea 151 = .ok (.aload_n 0, 1) := by decide +kernel
theorem dX12_readPea_152 : decode cX12_readPea 152 = .ok (.getfield 216, 3) := by decide +kernel
theorem dX12_readPea_155 : decode cX12_readPea 155 = .ok (.ifCond .ne 15, 3) := by decide +kernel
theorem dX12_readPea_158 : decode cX12_readPea 158 = .ok (.aload_n 0, 1) := by decide +kernel
theorem dX12_readPea_159 : decode cX12_readPea 159 = .ok (.getfield 35, 3) := by decide +kernel
theorem dX12_readPea_162 : decode cX12_readPea 162 = .ok (.sipush 2405, 3) := by decide +kernel
theorem dX12_readPea_165 : decode cX12_readPea 165 = .ok (.dup2, 1) := by decide +kernel
theorem dX12_readPea_166 : decode cX12_readPea 166 = .ok (.iaload, 1) := by decide +kernel
theorem dX12_readPea_167 : decode cX12_readPea 167 = .ok (.iconst 1, 1) := by decide +kernel
theorem dX12_readPea_168 : decode cX12_readPea 168 = .ok (.iadd, 1) := by decide +kernel
theorem dX12_readPea_169 : decode cX12_readPea 169 = .ok (.iastore, 1) := by decide +kernel
theorem dX12_readPea_170 : decode cX12_readPea 170 = .ok (.return_, 1) := by decide +kernel
theorem dX12_readShooter_0 : decode cX12_readShooter 0 = .ok (.aload_n 0, 1) := by decide +kernel
theorem dX12_readShooter_1 : decode cX12_readShooter 1 = .ok (.getfield 35, 3) := by decide +kernel
theorem dX12_readShooter_4 : decode cX12_readShooter 4 = .ok (.sipush 2406, 3) := by decide +kernel
theorem dX12_readShooter_7 : decode cX12_readShooter 7 = .ok (.iaload, 1) := by decide +kernel
theorem dX12_readShooter_8 : decode cX12_readShooter 8 = .ok (.istore_n 1, 1) := by decide +kernel
theorem dX12_readShooter_9 : decode cX12_readShooter 9 = .ok (.iload_n 1, 1) := by decide +kernel
theorem dX12_readShooter_10 : decode cX12_readShooter 10 = .ok (.bipush 6, 2) := by decide +kernel
theorem dX12_readShooter_12 : decode cX12_readShooter 12 = .ok (.if_icmp .ne 13, 3) := by decide +kernel
theorem dX12_readShooter_15 : decode cX12_readShooter 15 = .ok (.aload_n 0, 1) := by decide +kernel
theorem dX12_readShooter_16 : decode cX12_readShooter 16 = .ok (.bipush 6, 2) := by decide +kernel
theorem dX12_readShooter_18 : decode cX12_readShooter 18 = .ok (.aload_n 0, 1) := by decide +kernel
theorem dX12_readShooter_19 : decode cX12_readShooter 19 = .ok (.getfield 108, 3) := by decide +kernel
theorem dX12_readShooter_22 : decode cX12_readShooter 22 = .ok (.invokevirtual 222, 3) := by decide +kernel
theorem dX12_readShooter_25 : decode cX12_readShooter 25 = .ok (.aload_n 0, 1) := by decide +kernel
theorem dX12_readShooter_26 : decode cX12_readShooter 26 = .ok (.getfield 216, 3) := by decide +kernel
theorem dX12_readShooter_29 : decode cX12_readShooter 29 = .ok (.ifCond .le 4, 3) := by decide +kernel
theorem dX12_readShooter_32 : decode cX12_readShooter 32 = .ok (.return_, 1) := by decide +kernel
theorem dX12_readShooter_33 : decode cX12_readShooter 33 = .ok (.aload_n 0, 1) := by decide +kernel
theorem dX12_readShooter_34 : decode cX12_readShooter 34 = .ok (.bipush 8, 2) := by decide +kernel
theorem dX12_readShooter_36 : decode cX12_readShooter 36 = .ok (.iload_n 1, 1) := by decide +kernel
theorem dX12_readShooter_37 : decode cX12_readShooter 37 = .ok (.iadd, 1) := by decide +kernel
theorem dX12_readShooter_38 : decode cX12_readShooter 38 = .ok (.invokevirtual 264, 3) := by decide +kernel
theorem dX12_readShooter_41 : decode cX12_readShooter 41 = .ok (.aload_n 0, 1) := by decide +kernel
theorem dX12_readShooter_42 : decode cX12_readShooter 42 = .ok (.aload_n 0, 1) := by decide +kernel
theorem dX12_readShooter_43 : decode cX12_readShooter 43 = .ok (.invokevirtual 151, 3) := by decide +kernel
theorem dX12_readShooter_46 : decode cX12_readShooter 46 = .ok (.invokevirtual 245, 3) := by decide +kernel
theorem dX12_readShooter_49 : decode cX12_readShooter 49 = .ok (.aload_n 0, 1) := by decide +kernel
theorem dX12_readShooter_50 : decode cX12_readShooter 50 = .ok (.getfield 35, 3) := by decide +kernel
theorem dX12_readShooter_53 : decode cX12_readShooter 53 = .ok (.sipush 2453, 3) := by decide +kernel
theorem dX12_readShooter_56 : decode cX12_readShooter 56 = .ok (.iload_n 1, 1) := by decide +kernel
theorem dX12_readShooter_57 : decode cX12_readShooter 57 = .ok (.iadd, 1) := by decide +kernel
theorem dX12_readShooter_58 : decode cX12_readShooter 58 = .ok (.aload_n 0, 1) := by decide +kernel
theorem dX12_readShooter_59 : decode cX12_readShooter 59 = .ok (.iconst 1, 1) := by decide +kernel
theorem dX12_readShooter_60 : decode cX12_readShooter 60 = .ok (.bipush 40, 2) := by decide +kernel
theorem dX12_readShooter_62 : decode cX12_readShooter 62 = .ok (.invokevirtual 242, 3) := by decide +kernel
theorem dX12_readShooter_65 : decode cX12_readShooter 65 = .ok (.iastore, 1) := by decide +kernel
theorem dX12_readShooter_66 : decode cX12_readShooter 66 = .ok (.aload_n 0, 1) := by decide +kernel
theorem dX12_readShooter_67 : decode cX12_readShooter 67 = .ok (.aload_n 0, 1) := by decide +kernel
theorem dX12_readShooter_68 : decode cX12_readShooter 68 = .ok (.invokevirtual 194, 3) := by decide +kernel
theorem dX12_readShooter_71 : decode cX12_readShooter 71 = .ok (.invokevirtual 245, 3) := by decide +kernel
theorem dX12_readShooter_74 : decode cX12_readShooter 74 = .ok (.aload_n 0, 1) := by decide +kernel
theorem dX12_readShooter_75 : decode cX12_readShooter 75 = .ok (.getfield 35, 3) := by decide +kernel
theorem dX12_readShooter_78 : decode cX12_readShooter 78 = .ok (.sipush 2459, 3) := by decide +kernel
theorem dX12_readShooter_81 : decode cX12_readShooter 81 = .ok (.iload_n 1, 1) := by decide +kernel
theorem dX12_readShooter_82 : decode cX12_readShooter 82 = .ok (.iadd, 1) := by decide +kernel
theorem dX12_readShooter_83 : decode cX12_readShooter 83 = .ok (.aload_n 0, 1) := by decide +kernel
theorem dX12_readShooter_84 : decode cX12_readShooter 84 = .ok (.iconst 0, 1) := by decide +kernel
theorem dX12_readShooter_85 : decode cX12_readShooter 85 = .ok (.bipush 6, 2) := by decide +kernel
theorem dX12_readShooter_87 : decode cX12_readShooter 87 = .ok (.invokevirtual 242, 3) := by decide +kernel
theorem dX12_readShooter_90 : decode cX12_readShooter 90 = .ok (.iastore, 1) := by decide +kernel
theorem dX12_readShooter_91 : decode cX12_readShooter 91 = .ok (.aload_n 0, 1) := by decide +kernel
theorem dX12_readShooter_92 : decode cX12_readShooter 92 = .ok (.getfield 216, 3) := by decide +kernel
theorem dX12_readShooter_95 : decode cX12_readShooter 95 = .ok (.ifCond .ne 87, 3) := by decide +kernel
theorem dX12_readShooter_98 : decode cX12_readShooter 98 = .ok (.aload_n 0, 1) := by decide +kernel
theorem dX12_readShooter_99 : decode cX12_readShooter 99 = .ok (.invokevirtual 197, 3) := by decide +kernel
theorem dX12_readShooter_102 : decode cX12_readShooter 102 = .ok (.ifCond .eq 80, 3) := by decide +kernel
theorem dX12_readShooter_105 : decode cX12_readShooter 105 = .ok (.aload_n 0, 1) := by decide +kernel
theorem dX12_readShooter_106 : decode cX12_readShooter 106 = .ok (.invokevirtual 226, 3) := by decide +kernel
theorem dX12_readShooter_109 : decode cX12_readShooter 109 = .ok (.aload_n 0, 1) := by decide +kernel
theorem dX12_readShooter_110 : decode cX12_readShooter 110 = .ok (.getfield 35, 3) := by decide +kernel
theorem dX12_readShooter_113 : decode cX12_readShooter 113 = .ok (.sipush 2465, 3) := by decide +kernel
theorem dX12_readShooter_116 : decode cX12_readShooter 116 = .ok (.iload_n 1, 1) := by decide +kernel
theorem dX12_readShooter_117 : decode cX12_readShooter 117 = .ok (.iadd, 1) := by decide +kernel
theorem dX12_readShooter_118 : decode cX12_readShooter 118 = .ok (.aload_n 0, 1) := by decide +kernel
theorem dX12_readShooter_119 : decode cX12_readShooter 119 = .ok (.iconst 0, 1) := by decide +kernel
theorem dX12_readShooter_120 : decode cX12_readShooter 120 = .ok (.bipush 9, 2) := by decide +kernel
theorem dX12_readShooter_122 : decode cX12_readShooter 122 = .ok (.invokevirtual 242, 3) := by decide +kernel
theorem dX12_readShooter_125 : decode cX12_readShooter 125 = .ok (.iastore, 1) := by decide +kernel
theorem dX12_readShooter_126 : decode cX12_readShooter 126 = .ok (.aload_n 0, 1) := by decide +kernel
theorem dX12_readShooter_127 : decode cX12_readShooter 127 = .ok (.getfield 35, 3) := by decide +kernel
theorem dX12_readShooter_130 : decode cX12_readShooter 130 = .ok (.sipush 2471, 3) := by decide +kernel
theorem dX12_readShooter_133 : decode cX12_readShooter 133 = .ok (.iload_n 1, 1) := by decide +kernel
theorem dX12_readShooter_134 : decode cX12_readShooter 134 = .ok (.iadd, 1) := by decide +kernel
theorem dX12_readShooter_135 : decode cX12_readShooter 135 = .ok (.aload_n 0, 1) := by decide +kernel
theorem dX12_readShooter_136 : decode cX12_readShooter 136 = .ok (.iconst 0, 1) := by decide +kernel
theorem dX12_readShooter_137 : decode cX12_readShooter 137 = .ok (.bipush 9, 2) := by decide +kernel
theorem dX12_readShooter_139 : decode cX12_readShooter 139 = .ok (.invokevirtual 242, 3) := by decide +kernel
theorem dX12_readShooter_142 : decode cX12_readShooter 142 = .ok (.iastore, 1) := by decide +kernel
theorem dX12_readShooter_143 : decode cX12_readShooter 143 = .ok (.aload_n 0, 1) := by decide +kernel
theorem dX12_readShooter_144 : decode cX12_readShooter 144 = .ok (.getfield 216, 3) := by decide +kernel
theorem dX12_readShooter_147 : decode cX12_readShooter 147 = .ok (.ifCond .ne 35, 3) := by decide +kernel
theorem dX12_readShooter_150 : decode cX12_readShooter 150 = .ok (.aload_n 0, 1) := by decide +kernel
theorem dX12_readShooter_151 : decode cX12_readShooter 151 = .ok (.invokevirtual 200, 3) := by decide +kernel
theorem dX12_readShooter_154 : decode cX12_readShooter 154 = .ok (.ifCond .eq 28, 3) := by decide +kernel
theorem dX12_readShooter_157 : decode cX12_readShooter 157 = .ok (.aload_n 0, 1) := by decide +kernel
theorem dX12_readShooter_158 : decode cX12_readShooter 158 = .ok (.getfield 35, 3) := by decide +kernel
theorem dX12_readShooter_161 : decode cX12_readShooter 161 = .ok (.sipush 2471, 3) := by decide +kernel
theorem dX12_readShooter_164 : decode cX12_readShooter 164 = .ok (.iload_n 1, 1) := by decide +kernel
theorem dX12_readShooter_165 : decode cX12_readShooter 165 = .ok (.iadd, 1) := by decide +kernel
theorem dX12_readShooter_166 : decode cX12_readShooter 166 = .ok (.aload_n 0, 1) := by decide +kernel
theorem dX12_readShooter_167 : decode cX12_readShooter 167 = .ok (.getfield 35, 3) := by decide +kernel
theorem dX12_readShooter_170 : decode cX12_readShooter 170 = .ok (.sipush 2471, 3) := by decide +kernel
theorem dX12_readShooter_173 : decode cX12_readShooter 173 = .ok (.iload_n 1, 1) := by decide +kernel
theorem dX12_readShooter_174 : decode cX12_readShooter 174 = .ok (.iadd, 1) := by decide +kernel
theorem dX12_readShooter_175 : decode cX12_readShooter 175 = .ok (.iaload, 1) := by decide +kernel
theorem dX12_readShooter_176 : decode cX12_readShooter 176 = .ok (.ineg, 1) := by decide +kernel
theorem dX12_readShooter_177 : decode cX12_readShooter 177 = .ok (.iastore, 1) := by decide +kernel
theorem dX12_readShooter_178 : decode cX12_readShooter 178 = .ok (.aload_n 0, 1) := by decide +kernel
theorem dX12_readShooter_179 : decode cX12_readShooter 179 = .ok (.invokevirtual 226, 3) := by decide +kernel
theorem dX12_readShooter_182 : decode cX12_readShooter 182 = .ok (.aload_n 0, 1) := by decide +kernel
theorem dX12_readShooter_183 : decode cX12_readShooter 183 = .ok (.getfield 216, 3) := by decide +kernel
theorem dX12_readShooter_186 : decode cX12_readShooter 186 = .ok (.ifCond .ne 15, 3) := by decide +kernel
theorem dX12_readShooter_189 : decode cX12_readShooter 189 = .ok (.aload_n 0, 1) := by decide +kernel
theorem dX12_readShooter_190 : decode cX12_readShooter 190 = .ok (.getfield 35, 3) := by decide +kernel
theorem dX12_readShooter_193 : decode cX12_readShooter 193 = .ok (.sipush 2406, 3) := by decide +kernel
theorem dX12_readShooter_196 : decode cX12_readShooter 196 = .ok (.dup2, 1) := by decide +kernel
theorem dX12_readShooter_197 : decode cX12_readShooter 197 = .ok (.iaload, 1) := by decide +kernel
theorem dX12_readShooter_198 : decode cX12_readShooter 198 = .ok (.iconst 1, 1) := by decide +kernel
theorem dX12_readShooter_199 : decode cX12_readShooter 199 = .ok (.iadd, 1) := by decide +kernel
theorem dX12_readShooter_200 : decode cX12_readShooter 200 = .ok (.iastore, 1) := by decide +kernel
theorem dX12_readShooter_201 : decode cX12_readShooter 201 = .ok (.return_, 1) := by decide +kernel
theorem dX12_isSign_0 : decode cX12_isSign 0 = .ok (.aload_n 0, 1) := by decide +kernel
theorem dX12_isSign_1 : decode cX12_isSign 1 = .ok (.getfield 114, 3) := by decide +kernel
theorem dX12_isSign_4 : decode cX12_isSign 4 = .ok (.iconst 3, 1) := by decide +kernel
theorem dX12_isSign_5 : decode cX12_isSign 5 = .ok (.if_icmp .ne 15, 3) := by decide +kernel
theorem dX12_isSign_8 : decode cX12_isSign 8 = .ok (.aload_n 0, 1) := by decide +kernel
theorem dX12_isSign_9 : decode cX12_isSign 9 = .ok (.getfield 133, 3) := by decide +kernel
theorem dX12_isSign_12 : decode cX12_isSign 12 = .ok (.iload_n 1, 1) := by decide +kernel
theorem dX12_isSign_13 : decode cX12_isSign 13 = .ok (.if_icmp .ne 7, 3) := by decide +kernel
theorem dX12_isSign_16 : decode cX12_isSign 16 = .ok (.iconst 1, 1) := by decide +kernel
theorem dX12_isSign_17 : decode cX12_isSign 17 = .ok (.goto 4, 3) := by decide +kernel
theorem dX12_isSign_20 : decode cX12_isSign 20 = .ok (.iconst 0, 1) := by decide +kernel
theorem dX12_isSign_21 : decode cX12_isSign 21 = .ok (.ireturn, 1) := by decide +kernel
theorem dX12_isWell_0 : decode cX12_isWell 0 = .ok (.aload_n 0, 1) := by decide +kernel
theorem dX12_isWell_1 : decode cX12_isWell 1 = .ok (.aload_n 0, 1) := by decide +kernel
theorem dX12_isWell_2 : decode cX12_isWell 2 = .ok (.getfield 216, 3) := by decide +kernel
theorem dX12_isWell_5 : decode cX12_isWell 5 = .ok (.putfield 28, 3) := by decide +kernel
theorem dX12_isWell_8 : decode cX12_isWell 8 = .ok (.aload_n 0, 1) := by decide +kernel
theorem dX12_isWell_9 : decode cX12_isWell 9 = .ok (.aload_n 0, 1) := by decide +kernel
theorem dX12_isWell_10 : decode cX12_isWell 10 = .ok (.getfield 216, 3) := by decide +kernel
theorem dX12_isWell_13 : decode cX12_isWell 13 = .ok (.ifCond .ne 7, 3) := by decide +kernel
theorem dX12_isWell_16 : decode cX12_isWell 16 = .ok (.iconst (-1), 1) := by decide +kernel
theorem dX12_isWell_17 : decode cX12_isWell 17 = .ok (.goto 7, 3) := by decide +kernel
theorem dX12_isWell_20 : decode cX12_isWell 20 = .ok (.aload_n 0, 1) := by decide +kernel
theorem dX12_isWell_21 : decode cX12_isWell 21 = .ok (.getfield 219, 3) := by decide +kernel
theorem dX12_isWell_24 : decode cX12_isWell 24 = .ok (.putfield 32, 3) := by decide +kernel
theorem dX12_isWell_27 : decode cX12_isWell 27 = .ok (.aload_n 0, 1) := by decide +kernel
theorem dX12_isWell_28 : decode cX12_isWell 28 = .ok (.getfield 216, 3) := by decide +kernel
theorem dX12_isWell_31 : decode cX12_isWell 31 = .ok (.ifCond .eq 12, 3) := by decide +kernel
theorem dX12_isWell_34 : decode cX12_isWell 34 = .ok (.aload_n 0, 1) := by decide +kernel
theorem dX12_isWell_35 : decode cX12_isWell 35 = .ok (.bipush 10, 2) := by decide +kernel
theorem dX12_isWell_37 : decode cX12_isWell 37 = .ok (.invokevirtual 78, 3) := by decide +kernel
theorem dX12_isWell_40 : decode cX12_isWell 40 = .ok (.ifCond .eq 7, 3) := by decide +kernel
theorem dX12_isWell_43 : decode cX12_isWell 43 = .ok (.iconst 1, 1) := by decide +kernel
theorem dX12_isWell_44 : decode cX12_isWell 44 = .ok (.goto 4, 3) := by decide +kernel
theorem dX12_isWell_47 : decode cX12_isWell 47 = .ok (.iconst 0, 1) := by decide +kernel
theorem dX12_isWell_48 : decode cX12_isWell 48 = .ok (.ireturn, 1) := by decide +kernel
theorem dX12_copy_0 : decode cX12_copy 0 = .ok (.iconst 0, 1) := by decide +kernel
theorem dX12_copy_1 : decode cX12_copy 1 = .ok (.istore_n 3, 1) := by decide +kernel
theorem dX12_copy_2 : decode cX12_copy 2 = .ok (.iload_n 3, 1) := by decide +kernel
theorem dX12_copy_3 : decode cX12_copy 3 = .ok (.sipush 600, 3) := by decide +kernel
theorem dX12_copy_6 : decode cX12_copy 6 = .ok (.if_icmp .ge 33, 3) := by decide +kernel
theorem dX12_copy_9 : decode cX12_copy 9 = .ok (.aload_n 0, 1) := by decide +kernel
theorem dX12_copy_10 : decode cX12_copy 10 = .ok (.getfield 35, 3) := by decide +kernel
theorem dX12_copy_13 : decode cX12_copy 13 = .ok (.sipush 600, 3) := by decide +kernel
theorem dX12_copy_16 : decode cX12_copy 16 = .ok (.iload_n 2, 1) := by decide +kernel
theorem dX12_copy_17 : decode cX12_copy 17 = .ok (.imul, 1) := by decide +kernel
theorem dX12_copy_18 : decode cX12_copy 18 = .ok (.iload_n 3, 1) := by decide +kernel
theorem dX12_copy_19 : decode cX12_copy 19 = .ok (.iadd, 1) := by decide +kernel
theorem dX12_copy_20 : decode cX12_copy 20 = .ok (.aload_n 0, 1) := by decide +kernel
theorem dX12_copy_21 : decode cX12_copy 21 = .ok (.getfield 35, 3) := by decide +kernel
theorem dX12_copy_24 : decode cX12_copy 24 = .ok (.sipush 600, 3) := by decide +kernel
theorem dX12_copy_27 : decode cX12_copy 27 = .ok (.iload_n 1, 1) := by decide +kernel
theorem dX12_copy_28 : decode cX12_copy 28 = .ok (.imul, 1) := by decide +kernel
theorem dX12_copy_29 : decode cX12_copy 29 = .ok (.iload_n 3, 1) := by decide +kernel
theorem dX12_copy_30 : decode cX12_copy 30 = .ok (.iadd, 1) := by decide +kernel
theorem dX12_copy_31 : decode cX12_copy 31 = .ok (.iaload, 1) := by decide +kernel
theorem dX12_copy_32 : decode cX12_copy 32 = .ok (.iastore, 1) := by decide +kernel
theorem dX12_copy_33 : decode cX12_copy 33 = .ok (.iinc 3 1, 3) := by decide +kernel
theorem dX12_copy_36 : decode cX12_copy 36 = .ok (.goto (-34), 3) := by decide +kernel
theorem dX12_copy_39 : decode cX12_copy 39 = .ok (.iconst 0, 1) := by decide +kernel
theorem dX12_copy_40 : decode cX12_copy 40 = .ok (.istore_n 3, 1) := by decide +kernel
theorem dX12_copy_41 : decode cX12_copy 41 = .ok (.iload_n 3, 1) := by decide +kernel
theorem dX12_copy_42 : decode cX12_copy 42 = .ok (.bipush 14, 2) := by decide +kernel
theorem dX12_copy_44 : decode cX12_copy 44 = .ok (.if_icmp .ge 31, 3) := by decide +kernel
theorem dX12_copy_47 : decode cX12_copy 47 = .ok (.aload_n 0, 1) := by decide +kernel
theorem dX12_copy_48 : decode cX12_copy 48 = .ok (.getfield 41, 3) := by decide +kernel
theorem dX12_copy_51 : decode cX12_copy 51 = .ok (.bipush 14, 2) := by decide +kernel
theorem dX12_copy_53 : decode cX12_copy 53 = .ok (.iload_n 2, 1) := by decide +kernel
theorem dX12_copy_54 : decode cX12_copy 54 = .ok (.imul, 1) := by decide +kernel
theorem dX12_copy_55 : decode cX12_copy 55 = .ok (.iload_n 3, 1) := by decide +kernel
theorem dX12_copy_56 : decode cX12_copy 56 = .ok (.iadd, 1) := by decide +kernel
theorem dX12_copy_57 : decode cX12_copy 57 = .ok (.aload_n 0, 1) := by decide +kernel
theorem dX12_copy_58 : decode cX12_copy 58 = .ok (.getfield 41, 3) := by decide +kernel
theorem dX12_copy_61 : decode cX12_copy 61 = .ok (.bipush 14, 2) := by decide +kernel
theorem dX12_copy_63 : decode cX12_copy 63 = .ok (.iload_n 1, 1) := by decide +kernel
theorem dX12_copy_64 : decode cX12_copy 64 = .ok (.imul, 1) := by decide +kernel
theorem dX12_copy_65 : decode cX12_copy 65 = .ok (.iload_n 3, 1) := by decide +kernel
theorem dX12_copy_66 : decode cX12_copy 66 = .ok (.iadd, 1) := by decide +kernel
theorem dX12_copy_67 : decode cX12_copy 67 = .ok (.laload, 1) := by decide +kernel
theorem dX12_copy_68 : decode cX12_copy 68 = .ok (.lastore, 1) := by decide +kernel
theorem dX12_copy_69 : decode cX12_copy 69 = .ok (.iinc 3 1, 3) := by decide +kernel
theorem dX12_copy_72 : decode cX12_copy 72 = .ok (.goto (-31), 3) := by decide +kernel
theorem dX12_copy_75 : decode cX12_copy 75 = .ok (.return_, 1) := by decide +kernel
theorem dX12_tent_0 : decode cX12_tent 0 = .ok (.aload_n 0, 1) := by decide +kernel
theorem dX12_tent_1 : decode cX12_tent 1 = .ok (.iconst 0, 1) := by decide +kernel
theorem dX12_tent_2 : decode cX12_tent 2 = .ok (.putfield 63, 3) := by decide +kernel
theorem dX12_tent_5 : decode cX12_tent 5 = .ok (.aload_n 0, 1) := by decide +kernel
theorem dX12_tent_6 : decode cX12_tent 6 = .ok (.iconst 0, 1) := by decide +kernel
theorem dX12_tent_7 : decode cX12_tent 7 = .ok (.putfield 66, 3) := by decide +kernel
theorem dX12_tent_10 : decode cX12_tent 10 = .ok (.aload_n 0, 1) := by decide +kernel
theorem dX12_tent_11 : decode cX12_tent 11 = .ok (.iload_n 1, 1) := by decide +kernel
theorem dX12_tent_12 : decode cX12_tent 12 = .ok (.sipush 900, 3) := by decide +kernel
theorem dX12_tent_15 : decode cX12_tent 15 = .ok (.invokevirtual 267, 3) := by decide +kernel
theorem dX12_tent_18 : decode cX12_tent 18 = .ok (.ifCond .ne 5, 3) := by decide +kernel
theorem dX12_tent_21 : decode cX12_tent 21 = .ok (.iconst (-1), 1) := by decide +kernel
theorem dX12_tent_22 : decode cX12_tent 22 = .ok (.ireturn, 1) := by decide +kernel
theorem dX12_tent_23 : decode cX12_tent 23 = .ok (.iconst 0, 1) := by decide +kernel
theorem dX12_tent_24 : decode cX12_tent 24 = .ok (.istore_n 2, 1) := by decide +kernel
theorem dX12_tent_25 : decode cX12_tent 25 = .ok (.iload_n 2, 1) := by decide +kernel
theorem dX12_tent_26 : decode cX12_tent 26 = .ok (.sipush 600, 3) := by decide +kernel
theorem dX12_tent_29 : decode cX12_tent 29 = .ok (.if_icmp .ge 20, 3) := by decide +kernel
theorem dX12_tent_32 : decode cX12_tent 32 = .ok (.aload_n 0, 1) := by decide +kernel
theorem dX12_tent_33 : decode cX12_tent 33 = .ok (.getfield 35, 3) := by decide +kernel
theorem dX12_tent_36 : decode cX12_tent 36 = .ok (.sipush 2400, 3) := by decide +kernel
theorem dX12_tent_39 : decode cX12_tent 39 = .ok (.iload_n 2, 1) := by decide +kernel
theorem dX12_tent_40 : decode cX12_tent 40 = .ok (.iadd, 1) := by decide +kernel
theorem dX12_tent_41 : decode cX12_tent 41 = .ok (.iconst 0, 1) := by decide +kernel
theorem dX12_tent_42 : decode cX12_tent 42 = .ok (.iastore, 1) := by decide +kernel
theorem dX12_tent_43 : decode cX12_tent 43 = .ok (.iinc 2 1, 3) := by decide +kernel
theorem dX12_tent_46 : decode cX12_tent 46 = .ok (.goto (-21), 3) := by decide +kernel
theorem dX12_tent_49 : decode cX12_tent 49 = .ok (.aload_n 0, 1) := by decide +kernel
theorem dX12_tent_50 : decode cX12_tent 50 = .ok (.sipush 2400, 3) := by decide +kernel
theorem dX12_tent_53 : decode cX12_tent 53 = .ok (.invokevirtual 59, 3) := by decide +kernel
theorem dX12_tent_56 : decode cX12_tent 56 = .ok (.aload_n 0, 1) := by decide +kernel
theorem dX12_tent_57 : decode cX12_tent 57 = .ok (.iconst 0, 1) := by decide +kernel
theorem dX12_tent_58 : decode cX12_tent 58 = .ok (.putfield 238, 3) := by decide +kernel
theorem dX12_tent_61 : decode cX12_tent 61 = .ok (.aload_n 0, 1) := by decide +kernel
theorem dX12_tent_62 : decode cX12_tent 62 = .ok (.iconst 0, 1) := by decide +kernel
theorem dX12_tent_63 : decode cX12_tent 63 = .ok (.putfield 249, 3) := by decide +kernel
theorem dX12_tent_66 : decode cX12_tent 66 = .ok (.aload_n 0, 1) := by decide +kernel
theorem dX12_tent_67 : decode cX12_tent 67 = .ok (.iconst 0, 1) := by decide +kernel
theorem dX12_tent_68 : decode cX12_tent 68 = .ok (.putfield 252, 3) := by decide +kernel
theorem dX12_tent_71 : decode cX12_tent 71 = .ok (.aload_n 0, 1) := by decide +kernel
theorem dX12_tent_72 : decode cX12_tent 72 = .ok (.getfield 216, 3) := by decide +kernel
theorem dX12_tent_75 : decode cX12_tent 75 = .ok (.ifCond .ne 111, 3) := by decide +kernel
theorem dX12_tent_78 : decode cX12_tent 78 = .ok (.aload_n 0, 1) := by decide +kernel
theorem dX12_tent_79 : decode cX12_tent 79 = .ok (.getfield 114, 3) := by decide +kernel
theorem dX12_tent_82 : decode cX12_tent 82 = .ok (.ifCond .eq 104, 3) := by decide +kernel
theorem dX12_tent_85 : decode cX12_tent 85 = .ok (.aload_n 0, 1) := by decide +kernel
theorem dX12_tent_86 : decode cX12_tent 86 = .ok (.invokevirtual 155, 3) := by decide +kernel
theorem dX12_tent_89 : decode cX12_tent 89 = .ok (.ifCond .eq 10, 3) := by decide +kernel
theorem dX12_tent_92 : decode cX12_tent 92 = .ok (.aload_n 0, 1) := by decide +kernel
theorem dX12_tent_93 : decode cX12_tent 93 = .ok (.invokevirtual 271, 3) := by decide +kernel
theorem dX12_tent_96 : decode cX12_tent 96 = .ok (.goto 77, 3) := by decide +kernel
theorem dX12_tent_99 : decode cX12_tent 99 = .ok (.aload_n 0, 1) := by decide +kernel
theorem dX12_tent_100 : decode cX12_tent 100 = .ok (.invokevirtual 161, 3) := by decide +kernel
theorem dX12_tent_103 : decode cX12_tent 103 = .ok (.ifCond .eq 10, 3) := by decide +kernel
theorem dX12_tent_106 : decode cX12_tent 106 = .ok (.aload_n 0, 1) := by decide +kernel
theorem dX12_tent_107 : decode cX12_tent 107 = .ok (.invokevirtual 274, 3) := by decide +kernel
theorem dX12_tent_110 : decode cX12_tent 110 = .ok (.goto 63, 3) := by decide +kernel
theorem dX12_tent_113 : decode cX12_tent 113 = .ok (.aload_n 0, 1) := by decide +kernel
theorem dX12_tent_114 : decode cX12_tent 114 = .ok (.invokevirtual 164, 3) := by decide +kernel
theorem dX12_tent_117 : decode cX12_tent 117 = .ok (.ifCond .eq 10, 3) := by decide +kernel
theorem dX12_tent_120 : decode cX12_tent 120 = .ok (.aload_n 0, 1) := by decide +kernel
theorem dX12_tent_121 : decode cX12_tent 121 = .ok (.invokevirtual 277, 3) := by decide +kernel
theorem dX12_tent_124 : decode cX12_tent 124 = .ok (.goto 49, 3) := by decide +kernel
theorem dX12_tent_127 : decode cX12_tent 127 = .ok (.aload_n 0, 1) := by decide +kernel
theorem dX12_tent_128 : decode cX12_tent 128 = .ok (.invokevirtual 170, 3) := by decide +kernel
theorem dX12_tent_131 : decode cX12_tent 131 = .ok (.ifCond .eq 10, 3) := by decide +kernel
theorem dX12_tent_134 : decode cX12_tent 134 = .ok (.aload_n 0, 1) := by decide +kernel
theorem dX12_tent_135 : decode cX12_tent 135 = .ok (.invokevirtual 280, 3) := by decide +kernel
theorem dX12_tent_138 : decode cX12_tent 138 = .ok (.goto 35, 3) := by decide +kernel
theorem dX12_tent_141 : decode cX12_tent 141 = .ok (.aload_n 0, 1) := by decide +kernel
theorem dX12_tent_142 : decode cX12_tent 142 = .ok (.invokevirtual 176, 3) := by decide +kernel
theorem dX12_tent_145 : decode cX12_tent 145 = .ok (.ifCond .eq 10, 3) := by decide +kernel
theorem dX12_tent_148 : decode cX12_tent 148 = .ok (.aload_n 0, 1) := by decide +kernel
theorem dX12_tent_149 : decode cX12_tent 149 = .ok (.invokevirtual 283, 3) := by decide +kernel
theorem dX12_tent_152 : decode cX12_tent 152 = .ok (.goto 21, 3) := by decide +kernel
theorem dX12_tent_155 : decode cX12_tent 155 = .ok (.aload_n 0, 1) := by decide +kernel
theorem dX12_tent_156 : decode cX12_tent 156 = .ok (.invokevirtual 191, 3) := by decide +kernel
theorem dX12_tent_159 : decode cX12_tent 159 = .ok (.ifCond .eq 10, 3) := by decide +kernel
theorem dX12_tent_162 : decode cX12_tent 162 = .ok (.aload_n 0, 1) := by decide +kernel
theorem dX12_tent_163 : decode cX12_tent 163 = .ok (.invokevirtual 286, 3) := by decide +kernel
theorem dX12_tent_166 : decode cX12_tent 166 = .ok (.goto 7, 3) := by decide +kernel
theorem dX12_tent_169 : decode cX12_tent 169 = .ok (.aload_n 0, 1) := by decide +kernel
theorem dX12_tent_170 : decode cX12_tent 170 = .ok (.invokevirtual 229, 3) := by decide +kernel
theorem dX12_tent_173 : decode cX12_tent 173 = .ok (.aload_n 0, 1) := by decide +kernel
theorem dX12_tent_174 : decode cX12_tent 174 = .ok (.aload_n 0, 1) := by decide +kernel
theorem dX12_tent_175 : decode cX12_tent 175 = .ok (.bipush 59, 2) := by decide +kernel
theorem dX12_tent_177 : decode cX12_tent 177 = .ok (.invokevirtual 289, 3) := by decide +kernel
theorem dX12_tent_180 : decode cX12_tent 180 = .ok (.invokevirtual 245, 3) := by decide +kernel
theorem dX12_tent_183 : decode cX12_tent 183 = .ok (.goto (-112), 3) := by decide +kernel
theorem dX12_tent_186 : decode cX12_tent 186 = .ok (.aload_n 0, 1) := by decide +kernel
theorem dX12_tent_187 : decode cX12_tent 187 = .ok (.invokevirtual 292, 3) := by decide +kernel
theorem dX12_tent_190 : decode cX12_tent 190 = .ok (.ifCond .ne 5, 3) := by decide +kernel
theorem dX12_tent_193 : decode cX12_tent 193 = .ok (.iconst (-1), 1) := by decide +kernel
theorem dX12_tent_194 : decode cX12_tent 194 = .ok (.ireturn, 1) := by decide +kernel
theorem dX12_tent_195 : decode cX12_tent 195 = .ok (.aload_n 0, 1) := by decide +kernel
theorem dX12_tent_196 : decode cX12_tent 196 = .ok (.iconst 4, 1) := by decide +kernel
theorem dX12_tent_197 : decode cX12_tent 197 = .ok (.iconst 0, 1) := by decide +kernel
theorem dX12_tent_198 : decode cX12_tent 198 = .ok (.invokevirtual 295, 3) := by decide +kernel
theorem dX12_tent_201 : decode cX12_tent 201 = .ok (.aload_n 0, 1) := by decide +kernel
theorem dX12_tent_202 : decode cX12_tent 202 = .ok (.getfield 35, 3) := by decide +kernel
theorem dX12_tent_205 : decode cX12_tent 205 = .ok (.iconst 5, 1) := by decide +kernel
theorem dX12_tent_206 : decode cX12_tent 206 = .ok (.iaload, 1) := by decide +kernel
theorem dX12_tent_207 : decode cX12_tent 207 = .ok (.ireturn, 1) := by decide +kernel
theorem dX12_readTold_0 : decode cX12_readTold 0 = .ok (.aload_n 0, 1) := by decide +kernel
theorem dX12_readTold_1 : decode cX12_readTold 1 = .ok (.getfield 216, 3) := by decide +kernel
theorem dX12_readTold_4 : decode cX12_readTold 4 = .ok (.ifCond .ne 14, 3) := by decide +kernel
theorem dX12_readTold_7 : decode cX12_readTold 7 = .ok (.aload_n 0, 1) := by decide +kernel
theorem dX12_readTold_8 : decode cX12_readTold 8 = .ok (.invokevirtual 255, 3) := by decide +kernel
theorem dX12_readTold_11 : decode cX12_readTold 11 = .ok (.ifCond .ne 7, 3) := by decide +kernel
theorem dX12_readTold_14 : decode cX12_readTold 14 = .ok (.aload_n 0, 1) := by decide +kernel
theorem dX12_readTold_15 : decode cX12_readTold 15 = .ok (.invokevirtual 229, 3) := by decide +kernel
theorem dX12_readTold_18 : decode cX12_readTold 18 = .ok (.aload_n 0, 1) := by decide +kernel
theorem dX12_readTold_19 : decode cX12_readTold 19 = .ok (.getfield 216, 3) := by decide +kernel
theorem dX12_readTold_22 : decode cX12_readTold 22 = .ok (.ifCond .le 7, 3) := by decide +kernel
theorem dX12_readTold_25 : decode cX12_readTold 25 = .ok (.iconst 0, 1) := by decide +kernel
theorem dX12_readTold_26 : decode cX12_readTold 26 = .ok (.goto 20, 3) := by decide +kernel
theorem dX12_readTold_29 : decode cX12_readTold 29 = .ok (.iload_n 1, 1) := by decide +kernel
theorem dX12_readTold_30 : decode cX12_readTold 30 = .ok (.ifCond .eq 11, 3) := by decide +kernel
theorem dX12_readTold_33 : decode cX12_readTold 33 = .ok (.aload_n 0, 1) := by decide +kernel
theorem dX12_readTold_34 : decode cX12_readTold 34 = .ok (.iconst 0, 1) := by decide +kernel
theorem dX12_readTold_35 : decode cX12_readTold 35 = .ok (.invokevirtual 258, 3) := by decide +kernel
theorem dX12_readTold_38 : decode cX12_readTold 38 = .ok (.goto 8, 3) := by decide +kernel
theorem dX12_readTold_41 : decode cX12_readTold 41 = .ok (.aload_n 0, 1) := by decide +kernel
theorem dX12_readTold_42 : decode cX12_readTold 42 = .ok (.iconst 0, 1) := by decide +kernel
theorem dX12_readTold_43 : decode cX12_readTold 43 = .ok (.invokevirtual 261, 3) := by decide +kernel
theorem dX12_readTold_46 : decode cX12_readTold 46 = .ok (.istore_n 2, 1) := by decide +kernel
theorem dX12_readTold_47 : decode cX12_readTold 47 = .ok (.aload_n 0, 1) := by decide +kernel
theorem dX12_readTold_48 : decode cX12_readTold 48 = .ok (.getfield 216, 3) := by decide +kernel
theorem dX12_readTold_51 : decode cX12_readTold 51 = .ok (.ifCond .ne 16, 3) := by decide +kernel
theorem dX12_readTold_54 : decode cX12_readTold 54 = .ok (.iload_n 2, 1) := by decide +kernel
theorem dX12_readTold_55 : decode cX12_readTold 55 = .ok (.ifCond .ge 12, 3) := by decide +kernel
theorem dX12_readTold_58 : decode cX12_readTold 58 = .ok (.aload_n 0, 1) := by decide +kernel
theorem dX12_readTold_59 : decode cX12_readTold 59 = .ok (.iconst 3, 1) := by decide +kernel
theorem dX12_readTold_60 : decode cX12_readTold 60 = .ok (.aload_n 0, 1) := by decide +kernel
theorem dX12_readTold_61 : decode cX12_readTold 61 = .ok (.getfield 108, 3) := by decide +kernel
theorem dX12_readTold_64 : decode cX12_readTold 64 = .ok (.invokevirtual 222, 3) := by decide +kernel
theorem dX12_readTold_67 : decode cX12_readTold 67 = .ok (.aload_n 0, 1) := by decide +kernel
theorem dX12_readTold_68 : decode cX12_readTold 68 = .ok (.iconst 1, 1) := by decide +kernel
theorem dX12_readTold_69 : decode cX12_readTold 69 = .ok (.invokevirtual 245, 3) := by decide +kernel
theorem dX12_readTold_72 : decode cX12_readTold 72 = .ok (.iload_n 2, 1) := by decide +kernel
theorem dX12_readTold_73 : decode cX12_readTold 73 = .ok (.ireturn, 1) := by decide +kernel
theorem dX12_readAim_0 : decode cX12_readAim 0 = .ok (.aload_n 0, 1) := by decide +kernel
theorem dX12_readAim_1 : decode cX12_readAim 1 = .ok (.getfield 35, 3) := by decide +kernel
theorem dX12_readAim_4 : decode cX12_readAim 4 = .ok (.iload_n 1, 1) := by decide +kernel
theorem dX12_readAim_5 : decode cX12_readAim 5 = .ok (.iconst 1, 1) := by decide +kernel
theorem dX12_readAim_6 : decode cX12_readAim 6 = .ok (.iadd, 1) := by decide +kernel
theorem dX12_readAim_7 : decode cX12_readAim 7 = .ok (.aload_n 0, 1) := by decide +kernel
theorem dX12_readAim_8 : decode cX12_readAim 8 = .ok (.iconst 0, 1) := by decide +kernel
theorem dX12_readAim_9 : decode cX12_readAim 9 = .ok (.bipush 60, 2) := by decide +kernel
theorem dX12_readAim_11 : decode cX12_readAim 11 = .ok (.invokevirtual 242, 3) := by decide +kernel
theorem dX12_readAim_14 : decode cX12_readAim 14 = .ok (.iastore, 1) := by decide +kernel
theorem dX12_readAim_15 : decode cX12_readAim 15 = .ok (.aload_n 0, 1) := by decide +kernel
theorem dX12_readAim_16 : decode cX12_readAim 16 = .ok (.getfield 35, 3) := by decide +kernel
theorem dX12_readAim_19 : decode cX12_readAim 19 = .ok (.iload_n 1, 1) := by decide +kernel
theorem dX12_readAim_20 : decode cX12_readAim 20 = .ok (.iconst 2, 1) := by decide +kernel
theorem dX12_readAim_21 : decode cX12_readAim 21 = .ok (.iadd, 1) := by decide +kernel
theorem dX12_readAim_22 : decode cX12_readAim 22 = .ok (.aload_n 0, 1) := by decide +kernel
theorem dX12_readAim_23 : decode cX12_readAim 23 = .ok (.iconst 0, 1) := by decide +kernel
theorem dX12_readAim_24 : decode cX12_readAim 24 = .ok (.bipush 60, 2) := by decide +kernel
theorem dX12_readAim_26 : decode cX12_readAim 26 = .ok (.invokevirtual 242, 3) := by decide +kernel
theorem dX12_readAim_29 : decode cX12_readAim 29 = .ok (.iastore, 1) := by decide +kernel
theorem dX12_readAim_30 : decode cX12_readAim 30 = .ok (.aload_n 0, 1) := by decide +kernel
theorem dX12_readAim_31 : decode cX12_readAim 31 = .ok (.getfield 216, 3) := by decide +kernel
theorem dX12_readAim_34 : decode cX12_readAim 34 = .ok (.ifCond .ne 31, 3) := by decide +kernel
theorem dX12_readAim_37 : decode cX12_readAim 37 = .ok (.aload_n 0, 1) := by decide +kernel
theorem dX12_readAim_38 : decode cX12_readAim 38 = .ok (.invokevirtual 167, 3) := by decide +kernel
theorem dX12_readAim_41 : decode cX12_readAim 41 = .ok (.ifCond .eq 24, 3) := by decide +kernel
theorem dX12_readAim_44 : decode cX12_readAim 44 = .ok (.aload_n 0, 1) := by decide +kernel
theorem dX12_readAim_45 : decode cX12_readAim 45 = .ok (.getfield 35, 3) := by decide +kernel
theorem dX12_readAim_48 : decode cX12_readAim 48 = .ok (.iload_n 1, 1) := by decide +kernel
theorem dX12_readAim_49 : decode cX12_readAim 49 = .ok (.iconst 1, 1) := by decide +kernel
theorem dX12_readAim_50 : decode cX12_readAim 50 = .ok (.iadd, 1) := by decide +kernel
theorem dX12_readAim_51 : decode cX12_readAim 51 = .ok (.aload_n 0, 1) := by decide +kernel
theorem dX12_readAim_52 : decode cX12_readAim 52 = .ok (.getfield 35, 3) := by decide +kernel
theorem dX12_readAim_55 : decode cX12_readAim 55 = .ok (.iload_n 1, 1) := by decide +kernel
theorem dX12_readAim_56 : decode cX12_readAim 56 = .ok (.iconst 1, 1) := by decide +kernel
theorem dX12_readAim_57 : decode cX12_readAim 57 = .ok (.iadd, 1) := by decide +kernel
theorem dX12_readAim_58 : decode cX12_readAim 58 = .ok (.iaload, 1) := by decide +kernel
theorem dX12_readAim_59 : decode cX12_readAim 59 = .ok (.ineg, 1) := by decide +kernel
theorem dX12_readAim_60 : decode cX12_readAim 60 = .ok (.iastore, 1) := by decide +kernel
theorem dX12_readAim_61 : decode cX12_readAim 61 = .ok (.aload_n 0, 1) := by decide +kernel
theorem dX12_readAim_62 : decode cX12_readAim 62 = .ok (.invokevirtual 226, 3) := by decide +kernel
theorem dX12_readAim_65 : decode cX12_readAim 65 = .ok (.aload_n 0, 1) := by decide +kernel
theorem dX12_readAim_66 : decode cX12_readAim 66 = .ok (.getfield 216, 3) := by decide +kernel
theorem dX12_readAim_69 : decode cX12_readAim 69 = .ok (.ifCond .ne 31, 3) := by decide +kernel
theorem dX12_readAim_72 : decode cX12_readAim 72 = .ok (.aload_n 0, 1) := by decide +kernel
theorem dX12_readAim_73 : decode cX12_readAim 73 = .ok (.invokevirtual 200, 3) := by decide +kernel
theorem dX12_readAim_76 : decode cX12_readAim 76 = .ok (.ifCond .eq 24, 3) := by decide +kernel
theorem dX12_readAim_79 : decode cX12_readAim 79 = .ok (.aload_n 0, 1) := by decide +kernel
theorem dX12_readAim_80 : decode cX12_readAim 80 = .ok (.getfield 35, 3) := by decide +kernel
theorem dX12_readAim_83 : decode cX12_readAim 83 = .ok (.iload_n 1, 1) := by decide +kernel
theorem dX12_readAim_84 : decode cX12_readAim 84 = .ok (.iconst 2, 1) := by decide +kernel
theorem dX12_readAim_85 : decode cX12_readAim 85 = .ok (.iadd, 1) := by decide +kernel
theorem dX12_readAim_86 : decode cX12_readAim 86 = .ok (.aload_n 0, 1) := by decide +kernel
theorem dX12_readAim_87 : decode cX12_readAim 87 = .ok (.getfield 35, 3) := by decide +kernel
theorem dX12_readAim_90 : decode cX12_readAim 90 = .ok (.iload_n 1, 1) := by decide +kernel
theorem dX12_readAim_91 : decode cX12_readAim 91 = .ok (.iconst 2, 1) := by decide +kernel
theorem dX12_readAim_92 : decode cX12_readAim 92 = .ok (.iadd, 1) := by decide +kernel
theorem dX12_readAim_93 : decode cX12_readAim 93 = .ok (.iaload, 1) := by decide +kernel
theorem dX12_readAim_94 : decode cX12_readAim 94 = .ok (.ineg, 1) := by decide +kernel
theorem dX12_readAim_95 : decode cX12_readAim 95 = .ok (.iastore, 1) := by decide +kernel
theorem dX12_readAim_96 : decode cX12_readAim 96 = .ok (.aload_n 0, 1) := by decide +kernel
theorem dX12_readAim_97 : decode cX12_readAim 97 = .ok (.invokevirtual 226, 3) := by decide +kernel
theorem dX12_readAim_100 : decode cX12_readAim 100 = .ok (.return_, 1) := by decide +kernel
theorem dX12_readTest_0 : decode cX12_readTest 0 = .ok (.aload_n 0, 1) := by decide +kernel
theorem dX12_readTest_1 : decode cX12_readTest 1 = .ok (.invokevirtual 207, 3) := by decide +kernel
theorem dX12_readTest_4 : decode cX12_readTest 4 = .ok (.istore_n 2, 1) := by decide +kernel
theorem dX12_readTest_5 : decode cX12_readTest 5 = .ok (.aload_n 0, 1) := by decide +kernel
theorem dX12_readTest_6 : decode cX12_readTest 6 = .ok (.iload_n 2, 1) := by decide +kernel
theorem dX12_readTest_7 : decode cX12_readTest 7 = .ok (.ifCond .lt 7, 3) := by decide +kernel
theorem dX12_readTest_10 : decode cX12_readTest 10 = .ok (.iconst 1, 1) := by decide +kernel
theorem dX12_readTest_11 : decode cX12_readTest 11 = .ok (.goto 4, 3) := by decide +kernel
theorem dX12_readTest_14 : decode cX12_readTest 14 = .ok (.iconst 0, 1) := by decide +kernel
theorem dX12_readTest_15 : decode cX12_readTest 15 = .ok (.invokevirtual 245, 3) := by decide +kernel
theorem dX12_readTest_18 : decode cX12_readTest 18 = .ok (.aload_n 0, 1) := by decide +kernel
theorem dX12_readTest_19 : decode cX12_readTest 19 = .ok (.getfield 35, 3) := by decide +kernel
theorem dX12_readTest_22 : decode cX12_readTest 22 = .ok (.iload_n 1, 1) := by decide +kernel
theorem dX12_readTest_23 : decode cX12_readTest 23 = .ok (.bipush 6, 2) := by decide +kernel
theorem dX12_readTest_25 : decode cX12_readTest 25 = .ok (.iadd, 1) := by decide +kernel
theorem dX12_readTest_26 : decode cX12_readTest 26 = .ok (.iload_n 2, 1) := by decide +kernel
theorem dX12_readTest_27 : decode cX12_readTest 27 = .ok (.iastore, 1) := by decide +kernel
theorem dX12_readTest_28 : decode cX12_readTest 28 = .ok (.iload_n 2, 1) := by decide +kernel
theorem dX12_readTest_29 : decode cX12_readTest 29 = .ok (.ifCond .ne 16, 3) := by decide +kernel
theorem dX12_readTest_32 : decode cX12_readTest 32 = .ok (.aload_n 0, 1) := by decide +kernel
theorem dX12_readTest_33 : decode cX12_readTest 33 = .ok (.getfield 35, 3) := by decide +kernel
theorem dX12_readTest_36 : decode cX12_readTest 36 = .ok (.iload_n 1, 1) := by decide +kernel
theorem dX12_readTest_37 : decode cX12_readTest 37 = .ok (.iconst 1, 1) := by decide +kernel
theorem dX12_readTest_38 : decode cX12_readTest 38 = .ok (.iadd, 1) := by decide +kernel
theorem dX12_readTest_39 : decode cX12_readTest 39 = .ok (.aload_n 0, 1) := by decide +kernel
theorem dX12_readTest_40 : decode cX12_readTest 40 = .ok (.iconst 0, 1) := by decide +kernel
theorem dX12_readTest_41 : decode cX12_readTest 41 = .ok (.invokevirtual 298, 3) := by decide +kernel
theorem dX12_readTest_44 : decode cX12_readTest 44 = .ok (.iastore, 1) := by decide +kernel
theorem dX12_readTest_45 : decode cX12_readTest 45 = .ok (.aload_n 0, 1) := by decide +kernel
theorem dX12_readTest_46 : decode cX12_readTest 46 = .ok (.getfield 216, 3) := by decide +kernel
theorem dX12_readTest_49 : decode cX12_readTest 49 = .ok (.ifCond .le 4, 3) := by decide +kernel
theorem dX12_readTest_52 : decode cX12_readTest 52 = .ok (.return_, 1) := by decide +kernel
theorem dX12_readTest_53 : decode cX12_readTest 53 = .ok (.aload_n 0, 1) := by decide +kernel
theorem dX12_readTest_54 : decode cX12_readTest 54 = .ok (.getfield 35, 3) := by decide +kernel
theorem dX12_readTest_57 : decode cX12_readTest 57 = .ok (.iload_n 1, 1) := by decide +kernel
theorem dX12_readTest_58 : decode cX12_readTest 58 = .ok (.bipush 7, 2) := by decide +kernel
theorem dX12_readTest_60 : decode cX12_readTest 60 = .ok (.iadd, 1) := by decide +kernel
theorem dX12_readTest_61 : decode cX12_readTest 61 = .ok (.aload_n 0, 1) := by decide +kernel
theorem dX12_readTest_62 : decode cX12_readTest 62 = .ok (.getfield 114, 3) := by decide +kernel
theorem dX12_readTest_65 : decode cX12_readTest 65 = .ok (.iconst 3, 1) := by decide +kernel
theorem dX12_readTest_66 : decode cX12_readTest 66 = .ok (.if_icmp .ne 10, 3) := by decide +kernel
theorem dX12_readTest_69 : decode cX12_readTest 69 = .ok (.aload_n 0, 1) := by decide +kernel
theorem dX12_readTest_70 : decode cX12_readTest 70 = .ok (.getfield 133, 3) := by decide +kernel
theorem dX12_readTest_73 : decode cX12_readTest 73 = .ok (.goto 4, 3) := by decide +kernel
theorem dX12_readTest_76 : decode cX12_readTest 76 = .ok (.iconst 0, 1) := by decide +kernel
theorem dX12_readTest_77 : decode cX12_readTest 77 = .ok (.iastore, 1) := by decide +kernel
theorem dX12_readTest_78 : decode cX12_readTest 78 = .ok (.aload_n 0, 1) := by decide +kernel
theorem dX12_readTest_79 : decode cX12_readTest 79 = .ok (.aload_n 0, 1) := by decide +kernel
theorem dX12_readTest_80 : decode cX12_readTest 80 = .ok (.bipush 60, 2) := by decide +kernel
theorem dX12_readTest_82 : decode cX12_readTest 82 = .ok (.invokevirtual 289, 3) := by decide +kernel
theorem dX12_readTest_85 : decode cX12_readTest 85 = .ok (.ifCond .ne 21, 3) := by decide +kernel
theorem dX12_readTest_88 : decode cX12_readTest 88 = .ok (.aload_n 0, 1) := by decide +kernel
theorem dX12_readTest_89 : decode cX12_readTest 89 = .ok (.bipush 62, 2) := by decide +kernel
theorem dX12_readTest_91 : decode cX12_readTest 91 = .ok (.invokevirtual 289, 3) := by decide +kernel
theorem dX12_readTest_94 : decode cX12_readTest 94 = .ok (.ifCond .ne 12, 3) := by decide +kernel
theorem dX12_readTest_97 : decode cX12_readTest 97 = .ok (.aload_n 0, 1) := by decide +kernel
theorem dX12_readTest_98 : decode cX12_readTest 98 = .ok (.bipush 61, 2) := by decide +kernel
theorem dX12_readTest_100 : decode cX12_readTest 100 = .ok (.invokevirtual 289, 3) := by decide +kernel
theorem dX12_readTest_103 : decode cX12_readTest 103 = .ok (.ifCond .eq 7, 3) := by decide +kernel
theorem dX12_readTest_106 : decode cX12_readTest 106 = .ok (.iconst 1, 1) := by decide +kernel
theorem dX12_readTest_107 : decode cX12_readTest 107 = .ok (.goto 4, 3) := by decide +kernel
theorem dX12_readTest_110 : decode cX12_readTest 110 = .ok (.iconst 0, 1) := by decide +kernel
theorem dX12_readTest_111 : decode cX12_readTest 111 = .ok (.invokevirtual 245, 3) := by decide +kernel
theorem dX12_readTest_114 : decode cX12_readTest 114 = .ok (.aload_n 0, 1) := by decide +kernel
theorem dX12_readTest_115 : decode cX12_readTest 115 = .ok (.getfield 35, 3) := by decide +kernel
theorem dX12_readTest_118 : decode cX12_readTest 118 = .ok (.iload_n 1, 1) := by decide +kernel
theorem dX12_readTest_119 : decode cX12_readTest 119 = .ok (.iconst 2, 1) := by decide +kernel
theorem dX12_readTest_120 : decode cX12_readTest 120 = .ok (.iadd, 1) := by decide +kernel
theorem dX12_readTest_121 : decode cX12_readTest 121 = .ok (.aload_n 0, 1) := by decide +kernel
theorem dX12_readTest_122 : decode cX12_readTest 122 = .ok (.iconst 0, 1) := by decide +kernel
theorem dX12_readTest_123 : decode cX12_readTest 123 = .ok (.iload_n 2, 1) := by decide +kernel
theorem dX12_readTest_124 : decode cX12_readTest 124 = .ok (.ifCond .ne 9, 3) := by decide +kernel
theorem dX12_readTest_127 : decode cX12_readTest 127 = .ok (.sipush 999, 3) := by decide +kernel
theorem dX12_readTest_130 : decode cX12_readTest 130 = .ok (.goto 15, 3) := by decide +kernel
theorem dX12_readTest_133 : decode cX12_readTest 133 = .ok (.iload_n 2, 1) := by decide +kernel
theorem dX12_readTest_134 : decode cX12_readTest 134 = .ok (.iconst 1, 1) := by decide +kernel
theorem dX12_readTest_135 : decode cX12_readTest 135 = .ok (.if_icmp .ne 8, 3) := by decide +kernel
theorem dX12_readTest_138 : decode cX12_readTest 138 = .ok (.bipush 60, 2) := by decide +kernel
theorem dX12_readTest_140 : decode cX12_readTest 140 = .ok (.goto 5, 3) := by decide +kernel
theorem dX12_readTest_143 : decode cX12_readTest 143 = .ok (.bipush 20, 2) := by decide +kernel
theorem dX12_readTest_145 : decode cX12_readTest 145 = .ok (.invokevirtual 242, 3) := by decide +kernel
theorem dX12_readTest_148 : decode cX12_readTest 148 = .ok (.iastore, 1) := by decide +kernel
theorem dX12_readTest_149 : decode cX12_readTest 149 = .ok (.return_, 1) := by decide +kernel
theorem dX12_readRest_0 : decode cX12_readRest 0 = .ok (.aload_n 0, 1) := by decide +kernel
theorem dX12_readRest_1 : decode cX12_readRest 1 = .ok (.getfield 35, 3) := by decide +kernel
theorem dX12_readRest_4 : decode cX12_readRest 4 = .ok (.iload_n 1, 1) := by decide +kernel
theorem dX12_readRest_5 : decode cX12_readRest 5 = .ok (.iaload, 1) := by decide +kernel
theorem dX12_readRest_6 : decode cX12_readRest 6 = .ok (.istore_n 2, 1) := by decide +kernel
theorem dX12_readRest_7 : decode cX12_readRest 7 = .ok (.iload_n 2, 1) := by decide +kernel
theorem dX12_readRest_8 : decode cX12_readRest 8 = .ok (.ifCond .ne 19, 3) := by decide +kernel
theorem dX12_readRest_11 : decode cX12_readRest 11 = .ok (.aload_n 0, 1) := by decide +kernel
theorem dX12_readRest_12 : decode cX12_readRest 12 = .ok (.getfield 35, 3) := by decide +kernel
theorem dX12_readRest_15 : decode cX12_readRest 15 = .ok (.iload_n 1, 1) := by decide +kernel
theorem dX12_readRest_16 : decode cX12_readRest 16 = .ok (.iconst 1, 1) := by decide +kernel
theorem dX12_readRest_17 : decode cX12_readRest 17 = .ok (.iadd, 1) := by decide +kernel
theorem dX12_readRest_18 : decode cX12_readRest 18 = .ok (.aload_n 0, 1) := by decide +kernel
theorem dX12_readRest_19 : decode cX12_readRest 19 = .ok (.iconst 1, 1) := by decide +kernel
theorem dX12_readRest_20 : decode cX12_readRest 20 = .ok (.invokevirtual 298, 3) := by decide +kernel
theorem dX12_readRest_23 : decode cX12_readRest 23 = .ok (.iastore, 1) := by decide +kernel
theorem dX12_readRest_24 : decode cX12_readRest 24 = .ok (.goto 117, 3) := by decide +kernel
theorem dX12_readRest_27 : decode cX12_readRest 27 = .ok (.iload_n 2, 1) := by decide +kernel
theorem dX12_readRest_28 : decode cX12_readRest 28 = .ok (.iconst 1, 1) := by decide +kernel
theorem dX12_readRest_29 : decode cX12_readRest 29 = .ok (.if_icmp .ne 11, 3) := by decide +kernel
theorem dX12_readRest_32 : decode cX12_readRest 32 = .ok (.aload_n 0, 1) := by decide +kernel
theorem dX12_readRest_33 : decode cX12_readRest 33 = .ok (.iload_n 1, 1) := by decide +kernel
theorem dX12_readRest_34 : decode cX12_readRest 34 = .ok (.invokevirtual 302, 3) := by decide +kernel
theorem dX12_readRest_37 : decode cX12_readRest 37 = .ok (.goto 104, 3) := by decide +kernel
theorem dX12_readRest_40 : decode cX12_readRest 40 = .ok (.iload_n 2, 1) := by decide +kernel
theorem dX12_readRest_41 : decode cX12_readRest 41 = .ok (.iconst 2, 1) := by decide +kernel
theorem dX12_readRest_42 : decode cX12_readRest 42 = .ok (.if_icmp .ne 21, 3) := by decide +kernel
theorem dX12_readRest_45 : decode cX12_readRest 45 = .ok (.aload_n 0, 1) := by decide +kernel
theorem dX12_readRest_46 : decode cX12_readRest 46 = .ok (.getfield 35, 3) := by decide +kernel
theorem dX12_readRest_49 : decode cX12_readRest 49 = .ok (.iload_n 1, 1) := by decide +kernel
theorem dX12_readRest_50 : decode cX12_readRest 50 = .ok (.iconst 1, 1) := by decide +kernel
theorem dX12_readRest_51 : decode cX12_readRest 51 = .ok (.iadd, 1) := by decide +kernel
theorem dX12_readRest_52 : decode cX12_readRest 52 = .ok (.aload_n 0, 1) := by decide +kernel
theorem dX12_readRest_53 : decode cX12_readRest 53 = .ok (.iconst 1, 1) := by decide +kernel
theorem dX12_readRest_54 : decode cX12_readRest 54 = .ok (.bipush 40, 2) := by decide +kernel
theorem dX12_readRest_56 : decode cX12_readRest 56 = .ok (.invokevirtual 242, 3) := by decide +kernel
theorem dX12_readRest_59 : decode cX12_readRest 59 = .ok (.iastore, 1) := by decide +kernel
theorem dX12_readRest_60 : decode cX12_readRest 60 = .ok (.goto 81, 3) := by decide +kernel
theorem dX12_readRest_63 : decode cX12_readRest 63 = .ok (.iload_n 2, 1) := by decide +kernel
theorem dX12_readRest_64 : decode cX12_readRest 64 = .ok (.iconst 3, 1) := by decide +kernel
theorem dX12_readRest_65 : decode cX12_readRest 65 = .ok (.if_icmp .ne 20, 3) := by decide +kernel
theorem dX12_readRest_68 : decode cX12_readRest 68 = .ok (.aload_n 0, 1) := by decide +kernel
theorem dX12_readRest_69 : decode cX12_readRest 69 = .ok (.getfield 35, 3) := by decide +kernel
theorem dX12_readRest_72 : decode cX12_readRest 72 = .ok (.iload_n 1, 1) := by decide +kernel
theorem dX12_readRest_73 : decode cX12_readRest 73 = .ok (.iconst 1, 1) := by decide +kernel
theorem dX12_readRest_74 : decode cX12_readRest 74 = .ok (.iadd, 1) := by decide +kernel
theorem dX12_readRest_75 : decode cX12_readRest 75 = .ok (.aload_n 0, 1) := by decide +kernel
theorem dX12_readRest_76 : decode cX12_readRest 76 = .ok (.iconst 0, 1) := by decide +kernel
theorem dX12_readRest_77 : decode cX12_readRest 77 = .ok (.iconst 3, 1) := by decide +kernel
theorem dX12_readRest_78 : decode cX12_readRest 78 = .ok (.invokevirtual 242, 3) := by decide +kernel
theorem dX12_readRest_81 : decode cX12_readRest 81 = .ok (.iastore, 1) := by decide +kernel
theorem dX12_readRest_82 : decode cX12_readRest 82 = .ok (.goto 59, 3) := by decide +kernel
theorem dX12_readRest_85 : decode cX12_readRest 85 = .ok (.iload_n 2, 1) := by decide +kernel
theorem dX12_readRest_86 : decode cX12_readRest 86 = .ok (.iconst 4, 1) := by decide +kernel
theorem dX12_readRest_87 : decode cX12_readRest 87 = .ok (.if_icmp .ne 19, 3) := by decide +kernel
theorem dX12_readRest_90 : decode cX12_readRest 90 = .ok (.aload_n 0, 1) := by decide +kernel
theorem dX12_readRest_91 : decode cX12_readRest 91 = .ok (.getfield 35, 3) := by decide +kernel
theorem dX12_readRest_94 : decode cX12_readRest 94 = .ok (.iload_n 1, 1) := by decide +kernel
theorem dX12_readRest_95 : decode cX12_readRest 95 = .ok (.iconst 1, 1) := by decide +kernel
theorem dX12_readRest_96 : decode cX12_readRest 96 = .ok (.iadd, 1) := by decide +kernel
theorem dX12_readRest_97 : decode cX12_readRest 97 = .ok (.aload_n 0, 1) := by decide +kernel
theorem dX12_readRest_98 : decode cX12_readRest 98 = .ok (.iconst 0, 1) := by decide +kernel
theorem dX12_readRest_99 : decode cX12_readRest 99 = .ok (.invokevirtual 298, 3) := by decide +kernel
theorem dX12_readRest_102 : decode cX12_readRest 102 = .ok (.iastore, 1) := by decide +kernel
theorem dX12_readRest_103 : decode cX12_readRest 103 = .ok (.goto 38, 3) := by decide +kernel
theorem dX12_readRest_106 : decode cX12_readRest 106 = .ok (.iload_n 2, 1) := by decide +kernel
theorem dX12_readRest_107 : decode cX12_readRest 107 = .ok (.bipush 7, 2) := by decide +kernel
theorem dX12_readRest_109 : decode cX12_readRest 109 = .ok (.if_icmp .ne 11, 3) := by decide +kernel
theorem dX12_readRest_112 : decode cX12_readRest 112 = .ok (.aload_n 0, 1) := by decide +kernel
theorem dX12_readRest_113 : decode cX12_readRest 113 = .ok (.iload_n 1, 1) := by decide +kernel
theorem dX12_readRest_114 : decode cX12_readRest 114 = .ok (.invokevirtual 305, 3) := by decide +kernel
theorem dX12_readRest_117 : decode cX12_readRest 117 = .ok (.goto 24, 3) := by decide +kernel
theorem dX12_readRest_120 : decode cX12_readRest 120 = .ok (.iload_n 2, 1) := by decide +kernel
theorem dX12_readRest_121 : decode cX12_readRest 121 = .ok (.bipush 8, 2) := by decide +kernel
theorem dX12_readRest_123 : decode cX12_readRest 123 = .ok (.if_icmp .ne 18, 3) := by decide +kernel
theorem dX12_readRest_126 : decode cX12_readRest 126 = .ok (.aload_n 0, 1) := by decide +kernel
theorem dX12_readRest_127 : decode cX12_readRest 127 = .ok (.getfield 35, 3) := by decide +kernel
theorem dX12_readRest_130 : decode cX12_readRest 130 = .ok (.iload_n 1, 1) := by decide +kernel
theorem dX12_readRest_131 : decode cX12_readRest 131 = .ok (.iconst 1, 1) := by decide +kernel
theorem dX12_readRest_132 : decode cX12_readRest 132 = .ok (.iadd, 1) := by decide +kernel
theorem dX12_readRest_133 : decode cX12_readRest 133 = .ok (.aload_n 0, 1) := by decide +kernel
theorem dX12_readRest_134 : decode cX12_readRest 134 = .ok (.iconst 1, 1) := by decide +kernel
theorem dX12_readRest_135 : decode cX12_readRest 135 = .ok (.bipush 99, 2) := by decide +kernel
theorem dX12_readRest_137 : decode cX12_readRest 137 = .ok (.invokevirtual 242, 3) := by decide +kernel
theorem dX12_readRest_140 : decode cX12_readRest 140 = .ok (.iastore, 1) := by decide +kernel
theorem dX12_readRest_141 : decode cX12_readRest 141 = .ok (.return_, 1) := by decide +kernel
theorem dX12_readStep_0 : decode cX12_readStep 0 = .ok (.aload_n 0, 1) := by decide +kernel
theorem dX12_readStep_1 : decode cX12_readStep 1 = .ok (.invokevirtual 203, 3) := by decide +kernel
theorem dX12_readStep_4 : decode cX12_readStep 4 = .ok (.istore_n 2, 1) := by decide +kernel
theorem dX12_readStep_5 : decode cX12_readStep 5 = .ok (.iload_n 2, 1) := by decide +kernel
theorem dX12_readStep_6 : decode cX12_readStep 6 = .ok (.bipush 7, 2) := by decide +kernel
theorem dX12_readStep_8 : decode cX12_readStep 8 = .ok (.if_icmp .eq 9, 3) := by decide +kernel
theorem dX12_readStep_11 : decode cX12_readStep 11 = .ok (.iload_n 2, 1) := by decide +kernel
theorem dX12_readStep_12 : decode cX12_readStep 12 = .ok (.bipush 8, 2) := by decide +kernel
theorem dX12_readStep_14 : decode cX12_readStep 14 = .ok (.if_icmp .ne 7, 3) := by decide +kernel
theorem dX12_readStep_17 : decode cX12_readStep 17 = .ok (.iconst 1, 1) := by decide +kernel
theorem dX12_readStep_18 : decode cX12_readStep 18 = .ok (.goto 4, 3) := by decide +kernel
theorem dX12_readStep_21 : decode cX12_readStep 21 = .ok (.iconst 0, 1) := by decide +kernel
theorem dX12_readStep_22 : decode cX12_readStep 22 = .ok (.istore_n 3, 1) := by decide +kernel
theorem dX12_readStep_23 : decode cX12_readStep 23 = .ok (.iload_n 2, 1) := by decide +kernel
theorem dX12_readStep_24 : decode cX12_readStep 24 = .ok (.ifCond .ge 7, 3) := by decide +kernel
theorem dX12_readStep_27 : decode cX12_readStep 27 = .ok (.aload_n 0, 1) := by decide +kernel
theorem dX12_readStep_28 : decode cX12_readStep 28 = .ok (.invokevirtual 229, 3) := by decide +kernel
theorem dX12_readStep_31 : decode cX12_readStep 31 = .ok (.aload_n 0, 1) := by decide +kernel
theorem dX12_readStep_32 : decode cX12_readStep 32 = .ok (.getfield 216, 3) := by decide +kernel
theorem dX12_readStep_35 : decode cX12_readStep 35 = .ok (.ifCond .ne 22, 3) := by decide +kernel
theorem dX12_readStep_38 : decode cX12_readStep 38 = .ok (.aload_n 0, 1) := by decide +kernel
theorem dX12_readStep_39 : decode cX12_readStep 39 = .ok (.getfield 308, 3) := by decide +kernel
theorem dX12_readStep_42 : decode cX12_readStep 42 = .ok (.bipush 30, 2) := by decide +kernel
theorem dX12_readStep_44 : decode cX12_readStep 44 = .ok (.if_icmp .ne 13, 3) := by decide +kernel
theorem dX12_readStep_47 : decode cX12_readStep 47 = .ok (.aload_n 0, 1) := by decide +kernel
theorem dX12_readStep_48 : decode cX12_readStep 48 = .ok (.bipush 6, 2) := by decide +kernel
theorem dX12_readStep_50 : decode cX12_readStep 50 = .ok (.aload_n 0, 1) := by decide +kernel
theorem dX12_readStep_51 : decode cX12_readStep 51 = .ok (.getfield 108, 3) := by decide +kernel
theorem dX12_readStep_54 : decode cX12_readStep 54 = .ok (.invokevirtual 222, 3) := by decide +kernel
theorem dX12_readStep_57 : decode cX12_readStep 57 = .ok (.aload_n 0, 1) := by decide +kernel
theorem dX12_readStep_58 : decode cX12_readStep 58 = .ok (.getfield 216, 3) := by decide +kernel
theorem dX12_readStep_61 : decode cX12_readStep 61 = .ok (.ifCond .ne 22, 3) := by decide +kernel
theorem dX12_readStep_64 : decode cX12_readStep 64 = .ok (.iload_n 3, 1) := by decide +kernel
theorem dX12_readStep_65 : decode cX12_readStep 65 = .ok (.ifCond .eq 18, 3) := by decide +kernel
theorem dX12_readStep_68 : decode cX12_readStep 68 = .ok (.iload_n 1, 1) := by decide +kernel
theorem dX12_readStep_69 : decode cX12_readStep 69 = .ok (.iconst 3, 1) := by decide +kernel
theorem dX12_readStep_70 : decode cX12_readStep 70 = .ok (.if_icmp .ne 13, 3) := by decide +kernel
theorem dX12_readStep_73 : decode cX12_readStep 73 = .ok (.aload_n 0, 1) := by decide +kernel
theorem dX12_readStep_74 : decode cX12_readStep 74 = .ok (.bipush 7, 2) := by decide +kernel
theorem dX12_readStep_76 : decode cX12_readStep 76 = .ok (.aload_n 0, 1) := by decide +kernel
theorem dX12_readStep_77 : decode cX12_readStep 77 = .ok (.getfield 108, 3) := by decide +kernel
theorem dX12_readStep_80 : decode cX12_readStep 80 = .ok (.invokevirtual 222, 3) := by decide +kernel
theorem dX12_readStep_83 : decode cX12_readStep 83 = .ok (.aload_n 0, 1) := by decide +kernel
theorem dX12_readStep_84 : decode cX12_readStep 84 = .ok (.getfield 216, 3) := by decide +kernel
theorem dX12_readStep_87 : decode cX12_readStep 87 = .ok (.ifCond .le 4, 3) := by decide +kernel
theorem dX12_readStep_90 : decode cX12_readStep 90 = .ok (.return_, 1) := by decide +kernel
theorem dX12_readStep_91 : decode cX12_readStep 91 = .ok (.sipush 2725, 3) := by decide +kernel
theorem dX12_readStep_94 : decode cX12_readStep 94 = .ok (.bipush 9, 2) := by decide +kernel
theorem dX12_readStep_96 : decode cX12_readStep 96 = .ok (.aload_n 0, 1) := by decide +kernel
theorem dX12_readStep_97 : decode cX12_readStep 97 = .ok (.getfield 308, 3) := by decide +kernel
theorem dX12_readStep_100 : decode cX12_readStep 100 = .ok (.imul, 1) := by decide +kernel
theorem dX12_readStep_101 : decode cX12_readStep 101 = .ok (.iadd, 1) := by decide +kernel
theorem dX12_readStep_102 : decode cX12_readStep 102 = .ok (.istore 4, 2) := by decide +kernel
theorem dX12_readStep_104 : decode cX12_readStep 104 = .ok (.aload_n 0, 1) := by decide +kernel
theorem dX12_readStep_105 : decode cX12_readStep 105 = .ok (.dup, 1) := by decide +kernel
theorem dX12_readStep_106 : decode cX12_readStep 106 = .ok (.getfield 308, 3) := by decide +kernel
theorem dX12_readStep_109 : decode cX12_readStep 109 = .ok (.iconst 1, 1) := by decide +kernel
theorem dX12_readStep_110 : decode cX12_readStep 110 = .ok (.iadd, 1) := by decide +kernel
theorem dX12_readStep_111 : decode cX12_readStep 111 = .ok (.putfield 308, 3) := by decide +kernel
theorem dX12_readStep_114 : decode cX12_readStep 114 = .ok (.aload_n 0, 1) := by decide +kernel
theorem dX12_readStep_115 : decode cX12_readStep 115 = .ok (.invokevirtual 226, 3) := by decide +kernel
theorem dX12_readStep_118 : decode cX12_readStep 118 = .ok (.aload_n 0, 1) := by decide +kernel
theorem dX12_readStep_119 : decode cX12_readStep 119 = .ok (.getfield 35, 3) := by decide +kernel
theorem dX12_readStep_122 : decode cX12_readStep 122 = .ok (.iload 4, 2) := by decide +kernel
theorem dX12_readStep_124 : decode cX12_readStep 124 = .ok (.iload_n 2, 1) := by decide +kernel
theorem dX12_readStep_125 : decode cX12_readStep 125 = .ok (.iastore, 1) := by decide +kernel
theorem dX12_readStep_126 : decode cX12_readStep 126 = .ok (.aload_n 0, 1) := by decide +kernel
theorem dX12_readStep_127 : decode cX12_readStep 127 = .ok (.iload 4, 2) := by decide +kernel
theorem dX12_readStep_129 : decode cX12_readStep 129 = .ok (.invokevirtual 311, 3) := by decide +kernel
theorem dX12_readStep_132 : decode cX12_readStep 132 = .ok (.aload_n 0, 1) := by decide +kernel
theorem dX12_readStep_133 : decode cX12_readStep 133 = .ok (.aload_n 0, 1) := by decide +kernel
theorem dX12_readStep_134 : decode cX12_readStep 134 = .ok (.bipush 59, 2) := by decide +kernel
theorem dX12_readStep_136 : decode cX12_readStep 136 = .ok (.invokevirtual 289, 3) := by decide +kernel
theorem dX12_readStep_139 : decode cX12_readStep 139 = .ok (.invokevirtual 245, 3) := by decide +kernel
theorem dX12_readStep_142 : decode cX12_readStep 142 = .ok (.iload_n 3, 1) := by decide +kernel
theorem dX12_readStep_143 : decode cX12_readStep 143 = .ok (.ifCond .eq 27, 3) := by decide +kernel
theorem dX12_readStep_146 : decode cX12_readStep 146 = .ok (.aload_n 0, 1) := by decide +kernel
theorem dX12_readStep_147 : decode cX12_readStep 147 = .ok (.getfield 216, 3) := by decide +kernel
theorem dX12_readStep_150 : decode cX12_readStep 150 = .ok (.ifCond .ne 20, 3) := by decide +kernel
theorem dX12_readStep_153 : decode cX12_readStep 153 = .ok (.aload_n 0, 1) := by decide +kernel
theorem dX12_readStep_154 : decode cX12_readStep 154 = .ok (.invokevirtual 210, 3) := by decide +kernel
theorem dX12_readStep_157 : decode cX12_readStep 157 = .ok (.ifCond .ne 13, 3) := by decide +kernel
theorem dX12_readStep_160 : decode cX12_readStep 160 = .ok (.aload_n 0, 1) := by decide +kernel
theorem dX12_readStep_161 : decode cX12_readStep 161 = .ok (.iload_n 1, 1) := by decide +kernel
theorem dX12_readStep_162 : decode cX12_readStep 162 = .ok (.iconst 1, 1) := by decide +kernel
theorem dX12_readStep_163 : decode cX12_readStep 163 = .ok (.iadd, 1) := by decide +kernel
theorem dX12_readStep_164 : decode cX12_readStep 164 = .ok (.invokevirtual 314, 3) := by decide +kernel
theorem dX12_readStep_167 : decode cX12_readStep 167 = .ok (.goto (-25), 3) := by decide +kernel
theorem dX12_readStep_170 : decode cX12_readStep 170 = .ok (.iload_n 3, 1) := by decide +kernel
theorem dX12_readStep_171 : decode cX12_readStep 171 = .ok (.ifCond .eq 21, 3) := by decide +kernel
theorem dX12_readStep_174 : decode cX12_readStep 174 = .ok (.aload_n 0, 1) := by decide +kernel
theorem dX12_readStep_175 : decode cX12_readStep 175 = .ok (.aload_n 0, 1) := by decide +kernel
theorem dX12_readStep_176 : decode cX12_readStep 176 = .ok (.invokevirtual 210, 3) := by decide +kernel
theorem dX12_readStep_179 : decode cX12_readStep 179 = .ok (.invokevirtual 245, 3) := by decide +kernel
theorem dX12_readStep_182 : decode cX12_readStep 182 = .ok (.aload_n 0, 1) := by decide +kernel
theorem dX12_readStep_183 : decode cX12_readStep 183 = .ok (.aload_n 0, 1) := by decide +kernel
theorem dX12_readStep_184 : decode cX12_readStep 184 = .ok (.bipush 59, 2) := by decide +kernel
theorem dX12_readStep_186 : decode cX12_readStep 186 = .ok (.invokevirtual 289, 3) := by decide +kernel
theorem dX12_readStep_189 : decode cX12_readStep 189 = .ok (.invokevirtual 245, 3) := by decide +kernel
theorem dX12_readStep_192 : decode cX12_readStep 192 = .ok (.aload_n 0, 1) := by decide +kernel
theorem dX12_readStep_193 : decode cX12_readStep 193 = .ok (.getfield 35, 3) := by decide +kernel
theorem dX12_readStep_196 : decode cX12_readStep 196 = .ok (.iload 4, 2) := by decide +kernel
theorem dX12_readStep_198 : decode cX12_readStep 198 = .ok (.bipush 8, 2) := by decide +kernel
theorem dX12_readStep_200 : decode cX12_readStep 200 = .ok (.iadd, 1) := by decide +kernel
theorem dX12_readStep_201 : decode cX12_readStep 201 = .ok (.aload_n 0, 1) := by decide +kernel
theorem dX12_readStep_202 : decode cX12_readStep 202 = .ok (.getfield 308, 3) := by decide +kernel
theorem dX12_readStep_205 : decode cX12_readStep 205 = .ok (.iastore, 1) := by decide +kernel
theorem dX12_readStep_206 : decode cX12_readStep 206 = .ok (.return_, 1) := by decide +kernel
theorem dX12_round_0 : decode cX12_round 0 = .ok (.aload_n 0, 1) := by decide +kernel
theorem dX12_round_1 : decode cX12_round 1 = .ok (.iconst 0, 1) := by decide +kernel
theorem dX12_round_2 : decode cX12_round 2 = .ok (.putfield 63, 3) := by decide +kernel
theorem dX12_round_5 : decode cX12_round 5 = .ok (.aload_n 0, 1) := by decide +kernel
theorem dX12_round_6 : decode cX12_round 6 = .ok (.iconst 0, 1) := by decide +kernel
theorem dX12_round_7 : decode cX12_round 7 = .ok (.putfield 66, 3) := by decide +kernel
theorem dX12_round_10 : decode cX12_round 10 = .ok (.aload_n 0, 1) := by decide +kernel
theorem dX12_round_11 : decode cX12_round 11 = .ok (.iload_n 1, 1) := by decide +kernel
theorem dX12_round_12 : decode cX12_round 12 = .ok (.sipush 300, 3) := by decide +kernel
theorem dX12_round_15 : decode cX12_round 15 = .ok (.invokevirtual 267, 3) := by decide +kernel
theorem dX12_round_18 : decode cX12_round 18 = .ok (.ifCond .ne 5, 3) := by decide +kernel
theorem dX12_round_21 : decode cX12_round 21 = .ok (.iconst (-1), 1) := by decide +kernel
theorem dX12_round_22 : decode cX12_round 22 = .ok (.ireturn, 1) := by decide +kernel
theorem dX12_round_23 : decode cX12_round 23 = .ok (.aload_n 0, 1) := by decide +kernel
theorem dX12_round_24 : decode cX12_round 24 = .ok (.iconst 0, 1) := by decide +kernel
theorem dX12_round_25 : decode cX12_round 25 = .ok (.putfield 308, 3) := by decide +kernel
theorem dX12_round_28 : decode cX12_round 28 = .ok (.aload_n 0, 1) := by decide +kernel
theorem dX12_round_29 : decode cX12_round 29 = .ok (.getfield 216, 3) := by decide +kernel
theorem dX12_round_32 : decode cX12_round 32 = .ok (.ifCond .ne 18, 3) := by decide +kernel
theorem dX12_round_35 : decode cX12_round 35 = .ok (.aload_n 0, 1) := by decide +kernel
theorem dX12_round_36 : decode cX12_round 36 = .ok (.getfield 114, 3) := by decide +kernel
theorem dX12_round_39 : decode cX12_round 39 = .ok (.ifCond .eq 11, 3) := by decide +kernel
theorem dX12_round_42 : decode cX12_round 42 = .ok (.aload_n 0, 1) := by decide +kernel
theorem dX12_round_43 : decode cX12_round 43 = .ok (.iconst 0, 1) := by decide +kernel
theorem dX12_round_44 : decode cX12_round 44 = .ok (.invokevirtual 314, 3) := by decide +kernel
theorem dX12_round_47 : decode cX12_round 47 = .ok (.goto (-19), 3) := by decide +kernel
theorem dX12_round_50 : decode cX12_round 50 = .ok (.aload_n 0, 1) := by decide +kernel
theorem dX12_round_51 : decode cX12_round 51 = .ok (.invokevirtual 292, 3) := by decide +kernel
theorem dX12_round_54 : decode cX12_round 54 = .ok (.ifCond .ne 5, 3) := by decide +kernel
theorem dX12_round_57 : decode cX12_round 57 = .ok (.iconst (-1), 1) := by decide +kernel
theorem dX12_round_58 : decode cX12_round 58 = .ok (.ireturn, 1) := by decide +kernel
theorem dX12_round_59 : decode cX12_round 59 = .ok (.aload_n 0, 1) := by decide +kernel
theorem dX12_round_60 : decode cX12_round 60 = .ok (.getfield 35, 3) := by decide +kernel
theorem dX12_round_63 : decode cX12_round 63 = .ok (.sipush 323, 3) := by decide +kernel
theorem dX12_round_66 : decode cX12_round 66 = .ok (.iconst 1, 1) := by decide +kernel
theorem dX12_round_67 : decode cX12_round 67 = .ok (.iastore, 1) := by decide +kernel
theorem dX12_round_68 : decode cX12_round 68 = .ok (.aload_n 0, 1) := by decide +kernel
theorem dX12_round_69 : decode cX12_round 69 = .ok (.getfield 35, 3) := by decide +kernel
theorem dX12_round_72 : decode cX12_round 72 = .ok (.sipush 324, 3) := by decide +kernel
theorem dX12_round_75 : decode cX12_round 75 = .ok (.aload_n 0, 1) := by decide +kernel
theorem dX12_round_76 : decode cX12_round 76 = .ok (.getfield 308, 3) := by decide +kernel
theorem dX12_round_79 : decode cX12_round 79 = .ok (.iastore, 1) := by decide +kernel
theorem dX12_round_80 : decode cX12_round 80 = .ok (.iconst 0, 1) := by decide +kernel
theorem dX12_round_81 : decode cX12_round 81 = .ok (.istore_n 2, 1) := by decide +kernel
theorem dX12_round_82 : decode cX12_round 82 = .ok (.iload_n 2, 1) := by decide +kernel
theorem dX12_round_83 : decode cX12_round 83 = .ok (.bipush 9, 2) := by decide +kernel
theorem dX12_round_85 : decode cX12_round 85 = .ok (.aload_n 0, 1) := by decide +kernel
theorem dX12_round_86 : decode cX12_round 86 = .ok (.getfield 308, 3) := by decide +kernel
theorem dX12_round_89 : decode cX12_round 89 = .ok (.imul, 1) := by decide +kernel
theorem dX12_round_90 : decode cX12_round 90 = .ok (.if_icmp .ge 29, 3) := by decide +kernel
theorem dX12_round_93 : decode cX12_round 93 = .ok (.aload_n 0, 1) := by decide +kernel
theorem dX12_round_94 : decode cX12_round 94 = .ok (.getfield 35, 3) := by decide +kernel
theorem dX12_round_97 : decode cX12_round 97 = .ok (.sipush 325, 3) := by decide +kernel
theorem dX12_round_100 : decode cX12_round 100 = .ok (.iload_n 2, 1) := by decide +kernel
theorem dX12_round_101 : decode cX12_round 101 = .ok (.iadd, 1) := by decide +kernel
theorem dX12_round_102 : decode cX12_round 102 = .ok (.aload_n 0, 1) := by decide +kernel
theorem dX12_round_103 : decode cX12_round 103 = .ok (.getfield 35, 3) := by decide +kernel
theorem dX12_round_106 : decode cX12_round 106 = .ok (.sipush 2725, 3) := by decide +kernel
theorem dX12_round_109 : decode cX12_round 109 = .ok (.iload_n 2, 1) := by decide +kernel
theorem dX12_round_110 : decode cX12_round 110 = .ok (.iadd, 1) := by decide +kernel
theorem dX12_round_111 : decode cX12_round 111 = .ok (.iaload, 1) := by decide +kernel
theorem dX12_round_112 : decode cX12_round 112 = .ok (.iastore, 1) := by decide +kernel
theorem dX12_round_113 : decode cX12_round 113 = .ok (.iinc 2 1, 3) := by decide +kernel
theorem dX12_round_116 : decode cX12_round 116 = .ok (.goto (-34), 3) := by decide +kernel
theorem dX12_round_119 : decode cX12_round 119 = .ok (.aload_n 0, 1) := by decide +kernel
theorem dX12_round_120 : decode cX12_round 120 = .ok (.getfield 308, 3) := by decide +kernel
theorem dX12_round_123 : decode cX12_round 123 = .ok (.ireturn, 1) := by decide +kernel
theorem dX12_refuse_0 : decode cX12_refuse 0 = .ok (.aload_n 0, 1) := by decide +kernel
theorem dX12_refuse_1 : decode cX12_refuse 1 = .ok (.iload_n 1, 1) := by decide +kernel
theorem dX12_refuse_2 : decode cX12_refuse 2 = .ok (.putfield 66, 3) := by decide +kernel
theorem dX12_refuse_5 : decode cX12_refuse 5 = .ok (.iconst (-1), 1) := by decide +kernel
theorem dX12_refuse_6 : decode cX12_refuse 6 = .ok (.ireturn, 1) := by decide +kernel
theorem dX12_many_0 : decode cX12_many 0 = .ok (.aload_n 0, 1) := by decide +kernel
theorem dX12_many_1 : decode cX12_many 1 = .ok (.iconst 0, 1) := by decide +kernel
theorem dX12_many_2 : decode cX12_many 2 = .ok (.putfield 63, 3) := by decide +kernel
theorem dX12_many_5 : decode cX12_many 5 = .ok (.aload_n 0, 1) := by decide +kernel
theorem dX12_many_6 : decode cX12_many 6 = .ok (.iconst 0, 1) := by decide +kernel
theorem dX12_many_7 : decode cX12_many 7 = .ok (.putfield 66, 3) := by decide +kernel
theorem dX12_many_10 : decode cX12_many 10 = .ok (.iload_n 1, 1) := by decide +kernel
theorem dX12_many_11 : decode cX12_many 11 = .ok (.i2l, 1) := by decide +kernel
theorem dX12_many_12 : decode cX12_many 12 = .ok (.lconst 0, 1) := by decide +kernel
theorem dX12_many_13 : decode cX12_many 13 = .ok (.ldc2_w 317, 3) := by decide +kernel
theorem dX12_many_16 : decode cX12_many 16 = .ok (.invokestatic 98, 3) := by decide +kernel
theorem dX12_many_19 : decode cX12_many 19 = .ok (.ifCond .eq 12, 3) := by decide +kernel
theorem dX12_many_22 : decode cX12_many 22 = .ok (.aload_n 0, 1) := by decide +kernel
theorem dX12_many_23 : decode cX12_many 23 = .ok (.getfield 35, 3) := by decide +kernel
theorem dX12_many_26 : decode cX12_many 26 = .ok (.iload_n 1, 1) := by decide +kernel
theorem dX12_many_27 : decode cX12_many 27 = .ok (.iaload, 1) := by decide +kernel
theorem dX12_many_28 : decode cX12_many 28 = .ok (.goto 8, 3) := by decide +kernel
theorem dX12_many_31 : decode cX12_many 31 = .ok (.aload_n 0, 1) := by decide +kernel
theorem dX12_many_32 : decode cX12_many 32 = .ok (.iconst 5, 1) := by decide +kernel
theorem dX12_many_33 : decode cX12_many 33 = .ok (.invokevirtual 319, 3) := by decide +kernel
theorem dX12_many_36 : decode cX12_many 36 = .ok (.ireturn, 1) := by decide +kernel
theorem dX12_ring_0 : decode cX12_ring 0 = .ok (.aload_n 0, 1) := by decide +kernel
theorem dX12_ring_1 : decode cX12_ring 1 = .ok (.iconst 0, 1) := by decide +kernel
theorem dX12_ring_2 : decode cX12_ring 2 = .ok (.putfield 63, 3) := by decide +kernel
theorem dX12_ring_5 : decode cX12_ring 5 = .ok (.aload_n 0, 1) := by decide +kernel
theorem dX12_ring_6 : decode cX12_ring 6 = .ok (.iconst 0, 1) := by decide +kernel
theorem dX12_ring_7 : decode cX12_ring 7 = .ok (.putfield 66, 3) := by decide +kernel
theorem dX12_ring_10 : decode cX12_ring 10 = .ok (.iload_n 1, 1) := by decide +kernel
theorem dX12_ring_11 : decode cX12_ring 11 = .ok (.i2l, 1) := by decide +kernel
theorem dX12_ring_12 : decode cX12_ring 12 = .ok (.lconst 0, 1) := by decide +kernel
theorem dX12_ring_13 : decode cX12_ring 13 = .ok (.aload_n 0, 1) := by decide +kernel
theorem dX12_ring_14 : decode cX12_ring 14 = .ok (.getfield 35, 3) := by decide +kernel
theorem dX12_ring_17 : decode cX12_ring 17 = .ok (.iconst 4, 1) := by decide +kernel
theorem dX12_ring_18 : decode cX12_ring 18 = .ok (.iaload, 1) := by decide +kernel
theorem dX12_ring_19 : decode cX12_ring 19 = .ok (.iconst 1, 1) := by decide +kernel
theorem dX12_ring_20 : decode cX12_ring 20 = .ok (.isub, 1) := by decide +kernel
theorem dX12_ring_21 : decode cX12_ring 21 = .ok (.i2l, 1) := by decide +kernel
theorem dX12_ring_22 : decode cX12_ring 22 = .ok (.invokestatic 98, 3) := by decide +kernel
theorem dX12_ring_25 : decode cX12_ring 25 = .ok (.ifCond .ne 9, 3) := by decide +kernel
theorem dX12_ring_28 : decode cX12_ring 28 = .ok (.aload_n 0, 1) := by decide +kernel
theorem dX12_ring_29 : decode cX12_ring 29 = .ok (.iconst 2, 1) := by decide +kernel
theorem dX12_ring_30 : decode cX12_ring 30 = .ok (.invokevirtual 319, 3) := by decide +kernel
theorem dX12_ring_33 : decode cX12_ring 33 = .ok (.ireturn, 1) := by decide +kernel
theorem dX12_ring_34 : decode cX12_ring 34 = .ok (.iload_n 2, 1) := by decide +kernel
theorem dX12_ring_35 : decode cX12_ring 35 = .ok (.ifCond .ne 15, 3) := by decide +kernel
theorem dX12_ring_38 : decode cX12_ring 38 = .ok (.aload_n 0, 1) := by decide +kernel
theorem dX12_ring_39 : decode cX12_ring 39 = .ok (.getfield 35, 3) := by decide +kernel
theorem dX12_ring_42 : decode cX12_ring 42 = .ok (.bipush 9, 2) := by decide +kernel
theorem dX12_ring_44 : decode cX12_ring 44 = .ok (.iload_n 1, 1) := by decide +kernel
theorem dX12_ring_45 : decode cX12_ring 45 = .ok (.iadd, 1) := by decide +kernel
theorem dX12_ring_46 : decode cX12_ring 46 = .ok (.iaload, 1) := by decide +kernel
theorem dX12_ring_47 : decode cX12_ring 47 = .ok (.goto 25, 3) := by decide +kernel
theorem dX12_ring_50 : decode cX12_ring 50 = .ok (.iload_n 2, 1) := by decide +kernel
theorem dX12_ring_51 : decode cX12_ring 51 = .ok (.iconst 1, 1) := by decide +kernel
theorem dX12_ring_52 : decode cX12_ring 52 = .ok (.if_icmp .ne 15, 3) := by decide +kernel
theorem dX12_ring_55 : decode cX12_ring 55 = .ok (.aload_n 0, 1) := by decide +kernel
theorem dX12_ring_56 : decode cX12_ring 56 = .ok (.getfield 35, 3) := by decide +kernel
theorem dX12_ring_59 : decode cX12_ring 59 = .ok (.bipush 15, 2) := by decide +kernel
theorem dX12_ring_61 : decode cX12_ring 61 = .ok (.iload_n 1, 1) := by decide +kernel
theorem dX12_ring_62 : decode cX12_ring 62 = .ok (.iadd, 1) := by decide +kernel
theorem dX12_ring_63 : decode cX12_ring 63 = .ok (.iaload, 1) := by decide +kernel
theorem dX12_ring_64 : decode cX12_ring 64 = .ok (.goto 8, 3) := by decide +kernel
theorem dX12_ring_67 : decode cX12_ring 67 = .ok (.aload_n 0, 1) := by decide +kernel
theorem dX12_ring_68 : decode cX12_ring 68 = .ok (.iconst 5, 1) := by decide +kernel
theorem dX12_ring_69 : decode cX12_ring 69 = .ok (.invokevirtual 319, 3) := by decide +kernel
theorem dX12_ring_72 : decode cX12_ring 72 = .ok (.ireturn, 1) := by decide +kernel
theorem dX12_isPeaAt_0 : decode cX12_isPeaAt 0 = .ok (.iload_n 1, 1) := by decide +kernel
theorem dX12_isPeaAt_1 : decode cX12_isPeaAt 1 = .ok (.i2l, 1) := by decide +kernel
theorem dX12_isPeaAt_2 : decode cX12_isPeaAt 2 = .ok (.lconst 0, 1) := by decide +kernel
theorem dX12_isPeaAt_3 : decode cX12_isPeaAt 3 = .ok (.aload_n 0, 1) := by decide +kernel
theorem dX12_isPeaAt_4 : decode cX12_isPeaAt 4 = .ok (.getfield 35, 3) := by decide +kernel
theorem dX12_isPeaAt_7 : decode cX12_isPeaAt 7 = .ok (.iconst 5, 1) := by decide +kernel
theorem dX12_isPeaAt_8 : decode cX12_isPeaAt 8 = .ok (.iaload, 1) := by decide +kernel
theorem dX12_isPeaAt_9 : decode cX12_isPeaAt 9 = .ok (.iconst 1, 1) := by decide +kernel
theorem dX12_isPeaAt_10 : decode cX12_isPeaAt 10 = .ok (.isub, 1) := by decide +kernel
theorem dX12_isPeaAt_11 : decode cX12_isPeaAt 11 = .ok (.i2l, 1) := by decide +kernel
theorem dX12_isPeaAt_12 : decode cX12_isPeaAt 12 = .ok (.invokestatic 98, 3) := by decide +kernel
theorem dX12_isPeaAt_15 : decode cX12_isPeaAt 15 = .ok (.ireturn, 1) := by decide +kernel
