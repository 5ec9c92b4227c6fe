theorem dX11_status_0 : decode cX11_status 0 = .ok (.aload_n 0, 1) := by decide +kernel
theorem dX11_status_1 : decode cX11_status 1 = .ok (.getfield 9, 3) := by decide +kernel
theorem dX11_status_4 : decode cX11_status 4 = .ok (.ireturn, 1) := by decide +kernel
theorem dX11_top_0 : decode cX11_top 0 = .ok (.aload_n 0, 1) := by decide +kernel
theorem dX11_top_1 : decode cX11_top 1 = .ok (.getfield 13, 3) := by decide +kernel
theorem dX11_top_4 : decode cX11_top 4 = .ok (.lreturn, 1) := by decide +kernel
theorem dX11_bottom_0 : decode cX11_bottom 0 = .ok (.aload_n 0, 1) := by decide +kernel
theorem dX11_bottom_1 : decode cX11_bottom 1 = .ok (.getfield 17, 3) := by decide +kernel
theorem dX11_bottom_4 : decode cX11_bottom 4 = .ok (.lreturn, 1) := by decide +kernel
theorem dX11_within_0 : decode cX11_within 0 = .ok (.iload_n 0, 1) := by decide +kernel
theorem dX11_within_1 : decode cX11_within 1 = .ok (.iload_n 1, 1) := by decide +kernel
theorem dX11_within_2 : decode cX11_within 2 = .ok (.if_icmp .lt 12, 3) := by decide +kernel
theorem dX11_within_5 : decode cX11_within 5 = .ok (.iload_n 0, 1) := by decide +kernel
theorem dX11_within_6 : decode cX11_within 6 = .ok (.iload_n 2, 1) := by decide +kernel
theorem dX11_within_7 : decode cX11_within 7 = .ok (.if_icmp .gt 7, 3) := by decide +kernel
theorem dX11_within_10 : decode cX11_within 10 = .ok (.iconst 1, 1) := by decide +kernel
theorem dX11_within_11 : decode cX11_within 11 = .ok (.goto 4, 3) := by decide +kernel
theorem dX11_within_14 : decode cX11_within 14 = .ok (.iconst 0, 1) := by decide +kernel
theorem dX11_within_15 : decode cX11_within 15 = .ok (.ireturn, 1) := by decide +kernel
theorem dX11_isTray_0 : decode cX11_isTray 0 = .ok (.iload_n 0, 1) := by decide +kernel
theorem dX11_isTray_1 : decode cX11_isTray 1 = .ok (.iconst 0, 1) := by decide +kernel
theorem dX11_isTray_2 : decode cX11_isTray 2 = .ok (.iconst 3, 1) := by decide +kernel
theorem dX11_isTray_3 : decode cX11_isTray 3 = .ok (.invokestatic 120, 3) := by decide +kernel
theorem dX11_isTray_6 : decode cX11_isTray 6 = .ok (.ireturn, 1) := by decide +kernel
theorem dX11_deny_0 : decode cX11_deny 0 = .ok (.aload_n 0, 1) := by decide +kernel
theorem dX11_deny_1 : decode cX11_deny 1 = .ok (.iload_n 1, 1) := by decide +kernel
theorem dX11_deny_2 : decode cX11_deny 2 = .ok (.putfield 9, 3) := by decide +kernel
theorem dX11_deny_5 : decode cX11_deny 5 = .ok (.iconst 0, 1) := by decide +kernel
theorem dX11_deny_6 : decode cX11_deny 6 = .ok (.ireturn, 1) := by decide +kernel
theorem dX11_agree_0 : decode cX11_agree 0 = .ok (.aload_n 0, 1) := by decide +kernel
theorem dX11_agree_1 : decode cX11_agree 1 = .ok (.iconst 0, 1) := by decide +kernel
theorem dX11_agree_2 : decode cX11_agree 2 = .ok (.putfield 9, 3) := by decide +kernel
theorem dX11_agree_5 : decode cX11_agree 5 = .ok (.iconst 1, 1) := by decide +kernel
theorem dX11_agree_6 : decode cX11_agree 6 = .ok (.ireturn, 1) := by decide +kernel
theorem dX11_tray_0 : decode cX11_tray 0 = .ok (.iload_n 1, 1) := by decide +kernel
theorem dX11_tray_1 : decode cX11_tray 1 = .ok (.invokestatic 116, 3) := by decide +kernel
theorem dX11_tray_4 : decode cX11_tray 4 = .ok (.ifCond .eq 12, 3) := by decide +kernel
theorem dX11_tray_7 : decode cX11_tray 7 = .ok (.iload_n 2, 1) := by decide +kernel
theorem dX11_tray_8 : decode cX11_tray 8 = .ok (.iconst 0, 1) := by decide +kernel
theorem dX11_tray_9 : decode cX11_tray 9 = .ok (.iconst 3, 1) := by decide +kernel
theorem dX11_tray_10 : decode cX11_tray 10 = .ok (.invokestatic 120, 3) := by decide +kernel
theorem dX11_tray_13 : decode cX11_tray 13 = .ok (.ifCond .ne 9, 3) := by decide +kernel
theorem dX11_tray_16 : decode cX11_tray 16 = .ok (.aload_n 0, 1) := by decide +kernel
theorem dX11_tray_17 : decode cX11_tray 17 = .ok (.iconst 1, 1) := by decide +kernel
theorem dX11_tray_18 : decode cX11_tray 18 = .ok (.invokevirtual 124, 3) := by decide +kernel
theorem dX11_tray_21 : decode cX11_tray 21 = .ok (.ireturn, 1) := by decide +kernel
theorem dX11_tray_22 : decode cX11_tray 22 = .ok (.iload_n 3, 1) := by decide +kernel
theorem dX11_tray_23 : decode cX11_tray 23 = .ok (.bipush 60, 2) := by decide +kernel
theorem dX11_tray_25 : decode cX11_tray 25 = .ok (.if_icmp .le 9, 3) := by decide +kernel
theorem dX11_tray_28 : decode cX11_tray 28 = .ok (.aload_n 0, 1) := by decide +kernel
theorem dX11_tray_29 : decode cX11_tray 29 = .ok (.iconst 5, 1) := by decide +kernel
theorem dX11_tray_30 : decode cX11_tray 30 = .ok (.invokevirtual 124, 3) := by decide +kernel
theorem dX11_tray_33 : decode cX11_tray 33 = .ok (.ireturn, 1) := by decide +kernel
theorem dX11_tray_34 : decode cX11_tray 34 = .ok (.iload_n 3, 1) := by decide +kernel
theorem dX11_tray_35 : decode cX11_tray 35 = .ok (.ifCond .ge 10, 3) := by decide +kernel
theorem dX11_tray_38 : decode cX11_tray 38 = .ok (.aload_n 0, 1) := by decide +kernel
theorem dX11_tray_39 : decode cX11_tray 39 = .ok (.bipush 6, 2) := by decide +kernel
theorem dX11_tray_41 : decode cX11_tray 41 = .ok (.invokevirtual 124, 3) := by decide +kernel
theorem dX11_tray_44 : decode cX11_tray 44 = .ok (.ireturn, 1) := by decide +kernel
theorem dX11_tray_45 : decode cX11_tray 45 = .ok (.aload_n 0, 1) := by decide +kernel
theorem dX11_tray_46 : decode cX11_tray 46 = .ok (.getfield 22, 3) := by decide +kernel
theorem dX11_tray_49 : decode cX11_tray 49 = .ok (.iload_n 1, 1) := by decide +kernel
theorem dX11_tray_50 : decode cX11_tray 50 = .ok (.aaload, 1) := by decide +kernel
theorem dX11_tray_51 : decode cX11_tray 51 = .ok (.iload_n 2, 1) := by decide +kernel
theorem dX11_tray_52 : decode cX11_tray 52 = .ok (.iload_n 3, 1) := by decide +kernel
theorem dX11_tray_53 : decode cX11_tray 53 = .ok (.invokevirtual 127, 3) := by decide +kernel
theorem dX11_tray_56 : decode cX11_tray 56 = .ok (.aload_n 0, 1) := by decide +kernel
theorem dX11_tray_57 : decode cX11_tray 57 = .ok (.invokevirtual 131, 3) := by decide +kernel
theorem dX11_tray_60 : decode cX11_tray 60 = .ok (.ireturn, 1) := by decide +kernel
theorem dX11_wrongPlace_0 : decode cX11_wrongPlace 0 = .ok (.iload_n 1, 1) := by decide +kernel
theorem dX11_wrongPlace_1 : decode cX11_wrongPlace 1 = .ok (.invokestatic 116, 3) := by decide +kernel
theorem dX11_wrongPlace_4 : decode cX11_wrongPlace 4 = .ok (.ifCond .ne 5, 3) := by decide +kernel
theorem dX11_wrongPlace_7 : decode cX11_wrongPlace 7 = .ok (.iconst 1, 1) := by decide +kernel
theorem dX11_wrongPlace_8 : decode cX11_wrongPlace 8 = .ok (.ireturn, 1) := by decide +kernel
theorem dX11_wrongPlace_9 : decode cX11_wrongPlace 9 = .ok (.aload_n 0, 1) := by decide +kernel
theorem dX11_wrongPlace_10 : decode cX11_wrongPlace 10 = .ok (.getfield 22, 3) := by decide +kernel
theorem dX11_wrongPlace_13 : decode cX11_wrongPlace 13 = .ok (.iload_n 1, 1) := by decide +kernel
theorem dX11_wrongPlace_14 : decode cX11_wrongPlace 14 = .ok (.aaload, 1) := by decide +kernel
theorem dX11_wrongPlace_15 : decode cX11_wrongPlace 15 = .ok (.getfield 151, 3) := by decide +kernel
theorem dX11_wrongPlace_18 : decode cX11_wrongPlace 18 = .ok (.ifCond .ne 5, 3) := by decide +kernel
theorem dX11_wrongPlace_21 : decode cX11_wrongPlace 21 = .ok (.iconst 3, 1) := by decide +kernel
theorem dX11_wrongPlace_22 : decode cX11_wrongPlace 22 = .ok (.ireturn, 1) := by decide +kernel
theorem dX11_wrongPlace_23 : decode cX11_wrongPlace 23 = .ok (.aload_n 0, 1) := by decide +kernel
theorem dX11_wrongPlace_24 : decode cX11_wrongPlace 24 = .ok (.getfield 22, 3) := by decide +kernel
theorem dX11_wrongPlace_27 : decode cX11_wrongPlace 27 = .ok (.iload_n 1, 1) := by decide +kernel
theorem dX11_wrongPlace_28 : decode cX11_wrongPlace 28 = .ok (.aaload, 1) := by decide +kernel
theorem dX11_wrongPlace_29 : decode cX11_wrongPlace 29 = .ok (.iload_n 2, 1) := by decide +kernel
theorem dX11_wrongPlace_30 : decode cX11_wrongPlace 30 = .ok (.iconst 1, 1) := by decide +kernel
theorem dX11_wrongPlace_31 : decode cX11_wrongPlace 31 = .ok (.invokevirtual 158, 3) := by decide +kernel
theorem dX11_wrongPlace_34 : decode cX11_wrongPlace 34 = .ok (.ifCond .eq 7, 3) := by decide +kernel
theorem dX11_wrongPlace_37 : decode cX11_wrongPlace 37 = .ok (.iconst 0, 1) := by decide +kernel
theorem dX11_wrongPlace_38 : decode cX11_wrongPlace 38 = .ok (.goto 4, 3) := by decide +kernel
theorem dX11_wrongPlace_41 : decode cX11_wrongPlace 41 = .ok (.iconst 4, 1) := by decide +kernel
theorem dX11_wrongPlace_42 : decode cX11_wrongPlace 42 = .ok (.ireturn, 1) := by decide +kernel
theorem dX11_write_0 : decode cX11_write 0 = .ok (.aload_n 0, 1) := by decide +kernel
theorem dX11_write_1 : decode cX11_write 1 = .ok (.iload_n 1, 1) := by decide +kernel
theorem dX11_write_2 : decode cX11_write 2 = .ok (.iload_n 2, 1) := by decide +kernel
theorem dX11_write_3 : decode cX11_write 3 = .ok (.invokevirtual 135, 3) := by decide +kernel
theorem dX11_write_6 : decode cX11_write 6 = .ok (.istore 5, 2) := by decide +kernel
theorem dX11_write_8 : decode cX11_write 8 = .ok (.iload 5, 2) := by decide +kernel
theorem dX11_write_10 : decode cX11_write 10 = .ok (.ifCond .eq 10, 3) := by decide +kernel
theorem dX11_write_13 : decode cX11_write 13 = .ok (.aload_n 0, 1) := by decide +kernel
theorem dX11_write_14 : decode cX11_write 14 = .ok (.iload 5, 2) := by decide +kernel
theorem dX11_write_16 : decode cX11_write 16 = .ok (.invokevirtual 124, 3) := by decide +kernel
theorem dX11_write_19 : decode cX11_write 19 = .ok (.ireturn, 1) := by decide +kernel
theorem dX11_write_20 : decode cX11_write 20 = .ok (.aload_n 0, 1) := by decide +kernel
theorem dX11_write_21 : decode cX11_write 21 = .ok (.getfield 22, 3) := by decide +kernel
theorem dX11_write_24 : decode cX11_write 24 = .ok (.iload_n 1, 1) := by decide +kernel
theorem dX11_write_25 : decode cX11_write 25 = .ok (.aaload, 1) := by decide +kernel
theorem dX11_write_26 : decode cX11_write 26 = .ok (.iload_n 2, 1) := by decide +kernel
theorem dX11_write_27 : decode cX11_write 27 = .ok (.lload_n 3, 1) := by decide +kernel
theorem dX11_write_28 : decode cX11_write 28 = .ok (.invokevirtual 139, 3) := by decide +kernel
theorem dX11_write_31 : decode cX11_write 31 = .ok (.aload_n 0, 1) := by decide +kernel
theorem dX11_write_32 : decode cX11_write 32 = .ok (.invokevirtual 131, 3) := by decide +kernel
theorem dX11_write_35 : decode cX11_write 35 = .ok (.ireturn, 1) := by decide +kernel
theorem dX11_refuse_0 : decode cX11_refuse 0 = .ok (.aload_n 0, 1) := by decide +kernel
theorem dX11_refuse_1 : decode cX11_refuse 1 = .ok (.iload_n 1, 1) := by decide +kernel
theorem dX11_refuse_2 : decode cX11_refuse 2 = .ok (.putfield 9, 3) := by decide +kernel
theorem dX11_refuse_5 : decode cX11_refuse 5 = .ok (.iconst (-1), 1) := by decide +kernel
theorem dX11_refuse_6 : decode cX11_refuse 6 = .ok (.ireturn, 1) := by decide +kernel
theorem dX11_read_0 : decode cX11_read 0 = .ok (.aload_n 0, 1) := by decide +kernel
theorem dX11_read_1 : decode cX11_read 1 = .ok (.iload_n 1, 1) := by decide +kernel
theorem dX11_read_2 : decode cX11_read 2 = .ok (.iload_n 2, 1) := by decide +kernel
theorem dX11_read_3 : decode cX11_read 3 = .ok (.invokevirtual 135, 3) := by decide +kernel
theorem dX11_read_6 : decode cX11_read 6 = .ok (.istore_n 3, 1) := by decide +kernel
theorem dX11_read_7 : decode cX11_read 7 = .ok (.iload_n 3, 1) := by decide +kernel
theorem dX11_read_8 : decode cX11_read 8 = .ok (.ifCond .eq 10, 3) := by decide +kernel
theorem dX11_read_11 : decode cX11_read 11 = .ok (.aload_n 0, 1) := by decide +kernel
theorem dX11_read_12 : decode cX11_read 12 = .ok (.iload_n 3, 1) := by decide +kernel
theorem dX11_read_13 : decode cX11_read 13 = .ok (.invokevirtual 143, 3) := by decide +kernel
theorem dX11_read_16 : decode cX11_read 16 = .ok (.i2l, 1) := by decide +kernel
theorem dX11_read_17 : decode cX11_read 17 = .ok (.lreturn, 1) := by decide +kernel
theorem dX11_read_18 : decode cX11_read 18 = .ok (.aload_n 0, 1) := by decide +kernel
theorem dX11_read_19 : decode cX11_read 19 = .ok (.iconst 0, 1) := by decide +kernel
theorem dX11_read_20 : decode cX11_read 20 = .ok (.putfield 9, 3) := by decide +kernel
theorem dX11_read_23 : decode cX11_read 23 = .ok (.aload_n 0, 1) := by decide +kernel
theorem dX11_read_24 : decode cX11_read 24 = .ok (.getfield 22, 3) := by decide +kernel
theorem dX11_read_27 : decode cX11_read 27 = .ok (.iload_n 1, 1) := by decide +kernel
theorem dX11_read_28 : decode cX11_read 28 = .ok (.aaload, 1) := by decide +kernel
theorem dX11_read_29 : decode cX11_read 29 = .ok (.getfield 147, 3) := by decide +kernel
theorem dX11_read_32 : decode cX11_read 32 = .ok (.iload_n 2, 1) := by decide +kernel
theorem dX11_read_33 : decode cX11_read 33 = .ok (.laload, 1) := by decide +kernel
theorem dX11_read_34 : decode cX11_read 34 = .ok (.lreturn, 1) := by decide +kernel
theorem dX11_pour_0 : decode cX11_pour 0 = .ok (.iload_n 1, 1) := by decide +kernel
theorem dX11_pour_1 : decode cX11_pour 1 = .ok (.invokestatic 116, 3) := by decide +kernel
theorem dX11_pour_4 : decode cX11_pour 4 = .ok (.ifCond .eq 10, 3) := by decide +kernel
theorem dX11_pour_7 : decode cX11_pour 7 = .ok (.iload_n 3, 1) := by decide +kernel
theorem dX11_pour_8 : decode cX11_pour 8 = .ok (.invokestatic 116, 3) := by decide +kernel
theorem dX11_pour_11 : decode cX11_pour 11 = .ok (.ifCond .ne 9, 3) := by decide +kernel
theorem dX11_pour_14 : decode cX11_pour 14 = .ok (.aload_n 0, 1) := by decide +kernel
theorem dX11_pour_15 : decode cX11_pour 15 = .ok (.iconst 1, 1) := by decide +kernel
theorem dX11_pour_16 : decode cX11_pour 16 = .ok (.invokevirtual 124, 3) := by decide +kernel
theorem dX11_pour_19 : decode cX11_pour 19 = .ok (.ireturn, 1) := by decide +kernel
theorem dX11_pour_20 : decode cX11_pour 20 = .ok (.aload_n 0, 1) := by decide +kernel
theorem dX11_pour_21 : decode cX11_pour 21 = .ok (.getfield 22, 3) := by decide +kernel
theorem dX11_pour_24 : decode cX11_pour 24 = .ok (.iload_n 1, 1) := by decide +kernel
theorem dX11_pour_25 : decode cX11_pour 25 = .ok (.aaload, 1) := by decide +kernel
theorem dX11_pour_26 : decode cX11_pour 26 = .ok (.astore 6, 2) := by decide +kernel
theorem dX11_pour_28 : decode cX11_pour 28 = .ok (.aload_n 0, 1) := by decide +kernel
theorem dX11_pour_29 : decode cX11_pour 29 = .ok (.getfield 22, 3) := by decide +kernel
theorem dX11_pour_32 : decode cX11_pour 32 = .ok (.iload_n 3, 1) := by decide +kernel
theorem dX11_pour_33 : decode cX11_pour 33 = .ok (.aaload, 1) := by decide +kernel
theorem dX11_pour_34 : decode cX11_pour 34 = .ok (.astore 7, 2) := by decide +kernel
theorem dX11_pour_36 : decode cX11_pour 36 = .ok (.aload 6, 2) := by decide +kernel
theorem dX11_pour_38 : decode cX11_pour 38 = .ok (.getfield 151, 3) := by decide +kernel
theorem dX11_pour_41 : decode cX11_pour 41 = .ok (.ifCond .eq 11, 3) := by decide +kernel
theorem dX11_pour_44 : decode cX11_pour 44 = .ok (.aload 7, 2) := by decide +kernel
theorem dX11_pour_46 : decode cX11_pour 46 = .ok (.getfield 151, 3) := by decide +kernel
theorem dX11_pour_49 : decode cX11_pour 49 = .ok (.ifCond .ne 9, 3) := by decide +kernel
theorem dX11_pour_52 : decode cX11_pour 52 = .ok (.aload_n 0, 1) := by decide +kernel
theorem dX11_pour_53 : decode cX11_pour 53 = .ok (.iconst 3, 1) := by decide +kernel
theorem dX11_pour_54 : decode cX11_pour 54 = .ok (.invokevirtual 124, 3) := by decide +kernel
theorem dX11_pour_57 : decode cX11_pour 57 = .ok (.ireturn, 1) := by decide +kernel
theorem dX11_pour_58 : decode cX11_pour 58 = .ok (.aload 6, 2) := by decide +kernel
theorem dX11_pour_60 : decode cX11_pour 60 = .ok (.getfield 155, 3) := by decide +kernel
theorem dX11_pour_63 : decode cX11_pour 63 = .ok (.aload 7, 2) := by decide +kernel
theorem dX11_pour_65 : decode cX11_pour 65 = .ok (.getfield 155, 3) := by decide +kernel
theorem dX11_pour_68 : decode cX11_pour 68 = .ok (.if_icmp .eq 10, 3) := by decide +kernel
theorem dX11_pour_71 : decode cX11_pour 71 = .ok (.aload_n 0, 1) := by decide +kernel
theorem dX11_pour_72 : decode cX11_pour 72 = .ok (.bipush 11, 2) := by decide +kernel
theorem dX11_pour_74 : decode cX11_pour 74 = .ok (.invokevirtual 124, 3) := by decide +kernel
theorem dX11_pour_77 : decode cX11_pour 77 = .ok (.ireturn, 1) := by decide +kernel
theorem dX11_pour_78 : decode cX11_pour 78 = .ok (.iload 5, 2) := by decide +kernel
theorem dX11_pour_80 : decode cX11_pour 80 = .ok (.ifCond .ge 10, 3) := by decide +kernel
theorem dX11_pour_83 : decode cX11_pour 83 = .ok (.aload_n 0, 1) := by decide +kernel
theorem dX11_pour_84 : decode cX11_pour 84 = .ok (.bipush 6, 2) := by decide +kernel
theorem dX11_pour_86 : decode cX11_pour 86 = .ok (.invokevirtual 124, 3) := by decide +kernel
theorem dX11_pour_89 : decode cX11_pour 89 = .ok (.ireturn, 1) := by decide +kernel
theorem dX11_pour_90 : decode cX11_pour 90 = .ok (.aload 6, 2) := by decide +kernel
theorem dX11_pour_92 : decode cX11_pour 92 = .ok (.iload_n 2, 1) := by decide +kernel
theorem dX11_pour_93 : decode cX11_pour 93 = .ok (.iload 5, 2) := by decide +kernel
theorem dX11_pour_95 : decode cX11_pour 95 = .ok (.invokevirtual 158, 3) := by decide +kernel
theorem dX11_pour_98 : decode cX11_pour 98 = .ok (.ifCond .eq 15, 3) := by decide +kernel
theorem dX11_pour_101 : decode cX11_pour 101 = .ok (.aload 7, 2) := by decide +kernel
theorem dX11_pour_103 : decode cX11_pour 103 = .ok (.iload 4, 2) := by decide +kernel
theorem dX11_pour_105 : decode cX11_pour 105 = .ok (.iload 5, 2) := by decide +kernel
theorem dX11_pour_107 : decode cX11_pour 107 = .ok (.invokevirtual 158, 3) := by decide +kernel
theorem dX11_pour_110 : decode cX11_pour 110 = .ok (.ifCond .ne 9, 3) := by decide +kernel
theorem dX11_pour_113 : decode cX11_pour 113 = .ok (.aload_n 0, 1) := by decide +kernel
theorem dX11_pour_114 : decode cX11_pour 114 = .ok (.iconst 4, 1) := by decide +kernel
theorem dX11_pour_115 : decode cX11_pour 115 = .ok (.invokevirtual 124, 3) := by decide +kernel
theorem dX11_pour_118 : decode cX11_pour 118 = .ok (.ireturn, 1) := by decide +kernel
theorem dX11_pour_119 : decode cX11_pour 119 = .ok (.aload 6, 2) := by decide +kernel
theorem dX11_pour_121 : decode cX11_pour 121 = .ok (.getfield 147, 3) := by decide +kernel
theorem dX11_pour_124 : decode cX11_pour 124 = .ok (.iload_n 2, 1) := by decide +kernel
theorem dX11_pour_125 : decode cX11_pour 125 = .ok (.aload 7, 2) := by decide +kernel
theorem dX11_pour_127 : decode cX11_pour 127 = .ok (.getfield 147, 3) := by decide +kernel
theorem dX11_pour_130 : decode cX11_pour 130 = .ok (.iload 4, 2) := by decide +kernel
theorem dX11_pour_132 : decode cX11_pour 132 = .ok (.iload 5, 2) := by decide +kernel
theorem dX11_pour_134 : decode cX11_pour 134 = .ok (.invokestatic 162, 3) := by decide +kernel
theorem dX11_pour_137 : decode cX11_pour 137 = .ok (.aload_n 0, 1) := by decide +kernel
theorem dX11_pour_138 : decode cX11_pour 138 = .ok (.invokevirtual 131, 3) := by decide +kernel
theorem dX11_pour_141 : decode cX11_pour 141 = .ok (.ireturn, 1) := by decide +kernel
theorem dX11_feed_0 : decode cX11_feed 0 = .ok (.aload_n 0, 1) := by decide +kernel
theorem dX11_feed_1 : decode cX11_feed 1 = .ok (.getfield 30, 3) := by decide +kernel
theorem dX11_feed_4 : decode cX11_feed 4 = .ok (.getfield 168, 3) := by decide +kernel
theorem dX11_feed_7 : decode cX11_feed 7 = .ok (.bipush 20, 2) := by decide +kernel
theorem dX11_feed_9 : decode cX11_feed 9 = .ok (.iadd, 1) := by decide +kernel
theorem dX11_feed_10 : decode cX11_feed 10 = .ok (.sipush 900, 3) := by decide +kernel
theorem dX11_feed_13 : decode cX11_feed 13 = .ok (.if_icmp .le 5, 3) := by decide +kernel
theorem dX11_feed_16 : decode cX11_feed 16 = .ok (.iconst (-1), 1) := by decide +kernel
theorem dX11_feed_17 : decode cX11_feed 17 = .ok (.ireturn, 1) := by decide +kernel
theorem dX11_feed_18 : decode cX11_feed 18 = .ok (.aload_n 0, 1) := by decide +kernel
theorem dX11_feed_19 : decode cX11_feed 19 = .ok (.getfield 30, 3) := by decide +kernel
theorem dX11_feed_22 : decode cX11_feed 22 = .ok (.iload_n 1, 1) := by decide +kernel
theorem dX11_feed_23 : decode cX11_feed 23 = .ok (.invokevirtual 171, 3) := by decide +kernel
theorem dX11_feed_26 : decode cX11_feed 26 = .ok (.aload_n 0, 1) := by decide +kernel
theorem dX11_feed_27 : decode cX11_feed 27 = .ok (.getfield 30, 3) := by decide +kernel
theorem dX11_feed_30 : decode cX11_feed 30 = .ok (.iload_n 2, 1) := by decide +kernel
theorem dX11_feed_31 : decode cX11_feed 31 = .ok (.invokevirtual 171, 3) := by decide +kernel
theorem dX11_feed_34 : decode cX11_feed 34 = .ok (.aload_n 0, 1) := by decide +kernel
theorem dX11_feed_35 : decode cX11_feed 35 = .ok (.getfield 30, 3) := by decide +kernel
theorem dX11_feed_38 : decode cX11_feed 38 = .ok (.iload_n 3, 1) := by decide +kernel
theorem dX11_feed_39 : decode cX11_feed 39 = .ok (.invokevirtual 171, 3) := by decide +kernel
theorem dX11_feed_42 : decode cX11_feed 42 = .ok (.aload_n 0, 1) := by decide +kernel
theorem dX11_feed_43 : decode cX11_feed 43 = .ok (.getfield 30, 3) := by decide +kernel
theorem dX11_feed_46 : decode cX11_feed 46 = .ok (.iload 4, 2) := by decide +kernel
theorem dX11_feed_48 : decode cX11_feed 48 = .ok (.invokevirtual 171, 3) := by decide +kernel
theorem dX11_feed_51 : decode cX11_feed 51 = .ok (.aload_n 0, 1) := by decide +kernel
theorem dX11_feed_52 : decode cX11_feed 52 = .ok (.getfield 30, 3) := by decide +kernel
theorem dX11_feed_55 : decode cX11_feed 55 = .ok (.iload 5, 2) := by decide +kernel
theorem dX11_feed_57 : decode cX11_feed 57 = .ok (.invokevirtual 171, 3) := by decide +kernel
theorem dX11_feed_60 : decode cX11_feed 60 = .ok (.aload_n 0, 1) := by decide +kernel
theorem dX11_feed_61 : decode cX11_feed 61 = .ok (.getfield 30, 3) := by decide +kernel
theorem dX11_feed_64 : decode cX11_feed 64 = .ok (.getfield 168, 3) := by decide +kernel
theorem dX11_feed_67 : decode cX11_feed 67 = .ok (.ireturn, 1) := by decide +kernel
theorem dX11_answer_0 : decode cX11_answer 0 = .ok (.aload_n 0, 1) := by decide +kernel
theorem dX11_answer_1 : decode cX11_answer 1 = .ok (.iconst 0, 1) := by decide +kernel
theorem dX11_answer_2 : decode cX11_answer 2 = .ok (.putfield 9, 3) := by decide +kernel
theorem dX11_answer_5 : decode cX11_answer 5 = .ok (.iload_n 1, 1) := by decide +kernel
theorem dX11_answer_6 : decode cX11_answer 6 = .ok (.ireturn, 1) := by decide +kernel
theorem dX11_tent_0 : decode cX11_tent 0 = .ok (.iload_n 1, 1) := by decide +kernel
theorem dX11_tent_1 : decode cX11_tent 1 = .ok (.iconst 0, 1) := by decide +kernel
theorem dX11_tent_2 : decode cX11_tent 2 = .ok (.aload_n 0, 1) := by decide +kernel
theorem dX11_tent_3 : decode cX11_tent 3 = .ok (.getfield 30, 3) := by decide +kernel
theorem dX11_tent_6 : decode cX11_tent 6 = .ok (.getfield 168, 3) := by decide +kernel
theorem dX11_tent_9 : decode cX11_tent 9 = .ok (.invokestatic 120, 3) := by decide +kernel
theorem dX11_tent_12 : decode cX11_tent 12 = .ok (.ifCond .ne 9, 3) := by decide +kernel
theorem dX11_tent_15 : decode cX11_tent 15 = .ok (.aload_n 0, 1) := by decide +kernel
theorem dX11_tent_16 : decode cX11_tent 16 = .ok (.iconst 5, 1) := by decide +kernel
theorem dX11_tent_17 : decode cX11_tent 17 = .ok (.invokevirtual 143, 3) := by decide +kernel
theorem dX11_tent_20 : decode cX11_tent 20 = .ok (.ireturn, 1) := by decide +kernel
theorem dX11_tent_21 : decode cX11_tent 21 = .ok (.aload_n 0, 1) := by decide +kernel
theorem dX11_tent_22 : decode cX11_tent 22 = .ok (.getfield 30, 3) := by decide +kernel
theorem dX11_tent_25 : decode cX11_tent 25 = .ok (.iload_n 1, 1) := by decide +kernel
theorem dX11_tent_26 : decode cX11_tent 26 = .ok (.invokevirtual 175, 3) := by decide +kernel
theorem dX11_tent_29 : decode cX11_tent 29 = .ok (.aload_n 0, 1) := by decide +kernel
theorem dX11_tent_30 : decode cX11_tent 30 = .ok (.getfield 41, 3) := by decide +kernel
theorem dX11_tent_33 : decode cX11_tent 33 = .ok (.aload_n 0, 1) := by decide +kernel
theorem dX11_tent_34 : decode cX11_tent 34 = .ok (.getfield 30, 3) := by decide +kernel
theorem dX11_tent_37 : decode cX11_tent 37 = .ok (.invokevirtual 178, 3) := by decide +kernel
theorem dX11_tent_40 : decode cX11_tent 40 = .ok (.istore_n 2, 1) := by decide +kernel
theorem dX11_tent_41 : decode cX11_tent 41 = .ok (.aload_n 0, 1) := by decide +kernel
theorem dX11_tent_42 : decode cX11_tent 42 = .ok (.getfield 30, 3) := by decide +kernel
theorem dX11_tent_45 : decode cX11_tent 45 = .ok (.iconst 0, 1) := by decide +kernel
theorem dX11_tent_46 : decode cX11_tent 46 = .ok (.putfield 168, 3) := by decide +kernel
theorem dX11_tent_49 : decode cX11_tent 49 = .ok (.iload_n 2, 1) := by decide +kernel
theorem dX11_tent_50 : decode cX11_tent 50 = .ok (.ifCond .ne 10, 3) := by decide +kernel
theorem dX11_tent_53 : decode cX11_tent 53 = .ok (.aload_n 0, 1) := by decide +kernel
theorem dX11_tent_54 : decode cX11_tent 54 = .ok (.bipush 10, 2) := by decide +kernel
theorem dX11_tent_56 : decode cX11_tent 56 = .ok (.invokevirtual 143, 3) := by decide +kernel
theorem dX11_tent_59 : decode cX11_tent 59 = .ok (.ireturn, 1) := by decide +kernel
theorem dX11_tent_60 : decode cX11_tent 60 = .ok (.aload_n 0, 1) := by decide +kernel
theorem dX11_tent_61 : decode cX11_tent 61 = .ok (.getfield 37, 3) := by decide +kernel
theorem dX11_tent_64 : decode cX11_tent 64 = .ok (.astore_n 3, 1) := by decide +kernel
theorem dX11_tent_65 : decode cX11_tent 65 = .ok (.aload_n 0, 1) := by decide +kernel
theorem dX11_tent_66 : decode cX11_tent 66 = .ok (.aload_n 0, 1) := by decide +kernel
theorem dX11_tent_67 : decode cX11_tent 67 = .ok (.getfield 41, 3) := by decide +kernel
theorem dX11_tent_70 : decode cX11_tent 70 = .ok (.putfield 37, 3) := by decide +kernel
theorem dX11_tent_73 : decode cX11_tent 73 = .ok (.aload_n 0, 1) := by decide +kernel
theorem dX11_tent_74 : decode cX11_tent 74 = .ok (.aload_n 3, 1) := by decide +kernel
theorem dX11_tent_75 : decode cX11_tent 75 = .ok (.putfield 41, 3) := by decide +kernel
theorem dX11_tent_78 : decode cX11_tent 78 = .ok (.aload_n 0, 1) := by decide +kernel
theorem dX11_tent_79 : decode cX11_tent 79 = .ok (.getfield 57, 3) := by decide +kernel
theorem dX11_tent_82 : decode cX11_tent 82 = .ok (.invokevirtual 182, 3) := by decide +kernel
theorem dX11_tent_85 : decode cX11_tent 85 = .ok (.aload_n 0, 1) := by decide +kernel
theorem dX11_tent_86 : decode cX11_tent 86 = .ok (.getfield 47, 3) := by decide +kernel
theorem dX11_tent_89 : decode cX11_tent 89 = .ok (.invokevirtual 185, 3) := by decide +kernel
theorem dX11_tent_92 : decode cX11_tent 92 = .ok (.aload_n 0, 1) := by decide +kernel
theorem dX11_tent_93 : decode cX11_tent 93 = .ok (.aload_n 0, 1) := by decide +kernel
theorem dX11_tent_94 : decode cX11_tent 94 = .ok (.getfield 37, 3) := by decide +kernel
theorem dX11_tent_97 : decode cX11_tent 97 = .ok (.getfield 186, 3) := by decide +kernel
theorem dX11_tent_100 : decode cX11_tent 100 = .ok (.invokevirtual 189, 3) := by decide +kernel
theorem dX11_tent_103 : decode cX11_tent 103 = .ok (.ireturn, 1) := by decide +kernel
theorem dX11_round_0 : decode cX11_round 0 = .ok (.iload_n 1, 1) := by decide +kernel
theorem dX11_round_1 : decode cX11_round 1 = .ok (.iconst 0, 1) := by decide +kernel
theorem dX11_round_2 : decode cX11_round 2 = .ok (.aload_n 0, 1) := by decide +kernel
theorem dX11_round_3 : decode cX11_round 3 = .ok (.getfield 30, 3) := by decide +kernel
theorem dX11_round_6 : decode cX11_round 6 = .ok (.getfield 168, 3) := by decide +kernel
theorem dX11_round_9 : decode cX11_round 9 = .ok (.sipush 300, 3) := by decide +kernel
theorem dX11_round_12 : decode cX11_round 12 = .ok (.invokestatic 192, 3) := by decide +kernel
theorem dX11_round_15 : decode cX11_round 15 = .ok (.invokestatic 120, 3) := by decide +kernel
theorem dX11_round_18 : decode cX11_round 18 = .ok (.ifCond .ne 9, 3) := by decide +kernel
theorem dX11_round_21 : decode cX11_round 21 = .ok (.aload_n 0, 1) := by decide +kernel
theorem dX11_round_22 : decode cX11_round 22 = .ok (.iconst 5, 1) := by decide +kernel
theorem dX11_round_23 : decode cX11_round 23 = .ok (.invokevirtual 143, 3) := by decide +kernel
theorem dX11_round_26 : decode cX11_round 26 = .ok (.ireturn, 1) := by decide +kernel
theorem dX11_round_27 : decode cX11_round 27 = .ok (.aload_n 0, 1) := by decide +kernel
theorem dX11_round_28 : decode cX11_round 28 = .ok (.getfield 30, 3) := by decide +kernel
theorem dX11_round_31 : decode cX11_round 31 = .ok (.iload_n 1, 1) := by decide +kernel
theorem dX11_round_32 : decode cX11_round 32 = .ok (.invokevirtual 175, 3) := by decide +kernel
theorem dX11_round_35 : decode cX11_round 35 = .ok (.aload_n 0, 1) := by decide +kernel
theorem dX11_round_36 : decode cX11_round 36 = .ok (.getfield 51, 3) := by decide +kernel
theorem dX11_round_39 : decode cX11_round 39 = .ok (.aload_n 0, 1) := by decide +kernel
theorem dX11_round_40 : decode cX11_round 40 = .ok (.getfield 30, 3) := by decide +kernel
theorem dX11_round_43 : decode cX11_round 43 = .ok (.aload_n 0, 1) := by decide +kernel
theorem dX11_round_44 : decode cX11_round 44 = .ok (.getfield 37, 3) := by decide +kernel
theorem dX11_round_47 : decode cX11_round 47 = .ok (.invokevirtual 197, 3) := by decide +kernel
theorem dX11_round_50 : decode cX11_round 50 = .ok (.istore_n 2, 1) := by decide +kernel
theorem dX11_round_51 : decode cX11_round 51 = .ok (.aload_n 0, 1) := by decide +kernel
theorem dX11_round_52 : decode cX11_round 52 = .ok (.getfield 30, 3) := by decide +kernel
theorem dX11_round_55 : decode cX11_round 55 = .ok (.iconst 0, 1) := by decide +kernel
theorem dX11_round_56 : decode cX11_round 56 = .ok (.putfield 168, 3) := by decide +kernel
theorem dX11_round_59 : decode cX11_round 59 = .ok (.iload_n 2, 1) := by decide +kernel
theorem dX11_round_60 : decode cX11_round 60 = .ok (.ifCond .ne 10, 3) := by decide +kernel
theorem dX11_round_63 : decode cX11_round 63 = .ok (.aload_n 0, 1) := by decide +kernel
theorem dX11_round_64 : decode cX11_round 64 = .ok (.bipush 10, 2) := by decide +kernel
theorem dX11_round_66 : decode cX11_round 66 = .ok (.invokevirtual 143, 3) := by decide +kernel
theorem dX11_round_69 : decode cX11_round 69 = .ok (.ireturn, 1) := by decide +kernel
theorem dX11_round_70 : decode cX11_round 70 = .ok (.aload_n 0, 1) := by decide +kernel
theorem dX11_round_71 : decode cX11_round 71 = .ok (.getfield 47, 3) := by decide +kernel
theorem dX11_round_74 : decode cX11_round 74 = .ok (.astore_n 3, 1) := by decide +kernel
theorem dX11_round_75 : decode cX11_round 75 = .ok (.aload_n 0, 1) := by decide +kernel
theorem dX11_round_76 : decode cX11_round 76 = .ok (.aload_n 0, 1) := by decide +kernel
theorem dX11_round_77 : decode cX11_round 77 = .ok (.getfield 51, 3) := by decide +kernel
theorem dX11_round_80 : decode cX11_round 80 = .ok (.putfield 47, 3) := by decide +kernel
theorem dX11_round_83 : decode cX11_round 83 = .ok (.aload_n 0, 1) := by decide +kernel
theorem dX11_round_84 : decode cX11_round 84 = .ok (.aload_n 3, 1) := by decide +kernel
theorem dX11_round_85 : decode cX11_round 85 = .ok (.putfield 51, 3) := by decide +kernel
theorem dX11_round_88 : decode cX11_round 88 = .ok (.aload_n 0, 1) := by decide +kernel
theorem dX11_round_89 : decode cX11_round 89 = .ok (.getfield 47, 3) := by decide +kernel
theorem dX11_round_92 : decode cX11_round 92 = .ok (.iconst 1, 1) := by decide +kernel
theorem dX11_round_93 : decode cX11_round 93 = .ok (.putfield 200, 3) := by decide +kernel
theorem dX11_round_96 : decode cX11_round 96 = .ok (.aload_n 0, 1) := by decide +kernel
theorem dX11_round_97 : decode cX11_round 97 = .ok (.aload_n 0, 1) := by decide +kernel
theorem dX11_round_98 : decode cX11_round 98 = .ok (.getfield 47, 3) := by decide +kernel
theorem dX11_round_101 : decode cX11_round 101 = .ok (.getfield 201, 3) := by decide +kernel
theorem dX11_round_104 : decode cX11_round 104 = .ok (.invokevirtual 189, 3) := by decide +kernel
theorem dX11_round_107 : decode cX11_round 107 = .ok (.ireturn, 1) := by decide +kernel
theorem dX11_fault_0 : decode cX11_fault 0 = .ok (.iload_n 1, 1) := by decide +kernel
theorem dX11_fault_1 : decode cX11_fault 1 = .ok (.ifCond .ne 11, 3) := by decide +kernel
theorem dX11_fault_4 : decode cX11_fault 4 = .ok (.aload_n 0, 1) := by decide +kernel
theorem dX11_fault_5 : decode cX11_fault 5 = .ok (.getfield 30, 3) := by decide +kernel
theorem dX11_fault_8 : decode cX11_fault 8 = .ok (.getfield 204, 3) := by decide +kernel
theorem dX11_fault_11 : decode cX11_fault 11 = .ok (.ireturn, 1) := by decide +kernel
theorem dX11_fault_12 : decode cX11_fault 12 = .ok (.iload_n 1, 1) := by decide +kernel
theorem dX11_fault_13 : decode cX11_fault 13 = .ok (.iconst 1, 1) := by decide +kernel
theorem dX11_fault_14 : decode cX11_fault 14 = .ok (.if_icmp .ne 13, 3) := by decide +kernel
theorem dX11_fault_17 : decode cX11_fault 17 = .ok (.aload_n 0, 1) := by decide +kernel
theorem dX11_fault_18 : decode cX11_fault 18 = .ok (.getfield 30, 3) := by decide +kernel
theorem dX11_fault_21 : decode cX11_fault 21 = .ok (.getfield 207, 3) := by decide +kernel
theorem dX11_fault_24 : decode cX11_fault 24 = .ok (.goto 4, 3) := by decide +kernel
theorem dX11_fault_27 : decode cX11_fault 27 = .ok (.iconst (-1), 1) := by decide +kernel
theorem dX11_fault_28 : decode cX11_fault 28 = .ok (.ireturn, 1) := by decide +kernel
theorem dX11_many_0 : decode cX11_many 0 = .ok (.iload_n 1, 1) := by decide +kernel
theorem dX11_many_1 : decode cX11_many 1 = .ok (.tableswitch 159 0 8 #[51, 63, 75, 87, 99, 111, 123, 135, 147], 51) := by decide +kernel
theorem dX11_many_52 : decode cX11_many 52 = .ok (.aload_n 0, 1) := by decide +kernel
theorem dX11_many_53 : decode cX11_many 53 = .ok (.aload_n 0, 1) := by decide +kernel
theorem dX11_many_54 : decode cX11_many 54 = .ok (.getfield 37, 3) := by decide +kernel
theorem dX11_many_57 : decode cX11_many 57 = .ok (.getfield 210, 3) := by decide +kernel
theorem dX11_many_60 : decode cX11_many 60 = .ok (.invokevirtual 189, 3) := by decide +kernel
theorem dX11_many_63 : decode cX11_many 63 = .ok (.ireturn, 1) := by decide +kernel
theorem dX11_many_64 : decode cX11_many 64 = .ok (.aload_n 0, 1) := by decide +kernel
theorem dX11_many_65 : decode cX11_many 65 = .ok (.aload_n 0, 1) := by decide +kernel
theorem dX11_many_66 : decode cX11_many 66 = .ok (.getfield 37, 3) := by decide +kernel
theorem dX11_many_69 : decode cX11_many 69 = .ok (.getfield 213, 3) := by decide +kernel
theorem dX11_many_72 : decode cX11_many 72 = .ok (.invokevirtual 189, 3) := by decide +kernel
theorem dX11_many_75 : decode cX11_many 75 = .ok (.ireturn, 1) := by decide +kernel
theorem dX11_many_76 : decode cX11_many 76 = .ok (.aload_n 0, 1) := by decide +kernel
theorem dX11_many_77 : decode cX11_many 77 = .ok (.aload_n 0, 1) := by decide +kernel
theorem dX11_many_78 : decode cX11_many 78 = .ok (.getfield 37, 3) := by decide +kernel
theorem dX11_many_81 : decode cX11_many 81 = .ok (.getfield 216, 3) := by decide +kernel
theorem dX11_many_84 : decode cX11_many 84 = .ok (.invokevirtual 189, 3) := by decide +kernel
theorem dX11_many_87 : decode cX11_many 87 = .ok (.ireturn, 1) := by decide +kernel
theorem dX11_many_88 : decode cX11_many 88 = .ok (.aload_n 0, 1) := by decide +kernel
theorem dX11_many_89 : decode cX11_many 89 = .ok (.aload_n 0, 1) := by decide +kernel
theorem dX11_many_90 : decode cX11_many 90 = .ok (.getfield 37, 3) := by decide +kernel
theorem dX11_many_93 : decode cX11_many 93 = .ok (.getfield 219, 3) := by decide +kernel
theorem dX11_many_96 : decode cX11_many 96 = .ok (.invokevirtual 189, 3) := by decide +kernel
theorem dX11_many_99 : decode cX11_many 99 = .ok (.ireturn, 1) := by decide +kernel
theorem dX11_many_100 : decode cX11_many 100 = .ok (.aload_n 0, 1) := by decide +kernel
theorem dX11_many_101 : decode cX11_many 101 = .ok (.aload_n 0, 1) := by decide +kernel
theorem dX11_many_102 : decode cX11_many 102 = .ok (.getfield 37, 3) := by decide +kernel
theorem dX11_many_105 : decode cX11_many 105 = .ok (.getfield 222, 3) := by decide +kernel
theorem dX11_many_108 : decode cX11_many 108 = .ok (.invokevirtual 189, 3) := by decide +kernel
theorem dX11_many_111 : decode cX11_many 111 = .ok (.ireturn, 1) := by decide +kernel
theorem dX11_many_112 : decode cX11_many 112 = .ok (.aload_n 0, 1) := by decide +kernel
theorem dX11_many_113 : decode cX11_many 113 = .ok (.aload_n 0, 1) := by decide +kernel
theorem dX11_many_114 : decode cX11_many 114 = .ok (.getfield 37, 3) := by decide +kernel
theorem dX11_many_117 : decode cX11_many 117 = .ok (.getfield 186, 3) := by decide +kernel
theorem dX11_many_120 : decode cX11_many 120 = .ok (.invokevirtual 189, 3) := by decide +kernel
theorem dX11_many_123 : decode cX11_many 123 = .ok (.ireturn, 1) := by decide +kernel
theorem dX11_many_124 : decode cX11_many 124 = .ok (.aload_n 0, 1) := by decide +kernel
theorem dX11_many_125 : decode cX11_many 125 = .ok (.aload_n 0, 1) := by decide +kernel
theorem dX11_many_126 : decode cX11_many 126 = .ok (.getfield 37, 3) := by decide +kernel
theorem dX11_many_129 : decode cX11_many 129 = .ok (.getfield 225, 3) := by decide +kernel
theorem dX11_many_132 : decode cX11_many 132 = .ok (.invokevirtual 189, 3) := by decide +kernel
theorem dX11_many_135 : decode cX11_many 135 = .ok (.ireturn, 1) := by decide +kernel
theorem dX11_many_136 : decode cX11_many 136 = .ok (.aload_n 0, 1) := by decide +kernel
theorem dX11_many_137 : decode cX11_many 137 = .ok (.aload_n 0, 1) := by decide +kernel
theorem dX11_many_138 : decode cX11_many 138 = .ok (.getfield 57, 3) := by decide +kernel
theorem dX11_many_141 : decode cX11_many 141 = .ok (.getfield 228, 3) := by decide +kernel
theorem dX11_many_144 : decode cX11_many 144 = .ok (.invokevirtual 189, 3) := by decide +kernel
theorem dX11_many_147 : decode cX11_many 147 = .ok (.ireturn, 1) := by decide +kernel
theorem dX11_many_148 : decode cX11_many 148 = .ok (.aload_n 0, 1) := by decide +kernel
theorem dX11_many_149 : decode cX11_many 149 = .ok (.aload_n 0, 1) := by decide +kernel
theorem dX11_many_150 : decode cX11_many 150 = .ok (.getfield 57, 3) := by decide +kernel
theorem dX11_many_153 : decode cX11_many 153 = .ok (.getfield 231, 3) := by decide +kernel
theorem dX11_many_156 : decode cX11_many 156 = .ok (.invokevirtual 189, 3) := by decide +kernel
theorem dX11_many_159 : decode cX11_many 159 = .ok (.ireturn, 1) := by decide +kernel
theorem dX11_many_160 : decode cX11_many 160 = .ok (.aload_n 0, 1) := by decide +kernel
theorem dX11_many_161 : decode cX11_many 161 = .ok (.iconst 5, 1) := by decide +kernel
theorem dX11_many_162 : decode cX11_many 162 = .ok (.invokevirtual 143, 3) := by decide +kernel
theorem dX11_many_165 : decode cX11_many 165 = .ok (.ireturn, 1) := by decide +kernel
theorem dX11_ring_0 : decode cX11_ring 0 = .ok (.iload_n 1, 1) := by decide +kernel
theorem dX11_ring_1 : decode cX11_ring 1 = .ok (.iconst 0, 1) := by decide +kernel
theorem dX11_ring_2 : decode cX11_ring 2 = .ok (.aload_n 0, 1) := by decide +kernel
theorem dX11_ring_3 : decode cX11_ring 3 = .ok (.getfield 37, 3) := by decide +kernel
theorem dX11_ring_6 : decode cX11_ring 6 = .ok (.getfield 222, 3) := by decide +kernel
theorem dX11_ring_9 : decode cX11_ring 9 = .ok (.iconst 1, 1) := by decide +kernel
theorem dX11_ring_10 : decode cX11_ring 10 = .ok (.isub, 1) := by decide +kernel
theorem dX11_ring_11 : decode cX11_ring 11 = .ok (.invokestatic 120, 3) := by decide +kernel
theorem dX11_ring_14 : decode cX11_ring 14 = .ok (.ifCond .ne 9, 3) := by decide +kernel
theorem dX11_ring_17 : decode cX11_ring 17 = .ok (.aload_n 0, 1) := by decide +kernel
theorem dX11_ring_18 : decode cX11_ring 18 = .ok (.iconst 2, 1) := by decide +kernel
theorem dX11_ring_19 : decode cX11_ring 19 = .ok (.invokevirtual 143, 3) := by decide +kernel
theorem dX11_ring_22 : decode cX11_ring 22 = .ok (.ireturn, 1) := by decide +kernel
theorem dX11_ring_23 : decode cX11_ring 23 = .ok (.iload_n 2, 1) := by decide +kernel
theorem dX11_ring_24 : decode cX11_ring 24 = .ok (.iconst 0, 1) := by decide +kernel
theorem dX11_ring_25 : decode cX11_ring 25 = .ok (.iconst 1, 1) := by decide +kernel
theorem dX11_ring_26 : decode cX11_ring 26 = .ok (.invokestatic 120, 3) := by decide +kernel
theorem dX11_ring_29 : decode cX11_ring 29 = .ok (.ifCond .ne 9, 3) := by decide +kernel
theorem dX11_ring_32 : decode cX11_ring 32 = .ok (.aload_n 0, 1) := by decide +kernel
theorem dX11_ring_33 : decode cX11_ring 33 = .ok (.iconst 5, 1) := by decide +kernel
theorem dX11_ring_34 : decode cX11_ring 34 = .ok (.invokevirtual 143, 3) := by decide +kernel
theorem dX11_ring_37 : decode cX11_ring 37 = .ok (.ireturn, 1) := by decide +kernel
theorem dX11_ring_38 : decode cX11_ring 38 = .ok (.aload_n 0, 1) := by decide +kernel
theorem dX11_ring_39 : decode cX11_ring 39 = .ok (.iload_n 2, 1) := by decide +kernel
theorem dX11_ring_40 : decode cX11_ring 40 = .ok (.ifCond .ne 15, 3) := by decide +kernel
theorem dX11_ring_43 : decode cX11_ring 43 = .ok (.aload_n 0, 1) := by decide +kernel
theorem dX11_ring_44 : decode cX11_ring 44 = .ok (.getfield 37, 3) := by decide +kernel
theorem dX11_ring_47 : decode cX11_ring 47 = .ok (.getfield 234, 3) := by decide +kernel
theorem dX11_ring_50 : decode cX11_ring 50 = .ok (.iload_n 1, 1) := by decide +kernel
theorem dX11_ring_51 : decode cX11_ring 51 = .ok (.iaload, 1) := by decide +kernel
theorem dX11_ring_52 : decode cX11_ring 52 = .ok (.goto 12, 3) := by decide +kernel
theorem dX11_ring_55 : decode cX11_ring 55 = .ok (.aload_n 0, 1) := by decide +kernel
theorem dX11_ring_56 : decode cX11_ring 56 = .ok (.getfield 37, 3) := by decide +kernel
theorem dX11_ring_59 : decode cX11_ring 59 = .ok (.getfield 238, 3) := by decide +kernel
theorem dX11_ring_62 : decode cX11_ring 62 = .ok (.iload_n 1, 1) := by decide +kernel
theorem dX11_ring_63 : decode cX11_ring 63 = .ok (.iaload, 1) := by decide +kernel
theorem dX11_ring_64 : decode cX11_ring 64 = .ok (.invokevirtual 189, 3) := by decide +kernel
theorem dX11_ring_67 : decode cX11_ring 67 = .ok (.ireturn, 1) := by decide +kernel
theorem dX11_isPea_0 : decode cX11_isPea 0 = .ok (.iload_n 1, 1) := by decide +kernel
theorem dX11_isPea_1 : decode cX11_isPea 1 = .ok (.iconst 0, 1) := by decide +kernel
theorem dX11_isPea_2 : decode cX11_isPea 2 = .ok (.aload_n 0, 1) := by decide +kernel
theorem dX11_isPea_3 : decode cX11_isPea 3 = .ok (.getfield 37, 3) := by decide +kernel
theorem dX11_isPea_6 : decode cX11_isPea 6 = .ok (.getfield 186, 3) := by decide +kernel
theorem dX11_isPea_9 : decode cX11_isPea 9 = .ok (.iconst 1, 1) := by decide +kernel
theorem dX11_isPea_10 : decode cX11_isPea 10 = .ok (.isub, 1) := by decide +kernel
theorem dX11_isPea_11 : decode cX11_isPea 11 = .ok (.invokestatic 120, 3) := by decide +kernel
theorem dX11_isPea_14 : decode cX11_isPea 14 = .ok (.ireturn, 1) := by decide +kernel
theorem dX11_pea_0 : decode cX11_pea 0 = .ok (.aload_n 0, 1) := by decide +kernel
theorem dX11_pea_1 : decode cX11_pea 1 = .ok (.iload_n 1, 1) := by decide +kernel
theorem dX11_pea_2 : decode cX11_pea 2 = .ok (.invokevirtual 241, 3) := by decide +kernel
theorem dX11_pea_5 : decode cX11_pea 5 = .ok (.ifCond .ne 9, 3) := by decide +kernel
theorem dX11_pea_8 : decode cX11_pea 8 = .ok (.aload_n 0, 1) := by decide +kernel
theorem dX11_pea_9 : decode cX11_pea 9 = .ok (.iconst 2, 1) := by decide +kernel
theorem dX11_pea_10 : decode cX11_pea 10 = .ok (.invokevirtual 143, 3) := by decide +kernel
theorem dX11_pea_13 : decode cX11_pea 13 = .ok (.ireturn, 1) := by decide +kernel
theorem dX11_pea_14 : decode cX11_pea 14 = .ok (.iload_n 2, 1) := by decide +kernel
theorem dX11_pea_15 : decode cX11_pea 15 = .ok (.iconst 4, 1) := by decide +kernel
theorem dX11_pea_16 : decode cX11_pea 16 = .ok (.iconst 5, 1) := by decide +kernel
theorem dX11_pea_17 : decode cX11_pea 17 = .ok (.invokestatic 120, 3) := by decide +kernel
theorem dX11_pea_20 : decode cX11_pea 20 = .ok (.ifCond .eq 21, 3) := by decide +kernel
theorem dX11_pea_23 : decode cX11_pea 23 = .ok (.aload_n 0, 1) := by decide +kernel
theorem dX11_pea_24 : decode cX11_pea 24 = .ok (.getfield 37, 3) := by decide +kernel
theorem dX11_pea_27 : decode cX11_pea 27 = .ok (.iload_n 1, 1) := by decide +kernel
theorem dX11_pea_28 : decode cX11_pea 28 = .ok (.invokevirtual 244, 3) := by decide +kernel
theorem dX11_pea_31 : decode cX11_pea 31 = .ok (.ifCond .ge 10, 3) := by decide +kernel
theorem dX11_pea_34 : decode cX11_pea 34 = .ok (.aload_n 0, 1) := by decide +kernel
theorem dX11_pea_35 : decode cX11_pea 35 = .ok (.bipush 9, 2) := by decide +kernel
theorem dX11_pea_37 : decode cX11_pea 37 = .ok (.invokevirtual 143, 3) := by decide +kernel
theorem dX11_pea_40 : decode cX11_pea 40 = .ok (.ireturn, 1) := by decide +kernel
theorem dX11_pea_41 : decode cX11_pea 41 = .ok (.iload_n 2, 1) := by decide +kernel
theorem dX11_pea_42 : decode cX11_pea 42 = .ok (.tableswitch 128 0 5 #[38, 52, 66, 80, 94, 107], 38) := by decide +kernel
theorem dX11_pea_80 : decode cX11_pea 80 = .ok (.aload_n 0, 1) := by decide +kernel
theorem dX11_pea_81 : decode cX11_pea 81 = .ok (.aload_n 0, 1) := by decide +kernel
theorem dX11_pea_82 : decode cX11_pea 82 = .ok (.getfield 37, 3) := by decide +kernel
theorem dX11_pea_85 : decode cX11_pea 85 = .ok (.getfield 247, 3) := by decide +kernel
theorem dX11_pea_88 : decode cX11_pea 88 = .ok (.iload_n 1, 1) := by decide +kernel
theorem dX11_pea_89 : decode cX11_pea 89 = .ok (.iaload, 1) := by decide +kernel
theorem dX11_pea_90 : decode cX11_pea 90 = .ok (.invokevirtual 189, 3) := by decide +kernel
theorem dX11_pea_93 : decode cX11_pea 93 = .ok (.ireturn, 1) := by decide +kernel
theorem dX11_pea_94 : decode cX11_pea 94 = .ok (.aload_n 0, 1) := by decide +kernel
theorem dX11_pea_95 : decode cX11_pea 95 = .ok (.aload_n 0, 1) := by decide +kernel
theorem dX11_pea_96 : decode cX11_pea 96 = .ok (.getfield 37, 3) := by decide +kernel
theorem dX11_pea_99 : decode cX11_pea 99 = .ok (.getfield 250, 3) := by decide +kernel
theorem dX11_pea_102 : decode cX11_pea 102 = .ok (.iload_n 1, 1) := by decide +kernel
theorem dX11_pea_103 : decode cX11_pea 103 = .ok (.iaload, 1) := by decide +kernel
theorem dX11_pea_104 : decode cX11_pea 104 = .ok (.invokevirtual 189, 3) := by decide +kernel
theorem dX11_pea_107 : decode cX11_pea 107 = .ok (.ireturn, 1) := by decide +kernel
theorem dX11_pea_108 : decode cX11_pea 108 = .ok (.aload_n 0, 1) := by decide +kernel
theorem dX11_pea_109 : decode cX11_pea 109 = .ok (.aload_n 0, 1) := by decide +kernel
theorem dX11_pea_110 : decode cX11_pea 110 = .ok (.getfield 37, 3) := by decide +kernel
theorem dX11_pea_113 : decode cX11_pea 113 = .ok (.getfield 253, 3) := by decide +kernel
theorem dX11_pea_116 : decode cX11_pea 116 = .ok (.iload_n 1, 1) := by decide +kernel
theorem dX11_pea_117 : decode cX11_pea 117 = .ok (.iaload, 1) := by decide +kernel
theorem dX11_pea_118 : decode cX11_pea 118 = .ok (.invokevirtual 189, 3) := by decide +kernel
theorem dX11_pea_121 : decode cX11_pea 121 = .ok (.ireturn, 1) := by decide +kernel
theorem dX11_pea_122 : decode cX11_pea 122 = .ok (.aload_n 0, 1) := by decide +kernel
theorem dX11_pea_123 : decode cX11_pea 123 = .ok (.aload_n 0, 1) := by decide +kernel
theorem dX11_pea_124 : decode cX11_pea 124 = .ok (.getfield 37, 3) := by decide +kernel
theorem dX11_pea_127 : decode cX11_pea 127 = .ok (.getfield 256, 3) := by decide +kernel
theorem dX11_pea_130 : decode cX11_pea 130 = .ok (.iload_n 1, 1) := by decide +kernel
theorem dX11_pea_131 : decode cX11_pea 131 = .ok (.iaload, 1) := by decide +kernel
theorem dX11_pea_132 : decode cX11_pea 132 = .ok (.invokevirtual 189, 3) := by decide +kernel
theorem dX11_pea_135 : decode cX11_pea 135 = .ok (.ireturn, 1) := by decide +kernel
theorem dX11_pea_136 : decode cX11_pea 136 = .ok (.aload_n 0, 1) := by decide +kernel
theorem dX11_pea_137 : decode cX11_pea 137 = .ok (.aload_n 0, 1) := by decide +kernel
theorem dX11_pea_138 : decode cX11_pea 138 = .ok (.getfield 37, 3) := by decide +kernel
theorem dX11_pea_141 : decode cX11_pea 141 = .ok (.iload_n 1, 1) := by decide +kernel
theorem dX11_pea_142 : decode cX11_pea 142 = .ok (.invokevirtual 244, 3) := by decide +kernel
theorem dX11_pea_145 : decode cX11_pea 145 = .ok (.invokevirtual 189, 3) := by decide +kernel
theorem dX11_pea_148 : decode cX11_pea 148 = .ok (.ireturn, 1) := by decide +kernel
theorem dX11_pea_149 : decode cX11_pea 149 = .ok (.aload_n 0, 1) := by decide +kernel
theorem dX11_pea_150 : decode cX11_pea 150 = .ok (.aload_n 0, 1) := by decide +kernel
theorem dX11_pea_151 : decode cX11_pea 151 = .ok (.getfield 37, 3) := by decide +kernel
theorem dX11_pea_154 : decode cX11_pea 154 = .ok (.iload_n 1, 1) := by decide +kernel
theorem dX11_pea_155 : decode cX11_pea 155 = .ok (.invokevirtual 259, 3) := by decide +kernel
theorem dX11_pea_158 : decode cX11_pea 158 = .ok (.ifCond .eq 7, 3) := by decide +kernel
theorem dX11_pea_161 : decode cX11_pea 161 = .ok (.iconst 1, 1) := by decide +kernel
theorem dX11_pea_162 : decode cX11_pea 162 = .ok (.goto 4, 3) := by decide +kernel
theorem dX11_pea_165 : decode cX11_pea 165 = .ok (.iconst 0, 1) := by decide +kernel
theorem dX11_pea_166 : decode cX11_pea 166 = .ok (.invokevirtual 189, 3) := by decide +kernel
theorem dX11_pea_169 : decode cX11_pea 169 = .ok (.ireturn, 1) := by decide +kernel
theorem dX11_pea_170 : decode cX11_pea 170 = .ok (.aload_n 0, 1) := by decide +kernel
theorem dX11_pea_171 : decode cX11_pea 171 = .ok (.iconst 5, 1) := by decide +kernel
theorem dX11_pea_172 : decode cX11_pea 172 = .ok (.invokevirtual 143, 3) := by decide +kernel
theorem dX11_pea_175 : decode cX11_pea 175 = .ok (.ireturn, 1) := by decide +kernel
theorem dX11_isShooter_0 : decode cX11_isShooter 0 = .ok (.iload_n 1, 1) := by decide +kernel
theorem dX11_isShooter_1 : decode cX11_isShooter 1 = .ok (.iconst 0, 1) := by decide +kernel
theorem dX11_isShooter_2 : decode cX11_isShooter 2 = .ok (.aload_n 0, 1) := by decide +kernel
theorem dX11_isShooter_3 : decode cX11_isShooter 3 = .ok (.getfield 37, 3) := by decide +kernel
theorem dX11_isShooter_6 : decode cX11_isShooter 6 = .ok (.getfield 225, 3) := by decide +kernel
theorem dX11_isShooter_9 : decode cX11_isShooter 9 = .ok (.iconst 1, 1) := by decide +kernel
theorem dX11_isShooter_10 : decode cX11_isShooter 10 = .ok (.isub, 1) := by decide +kernel
theorem dX11_isShooter_11 : decode cX11_isShooter 11 = .ok (.invokestatic 120, 3) := by decide +kernel
theorem dX11_isShooter_14 : decode cX11_isShooter 14 = .ok (.ireturn, 1) := by decide +kernel
theorem dX11_shooter_0 : decode cX11_shooter 0 = .ok (.aload_n 0, 1) := by decide +kernel
theorem dX11_shooter_1 : decode cX11_shooter 1 = .ok (.iload_n 1, 1) := by decide +kernel
theorem dX11_shooter_2 : decode cX11_shooter 2 = .ok (.invokevirtual 262, 3) := by decide +kernel
theorem dX11_shooter_5 : decode cX11_shooter 5 = .ok (.ifCond .ne 9, 3) := by decide +kernel
theorem dX11_shooter_8 : decode cX11_shooter 8 = .ok (.aload_n 0, 1) := by decide +kernel
theorem dX11_shooter_9 : decode cX11_shooter 9 = .ok (.iconst 2, 1) := by decide +kernel
theorem dX11_shooter_10 : decode cX11_shooter 10 = .ok (.invokevirtual 143, 3) := by decide +kernel
theorem dX11_shooter_13 : decode cX11_shooter 13 = .ok (.ireturn, 1) := by decide +kernel
theorem dX11_shooter_14 : decode cX11_shooter 14 = .ok (.iload_n 2, 1) := by decide +kernel
theorem dX11_shooter_15 : decode cX11_shooter 15 = .ok (.tableswitch 128 0 5 #[37, 51, 65, 79, 93, 107], 37) := by decide +kernel
theorem dX11_shooter_52 : decode cX11_shooter 52 = .ok (.aload_n 0, 1) := by decide +kernel
theorem dX11_shooter_53 : decode cX11_shooter 53 = .ok (.aload_n 0, 1) := by decide +kernel
theorem dX11_shooter_54 : decode cX11_shooter 54 = .ok (.getfield 37, 3) := by decide +kernel
theorem dX11_shooter_57 : decode cX11_shooter 57 = .ok (.getfield 265, 3) := by decide +kernel
theorem dX11_shooter_60 : decode cX11_shooter 60 = .ok (.iload_n 1, 1) := by decide +kernel
theorem dX11_shooter_61 : decode cX11_shooter 61 = .ok (.iaload, 1) := by decide +kernel
theorem dX11_shooter_62 : decode cX11_shooter 62 = .ok (.invokevirtual 189, 3) := by decide +kernel
theorem dX11_shooter_65 : decode cX11_shooter 65 = .ok (.ireturn, 1) := by decide +kernel
theorem dX11_shooter_66 : decode cX11_shooter 66 = .ok (.aload_n 0, 1) := by decide +kernel
theorem dX11_shooter_67 : decode cX11_shooter 67 = .ok (.aload_n 0, 1) := by decide +kernel
theorem dX11_shooter_68 : decode cX11_shooter 68 = .ok (.getfield 37, 3) := by decide +kernel
theorem dX11_shooter_71 : decode cX11_shooter 71 = .ok (.getfield 268, 3) := by decide +kernel
theorem dX11_shooter_74 : decode cX11_shooter 74 = .ok (.iload_n 1, 1) := by decide +kernel
theorem dX11_shooter_75 : decode cX11_shooter 75 = .ok (.iaload, 1) := by decide +kernel
theorem dX11_shooter_76 : decode cX11_shooter 76 = .ok (.invokevirtual 189, 3) := by decide +kernel
theorem dX11_shooter_79 : decode cX11_shooter 79 = .ok (.ireturn, 1) := by decide +kernel
theorem dX11_shooter_80 : decode cX11_shooter 80 = .ok (.aload_n 0, 1) := by decide +kernel
theorem dX11_shooter_81 : decode cX11_shooter 81 = .ok (.aload_n 0, 1) := by decide +kernel
theorem dX11_shooter_82 : decode cX11_shooter 82 = .ok (.getfield 37, 3) := by decide +kernel
theorem dX11_shooter_85 : decode cX11_shooter 85 = .ok (.getfield 271, 3) := by decide +kernel
theorem dX11_shooter_88 : decode cX11_shooter 88 = .ok (.iload_n 1, 1) := by decide +kernel
theorem dX11_shooter_89 : decode cX11_shooter 89 = .ok (.iaload, 1) := by decide +kernel
theorem dX11_shooter_90 : decode cX11_shooter 90 = .ok (.invokevirtual 189, 3) := by decide +kernel
theorem dX11_shooter_93 : decode cX11_shooter 93 = .ok (.ireturn, 1) := by decide +kernel
theorem dX11_shooter_94 : decode cX11_shooter 94 = .ok (.aload_n 0, 1) := by decide +kernel
theorem dX11_shooter_95 : decode cX11_shooter 95 = .ok (.aload_n 0, 1) := by decide +kernel
theorem dX11_shooter_96 : decode cX11_shooter 96 = .ok (.getfield 37, 3) := by decide +kernel
theorem dX11_shooter_99 : decode cX11_shooter 99 = .ok (.getfield 274, 3) := by decide +kernel
theorem dX11_shooter_102 : decode cX11_shooter 102 = .ok (.iload_n 1, 1) := by decide +kernel
theorem dX11_shooter_103 : decode cX11_shooter 103 = .ok (.iaload, 1) := by decide +kernel
theorem dX11_shooter_104 : decode cX11_shooter 104 = .ok (.invokevirtual 189, 3) := by decide +kernel
theorem dX11_shooter_107 : decode cX11_shooter 107 = .ok (.ireturn, 1) := by decide +kernel
theorem dX11_shooter_108 : decode cX11_shooter 108 = .ok (.aload_n 0, 1) := by decide +kernel
theorem dX11_shooter_109 : decode cX11_shooter 109 = .ok (.aload_n 0, 1) := by decide +kernel
theorem dX11_shooter_110 : decode cX11_shooter 110 = .ok (.getfield 57, 3) := by decide +kernel
theorem dX11_shooter_113 : decode cX11_shooter 113 = .ok (.getfield 277, 3) := by decide +kernel
theorem dX11_shooter_116 : decode cX11_shooter 116 = .ok (.iload_n 1, 1) := by decide +kernel
theorem dX11_shooter_117 : decode cX11_shooter 117 = .ok (.iaload, 1) := by decide +kernel
theorem dX11_shooter_118 : decode cX11_shooter 118 = .ok (.invokevirtual 189, 3) := by decide +kernel
theorem dX11_shooter_121 : decode cX11_shooter 121 = .ok (.ireturn, 1) := by decide +kernel
theorem dX11_shooter_122 : decode cX11_shooter 122 = .ok (.aload_n 0, 1) := by decide +kernel
theorem dX11_shooter_123 : decode cX11_shooter 123 = .ok (.getfield 57, 3) := by decide +kernel
theorem dX11_shooter_126 : decode cX11_shooter 126 = .ok (.iload_n 1, 1) := by decide +kernel
theorem dX11_shooter_127 : decode cX11_shooter 127 = .ok (.iconst (-1), 1) := by decide +kernel
theorem dX11_shooter_128 : decode cX11_shooter 128 = .ok (.invokevirtual 280, 3) := by decide +kernel
theorem dX11_shooter_131 : decode cX11_shooter 131 = .ok (.aload_n 0, 1) := by decide +kernel
theorem dX11_shooter_132 : decode cX11_shooter 132 = .ok (.aload_n 0, 1) := by decide +kernel
theorem dX11_shooter_133 : decode cX11_shooter 133 = .ok (.getfield 57, 3) := by decide +kernel
theorem dX11_shooter_136 : decode cX11_shooter 136 = .ok (.getfield 283, 3) := by decide +kernel
theorem dX11_shooter_139 : decode cX11_shooter 139 = .ok (.invokevirtual 189, 3) := by decide +kernel
theorem dX11_shooter_142 : decode cX11_shooter 142 = .ok (.ireturn, 1) := by decide +kernel
theorem dX11_shooter_143 : decode cX11_shooter 143 = .ok (.aload_n 0, 1) := by decide +kernel
theorem dX11_shooter_144 : decode cX11_shooter 144 = .ok (.iconst 5, 1) := by decide +kernel
theorem dX11_shooter_145 : decode cX11_shooter 145 = .ok (.invokevirtual 143, 3) := by decide +kernel
theorem dX11_shooter_148 : decode cX11_shooter 148 = .ok (.ireturn, 1) := by decide +kernel
theorem dX11_takeShot_0 : decode cX11_takeShot 0 = .ok (.aload_n 0, 1) := by decide +kernel
theorem dX11_takeShot_1 : decode cX11_takeShot 1 = .ok (.getfield 77, 3) := by decide +kernel
theorem dX11_takeShot_4 : decode cX11_takeShot 4 = .ok (.iload_n 1, 1) := by decide +kernel
theorem dX11_takeShot_5 : decode cX11_takeShot 5 = .ok (.putfield 487, 3) := by decide +kernel
theorem dX11_takeShot_8 : decode cX11_takeShot 8 = .ok (.aload_n 0, 1) := by decide +kernel
theorem dX11_takeShot_9 : decode cX11_takeShot 9 = .ok (.getfield 77, 3) := by decide +kernel
theorem dX11_takeShot_12 : decode cX11_takeShot 12 = .ok (.iload_n 2, 1) := by decide +kernel
theorem dX11_takeShot_13 : decode cX11_takeShot 13 = .ok (.putfield 490, 3) := by decide +kernel
theorem dX11_takeShot_16 : decode cX11_takeShot 16 = .ok (.aload_n 0, 1) := by decide +kernel
theorem dX11_takeShot_17 : decode cX11_takeShot 17 = .ok (.getfield 77, 3) := by decide +kernel
theorem dX11_takeShot_20 : decode cX11_takeShot 20 = .ok (.iload_n 3, 1) := by decide +kernel
theorem dX11_takeShot_21 : decode cX11_takeShot 21 = .ok (.putfield 493, 3) := by decide +kernel
theorem dX11_takeShot_24 : decode cX11_takeShot 24 = .ok (.aload_n 0, 1) := by decide +kernel
theorem dX11_takeShot_25 : decode cX11_takeShot 25 = .ok (.getfield 77, 3) := by decide +kernel
theorem dX11_takeShot_28 : decode cX11_takeShot 28 = .ok (.iload 4, 2) := by decide +kernel
theorem dX11_takeShot_30 : decode cX11_takeShot 30 = .ok (.putfield 496, 3) := by decide +kernel
theorem dX11_takeShot_33 : decode cX11_takeShot 33 = .ok (.aload_n 0, 1) := by decide +kernel
theorem dX11_takeShot_34 : decode cX11_takeShot 34 = .ok (.getfield 77, 3) := by decide +kernel
theorem dX11_takeShot_37 : decode cX11_takeShot 37 = .ok (.iload 5, 2) := by decide +kernel
theorem dX11_takeShot_39 : decode cX11_takeShot 39 = .ok (.putfield 499, 3) := by decide +kernel
theorem dX11_takeShot_42 : decode cX11_takeShot 42 = .ok (.aload_n 0, 1) := by decide +kernel
theorem dX11_takeShot_43 : decode cX11_takeShot 43 = .ok (.getfield 77, 3) := by decide +kernel
theorem dX11_takeShot_46 : decode cX11_takeShot 46 = .ok (.iload 6, 2) := by decide +kernel
theorem dX11_takeShot_48 : decode cX11_takeShot 48 = .ok (.putfield 502, 3) := by decide +kernel
theorem dX11_takeShot_51 : decode cX11_takeShot 51 = .ok (.aload_n 0, 1) := by decide +kernel
theorem dX11_takeShot_52 : decode cX11_takeShot 52 = .ok (.getfield 77, 3) := by decide +kernel
theorem dX11_takeShot_55 : decode cX11_takeShot 55 = .ok (.aload_n 0, 1) := by decide +kernel
theorem dX11_takeShot_56 : decode cX11_takeShot 56 = .ok (.getfield 57, 3) := by decide +kernel
theorem dX11_takeShot_59 : decode cX11_takeShot 59 = .ok (.getfield 228, 3) := by decide +kernel
theorem dX11_takeShot_62 : decode cX11_takeShot 62 = .ok (.putfield 486, 3) := by decide +kernel
theorem dX11_takeShot_65 : decode cX11_takeShot 65 = .ok (.aload_n 0, 1) := by decide +kernel
theorem dX11_takeShot_66 : decode cX11_takeShot 66 = .ok (.getfield 77, 3) := by decide +kernel
theorem dX11_takeShot_69 : decode cX11_takeShot 69 = .ok (.aload_n 0, 1) := by decide +kernel
theorem dX11_takeShot_70 : decode cX11_takeShot 70 = .ok (.getfield 37, 3) := by decide +kernel
theorem dX11_takeShot_73 : decode cX11_takeShot 73 = .ok (.getfield 210, 3) := by decide +kernel
theorem dX11_takeShot_76 : decode cX11_takeShot 76 = .ok (.putfield 373, 3) := by decide +kernel
theorem dX11_takeShot_79 : decode cX11_takeShot 79 = .ok (.return_, 1) := by decide +kernel
theorem dX11_wrongFlight_0 : decode cX11_wrongFlight 0 = .ok (.aload_n 0, 1) := by decide +kernel
theorem dX11_wrongFlight_1 : decode cX11_wrongFlight 1 = .ok (.iload_n 1, 1) := by decide +kernel
theorem dX11_wrongFlight_2 : decode cX11_wrongFlight 2 = .ok (.invokevirtual 241, 3) := by decide +kernel
theorem dX11_wrongFlight_5 : decode cX11_wrongFlight 5 = .ok (.ifCond .ne 5, 3) := by decide +kernel
theorem dX11_wrongFlight_8 : decode cX11_wrongFlight 8 = .ok (.iconst 2, 1) := by decide +kernel
theorem dX11_wrongFlight_9 : decode cX11_wrongFlight 9 = .ok (.ireturn, 1) := by decide +kernel
theorem dX11_wrongFlight_10 : decode cX11_wrongFlight 10 = .ok (.iload_n 2, 1) := by decide +kernel
theorem dX11_wrongFlight_11 : decode cX11_wrongFlight 11 = .ok (.iconst 1, 1) := by decide +kernel
theorem dX11_wrongFlight_12 : decode cX11_wrongFlight 12 = .ok (.bipush 40, 2) := by decide +kernel
theorem dX11_wrongFlight_14 : decode cX11_wrongFlight 14 = .ok (.invokestatic 120, 3) := by decide +kernel
theorem dX11_wrongFlight_17 : decode cX11_wrongFlight 17 = .ok (.ifCond .eq 13, 3) := by decide +kernel
theorem dX11_wrongFlight_20 : decode cX11_wrongFlight 20 = .ok (.iload_n 3, 1) := by decide +kernel
theorem dX11_wrongFlight_21 : decode cX11_wrongFlight 21 = .ok (.iconst 0, 1) := by decide +kernel
theorem dX11_wrongFlight_22 : decode cX11_wrongFlight 22 = .ok (.bipush 20, 2) := by decide +kernel
theorem dX11_wrongFlight_24 : decode cX11_wrongFlight 24 = .ok (.invokestatic 120, 3) := by decide +kernel
theorem dX11_wrongFlight_27 : decode cX11_wrongFlight 27 = .ok (.ifCond .ne 5, 3) := by decide +kernel
theorem dX11_wrongFlight_30 : decode cX11_wrongFlight 30 = .ok (.iconst 5, 1) := by decide +kernel
theorem dX11_wrongFlight_31 : decode cX11_wrongFlight 31 = .ok (.ireturn, 1) := by decide +kernel
theorem dX11_wrongFlight_32 : decode cX11_wrongFlight 32 = .ok (.aload_n 0, 1) := by decide +kernel
theorem dX11_wrongFlight_33 : decode cX11_wrongFlight 33 = .ok (.iconst (-1), 1) := by decide +kernel
theorem dX11_wrongFlight_34 : decode cX11_wrongFlight 34 = .ok (.iload_n 1, 1) := by decide +kernel
theorem dX11_wrongFlight_35 : decode cX11_wrongFlight 35 = .ok (.iload_n 2, 1) := by decide +kernel
theorem dX11_wrongFlight_36 : decode cX11_wrongFlight 36 = .ok (.iconst 0, 1) := by decide +kernel
theorem dX11_wrongFlight_37 : decode cX11_wrongFlight 37 = .ok (.iconst 0, 1) := by decide +kernel
theorem dX11_wrongFlight_38 : decode cX11_wrongFlight 38 = .ok (.iconst 0, 1) := by decide +kernel
theorem dX11_wrongFlight_39 : decode cX11_wrongFlight 39 = .ok (.invokevirtual 312, 3) := by decide +kernel
theorem dX11_wrongFlight_42 : decode cX11_wrongFlight 42 = .ok (.aload_n 0, 1) := by decide +kernel
theorem dX11_wrongFlight_43 : decode cX11_wrongFlight 43 = .ok (.getfield 77, 3) := by decide +kernel
theorem dX11_wrongFlight_46 : decode cX11_wrongFlight 46 = .ok (.iload_n 3, 1) := by decide +kernel
theorem dX11_wrongFlight_47 : decode cX11_wrongFlight 47 = .ok (.putfield 486, 3) := by decide +kernel
theorem dX11_wrongFlight_50 : decode cX11_wrongFlight 50 = .ok (.aload_n 0, 1) := by decide +kernel
theorem dX11_wrongFlight_51 : decode cX11_wrongFlight 51 = .ok (.getfield 77, 3) := by decide +kernel
theorem dX11_wrongFlight_54 : decode cX11_wrongFlight 54 = .ok (.aload_n 0, 1) := by decide +kernel
theorem dX11_wrongFlight_55 : decode cX11_wrongFlight 55 = .ok (.getfield 37, 3) := by decide +kernel
theorem dX11_wrongFlight_58 : decode cX11_wrongFlight 58 = .ok (.invokevirtual 316, 3) := by decide +kernel
theorem dX11_wrongFlight_61 : decode cX11_wrongFlight 61 = .ok (.iconst 0, 1) := by decide +kernel
theorem dX11_wrongFlight_62 : decode cX11_wrongFlight 62 = .ok (.ireturn, 1) := by decide +kernel
theorem dX11_pace_0 : decode cX11_pace 0 = .ok (.aload_n 0, 1) := by decide +kernel
theorem dX11_pace_1 : decode cX11_pace 1 = .ok (.iload_n 1, 1) := by decide +kernel
theorem dX11_pace_2 : decode cX11_pace 2 = .ok (.iload_n 2, 1) := by decide +kernel
theorem dX11_pace_3 : decode cX11_pace 3 = .ok (.iload_n 3, 1) := by decide +kernel
theorem dX11_pace_4 : decode cX11_pace 4 = .ok (.invokevirtual 286, 3) := by decide +kernel
theorem dX11_pace_7 : decode cX11_pace 7 = .ok (.istore 4, 2) := by decide +kernel
theorem dX11_pace_9 : decode cX11_pace 9 = .ok (.iload 4, 2) := by decide +kernel
theorem dX11_pace_11 : decode cX11_pace 11 = .ok (.ifCond .eq 10, 3) := by decide +kernel
theorem dX11_pace_14 : decode cX11_pace 14 = .ok (.aload_n 0, 1) := by decide +kernel
theorem dX11_pace_15 : decode cX11_pace 15 = .ok (.iload 4, 2) := by decide +kernel
theorem dX11_pace_17 : decode cX11_pace 17 = .ok (.invokevirtual 143, 3) := by decide +kernel
theorem dX11_pace_20 : decode cX11_pace 20 = .ok (.ireturn, 1) := by decide +kernel
theorem dX11_pace_21 : decode cX11_pace 21 = .ok (.aload_n 0, 1) := by decide +kernel
theorem dX11_pace_22 : decode cX11_pace 22 = .ok (.getfield 77, 3) := by decide +kernel
theorem dX11_pace_25 : decode cX11_pace 25 = .ok (.getfield 290, 3) := by decide +kernel
theorem dX11_pace_28 : decode cX11_pace 28 = .ok (.ifCond .ne 17, 3) := by decide +kernel
theorem dX11_pace_31 : decode cX11_pace 31 = .ok (.aload_n 0, 1) := by decide +kernel
theorem dX11_pace_32 : decode cX11_pace 32 = .ok (.aload_n 0, 1) := by decide +kernel
theorem dX11_pace_33 : decode cX11_pace 33 = .ok (.getfield 77, 3) := by decide +kernel
theorem dX11_pace_36 : decode cX11_pace 36 = .ok (.getfield 293, 3) := by decide +kernel
theorem dX11_pace_39 : decode cX11_pace 39 = .ok (.invokevirtual 189, 3) := by decide +kernel
theorem dX11_pace_42 : decode cX11_pace 42 = .ok (.goto 9, 3) := by decide +kernel
theorem dX11_pace_45 : decode cX11_pace 45 = .ok (.aload_n 0, 1) := by decide +kernel
theorem dX11_pace_46 : decode cX11_pace 46 = .ok (.bipush 9, 2) := by decide +kernel
theorem dX11_pace_48 : decode cX11_pace 48 = .ok (.invokevirtual 143, 3) := by decide +kernel
theorem dX11_pace_51 : decode cX11_pace 51 = .ok (.ireturn, 1) := by decide +kernel
theorem dX11_flight_0 : decode cX11_flight 0 = .ok (.aload_n 0, 1) := by decide +kernel
theorem dX11_flight_1 : decode cX11_flight 1 = .ok (.iload_n 1, 1) := by decide +kernel
theorem dX11_flight_2 : decode cX11_flight 2 = .ok (.iload_n 2, 1) := by decide +kernel
theorem dX11_flight_3 : decode cX11_flight 3 = .ok (.iload_n 3, 1) := by decide +kernel
theorem dX11_flight_4 : decode cX11_flight 4 = .ok (.invokevirtual 286, 3) := by decide +kernel
theorem dX11_flight_7 : decode cX11_flight 7 = .ok (.istore 5, 2) := by decide +kernel
theorem dX11_flight_9 : decode cX11_flight 9 = .ok (.iload 5, 2) := by decide +kernel
theorem dX11_flight_11 : decode cX11_flight 11 = .ok (.ifCond .eq 10, 3) := by decide +kernel
theorem dX11_flight_14 : decode cX11_flight 14 = .ok (.aload_n 0, 1) := by decide +kernel
theorem dX11_flight_15 : decode cX11_flight 15 = .ok (.iload 5, 2) := by decide +kernel
theorem dX11_flight_17 : decode cX11_flight 17 = .ok (.invokevirtual 143, 3) := by decide +kernel
theorem dX11_flight_20 : decode cX11_flight 20 = .ok (.ireturn, 1) := by decide +kernel
theorem dX11_flight_21 : decode cX11_flight 21 = .ok (.iload 4, 2) := by decide +kernel
theorem dX11_flight_23 : decode cX11_flight 23 = .ok (.iconst 0, 1) := by decide +kernel
theorem dX11_flight_24 : decode cX11_flight 24 = .ok (.iconst 3, 1) := by decide +kernel
theorem dX11_flight_25 : decode cX11_flight 25 = .ok (.invokestatic 120, 3) := by decide +kernel
theorem dX11_flight_28 : decode cX11_flight 28 = .ok (.ifCond .ne 9, 3) := by decide +kernel
theorem dX11_flight_31 : decode cX11_flight 31 = .ok (.aload_n 0, 1) := by decide +kernel
theorem dX11_flight_32 : decode cX11_flight 32 = .ok (.iconst 5, 1) := by decide +kernel
theorem dX11_flight_33 : decode cX11_flight 33 = .ok (.invokevirtual 143, 3) := by decide +kernel
theorem dX11_flight_36 : decode cX11_flight 36 = .ok (.ireturn, 1) := by decide +kernel
theorem dX11_flight_37 : decode cX11_flight 37 = .ok (.aload_n 0, 1) := by decide +kernel
theorem dX11_flight_38 : decode cX11_flight 38 = .ok (.getfield 77, 3) := by decide +kernel
theorem dX11_flight_41 : decode cX11_flight 41 = .ok (.getfield 290, 3) := by decide +kernel
theorem dX11_flight_44 : decode cX11_flight 44 = .ok (.ifCond .eq 10, 3) := by decide +kernel
theorem dX11_flight_47 : decode cX11_flight 47 = .ok (.aload_n 0, 1) := by decide +kernel
theorem dX11_flight_48 : decode cX11_flight 48 = .ok (.bipush 9, 2) := by decide +kernel
theorem dX11_flight_50 : decode cX11_flight 50 = .ok (.invokevirtual 143, 3) := by decide +kernel
theorem dX11_flight_53 : decode cX11_flight 53 = .ok (.ireturn, 1) := by decide +kernel
theorem dX11_flight_54 : decode cX11_flight 54 = .ok (.iload 4, 2) := by decide +kernel
theorem dX11_flight_56 : decode cX11_flight 56 = .ok (.tableswitch 64 0 2 #[28, 40, 52], 28) := by decide +kernel
theorem dX11_flight_84 : decode cX11_flight 84 = .ok (.aload_n 0, 1) := by decide +kernel
theorem dX11_flight_85 : decode cX11_flight 85 = .ok (.aload_n 0, 1) := by decide +kernel
theorem dX11_flight_86 : decode cX11_flight 86 = .ok (.getfield 77, 3) := by decide +kernel
theorem dX11_flight_89 : decode cX11_flight 89 = .ok (.getfield 296, 3) := by decide +kernel
theorem dX11_flight_92 : decode cX11_flight 92 = .ok (.invokevirtual 189, 3) := by decide +kernel
theorem dX11_flight_95 : decode cX11_flight 95 = .ok (.ireturn, 1) := by decide +kernel
theorem dX11_flight_96 : decode cX11_flight 96 = .ok (.aload_n 0, 1) := by decide +kernel
theorem dX11_flight_97 : decode cX11_flight 97 = .ok (.aload_n 0, 1) := by decide +kernel
theorem dX11_flight_98 : decode cX11_flight 98 = .ok (.getfield 77, 3) := by decide +kernel
theorem dX11_flight_101 : decode cX11_flight 101 = .ok (.getfield 299, 3) := by decide +kernel
theorem dX11_flight_104 : decode cX11_flight 104 = .ok (.invokevirtual 189, 3) := by decide +kernel
theorem dX11_flight_107 : decode cX11_flight 107 = .ok (.ireturn, 1) := by decide +kernel
theorem dX11_flight_108 : decode cX11_flight 108 = .ok (.aload_n 0, 1) := by decide +kernel
theorem dX11_flight_109 : decode cX11_flight 109 = .ok (.aload_n 0, 1) := by decide +kernel
theorem dX11_flight_110 : decode cX11_flight 110 = .ok (.getfield 77, 3) := by decide +kernel
theorem dX11_flight_113 : decode cX11_flight 113 = .ok (.getfield 302, 3) := by decide +kernel
theorem dX11_flight_116 : decode cX11_flight 116 = .ok (.invokevirtual 189, 3) := by decide +kernel
theorem dX11_flight_119 : decode cX11_flight 119 = .ok (.ireturn, 1) := by decide +kernel
theorem dX11_flight_120 : decode cX11_flight 120 = .ok (.aload_n 0, 1) := by decide +kernel
theorem dX11_flight_121 : decode cX11_flight 121 = .ok (.aload_n 0, 1) := by decide +kernel
theorem dX11_flight_122 : decode cX11_flight 122 = .ok (.getfield 77, 3) := by decide +kernel
theorem dX11_flight_125 : decode cX11_flight 125 = .ok (.getfield 305, 3) := by decide +kernel
theorem dX11_flight_128 : decode cX11_flight 128 = .ok (.invokevirtual 189, 3) := by decide +kernel
theorem dX11_flight_131 : decode cX11_flight 131 = .ok (.ireturn, 1) := by decide +kernel
theorem dX11_becomes_0 : decode cX11_becomes 0 = .ok (.aload_n 0, 1) := by decide +kernel
theorem dX11_becomes_1 : decode cX11_becomes 1 = .ok (.iload_n 1, 1) := by decide +kernel
theorem dX11_becomes_2 : decode cX11_becomes 2 = .ok (.iload_n 2, 1) := by decide +kernel
theorem dX11_becomes_3 : decode cX11_becomes 3 = .ok (.iload_n 3, 1) := by decide +kernel
theorem dX11_becomes_4 : decode cX11_becomes 4 = .ok (.invokevirtual 286, 3) := by decide +kernel
theorem dX11_becomes_7 : decode cX11_becomes 7 = .ok (.istore 4, 2) := by decide +kernel
theorem dX11_becomes_9 : decode cX11_becomes 9 = .ok (.iload 4, 2) := by decide +kernel
theorem dX11_becomes_11 : decode cX11_becomes 11 = .ok (.ifCond .eq 10, 3) := by decide +kernel
theorem dX11_becomes_14 : decode cX11_becomes 14 = .ok (.aload_n 0, 1) := by decide +kernel
theorem dX11_becomes_15 : decode cX11_becomes 15 = .ok (.iload 4, 2) := by decide +kernel
theorem dX11_becomes_17 : decode cX11_becomes 17 = .ok (.invokevirtual 143, 3) := by decide +kernel
theorem dX11_becomes_20 : decode cX11_becomes 20 = .ok (.ireturn, 1) := by decide +kernel
theorem dX11_becomes_21 : decode cX11_becomes 21 = .ok (.aload_n 0, 1) := by decide +kernel
theorem dX11_becomes_22 : decode cX11_becomes 22 = .ok (.aload_n 0, 1) := by decide +kernel
theorem dX11_becomes_23 : decode cX11_becomes 23 = .ok (.getfield 77, 3) := by decide +kernel
theorem dX11_becomes_26 : decode cX11_becomes 26 = .ok (.getfield 290, 3) := by decide +kernel
theorem dX11_becomes_29 : decode cX11_becomes 29 = .ok (.invokevirtual 189, 3) := by decide +kernel
theorem dX11_becomes_32 : decode cX11_becomes 32 = .ok (.ireturn, 1) := by decide +kernel
theorem dX11_wrongShot_0 : decode cX11_wrongShot 0 = .ok (.aload_n 0, 1) := by decide +kernel
theorem dX11_wrongShot_1 : decode cX11_wrongShot 1 = .ok (.iload_n 1, 1) := by decide +kernel
theorem dX11_wrongShot_2 : decode cX11_wrongShot 2 = .ok (.invokevirtual 262, 3) := by decide +kernel
theorem dX11_wrongShot_5 : decode cX11_wrongShot 5 = .ok (.ifCond .eq 11, 3) := by decide +kernel
theorem dX11_wrongShot_8 : decode cX11_wrongShot 8 = .ok (.aload_n 0, 1) := by decide +kernel
theorem dX11_wrongShot_9 : decode cX11_wrongShot 9 = .ok (.iload_n 2, 1) := by decide +kernel
theorem dX11_wrongShot_10 : decode cX11_wrongShot 10 = .ok (.invokevirtual 241, 3) := by decide +kernel
theorem dX11_wrongShot_13 : decode cX11_wrongShot 13 = .ok (.ifCond .ne 5, 3) := by decide +kernel
theorem dX11_wrongShot_16 : decode cX11_wrongShot 16 = .ok (.iconst 2, 1) := by decide +kernel
theorem dX11_wrongShot_17 : decode cX11_wrongShot 17 = .ok (.ireturn, 1) := by decide +kernel
theorem dX11_wrongShot_18 : decode cX11_wrongShot 18 = .ok (.iload_n 3, 1) := by decide +kernel
theorem dX11_wrongShot_19 : decode cX11_wrongShot 19 = .ok (.iconst 1, 1) := by decide +kernel
theorem dX11_wrongShot_20 : decode cX11_wrongShot 20 = .ok (.aload_n 0, 1) := by decide +kernel
theorem dX11_wrongShot_21 : decode cX11_wrongShot 21 = .ok (.getfield 37, 3) := by decide +kernel
theorem dX11_wrongShot_24 : decode cX11_wrongShot 24 = .ok (.getfield 265, 3) := by decide +kernel
theorem dX11_wrongShot_27 : decode cX11_wrongShot 27 = .ok (.iload_n 1, 1) := by decide +kernel
theorem dX11_wrongShot_28 : decode cX11_wrongShot 28 = .ok (.iaload, 1) := by decide +kernel
theorem dX11_wrongShot_29 : decode cX11_wrongShot 29 = .ok (.invokestatic 120, 3) := by decide +kernel
theorem dX11_wrongShot_32 : decode cX11_wrongShot 32 = .ok (.ifCond .eq 41, 3) := by decide +kernel
theorem dX11_wrongShot_35 : decode cX11_wrongShot 35 = .ok (.iload 4, 2) := by decide +kernel
theorem dX11_wrongShot_37 : decode cX11_wrongShot 37 = .ok (.iconst 0, 1) := by decide +kernel
theorem dX11_wrongShot_38 : decode cX11_wrongShot 38 = .ok (.iconst 3, 1) := by decide +kernel
theorem dX11_wrongShot_39 : decode cX11_wrongShot 39 = .ok (.invokestatic 120, 3) := by decide +kernel
theorem dX11_wrongShot_42 : decode cX11_wrongShot 42 = .ok (.ifCond .eq 31, 3) := by decide +kernel
theorem dX11_wrongShot_45 : decode cX11_wrongShot 45 = .ok (.iload 5, 2) := by decide +kernel
theorem dX11_wrongShot_47 : decode cX11_wrongShot 47 = .ok (.bipush (-60), 2) := by decide +kernel
theorem dX11_wrongShot_49 : decode cX11_wrongShot 49 = .ok (.bipush 60, 2) := by decide +kernel
theorem dX11_wrongShot_51 : decode cX11_wrongShot 51 = .ok (.invokestatic 120, 3) := by decide +kernel
theorem dX11_wrongShot_54 : decode cX11_wrongShot 54 = .ok (.ifCond .eq 19, 3) := by decide +kernel
theorem dX11_wrongShot_57 : decode cX11_wrongShot 57 = .ok (.iload 6, 2) := by decide +kernel
theorem dX11_wrongShot_59 : decode cX11_wrongShot 59 = .ok (.bipush (-60), 2) := by decide +kernel
theorem dX11_wrongShot_61 : decode cX11_wrongShot 61 = .ok (.bipush 60, 2) := by decide +kernel
theorem dX11_wrongShot_63 : decode cX11_wrongShot 63 = .ok (.invokestatic 120, 3) := by decide +kernel
theorem dX11_wrongShot_66 : decode cX11_wrongShot 66 = .ok (.ifCond .eq 7, 3) := by decide +kernel
theorem dX11_wrongShot_69 : decode cX11_wrongShot 69 = .ok (.iconst 1, 1) := by decide +kernel
theorem dX11_wrongShot_70 : decode cX11_wrongShot 70 = .ok (.goto 4, 3) := by decide +kernel
theorem dX11_wrongShot_73 : decode cX11_wrongShot 73 = .ok (.iconst 0, 1) := by decide +kernel
theorem dX11_wrongShot_74 : decode cX11_wrongShot 74 = .ok (.istore 7, 2) := by decide +kernel
theorem dX11_wrongShot_76 : decode cX11_wrongShot 76 = .ok (.iload 7, 2) := by decide +kernel
theorem dX11_wrongShot_78 : decode cX11_wrongShot 78 = .ok (.ifCond .eq 7, 3) := by decide +kernel
theorem dX11_wrongShot_81 : decode cX11_wrongShot 81 = .ok (.iconst 0, 1) := by decide +kernel
theorem dX11_wrongShot_82 : decode cX11_wrongShot 82 = .ok (.goto 4, 3) := by decide +kernel
theorem dX11_wrongShot_85 : decode cX11_wrongShot 85 = .ok (.iconst 5, 1) := by decide +kernel
theorem dX11_wrongShot_86 : decode cX11_wrongShot 86 = .ok (.ireturn, 1) := by decide +kernel
theorem dX11_strikes_0 : decode cX11_strikes 0 = .ok (.aload_n 0, 1) := by decide +kernel
theorem dX11_strikes_1 : decode cX11_strikes 1 = .ok (.iload_n 1, 1) := by decide +kernel
theorem dX11_strikes_2 : decode cX11_strikes 2 = .ok (.iload_n 2, 1) := by decide +kernel
theorem dX11_strikes_3 : decode cX11_strikes 3 = .ok (.iload_n 3, 1) := by decide +kernel
theorem dX11_strikes_4 : decode cX11_strikes 4 = .ok (.iconst 0, 1) := by decide +kernel
theorem dX11_strikes_5 : decode cX11_strikes 5 = .ok (.iload 4, 2) := by decide +kernel
theorem dX11_strikes_7 : decode cX11_strikes 7 = .ok (.iload 5, 2) := by decide +kernel
theorem dX11_strikes_9 : decode cX11_strikes 9 = .ok (.invokevirtual 308, 3) := by decide +kernel
theorem dX11_strikes_12 : decode cX11_strikes 12 = .ok (.istore 8, 2) := by decide +kernel
theorem dX11_strikes_14 : decode cX11_strikes 14 = .ok (.iload 8, 2) := by decide +kernel
theorem dX11_strikes_16 : decode cX11_strikes 16 = .ok (.ifCond .eq 10, 3) := by decide +kernel
theorem dX11_strikes_19 : decode cX11_strikes 19 = .ok (.aload_n 0, 1) := by decide +kernel
theorem dX11_strikes_20 : decode cX11_strikes 20 = .ok (.iload 8, 2) := by decide +kernel
theorem dX11_strikes_22 : decode cX11_strikes 22 = .ok (.invokevirtual 143, 3) := by decide +kernel
theorem dX11_strikes_25 : decode cX11_strikes 25 = .ok (.ireturn, 1) := by decide +kernel
theorem dX11_strikes_26 : decode cX11_strikes 26 = .ok (.iload 6, 2) := by decide +kernel
theorem dX11_strikes_28 : decode cX11_strikes 28 = .ok (.iconst (-1), 1) := by decide +kernel
theorem dX11_strikes_29 : decode cX11_strikes 29 = .ok (.iconst 1, 1) := by decide +kernel
theorem dX11_strikes_30 : decode cX11_strikes 30 = .ok (.invokestatic 120, 3) := by decide +kernel
theorem dX11_strikes_33 : decode cX11_strikes 33 = .ok (.ifCond .eq 13, 3) := by decide +kernel
theorem dX11_strikes_36 : decode cX11_strikes 36 = .ok (.iload 7, 2) := by decide +kernel
theorem dX11_strikes_38 : decode cX11_strikes 38 = .ok (.iconst 0, 1) := by decide +kernel
theorem dX11_strikes_39 : decode cX11_strikes 39 = .ok (.iconst 1, 1) := by decide +kernel
theorem dX11_strikes_40 : decode cX11_strikes 40 = .ok (.invokestatic 120, 3) := by decide +kernel
theorem dX11_strikes_43 : decode cX11_strikes 43 = .ok (.ifCond .ne 9, 3) := by decide +kernel
theorem dX11_strikes_46 : decode cX11_strikes 46 = .ok (.aload_n 0, 1) := by decide +kernel
theorem dX11_strikes_47 : decode cX11_strikes 47 = .ok (.iconst 5, 1) := by decide +kernel
theorem dX11_strikes_48 : decode cX11_strikes 48 = .ok (.invokevirtual 143, 3) := by decide +kernel
theorem dX11_strikes_51 : decode cX11_strikes 51 = .ok (.ireturn, 1) := by decide +kernel
theorem dX11_strikes_52 : decode cX11_strikes 52 = .ok (.aload_n 0, 1) := by decide +kernel
theorem dX11_strikes_53 : decode cX11_strikes 53 = .ok (.iload_n 1, 1) := by decide +kernel
theorem dX11_strikes_54 : decode cX11_strikes 54 = .ok (.iload_n 2, 1) := by decide +kernel
theorem dX11_strikes_55 : decode cX11_strikes 55 = .ok (.iload_n 3, 1) := by decide +kernel
theorem dX11_strikes_56 : decode cX11_strikes 56 = .ok (.iconst 0, 1) := by decide +kernel
theorem dX11_strikes_57 : decode cX11_strikes 57 = .ok (.iload 4, 2) := by decide +kernel
theorem dX11_strikes_59 : decode cX11_strikes 59 = .ok (.iload 5, 2) := by decide +kernel
theorem dX11_strikes_61 : decode cX11_strikes 61 = .ok (.invokevirtual 312, 3) := by decide +kernel
theorem dX11_strikes_64 : decode cX11_strikes 64 = .ok (.aload_n 0, 1) := by decide +kernel
theorem dX11_strikes_65 : decode cX11_strikes 65 = .ok (.getfield 77, 3) := by decide +kernel
theorem dX11_strikes_68 : decode cX11_strikes 68 = .ok (.aload_n 0, 1) := by decide +kernel
theorem dX11_strikes_69 : decode cX11_strikes 69 = .ok (.getfield 37, 3) := by decide +kernel
theorem dX11_strikes_72 : decode cX11_strikes 72 = .ok (.invokevirtual 316, 3) := by decide +kernel
theorem dX11_strikes_75 : decode cX11_strikes 75 = .ok (.aload_n 0, 1) := by decide +kernel
theorem dX11_strikes_76 : decode cX11_strikes 76 = .ok (.getfield 77, 3) := by decide +kernel
theorem dX11_strikes_79 : decode cX11_strikes 79 = .ok (.getfield 290, 3) := by decide +kernel
theorem dX11_strikes_82 : decode cX11_strikes 82 = .ok (.ifCond .eq 10, 3) := by decide +kernel
theorem dX11_strikes_85 : decode cX11_strikes 85 = .ok (.aload_n 0, 1) := by decide +kernel
theorem dX11_strikes_86 : decode cX11_strikes 86 = .ok (.bipush 9, 2) := by decide +kernel
theorem dX11_strikes_88 : decode cX11_strikes 88 = .ok (.invokevirtual 143, 3) := by decide +kernel
theorem dX11_strikes_91 : decode cX11_strikes 91 = .ok (.ireturn, 1) := by decide +kernel
theorem dX11_strikes_92 : decode cX11_strikes 92 = .ok (.aload_n 0, 1) := by decide +kernel
theorem dX11_strikes_93 : decode cX11_strikes 93 = .ok (.iload 7, 2) := by decide +kernel
theorem dX11_strikes_95 : decode cX11_strikes 95 = .ok (.ifCond .ne 19, 3) := by decide +kernel
theorem dX11_strikes_98 : decode cX11_strikes 98 = .ok (.aload_n 0, 1) := by decide +kernel
theorem dX11_strikes_99 : decode cX11_strikes 99 = .ok (.getfield 77, 3) := by decide +kernel
theorem dX11_strikes_102 : decode cX11_strikes 102 = .ok (.aload_n 0, 1) := by decide +kernel
theorem dX11_strikes_103 : decode cX11_strikes 103 = .ok (.getfield 37, 3) := by decide +kernel
theorem dX11_strikes_106 : decode cX11_strikes 106 = .ok (.iload 6, 2) := by decide +kernel
theorem dX11_strikes_108 : decode cX11_strikes 108 = .ok (.invokevirtual 320, 3) := by decide +kernel
theorem dX11_strikes_111 : decode cX11_strikes 111 = .ok (.goto 14, 3) := by decide +kernel
theorem dX11_strikes_114 : decode cX11_strikes 114 = .ok (.aload_n 0, 1) := by decide +kernel
theorem dX11_strikes_115 : decode cX11_strikes 115 = .ok (.getfield 77, 3) := by decide +kernel
theorem dX11_strikes_118 : decode cX11_strikes 118 = .ok (.aload_n 0, 1) := by decide +kernel
theorem dX11_strikes_119 : decode cX11_strikes 119 = .ok (.getfield 37, 3) := by decide +kernel
theorem dX11_strikes_122 : decode cX11_strikes 122 = .ok (.invokevirtual 324, 3) := by decide +kernel
theorem dX11_strikes_125 : decode cX11_strikes 125 = .ok (.invokevirtual 189, 3) := by decide +kernel
theorem dX11_strikes_128 : decode cX11_strikes 128 = .ok (.ireturn, 1) := by decide +kernel
theorem dX11_points_0 : decode cX11_points 0 = .ok (.iload_n 1, 1) := by decide +kernel
theorem dX11_points_1 : decode cX11_points 1 = .ok (.sipush (-999), 3) := by decide +kernel
theorem dX11_points_4 : decode cX11_points 4 = .ok (.sipush 999, 3) := by decide +kernel
theorem dX11_points_7 : decode cX11_points 7 = .ok (.invokestatic 120, 3) := by decide +kernel
theorem dX11_points_10 : decode cX11_points 10 = .ok (.ifCond .eq 16, 3) := by decide +kernel
theorem dX11_points_13 : decode cX11_points 13 = .ok (.iload_n 2, 1) := by decide +kernel
theorem dX11_points_14 : decode cX11_points 14 = .ok (.sipush (-999), 3) := by decide +kernel
theorem dX11_points_17 : decode cX11_points 17 = .ok (.sipush 999, 3) := by decide +kernel
theorem dX11_points_20 : decode cX11_points 20 = .ok (.invokestatic 120, 3) := by decide +kernel
theorem dX11_points_23 : decode cX11_points 23 = .ok (.ifCond .ne 9, 3) := by decide +kernel
theorem dX11_points_26 : decode cX11_points 26 = .ok (.aload_n 0, 1) := by decide +kernel
theorem dX11_points_27 : decode cX11_points 27 = .ok (.iconst 5, 1) := by decide +kernel
theorem dX11_points_28 : decode cX11_points 28 = .ok (.invokevirtual 143, 3) := by decide +kernel
theorem dX11_points_31 : decode cX11_points 31 = .ok (.ireturn, 1) := by decide +kernel
theorem dX11_points_32 : decode cX11_points 32 = .ok (.aload_n 0, 1) := by decide +kernel
theorem dX11_points_33 : decode cX11_points 33 = .ok (.aload_n 0, 1) := by decide +kernel
theorem dX11_points_34 : decode cX11_points 34 = .ok (.getfield 37, 3) := by decide +kernel
theorem dX11_points_37 : decode cX11_points 37 = .ok (.iload_n 1, 1) := by decide +kernel
theorem dX11_points_38 : decode cX11_points 38 = .ok (.iload_n 2, 1) := by decide +kernel
theorem dX11_points_39 : decode cX11_points 39 = .ok (.invokevirtual 328, 3) := by decide +kernel
theorem dX11_points_42 : decode cX11_points 42 = .ok (.invokevirtual 189, 3) := by decide +kernel
theorem dX11_points_45 : decode cX11_points 45 = .ok (.ireturn, 1) := by decide +kernel
theorem dX11_ringAt_0 : decode cX11_ringAt 0 = .ok (.iload_n 1, 1) := by decide +kernel
theorem dX11_ringAt_1 : decode cX11_ringAt 1 = .ok (.sipush (-999), 3) := by decide +kernel
theorem dX11_ringAt_4 : decode cX11_ringAt 4 = .ok (.sipush 999, 3) := by decide +kernel
theorem dX11_ringAt_7 : decode cX11_ringAt 7 = .ok (.invokestatic 120, 3) := by decide +kernel
theorem dX11_ringAt_10 : decode cX11_ringAt 10 = .ok (.ifCond .eq 16, 3) := by decide +kernel
theorem dX11_ringAt_13 : decode cX11_ringAt 13 = .ok (.iload_n 2, 1) := by decide +kernel
theorem dX11_ringAt_14 : decode cX11_ringAt 14 = .ok (.sipush (-999), 3) := by decide +kernel
theorem dX11_ringAt_17 : decode cX11_ringAt 17 = .ok (.sipush 999, 3) := by decide +kernel
theorem dX11_ringAt_20 : decode cX11_ringAt 20 = .ok (.invokestatic 120, 3) := by decide +kernel
theorem dX11_ringAt_23 : decode cX11_ringAt 23 = .ok (.ifCond .ne 9, 3) := by decide +kernel
theorem dX11_ringAt_26 : decode cX11_ringAt 26 = .ok (.aload_n 0, 1) := by decide +kernel
theorem dX11_ringAt_27 : decode cX11_ringAt 27 = .ok (.iconst 5, 1) := by decide +kernel
theorem dX11_ringAt_28 : decode cX11_ringAt 28 = .ok (.invokevirtual 143, 3) := by decide +kernel
theorem dX11_ringAt_31 : decode cX11_ringAt 31 = .ok (.ireturn, 1) := by decide +kernel
theorem dX11_ringAt_32 : decode cX11_ringAt 32 = .ok (.aload_n 0, 1) := by decide +kernel
theorem dX11_ringAt_33 : decode cX11_ringAt 33 = .ok (.getfield 37, 3) := by decide +kernel
theorem dX11_ringAt_36 : decode cX11_ringAt 36 = .ok (.iload_n 1, 1) := by decide +kernel
theorem dX11_ringAt_37 : decode cX11_ringAt 37 = .ok (.iload_n 2, 1) := by decide +kernel
theorem dX11_ringAt_38 : decode cX11_ringAt 38 = .ok (.invokevirtual 331, 3) := by decide +kernel
theorem dX11_ringAt_41 : decode cX11_ringAt 41 = .ok (.istore_n 3, 1) := by decide +kernel
theorem dX11_ringAt_42 : decode cX11_ringAt 42 = .ok (.iload_n 3, 1) := by decide +kernel
theorem dX11_ringAt_43 : decode cX11_ringAt 43 = .ok (.iconst (-1), 1) := by decide +kernel
theorem dX11_ringAt_44 : decode cX11_ringAt 44 = .ok (.if_icmp .ne 12, 3) := by decide +kernel
theorem dX11_ringAt_47 : decode cX11_ringAt 47 = .ok (.aload_n 0, 1) := by decide +kernel
theorem dX11_ringAt_48 : decode cX11_ringAt 48 = .ok (.bipush 8, 2) := by decide +kernel
theorem dX11_ringAt_50 : decode cX11_ringAt 50 = .ok (.invokevirtual 143, 3) := by decide +kernel
theorem dX11_ringAt_53 : decode cX11_ringAt 53 = .ok (.goto 8, 3) := by decide +kernel
theorem dX11_ringAt_56 : decode cX11_ringAt 56 = .ok (.aload_n 0, 1) := by decide +kernel
theorem dX11_ringAt_57 : decode cX11_ringAt 57 = .ok (.iload_n 3, 1) := by decide +kernel
theorem dX11_ringAt_58 : decode cX11_ringAt 58 = .ok (.invokevirtual 189, 3) := by decide +kernel
theorem dX11_ringAt_61 : decode cX11_ringAt 61 = .ok (.ireturn, 1) := by decide +kernel
theorem dX11_hand_0 : decode cX11_hand 0 = .ok (.aload_n 0, 1) := by decide +kernel
theorem dX11_hand_1 : decode cX11_hand 1 = .ok (.iload_n 1, 1) := by decide +kernel
theorem dX11_hand_2 : decode cX11_hand 2 = .ok (.invokevirtual 262, 3) := by decide +kernel
theorem dX11_hand_5 : decode cX11_hand 5 = .ok (.ifCond .ne 9, 3) := by decide +kernel
theorem dX11_hand_8 : decode cX11_hand 8 = .ok (.aload_n 0, 1) := by decide +kernel
theorem dX11_hand_9 : decode cX11_hand 9 = .ok (.iconst 2, 1) := by decide +kernel
theorem dX11_hand_10 : decode cX11_hand 10 = .ok (.invokevirtual 143, 3) := by decide +kernel
theorem dX11_hand_13 : decode cX11_hand 13 = .ok (.ireturn, 1) := by decide +kernel
theorem dX11_hand_14 : decode cX11_hand 14 = .ok (.iload_n 2, 1) := by decide +kernel
theorem dX11_hand_15 : decode cX11_hand 15 = .ok (.iconst 0, 1) := by decide +kernel
theorem dX11_hand_16 : decode cX11_hand 16 = .ok (.iconst 3, 1) := by decide +kernel
theorem dX11_hand_17 : decode cX11_hand 17 = .ok (.invokestatic 120, 3) := by decide +kernel
theorem dX11_hand_20 : decode cX11_hand 20 = .ok (.ifCond .ne 9, 3) := by decide +kernel
theorem dX11_hand_23 : decode cX11_hand 23 = .ok (.aload_n 0, 1) := by decide +kernel
theorem dX11_hand_24 : decode cX11_hand 24 = .ok (.iconst 5, 1) := by decide +kernel
theorem dX11_hand_25 : decode cX11_hand 25 = .ok (.invokevirtual 143, 3) := by decide +kernel
theorem dX11_hand_28 : decode cX11_hand 28 = .ok (.ireturn, 1) := by decide +kernel
theorem dX11_hand_29 : decode cX11_hand 29 = .ok (.aload_n 0, 1) := by decide +kernel
theorem dX11_hand_30 : decode cX11_hand 30 = .ok (.aload_n 0, 1) := by decide +kernel
theorem dX11_hand_31 : decode cX11_hand 31 = .ok (.getfield 37, 3) := by decide +kernel
theorem dX11_hand_34 : decode cX11_hand 34 = .ok (.iload_n 1, 1) := by decide +kernel
theorem dX11_hand_35 : decode cX11_hand 35 = .ok (.iload_n 2, 1) := by decide +kernel
theorem dX11_hand_36 : decode cX11_hand 36 = .ok (.invokevirtual 334, 3) := by decide +kernel
theorem dX11_hand_39 : decode cX11_hand 39 = .ok (.invokevirtual 189, 3) := by decide +kernel
theorem dX11_hand_42 : decode cX11_hand 42 = .ok (.ireturn, 1) := by decide +kernel
theorem dX11_commonDivisor_0 : decode cX11_commonDivisor 0 = .ok (.lload_n 0, 1) := by decide +kernel
theorem dX11_commonDivisor_1 : decode cX11_commonDivisor 1 = .ok (.lstore 4, 2) := by decide +kernel
theorem dX11_commonDivisor_3 : decode cX11_commonDivisor 3 = .ok (.lload_n 2, 1) := by decide +kernel
theorem dX11_commonDivisor_4 : decode cX11_commonDivisor 4 = .ok (.lstore 6, 2) := by decide +kernel
theorem dX11_commonDivisor_6 : decode cX11_commonDivisor 6 = .ok (.iconst 0, 1) := by decide +kernel
theorem dX11_commonDivisor_7 : decode cX11_commonDivisor 7 = .ok (.istore 8, 2) := by decide +kernel
theorem dX11_commonDivisor_9 : decode cX11_commonDivisor 9 = .ok (.iload 8, 2) := by decide +kernel
theorem dX11_commonDivisor_11 : decode cX11_commonDivisor 11 = .ok (.sipush 130, 3) := by decide +kernel
theorem dX11_commonDivisor_14 : decode cX11_commonDivisor 14 = .ok (.if_icmp .ge 31, 3) := by decide +kernel
theorem dX11_commonDivisor_17 : decode cX11_commonDivisor 17 = .ok (.lload 6, 2) := by decide +kernel
theorem dX11_commonDivisor_19 : decode cX11_commonDivisor 19 = .ok (.lconst 0, 1) := by decide +kernel
theorem dX11_commonDivisor_20 : decode cX11_commonDivisor 20 = .ok (.lcmp, 1) := by decide +kernel
theorem dX11_commonDivisor_21 : decode cX11_commonDivisor 21 = .ok (.ifCond .eq 24, 3) := by decide +kernel
theorem dX11_commonDivisor_24 : decode cX11_commonDivisor 24 = .ok (.lload 4, 2) := by decide +kernel
theorem dX11_commonDivisor_26 : decode cX11_commonDivisor 26 = .ok (.lload 6, 2) := by decide +kernel
theorem dX11_commonDivisor_28 : decode cX11_commonDivisor 28 = .ok (.lrem, 1) := by decide +kernel
theorem dX11_commonDivisor_29 : decode cX11_commonDivisor 29 = .ok (.lstore 9, 2) := by decide +kernel
theorem dX11_commonDivisor_31 : decode cX11_commonDivisor 31 = .ok (.lload 6, 2) := by decide +kernel
theorem dX11_commonDivisor_33 : decode cX11_commonDivisor 33 = .ok (.lstore 4, 2) := by decide +kernel
theorem dX11_commonDivisor_35 : decode cX11_commonDivisor 35 = .ok (.lload 9, 2) := by decide +kernel
theorem dX11_commonDivisor_37 : decode cX11_commonDivisor 37 = .ok (.lstore 6, 2) := by decide +kernel
theorem dX11_commonDivisor_39 : decode cX11_commonDivisor 39 = .ok (.iinc 8 1, 3) := by decide +kernel
theorem dX11_commonDivisor_42 : decode cX11_commonDivisor 42 = .ok (.goto (-33), 3) := by decide +kernel
theorem dX11_commonDivisor_45 : decode cX11_commonDivisor 45 = .ok (.lload 4, 2) := by decide +kernel
theorem dX11_commonDivisor_47 : decode cX11_commonDivisor 47 = .ok (.lreturn, 1) := by decide +kernel
theorem dX11_tell_0 : decode cX11_tell 0 = .ok (.lload_n 1, 1) := by decide +kernel
theorem dX11_tell_1 : decode cX11_tell 1 = .ok (.invokestatic 478, 3) := by decide +kernel
theorem dX11_tell_4 : decode cX11_tell 4 = .ok (.lload_n 3, 1) := by decide +kernel
theorem dX11_tell_5 : decode cX11_tell 5 = .ok (.invokestatic 482, 3) := by decide +kernel
theorem dX11_tell_8 : decode cX11_tell 8 = .ok (.lstore 5, 2) := by decide +kernel
theorem dX11_tell_10 : decode cX11_tell 10 = .ok (.lload_n 1, 1) := by decide +kernel
theorem dX11_tell_11 : decode cX11_tell 11 = .ok (.lconst 0, 1) := by decide +kernel
theorem dX11_tell_12 : decode cX11_tell 12 = .ok (.lcmp, 1) := by decide +kernel
theorem dX11_tell_13 : decode cX11_tell 13 = .ok (.ifCond .eq 10, 3) := by decide +kernel
theorem dX11_tell_16 : decode cX11_tell 16 = .ok (.lload 5, 2) := by decide +kernel
theorem dX11_tell_18 : decode cX11_tell 18 = .ok (.lconst 0, 1) := by decide +kernel
theorem dX11_tell_19 : decode cX11_tell 19 = .ok (.lcmp, 1) := by decide +kernel
theorem dX11_tell_20 : decode cX11_tell 20 = .ok (.ifCond .gt 14, 3) := by decide +kernel
theorem dX11_tell_23 : decode cX11_tell 23 = .ok (.aload_n 0, 1) := by decide +kernel
theorem dX11_tell_24 : decode cX11_tell 24 = .ok (.lconst 0, 1) := by decide +kernel
theorem dX11_tell_25 : decode cX11_tell 25 = .ok (.putfield 13, 3) := by decide +kernel
theorem dX11_tell_28 : decode cX11_tell 28 = .ok (.aload_n 0, 1) := by decide +kernel
theorem dX11_tell_29 : decode cX11_tell 29 = .ok (.lconst 1, 1) := by decide +kernel
theorem dX11_tell_30 : decode cX11_tell 30 = .ok (.putfield 17, 3) := by decide +kernel
theorem dX11_tell_33 : decode cX11_tell 33 = .ok (.return_, 1) := by decide +kernel
theorem dX11_tell_34 : decode cX11_tell 34 = .ok (.aload_n 0, 1) := by decide +kernel
theorem dX11_tell_35 : decode cX11_tell 35 = .ok (.lload_n 1, 1) := by decide +kernel
theorem dX11_tell_36 : decode cX11_tell 36 = .ok (.lload 5, 2) := by decide +kernel
theorem dX11_tell_38 : decode cX11_tell 38 = .ok (.ldiv, 1) := by decide +kernel
theorem dX11_tell_39 : decode cX11_tell 39 = .ok (.putfield 13, 3) := by decide +kernel
theorem dX11_tell_42 : decode cX11_tell 42 = .ok (.aload_n 0, 1) := by decide +kernel
theorem dX11_tell_43 : decode cX11_tell 43 = .ok (.lload_n 3, 1) := by decide +kernel
theorem dX11_tell_44 : decode cX11_tell 44 = .ok (.lload 5, 2) := by decide +kernel
theorem dX11_tell_46 : decode cX11_tell 46 = .ok (.ldiv, 1) := by decide +kernel
theorem dX11_tell_47 : decode cX11_tell 47 = .ok (.putfield 17, 3) := by decide +kernel
theorem dX11_tell_50 : decode cX11_tell 50 = .ok (.return_, 1) := by decide +kernel
theorem dX11_odds_0 : decode cX11_odds 0 = .ok (.aload_n 0, 1) := by decide +kernel
theorem dX11_odds_1 : decode cX11_odds 1 = .ok (.iload_n 1, 1) := by decide +kernel
theorem dX11_odds_2 : decode cX11_odds 2 = .ok (.iload_n 2, 1) := by decide +kernel
theorem dX11_odds_3 : decode cX11_odds 3 = .ok (.iload_n 3, 1) := by decide +kernel
theorem dX11_odds_4 : decode cX11_odds 4 = .ok (.iload 4, 2) := by decide +kernel
theorem dX11_odds_6 : decode cX11_odds 6 = .ok (.iload 5, 2) := by decide +kernel
theorem dX11_odds_8 : decode cX11_odds 8 = .ok (.iload 6, 2) := by decide +kernel
theorem dX11_odds_10 : decode cX11_odds 10 = .ok (.invokevirtual 308, 3) := by decide +kernel
theorem dX11_odds_13 : decode cX11_odds 13 = .ok (.istore 8, 2) := by decide +kernel
theorem dX11_odds_15 : decode cX11_odds 15 = .ok (.iload 8, 2) := by decide +kernel
theorem dX11_odds_17 : decode cX11_odds 17 = .ok (.ifCond .eq 10, 3) := by decide +kernel
theorem dX11_odds_20 : decode cX11_odds 20 = .ok (.aload_n 0, 1) := by decide +kernel
theorem dX11_odds_21 : decode cX11_odds 21 = .ok (.iload 8, 2) := by decide +kernel
theorem dX11_odds_23 : decode cX11_odds 23 = .ok (.invokevirtual 124, 3) := by decide +kernel
theorem dX11_odds_26 : decode cX11_odds 26 = .ok (.ireturn, 1) := by decide +kernel
theorem dX11_odds_27 : decode cX11_odds 27 = .ok (.iload 7, 2) := by decide +kernel
theorem dX11_odds_29 : decode cX11_odds 29 = .ok (.iconst 1, 1) := by decide +kernel
theorem dX11_odds_30 : decode cX11_odds 30 = .ok (.bipush 20, 2) := by decide +kernel
theorem dX11_odds_32 : decode cX11_odds 32 = .ok (.invokestatic 120, 3) := by decide +kernel
theorem dX11_odds_35 : decode cX11_odds 35 = .ok (.ifCond .ne 9, 3) := by decide +kernel
theorem dX11_odds_38 : decode cX11_odds 38 = .ok (.aload_n 0, 1) := by decide +kernel
theorem dX11_odds_39 : decode cX11_odds 39 = .ok (.iconst 5, 1) := by decide +kernel
theorem dX11_odds_40 : decode cX11_odds 40 = .ok (.invokevirtual 124, 3) := by decide +kernel
theorem dX11_odds_43 : decode cX11_odds 43 = .ok (.ireturn, 1) := by decide +kernel
theorem dX11_odds_44 : decode cX11_odds 44 = .ok (.aload_n 0, 1) := by decide +kernel
theorem dX11_odds_45 : decode cX11_odds 45 = .ok (.iload_n 1, 1) := by decide +kernel
theorem dX11_odds_46 : decode cX11_odds 46 = .ok (.iload_n 2, 1) := by decide +kernel
theorem dX11_odds_47 : decode cX11_odds 47 = .ok (.iload_n 3, 1) := by decide +kernel
theorem dX11_odds_48 : decode cX11_odds 48 = .ok (.iload 4, 2) := by decide +kernel
theorem dX11_odds_50 : decode cX11_odds 50 = .ok (.iload 5, 2) := by decide +kernel
theorem dX11_odds_52 : decode cX11_odds 52 = .ok (.iload 6, 2) := by decide +kernel
theorem dX11_odds_54 : decode cX11_odds 54 = .ok (.invokevirtual 312, 3) := by decide +kernel
theorem dX11_odds_57 : decode cX11_odds 57 = .ok (.aload_n 0, 1) := by decide +kernel
theorem dX11_odds_58 : decode cX11_odds 58 = .ok (.getfield 84, 3) := by decide +kernel
theorem dX11_odds_61 : decode cX11_odds 61 = .ok (.aload_n 0, 1) := by decide +kernel
theorem dX11_odds_62 : decode cX11_odds 62 = .ok (.getfield 37, 3) := by decide +kernel
theorem dX11_odds_65 : decode cX11_odds 65 = .ok (.aload_n 0, 1) := by decide +kernel
theorem dX11_odds_66 : decode cX11_odds 66 = .ok (.getfield 77, 3) := by decide +kernel
theorem dX11_odds_69 : decode cX11_odds 69 = .ok (.invokevirtual 337, 3) := by decide +kernel
theorem dX11_odds_72 : decode cX11_odds 72 = .ok (.aload_n 0, 1) := by decide +kernel
theorem dX11_odds_73 : decode cX11_odds 73 = .ok (.aload_n 0, 1) := by decide +kernel
theorem dX11_odds_74 : decode cX11_odds 74 = .ok (.getfield 84, 3) := by decide +kernel
theorem dX11_odds_77 : decode cX11_odds 77 = .ok (.iload 7, 2) := by decide +kernel
theorem dX11_odds_79 : decode cX11_odds 79 = .ok (.invokevirtual 340, 3) := by decide +kernel
theorem dX11_odds_82 : decode cX11_odds 82 = .ok (.aload_n 0, 1) := by decide +kernel
theorem dX11_odds_83 : decode cX11_odds 83 = .ok (.getfield 84, 3) := by decide +kernel
theorem dX11_odds_86 : decode cX11_odds 86 = .ok (.getfield 344, 3) := by decide +kernel
theorem dX11_odds_89 : decode cX11_odds 89 = .ok (.i2l, 1) := by decide +kernel
theorem dX11_odds_90 : decode cX11_odds 90 = .ok (.invokevirtual 347, 3) := by decide +kernel
theorem dX11_odds_93 : decode cX11_odds 93 = .ok (.aload_n 0, 1) := by decide +kernel
theorem dX11_odds_94 : decode cX11_odds 94 = .ok (.invokevirtual 131, 3) := by decide +kernel
theorem dX11_odds_97 : decode cX11_odds 97 = .ok (.ireturn, 1) := by decide +kernel
theorem dX11_mean_0 : decode cX11_mean 0 = .ok (.aload_n 0, 1) := by decide +kernel
theorem dX11_mean_1 : decode cX11_mean 1 = .ok (.iload_n 1, 1) := by decide +kernel
theorem dX11_mean_2 : decode cX11_mean 2 = .ok (.iload_n 2, 1) := by decide +kernel
theorem dX11_mean_3 : decode cX11_mean 3 = .ok (.iload_n 3, 1) := by decide +kernel
theorem dX11_mean_4 : decode cX11_mean 4 = .ok (.iload 4, 2) := by decide +kernel
theorem dX11_mean_6 : decode cX11_mean 6 = .ok (.iload 5, 2) := by decide +kernel
theorem dX11_mean_8 : decode cX11_mean 8 = .ok (.iload 6, 2) := by decide +kernel
theorem dX11_mean_10 : decode cX11_mean 10 = .ok (.invokevirtual 308, 3) := by decide +kernel
theorem dX11_mean_13 : decode cX11_mean 13 = .ok (.istore 7, 2) := by decide +kernel
theorem dX11_mean_15 : decode cX11_mean 15 = .ok (.iload 7, 2) := by decide +kernel
theorem dX11_mean_17 : decode cX11_mean 17 = .ok (.ifCond .eq 10, 3) := by decide +kernel
theorem dX11_mean_20 : decode cX11_mean 20 = .ok (.aload_n 0, 1) := by decide +kernel
theorem dX11_mean_21 : decode cX11_mean 21 = .ok (.iload 7, 2) := by decide +kernel
theorem dX11_mean_23 : decode cX11_mean 23 = .ok (.invokevirtual 124, 3) := by decide +kernel
theorem dX11_mean_26 : decode cX11_mean 26 = .ok (.ireturn, 1) := by decide +kernel
theorem dX11_mean_27 : decode cX11_mean 27 = .ok (.aload_n 0, 1) := by decide +kernel
theorem dX11_mean_28 : decode cX11_mean 28 = .ok (.iload_n 1, 1) := by decide +kernel
theorem dX11_mean_29 : decode cX11_mean 29 = .ok (.iload_n 2, 1) := by decide +kernel
theorem dX11_mean_30 : decode cX11_mean 30 = .ok (.iload_n 3, 1) := by decide +kernel
theorem dX11_mean_31 : decode cX11_mean 31 = .ok (.iload 4, 2) := by decide +kernel
theorem dX11_mean_33 : decode cX11_mean 33 = .ok (.iload 5, 2) := by decide +kernel
theorem dX11_mean_35 : decode cX11_mean 35 = .ok (.iload 6, 2) := by decide +kernel
theorem dX11_mean_37 : decode cX11_mean 37 = .ok (.invokevirtual 312, 3) := by decide +kernel
theorem dX11_mean_40 : decode cX11_mean 40 = .ok (.aload_n 0, 1) := by decide +kernel
theorem dX11_mean_41 : decode cX11_mean 41 = .ok (.getfield 84, 3) := by decide +kernel
theorem dX11_mean_44 : decode cX11_mean 44 = .ok (.aload_n 0, 1) := by decide +kernel
theorem dX11_mean_45 : decode cX11_mean 45 = .ok (.getfield 37, 3) := by decide +kernel
theorem dX11_mean_48 : decode cX11_mean 48 = .ok (.aload_n 0, 1) := by decide +kernel
theorem dX11_mean_49 : decode cX11_mean 49 = .ok (.getfield 77, 3) := by decide +kernel
theorem dX11_mean_52 : decode cX11_mean 52 = .ok (.invokevirtual 337, 3) := by decide +kernel
theorem dX11_mean_55 : decode cX11_mean 55 = .ok (.aload_n 0, 1) := by decide +kernel
theorem dX11_mean_56 : decode cX11_mean 56 = .ok (.aload_n 0, 1) := by decide +kernel
theorem dX11_mean_57 : decode cX11_mean 57 = .ok (.getfield 84, 3) := by decide +kernel
theorem dX11_mean_60 : decode cX11_mean 60 = .ok (.invokevirtual 351, 3) := by decide +kernel
theorem dX11_mean_63 : decode cX11_mean 63 = .ok (.aload_n 0, 1) := by decide +kernel
theorem dX11_mean_64 : decode cX11_mean 64 = .ok (.getfield 84, 3) := by decide +kernel
theorem dX11_mean_67 : decode cX11_mean 67 = .ok (.getfield 344, 3) := by decide +kernel
theorem dX11_mean_70 : decode cX11_mean 70 = .ok (.i2l, 1) := by decide +kernel
theorem dX11_mean_71 : decode cX11_mean 71 = .ok (.invokevirtual 347, 3) := by decide +kernel
theorem dX11_mean_74 : decode cX11_mean 74 = .ok (.aload_n 0, 1) := by decide +kernel
theorem dX11_mean_75 : decode cX11_mean 75 = .ok (.invokevirtual 131, 3) := by decide +kernel
theorem dX11_mean_78 : decode cX11_mean 78 = .ok (.ireturn, 1) := by decide +kernel
theorem dX11_bestAim_0 : decode cX11_bestAim 0 = .ok (.aload_n 0, 1) := by decide +kernel
theorem dX11_bestAim_1 : decode cX11_bestAim 1 = .ok (.iload_n 1, 1) := by decide +kernel
theorem dX11_bestAim_2 : decode cX11_bestAim 2 = .ok (.iload_n 2, 1) := by decide +kernel
theorem dX11_bestAim_3 : decode cX11_bestAim 3 = .ok (.iload_n 3, 1) := by decide +kernel
theorem dX11_bestAim_4 : decode cX11_bestAim 4 = .ok (.iload 4, 2) := by decide +kernel
theorem dX11_bestAim_6 : decode cX11_bestAim 6 = .ok (.iconst 0, 1) := by decide +kernel
theorem dX11_bestAim_7 : decode cX11_bestAim 7 = .ok (.iconst 0, 1) := by decide +kernel
theorem dX11_bestAim_8 : decode cX11_bestAim 8 = .ok (.invokevirtual 308, 3) := by decide +kernel
theorem dX11_bestAim_11 : decode cX11_bestAim 11 = .ok (.istore 6, 2) := by decide +kernel
theorem dX11_bestAim_13 : decode cX11_bestAim 13 = .ok (.iload 6, 2) := by decide +kernel
theorem dX11_bestAim_15 : decode cX11_bestAim 15 = .ok (.ifCond .eq 10, 3) := by decide +kernel
theorem dX11_bestAim_18 : decode cX11_bestAim 18 = .ok (.aload_n 0, 1) := by decide +kernel
theorem dX11_bestAim_19 : decode cX11_bestAim 19 = .ok (.iload 6, 2) := by decide +kernel
theorem dX11_bestAim_21 : decode cX11_bestAim 21 = .ok (.invokevirtual 143, 3) := by decide +kernel
theorem dX11_bestAim_24 : decode cX11_bestAim 24 = .ok (.ireturn, 1) := by decide +kernel
theorem dX11_bestAim_25 : decode cX11_bestAim 25 = .ok (.iload 5, 2) := by decide +kernel
theorem dX11_bestAim_27 : decode cX11_bestAim 27 = .ok (.iconst 0, 1) := by decide +kernel
theorem dX11_bestAim_28 : decode cX11_bestAim 28 = .ok (.iconst 1, 1) := by decide +kernel
theorem dX11_bestAim_29 : decode cX11_bestAim 29 = .ok (.invokestatic 120, 3) := by decide +kernel
theorem dX11_bestAim_32 : decode cX11_bestAim 32 = .ok (.ifCond .ne 9, 3) := by decide +kernel
theorem dX11_bestAim_35 : decode cX11_bestAim 35 = .ok (.aload_n 0, 1) := by decide +kernel
theorem dX11_bestAim_36 : decode cX11_bestAim 36 = .ok (.iconst 5, 1) := by decide +kernel
theorem dX11_bestAim_37 : decode cX11_bestAim 37 = .ok (.invokevirtual 143, 3) := by decide +kernel
theorem dX11_bestAim_40 : decode cX11_bestAim 40 = .ok (.ireturn, 1) := by decide +kernel
theorem dX11_bestAim_41 : decode cX11_bestAim 41 = .ok (.aload_n 0, 1) := by decide +kernel
theorem dX11_bestAim_42 : decode cX11_bestAim 42 = .ok (.iload_n 1, 1) := by decide +kernel
theorem dX11_bestAim_43 : decode cX11_bestAim 43 = .ok (.iload_n 2, 1) := by decide +kernel
theorem dX11_bestAim_44 : decode cX11_bestAim 44 = .ok (.iload_n 3, 1) := by decide +kernel
theorem dX11_bestAim_45 : decode cX11_bestAim 45 = .ok (.iload 4, 2) := by decide +kernel
theorem dX11_bestAim_47 : decode cX11_bestAim 47 = .ok (.iconst 0, 1) := by decide +kernel
theorem dX11_bestAim_48 : decode cX11_bestAim 48 = .ok (.iconst 0, 1) := by decide +kernel
theorem dX11_bestAim_49 : decode cX11_bestAim 49 = .ok (.invokevirtual 312, 3) := by decide +kernel
theorem dX11_bestAim_52 : decode cX11_bestAim 52 = .ok (.aload_n 0, 1) := by decide +kernel
theorem dX11_bestAim_53 : decode cX11_bestAim 53 = .ok (.getfield 102, 3) := by decide +kernel
theorem dX11_bestAim_56 : decode cX11_bestAim 56 = .ok (.invokevirtual 355, 3) := by decide +kernel
theorem dX11_bestAim_59 : decode cX11_bestAim 59 = .ok (.aload_n 0, 1) := by decide +kernel
theorem dX11_bestAim_60 : decode cX11_bestAim 60 = .ok (.getfield 95, 3) := by decide +kernel
theorem dX11_bestAim_63 : decode cX11_bestAim 63 = .ok (.aload_n 0, 1) := by decide +kernel
theorem dX11_bestAim_64 : decode cX11_bestAim 64 = .ok (.getfield 37, 3) := by decide +kernel
theorem dX11_bestAim_67 : decode cX11_bestAim 67 = .ok (.aload_n 0, 1) := by decide +kernel
theorem dX11_bestAim_68 : decode cX11_bestAim 68 = .ok (.getfield 77, 3) := by decide +kernel
theorem dX11_bestAim_71 : decode cX11_bestAim 71 = .ok (.aload_n 0, 1) := by decide +kernel
theorem dX11_bestAim_72 : decode cX11_bestAim 72 = .ok (.getfield 102, 3) := by decide +kernel
theorem dX11_bestAim_75 : decode cX11_bestAim 75 = .ok (.invokevirtual 357, 3) := by decide +kernel
theorem dX11_bestAim_78 : decode cX11_bestAim 78 = .ok (.aload_n 0, 1) := by decide +kernel
theorem dX11_bestAim_79 : decode cX11_bestAim 79 = .ok (.aload_n 0, 1) := by decide +kernel
theorem dX11_bestAim_80 : decode cX11_bestAim 80 = .ok (.getfield 102, 3) := by decide +kernel
theorem dX11_bestAim_83 : decode cX11_bestAim 83 = .ok (.getfield 361, 3) := by decide +kernel
theorem dX11_bestAim_86 : decode cX11_bestAim 86 = .ok (.aload_n 0, 1) := by decide +kernel
theorem dX11_bestAim_87 : decode cX11_bestAim 87 = .ok (.getfield 102, 3) := by decide +kernel
theorem dX11_bestAim_90 : decode cX11_bestAim 90 = .ok (.getfield 362, 3) := by decide +kernel
theorem dX11_bestAim_93 : decode cX11_bestAim 93 = .ok (.invokevirtual 347, 3) := by decide +kernel
theorem dX11_bestAim_96 : decode cX11_bestAim 96 = .ok (.iload 5, 2) := by decide +kernel
theorem dX11_bestAim_98 : decode cX11_bestAim 98 = .ok (.ifCond .ne 16, 3) := by decide +kernel
theorem dX11_bestAim_101 : decode cX11_bestAim 101 = .ok (.aload_n 0, 1) := by decide +kernel
theorem dX11_bestAim_102 : decode cX11_bestAim 102 = .ok (.getfield 102, 3) := by decide +kernel
theorem dX11_bestAim_105 : decode cX11_bestAim 105 = .ok (.getfield 363, 3) := by decide +kernel
theorem dX11_bestAim_108 : decode cX11_bestAim 108 = .ok (.bipush 41, 2) := by decide +kernel
theorem dX11_bestAim_110 : decode cX11_bestAim 110 = .ok (.idiv, 1) := by decide +kernel
theorem dX11_bestAim_111 : decode cX11_bestAim 111 = .ok (.goto 13, 3) := by decide +kernel
theorem dX11_bestAim_114 : decode cX11_bestAim 114 = .ok (.aload_n 0, 1) := by decide +kernel
theorem dX11_bestAim_115 : decode cX11_bestAim 115 = .ok (.getfield 102, 3) := by decide +kernel
theorem dX11_bestAim_118 : decode cX11_bestAim 118 = .ok (.getfield 363, 3) := by decide +kernel
theorem dX11_bestAim_121 : decode cX11_bestAim 121 = .ok (.bipush 41, 2) := by decide +kernel
theorem dX11_bestAim_123 : decode cX11_bestAim 123 = .ok (.irem, 1) := by decide +kernel
theorem dX11_bestAim_124 : decode cX11_bestAim 124 = .ok (.istore 7, 2) := by decide +kernel
theorem dX11_bestAim_126 : decode cX11_bestAim 126 = .ok (.aload_n 0, 1) := by decide +kernel
theorem dX11_bestAim_127 : decode cX11_bestAim 127 = .ok (.iload 7, 2) := by decide +kernel
theorem dX11_bestAim_129 : decode cX11_bestAim 129 = .ok (.bipush 20, 2) := by decide +kernel
theorem dX11_bestAim_131 : decode cX11_bestAim 131 = .ok (.isub, 1) := by decide +kernel
theorem dX11_bestAim_132 : decode cX11_bestAim 132 = .ok (.invokevirtual 189, 3) := by decide +kernel
theorem dX11_bestAim_135 : decode cX11_bestAim 135 = .ok (.ireturn, 1) := by decide +kernel
theorem dX11_offerMean_0 : decode cX11_offerMean 0 = .ok (.aload_n 0, 1) := by decide +kernel
theorem dX11_offerMean_1 : decode cX11_offerMean 1 = .ok (.getfield 84, 3) := by decide +kernel
theorem dX11_offerMean_4 : decode cX11_offerMean 4 = .ok (.aload_n 0, 1) := by decide +kernel
theorem dX11_offerMean_5 : decode cX11_offerMean 5 = .ok (.getfield 37, 3) := by decide +kernel
theorem dX11_offerMean_8 : decode cX11_offerMean 8 = .ok (.aload_n 0, 1) := by decide +kernel
theorem dX11_offerMean_9 : decode cX11_offerMean 9 = .ok (.getfield 77, 3) := by decide +kernel
theorem dX11_offerMean_12 : decode cX11_offerMean 12 = .ok (.invokevirtual 337, 3) := by decide +kernel
theorem dX11_offerMean_15 : decode cX11_offerMean 15 = .ok (.aload_n 0, 1) := by decide +kernel
theorem dX11_offerMean_16 : decode cX11_offerMean 16 = .ok (.getfield 102, 3) := by decide +kernel
theorem dX11_offerMean_19 : decode cX11_offerMean 19 = .ok (.iload_n 1, 1) := by decide +kernel
theorem dX11_offerMean_20 : decode cX11_offerMean 20 = .ok (.aload_n 0, 1) := by decide +kernel
theorem dX11_offerMean_21 : decode cX11_offerMean 21 = .ok (.getfield 84, 3) := by decide +kernel
theorem dX11_offerMean_24 : decode cX11_offerMean 24 = .ok (.invokevirtual 351, 3) := by decide +kernel
theorem dX11_offerMean_27 : decode cX11_offerMean 27 = .ok (.aload_n 0, 1) := by decide +kernel
theorem dX11_offerMean_28 : decode cX11_offerMean 28 = .ok (.getfield 84, 3) := by decide +kernel
theorem dX11_offerMean_31 : decode cX11_offerMean 31 = .ok (.getfield 344, 3) := by decide +kernel
theorem dX11_offerMean_34 : decode cX11_offerMean 34 = .ok (.i2l, 1) := by decide +kernel
theorem dX11_offerMean_35 : decode cX11_offerMean 35 = .ok (.invokevirtual 380, 3) := by decide +kernel
theorem dX11_offerMean_38 : decode cX11_offerMean 38 = .ok (.return_, 1) := by decide +kernel
theorem dX11_answerBest_0 : decode cX11_answerBest 0 = .ok (.aload_n 0, 1) := by decide +kernel
theorem dX11_answerBest_1 : decode cX11_answerBest 1 = .ok (.aload_n 0, 1) := by decide +kernel
theorem dX11_answerBest_2 : decode cX11_answerBest 2 = .ok (.getfield 102, 3) := by decide +kernel
theorem dX11_answerBest_5 : decode cX11_answerBest 5 = .ok (.getfield 361, 3) := by decide +kernel
theorem dX11_answerBest_8 : decode cX11_answerBest 8 = .ok (.aload_n 0, 1) := by decide +kernel
theorem dX11_answerBest_9 : decode cX11_answerBest 9 = .ok (.getfield 102, 3) := by decide +kernel
theorem dX11_answerBest_12 : decode cX11_answerBest 12 = .ok (.getfield 362, 3) := by decide +kernel
theorem dX11_answerBest_15 : decode cX11_answerBest 15 = .ok (.invokevirtual 347, 3) := by decide +kernel
theorem dX11_answerBest_18 : decode cX11_answerBest 18 = .ok (.aload_n 0, 1) := by decide +kernel
theorem dX11_answerBest_19 : decode cX11_answerBest 19 = .ok (.aload_n 0, 1) := by decide +kernel
theorem dX11_answerBest_20 : decode cX11_answerBest 20 = .ok (.getfield 102, 3) := by decide +kernel
theorem dX11_answerBest_23 : decode cX11_answerBest 23 = .ok (.getfield 363, 3) := by decide +kernel
theorem dX11_answerBest_26 : decode cX11_answerBest 26 = .ok (.invokevirtual 189, 3) := by decide +kernel
theorem dX11_answerBest_29 : decode cX11_answerBest 29 = .ok (.ireturn, 1) := by decide +kernel
theorem dX11_bestPuff_0 : decode cX11_bestPuff 0 = .ok (.aload_n 0, 1) := by decide +kernel
theorem dX11_bestPuff_1 : decode cX11_bestPuff 1 = .ok (.iload_n 1, 1) := by decide +kernel
theorem dX11_bestPuff_2 : decode cX11_bestPuff 2 = .ok (.iload_n 2, 1) := by decide +kernel
theorem dX11_bestPuff_3 : decode cX11_bestPuff 3 = .ok (.iconst 1, 1) := by decide +kernel
theorem dX11_bestPuff_4 : decode cX11_bestPuff 4 = .ok (.iload_n 3, 1) := by decide +kernel
theorem dX11_bestPuff_5 : decode cX11_bestPuff 5 = .ok (.iload 4, 2) := by decide +kernel
theorem dX11_bestPuff_7 : decode cX11_bestPuff 7 = .ok (.iload 5, 2) := by decide +kernel
theorem dX11_bestPuff_9 : decode cX11_bestPuff 9 = .ok (.invokevirtual 308, 3) := by decide +kernel
theorem dX11_bestPuff_12 : decode cX11_bestPuff 12 = .ok (.istore 6, 2) := by decide +kernel
theorem dX11_bestPuff_14 : decode cX11_bestPuff 14 = .ok (.iload 6, 2) := by decide +kernel
theorem dX11_bestPuff_16 : decode cX11_bestPuff 16 = .ok (.ifCond .eq 10, 3) := by decide +kernel
theorem dX11_bestPuff_19 : decode cX11_bestPuff 19 = .ok (.aload_n 0, 1) := by decide +kernel
theorem dX11_bestPuff_20 : decode cX11_bestPuff 20 = .ok (.iload 6, 2) := by decide +kernel
theorem dX11_bestPuff_22 : decode cX11_bestPuff 22 = .ok (.invokevirtual 143, 3) := by decide +kernel
theorem dX11_bestPuff_25 : decode cX11_bestPuff 25 = .ok (.ireturn, 1) := by decide +kernel
theorem dX11_bestPuff_26 : decode cX11_bestPuff 26 = .ok (.aload_n 0, 1) := by decide +kernel
theorem dX11_bestPuff_27 : decode cX11_bestPuff 27 = .ok (.getfield 102, 3) := by decide +kernel
theorem dX11_bestPuff_30 : decode cX11_bestPuff 30 = .ok (.invokevirtual 355, 3) := by decide +kernel
theorem dX11_bestPuff_33 : decode cX11_bestPuff 33 = .ok (.iconst 1, 1) := by decide +kernel
theorem dX11_bestPuff_34 : decode cX11_bestPuff 34 = .ok (.istore 7, 2) := by decide +kernel
theorem dX11_bestPuff_36 : decode cX11_bestPuff 36 = .ok (.iload 7, 2) := by decide +kernel
theorem dX11_bestPuff_38 : decode cX11_bestPuff 38 = .ok (.aload_n 0, 1) := by decide +kernel
theorem dX11_bestPuff_39 : decode cX11_bestPuff 39 = .ok (.getfield 37, 3) := by decide +kernel
theorem dX11_bestPuff_42 : decode cX11_bestPuff 42 = .ok (.getfield 265, 3) := by decide +kernel
theorem dX11_bestPuff_45 : decode cX11_bestPuff 45 = .ok (.iload_n 1, 1) := by decide +kernel
theorem dX11_bestPuff_46 : decode cX11_bestPuff 46 = .ok (.iaload, 1) := by decide +kernel
theorem dX11_bestPuff_47 : decode cX11_bestPuff 47 = .ok (.if_icmp .gt 28, 3) := by decide +kernel
theorem dX11_bestPuff_50 : decode cX11_bestPuff 50 = .ok (.aload_n 0, 1) := by decide +kernel
theorem dX11_bestPuff_51 : decode cX11_bestPuff 51 = .ok (.iload_n 1, 1) := by decide +kernel
theorem dX11_bestPuff_52 : decode cX11_bestPuff 52 = .ok (.iload_n 2, 1) := by decide +kernel
theorem dX11_bestPuff_53 : decode cX11_bestPuff 53 = .ok (.iload 7, 2) := by decide +kernel
theorem dX11_bestPuff_55 : decode cX11_bestPuff 55 = .ok (.iload_n 3, 1) := by decide +kernel
theorem dX11_bestPuff_56 : decode cX11_bestPuff 56 = .ok (.iload 4, 2) := by decide +kernel
theorem dX11_bestPuff_58 : decode cX11_bestPuff 58 = .ok (.iload 5, 2) := by decide +kernel
theorem dX11_bestPuff_60 : decode cX11_bestPuff 60 = .ok (.invokevirtual 312, 3) := by decide +kernel
theorem dX11_bestPuff_63 : decode cX11_bestPuff 63 = .ok (.aload_n 0, 1) := by decide +kernel
theorem dX11_bestPuff_64 : decode cX11_bestPuff 64 = .ok (.iload 7, 2) := by decide +kernel
theorem dX11_bestPuff_66 : decode cX11_bestPuff 66 = .ok (.invokevirtual 366, 3) := by decide +kernel
theorem dX11_bestPuff_69 : decode cX11_bestPuff 69 = .ok (.iinc 7 1, 3) := by decide +kernel
theorem dX11_bestPuff_72 : decode cX11_bestPuff 72 = .ok (.goto (-36), 3) := by decide +kernel
theorem dX11_bestPuff_75 : decode cX11_bestPuff 75 = .ok (.aload_n 0, 1) := by decide +kernel
theorem dX11_bestPuff_76 : decode cX11_bestPuff 76 = .ok (.invokevirtual 369, 3) := by decide +kernel
theorem dX11_bestPuff_79 : decode cX11_bestPuff 79 = .ok (.ireturn, 1) := by decide +kernel
theorem dX11_bestBeat_0 : decode cX11_bestBeat 0 = .ok (.aload_n 0, 1) := by decide +kernel
theorem dX11_bestBeat_1 : decode cX11_bestBeat 1 = .ok (.iload_n 1, 1) := by decide +kernel
theorem dX11_bestBeat_2 : decode cX11_bestBeat 2 = .ok (.iload_n 2, 1) := by decide +kernel
theorem dX11_bestBeat_3 : decode cX11_bestBeat 3 = .ok (.iload_n 3, 1) := by decide +kernel
theorem dX11_bestBeat_4 : decode cX11_bestBeat 4 = .ok (.iconst 0, 1) := by decide +kernel
theorem dX11_bestBeat_5 : decode cX11_bestBeat 5 = .ok (.iload 4, 2) := by decide +kernel
theorem dX11_bestBeat_7 : decode cX11_bestBeat 7 = .ok (.iload 5, 2) := by decide +kernel
theorem dX11_bestBeat_9 : decode cX11_bestBeat 9 = .ok (.invokevirtual 308, 3) := by decide +kernel
theorem dX11_bestBeat_12 : decode cX11_bestBeat 12 = .ok (.istore 6, 2) := by decide +kernel
theorem dX11_bestBeat_14 : decode cX11_bestBeat 14 = .ok (.iload 6, 2) := by decide +kernel
theorem dX11_bestBeat_16 : decode cX11_bestBeat 16 = .ok (.ifCond .eq 10, 3) := by decide +kernel
theorem dX11_bestBeat_19 : decode cX11_bestBeat 19 = .ok (.aload_n 0, 1) := by decide +kernel
theorem dX11_bestBeat_20 : decode cX11_bestBeat 20 = .ok (.iload 6, 2) := by decide +kernel
theorem dX11_bestBeat_22 : decode cX11_bestBeat 22 = .ok (.invokevirtual 143, 3) := by decide +kernel
theorem dX11_bestBeat_25 : decode cX11_bestBeat 25 = .ok (.ireturn, 1) := by decide +kernel
theorem dX11_bestBeat_26 : decode cX11_bestBeat 26 = .ok (.aload_n 0, 1) := by decide +kernel
theorem dX11_bestBeat_27 : decode cX11_bestBeat 27 = .ok (.getfield 102, 3) := by decide +kernel
theorem dX11_bestBeat_30 : decode cX11_bestBeat 30 = .ok (.invokevirtual 355, 3) := by decide +kernel
theorem dX11_bestBeat_33 : decode cX11_bestBeat 33 = .ok (.iconst 0, 1) := by decide +kernel
theorem dX11_bestBeat_34 : decode cX11_bestBeat 34 = .ok (.istore 7, 2) := by decide +kernel
theorem dX11_bestBeat_36 : decode cX11_bestBeat 36 = .ok (.iload 7, 2) := by decide +kernel
theorem dX11_bestBeat_38 : decode cX11_bestBeat 38 = .ok (.iconst 3, 1) := by decide +kernel
theorem dX11_bestBeat_39 : decode cX11_bestBeat 39 = .ok (.if_icmp .gt 28, 3) := by decide +kernel
theorem dX11_bestBeat_42 : decode cX11_bestBeat 42 = .ok (.aload_n 0, 1) := by decide +kernel
theorem dX11_bestBeat_43 : decode cX11_bestBeat 43 = .ok (.iload_n 1, 1) := by decide +kernel
theorem dX11_bestBeat_44 : decode cX11_bestBeat 44 = .ok (.iload_n 2, 1) := by decide +kernel
theorem dX11_bestBeat_45 : decode cX11_bestBeat 45 = .ok (.iload_n 3, 1) := by decide +kernel
theorem dX11_bestBeat_46 : decode cX11_bestBeat 46 = .ok (.iload 7, 2) := by decide +kernel
theorem dX11_bestBeat_48 : decode cX11_bestBeat 48 = .ok (.iload 4, 2) := by decide +kernel
theorem dX11_bestBeat_50 : decode cX11_bestBeat 50 = .ok (.iload 5, 2) := by decide +kernel
theorem dX11_bestBeat_52 : decode cX11_bestBeat 52 = .ok (.invokevirtual 312, 3) := by decide +kernel
theorem dX11_bestBeat_55 : decode cX11_bestBeat 55 = .ok (.aload_n 0, 1) := by decide +kernel
theorem dX11_bestBeat_56 : decode cX11_bestBeat 56 = .ok (.iload 7, 2) := by decide +kernel
theorem dX11_bestBeat_58 : decode cX11_bestBeat 58 = .ok (.invokevirtual 366, 3) := by decide +kernel
theorem dX11_bestBeat_61 : decode cX11_bestBeat 61 = .ok (.iinc 7 1, 3) := by decide +kernel
theorem dX11_bestBeat_64 : decode cX11_bestBeat 64 = .ok (.goto (-28), 3) := by decide +kernel
theorem dX11_bestBeat_67 : decode cX11_bestBeat 67 = .ok (.aload_n 0, 1) := by decide +kernel
theorem dX11_bestBeat_68 : decode cX11_bestBeat 68 = .ok (.invokevirtual 369, 3) := by decide +kernel
theorem dX11_bestBeat_71 : decode cX11_bestBeat 71 = .ok (.ireturn, 1) := by decide +kernel
theorem dX11_longest_0 : decode cX11_longest 0 = .ok (.aload_n 0, 1) := by decide +kernel
theorem dX11_longest_1 : decode cX11_longest 1 = .ok (.iload_n 1, 1) := by decide +kernel
theorem dX11_longest_2 : decode cX11_longest 2 = .ok (.iload_n 2, 1) := by decide +kernel
theorem dX11_longest_3 : decode cX11_longest 3 = .ok (.iload_n 3, 1) := by decide +kernel
theorem dX11_longest_4 : decode cX11_longest 4 = .ok (.iload 4, 2) := by decide +kernel
theorem dX11_longest_6 : decode cX11_longest 6 = .ok (.iload 5, 2) := by decide +kernel
theorem dX11_longest_8 : decode cX11_longest 8 = .ok (.iload 6, 2) := by decide +kernel
theorem dX11_longest_10 : decode cX11_longest 10 = .ok (.invokevirtual 308, 3) := by decide +kernel
theorem dX11_longest_13 : decode cX11_longest 13 = .ok (.istore 7, 2) := by decide +kernel
theorem dX11_longest_15 : decode cX11_longest 15 = .ok (.iload 7, 2) := by decide +kernel
theorem dX11_longest_17 : decode cX11_longest 17 = .ok (.ifCond .eq 10, 3) := by decide +kernel
theorem dX11_longest_20 : decode cX11_longest 20 = .ok (.aload_n 0, 1) := by decide +kernel
theorem dX11_longest_21 : decode cX11_longest 21 = .ok (.iload 7, 2) := by decide +kernel
theorem dX11_longest_23 : decode cX11_longest 23 = .ok (.invokevirtual 143, 3) := by decide +kernel
theorem dX11_longest_26 : decode cX11_longest 26 = .ok (.ireturn, 1) := by decide +kernel
theorem dX11_longest_27 : decode cX11_longest 27 = .ok (.aload_n 0, 1) := by decide +kernel
theorem dX11_longest_28 : decode cX11_longest 28 = .ok (.getfield 102, 3) := by decide +kernel
theorem dX11_longest_31 : decode cX11_longest 31 = .ok (.invokevirtual 355, 3) := by decide +kernel
theorem dX11_longest_34 : decode cX11_longest 34 = .ok (.bipush 12, 2) := by decide +kernel
theorem dX11_longest_36 : decode cX11_longest 36 = .ok (.istore 8, 2) := by decide +kernel
theorem dX11_longest_38 : decode cX11_longest 38 = .ok (.iload 8, 2) := by decide +kernel
theorem dX11_longest_40 : decode cX11_longest 40 = .ok (.bipush 48, 2) := by decide +kernel
theorem dX11_longest_42 : decode cX11_longest 42 = .ok (.if_icmp .gt 37, 3) := by decide +kernel
theorem dX11_longest_45 : decode cX11_longest 45 = .ok (.aload_n 0, 1) := by decide +kernel
theorem dX11_longest_46 : decode cX11_longest 46 = .ok (.iload_n 1, 1) := by decide +kernel
theorem dX11_longest_47 : decode cX11_longest 47 = .ok (.iload_n 2, 1) := by decide +kernel
theorem dX11_longest_48 : decode cX11_longest 48 = .ok (.iload_n 3, 1) := by decide +kernel
theorem dX11_longest_49 : decode cX11_longest 49 = .ok (.iload 4, 2) := by decide +kernel
theorem dX11_longest_51 : decode cX11_longest 51 = .ok (.iload 5, 2) := by decide +kernel
theorem dX11_longest_53 : decode cX11_longest 53 = .ok (.iload 6, 2) := by decide +kernel
theorem dX11_longest_55 : decode cX11_longest 55 = .ok (.invokevirtual 312, 3) := by decide +kernel
theorem dX11_longest_58 : decode cX11_longest 58 = .ok (.aload_n 0, 1) := by decide +kernel
theorem dX11_longest_59 : decode cX11_longest 59 = .ok (.getfield 77, 3) := by decide +kernel
theorem dX11_longest_62 : decode cX11_longest 62 = .ok (.iload 8, 2) := by decide +kernel
theorem dX11_longest_64 : decode cX11_longest 64 = .ok (.putfield 373, 3) := by decide +kernel
theorem dX11_longest_67 : decode cX11_longest 67 = .ok (.aload_n 0, 1) := by decide +kernel
theorem dX11_longest_68 : decode cX11_longest 68 = .ok (.iload 8, 2) := by decide +kernel
theorem dX11_longest_70 : decode cX11_longest 70 = .ok (.invokevirtual 366, 3) := by decide +kernel
theorem dX11_longest_73 : decode cX11_longest 73 = .ok (.iinc 8 1, 3) := by decide +kernel
theorem dX11_longest_76 : decode cX11_longest 76 = .ok (.goto (-38), 3) := by decide +kernel
theorem dX11_longest_79 : decode cX11_longest 79 = .ok (.aload_n 0, 1) := by decide +kernel
theorem dX11_longest_80 : decode cX11_longest 80 = .ok (.invokevirtual 369, 3) := by decide +kernel
theorem dX11_longest_83 : decode cX11_longest 83 = .ok (.ireturn, 1) := by decide +kernel
theorem dX11_bestPea_0 : decode cX11_bestPea 0 = .ok (.aload_n 0, 1) := by decide +kernel
theorem dX11_bestPea_1 : decode cX11_bestPea 1 = .ok (.iload_n 1, 1) := by decide +kernel
theorem dX11_bestPea_2 : decode cX11_bestPea 2 = .ok (.invokevirtual 262, 3) := by decide +kernel
theorem dX11_bestPea_5 : decode cX11_bestPea 5 = .ok (.ifCond .ne 9, 3) := by decide +kernel
theorem dX11_bestPea_8 : decode cX11_bestPea 8 = .ok (.aload_n 0, 1) := by decide +kernel
theorem dX11_bestPea_9 : decode cX11_bestPea 9 = .ok (.iconst 2, 1) := by decide +kernel
theorem dX11_bestPea_10 : decode cX11_bestPea 10 = .ok (.invokevirtual 143, 3) := by decide +kernel
theorem dX11_bestPea_13 : decode cX11_bestPea 13 = .ok (.ireturn, 1) := by decide +kernel
theorem dX11_bestPea_14 : decode cX11_bestPea 14 = .ok (.iload_n 2, 1) := by decide +kernel
theorem dX11_bestPea_15 : decode cX11_bestPea 15 = .ok (.iconst 1, 1) := by decide +kernel
theorem dX11_bestPea_16 : decode cX11_bestPea 16 = .ok (.aload_n 0, 1) := by decide +kernel
theorem dX11_bestPea_17 : decode cX11_bestPea 17 = .ok (.getfield 37, 3) := by decide +kernel
theorem dX11_bestPea_20 : decode cX11_bestPea 20 = .ok (.getfield 265, 3) := by decide +kernel
theorem dX11_bestPea_23 : decode cX11_bestPea 23 = .ok (.iload_n 1, 1) := by decide +kernel
theorem dX11_bestPea_24 : decode cX11_bestPea 24 = .ok (.iaload, 1) := by decide +kernel
theorem dX11_bestPea_25 : decode cX11_bestPea 25 = .ok (.invokestatic 120, 3) := by decide +kernel
theorem dX11_bestPea_28 : decode cX11_bestPea 28 = .ok (.ifCond .eq 12, 3) := by decide +kernel
theorem dX11_bestPea_31 : decode cX11_bestPea 31 = .ok (.iload_n 3, 1) := by decide +kernel
theorem dX11_bestPea_32 : decode cX11_bestPea 32 = .ok (.iconst 0, 1) := by decide +kernel
theorem dX11_bestPea_33 : decode cX11_bestPea 33 = .ok (.iconst 3, 1) := by decide +kernel
theorem dX11_bestPea_34 : decode cX11_bestPea 34 = .ok (.invokestatic 120, 3) := by decide +kernel
theorem dX11_bestPea_37 : decode cX11_bestPea 37 = .ok (.ifCond .ne 9, 3) := by decide +kernel
theorem dX11_bestPea_40 : decode cX11_bestPea 40 = .ok (.aload_n 0, 1) := by decide +kernel
theorem dX11_bestPea_41 : decode cX11_bestPea 41 = .ok (.iconst 5, 1) := by decide +kernel
theorem dX11_bestPea_42 : decode cX11_bestPea 42 = .ok (.invokevirtual 143, 3) := by decide +kernel
theorem dX11_bestPea_45 : decode cX11_bestPea 45 = .ok (.ireturn, 1) := by decide +kernel
theorem dX11_bestPea_46 : decode cX11_bestPea 46 = .ok (.aload_n 0, 1) := by decide +kernel
theorem dX11_bestPea_47 : decode cX11_bestPea 47 = .ok (.getfield 37, 3) := by decide +kernel
theorem dX11_bestPea_50 : decode cX11_bestPea 50 = .ok (.getfield 186, 3) := by decide +kernel
theorem dX11_bestPea_53 : decode cX11_bestPea 53 = .ok (.ifCond .ne 10, 3) := by decide +kernel
theorem dX11_bestPea_56 : decode cX11_bestPea 56 = .ok (.aload_n 0, 1) := by decide +kernel
theorem dX11_bestPea_57 : decode cX11_bestPea 57 = .ok (.bipush 8, 2) := by decide +kernel
theorem dX11_bestPea_59 : decode cX11_bestPea 59 = .ok (.invokevirtual 143, 3) := by decide +kernel
theorem dX11_bestPea_62 : decode cX11_bestPea 62 = .ok (.ireturn, 1) := by decide +kernel
theorem dX11_bestPea_63 : decode cX11_bestPea 63 = .ok (.aload_n 0, 1) := by decide +kernel
theorem dX11_bestPea_64 : decode cX11_bestPea 64 = .ok (.getfield 102, 3) := by decide +kernel
theorem dX11_bestPea_67 : decode cX11_bestPea 67 = .ok (.invokevirtual 355, 3) := by decide +kernel
theorem dX11_bestPea_70 : decode cX11_bestPea 70 = .ok (.iconst 0, 1) := by decide +kernel
theorem dX11_bestPea_71 : decode cX11_bestPea 71 = .ok (.istore 4, 2) := by decide +kernel
theorem dX11_bestPea_73 : decode cX11_bestPea 73 = .ok (.iload 4, 2) := by decide +kernel
theorem dX11_bestPea_75 : decode cX11_bestPea 75 = .ok (.aload_n 0, 1) := by decide +kernel
theorem dX11_bestPea_76 : decode cX11_bestPea 76 = .ok (.getfield 37, 3) := by decide +kernel
theorem dX11_bestPea_79 : decode cX11_bestPea 79 = .ok (.getfield 186, 3) := by decide +kernel
theorem dX11_bestPea_82 : decode cX11_bestPea 82 = .ok (.if_icmp .ge 26, 3) := by decide +kernel
theorem dX11_bestPea_85 : decode cX11_bestPea 85 = .ok (.aload_n 0, 1) := by decide +kernel
theorem dX11_bestPea_86 : decode cX11_bestPea 86 = .ok (.iload_n 1, 1) := by decide +kernel
theorem dX11_bestPea_87 : decode cX11_bestPea 87 = .ok (.iload 4, 2) := by decide +kernel
theorem dX11_bestPea_89 : decode cX11_bestPea 89 = .ok (.iload_n 2, 1) := by decide +kernel
theorem dX11_bestPea_90 : decode cX11_bestPea 90 = .ok (.iload_n 3, 1) := by decide +kernel
theorem dX11_bestPea_91 : decode cX11_bestPea 91 = .ok (.iconst 0, 1) := by decide +kernel
theorem dX11_bestPea_92 : decode cX11_bestPea 92 = .ok (.iconst 0, 1) := by decide +kernel
theorem dX11_bestPea_93 : decode cX11_bestPea 93 = .ok (.invokevirtual 312, 3) := by decide +kernel
theorem dX11_bestPea_96 : decode cX11_bestPea 96 = .ok (.aload_n 0, 1) := by decide +kernel
theorem dX11_bestPea_97 : decode cX11_bestPea 97 = .ok (.iload 4, 2) := by decide +kernel
theorem dX11_bestPea_99 : decode cX11_bestPea 99 = .ok (.invokevirtual 366, 3) := by decide +kernel
theorem dX11_bestPea_102 : decode cX11_bestPea 102 = .ok (.iinc 4 1, 3) := by decide +kernel
theorem dX11_bestPea_105 : decode cX11_bestPea 105 = .ok (.goto (-32), 3) := by decide +kernel
theorem dX11_bestPea_108 : decode cX11_bestPea 108 = .ok (.aload_n 0, 1) := by decide +kernel
theorem dX11_bestPea_109 : decode cX11_bestPea 109 = .ok (.invokevirtual 369, 3) := by decide +kernel
theorem dX11_bestPea_112 : decode cX11_bestPea 112 = .ok (.ireturn, 1) := by decide +kernel
theorem dX11_sumOfSeries_0 : decode cX11_sumOfSeries 0 = .ok (.lconst 0, 1) := by decide +kernel
theorem dX11_sumOfSeries_1 : decode cX11_sumOfSeries 1 = .ok (.lstore_n 3, 1) := by decide +kernel
theorem dX11_sumOfSeries_2 : decode cX11_sumOfSeries 2 = .ok (.aload_n 0, 1) := by decide +kernel
theorem dX11_sumOfSeries_3 : decode cX11_sumOfSeries 3 = .ok (.getfield 77, 3) := by decide +kernel
theorem dX11_sumOfSeries_6 : decode cX11_sumOfSeries 6 = .ok (.iconst 0, 1) := by decide +kernel
theorem dX11_sumOfSeries_7 : decode cX11_sumOfSeries 7 = .ok (.putfield 486, 3) := by decide +kernel
theorem dX11_sumOfSeries_10 : decode cX11_sumOfSeries 10 = .ok (.iconst 1, 1) := by decide +kernel
theorem dX11_sumOfSeries_11 : decode cX11_sumOfSeries 11 = .ok (.istore 5, 2) := by decide +kernel
theorem dX11_sumOfSeries_13 : decode cX11_sumOfSeries 13 = .ok (.iload 5, 2) := by decide +kernel
theorem dX11_sumOfSeries_15 : decode cX11_sumOfSeries 15 = .ok (.iload_n 1, 1) := by decide +kernel
theorem dX11_sumOfSeries_16 : decode cX11_sumOfSeries 16 = .ok (.if_icmp .gt 84, 3) := by decide +kernel
theorem dX11_sumOfSeries_19 : decode cX11_sumOfSeries 19 = .ok (.aload_n 0, 1) := by decide +kernel
theorem dX11_sumOfSeries_20 : decode cX11_sumOfSeries 20 = .ok (.getfield 84, 3) := by decide +kernel
theorem dX11_sumOfSeries_23 : decode cX11_sumOfSeries 23 = .ok (.aload_n 0, 1) := by decide +kernel
theorem dX11_sumOfSeries_24 : decode cX11_sumOfSeries 24 = .ok (.getfield 37, 3) := by decide +kernel
theorem dX11_sumOfSeries_27 : decode cX11_sumOfSeries 27 = .ok (.aload_n 0, 1) := by decide +kernel
theorem dX11_sumOfSeries_28 : decode cX11_sumOfSeries 28 = .ok (.getfield 77, 3) := by decide +kernel
theorem dX11_sumOfSeries_31 : decode cX11_sumOfSeries 31 = .ok (.invokevirtual 337, 3) := by decide +kernel
theorem dX11_sumOfSeries_34 : decode cX11_sumOfSeries 34 = .ok (.lload_n 3, 1) := by decide +kernel
theorem dX11_sumOfSeries_35 : decode cX11_sumOfSeries 35 = .ok (.aload_n 0, 1) := by decide +kernel
theorem dX11_sumOfSeries_36 : decode cX11_sumOfSeries 36 = .ok (.getfield 84, 3) := by decide +kernel
theorem dX11_sumOfSeries_39 : decode cX11_sumOfSeries 39 = .ok (.invokevirtual 351, 3) := by decide +kernel
theorem dX11_sumOfSeries_42 : decode cX11_sumOfSeries 42 = .ok (.ladd, 1) := by decide +kernel
theorem dX11_sumOfSeries_43 : decode cX11_sumOfSeries 43 = .ok (.lstore_n 3, 1) := by decide +kernel
theorem dX11_sumOfSeries_44 : decode cX11_sumOfSeries 44 = .ok (.aload_n 0, 1) := by decide +kernel
theorem dX11_sumOfSeries_45 : decode cX11_sumOfSeries 45 = .ok (.getfield 77, 3) := by decide +kernel
theorem dX11_sumOfSeries_48 : decode cX11_sumOfSeries 48 = .ok (.getfield 290, 3) := by decide +kernel
theorem dX11_sumOfSeries_51 : decode cX11_sumOfSeries 51 = .ok (.ifCond .ne 24, 3) := by decide +kernel
theorem dX11_sumOfSeries_54 : decode cX11_sumOfSeries 54 = .ok (.aload_n 0, 1) := by decide +kernel
theorem dX11_sumOfSeries_55 : decode cX11_sumOfSeries 55 = .ok (.getfield 77, 3) := by decide +kernel
theorem dX11_sumOfSeries_58 : decode cX11_sumOfSeries 58 = .ok (.bipush 20, 2) := by decide +kernel
theorem dX11_sumOfSeries_60 : decode cX11_sumOfSeries 60 = .ok (.aload_n 0, 1) := by decide +kernel
theorem dX11_sumOfSeries_61 : decode cX11_sumOfSeries 61 = .ok (.getfield 77, 3) := by decide +kernel
theorem dX11_sumOfSeries_64 : decode cX11_sumOfSeries 64 = .ok (.getfield 486, 3) := by decide +kernel
theorem dX11_sumOfSeries_67 : decode cX11_sumOfSeries 67 = .ok (.iconst 1, 1) := by decide +kernel
theorem dX11_sumOfSeries_68 : decode cX11_sumOfSeries 68 = .ok (.iadd, 1) := by decide +kernel
theorem dX11_sumOfSeries_69 : decode cX11_sumOfSeries 69 = .ok (.invokestatic 192, 3) := by decide +kernel
theorem dX11_sumOfSeries_72 : decode cX11_sumOfSeries 72 = .ok (.putfield 486, 3) := by decide +kernel
theorem dX11_sumOfSeries_75 : decode cX11_sumOfSeries 75 = .ok (.iload_n 2, 1) := by decide +kernel
theorem dX11_sumOfSeries_76 : decode cX11_sumOfSeries 76 = .ok (.ifCond .le 18, 3) := by decide +kernel
theorem dX11_sumOfSeries_79 : decode cX11_sumOfSeries 79 = .ok (.iload 5, 2) := by decide +kernel
theorem dX11_sumOfSeries_81 : decode cX11_sumOfSeries 81 = .ok (.iload_n 2, 1) := by decide +kernel
theorem dX11_sumOfSeries_82 : decode cX11_sumOfSeries 82 = .ok (.irem, 1) := by decide +kernel
theorem dX11_sumOfSeries_83 : decode cX11_sumOfSeries 83 = .ok (.ifCond .ne 11, 3) := by decide +kernel
theorem dX11_sumOfSeries_86 : decode cX11_sumOfSeries 86 = .ok (.aload_n 0, 1) := by decide +kernel
theorem dX11_sumOfSeries_87 : decode cX11_sumOfSeries 87 = .ok (.getfield 77, 3) := by decide +kernel
theorem dX11_sumOfSeries_90 : decode cX11_sumOfSeries 90 = .ok (.iconst 0, 1) := by decide +kernel
theorem dX11_sumOfSeries_91 : decode cX11_sumOfSeries 91 = .ok (.putfield 486, 3) := by decide +kernel
theorem dX11_sumOfSeries_94 : decode cX11_sumOfSeries 94 = .ok (.iinc 5 1, 3) := by decide +kernel
theorem dX11_sumOfSeries_97 : decode cX11_sumOfSeries 97 = .ok (.goto (-84), 3) := by decide +kernel
theorem dX11_sumOfSeries_100 : decode cX11_sumOfSeries 100 = .ok (.lload_n 3, 1) := by decide +kernel
theorem dX11_sumOfSeries_101 : decode cX11_sumOfSeries 101 = .ok (.lreturn, 1) := by decide +kernel
theorem dX11_series_0 : decode cX11_series 0 = .ok (.aload_n 0, 1) := by decide +kernel
theorem dX11_series_1 : decode cX11_series 1 = .ok (.iload_n 1, 1) := by decide +kernel
theorem dX11_series_2 : decode cX11_series 2 = .ok (.iload_n 2, 1) := by decide +kernel
theorem dX11_series_3 : decode cX11_series 3 = .ok (.iload_n 3, 1) := by decide +kernel
theorem dX11_series_4 : decode cX11_series 4 = .ok (.iconst 2, 1) := by decide +kernel
theorem dX11_series_5 : decode cX11_series 5 = .ok (.iload 4, 2) := by decide +kernel
theorem dX11_series_7 : decode cX11_series 7 = .ok (.iload 5, 2) := by decide +kernel
theorem dX11_series_9 : decode cX11_series 9 = .ok (.invokevirtual 308, 3) := by decide +kernel
theorem dX11_series_12 : decode cX11_series 12 = .ok (.istore 8, 2) := by decide +kernel
theorem dX11_series_14 : decode cX11_series 14 = .ok (.iload 8, 2) := by decide +kernel
theorem dX11_series_16 : decode cX11_series 16 = .ok (.ifCond .eq 10, 3) := by decide +kernel
theorem dX11_series_19 : decode cX11_series 19 = .ok (.aload_n 0, 1) := by decide +kernel
theorem dX11_series_20 : decode cX11_series 20 = .ok (.iload 8, 2) := by decide +kernel
theorem dX11_series_22 : decode cX11_series 22 = .ok (.invokevirtual 124, 3) := by decide +kernel
theorem dX11_series_25 : decode cX11_series 25 = .ok (.ireturn, 1) := by decide +kernel
theorem dX11_series_26 : decode cX11_series 26 = .ok (.iload 6, 2) := by decide +kernel
theorem dX11_series_28 : decode cX11_series 28 = .ok (.iconst 1, 1) := by decide +kernel
theorem dX11_series_29 : decode cX11_series 29 = .ok (.bipush 30, 2) := by decide +kernel
theorem dX11_series_31 : decode cX11_series 31 = .ok (.invokestatic 120, 3) := by decide +kernel
theorem dX11_series_34 : decode cX11_series 34 = .ok (.ifCond .eq 14, 3) := by decide +kernel
theorem dX11_series_37 : decode cX11_series 37 = .ok (.iload 7, 2) := by decide +kernel
theorem dX11_series_39 : decode cX11_series 39 = .ok (.iconst 1, 1) := by decide +kernel
theorem dX11_series_40 : decode cX11_series 40 = .ok (.bipush 30, 2) := by decide +kernel
theorem dX11_series_42 : decode cX11_series 42 = .ok (.invokestatic 120, 3) := by decide +kernel
theorem dX11_series_45 : decode cX11_series 45 = .ok (.ifCond .ne 9, 3) := by decide +kernel
theorem dX11_series_48 : decode cX11_series 48 = .ok (.aload_n 0, 1) := by decide +kernel
theorem dX11_series_49 : decode cX11_series 49 = .ok (.iconst 5, 1) := by decide +kernel
theorem dX11_series_50 : decode cX11_series 50 = .ok (.invokevirtual 124, 3) := by decide +kernel
theorem dX11_series_53 : decode cX11_series 53 = .ok (.ireturn, 1) := by decide +kernel
theorem dX11_series_54 : decode cX11_series 54 = .ok (.aload_n 0, 1) := by decide +kernel
theorem dX11_series_55 : decode cX11_series 55 = .ok (.iload_n 1, 1) := by decide +kernel
theorem dX11_series_56 : decode cX11_series 56 = .ok (.iload_n 2, 1) := by decide +kernel
theorem dX11_series_57 : decode cX11_series 57 = .ok (.iload_n 3, 1) := by decide +kernel
theorem dX11_series_58 : decode cX11_series 58 = .ok (.iconst 2, 1) := by decide +kernel
theorem dX11_series_59 : decode cX11_series 59 = .ok (.iload 4, 2) := by decide +kernel
theorem dX11_series_61 : decode cX11_series 61 = .ok (.iload 5, 2) := by decide +kernel
theorem dX11_series_63 : decode cX11_series 63 = .ok (.invokevirtual 312, 3) := by decide +kernel
theorem dX11_series_66 : decode cX11_series 66 = .ok (.aload_n 0, 1) := by decide +kernel
theorem dX11_series_67 : decode cX11_series 67 = .ok (.iload 6, 2) := by decide +kernel
theorem dX11_series_69 : decode cX11_series 69 = .ok (.iload 7, 2) := by decide +kernel
theorem dX11_series_71 : decode cX11_series 71 = .ok (.invokevirtual 374, 3) := by decide +kernel
theorem dX11_series_74 : decode cX11_series 74 = .ok (.lstore 9, 2) := by decide +kernel
theorem dX11_series_76 : decode cX11_series 76 = .ok (.aload_n 0, 1) := by decide +kernel
theorem dX11_series_77 : decode cX11_series 77 = .ok (.lload 9, 2) := by decide +kernel
theorem dX11_series_79 : decode cX11_series 79 = .ok (.aload_n 0, 1) := by decide +kernel
theorem dX11_series_80 : decode cX11_series 80 = .ok (.getfield 84, 3) := by decide +kernel
theorem dX11_series_83 : decode cX11_series 83 = .ok (.getfield 344, 3) := by decide +kernel
theorem dX11_series_86 : decode cX11_series 86 = .ok (.i2l, 1) := by decide +kernel
theorem dX11_series_87 : decode cX11_series 87 = .ok (.invokevirtual 347, 3) := by decide +kernel
theorem dX11_series_90 : decode cX11_series 90 = .ok (.aload_n 0, 1) := by decide +kernel
theorem dX11_series_91 : decode cX11_series 91 = .ok (.invokevirtual 131, 3) := by decide +kernel
theorem dX11_series_94 : decode cX11_series 94 = .ok (.ireturn, 1) := by decide +kernel
theorem dX11_wipeEvery_0 : decode cX11_wipeEvery 0 = .ok (.aload_n 0, 1) := by decide +kernel
theorem dX11_wipeEvery_1 : decode cX11_wipeEvery 1 = .ok (.iload_n 1, 1) := by decide +kernel
theorem dX11_wipeEvery_2 : decode cX11_wipeEvery 2 = .ok (.iload_n 2, 1) := by decide +kernel
theorem dX11_wipeEvery_3 : decode cX11_wipeEvery 3 = .ok (.iload_n 3, 1) := by decide +kernel
theorem dX11_wipeEvery_4 : decode cX11_wipeEvery 4 = .ok (.iconst 2, 1) := by decide +kernel
theorem dX11_wipeEvery_5 : decode cX11_wipeEvery 5 = .ok (.iconst 0, 1) := by decide +kernel
theorem dX11_wipeEvery_6 : decode cX11_wipeEvery 6 = .ok (.iconst 0, 1) := by decide +kernel
theorem dX11_wipeEvery_7 : decode cX11_wipeEvery 7 = .ok (.invokevirtual 308, 3) := by decide +kernel
theorem dX11_wipeEvery_10 : decode cX11_wipeEvery 10 = .ok (.istore 6, 2) := by decide +kernel
theorem dX11_wipeEvery_12 : decode cX11_wipeEvery 12 = .ok (.iload 6, 2) := by decide +kernel
theorem dX11_wipeEvery_14 : decode cX11_wipeEvery 14 = .ok (.ifCond .eq 10, 3) := by decide +kernel
theorem dX11_wipeEvery_17 : decode cX11_wipeEvery 17 = .ok (.aload_n 0, 1) := by decide +kernel
theorem dX11_wipeEvery_18 : decode cX11_wipeEvery 18 = .ok (.iload 6, 2) := by decide +kernel
theorem dX11_wipeEvery_20 : decode cX11_wipeEvery 20 = .ok (.invokevirtual 143, 3) := by decide +kernel
theorem dX11_wipeEvery_23 : decode cX11_wipeEvery 23 = .ok (.ireturn, 1) := by decide +kernel
theorem dX11_wipeEvery_24 : decode cX11_wipeEvery 24 = .ok (.iload 4, 2) := by decide +kernel
theorem dX11_wipeEvery_26 : decode cX11_wipeEvery 26 = .ok (.iconst 1, 1) := by decide +kernel
theorem dX11_wipeEvery_27 : decode cX11_wipeEvery 27 = .ok (.bipush 30, 2) := by decide +kernel
theorem dX11_wipeEvery_29 : decode cX11_wipeEvery 29 = .ok (.invokestatic 120, 3) := by decide +kernel
theorem dX11_wipeEvery_32 : decode cX11_wipeEvery 32 = .ok (.ifCond .eq 14, 3) := by decide +kernel
theorem dX11_wipeEvery_35 : decode cX11_wipeEvery 35 = .ok (.iload 5, 2) := by decide +kernel
theorem dX11_wipeEvery_37 : decode cX11_wipeEvery 37 = .ok (.iconst 0, 1) := by decide +kernel
theorem dX11_wipeEvery_38 : decode cX11_wipeEvery 38 = .ok (.bipush 99, 2) := by decide +kernel
theorem dX11_wipeEvery_40 : decode cX11_wipeEvery 40 = .ok (.invokestatic 120, 3) := by decide +kernel
theorem dX11_wipeEvery_43 : decode cX11_wipeEvery 43 = .ok (.ifCond .ne 9, 3) := by decide +kernel
theorem dX11_wipeEvery_46 : decode cX11_wipeEvery 46 = .ok (.aload_n 0, 1) := by decide +kernel
theorem dX11_wipeEvery_47 : decode cX11_wipeEvery 47 = .ok (.iconst 5, 1) := by decide +kernel
theorem dX11_wipeEvery_48 : decode cX11_wipeEvery 48 = .ok (.invokevirtual 143, 3) := by decide +kernel
theorem dX11_wipeEvery_51 : decode cX11_wipeEvery 51 = .ok (.ireturn, 1) := by decide +kernel
theorem dX11_wipeEvery_52 : decode cX11_wipeEvery 52 = .ok (.aload_n 0, 1) := by decide +kernel
theorem dX11_wipeEvery_53 : decode cX11_wipeEvery 53 = .ok (.getfield 102, 3) := by decide +kernel
theorem dX11_wipeEvery_56 : decode cX11_wipeEvery 56 = .ok (.invokevirtual 355, 3) := by decide +kernel
theorem dX11_wipeEvery_59 : decode cX11_wipeEvery 59 = .ok (.iconst 1, 1) := by decide +kernel
theorem dX11_wipeEvery_60 : decode cX11_wipeEvery 60 = .ok (.istore 7, 2) := by decide +kernel
theorem dX11_wipeEvery_62 : decode cX11_wipeEvery 62 = .ok (.iload 7, 2) := by decide +kernel
theorem dX11_wipeEvery_64 : decode cX11_wipeEvery 64 = .ok (.bipush 9, 2) := by decide +kernel
theorem dX11_wipeEvery_66 : decode cX11_wipeEvery 66 = .ok (.if_icmp .gt 80, 3) := by decide +kernel
theorem dX11_wipeEvery_69 : decode cX11_wipeEvery 69 = .ok (.aload_n 0, 1) := by decide +kernel
theorem dX11_wipeEvery_70 : decode cX11_wipeEvery 70 = .ok (.iload_n 1, 1) := by decide +kernel
theorem dX11_wipeEvery_71 : decode cX11_wipeEvery 71 = .ok (.iload_n 2, 1) := by decide +kernel
theorem dX11_wipeEvery_72 : decode cX11_wipeEvery 72 = .ok (.iload_n 3, 1) := by decide +kernel
theorem dX11_wipeEvery_73 : decode cX11_wipeEvery 73 = .ok (.iconst 2, 1) := by decide +kernel
theorem dX11_wipeEvery_74 : decode cX11_wipeEvery 74 = .ok (.iconst 0, 1) := by decide +kernel
theorem dX11_wipeEvery_75 : decode cX11_wipeEvery 75 = .ok (.iconst 0, 1) := by decide +kernel
theorem dX11_wipeEvery_76 : decode cX11_wipeEvery 76 = .ok (.invokevirtual 312, 3) := by decide +kernel
theorem dX11_wipeEvery_79 : decode cX11_wipeEvery 79 = .ok (.aload_n 0, 1) := by decide +kernel
theorem dX11_wipeEvery_80 : decode cX11_wipeEvery 80 = .ok (.iload 4, 2) := by decide +kernel
theorem dX11_wipeEvery_82 : decode cX11_wipeEvery 82 = .ok (.iload 7, 2) := by decide +kernel
theorem dX11_wipeEvery_84 : decode cX11_wipeEvery 84 = .ok (.invokevirtual 374, 3) := by decide +kernel
theorem dX11_wipeEvery_87 : decode cX11_wipeEvery 87 = .ok (.lstore 8, 2) := by decide +kernel
theorem dX11_wipeEvery_89 : decode cX11_wipeEvery 89 = .ok (.iload 4, 2) := by decide +kernel
theorem dX11_wipeEvery_91 : decode cX11_wipeEvery 91 = .ok (.iload 7, 2) := by decide +kernel
theorem dX11_wipeEvery_93 : decode cX11_wipeEvery 93 = .ok (.idiv, 1) := by decide +kernel
theorem dX11_wipeEvery_94 : decode cX11_wipeEvery 94 = .ok (.i2l, 1) := by decide +kernel
theorem dX11_wipeEvery_95 : decode cX11_wipeEvery 95 = .ok (.lstore 10, 2) := by decide +kernel
theorem dX11_wipeEvery_97 : decode cX11_wipeEvery 97 = .ok (.aload_n 0, 1) := by decide +kernel
theorem dX11_wipeEvery_98 : decode cX11_wipeEvery 98 = .ok (.getfield 102, 3) := by decide +kernel
theorem dX11_wipeEvery_101 : decode cX11_wipeEvery 101 = .ok (.iload 7, 2) := by decide +kernel
theorem dX11_wipeEvery_103 : decode cX11_wipeEvery 103 = .ok (.ldc2_w 378, 3) := by decide +kernel
theorem dX11_wipeEvery_106 : decode cX11_wipeEvery 106 = .ok (.lload 8, 2) := by decide +kernel
theorem dX11_wipeEvery_108 : decode cX11_wipeEvery 108 = .ok (.lmul, 1) := by decide +kernel
theorem dX11_wipeEvery_109 : decode cX11_wipeEvery 109 = .ok (.lload 10, 2) := by decide +kernel
theorem dX11_wipeEvery_111 : decode cX11_wipeEvery 111 = .ok (.iload 5, 2) := by decide +kernel
theorem dX11_wipeEvery_113 : decode cX11_wipeEvery 113 = .ok (.i2l, 1) := by decide +kernel
theorem dX11_wipeEvery_114 : decode cX11_wipeEvery 114 = .ok (.lmul, 1) := by decide +kernel
theorem dX11_wipeEvery_115 : decode cX11_wipeEvery 115 = .ok (.aload_n 0, 1) := by decide +kernel
theorem dX11_wipeEvery_116 : decode cX11_wipeEvery 116 = .ok (.getfield 84, 3) := by decide +kernel
theorem dX11_wipeEvery_119 : decode cX11_wipeEvery 119 = .ok (.getfield 344, 3) := by decide +kernel
theorem dX11_wipeEvery_122 : decode cX11_wipeEvery 122 = .ok (.i2l, 1) := by decide +kernel
theorem dX11_wipeEvery_123 : decode cX11_wipeEvery 123 = .ok (.lmul, 1) := by decide +kernel
theorem dX11_wipeEvery_124 : decode cX11_wipeEvery 124 = .ok (.lsub, 1) := by decide +kernel
theorem dX11_wipeEvery_125 : decode cX11_wipeEvery 125 = .ok (.ldc2_w 378, 3) := by decide +kernel
theorem dX11_wipeEvery_128 : decode cX11_wipeEvery 128 = .ok (.aload_n 0, 1) := by decide +kernel
theorem dX11_wipeEvery_129 : decode cX11_wipeEvery 129 = .ok (.getfield 84, 3) := by decide +kernel
theorem dX11_wipeEvery_132 : decode cX11_wipeEvery 132 = .ok (.getfield 344, 3) := by decide +kernel
theorem dX11_wipeEvery_135 : decode cX11_wipeEvery 135 = .ok (.i2l, 1) := by decide +kernel
theorem dX11_wipeEvery_136 : decode cX11_wipeEvery 136 = .ok (.lmul, 1) := by decide +kernel
theorem dX11_wipeEvery_137 : decode cX11_wipeEvery 137 = .ok (.invokevirtual 380, 3) := by decide +kernel
theorem dX11_wipeEvery_140 : decode cX11_wipeEvery 140 = .ok (.iinc 7 1, 3) := by decide +kernel
theorem dX11_wipeEvery_143 : decode cX11_wipeEvery 143 = .ok (.goto (-81), 3) := by decide +kernel
theorem dX11_wipeEvery_146 : decode cX11_wipeEvery 146 = .ok (.aload_n 0, 1) := by decide +kernel
theorem dX11_wipeEvery_147 : decode cX11_wipeEvery 147 = .ok (.aload_n 0, 1) := by decide +kernel
theorem dX11_wipeEvery_148 : decode cX11_wipeEvery 148 = .ok (.getfield 102, 3) := by decide +kernel
theorem dX11_wipeEvery_151 : decode cX11_wipeEvery 151 = .ok (.getfield 363, 3) := by decide +kernel
theorem dX11_wipeEvery_154 : decode cX11_wipeEvery 154 = .ok (.invokevirtual 189, 3) := by decide +kernel
theorem dX11_wipeEvery_157 : decode cX11_wipeEvery 157 = .ok (.ireturn, 1) := by decide +kernel
theorem dX11_setRival_0 : decode cX11_setRival 0 = .ok (.aload_n 0, 1) := by decide +kernel
theorem dX11_setRival_1 : decode cX11_setRival 1 = .ok (.iload_n 2, 1) := by decide +kernel
theorem dX11_setRival_2 : decode cX11_setRival 2 = .ok (.iload_n 3, 1) := by decide +kernel
theorem dX11_setRival_3 : decode cX11_setRival 3 = .ok (.aload_n 0, 1) := by decide +kernel
theorem dX11_setRival_4 : decode cX11_setRival 4 = .ok (.getfield 37, 3) := by decide +kernel
theorem dX11_setRival_7 : decode cX11_setRival 7 = .ok (.getfield 265, 3) := by decide +kernel
theorem dX11_setRival_10 : decode cX11_setRival 10 = .ok (.iload_n 2, 1) := by decide +kernel
theorem dX11_setRival_11 : decode cX11_setRival 11 = .ok (.iaload, 1) := by decide +kernel
theorem dX11_setRival_12 : decode cX11_setRival 12 = .ok (.iconst 2, 1) := by decide +kernel
theorem dX11_setRival_13 : decode cX11_setRival 13 = .ok (.iconst 0, 1) := by decide +kernel
theorem dX11_setRival_14 : decode cX11_setRival 14 = .ok (.iconst 0, 1) := by decide +kernel
theorem dX11_setRival_15 : decode cX11_setRival 15 = .ok (.invokevirtual 312, 3) := by decide +kernel
theorem dX11_setRival_18 : decode cX11_setRival 18 = .ok (.aload_n 0, 1) := by decide +kernel
theorem dX11_setRival_19 : decode cX11_setRival 19 = .ok (.getfield 77, 3) := by decide +kernel
theorem dX11_setRival_22 : decode cX11_setRival 22 = .ok (.iconst 0, 1) := by decide +kernel
theorem dX11_setRival_23 : decode cX11_setRival 23 = .ok (.putfield 486, 3) := by decide +kernel
theorem dX11_setRival_26 : decode cX11_setRival 26 = .ok (.aload_n 0, 1) := by decide +kernel
theorem dX11_setRival_27 : decode cX11_setRival 27 = .ok (.getfield 88, 3) := by decide +kernel
theorem dX11_setRival_30 : decode cX11_setRival 30 = .ok (.iload_n 1, 1) := by decide +kernel
theorem dX11_setRival_31 : decode cX11_setRival 31 = .ok (.aaload, 1) := by decide +kernel
theorem dX11_setRival_32 : decode cX11_setRival 32 = .ok (.aload_n 0, 1) := by decide +kernel
theorem dX11_setRival_33 : decode cX11_setRival 33 = .ok (.getfield 37, 3) := by decide +kernel
theorem dX11_setRival_36 : decode cX11_setRival 36 = .ok (.aload_n 0, 1) := by decide +kernel
theorem dX11_setRival_37 : decode cX11_setRival 37 = .ok (.getfield 77, 3) := by decide +kernel
theorem dX11_setRival_40 : decode cX11_setRival 40 = .ok (.invokevirtual 337, 3) := by decide +kernel
theorem dX11_setRival_43 : decode cX11_setRival 43 = .ok (.aload_n 0, 1) := by decide +kernel
theorem dX11_setRival_44 : decode cX11_setRival 44 = .ok (.getfield 88, 3) := by decide +kernel
theorem dX11_setRival_47 : decode cX11_setRival 47 = .ok (.iload_n 1, 1) := by decide +kernel
theorem dX11_setRival_48 : decode cX11_setRival 48 = .ok (.aaload, 1) := by decide +kernel
theorem dX11_setRival_49 : decode cX11_setRival 49 = .ok (.iload 4, 2) := by decide +kernel
theorem dX11_setRival_51 : decode cX11_setRival 51 = .ok (.invokevirtual 505, 3) := by decide +kernel
theorem dX11_setRival_54 : decode cX11_setRival 54 = .ok (.return_, 1) := by decide +kernel
theorem dX11_turns_0 : decode cX11_turns 0 = .ok (.aload_n 0, 1) := by decide +kernel
theorem dX11_turns_1 : decode cX11_turns 1 = .ok (.iload_n 1, 1) := by decide +kernel
theorem dX11_turns_2 : decode cX11_turns 2 = .ok (.invokevirtual 262, 3) := by decide +kernel
theorem dX11_turns_5 : decode cX11_turns 5 = .ok (.ifCond .eq 28, 3) := by decide +kernel
theorem dX11_turns_8 : decode cX11_turns 8 = .ok (.aload_n 0, 1) := by decide +kernel
theorem dX11_turns_9 : decode cX11_turns 9 = .ok (.iload_n 3, 1) := by decide +kernel
theorem dX11_turns_10 : decode cX11_turns 10 = .ok (.invokevirtual 262, 3) := by decide +kernel
theorem dX11_turns_13 : decode cX11_turns 13 = .ok (.ifCond .eq 20, 3) := by decide +kernel
theorem dX11_turns_16 : decode cX11_turns 16 = .ok (.aload_n 0, 1) := by decide +kernel
theorem dX11_turns_17 : decode cX11_turns 17 = .ok (.iload_n 2, 1) := by decide +kernel
theorem dX11_turns_18 : decode cX11_turns 18 = .ok (.invokevirtual 241, 3) := by decide +kernel
theorem dX11_turns_21 : decode cX11_turns 21 = .ok (.ifCond .eq 12, 3) := by decide +kernel
theorem dX11_turns_24 : decode cX11_turns 24 = .ok (.aload_n 0, 1) := by decide +kernel
theorem dX11_turns_25 : decode cX11_turns 25 = .ok (.iload 4, 2) := by decide +kernel
theorem dX11_turns_27 : decode cX11_turns 27 = .ok (.invokevirtual 241, 3) := by decide +kernel
theorem dX11_turns_30 : decode cX11_turns 30 = .ok (.ifCond .ne 9, 3) := by decide +kernel
theorem dX11_turns_33 : decode cX11_turns 33 = .ok (.aload_n 0, 1) := by decide +kernel
theorem dX11_turns_34 : decode cX11_turns 34 = .ok (.iconst 2, 1) := by decide +kernel
theorem dX11_turns_35 : decode cX11_turns 35 = .ok (.invokevirtual 124, 3) := by decide +kernel
theorem dX11_turns_38 : decode cX11_turns 38 = .ok (.ireturn, 1) := by decide +kernel
theorem dX11_turns_39 : decode cX11_turns 39 = .ok (.iload 5, 2) := by decide +kernel
theorem dX11_turns_41 : decode cX11_turns 41 = .ok (.iconst 1, 1) := by decide +kernel
theorem dX11_turns_42 : decode cX11_turns 42 = .ok (.iconst 5, 1) := by decide +kernel
theorem dX11_turns_43 : decode cX11_turns 43 = .ok (.invokestatic 120, 3) := by decide +kernel
theorem dX11_turns_46 : decode cX11_turns 46 = .ok (.ifCond .eq 13, 3) := by decide +kernel
theorem dX11_turns_49 : decode cX11_turns 49 = .ok (.iload 6, 2) := by decide +kernel
theorem dX11_turns_51 : decode cX11_turns 51 = .ok (.iconst 0, 1) := by decide +kernel
theorem dX11_turns_52 : decode cX11_turns 52 = .ok (.iconst 2, 1) := by decide +kernel
theorem dX11_turns_53 : decode cX11_turns 53 = .ok (.invokestatic 120, 3) := by decide +kernel
theorem dX11_turns_56 : decode cX11_turns 56 = .ok (.ifCond .ne 9, 3) := by decide +kernel
theorem dX11_turns_59 : decode cX11_turns 59 = .ok (.aload_n 0, 1) := by decide +kernel
theorem dX11_turns_60 : decode cX11_turns 60 = .ok (.iconst 5, 1) := by decide +kernel
theorem dX11_turns_61 : decode cX11_turns 61 = .ok (.invokevirtual 124, 3) := by decide +kernel
theorem dX11_turns_64 : decode cX11_turns 64 = .ok (.ireturn, 1) := by decide +kernel
theorem dX11_turns_65 : decode cX11_turns 65 = .ok (.aload_n 0, 1) := by decide +kernel
theorem dX11_turns_66 : decode cX11_turns 66 = .ok (.iconst 0, 1) := by decide +kernel
theorem dX11_turns_67 : decode cX11_turns 67 = .ok (.iload_n 1, 1) := by decide +kernel
theorem dX11_turns_68 : decode cX11_turns 68 = .ok (.iload_n 2, 1) := by decide +kernel
theorem dX11_turns_69 : decode cX11_turns 69 = .ok (.iload 5, 2) := by decide +kernel
theorem dX11_turns_71 : decode cX11_turns 71 = .ok (.invokevirtual 384, 3) := by decide +kernel
theorem dX11_turns_74 : decode cX11_turns 74 = .ok (.aload_n 0, 1) := by decide +kernel
theorem dX11_turns_75 : decode cX11_turns 75 = .ok (.iconst 1, 1) := by decide +kernel
theorem dX11_turns_76 : decode cX11_turns 76 = .ok (.iload_n 3, 1) := by decide +kernel
theorem dX11_turns_77 : decode cX11_turns 77 = .ok (.iload 4, 2) := by decide +kernel
theorem dX11_turns_79 : decode cX11_turns 79 = .ok (.iload 5, 2) := by decide +kernel
theorem dX11_turns_81 : decode cX11_turns 81 = .ok (.invokevirtual 384, 3) := by decide +kernel
theorem dX11_turns_84 : decode cX11_turns 84 = .ok (.aload_n 0, 1) := by decide +kernel
theorem dX11_turns_85 : decode cX11_turns 85 = .ok (.getfield 88, 3) := by decide +kernel
theorem dX11_turns_88 : decode cX11_turns 88 = .ok (.iconst 0, 1) := by decide +kernel
theorem dX11_turns_89 : decode cX11_turns 89 = .ok (.aaload, 1) := by decide +kernel
theorem dX11_turns_90 : decode cX11_turns 90 = .ok (.aload_n 0, 1) := by decide +kernel
theorem dX11_turns_91 : decode cX11_turns 91 = .ok (.getfield 88, 3) := by decide +kernel
theorem dX11_turns_94 : decode cX11_turns 94 = .ok (.iconst 1, 1) := by decide +kernel
theorem dX11_turns_95 : decode cX11_turns 95 = .ok (.aaload, 1) := by decide +kernel
theorem dX11_turns_96 : decode cX11_turns 96 = .ok (.invokevirtual 388, 3) := by decide +kernel
theorem dX11_turns_99 : decode cX11_turns 99 = .ok (.lstore 7, 2) := by decide +kernel
theorem dX11_turns_101 : decode cX11_turns 101 = .ok (.aload_n 0, 1) := by decide +kernel
theorem dX11_turns_102 : decode cX11_turns 102 = .ok (.getfield 88, 3) := by decide +kernel
theorem dX11_turns_105 : decode cX11_turns 105 = .ok (.iconst 1, 1) := by decide +kernel
theorem dX11_turns_106 : decode cX11_turns 106 = .ok (.aaload, 1) := by decide +kernel
theorem dX11_turns_107 : decode cX11_turns 107 = .ok (.aload_n 0, 1) := by decide +kernel
theorem dX11_turns_108 : decode cX11_turns 108 = .ok (.getfield 88, 3) := by decide +kernel
theorem dX11_turns_111 : decode cX11_turns 111 = .ok (.iconst 0, 1) := by decide +kernel
theorem dX11_turns_112 : decode cX11_turns 112 = .ok (.aaload, 1) := by decide +kernel
theorem dX11_turns_113 : decode cX11_turns 113 = .ok (.invokevirtual 388, 3) := by decide +kernel
theorem dX11_turns_116 : decode cX11_turns 116 = .ok (.lstore 9, 2) := by decide +kernel
theorem dX11_turns_118 : decode cX11_turns 118 = .ok (.aload_n 0, 1) := by decide +kernel
theorem dX11_turns_119 : decode cX11_turns 119 = .ok (.getfield 88, 3) := by decide +kernel
theorem dX11_turns_122 : decode cX11_turns 122 = .ok (.iconst 0, 1) := by decide +kernel
theorem dX11_turns_123 : decode cX11_turns 123 = .ok (.aaload, 1) := by decide +kernel
theorem dX11_turns_124 : decode cX11_turns 124 = .ok (.invokevirtual 392, 3) := by decide +kernel
theorem dX11_turns_127 : decode cX11_turns 127 = .ok (.aload_n 0, 1) := by decide +kernel
theorem dX11_turns_128 : decode cX11_turns 128 = .ok (.getfield 88, 3) := by decide +kernel
theorem dX11_turns_131 : decode cX11_turns 131 = .ok (.iconst 1, 1) := by decide +kernel
theorem dX11_turns_132 : decode cX11_turns 132 = .ok (.aaload, 1) := by decide +kernel
theorem dX11_turns_133 : decode cX11_turns 133 = .ok (.invokevirtual 392, 3) := by decide +kernel
theorem dX11_turns_136 : decode cX11_turns 136 = .ok (.lmul, 1) := by decide +kernel
theorem dX11_turns_137 : decode cX11_turns 137 = .ok (.lstore 11, 2) := by decide +kernel
theorem dX11_turns_139 : decode cX11_turns 139 = .ok (.iload 6, 2) := by decide +kernel
theorem dX11_turns_141 : decode cX11_turns 141 = .ok (.ifCond .ne 14, 3) := by decide +kernel
theorem dX11_turns_144 : decode cX11_turns 144 = .ok (.aload_n 0, 1) := by decide +kernel
theorem dX11_turns_145 : decode cX11_turns 145 = .ok (.lload 7, 2) := by decide +kernel
theorem dX11_turns_147 : decode cX11_turns 147 = .ok (.lload 11, 2) := by decide +kernel
theorem dX11_turns_149 : decode cX11_turns 149 = .ok (.invokevirtual 347, 3) := by decide +kernel
theorem dX11_turns_152 : decode cX11_turns 152 = .ok (.goto 34, 3) := by decide +kernel
theorem dX11_turns_155 : decode cX11_turns 155 = .ok (.iload 6, 2) := by decide +kernel
theorem dX11_turns_157 : decode cX11_turns 157 = .ok (.iconst 1, 1) := by decide +kernel
theorem dX11_turns_158 : decode cX11_turns 158 = .ok (.if_icmp .ne 20, 3) := by decide +kernel
theorem dX11_turns_161 : decode cX11_turns 161 = .ok (.aload_n 0, 1) := by decide +kernel
theorem dX11_turns_162 : decode cX11_turns 162 = .ok (.lload 11, 2) := by decide +kernel
theorem dX11_turns_164 : decode cX11_turns 164 = .ok (.lload 7, 2) := by decide +kernel
theorem dX11_turns_166 : decode cX11_turns 166 = .ok (.lsub, 1) := by decide +kernel
theorem dX11_turns_167 : decode cX11_turns 167 = .ok (.lload 9, 2) := by decide +kernel
theorem dX11_turns_169 : decode cX11_turns 169 = .ok (.lsub, 1) := by decide +kernel
theorem dX11_turns_170 : decode cX11_turns 170 = .ok (.lload 11, 2) := by decide +kernel
theorem dX11_turns_172 : decode cX11_turns 172 = .ok (.invokevirtual 347, 3) := by decide +kernel
theorem dX11_turns_175 : decode cX11_turns 175 = .ok (.goto 11, 3) := by decide +kernel
theorem dX11_turns_178 : decode cX11_turns 178 = .ok (.aload_n 0, 1) := by decide +kernel
theorem dX11_turns_179 : decode cX11_turns 179 = .ok (.lload 9, 2) := by decide +kernel
theorem dX11_turns_181 : decode cX11_turns 181 = .ok (.lload 11, 2) := by decide +kernel
theorem dX11_turns_183 : decode cX11_turns 183 = .ok (.invokevirtual 347, 3) := by decide +kernel
theorem dX11_turns_186 : decode cX11_turns 186 = .ok (.aload_n 0, 1) := by decide +kernel
theorem dX11_turns_187 : decode cX11_turns 187 = .ok (.invokevirtual 131, 3) := by decide +kernel
theorem dX11_turns_190 : decode cX11_turns 190 = .ok (.ireturn, 1) := by decide +kernel
theorem dX11_wrongKnock_0 : decode cX11_wrongKnock 0 = .ok (.aload_n 0, 1) := by decide +kernel
theorem dX11_wrongKnock_1 : decode cX11_wrongKnock 1 = .ok (.iload_n 1, 1) := by decide +kernel
theorem dX11_wrongKnock_2 : decode cX11_wrongKnock 2 = .ok (.iconst 3, 1) := by decide +kernel
theorem dX11_wrongKnock_3 : decode cX11_wrongKnock 3 = .ok (.invokevirtual 135, 3) := by decide +kernel
theorem dX11_wrongKnock_6 : decode cX11_wrongKnock 6 = .ok (.istore 4, 2) := by decide +kernel
theorem dX11_wrongKnock_8 : decode cX11_wrongKnock 8 = .ok (.iload 4, 2) := by decide +kernel
theorem dX11_wrongKnock_10 : decode cX11_wrongKnock 10 = .ok (.ifCond .eq 6, 3) := by decide +kernel
theorem dX11_wrongKnock_13 : decode cX11_wrongKnock 13 = .ok (.iload 4, 2) := by decide +kernel
theorem dX11_wrongKnock_15 : decode cX11_wrongKnock 15 = .ok (.ireturn, 1) := by decide +kernel
theorem dX11_wrongKnock_16 : decode cX11_wrongKnock 16 = .ok (.aload_n 0, 1) := by decide +kernel
theorem dX11_wrongKnock_17 : decode cX11_wrongKnock 17 = .ok (.iload_n 2, 1) := by decide +kernel
theorem dX11_wrongKnock_18 : decode cX11_wrongKnock 18 = .ok (.invokevirtual 241, 3) := by decide +kernel
theorem dX11_wrongKnock_21 : decode cX11_wrongKnock 21 = .ok (.ifCond .ne 5, 3) := by decide +kernel
theorem dX11_wrongKnock_24 : decode cX11_wrongKnock 24 = .ok (.iconst 2, 1) := by decide +kernel
theorem dX11_wrongKnock_25 : decode cX11_wrongKnock 25 = .ok (.ireturn, 1) := by decide +kernel
theorem dX11_wrongKnock_26 : decode cX11_wrongKnock 26 = .ok (.iconst 0, 1) := by decide +kernel
theorem dX11_wrongKnock_27 : decode cX11_wrongKnock 27 = .ok (.istore 5, 2) := by decide +kernel
theorem dX11_wrongKnock_29 : decode cX11_wrongKnock 29 = .ok (.iload 5, 2) := by decide +kernel
theorem dX11_wrongKnock_31 : decode cX11_wrongKnock 31 = .ok (.iconst 4, 1) := by decide +kernel
theorem dX11_wrongKnock_32 : decode cX11_wrongKnock 32 = .ok (.if_icmp .ge 46, 3) := by decide +kernel
theorem dX11_wrongKnock_35 : decode cX11_wrongKnock 35 = .ok (.aload_n 0, 1) := by decide +kernel
theorem dX11_wrongKnock_36 : decode cX11_wrongKnock 36 = .ok (.getfield 22, 3) := by decide +kernel
theorem dX11_wrongKnock_39 : decode cX11_wrongKnock 39 = .ok (.iload_n 1, 1) := by decide +kernel
theorem dX11_wrongKnock_40 : decode cX11_wrongKnock 40 = .ok (.aaload, 1) := by decide +kernel
theorem dX11_wrongKnock_41 : decode cX11_wrongKnock 41 = .ok (.getfield 147, 3) := by decide +kernel
theorem dX11_wrongKnock_44 : decode cX11_wrongKnock 44 = .ok (.iload 5, 2) := by decide +kernel
theorem dX11_wrongKnock_46 : decode cX11_wrongKnock 46 = .ok (.laload, 1) := by decide +kernel
theorem dX11_wrongKnock_47 : decode cX11_wrongKnock 47 = .ok (.lstore 6, 2) := by decide +kernel
theorem dX11_wrongKnock_49 : decode cX11_wrongKnock 49 = .ok (.lload 6, 2) := by decide +kernel
theorem dX11_wrongKnock_51 : decode cX11_wrongKnock 51 = .ok (.lconst 0, 1) := by decide +kernel
theorem dX11_wrongKnock_52 : decode cX11_wrongKnock 52 = .ok (.lcmp, 1) := by decide +kernel
theorem dX11_wrongKnock_53 : decode cX11_wrongKnock 53 = .ok (.ifCond .lt 17, 3) := by decide +kernel
theorem dX11_wrongKnock_56 : decode cX11_wrongKnock 56 = .ok (.lload 6, 2) := by decide +kernel
theorem dX11_wrongKnock_58 : decode cX11_wrongKnock 58 = .ok (.aload_n 0, 1) := by decide +kernel
theorem dX11_wrongKnock_59 : decode cX11_wrongKnock 59 = .ok (.getfield 37, 3) := by decide +kernel
theorem dX11_wrongKnock_62 : decode cX11_wrongKnock 62 = .ok (.getfield 225, 3) := by decide +kernel
theorem dX11_wrongKnock_65 : decode cX11_wrongKnock 65 = .ok (.i2l, 1) := by decide +kernel
theorem dX11_wrongKnock_66 : decode cX11_wrongKnock 66 = .ok (.lcmp, 1) := by decide +kernel
theorem dX11_wrongKnock_67 : decode cX11_wrongKnock 67 = .ok (.ifCond .lt 5, 3) := by decide +kernel
theorem dX11_wrongKnock_70 : decode cX11_wrongKnock 70 = .ok (.iconst 2, 1) := by decide +kernel
theorem dX11_wrongKnock_71 : decode cX11_wrongKnock 71 = .ok (.ireturn, 1) := by decide +kernel
theorem dX11_wrongKnock_72 : decode cX11_wrongKnock 72 = .ok (.iinc 5 1, 3) := by decide +kernel
theorem dX11_wrongKnock_75 : decode cX11_wrongKnock 75 = .ok (.goto (-46), 3) := by decide +kernel
theorem dX11_wrongKnock_78 : decode cX11_wrongKnock 78 = .ok (.iload_n 3, 1) := by decide +kernel
theorem dX11_wrongKnock_79 : decode cX11_wrongKnock 79 = .ok (.iconst 0, 1) := by decide +kernel
theorem dX11_wrongKnock_80 : decode cX11_wrongKnock 80 = .ok (.iconst 3, 1) := by decide +kernel
theorem dX11_wrongKnock_81 : decode cX11_wrongKnock 81 = .ok (.invokestatic 120, 3) := by decide +kernel
theorem dX11_wrongKnock_84 : decode cX11_wrongKnock 84 = .ok (.ifCond .eq 7, 3) := by decide +kernel
theorem dX11_wrongKnock_87 : decode cX11_wrongKnock 87 = .ok (.iconst 0, 1) := by decide +kernel
theorem dX11_wrongKnock_88 : decode cX11_wrongKnock 88 = .ok (.goto 4, 3) := by decide +kernel
theorem dX11_wrongKnock_91 : decode cX11_wrongKnock 91 = .ok (.iconst 5, 1) := by decide +kernel
theorem dX11_wrongKnock_92 : decode cX11_wrongKnock 92 = .ok (.ireturn, 1) := by decide +kernel
theorem dX11_beats_0 : decode cX11_beats 0 = .ok (.aload_n 0, 1) := by decide +kernel
theorem dX11_beats_1 : decode cX11_beats 1 = .ok (.getfield 88, 3) := by decide +kernel
theorem dX11_beats_4 : decode cX11_beats 4 = .ok (.iload_n 1, 1) := by decide +kernel
theorem dX11_beats_5 : decode cX11_beats 5 = .ok (.aaload, 1) := by decide +kernel
theorem dX11_beats_6 : decode cX11_beats 6 = .ok (.aload_n 0, 1) := by decide +kernel
theorem dX11_beats_7 : decode cX11_beats 7 = .ok (.getfield 88, 3) := by decide +kernel
theorem dX11_beats_10 : decode cX11_beats 10 = .ok (.iload_n 2, 1) := by decide +kernel
theorem dX11_beats_11 : decode cX11_beats 11 = .ok (.aaload, 1) := by decide +kernel
theorem dX11_beats_12 : decode cX11_beats 12 = .ok (.invokevirtual 388, 3) := by decide +kernel
theorem dX11_beats_15 : decode cX11_beats 15 = .ok (.lreturn, 1) := by decide +kernel
theorem dX11_decided_0 : decode cX11_decided 0 = .ok (.aload_n 0, 1) := by decide +kernel
theorem dX11_decided_1 : decode cX11_decided 1 = .ok (.iload_n 1, 1) := by decide +kernel
theorem dX11_decided_2 : decode cX11_decided 2 = .ok (.iload_n 2, 1) := by decide +kernel
theorem dX11_decided_3 : decode cX11_decided 3 = .ok (.invokevirtual 401, 3) := by decide +kernel
theorem dX11_decided_6 : decode cX11_decided 6 = .ok (.aload_n 0, 1) := by decide +kernel
theorem dX11_decided_7 : decode cX11_decided 7 = .ok (.iload_n 2, 1) := by decide +kernel
theorem dX11_decided_8 : decode cX11_decided 8 = .ok (.iload_n 1, 1) := by decide +kernel
theorem dX11_decided_9 : decode cX11_decided 9 = .ok (.invokevirtual 401, 3) := by decide +kernel
theorem dX11_decided_12 : decode cX11_decided 12 = .ok (.ladd, 1) := by decide +kernel
theorem dX11_decided_13 : decode cX11_decided 13 = .ok (.lreturn, 1) := by decide +kernel
theorem dX11_knock_0 : decode cX11_knock 0 = .ok (.aload_n 0, 1) := by decide +kernel
theorem dX11_knock_1 : decode cX11_knock 1 = .ok (.iload_n 1, 1) := by decide +kernel
theorem dX11_knock_2 : decode cX11_knock 2 = .ok (.iload_n 2, 1) := by decide +kernel
theorem dX11_knock_3 : decode cX11_knock 3 = .ok (.iload_n 3, 1) := by decide +kernel
theorem dX11_knock_4 : decode cX11_knock 4 = .ok (.invokevirtual 395, 3) := by decide +kernel
theorem dX11_knock_7 : decode cX11_knock 7 = .ok (.istore 4, 2) := by decide +kernel
theorem dX11_knock_9 : decode cX11_knock 9 = .ok (.iload 4, 2) := by decide +kernel
theorem dX11_knock_11 : decode cX11_knock 11 = .ok (.ifCond .eq 10, 3) := by decide +kernel
theorem dX11_knock_14 : decode cX11_knock 14 = .ok (.aload_n 0, 1) := by decide +kernel
theorem dX11_knock_15 : decode cX11_knock 15 = .ok (.iload 4, 2) := by decide +kernel
theorem dX11_knock_17 : decode cX11_knock 17 = .ok (.invokevirtual 124, 3) := by decide +kernel
theorem dX11_knock_20 : decode cX11_knock 20 = .ok (.ireturn, 1) := by decide +kernel
theorem dX11_knock_21 : decode cX11_knock 21 = .ok (.iconst 0, 1) := by decide +kernel
theorem dX11_knock_22 : decode cX11_knock 22 = .ok (.istore 5, 2) := by decide +kernel
theorem dX11_knock_24 : decode cX11_knock 24 = .ok (.iload 5, 2) := by decide +kernel
theorem dX11_knock_26 : decode cX11_knock 26 = .ok (.iconst 4, 1) := by decide +kernel
theorem dX11_knock_27 : decode cX11_knock 27 = .ok (.if_icmp .ge 30, 3) := by decide +kernel
theorem dX11_knock_30 : decode cX11_knock 30 = .ok (.aload_n 0, 1) := by decide +kernel
theorem dX11_knock_31 : decode cX11_knock 31 = .ok (.iload 5, 2) := by decide +kernel
theorem dX11_knock_33 : decode cX11_knock 33 = .ok (.aload_n 0, 1) := by decide +kernel
theorem dX11_knock_34 : decode cX11_knock 34 = .ok (.getfield 22, 3) := by decide +kernel
theorem dX11_knock_37 : decode cX11_knock 37 = .ok (.iload_n 1, 1) := by decide +kernel
theorem dX11_knock_38 : decode cX11_knock 38 = .ok (.aaload, 1) := by decide +kernel
theorem dX11_knock_39 : decode cX11_knock 39 = .ok (.getfield 147, 3) := by decide +kernel
theorem dX11_knock_42 : decode cX11_knock 42 = .ok (.iload 5, 2) := by decide +kernel
theorem dX11_knock_44 : decode cX11_knock 44 = .ok (.laload, 1) := by decide +kernel
theorem dX11_knock_45 : decode cX11_knock 45 = .ok (.l2i, 1) := by decide +kernel
theorem dX11_knock_46 : decode cX11_knock 46 = .ok (.iload_n 2, 1) := by decide +kernel
theorem dX11_knock_47 : decode cX11_knock 47 = .ok (.iconst 1, 1) := by decide +kernel
theorem dX11_knock_48 : decode cX11_knock 48 = .ok (.invokevirtual 384, 3) := by decide +kernel
theorem dX11_knock_51 : decode cX11_knock 51 = .ok (.iinc 5 1, 3) := by decide +kernel
theorem dX11_knock_54 : decode cX11_knock 54 = .ok (.goto (-30), 3) := by decide +kernel
theorem dX11_knock_57 : decode cX11_knock 57 = .ok (.iload_n 3, 1) := by decide +kernel
theorem dX11_knock_58 : decode cX11_knock 58 = .ok (.iconst 2, 1) := by decide +kernel
theorem dX11_knock_59 : decode cX11_knock 59 = .ok (.irem, 1) := by decide +kernel
theorem dX11_knock_60 : decode cX11_knock 60 = .ok (.ifCond .ne 9, 3) := by decide +kernel
theorem dX11_knock_63 : decode cX11_knock 63 = .ok (.iload_n 3, 1) := by decide +kernel
theorem dX11_knock_64 : decode cX11_knock 64 = .ok (.iconst 1, 1) := by decide +kernel
theorem dX11_knock_65 : decode cX11_knock 65 = .ok (.iadd, 1) := by decide +kernel
theorem dX11_knock_66 : decode cX11_knock 66 = .ok (.goto 6, 3) := by decide +kernel
theorem dX11_knock_69 : decode cX11_knock 69 = .ok (.iload_n 3, 1) := by decide +kernel
theorem dX11_knock_70 : decode cX11_knock 70 = .ok (.iconst 1, 1) := by decide +kernel
theorem dX11_knock_71 : decode cX11_knock 71 = .ok (.isub, 1) := by decide +kernel
theorem dX11_knock_72 : decode cX11_knock 72 = .ok (.istore 5, 2) := by decide +kernel
theorem dX11_knock_74 : decode cX11_knock 74 = .ok (.iload_n 3, 1) := by decide +kernel
theorem dX11_knock_75 : decode cX11_knock 75 = .ok (.iconst 2, 1) := by decide +kernel
theorem dX11_knock_76 : decode cX11_knock 76 = .ok (.if_icmp .ge 7, 3) := by decide +kernel
theorem dX11_knock_79 : decode cX11_knock 79 = .ok (.iconst 2, 1) := by decide +kernel
theorem dX11_knock_80 : decode cX11_knock 80 = .ok (.goto 4, 3) := by decide +kernel
theorem dX11_knock_83 : decode cX11_knock 83 = .ok (.iconst 0, 1) := by decide +kernel
theorem dX11_knock_84 : decode cX11_knock 84 = .ok (.istore 6, 2) := by decide +kernel
theorem dX11_knock_86 : decode cX11_knock 86 = .ok (.iload 6, 2) := by decide +kernel
theorem dX11_knock_88 : decode cX11_knock 88 = .ok (.iconst 1, 1) := by decide +kernel
theorem dX11_knock_89 : decode cX11_knock 89 = .ok (.iadd, 1) := by decide +kernel
theorem dX11_knock_90 : decode cX11_knock 90 = .ok (.istore 7, 2) := by decide +kernel
theorem dX11_knock_92 : decode cX11_knock 92 = .ok (.aload_n 0, 1) := by decide +kernel
theorem dX11_knock_93 : decode cX11_knock 93 = .ok (.iload_n 3, 1) := by decide +kernel
theorem dX11_knock_94 : decode cX11_knock 94 = .ok (.iload 5, 2) := by decide +kernel
theorem dX11_knock_96 : decode cX11_knock 96 = .ok (.invokevirtual 398, 3) := by decide +kernel
theorem dX11_knock_99 : decode cX11_knock 99 = .ok (.lstore 8, 2) := by decide +kernel
theorem dX11_knock_101 : decode cX11_knock 101 = .ok (.aload_n 0, 1) := by decide +kernel
theorem dX11_knock_102 : decode cX11_knock 102 = .ok (.iload 6, 2) := by decide +kernel
theorem dX11_knock_104 : decode cX11_knock 104 = .ok (.iload 7, 2) := by decide +kernel
theorem dX11_knock_106 : decode cX11_knock 106 = .ok (.invokevirtual 398, 3) := by decide +kernel
theorem dX11_knock_109 : decode cX11_knock 109 = .ok (.lstore 10, 2) := by decide +kernel
theorem dX11_knock_111 : decode cX11_knock 111 = .ok (.aload_n 0, 1) := by decide +kernel
theorem dX11_knock_112 : decode cX11_knock 112 = .ok (.iload_n 3, 1) := by decide +kernel
theorem dX11_knock_113 : decode cX11_knock 113 = .ok (.iload 6, 2) := by decide +kernel
theorem dX11_knock_115 : decode cX11_knock 115 = .ok (.invokevirtual 398, 3) := by decide +kernel
theorem dX11_knock_118 : decode cX11_knock 118 = .ok (.lstore 12, 2) := by decide +kernel
theorem dX11_knock_120 : decode cX11_knock 120 = .ok (.aload_n 0, 1) := by decide +kernel
theorem dX11_knock_121 : decode cX11_knock 121 = .ok (.iload_n 3, 1) := by decide +kernel
theorem dX11_knock_122 : decode cX11_knock 122 = .ok (.iload 7, 2) := by decide +kernel
theorem dX11_knock_124 : decode cX11_knock 124 = .ok (.invokevirtual 398, 3) := by decide +kernel
theorem dX11_knock_127 : decode cX11_knock 127 = .ok (.lstore 14, 2) := by decide +kernel
theorem dX11_knock_129 : decode cX11_knock 129 = .ok (.lload 8, 2) := by decide +kernel
theorem dX11_knock_131 : decode cX11_knock 131 = .ok (.lconst 0, 1) := by decide +kernel
theorem dX11_knock_132 : decode cX11_knock 132 = .ok (.lcmp, 1) := by decide +kernel
theorem dX11_knock_133 : decode cX11_knock 133 = .ok (.ifCond .eq 24, 3) := by decide +kernel
theorem dX11_knock_136 : decode cX11_knock 136 = .ok (.lload 10, 2) := by decide +kernel
theorem dX11_knock_138 : decode cX11_knock 138 = .ok (.lconst 0, 1) := by decide +kernel
theorem dX11_knock_139 : decode cX11_knock 139 = .ok (.lcmp, 1) := by decide +kernel
theorem dX11_knock_140 : decode cX11_knock 140 = .ok (.ifCond .eq 17, 3) := by decide +kernel
theorem dX11_knock_143 : decode cX11_knock 143 = .ok (.lload 12, 2) := by decide +kernel
theorem dX11_knock_145 : decode cX11_knock 145 = .ok (.lconst 0, 1) := by decide +kernel
theorem dX11_knock_146 : decode cX11_knock 146 = .ok (.lcmp, 1) := by decide +kernel
theorem dX11_knock_147 : decode cX11_knock 147 = .ok (.ifCond .eq 10, 3) := by decide +kernel
theorem dX11_knock_150 : decode cX11_knock 150 = .ok (.lload 14, 2) := by decide +kernel
theorem dX11_knock_152 : decode cX11_knock 152 = .ok (.lconst 0, 1) := by decide +kernel
theorem dX11_knock_153 : decode cX11_knock 153 = .ok (.lcmp, 1) := by decide +kernel
theorem dX11_knock_154 : decode cX11_knock 154 = .ok (.ifCond .ne 10, 3) := by decide +kernel
theorem dX11_knock_157 : decode cX11_knock 157 = .ok (.aload_n 0, 1) := by decide +kernel
theorem dX11_knock_158 : decode cX11_knock 158 = .ok (.bipush 9, 2) := by decide +kernel
theorem dX11_knock_160 : decode cX11_knock 160 = .ok (.invokevirtual 124, 3) := by decide +kernel
theorem dX11_knock_163 : decode cX11_knock 163 = .ok (.ireturn, 1) := by decide +kernel
theorem dX11_knock_164 : decode cX11_knock 164 = .ok (.aload_n 0, 1) := by decide +kernel
theorem dX11_knock_165 : decode cX11_knock 165 = .ok (.iload 6, 2) := by decide +kernel
theorem dX11_knock_167 : decode cX11_knock 167 = .ok (.iload 7, 2) := by decide +kernel
theorem dX11_knock_169 : decode cX11_knock 169 = .ok (.invokevirtual 401, 3) := by decide +kernel
theorem dX11_knock_172 : decode cX11_knock 172 = .ok (.aload_n 0, 1) := by decide +kernel
theorem dX11_knock_173 : decode cX11_knock 173 = .ok (.iload_n 3, 1) := by decide +kernel
theorem dX11_knock_174 : decode cX11_knock 174 = .ok (.iload 6, 2) := by decide +kernel
theorem dX11_knock_176 : decode cX11_knock 176 = .ok (.invokevirtual 401, 3) := by decide +kernel
theorem dX11_knock_179 : decode cX11_knock 179 = .ok (.lmul, 1) := by decide +kernel
theorem dX11_knock_180 : decode cX11_knock 180 = .ok (.lload 14, 2) := by decide +kernel
theorem dX11_knock_182 : decode cX11_knock 182 = .ok (.lmul, 1) := by decide +kernel
theorem dX11_knock_183 : decode cX11_knock 183 = .ok (.lstore 16, 2) := by decide +kernel
theorem dX11_knock_185 : decode cX11_knock 185 = .ok (.aload_n 0, 1) := by decide +kernel
theorem dX11_knock_186 : decode cX11_knock 186 = .ok (.iload 7, 2) := by decide +kernel
theorem dX11_knock_188 : decode cX11_knock 188 = .ok (.iload 6, 2) := by decide +kernel
theorem dX11_knock_190 : decode cX11_knock 190 = .ok (.invokevirtual 401, 3) := by decide +kernel
theorem dX11_knock_193 : decode cX11_knock 193 = .ok (.aload_n 0, 1) := by decide +kernel
theorem dX11_knock_194 : decode cX11_knock 194 = .ok (.iload_n 3, 1) := by decide +kernel
theorem dX11_knock_195 : decode cX11_knock 195 = .ok (.iload 7, 2) := by decide +kernel
theorem dX11_knock_197 : decode cX11_knock 197 = .ok (.invokevirtual 401, 3) := by decide +kernel
theorem dX11_knock_200 : decode cX11_knock 200 = .ok (.lmul, 1) := by decide +kernel
theorem dX11_knock_201 : decode cX11_knock 201 = .ok (.lload 12, 2) := by decide +kernel
theorem dX11_knock_203 : decode cX11_knock 203 = .ok (.lmul, 1) := by decide +kernel
theorem dX11_knock_204 : decode cX11_knock 204 = .ok (.lstore 18, 2) := by decide +kernel
theorem dX11_knock_206 : decode cX11_knock 206 = .ok (.aload_n 0, 1) := by decide +kernel
theorem dX11_knock_207 : decode cX11_knock 207 = .ok (.aload_n 0, 1) := by decide +kernel
theorem dX11_knock_208 : decode cX11_knock 208 = .ok (.iload_n 3, 1) := by decide +kernel
theorem dX11_knock_209 : decode cX11_knock 209 = .ok (.iload 5, 2) := by decide +kernel
theorem dX11_knock_211 : decode cX11_knock 211 = .ok (.invokevirtual 401, 3) := by decide +kernel
theorem dX11_knock_214 : decode cX11_knock 214 = .ok (.lload 16, 2) := by decide +kernel
theorem dX11_knock_216 : decode cX11_knock 216 = .ok (.lload 18, 2) := by decide +kernel
theorem dX11_knock_218 : decode cX11_knock 218 = .ok (.ladd, 1) := by decide +kernel
theorem dX11_knock_219 : decode cX11_knock 219 = .ok (.lmul, 1) := by decide +kernel
theorem dX11_knock_220 : decode cX11_knock 220 = .ok (.lload 8, 2) := by decide +kernel
theorem dX11_knock_222 : decode cX11_knock 222 = .ok (.lload 10, 2) := by decide +kernel
theorem dX11_knock_224 : decode cX11_knock 224 = .ok (.lmul, 1) := by decide +kernel
theorem dX11_knock_225 : decode cX11_knock 225 = .ok (.lload 12, 2) := by decide +kernel
theorem dX11_knock_227 : decode cX11_knock 227 = .ok (.lmul, 1) := by decide +kernel
theorem dX11_knock_228 : decode cX11_knock 228 = .ok (.lload 14, 2) := by decide +kernel
theorem dX11_knock_230 : decode cX11_knock 230 = .ok (.lmul, 1) := by decide +kernel
theorem dX11_knock_231 : decode cX11_knock 231 = .ok (.invokevirtual 347, 3) := by decide +kernel
theorem dX11_knock_234 : decode cX11_knock 234 = .ok (.aload_n 0, 1) := by decide +kernel
theorem dX11_knock_235 : decode cX11_knock 235 = .ok (.invokevirtual 131, 3) := by decide +kernel
theorem dX11_knock_238 : decode cX11_knock 238 = .ok (.ireturn, 1) := by decide +kernel
theorem dX11_hole_0 : decode cX11_hole 0 = .ok (.iload_n 2, 1) := by decide +kernel
theorem dX11_hole_1 : decode cX11_hole 1 = .ok (.iconst 0, 1) := by decide +kernel
theorem dX11_hole_2 : decode cX11_hole 2 = .ok (.iconst 3, 1) := by decide +kernel
theorem dX11_hole_3 : decode cX11_hole 3 = .ok (.invokestatic 120, 3) := by decide +kernel
theorem dX11_hole_6 : decode cX11_hole 6 = .ok (.ifCond .ne 9, 3) := by decide +kernel
theorem dX11_hole_9 : decode cX11_hole 9 = .ok (.aload_n 0, 1) := by decide +kernel
theorem dX11_hole_10 : decode cX11_hole 10 = .ok (.iconst 5, 1) := by decide +kernel
theorem dX11_hole_11 : decode cX11_hole 11 = .ok (.invokevirtual 143, 3) := by decide +kernel
theorem dX11_hole_14 : decode cX11_hole 14 = .ok (.ireturn, 1) := by decide +kernel
theorem dX11_hole_15 : decode cX11_hole 15 = .ok (.iload_n 1, 1) := by decide +kernel
theorem dX11_hole_16 : decode cX11_hole 16 = .ok (.iconst 0, 1) := by decide +kernel
theorem dX11_hole_17 : decode cX11_hole 17 = .ok (.aload_n 0, 1) := by decide +kernel
theorem dX11_hole_18 : decode cX11_hole 18 = .ok (.getfield 57, 3) := by decide +kernel
theorem dX11_hole_21 : decode cX11_hole 21 = .ok (.getfield 231, 3) := by decide +kernel
theorem dX11_hole_24 : decode cX11_hole 24 = .ok (.iconst 1, 1) := by decide +kernel
theorem dX11_hole_25 : decode cX11_hole 25 = .ok (.isub, 1) := by decide +kernel
theorem dX11_hole_26 : decode cX11_hole 26 = .ok (.invokestatic 120, 3) := by decide +kernel
theorem dX11_hole_29 : decode cX11_hole 29 = .ok (.ifCond .ne 10, 3) := by decide +kernel
theorem dX11_hole_32 : decode cX11_hole 32 = .ok (.aload_n 0, 1) := by decide +kernel
theorem dX11_hole_33 : decode cX11_hole 33 = .ok (.bipush 8, 2) := by decide +kernel
theorem dX11_hole_35 : decode cX11_hole 35 = .ok (.invokevirtual 143, 3) := by decide +kernel
theorem dX11_hole_38 : decode cX11_hole 38 = .ok (.ireturn, 1) := by decide +kernel
theorem dX11_hole_39 : decode cX11_hole 39 = .ok (.iload_n 2, 1) := by decide +kernel
theorem dX11_hole_40 : decode cX11_hole 40 = .ok (.tableswitch 70 0 2 #[28, 42, 56], 28) := by decide +kernel
theorem dX11_hole_68 : decode cX11_hole 68 = .ok (.aload_n 0, 1) := by decide +kernel
theorem dX11_hole_69 : decode cX11_hole 69 = .ok (.aload_n 0, 1) := by decide +kernel
theorem dX11_hole_70 : decode cX11_hole 70 = .ok (.getfield 57, 3) := by decide +kernel
theorem dX11_hole_73 : decode cX11_hole 73 = .ok (.getfield 404, 3) := by decide +kernel
theorem dX11_hole_76 : decode cX11_hole 76 = .ok (.iload_n 1, 1) := by decide +kernel
theorem dX11_hole_77 : decode cX11_hole 77 = .ok (.iaload, 1) := by decide +kernel
theorem dX11_hole_78 : decode cX11_hole 78 = .ok (.invokevirtual 189, 3) := by decide +kernel
theorem dX11_hole_81 : decode cX11_hole 81 = .ok (.ireturn, 1) := by decide +kernel
theorem dX11_hole_82 : decode cX11_hole 82 = .ok (.aload_n 0, 1) := by decide +kernel
theorem dX11_hole_83 : decode cX11_hole 83 = .ok (.aload_n 0, 1) := by decide +kernel
theorem dX11_hole_84 : decode cX11_hole 84 = .ok (.getfield 57, 3) := by decide +kernel
theorem dX11_hole_87 : decode cX11_hole 87 = .ok (.getfield 407, 3) := by decide +kernel
theorem dX11_hole_90 : decode cX11_hole 90 = .ok (.iload_n 1, 1) := by decide +kernel
theorem dX11_hole_91 : decode cX11_hole 91 = .ok (.iaload, 1) := by decide +kernel
theorem dX11_hole_92 : decode cX11_hole 92 = .ok (.invokevirtual 189, 3) := by decide +kernel
theorem dX11_hole_95 : decode cX11_hole 95 = .ok (.ireturn, 1) := by decide +kernel
theorem dX11_hole_96 : decode cX11_hole 96 = .ok (.aload_n 0, 1) := by decide +kernel
theorem dX11_hole_97 : decode cX11_hole 97 = .ok (.aload_n 0, 1) := by decide +kernel
theorem dX11_hole_98 : decode cX11_hole 98 = .ok (.getfield 57, 3) := by decide +kernel
theorem dX11_hole_101 : decode cX11_hole 101 = .ok (.getfield 410, 3) := by decide +kernel
theorem dX11_hole_104 : decode cX11_hole 104 = .ok (.iload_n 1, 1) := by decide +kernel
theorem dX11_hole_105 : decode cX11_hole 105 = .ok (.iaload, 1) := by decide +kernel
theorem dX11_hole_106 : decode cX11_hole 106 = .ok (.invokevirtual 189, 3) := by decide +kernel
theorem dX11_hole_109 : decode cX11_hole 109 = .ok (.ireturn, 1) := by decide +kernel
theorem dX11_hole_110 : decode cX11_hole 110 = .ok (.aload_n 0, 1) := by decide +kernel
theorem dX11_hole_111 : decode cX11_hole 111 = .ok (.aload_n 0, 1) := by decide +kernel
theorem dX11_hole_112 : decode cX11_hole 112 = .ok (.getfield 57, 3) := by decide +kernel
theorem dX11_hole_115 : decode cX11_hole 115 = .ok (.getfield 413, 3) := by decide +kernel
theorem dX11_hole_118 : decode cX11_hole 118 = .ok (.iload_n 1, 1) := by decide +kernel
theorem dX11_hole_119 : decode cX11_hole 119 = .ok (.iaload, 1) := by decide +kernel
theorem dX11_hole_120 : decode cX11_hole 120 = .ok (.invokevirtual 189, 3) := by decide +kernel
theorem dX11_hole_123 : decode cX11_hole 123 = .ok (.ireturn, 1) := by decide +kernel
theorem dX11_lean_0 : decode cX11_lean 0 = .ok (.iload_n 1, 1) := by decide +kernel
theorem dX11_lean_1 : decode cX11_lean 1 = .ok (.iconst (-1), 1) := by decide +kernel
theorem dX11_lean_2 : decode cX11_lean 2 = .ok (.if_icmp .eq 11, 3) := by decide +kernel
theorem dX11_lean_5 : decode cX11_lean 5 = .ok (.aload_n 0, 1) := by decide +kernel
theorem dX11_lean_6 : decode cX11_lean 6 = .ok (.iload_n 1, 1) := by decide +kernel
theorem dX11_lean_7 : decode cX11_lean 7 = .ok (.invokevirtual 262, 3) := by decide +kernel
theorem dX11_lean_10 : decode cX11_lean 10 = .ok (.ifCond .eq 16, 3) := by decide +kernel
theorem dX11_lean_13 : decode cX11_lean 13 = .ok (.iload_n 2, 1) := by decide +kernel
theorem dX11_lean_14 : decode cX11_lean 14 = .ok (.iconst (-1), 1) := by decide +kernel
theorem dX11_lean_15 : decode cX11_lean 15 = .ok (.if_icmp .eq 17, 3) := by decide +kernel
theorem dX11_lean_18 : decode cX11_lean 18 = .ok (.aload_n 0, 1) := by decide +kernel
theorem dX11_lean_19 : decode cX11_lean 19 = .ok (.iload_n 2, 1) := by decide +kernel
theorem dX11_lean_20 : decode cX11_lean 20 = .ok (.invokevirtual 241, 3) := by decide +kernel
theorem dX11_lean_23 : decode cX11_lean 23 = .ok (.ifCond .ne 9, 3) := by decide +kernel
theorem dX11_lean_26 : decode cX11_lean 26 = .ok (.aload_n 0, 1) := by decide +kernel
theorem dX11_lean_27 : decode cX11_lean 27 = .ok (.iconst 2, 1) := by decide +kernel
theorem dX11_lean_28 : decode cX11_lean 28 = .ok (.invokevirtual 124, 3) := by decide +kernel
theorem dX11_lean_31 : decode cX11_lean 31 = .ok (.ireturn, 1) := by decide +kernel
theorem dX11_lean_32 : decode cX11_lean 32 = .ok (.iload_n 3, 1) := by decide +kernel
theorem dX11_lean_33 : decode cX11_lean 33 = .ok (.iconst 0, 1) := by decide +kernel
theorem dX11_lean_34 : decode cX11_lean 34 = .ok (.iconst 2, 1) := by decide +kernel
theorem dX11_lean_35 : decode cX11_lean 35 = .ok (.invokestatic 120, 3) := by decide +kernel
theorem dX11_lean_38 : decode cX11_lean 38 = .ok (.ifCond .ne 9, 3) := by decide +kernel
theorem dX11_lean_41 : decode cX11_lean 41 = .ok (.aload_n 0, 1) := by decide +kernel
theorem dX11_lean_42 : decode cX11_lean 42 = .ok (.iconst 5, 1) := by decide +kernel
theorem dX11_lean_43 : decode cX11_lean 43 = .ok (.invokevirtual 124, 3) := by decide +kernel
theorem dX11_lean_46 : decode cX11_lean 46 = .ok (.ireturn, 1) := by decide +kernel
theorem dX11_lean_47 : decode cX11_lean 47 = .ok (.aload_n 0, 1) := by decide +kernel
theorem dX11_lean_48 : decode cX11_lean 48 = .ok (.getfield 57, 3) := by decide +kernel
theorem dX11_lean_51 : decode cX11_lean 51 = .ok (.iload_n 1, 1) := by decide +kernel
theorem dX11_lean_52 : decode cX11_lean 52 = .ok (.iload_n 2, 1) := by decide +kernel
theorem dX11_lean_53 : decode cX11_lean 53 = .ok (.invokevirtual 280, 3) := by decide +kernel
theorem dX11_lean_56 : decode cX11_lean 56 = .ok (.aload_n 0, 1) := by decide +kernel
theorem dX11_lean_57 : decode cX11_lean 57 = .ok (.getfield 57, 3) := by decide +kernel
theorem dX11_lean_60 : decode cX11_lean 60 = .ok (.getfield 283, 3) := by decide +kernel
theorem dX11_lean_63 : decode cX11_lean 63 = .ok (.ifCond .ne 10, 3) := by decide +kernel
theorem dX11_lean_66 : decode cX11_lean 66 = .ok (.aload_n 0, 1) := by decide +kernel
theorem dX11_lean_67 : decode cX11_lean 67 = .ok (.bipush 8, 2) := by decide +kernel
theorem dX11_lean_69 : decode cX11_lean 69 = .ok (.invokevirtual 124, 3) := by decide +kernel
theorem dX11_lean_72 : decode cX11_lean 72 = .ok (.ireturn, 1) := by decide +kernel
theorem dX11_lean_73 : decode cX11_lean 73 = .ok (.iload_n 3, 1) := by decide +kernel
theorem dX11_lean_74 : decode cX11_lean 74 = .ok (.ifCond .ne 25, 3) := by decide +kernel
theorem dX11_lean_77 : decode cX11_lean 77 = .ok (.aload_n 0, 1) := by decide +kernel
theorem dX11_lean_78 : decode cX11_lean 78 = .ok (.aload_n 0, 1) := by decide +kernel
theorem dX11_lean_79 : decode cX11_lean 79 = .ok (.getfield 57, 3) := by decide +kernel
theorem dX11_lean_82 : decode cX11_lean 82 = .ok (.getfield 416, 3) := by decide +kernel
theorem dX11_lean_85 : decode cX11_lean 85 = .ok (.aload_n 0, 1) := by decide +kernel
theorem dX11_lean_86 : decode cX11_lean 86 = .ok (.getfield 57, 3) := by decide +kernel
theorem dX11_lean_89 : decode cX11_lean 89 = .ok (.getfield 283, 3) := by decide +kernel
theorem dX11_lean_92 : decode cX11_lean 92 = .ok (.i2l, 1) := by decide +kernel
theorem dX11_lean_93 : decode cX11_lean 93 = .ok (.invokevirtual 347, 3) := by decide +kernel
theorem dX11_lean_96 : decode cX11_lean 96 = .ok (.goto 48, 3) := by decide +kernel
theorem dX11_lean_99 : decode cX11_lean 99 = .ok (.iload_n 3, 1) := by decide +kernel
theorem dX11_lean_100 : decode cX11_lean 100 = .ok (.iconst 1, 1) := by decide +kernel
theorem dX11_lean_101 : decode cX11_lean 101 = .ok (.if_icmp .ne 25, 3) := by decide +kernel
theorem dX11_lean_104 : decode cX11_lean 104 = .ok (.aload_n 0, 1) := by decide +kernel
theorem dX11_lean_105 : decode cX11_lean 105 = .ok (.aload_n 0, 1) := by decide +kernel
theorem dX11_lean_106 : decode cX11_lean 106 = .ok (.getfield 57, 3) := by decide +kernel
theorem dX11_lean_109 : decode cX11_lean 109 = .ok (.getfield 419, 3) := by decide +kernel
theorem dX11_lean_112 : decode cX11_lean 112 = .ok (.aload_n 0, 1) := by decide +kernel
theorem dX11_lean_113 : decode cX11_lean 113 = .ok (.getfield 57, 3) := by decide +kernel
theorem dX11_lean_116 : decode cX11_lean 116 = .ok (.getfield 283, 3) := by decide +kernel
theorem dX11_lean_119 : decode cX11_lean 119 = .ok (.i2l, 1) := by decide +kernel
theorem dX11_lean_120 : decode cX11_lean 120 = .ok (.invokevirtual 347, 3) := by decide +kernel
theorem dX11_lean_123 : decode cX11_lean 123 = .ok (.goto 21, 3) := by decide +kernel
theorem dX11_lean_126 : decode cX11_lean 126 = .ok (.aload_n 0, 1) := by decide +kernel
theorem dX11_lean_127 : decode cX11_lean 127 = .ok (.aload_n 0, 1) := by decide +kernel
theorem dX11_lean_128 : decode cX11_lean 128 = .ok (.getfield 57, 3) := by decide +kernel
theorem dX11_lean_131 : decode cX11_lean 131 = .ok (.invokevirtual 422, 3) := by decide +kernel
theorem dX11_lean_134 : decode cX11_lean 134 = .ok (.aload_n 0, 1) := by decide +kernel
theorem dX11_lean_135 : decode cX11_lean 135 = .ok (.getfield 57, 3) := by decide +kernel
theorem dX11_lean_138 : decode cX11_lean 138 = .ok (.invokevirtual 425, 3) := by decide +kernel
theorem dX11_lean_141 : decode cX11_lean 141 = .ok (.invokevirtual 347, 3) := by decide +kernel
theorem dX11_lean_144 : decode cX11_lean 144 = .ok (.aload_n 0, 1) := by decide +kernel
theorem dX11_lean_145 : decode cX11_lean 145 = .ok (.invokevirtual 131, 3) := by decide +kernel
theorem dX11_lean_148 : decode cX11_lean 148 = .ok (.ireturn, 1) := by decide +kernel
theorem dX11_whose_0 : decode cX11_whose 0 = .ok (.iload_n 1, 1) := by decide +kernel
theorem dX11_whose_1 : decode cX11_whose 1 = .ok (.bipush (-99), 2) := by decide +kernel
theorem dX11_whose_3 : decode cX11_whose 3 = .ok (.bipush 99, 2) := by decide +kernel
theorem dX11_whose_5 : decode cX11_whose 5 = .ok (.invokestatic 120, 3) := by decide +kernel
theorem dX11_whose_8 : decode cX11_whose 8 = .ok (.ifCond .eq 14, 3) := by decide +kernel
theorem dX11_whose_11 : decode cX11_whose 11 = .ok (.iload_n 2, 1) := by decide +kernel
theorem dX11_whose_12 : decode cX11_whose 12 = .ok (.bipush (-99), 2) := by decide +kernel
theorem dX11_whose_14 : decode cX11_whose 14 = .ok (.bipush 99, 2) := by decide +kernel
theorem dX11_whose_16 : decode cX11_whose 16 = .ok (.invokestatic 120, 3) := by decide +kernel
theorem dX11_whose_19 : decode cX11_whose 19 = .ok (.ifCond .ne 9, 3) := by decide +kernel
theorem dX11_whose_22 : decode cX11_whose 22 = .ok (.aload_n 0, 1) := by decide +kernel
theorem dX11_whose_23 : decode cX11_whose 23 = .ok (.iconst 5, 1) := by decide +kernel
theorem dX11_whose_24 : decode cX11_whose 24 = .ok (.invokevirtual 143, 3) := by decide +kernel
theorem dX11_whose_27 : decode cX11_whose 27 = .ok (.ireturn, 1) := by decide +kernel
theorem dX11_whose_28 : decode cX11_whose 28 = .ok (.aload_n 0, 1) := by decide +kernel
theorem dX11_whose_29 : decode cX11_whose 29 = .ok (.getfield 102, 3) := by decide +kernel
theorem dX11_whose_32 : decode cX11_whose 32 = .ok (.invokevirtual 355, 3) := by decide +kernel
theorem dX11_whose_35 : decode cX11_whose 35 = .ok (.iconst 0, 1) := by decide +kernel
theorem dX11_whose_36 : decode cX11_whose 36 = .ok (.istore_n 3, 1) := by decide +kernel
theorem dX11_whose_37 : decode cX11_whose 37 = .ok (.iload_n 3, 1) := by decide +kernel
theorem dX11_whose_38 : decode cX11_whose 38 = .ok (.aload_n 0, 1) := by decide +kernel
theorem dX11_whose_39 : decode cX11_whose 39 = .ok (.getfield 37, 3) := by decide +kernel
theorem dX11_whose_42 : decode cX11_whose 42 = .ok (.getfield 225, 3) := by decide +kernel
theorem dX11_whose_45 : decode cX11_whose 45 = .ok (.if_icmp .ge 53, 3) := by decide +kernel
theorem dX11_whose_48 : decode cX11_whose 48 = .ok (.aload_n 0, 1) := by decide +kernel
theorem dX11_whose_49 : decode cX11_whose 49 = .ok (.getfield 57, 3) := by decide +kernel
theorem dX11_whose_52 : decode cX11_whose 52 = .ok (.iload_n 3, 1) := by decide +kernel
theorem dX11_whose_53 : decode cX11_whose 53 = .ok (.iconst (-1), 1) := by decide +kernel
theorem dX11_whose_54 : decode cX11_whose 54 = .ok (.invokevirtual 280, 3) := by decide +kernel
theorem dX11_whose_57 : decode cX11_whose 57 = .ok (.aload_n 0, 1) := by decide +kernel
theorem dX11_whose_58 : decode cX11_whose 58 = .ok (.getfield 57, 3) := by decide +kernel
theorem dX11_whose_61 : decode cX11_whose 61 = .ok (.getfield 283, 3) := by decide +kernel
theorem dX11_whose_64 : decode cX11_whose 64 = .ok (.ifCond .le 28, 3) := by decide +kernel
theorem dX11_whose_67 : decode cX11_whose 67 = .ok (.aload_n 0, 1) := by decide +kernel
theorem dX11_whose_68 : decode cX11_whose 68 = .ok (.getfield 102, 3) := by decide +kernel
theorem dX11_whose_71 : decode cX11_whose 71 = .ok (.iload_n 3, 1) := by decide +kernel
theorem dX11_whose_72 : decode cX11_whose 72 = .ok (.aload_n 0, 1) := by decide +kernel
theorem dX11_whose_73 : decode cX11_whose 73 = .ok (.getfield 57, 3) := by decide +kernel
theorem dX11_whose_76 : decode cX11_whose 76 = .ok (.iload_n 1, 1) := by decide +kernel
theorem dX11_whose_77 : decode cX11_whose 77 = .ok (.iload_n 2, 1) := by decide +kernel
theorem dX11_whose_78 : decode cX11_whose 78 = .ok (.invokevirtual 428, 3) := by decide +kernel
theorem dX11_whose_81 : decode cX11_whose 81 = .ok (.lneg, 1) := by decide +kernel
theorem dX11_whose_82 : decode cX11_whose 82 = .ok (.aload_n 0, 1) := by decide +kernel
theorem dX11_whose_83 : decode cX11_whose 83 = .ok (.getfield 57, 3) := by decide +kernel
theorem dX11_whose_86 : decode cX11_whose 86 = .ok (.invokevirtual 425, 3) := by decide +kernel
theorem dX11_whose_89 : decode cX11_whose 89 = .ok (.invokevirtual 380, 3) := by decide +kernel
theorem dX11_whose_92 : decode cX11_whose 92 = .ok (.iinc 3 1, 3) := by decide +kernel
theorem dX11_whose_95 : decode cX11_whose 95 = .ok (.goto (-58), 3) := by decide +kernel
theorem dX11_whose_98 : decode cX11_whose 98 = .ok (.aload_n 0, 1) := by decide +kernel
theorem dX11_whose_99 : decode cX11_whose 99 = .ok (.getfield 102, 3) := by decide +kernel
theorem dX11_whose_102 : decode cX11_whose 102 = .ok (.getfield 431, 3) := by decide +kernel
theorem dX11_whose_105 : decode cX11_whose 105 = .ok (.ifCond .eq 17, 3) := by decide +kernel
theorem dX11_whose_108 : decode cX11_whose 108 = .ok (.aload_n 0, 1) := by decide +kernel
theorem dX11_whose_109 : decode cX11_whose 109 = .ok (.aload_n 0, 1) := by decide +kernel
theorem dX11_whose_110 : decode cX11_whose 110 = .ok (.getfield 102, 3) := by decide +kernel
theorem dX11_whose_113 : decode cX11_whose 113 = .ok (.getfield 363, 3) := by decide +kernel
theorem dX11_whose_116 : decode cX11_whose 116 = .ok (.invokevirtual 189, 3) := by decide +kernel
theorem dX11_whose_119 : decode cX11_whose 119 = .ok (.goto 9, 3) := by decide +kernel
theorem dX11_whose_122 : decode cX11_whose 122 = .ok (.aload_n 0, 1) := by decide +kernel
theorem dX11_whose_123 : decode cX11_whose 123 = .ok (.bipush 8, 2) := by decide +kernel
theorem dX11_whose_125 : decode cX11_whose 125 = .ok (.invokevirtual 143, 3) := by decide +kernel
theorem dX11_whose_128 : decode cX11_whose 128 = .ok (.ireturn, 1) := by decide +kernel
theorem dX11_worst_0 : decode cX11_worst 0 = .ok (.iload_n 1, 1) := by decide +kernel
theorem dX11_worst_1 : decode cX11_worst 1 = .ok (.iconst 0, 1) := by decide +kernel
theorem dX11_worst_2 : decode cX11_worst 2 = .ok (.iconst 1, 1) := by decide +kernel
theorem dX11_worst_3 : decode cX11_worst 3 = .ok (.invokestatic 120, 3) := by decide +kernel
theorem dX11_worst_6 : decode cX11_worst 6 = .ok (.ifCond .ne 9, 3) := by decide +kernel
theorem dX11_worst_9 : decode cX11_worst 9 = .ok (.aload_n 0, 1) := by decide +kernel
theorem dX11_worst_10 : decode cX11_worst 10 = .ok (.iconst 5, 1) := by decide +kernel
theorem dX11_worst_11 : decode cX11_worst 11 = .ok (.invokevirtual 143, 3) := by decide +kernel
theorem dX11_worst_14 : decode cX11_worst 14 = .ok (.ireturn, 1) := by decide +kernel
theorem dX11_worst_15 : decode cX11_worst 15 = .ok (.iload_n 1, 1) := by decide +kernel
theorem dX11_worst_16 : decode cX11_worst 16 = .ok (.ifCond .ne 13, 3) := by decide +kernel
theorem dX11_worst_19 : decode cX11_worst 19 = .ok (.aload_n 0, 1) := by decide +kernel
theorem dX11_worst_20 : decode cX11_worst 20 = .ok (.getfield 37, 3) := by decide +kernel
theorem dX11_worst_23 : decode cX11_worst 23 = .ok (.getfield 225, 3) := by decide +kernel
theorem dX11_worst_26 : decode cX11_worst 26 = .ok (.goto 10, 3) := by decide +kernel
theorem dX11_worst_29 : decode cX11_worst 29 = .ok (.aload_n 0, 1) := by decide +kernel
theorem dX11_worst_30 : decode cX11_worst 30 = .ok (.getfield 37, 3) := by decide +kernel
theorem dX11_worst_33 : decode cX11_worst 33 = .ok (.getfield 186, 3) := by decide +kernel
theorem dX11_worst_36 : decode cX11_worst 36 = .ok (.istore_n 2, 1) := by decide +kernel
theorem dX11_worst_37 : decode cX11_worst 37 = .ok (.aload_n 0, 1) := by decide +kernel
theorem dX11_worst_38 : decode cX11_worst 38 = .ok (.getfield 102, 3) := by decide +kernel
theorem dX11_worst_41 : decode cX11_worst 41 = .ok (.invokevirtual 355, 3) := by decide +kernel
theorem dX11_worst_44 : decode cX11_worst 44 = .ok (.iconst 0, 1) := by decide +kernel
theorem dX11_worst_45 : decode cX11_worst 45 = .ok (.istore_n 3, 1) := by decide +kernel
theorem dX11_worst_46 : decode cX11_worst 46 = .ok (.iload_n 3, 1) := by decide +kernel
theorem dX11_worst_47 : decode cX11_worst 47 = .ok (.iload_n 2, 1) := by decide +kernel
theorem dX11_worst_48 : decode cX11_worst 48 = .ok (.if_icmp .ge 66, 3) := by decide +kernel
theorem dX11_worst_51 : decode cX11_worst 51 = .ok (.aload_n 0, 1) := by decide +kernel
theorem dX11_worst_52 : decode cX11_worst 52 = .ok (.getfield 57, 3) := by decide +kernel
theorem dX11_worst_55 : decode cX11_worst 55 = .ok (.iload_n 1, 1) := by decide +kernel
theorem dX11_worst_56 : decode cX11_worst 56 = .ok (.ifCond .ne 7, 3) := by decide +kernel
theorem dX11_worst_59 : decode cX11_worst 59 = .ok (.iload_n 3, 1) := by decide +kernel
theorem dX11_worst_60 : decode cX11_worst 60 = .ok (.goto 4, 3) := by decide +kernel
theorem dX11_worst_63 : decode cX11_worst 63 = .ok (.iconst (-1), 1) := by decide +kernel
theorem dX11_worst_64 : decode cX11_worst 64 = .ok (.iload_n 1, 1) := by decide +kernel
theorem dX11_worst_65 : decode cX11_worst 65 = .ok (.ifCond .ne 7, 3) := by decide +kernel
theorem dX11_worst_68 : decode cX11_worst 68 = .ok (.iconst (-1), 1) := by decide +kernel
theorem dX11_worst_69 : decode cX11_worst 69 = .ok (.goto 4, 3) := by decide +kernel
theorem dX11_worst_72 : decode cX11_worst 72 = .ok (.iload_n 3, 1) := by decide +kernel
theorem dX11_worst_73 : decode cX11_worst 73 = .ok (.invokevirtual 280, 3) := by decide +kernel
theorem dX11_worst_76 : decode cX11_worst 76 = .ok (.aload_n 0, 1) := by decide +kernel
theorem dX11_worst_77 : decode cX11_worst 77 = .ok (.getfield 57, 3) := by decide +kernel
theorem dX11_worst_80 : decode cX11_worst 80 = .ok (.getfield 283, 3) := by decide +kernel
theorem dX11_worst_83 : decode cX11_worst 83 = .ok (.ifCond .le 25, 3) := by decide +kernel
theorem dX11_worst_86 : decode cX11_worst 86 = .ok (.aload_n 0, 1) := by decide +kernel
theorem dX11_worst_87 : decode cX11_worst 87 = .ok (.getfield 102, 3) := by decide +kernel
theorem dX11_worst_90 : decode cX11_worst 90 = .ok (.iload_n 3, 1) := by decide +kernel
theorem dX11_worst_91 : decode cX11_worst 91 = .ok (.aload_n 0, 1) := by decide +kernel
theorem dX11_worst_92 : decode cX11_worst 92 = .ok (.getfield 57, 3) := by decide +kernel
theorem dX11_worst_95 : decode cX11_worst 95 = .ok (.invokevirtual 422, 3) := by decide +kernel
theorem dX11_worst_98 : decode cX11_worst 98 = .ok (.aload_n 0, 1) := by decide +kernel
theorem dX11_worst_99 : decode cX11_worst 99 = .ok (.getfield 57, 3) := by decide +kernel
theorem dX11_worst_102 : decode cX11_worst 102 = .ok (.invokevirtual 425, 3) := by decide +kernel
theorem dX11_worst_105 : decode cX11_worst 105 = .ok (.invokevirtual 380, 3) := by decide +kernel
theorem dX11_worst_108 : decode cX11_worst 108 = .ok (.iinc 3 1, 3) := by decide +kernel
theorem dX11_worst_111 : decode cX11_worst 111 = .ok (.goto (-65), 3) := by decide +kernel
theorem dX11_worst_114 : decode cX11_worst 114 = .ok (.aload_n 0, 1) := by decide +kernel
theorem dX11_worst_115 : decode cX11_worst 115 = .ok (.getfield 102, 3) := by decide +kernel
theorem dX11_worst_118 : decode cX11_worst 118 = .ok (.getfield 431, 3) := by decide +kernel
theorem dX11_worst_121 : decode cX11_worst 121 = .ok (.ifCond .eq 17, 3) := by decide +kernel
theorem dX11_worst_124 : decode cX11_worst 124 = .ok (.aload_n 0, 1) := by decide +kernel
theorem dX11_worst_125 : decode cX11_worst 125 = .ok (.aload_n 0, 1) := by decide +kernel
theorem dX11_worst_126 : decode cX11_worst 126 = .ok (.getfield 102, 3) := by decide +kernel
theorem dX11_worst_129 : decode cX11_worst 129 = .ok (.getfield 363, 3) := by decide +kernel
theorem dX11_worst_132 : decode cX11_worst 132 = .ok (.invokevirtual 189, 3) := by decide +kernel
theorem dX11_worst_135 : decode cX11_worst 135 = .ok (.goto 9, 3) := by decide +kernel
theorem dX11_worst_138 : decode cX11_worst 138 = .ok (.aload_n 0, 1) := by decide +kernel
theorem dX11_worst_139 : decode cX11_worst 139 = .ok (.bipush 8, 2) := by decide +kernel
theorem dX11_worst_141 : decode cX11_worst 141 = .ok (.invokevirtual 143, 3) := by decide +kernel
theorem dX11_worst_144 : decode cX11_worst 144 = .ok (.ireturn, 1) := by decide +kernel
theorem dX11_sieve_0 : decode cX11_sieve 0 = .ok (.iload_n 1, 1) := by decide +kernel
theorem dX11_sieve_1 : decode cX11_sieve 1 = .ok (.iconst 1, 1) := by decide +kernel
theorem dX11_sieve_2 : decode cX11_sieve 2 = .ok (.bipush 12, 2) := by decide +kernel
theorem dX11_sieve_4 : decode cX11_sieve 4 = .ok (.invokestatic 120, 3) := by decide +kernel
theorem dX11_sieve_7 : decode cX11_sieve 7 = .ok (.ifCond .ne 9, 3) := by decide +kernel
theorem dX11_sieve_10 : decode cX11_sieve 10 = .ok (.aload_n 0, 1) := by decide +kernel
theorem dX11_sieve_11 : decode cX11_sieve 11 = .ok (.iconst 5, 1) := by decide +kernel
theorem dX11_sieve_12 : decode cX11_sieve 12 = .ok (.invokevirtual 143, 3) := by decide +kernel
theorem dX11_sieve_15 : decode cX11_sieve 15 = .ok (.ireturn, 1) := by decide +kernel
theorem dX11_sieve_16 : decode cX11_sieve 16 = .ok (.iconst 0, 1) := by decide +kernel
theorem dX11_sieve_17 : decode cX11_sieve 17 = .ok (.istore_n 2, 1) := by decide +kernel
theorem dX11_sieve_18 : decode cX11_sieve 18 = .ok (.iconst 0, 1) := by decide +kernel
theorem dX11_sieve_19 : decode cX11_sieve 19 = .ok (.istore_n 3, 1) := by decide +kernel
theorem dX11_sieve_20 : decode cX11_sieve 20 = .ok (.iload_n 3, 1) := by decide +kernel
theorem dX11_sieve_21 : decode cX11_sieve 21 = .ok (.aload_n 0, 1) := by decide +kernel
theorem dX11_sieve_22 : decode cX11_sieve 22 = .ok (.getfield 37, 3) := by decide +kernel
theorem dX11_sieve_25 : decode cX11_sieve 25 = .ok (.getfield 186, 3) := by decide +kernel
theorem dX11_sieve_28 : decode cX11_sieve 28 = .ok (.if_icmp .ge 28, 3) := by decide +kernel
theorem dX11_sieve_31 : decode cX11_sieve 31 = .ok (.aload_n 0, 1) := by decide +kernel
theorem dX11_sieve_32 : decode cX11_sieve 32 = .ok (.getfield 37, 3) := by decide +kernel
theorem dX11_sieve_35 : decode cX11_sieve 35 = .ok (.getfield 247, 3) := by decide +kernel
theorem dX11_sieve_38 : decode cX11_sieve 38 = .ok (.iload_n 3, 1) := by decide +kernel
theorem dX11_sieve_39 : decode cX11_sieve 39 = .ok (.iaload, 1) := by decide +kernel
theorem dX11_sieve_40 : decode cX11_sieve 40 = .ok (.iload_n 1, 1) := by decide +kernel
theorem dX11_sieve_41 : decode cX11_sieve 41 = .ok (.if_icmp .gt 9, 3) := by decide +kernel
theorem dX11_sieve_44 : decode cX11_sieve 44 = .ok (.iload_n 2, 1) := by decide +kernel
theorem dX11_sieve_45 : decode cX11_sieve 45 = .ok (.iconst 1, 1) := by decide +kernel
theorem dX11_sieve_46 : decode cX11_sieve 46 = .ok (.iload_n 3, 1) := by decide +kernel
theorem dX11_sieve_47 : decode cX11_sieve 47 = .ok (.ishl, 1) := by decide +kernel
theorem dX11_sieve_48 : decode cX11_sieve 48 = .ok (.ior, 1) := by decide +kernel
theorem dX11_sieve_49 : decode cX11_sieve 49 = .ok (.istore_n 2, 1) := by decide +kernel
theorem dX11_sieve_50 : decode cX11_sieve 50 = .ok (.iinc 3 1, 3) := by decide +kernel
theorem dX11_sieve_53 : decode cX11_sieve 53 = .ok (.goto (-33), 3) := by decide +kernel
theorem dX11_sieve_56 : decode cX11_sieve 56 = .ok (.aload_n 0, 1) := by decide +kernel
theorem dX11_sieve_57 : decode cX11_sieve 57 = .ok (.iload_n 2, 1) := by decide +kernel
theorem dX11_sieve_58 : decode cX11_sieve 58 = .ok (.invokevirtual 189, 3) := by decide +kernel
theorem dX11_sieve_61 : decode cX11_sieve 61 = .ok (.ireturn, 1) := by decide +kernel
theorem dX11_same_0 : decode cX11_same 0 = .ok (.aload_n 0, 1) := by decide +kernel
theorem dX11_same_1 : decode cX11_same 1 = .ok (.aload_n 0, 1) := by decide +kernel
theorem dX11_same_2 : decode cX11_same 2 = .ok (.getfield 57, 3) := by decide +kernel
theorem dX11_same_5 : decode cX11_same 5 = .ok (.invokevirtual 434, 3) := by decide +kernel
theorem dX11_same_8 : decode cX11_same 8 = .ok (.invokevirtual 189, 3) := by decide +kernel
theorem dX11_same_11 : decode cX11_same 11 = .ok (.ireturn, 1) := by decide +kernel
theorem dX11_shoot_0 : decode cX11_shoot 0 = .ok (.aload_n 0, 1) := by decide +kernel
theorem dX11_shoot_1 : decode cX11_shoot 1 = .ok (.iload_n 1, 1) := by decide +kernel
theorem dX11_shoot_2 : decode cX11_shoot 2 = .ok (.iload_n 2, 1) := by decide +kernel
theorem dX11_shoot_3 : decode cX11_shoot 3 = .ok (.iload_n 3, 1) := by decide +kernel
theorem dX11_shoot_4 : decode cX11_shoot 4 = .ok (.iconst 0, 1) := by decide +kernel
theorem dX11_shoot_5 : decode cX11_shoot 5 = .ok (.iload 4, 2) := by decide +kernel
theorem dX11_shoot_7 : decode cX11_shoot 7 = .ok (.iload 5, 2) := by decide +kernel
theorem dX11_shoot_9 : decode cX11_shoot 9 = .ok (.invokevirtual 308, 3) := by decide +kernel
theorem dX11_shoot_12 : decode cX11_shoot 12 = .ok (.istore 9, 2) := by decide +kernel
theorem dX11_shoot_14 : decode cX11_shoot 14 = .ok (.iload 9, 2) := by decide +kernel
theorem dX11_shoot_16 : decode cX11_shoot 16 = .ok (.ifCond .eq 10, 3) := by decide +kernel
theorem dX11_shoot_19 : decode cX11_shoot 19 = .ok (.aload_n 0, 1) := by decide +kernel
theorem dX11_shoot_20 : decode cX11_shoot 20 = .ok (.iload 9, 2) := by decide +kernel
theorem dX11_shoot_22 : decode cX11_shoot 22 = .ok (.invokevirtual 143, 3) := by decide +kernel
theorem dX11_shoot_25 : decode cX11_shoot 25 = .ok (.ireturn, 1) := by decide +kernel
theorem dX11_shoot_26 : decode cX11_shoot 26 = .ok (.iload 6, 2) := by decide +kernel
theorem dX11_shoot_28 : decode cX11_shoot 28 = .ok (.iconst (-1), 1) := by decide +kernel
theorem dX11_shoot_29 : decode cX11_shoot 29 = .ok (.iconst 1, 1) := by decide +kernel
theorem dX11_shoot_30 : decode cX11_shoot 30 = .ok (.invokestatic 120, 3) := by decide +kernel
theorem dX11_shoot_33 : decode cX11_shoot 33 = .ok (.ifCond .eq 27, 3) := by decide +kernel
theorem dX11_shoot_36 : decode cX11_shoot 36 = .ok (.iload 7, 2) := by decide +kernel
theorem dX11_shoot_38 : decode cX11_shoot 38 = .ok (.bipush (-6), 2) := by decide +kernel
theorem dX11_shoot_40 : decode cX11_shoot 40 = .ok (.bipush 6, 2) := by decide +kernel
theorem dX11_shoot_42 : decode cX11_shoot 42 = .ok (.invokestatic 120, 3) := by decide +kernel
theorem dX11_shoot_45 : decode cX11_shoot 45 = .ok (.ifCond .eq 15, 3) := by decide +kernel
theorem dX11_shoot_48 : decode cX11_shoot 48 = .ok (.iload 8, 2) := by decide +kernel
theorem dX11_shoot_50 : decode cX11_shoot 50 = .ok (.bipush (-6), 2) := by decide +kernel
theorem dX11_shoot_52 : decode cX11_shoot 52 = .ok (.bipush 6, 2) := by decide +kernel
theorem dX11_shoot_54 : decode cX11_shoot 54 = .ok (.invokestatic 120, 3) := by decide +kernel
theorem dX11_shoot_57 : decode cX11_shoot 57 = .ok (.ifCond .ne 9, 3) := by decide +kernel
theorem dX11_shoot_60 : decode cX11_shoot 60 = .ok (.aload_n 0, 1) := by decide +kernel
theorem dX11_shoot_61 : decode cX11_shoot 61 = .ok (.iconst 5, 1) := by decide +kernel
theorem dX11_shoot_62 : decode cX11_shoot 62 = .ok (.invokevirtual 143, 3) := by decide +kernel
theorem dX11_shoot_65 : decode cX11_shoot 65 = .ok (.ireturn, 1) := by decide +kernel
theorem dX11_shoot_66 : decode cX11_shoot 66 = .ok (.aload_n 0, 1) := by decide +kernel
theorem dX11_shoot_67 : decode cX11_shoot 67 = .ok (.getfield 57, 3) := by decide +kernel
theorem dX11_shoot_70 : decode cX11_shoot 70 = .ok (.getfield 231, 3) := by decide +kernel
theorem dX11_shoot_73 : decode cX11_shoot 73 = .ok (.bipush 60, 2) := by decide +kernel
theorem dX11_shoot_75 : decode cX11_shoot 75 = .ok (.if_icmp .lt 10, 3) := by decide +kernel
theorem dX11_shoot_78 : decode cX11_shoot 78 = .ok (.aload_n 0, 1) := by decide +kernel
theorem dX11_shoot_79 : decode cX11_shoot 79 = .ok (.bipush 7, 2) := by decide +kernel
theorem dX11_shoot_81 : decode cX11_shoot 81 = .ok (.invokevirtual 143, 3) := by decide +kernel
theorem dX11_shoot_84 : decode cX11_shoot 84 = .ok (.ireturn, 1) := by decide +kernel
theorem dX11_shoot_85 : decode cX11_shoot 85 = .ok (.aload_n 0, 1) := by decide +kernel
theorem dX11_shoot_86 : decode cX11_shoot 86 = .ok (.iload_n 1, 1) := by decide +kernel
theorem dX11_shoot_87 : decode cX11_shoot 87 = .ok (.iload_n 2, 1) := by decide +kernel
theorem dX11_shoot_88 : decode cX11_shoot 88 = .ok (.iload_n 3, 1) := by decide +kernel
theorem dX11_shoot_89 : decode cX11_shoot 89 = .ok (.iconst 0, 1) := by decide +kernel
theorem dX11_shoot_90 : decode cX11_shoot 90 = .ok (.iload 4, 2) := by decide +kernel
theorem dX11_shoot_92 : decode cX11_shoot 92 = .ok (.iload 5, 2) := by decide +kernel
theorem dX11_shoot_94 : decode cX11_shoot 94 = .ok (.invokevirtual 312, 3) := by decide +kernel
theorem dX11_shoot_97 : decode cX11_shoot 97 = .ok (.aload_n 0, 1) := by decide +kernel
theorem dX11_shoot_98 : decode cX11_shoot 98 = .ok (.getfield 77, 3) := by decide +kernel
theorem dX11_shoot_101 : decode cX11_shoot 101 = .ok (.aload_n 0, 1) := by decide +kernel
theorem dX11_shoot_102 : decode cX11_shoot 102 = .ok (.getfield 37, 3) := by decide +kernel
theorem dX11_shoot_105 : decode cX11_shoot 105 = .ok (.invokevirtual 316, 3) := by decide +kernel
theorem dX11_shoot_108 : decode cX11_shoot 108 = .ok (.aload_n 0, 1) := by decide +kernel
theorem dX11_shoot_109 : decode cX11_shoot 109 = .ok (.getfield 77, 3) := by decide +kernel
theorem dX11_shoot_112 : decode cX11_shoot 112 = .ok (.getfield 290, 3) := by decide +kernel
theorem dX11_shoot_115 : decode cX11_shoot 115 = .ok (.ifCond .eq 10, 3) := by decide +kernel
theorem dX11_shoot_118 : decode cX11_shoot 118 = .ok (.aload_n 0, 1) := by decide +kernel
theorem dX11_shoot_119 : decode cX11_shoot 119 = .ok (.bipush 9, 2) := by decide +kernel
theorem dX11_shoot_121 : decode cX11_shoot 121 = .ok (.invokevirtual 143, 3) := by decide +kernel
theorem dX11_shoot_124 : decode cX11_shoot 124 = .ok (.ireturn, 1) := by decide +kernel
theorem dX11_shoot_125 : decode cX11_shoot 125 = .ok (.aload_n 0, 1) := by decide +kernel
theorem dX11_shoot_126 : decode cX11_shoot 126 = .ok (.aload_n 0, 1) := by decide +kernel
theorem dX11_shoot_127 : decode cX11_shoot 127 = .ok (.getfield 57, 3) := by decide +kernel
theorem dX11_shoot_130 : decode cX11_shoot 130 = .ok (.aload_n 0, 1) := by decide +kernel
theorem dX11_shoot_131 : decode cX11_shoot 131 = .ok (.getfield 37, 3) := by decide +kernel
theorem dX11_shoot_134 : decode cX11_shoot 134 = .ok (.aload_n 0, 1) := by decide +kernel
theorem dX11_shoot_135 : decode cX11_shoot 135 = .ok (.getfield 77, 3) := by decide +kernel
theorem dX11_shoot_138 : decode cX11_shoot 138 = .ok (.aload_n 0, 1) := by decide +kernel
theorem dX11_shoot_139 : decode cX11_shoot 139 = .ok (.getfield 77, 3) := by decide +kernel
theorem dX11_shoot_142 : decode cX11_shoot 142 = .ok (.aload_n 0, 1) := by decide +kernel
theorem dX11_shoot_143 : decode cX11_shoot 143 = .ok (.getfield 37, 3) := by decide +kernel
theorem dX11_shoot_146 : decode cX11_shoot 146 = .ok (.iload 6, 2) := by decide +kernel
theorem dX11_shoot_148 : decode cX11_shoot 148 = .ok (.invokevirtual 320, 3) := by decide +kernel
theorem dX11_shoot_151 : decode cX11_shoot 151 = .ok (.iload 7, 2) := by decide +kernel
theorem dX11_shoot_153 : decode cX11_shoot 153 = .ok (.iadd, 1) := by decide +kernel
theorem dX11_shoot_154 : decode cX11_shoot 154 = .ok (.aload_n 0, 1) := by decide +kernel
theorem dX11_shoot_155 : decode cX11_shoot 155 = .ok (.getfield 77, 3) := by decide +kernel
theorem dX11_shoot_158 : decode cX11_shoot 158 = .ok (.aload_n 0, 1) := by decide +kernel
theorem dX11_shoot_159 : decode cX11_shoot 159 = .ok (.getfield 37, 3) := by decide +kernel
theorem dX11_shoot_162 : decode cX11_shoot 162 = .ok (.invokevirtual 324, 3) := by decide +kernel
theorem dX11_shoot_165 : decode cX11_shoot 165 = .ok (.iload 8, 2) := by decide +kernel
theorem dX11_shoot_167 : decode cX11_shoot 167 = .ok (.iadd, 1) := by decide +kernel
theorem dX11_shoot_168 : decode cX11_shoot 168 = .ok (.invokevirtual 437, 3) := by decide +kernel
theorem dX11_shoot_171 : decode cX11_shoot 171 = .ok (.invokevirtual 189, 3) := by decide +kernel
theorem dX11_shoot_174 : decode cX11_shoot 174 = .ok (.ireturn, 1) := by decide +kernel
theorem dX11_wipe_0 : decode cX11_wipe 0 = .ok (.aload_n 0, 1) := by decide +kernel
theorem dX11_wipe_1 : decode cX11_wipe 1 = .ok (.getfield 57, 3) := by decide +kernel
theorem dX11_wipe_4 : decode cX11_wipe 4 = .ok (.getfield 228, 3) := by decide +kernel
theorem dX11_wipe_7 : decode cX11_wipe 7 = .ok (.istore_n 1, 1) := by decide +kernel
theorem dX11_wipe_8 : decode cX11_wipe 8 = .ok (.aload_n 0, 1) := by decide +kernel
theorem dX11_wipe_9 : decode cX11_wipe 9 = .ok (.getfield 57, 3) := by decide +kernel
theorem dX11_wipe_12 : decode cX11_wipe 12 = .ok (.iconst 0, 1) := by decide +kernel
theorem dX11_wipe_13 : decode cX11_wipe 13 = .ok (.putfield 228, 3) := by decide +kernel
theorem dX11_wipe_16 : decode cX11_wipe 16 = .ok (.aload_n 0, 1) := by decide +kernel
theorem dX11_wipe_17 : decode cX11_wipe 17 = .ok (.iload_n 1, 1) := by decide +kernel
theorem dX11_wipe_18 : decode cX11_wipe 18 = .ok (.invokevirtual 189, 3) := by decide +kernel
theorem dX11_wipe_21 : decode cX11_wipe 21 = .ok (.ireturn, 1) := by decide +kernel
theorem dX11_play_0 : decode cX11_play 0 = .ok (.iload_n 1, 1) := by decide +kernel
theorem dX11_play_1 : decode cX11_play 1 = .ok (.iconst 0, 1) := by decide +kernel
theorem dX11_play_2 : decode cX11_play 2 = .ok (.sipush 9999, 3) := by decide +kernel
theorem dX11_play_5 : decode cX11_play 5 = .ok (.invokestatic 120, 3) := by decide +kernel
theorem dX11_play_8 : decode cX11_play 8 = .ok (.ifCond .ne 9, 3) := by decide +kernel
theorem dX11_play_11 : decode cX11_play 11 = .ok (.aload_n 0, 1) := by decide +kernel
theorem dX11_play_12 : decode cX11_play 12 = .ok (.iconst 5, 1) := by decide +kernel
theorem dX11_play_13 : decode cX11_play 13 = .ok (.invokevirtual 143, 3) := by decide +kernel
theorem dX11_play_16 : decode cX11_play 16 = .ok (.ireturn, 1) := by decide +kernel
theorem dX11_play_17 : decode cX11_play 17 = .ok (.aload_n 0, 1) := by decide +kernel
theorem dX11_play_18 : decode cX11_play 18 = .ok (.getfield 47, 3) := by decide +kernel
theorem dX11_play_21 : decode cX11_play 21 = .ok (.getfield 200, 3) := by decide +kernel
theorem dX11_play_24 : decode cX11_play 24 = .ok (.ifCond .ne 10, 3) := by decide +kernel
theorem dX11_play_27 : decode cX11_play 27 = .ok (.aload_n 0, 1) := by decide +kernel
theorem dX11_play_28 : decode cX11_play 28 = .ok (.bipush 8, 2) := by decide +kernel
theorem dX11_play_30 : decode cX11_play 30 = .ok (.invokevirtual 143, 3) := by decide +kernel
theorem dX11_play_33 : decode cX11_play 33 = .ok (.ireturn, 1) := by decide +kernel
theorem dX11_play_34 : decode cX11_play 34 = .ok (.aload_n 0, 1) := by decide +kernel
theorem dX11_play_35 : decode cX11_play 35 = .ok (.getfield 109, 3) := by decide +kernel
theorem dX11_play_38 : decode cX11_play 38 = .ok (.aload_n 0, 1) := by decide +kernel
theorem dX11_play_39 : decode cX11_play 39 = .ok (.getfield 47, 3) := by decide +kernel
theorem dX11_play_42 : decode cX11_play 42 = .ok (.aload_n 0, 1) := by decide +kernel
theorem dX11_play_43 : decode cX11_play 43 = .ok (.getfield 37, 3) := by decide +kernel
theorem dX11_play_46 : decode cX11_play 46 = .ok (.aload_n 0, 1) := by decide +kernel
theorem dX11_play_47 : decode cX11_play 47 = .ok (.getfield 57, 3) := by decide +kernel
theorem dX11_play_50 : decode cX11_play 50 = .ok (.iload_n 1, 1) := by decide +kernel
theorem dX11_play_51 : decode cX11_play 51 = .ok (.invokevirtual 441, 3) := by decide +kernel
theorem dX11_play_54 : decode cX11_play 54 = .ok (.aload_n 0, 1) := by decide +kernel
theorem dX11_play_55 : decode cX11_play 55 = .ok (.aload_n 0, 1) := by decide +kernel
theorem dX11_play_56 : decode cX11_play 56 = .ok (.getfield 109, 3) := by decide +kernel
theorem dX11_play_59 : decode cX11_play 59 = .ok (.getfield 445, 3) := by decide +kernel
theorem dX11_play_62 : decode cX11_play 62 = .ok (.invokevirtual 189, 3) := by decide +kernel
theorem dX11_play_65 : decode cX11_play 65 = .ok (.ireturn, 1) := by decide +kernel
theorem dX11_played_0 : decode cX11_played 0 = .ok (.iload_n 1, 1) := by decide +kernel
theorem dX11_played_1 : decode cX11_played 1 = .ok (.iconst 0, 1) := by decide +kernel
theorem dX11_played_2 : decode cX11_played 2 = .ok (.iconst 4, 1) := by decide +kernel
theorem dX11_played_3 : decode cX11_played 3 = .ok (.invokestatic 120, 3) := by decide +kernel
theorem dX11_played_6 : decode cX11_played 6 = .ok (.ifCond .ne 9, 3) := by decide +kernel
theorem dX11_played_9 : decode cX11_played 9 = .ok (.aload_n 0, 1) := by decide +kernel
theorem dX11_played_10 : decode cX11_played 10 = .ok (.iconst 5, 1) := by decide +kernel
theorem dX11_played_11 : decode cX11_played 11 = .ok (.invokevirtual 143, 3) := by decide +kernel
theorem dX11_played_14 : decode cX11_played 14 = .ok (.ireturn, 1) := by decide +kernel
theorem dX11_played_15 : decode cX11_played 15 = .ok (.aload_n 0, 1) := by decide +kernel
theorem dX11_played_16 : decode cX11_played 16 = .ok (.getfield 109, 3) := by decide +kernel
theorem dX11_played_19 : decode cX11_played 19 = .ok (.getfield 446, 3) := by decide +kernel
theorem dX11_played_22 : decode cX11_played 22 = .ok (.ifCond .ne 10, 3) := by decide +kernel
theorem dX11_played_25 : decode cX11_played 25 = .ok (.aload_n 0, 1) := by decide +kernel
theorem dX11_played_26 : decode cX11_played 26 = .ok (.bipush 8, 2) := by decide +kernel
theorem dX11_played_28 : decode cX11_played 28 = .ok (.invokevirtual 143, 3) := by decide +kernel
theorem dX11_played_31 : decode cX11_played 31 = .ok (.ireturn, 1) := by decide +kernel
theorem dX11_played_32 : decode cX11_played 32 = .ok (.iload_n 1, 1) := by decide +kernel
theorem dX11_played_33 : decode cX11_played 33 = .ok (.tableswitch 79 0 3 #[31, 43, 55, 67], 31) := by decide +kernel
theorem dX11_played_64 : decode cX11_played 64 = .ok (.aload_n 0, 1) := by decide +kernel
theorem dX11_played_65 : decode cX11_played 65 = .ok (.aload_n 0, 1) := by decide +kernel
theorem dX11_played_66 : decode cX11_played 66 = .ok (.getfield 109, 3) := by decide +kernel
theorem dX11_played_69 : decode cX11_played 69 = .ok (.getfield 449, 3) := by decide +kernel
theorem dX11_played_72 : decode cX11_played 72 = .ok (.invokevirtual 189, 3) := by decide +kernel
theorem dX11_played_75 : decode cX11_played 75 = .ok (.ireturn, 1) := by decide +kernel
theorem dX11_played_76 : decode cX11_played 76 = .ok (.aload_n 0, 1) := by decide +kernel
theorem dX11_played_77 : decode cX11_played 77 = .ok (.aload_n 0, 1) := by decide +kernel
theorem dX11_played_78 : decode cX11_played 78 = .ok (.getfield 109, 3) := by decide +kernel
theorem dX11_played_81 : decode cX11_played 81 = .ok (.getfield 452, 3) := by decide +kernel
theorem dX11_played_84 : decode cX11_played 84 = .ok (.invokevirtual 189, 3) := by decide +kernel
theorem dX11_played_87 : decode cX11_played 87 = .ok (.ireturn, 1) := by decide +kernel
theorem dX11_played_88 : decode cX11_played 88 = .ok (.aload_n 0, 1) := by decide +kernel
theorem dX11_played_89 : decode cX11_played 89 = .ok (.aload_n 0, 1) := by decide +kernel
theorem dX11_played_90 : decode cX11_played 90 = .ok (.getfield 109, 3) := by decide +kernel
theorem dX11_played_93 : decode cX11_played 93 = .ok (.getfield 455, 3) := by decide +kernel
theorem dX11_played_96 : decode cX11_played 96 = .ok (.invokevirtual 189, 3) := by decide +kernel
theorem dX11_played_99 : decode cX11_played 99 = .ok (.ireturn, 1) := by decide +kernel
theorem dX11_played_100 : decode cX11_played 100 = .ok (.aload_n 0, 1) := by decide +kernel
theorem dX11_played_101 : decode cX11_played 101 = .ok (.aload_n 0, 1) := by decide +kernel
theorem dX11_played_102 : decode cX11_played 102 = .ok (.getfield 109, 3) := by decide +kernel
theorem dX11_played_105 : decode cX11_played 105 = .ok (.getfield 458, 3) := by decide +kernel
theorem dX11_played_108 : decode cX11_played 108 = .ok (.invokevirtual 189, 3) := by decide +kernel
theorem dX11_played_111 : decode cX11_played 111 = .ok (.ireturn, 1) := by decide +kernel
theorem dX11_played_112 : decode cX11_played 112 = .ok (.aload_n 0, 1) := by decide +kernel
theorem dX11_played_113 : decode cX11_played 113 = .ok (.aload_n 0, 1) := by decide +kernel
theorem dX11_played_114 : decode cX11_played 114 = .ok (.getfield 109, 3) := by decide +kernel
theorem dX11_played_117 : decode cX11_played 117 = .ok (.getfield 461, 3) := by decide +kernel
theorem dX11_played_120 : decode cX11_played 120 = .ok (.invokevirtual 189, 3) := by decide +kernel
theorem dX11_played_123 : decode cX11_played 123 = .ok (.ireturn, 1) := by decide +kernel
theorem dX11_wins_0 : decode cX11_wins 0 = .ok (.aload_n 0, 1) := by decide +kernel
theorem dX11_wins_1 : decode cX11_wins 1 = .ok (.iload_n 1, 1) := by decide +kernel
theorem dX11_wins_2 : decode cX11_wins 2 = .ok (.invokevirtual 262, 3) := by decide +kernel
theorem dX11_wins_5 : decode cX11_wins 5 = .ok (.ifCond .ne 9, 3) := by decide +kernel
theorem dX11_wins_8 : decode cX11_wins 8 = .ok (.aload_n 0, 1) := by decide +kernel
theorem dX11_wins_9 : decode cX11_wins 9 = .ok (.iconst 2, 1) := by decide +kernel
theorem dX11_wins_10 : decode cX11_wins 10 = .ok (.invokevirtual 124, 3) := by decide +kernel
theorem dX11_wins_13 : decode cX11_wins 13 = .ok (.ireturn, 1) := by decide +kernel
theorem dX11_wins_14 : decode cX11_wins 14 = .ok (.iload_n 2, 1) := by decide +kernel
theorem dX11_wins_15 : decode cX11_wins 15 = .ok (.iconst 0, 1) := by decide +kernel
theorem dX11_wins_16 : decode cX11_wins 16 = .ok (.sipush 9999, 3) := by decide +kernel
theorem dX11_wins_19 : decode cX11_wins 19 = .ok (.invokestatic 120, 3) := by decide +kernel
theorem dX11_wins_22 : decode cX11_wins 22 = .ok (.ifCond .eq 24, 3) := by decide +kernel
theorem dX11_wins_25 : decode cX11_wins 25 = .ok (.iload_n 3, 1) := by decide +kernel
theorem dX11_wins_26 : decode cX11_wins 26 = .ok (.iconst 1, 1) := by decide +kernel
theorem dX11_wins_27 : decode cX11_wins 27 = .ok (.bipush 20, 2) := by decide +kernel
theorem dX11_wins_29 : decode cX11_wins 29 = .ok (.invokestatic 120, 3) := by decide +kernel
theorem dX11_wins_32 : decode cX11_wins 32 = .ok (.ifCond .eq 14, 3) := by decide +kernel
theorem dX11_wins_35 : decode cX11_wins 35 = .ok (.iload_n 2, 1) := by decide +kernel
theorem dX11_wins_36 : decode cX11_wins 36 = .ok (.iload_n 3, 1) := by decide +kernel
theorem dX11_wins_37 : decode cX11_wins 37 = .ok (.iadd, 1) := by decide +kernel
theorem dX11_wins_38 : decode cX11_wins 38 = .ok (.iconst 1, 1) := by decide +kernel
theorem dX11_wins_39 : decode cX11_wins 39 = .ok (.isub, 1) := by decide +kernel
theorem dX11_wins_40 : decode cX11_wins 40 = .ok (.sipush 9999, 3) := by decide +kernel
theorem dX11_wins_43 : decode cX11_wins 43 = .ok (.if_icmp .le 9, 3) := by decide +kernel
theorem dX11_wins_46 : decode cX11_wins 46 = .ok (.aload_n 0, 1) := by decide +kernel
theorem dX11_wins_47 : decode cX11_wins 47 = .ok (.iconst 5, 1) := by decide +kernel
theorem dX11_wins_48 : decode cX11_wins 48 = .ok (.invokevirtual 124, 3) := by decide +kernel
theorem dX11_wins_51 : decode cX11_wins 51 = .ok (.ireturn, 1) := by decide +kernel
theorem dX11_wins_52 : decode cX11_wins 52 = .ok (.aload_n 0, 1) := by decide +kernel
theorem dX11_wins_53 : decode cX11_wins 53 = .ok (.getfield 47, 3) := by decide +kernel
theorem dX11_wins_56 : decode cX11_wins 56 = .ok (.getfield 200, 3) := by decide +kernel
theorem dX11_wins_59 : decode cX11_wins 59 = .ok (.ifCond .ne 10, 3) := by decide +kernel
theorem dX11_wins_62 : decode cX11_wins 62 = .ok (.aload_n 0, 1) := by decide +kernel
theorem dX11_wins_63 : decode cX11_wins 63 = .ok (.bipush 8, 2) := by decide +kernel
theorem dX11_wins_65 : decode cX11_wins 65 = .ok (.invokevirtual 124, 3) := by decide +kernel
theorem dX11_wins_68 : decode cX11_wins 68 = .ok (.ireturn, 1) := by decide +kernel
theorem dX11_wins_69 : decode cX11_wins 69 = .ok (.iconst 0, 1) := by decide +kernel
theorem dX11_wins_70 : decode cX11_wins 70 = .ok (.istore 4, 2) := by decide +kernel
theorem dX11_wins_72 : decode cX11_wins 72 = .ok (.iconst 0, 1) := by decide +kernel
theorem dX11_wins_73 : decode cX11_wins 73 = .ok (.istore 5, 2) := by decide +kernel
theorem dX11_wins_75 : decode cX11_wins 75 = .ok (.iload 5, 2) := by decide +kernel
theorem dX11_wins_77 : decode cX11_wins 77 = .ok (.iload_n 3, 1) := by decide +kernel
theorem dX11_wins_78 : decode cX11_wins 78 = .ok (.if_icmp .ge 64, 3) := by decide +kernel
theorem dX11_wins_81 : decode cX11_wins 81 = .ok (.aload_n 0, 1) := by decide +kernel
theorem dX11_wins_82 : decode cX11_wins 82 = .ok (.getfield 61, 3) := by decide +kernel
theorem dX11_wins_85 : decode cX11_wins 85 = .ok (.aload_n 0, 1) := by decide +kernel
theorem dX11_wins_86 : decode cX11_wins 86 = .ok (.getfield 57, 3) := by decide +kernel
theorem dX11_wins_89 : decode cX11_wins 89 = .ok (.invokevirtual 464, 3) := by decide +kernel
theorem dX11_wins_92 : decode cX11_wins 92 = .ok (.aload_n 0, 1) := by decide +kernel
theorem dX11_wins_93 : decode cX11_wins 93 = .ok (.getfield 113, 3) := by decide +kernel
theorem dX11_wins_96 : decode cX11_wins 96 = .ok (.aload_n 0, 1) := by decide +kernel
theorem dX11_wins_97 : decode cX11_wins 97 = .ok (.getfield 47, 3) := by decide +kernel
theorem dX11_wins_100 : decode cX11_wins 100 = .ok (.aload_n 0, 1) := by decide +kernel
theorem dX11_wins_101 : decode cX11_wins 101 = .ok (.getfield 37, 3) := by decide +kernel
theorem dX11_wins_104 : decode cX11_wins 104 = .ok (.aload_n 0, 1) := by decide +kernel
theorem dX11_wins_105 : decode cX11_wins 105 = .ok (.getfield 61, 3) := by decide +kernel
theorem dX11_wins_108 : decode cX11_wins 108 = .ok (.iload_n 2, 1) := by decide +kernel
theorem dX11_wins_109 : decode cX11_wins 109 = .ok (.iload 5, 2) := by decide +kernel
theorem dX11_wins_111 : decode cX11_wins 111 = .ok (.iadd, 1) := by decide +kernel
theorem dX11_wins_112 : decode cX11_wins 112 = .ok (.invokevirtual 441, 3) := by decide +kernel
theorem dX11_wins_115 : decode cX11_wins 115 = .ok (.aload_n 0, 1) := by decide +kernel
theorem dX11_wins_116 : decode cX11_wins 116 = .ok (.getfield 61, 3) := by decide +kernel
theorem dX11_wins_119 : decode cX11_wins 119 = .ok (.iload_n 1, 1) := by decide +kernel
theorem dX11_wins_120 : decode cX11_wins 120 = .ok (.aload_n 0, 1) := by decide +kernel
theorem dX11_wins_121 : decode cX11_wins 121 = .ok (.getfield 37, 3) := by decide +kernel
theorem dX11_wins_124 : decode cX11_wins 124 = .ok (.getfield 225, 3) := by decide +kernel
theorem dX11_wins_127 : decode cX11_wins 127 = .ok (.invokevirtual 468, 3) := by decide +kernel
theorem dX11_wins_130 : decode cX11_wins 130 = .ok (.ifCond .eq 6, 3) := by decide +kernel
theorem dX11_wins_133 : decode cX11_wins 133 = .ok (.iinc 4 1, 3) := by decide +kernel
theorem dX11_wins_136 : decode cX11_wins 136 = .ok (.iinc 5 1, 3) := by decide +kernel
theorem dX11_wins_139 : decode cX11_wins 139 = .ok (.goto (-64), 3) := by decide +kernel
theorem dX11_wins_142 : decode cX11_wins 142 = .ok (.aload_n 0, 1) := by decide +kernel
theorem dX11_wins_143 : decode cX11_wins 143 = .ok (.iload 4, 2) := by decide +kernel
theorem dX11_wins_145 : decode cX11_wins 145 = .ok (.i2l, 1) := by decide +kernel
theorem dX11_wins_146 : decode cX11_wins 146 = .ok (.iload_n 3, 1) := by decide +kernel
theorem dX11_wins_147 : decode cX11_wins 147 = .ok (.i2l, 1) := by decide +kernel
theorem dX11_wins_148 : decode cX11_wins 148 = .ok (.invokevirtual 347, 3) := by decide +kernel
theorem dX11_wins_151 : decode cX11_wins 151 = .ok (.aload_n 0, 1) := by decide +kernel
theorem dX11_wins_152 : decode cX11_wins 152 = .ok (.invokevirtual 131, 3) := by decide +kernel
theorem dX11_wins_155 : decode cX11_wins 155 = .ok (.ireturn, 1) := by decide +kernel
theorem dX11_mark_0 : decode cX11_mark 0 = .ok (.aload_n 0, 1) := by decide +kernel
theorem dX11_mark_1 : decode cX11_mark 1 = .ok (.getfield 71, 3) := by decide +kernel
theorem dX11_mark_4 : decode cX11_mark 4 = .ok (.iconst 3, 1) := by decide +kernel
theorem dX11_mark_5 : decode cX11_mark 5 = .ok (.if_icmp .lt 10, 3) := by decide +kernel
theorem dX11_mark_8 : decode cX11_mark 8 = .ok (.aload_n 0, 1) := by decide +kernel
theorem dX11_mark_9 : decode cX11_mark 9 = .ok (.bipush 7, 2) := by decide +kernel
theorem dX11_mark_11 : decode cX11_mark 11 = .ok (.invokevirtual 143, 3) := by decide +kernel
theorem dX11_mark_14 : decode cX11_mark 14 = .ok (.ireturn, 1) := by decide +kernel
theorem dX11_mark_15 : decode cX11_mark 15 = .ok (.aload_n 0, 1) := by decide +kernel
theorem dX11_mark_16 : decode cX11_mark 16 = .ok (.getfield 66, 3) := by decide +kernel
theorem dX11_mark_19 : decode cX11_mark 19 = .ok (.aload_n 0, 1) := by decide +kernel
theorem dX11_mark_20 : decode cX11_mark 20 = .ok (.getfield 71, 3) := by decide +kernel
theorem dX11_mark_23 : decode cX11_mark 23 = .ok (.aaload, 1) := by decide +kernel
theorem dX11_mark_24 : decode cX11_mark 24 = .ok (.aload_n 0, 1) := by decide +kernel
theorem dX11_mark_25 : decode cX11_mark 25 = .ok (.getfield 37, 3) := by decide +kernel
theorem dX11_mark_28 : decode cX11_mark 28 = .ok (.aload_n 0, 1) := by decide +kernel
theorem dX11_mark_29 : decode cX11_mark 29 = .ok (.getfield 47, 3) := by decide +kernel
theorem dX11_mark_32 : decode cX11_mark 32 = .ok (.aload_n 0, 1) := by decide +kernel
theorem dX11_mark_33 : decode cX11_mark 33 = .ok (.getfield 57, 3) := by decide +kernel
theorem dX11_mark_36 : decode cX11_mark 36 = .ok (.invokevirtual 471, 3) := by decide +kernel
theorem dX11_mark_39 : decode cX11_mark 39 = .ok (.aload_n 0, 1) := by decide +kernel
theorem dX11_mark_40 : decode cX11_mark 40 = .ok (.dup, 1) := by decide +kernel
theorem dX11_mark_41 : decode cX11_mark 41 = .ok (.getfield 71, 3) := by decide +kernel
theorem dX11_mark_44 : decode cX11_mark 44 = .ok (.iconst 1, 1) := by decide +kernel
theorem dX11_mark_45 : decode cX11_mark 45 = .ok (.iadd, 1) := by decide +kernel
theorem dX11_mark_46 : decode cX11_mark 46 = .ok (.putfield 71, 3) := by decide +kernel
theorem dX11_mark_49 : decode cX11_mark 49 = .ok (.aload_n 0, 1) := by decide +kernel
theorem dX11_mark_50 : decode cX11_mark 50 = .ok (.aload_n 0, 1) := by decide +kernel
theorem dX11_mark_51 : decode cX11_mark 51 = .ok (.getfield 71, 3) := by decide +kernel
theorem dX11_mark_54 : decode cX11_mark 54 = .ok (.invokevirtual 189, 3) := by decide +kernel
theorem dX11_mark_57 : decode cX11_mark 57 = .ok (.ireturn, 1) := by decide +kernel
theorem dX11_back_0 : decode cX11_back 0 = .ok (.aload_n 0, 1) := by decide +kernel
theorem dX11_back_1 : decode cX11_back 1 = .ok (.getfield 71, 3) := by decide +kernel
theorem dX11_back_4 : decode cX11_back 4 = .ok (.ifCond .gt 10, 3) := by decide +kernel
theorem dX11_back_7 : decode cX11_back 7 = .ok (.aload_n 0, 1) := by decide +kernel
theorem dX11_back_8 : decode cX11_back 8 = .ok (.bipush 8, 2) := by decide +kernel
theorem dX11_back_10 : decode cX11_back 10 = .ok (.invokevirtual 143, 3) := by decide +kernel
theorem dX11_back_13 : decode cX11_back 13 = .ok (.ireturn, 1) := by decide +kernel
theorem dX11_back_14 : decode cX11_back 14 = .ok (.aload_n 0, 1) := by decide +kernel
theorem dX11_back_15 : decode cX11_back 15 = .ok (.dup, 1) := by decide +kernel
theorem dX11_back_16 : decode cX11_back 16 = .ok (.getfield 71, 3) := by decide +kernel
theorem dX11_back_19 : decode cX11_back 19 = .ok (.iconst 1, 1) := by decide +kernel
theorem dX11_back_20 : decode cX11_back 20 = .ok (.isub, 1) := by decide +kernel
theorem dX11_back_21 : decode cX11_back 21 = .ok (.putfield 71, 3) := by decide +kernel
theorem dX11_back_24 : decode cX11_back 24 = .ok (.aload_n 0, 1) := by decide +kernel
theorem dX11_back_25 : decode cX11_back 25 = .ok (.getfield 66, 3) := by decide +kernel
theorem dX11_back_28 : decode cX11_back 28 = .ok (.aload_n 0, 1) := by decide +kernel
theorem dX11_back_29 : decode cX11_back 29 = .ok (.getfield 71, 3) := by decide +kernel
theorem dX11_back_32 : decode cX11_back 32 = .ok (.aaload, 1) := by decide +kernel
theorem dX11_back_33 : decode cX11_back 33 = .ok (.aload_n 0, 1) := by decide +kernel
theorem dX11_back_34 : decode cX11_back 34 = .ok (.getfield 37, 3) := by decide +kernel
theorem dX11_back_37 : decode cX11_back 37 = .ok (.aload_n 0, 1) := by decide +kernel
theorem dX11_back_38 : decode cX11_back 38 = .ok (.getfield 47, 3) := by decide +kernel
theorem dX11_back_41 : decode cX11_back 41 = .ok (.aload_n 0, 1) := by decide +kernel
theorem dX11_back_42 : decode cX11_back 42 = .ok (.getfield 57, 3) := by decide +kernel
theorem dX11_back_45 : decode cX11_back 45 = .ok (.invokevirtual 475, 3) := by decide +kernel
theorem dX11_back_48 : decode cX11_back 48 = .ok (.aload_n 0, 1) := by decide +kernel
theorem dX11_back_49 : decode cX11_back 49 = .ok (.aload_n 0, 1) := by decide +kernel
theorem dX11_back_50 : decode cX11_back 50 = .ok (.getfield 71, 3) := by decide +kernel
theorem dX11_back_53 : decode cX11_back 53 = .ok (.invokevirtual 189, 3) := by decide +kernel
theorem dX11_back_56 : decode cX11_back 56 = .ok (.ireturn, 1) := by decide +kernel
