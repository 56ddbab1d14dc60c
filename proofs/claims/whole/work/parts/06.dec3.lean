theorem dX9_audit_17 : decode cX9_audit 17 = .ok (.iconst 4, 1) := by decide +kernel
theorem dX9_audit_18 : decode cX9_audit 18 = .ok (.iaload, 1) := by decide +kernel
theorem dX9_audit_19 : decode cX9_audit 19 = .ok (.if_icmp .ge 28, 3) := by decide +kernel
theorem dX9_audit_22 : decode cX9_audit 22 = .ok (.aload_n 0, 1) := by decide +kernel
theorem dX9_audit_23 : decode cX9_audit 23 = .ok (.invokevirtual 84, 3) := by decide +kernel
theorem dX9_audit_26 : decode cX9_audit 26 = .ok (.ifCond .le 21, 3) := by decide +kernel
theorem dX9_audit_29 : decode cX9_audit 29 = .ok (.aload_n 0, 1) := by decide +kernel
theorem dX9_audit_30 : decode cX9_audit 30 = .ok (.invokevirtual 196, 3) := by decide +kernel
theorem dX9_audit_33 : decode cX9_audit 33 = .ok (.ifCond .ne 14, 3) := by decide +kernel
theorem dX9_audit_36 : decode cX9_audit 36 = .ok (.aload_n 0, 1) := by decide +kernel
theorem dX9_audit_37 : decode cX9_audit 37 = .ok (.aload_n 0, 1) := by decide +kernel
theorem dX9_audit_38 : decode cX9_audit 38 = .ok (.invokevirtual 207, 3) := by decide +kernel
theorem dX9_audit_41 : decode cX9_audit 41 = .ok (.invokevirtual 200, 3) := by decide +kernel
theorem dX9_audit_44 : decode cX9_audit 44 = .ok (.goto (-35), 3) := by decide +kernel
theorem dX9_audit_47 : decode cX9_audit 47 = .ok (.return_, 1) := by decide +kernel
theorem dX9_tries_0 : decode cX9_tries 0 = .ok (.aload_n 0, 1) := by decide +kernel
theorem dX9_tries_1 : decode cX9_tries 1 = .ok (.aload_n 0, 1) := by decide +kernel
theorem dX9_tries_2 : decode cX9_tries 2 = .ok (.iload_n 1, 1) := by decide +kernel
theorem dX9_tries_3 : decode cX9_tries 3 = .ok (.invokevirtual 240, 3) := by decide +kernel
theorem dX9_tries_6 : decode cX9_tries 6 = .ok (.ifCond .eq 13, 3) := by decide +kernel
theorem dX9_tries_9 : decode cX9_tries 9 = .ok (.iload 4, 2) := by decide +kernel
theorem dX9_tries_11 : decode cX9_tries 11 = .ok (.iconst 0, 1) := by decide +kernel
theorem dX9_tries_12 : decode cX9_tries 12 = .ok (.iconst 2, 1) := by decide +kernel
theorem dX9_tries_13 : decode cX9_tries 13 = .ok (.invokestatic 80, 3) := by decide +kernel
theorem dX9_tries_16 : decode cX9_tries 16 = .ok (.ifCond .ne 7, 3) := by decide +kernel
theorem dX9_tries_19 : decode cX9_tries 19 = .ok (.iconst 1, 1) := by decide +kernel
theorem dX9_tries_20 : decode cX9_tries 20 = .ok (.goto 18, 3) := by decide +kernel
theorem dX9_tries_23 : decode cX9_tries 23 = .ok (.iload_n 3, 1) := by decide +kernel
theorem dX9_tries_24 : decode cX9_tries 24 = .ok (.iconst 1, 1) := by decide +kernel
theorem dX9_tries_25 : decode cX9_tries 25 = .ok (.bipush 30, 2) := by decide +kernel
theorem dX9_tries_27 : decode cX9_tries 27 = .ok (.invokestatic 80, 3) := by decide +kernel
theorem dX9_tries_30 : decode cX9_tries 30 = .ok (.ifCond .ne 7, 3) := by decide +kernel
theorem dX9_tries_33 : decode cX9_tries 33 = .ok (.iconst 2, 1) := by decide +kernel
theorem dX9_tries_34 : decode cX9_tries 34 = .ok (.goto 4, 3) := by decide +kernel
theorem dX9_tries_37 : decode cX9_tries 37 = .ok (.iconst 0, 1) := by decide +kernel
theorem dX9_tries_38 : decode cX9_tries 38 = .ok (.putfield 73, 3) := by decide +kernel
theorem dX9_tries_41 : decode cX9_tries 41 = .ok (.aload_n 0, 1) := by decide +kernel
theorem dX9_tries_42 : decode cX9_tries 42 = .ok (.getfield 73, 3) := by decide +kernel
theorem dX9_tries_45 : decode cX9_tries 45 = .ok (.ifCond .le 5, 3) := by decide +kernel
theorem dX9_tries_48 : decode cX9_tries 48 = .ok (.iconst 0, 1) := by decide +kernel
theorem dX9_tries_49 : decode cX9_tries 49 = .ok (.ireturn, 1) := by decide +kernel
theorem dX9_tries_50 : decode cX9_tries 50 = .ok (.iconst 0, 1) := by decide +kernel
theorem dX9_tries_51 : decode cX9_tries 51 = .ok (.istore 5, 2) := by decide +kernel
theorem dX9_tries_53 : decode cX9_tries 53 = .ok (.iconst 0, 1) := by decide +kernel
theorem dX9_tries_54 : decode cX9_tries 54 = .ok (.istore 6, 2) := by decide +kernel
theorem dX9_tries_56 : decode cX9_tries 56 = .ok (.iload 6, 2) := by decide +kernel
theorem dX9_tries_58 : decode cX9_tries 58 = .ok (.iload_n 3, 1) := by decide +kernel
theorem dX9_tries_59 : decode cX9_tries 59 = .ok (.if_icmp .ge 51, 3) := by decide +kernel
theorem dX9_tries_62 : decode cX9_tries 62 = .ok (.aload_n 0, 1) := by decide +kernel
theorem dX9_tries_63 : decode cX9_tries 63 = .ok (.iload_n 2, 1) := by decide +kernel
theorem dX9_tries_64 : decode cX9_tries 64 = .ok (.iload 6, 2) := by decide +kernel
theorem dX9_tries_66 : decode cX9_tries 66 = .ok (.iadd, 1) := by decide +kernel
theorem dX9_tries_67 : decode cX9_tries 67 = .ok (.invokevirtual 301, 3) := by decide +kernel
theorem dX9_tries_70 : decode cX9_tries 70 = .ok (.iload 5, 2) := by decide +kernel
theorem dX9_tries_72 : decode cX9_tries 72 = .ok (.iload 4, 2) := by decide +kernel
theorem dX9_tries_74 : decode cX9_tries 74 = .ok (.iconst 1, 1) := by decide +kernel
theorem dX9_tries_75 : decode cX9_tries 75 = .ok (.if_icmp .ne 10, 3) := by decide +kernel
theorem dX9_tries_78 : decode cX9_tries 78 = .ok (.aload_n 0, 1) := by decide +kernel
theorem dX9_tries_79 : decode cX9_tries 79 = .ok (.getfield 166, 3) := by decide +kernel
theorem dX9_tries_82 : decode cX9_tries 82 = .ok (.goto 19, 3) := by decide +kernel
theorem dX9_tries_85 : decode cX9_tries 85 = .ok (.aload_n 0, 1) := by decide +kernel
theorem dX9_tries_86 : decode cX9_tries 86 = .ok (.iload_n 1, 1) := by decide +kernel
theorem dX9_tries_87 : decode cX9_tries 87 = .ok (.iload 4, 2) := by decide +kernel
theorem dX9_tries_89 : decode cX9_tries 89 = .ok (.iconst 2, 1) := by decide +kernel
theorem dX9_tries_90 : decode cX9_tries 90 = .ok (.if_icmp .ne 7, 3) := by decide +kernel
theorem dX9_tries_93 : decode cX9_tries 93 = .ok (.iconst 1, 1) := by decide +kernel
theorem dX9_tries_94 : decode cX9_tries 94 = .ok (.goto 4, 3) := by decide +kernel
theorem dX9_tries_97 : decode cX9_tries 97 = .ok (.iconst 0, 1) := by decide +kernel
theorem dX9_tries_98 : decode cX9_tries 98 = .ok (.invokevirtual 304, 3) := by decide +kernel
theorem dX9_tries_101 : decode cX9_tries 101 = .ok (.iadd, 1) := by decide +kernel
theorem dX9_tries_102 : decode cX9_tries 102 = .ok (.istore 5, 2) := by decide +kernel
theorem dX9_tries_104 : decode cX9_tries 104 = .ok (.iinc 6 1, 3) := by decide +kernel
theorem dX9_tries_107 : decode cX9_tries 107 = .ok (.goto (-51), 3) := by decide +kernel
theorem dX9_tries_110 : decode cX9_tries 110 = .ok (.iload 5, 2) := by decide +kernel
theorem dX9_tries_112 : decode cX9_tries 112 = .ok (.ireturn, 1) := by decide +kernel
theorem dX9_tried_0 : decode cX9_tried 0 = .ok (.aload_n 0, 1) := by decide +kernel
theorem dX9_tried_1 : decode cX9_tried 1 = .ok (.getfield 47, 3) := by decide +kernel
theorem dX9_tried_4 : decode cX9_tried 4 = .ok (.iload_n 1, 1) := by decide +kernel
theorem dX9_tried_5 : decode cX9_tried 5 = .ok (.iaload, 1) := by decide +kernel
theorem dX9_tried_6 : decode cX9_tried 6 = .ok (.iconst (-1), 1) := by decide +kernel
theorem dX9_tried_7 : decode cX9_tried 7 = .ok (.if_icmp .ne 5, 3) := by decide +kernel
theorem dX9_tried_10 : decode cX9_tried 10 = .ok (.iconst 0, 1) := by decide +kernel
theorem dX9_tried_11 : decode cX9_tried 11 = .ok (.ireturn, 1) := by decide +kernel
theorem dX9_tried_12 : decode cX9_tried 12 = .ok (.iload_n 2, 1) := by decide +kernel
theorem dX9_tried_13 : decode cX9_tried 13 = .ok (.ifCond .eq 22, 3) := by decide +kernel
theorem dX9_tried_16 : decode cX9_tried 16 = .ok (.aload_n 0, 1) := by decide +kernel
theorem dX9_tried_17 : decode cX9_tried 17 = .ok (.getfield 31, 3) := by decide +kernel
theorem dX9_tried_20 : decode cX9_tried 20 = .ok (.iload_n 1, 1) := by decide +kernel
theorem dX9_tried_21 : decode cX9_tried 21 = .ok (.iaload, 1) := by decide +kernel
theorem dX9_tried_22 : decode cX9_tried 22 = .ok (.aload_n 0, 1) := by decide +kernel
theorem dX9_tried_23 : decode cX9_tried 23 = .ok (.getfield 34, 3) := by decide +kernel
theorem dX9_tried_26 : decode cX9_tried 26 = .ok (.iload_n 1, 1) := by decide +kernel
theorem dX9_tried_27 : decode cX9_tried 27 = .ok (.iaload, 1) := by decide +kernel
theorem dX9_tried_28 : decode cX9_tried 28 = .ok (.if_icmp .ne 7, 3) := by decide +kernel
theorem dX9_tried_31 : decode cX9_tried 31 = .ok (.iconst 0, 1) := by decide +kernel
theorem dX9_tried_32 : decode cX9_tried 32 = .ok (.goto 4, 3) := by decide +kernel
theorem dX9_tried_35 : decode cX9_tried 35 = .ok (.iconst 1, 1) := by decide +kernel
theorem dX9_tried_36 : decode cX9_tried 36 = .ok (.ireturn, 1) := by decide +kernel
theorem dX9_quickest_0 : decode cX9_quickest 0 = .ok (.aload_n 0, 1) := by decide +kernel
theorem dX9_quickest_1 : decode cX9_quickest 1 = .ok (.iconst 0, 1) := by decide +kernel
theorem dX9_quickest_2 : decode cX9_quickest 2 = .ok (.putfield 73, 3) := by decide +kernel
theorem dX9_quickest_5 : decode cX9_quickest 5 = .ok (.iload_n 2, 1) := by decide +kernel
theorem dX9_quickest_6 : decode cX9_quickest 6 = .ok (.iconst 1, 1) := by decide +kernel
theorem dX9_quickest_7 : decode cX9_quickest 7 = .ok (.bipush 30, 2) := by decide +kernel
theorem dX9_quickest_9 : decode cX9_quickest 9 = .ok (.invokestatic 80, 3) := by decide +kernel
theorem dX9_quickest_12 : decode cX9_quickest 12 = .ok (.ifCond .ne 9, 3) := by decide +kernel
theorem dX9_quickest_15 : decode cX9_quickest 15 = .ok (.aload_n 0, 1) := by decide +kernel
theorem dX9_quickest_16 : decode cX9_quickest 16 = .ok (.iconst 1, 1) := by decide +kernel
theorem dX9_quickest_17 : decode cX9_quickest 17 = .ok (.invokevirtual 210, 3) := by decide +kernel
theorem dX9_quickest_20 : decode cX9_quickest 20 = .ok (.ireturn, 1) := by decide +kernel
theorem dX9_quickest_21 : decode cX9_quickest 21 = .ok (.iconst (-1), 1) := by decide +kernel
theorem dX9_quickest_22 : decode cX9_quickest 22 = .ok (.istore_n 3, 1) := by decide +kernel
theorem dX9_quickest_23 : decode cX9_quickest 23 = .ok (.iconst 0, 1) := by decide +kernel
theorem dX9_quickest_24 : decode cX9_quickest 24 = .ok (.istore 4, 2) := by decide +kernel
theorem dX9_quickest_26 : decode cX9_quickest 26 = .ok (.iconst 0, 1) := by decide +kernel
theorem dX9_quickest_27 : decode cX9_quickest 27 = .ok (.istore 5, 2) := by decide +kernel
theorem dX9_quickest_29 : decode cX9_quickest 29 = .ok (.iload 5, 2) := by decide +kernel
theorem dX9_quickest_31 : decode cX9_quickest 31 = .ok (.iload_n 2, 1) := by decide +kernel
theorem dX9_quickest_32 : decode cX9_quickest 32 = .ok (.if_icmp .ge 53, 3) := by decide +kernel
theorem dX9_quickest_35 : decode cX9_quickest 35 = .ok (.aload_n 0, 1) := by decide +kernel
theorem dX9_quickest_36 : decode cX9_quickest 36 = .ok (.iload_n 1, 1) := by decide +kernel
theorem dX9_quickest_37 : decode cX9_quickest 37 = .ok (.iload 5, 2) := by decide +kernel
theorem dX9_quickest_39 : decode cX9_quickest 39 = .ok (.iadd, 1) := by decide +kernel
theorem dX9_quickest_40 : decode cX9_quickest 40 = .ok (.invokevirtual 301, 3) := by decide +kernel
theorem dX9_quickest_43 : decode cX9_quickest 43 = .ok (.aload_n 0, 1) := by decide +kernel
theorem dX9_quickest_44 : decode cX9_quickest 44 = .ok (.invokevirtual 196, 3) := by decide +kernel
theorem dX9_quickest_47 : decode cX9_quickest 47 = .ok (.ifCond .ne 6, 3) := by decide +kernel
theorem dX9_quickest_50 : decode cX9_quickest 50 = .ok (.goto 29, 3) := by decide +kernel
theorem dX9_quickest_53 : decode cX9_quickest 53 = .ok (.iload_n 3, 1) := by decide +kernel
theorem dX9_quickest_54 : decode cX9_quickest 54 = .ok (.iconst (-1), 1) := by decide +kernel
theorem dX9_quickest_55 : decode cX9_quickest 55 = .ok (.if_icmp .eq 15, 3) := by decide +kernel
theorem dX9_quickest_58 : decode cX9_quickest 58 = .ok (.aload_n 0, 1) := by decide +kernel
theorem dX9_quickest_59 : decode cX9_quickest 59 = .ok (.getfield 166, 3) := by decide +kernel
theorem dX9_quickest_62 : decode cX9_quickest 62 = .ok (.iload 4, 2) := by decide +kernel
theorem dX9_quickest_64 : decode cX9_quickest 64 = .ok (.if_icmp .lt 6, 3) := by decide +kernel
theorem dX9_quickest_67 : decode cX9_quickest 67 = .ok (.goto 12, 3) := by decide +kernel
theorem dX9_quickest_70 : decode cX9_quickest 70 = .ok (.iload 5, 2) := by decide +kernel
theorem dX9_quickest_72 : decode cX9_quickest 72 = .ok (.istore_n 3, 1) := by decide +kernel
theorem dX9_quickest_73 : decode cX9_quickest 73 = .ok (.aload_n 0, 1) := by decide +kernel
theorem dX9_quickest_74 : decode cX9_quickest 74 = .ok (.getfield 166, 3) := by decide +kernel
theorem dX9_quickest_77 : decode cX9_quickest 77 = .ok (.istore 4, 2) := by decide +kernel
theorem dX9_quickest_79 : decode cX9_quickest 79 = .ok (.iinc 5 1, 3) := by decide +kernel
theorem dX9_quickest_82 : decode cX9_quickest 82 = .ok (.goto (-53), 3) := by decide +kernel
theorem dX9_quickest_85 : decode cX9_quickest 85 = .ok (.iload_n 3, 1) := by decide +kernel
theorem dX9_quickest_86 : decode cX9_quickest 86 = .ok (.ireturn, 1) := by decide +kernel
theorem dX9_writes_0 : decode cX9_writes 0 = .ok (.aload_n 0, 1) := by decide +kernel
theorem dX9_writes_1 : decode cX9_writes 1 = .ok (.getfield 59, 3) := by decide +kernel
theorem dX9_writes_4 : decode cX9_writes 4 = .ok (.aload_n 0, 1) := by decide +kernel
theorem dX9_writes_5 : decode cX9_writes 5 = .ok (.getfield 308, 3) := by decide +kernel
theorem dX9_writes_8 : decode cX9_writes 8 = .ok (.iload_n 1, 1) := by decide +kernel
theorem dX9_writes_9 : decode cX9_writes 9 = .ok (.iastore, 1) := by decide +kernel
theorem dX9_writes_10 : decode cX9_writes 10 = .ok (.aload_n 0, 1) := by decide +kernel
theorem dX9_writes_11 : decode cX9_writes 11 = .ok (.dup, 1) := by decide +kernel
theorem dX9_writes_12 : decode cX9_writes 12 = .ok (.getfield 308, 3) := by decide +kernel
theorem dX9_writes_15 : decode cX9_writes 15 = .ok (.iconst 1, 1) := by decide +kernel
theorem dX9_writes_16 : decode cX9_writes 16 = .ok (.iadd, 1) := by decide +kernel
theorem dX9_writes_17 : decode cX9_writes 17 = .ok (.putfield 308, 3) := by decide +kernel
theorem dX9_writes_20 : decode cX9_writes 20 = .ok (.return_, 1) := by decide +kernel
theorem dX9_writesNumber_0 : decode cX9_writesNumber 0 = .ok (.lload_n 1, 1) := by decide +kernel
theorem dX9_writesNumber_1 : decode cX9_writesNumber 1 = .ok (.ldc2_w 311, 3) := by decide +kernel
theorem dX9_writesNumber_4 : decode cX9_writesNumber 4 = .ok (.lcmp, 1) := by decide +kernel
theorem dX9_writesNumber_5 : decode cX9_writesNumber 5 = .ok (.ifCond .le 12, 3) := by decide +kernel
theorem dX9_writesNumber_8 : decode cX9_writesNumber 8 = .ok (.aload_n 0, 1) := by decide +kernel
theorem dX9_writesNumber_9 : decode cX9_writesNumber 9 = .ok (.lload_n 1, 1) := by decide +kernel
theorem dX9_writesNumber_10 : decode cX9_writesNumber 10 = .ok (.ldc2_w 313, 3) := by decide +kernel
theorem dX9_writesNumber_13 : decode cX9_writesNumber 13 = .ok (.ldiv, 1) := by decide +kernel
theorem dX9_writesNumber_14 : decode cX9_writesNumber 14 = .ok (.invokevirtual 315, 3) := by decide +kernel
theorem dX9_writesNumber_17 : decode cX9_writesNumber 17 = .ok (.aload_n 0, 1) := by decide +kernel
theorem dX9_writesNumber_18 : decode cX9_writesNumber 18 = .ok (.ldc2_w 319, 3) := by decide +kernel
theorem dX9_writesNumber_21 : decode cX9_writesNumber 21 = .ok (.lload_n 1, 1) := by decide +kernel
theorem dX9_writesNumber_22 : decode cX9_writesNumber 22 = .ok (.ldc2_w 313, 3) := by decide +kernel
theorem dX9_writesNumber_25 : decode cX9_writesNumber 25 = .ok (.lrem, 1) := by decide +kernel
theorem dX9_writesNumber_26 : decode cX9_writesNumber 26 = .ok (.ladd, 1) := by decide +kernel
theorem dX9_writesNumber_27 : decode cX9_writesNumber 27 = .ok (.l2i, 1) := by decide +kernel
theorem dX9_writesNumber_28 : decode cX9_writesNumber 28 = .ok (.invokevirtual 321, 3) := by decide +kernel
theorem dX9_writesNumber_31 : decode cX9_writesNumber 31 = .ok (.return_, 1) := by decide +kernel
theorem dX9_say_0 : decode cX9_say 0 = .ok (.aload_n 0, 1) := by decide +kernel
theorem dX9_say_1 : decode cX9_say 1 = .ok (.iconst 0, 1) := by decide +kernel
theorem dX9_say_2 : decode cX9_say 2 = .ok (.putfield 73, 3) := by decide +kernel
theorem dX9_say_5 : decode cX9_say 5 = .ok (.aload_n 0, 1) := by decide +kernel
theorem dX9_say_6 : decode cX9_say 6 = .ok (.invokevirtual 213, 3) := by decide +kernel
theorem dX9_say_9 : decode cX9_say 9 = .ok (.aload_n 0, 1) := by decide +kernel
theorem dX9_say_10 : decode cX9_say 10 = .ok (.iconst 0, 1) := by decide +kernel
theorem dX9_say_11 : decode cX9_say 11 = .ok (.putfield 308, 3) := by decide +kernel
theorem dX9_say_14 : decode cX9_say 14 = .ok (.iconst 0, 1) := by decide +kernel
theorem dX9_say_15 : decode cX9_say 15 = .ok (.istore_n 1, 1) := by decide +kernel
theorem dX9_say_16 : decode cX9_say 16 = .ok (.iload_n 1, 1) := by decide +kernel
theorem dX9_say_17 : decode cX9_say 17 = .ok (.aload_n 0, 1) := by decide +kernel
theorem dX9_say_18 : decode cX9_say 18 = .ok (.invokevirtual 76, 3) := by decide +kernel
theorem dX9_say_21 : decode cX9_say 21 = .ok (.if_icmp .ge 24, 3) := by decide +kernel
theorem dX9_say_24 : decode cX9_say 24 = .ok (.iload_n 1, 1) := by decide +kernel
theorem dX9_say_25 : decode cX9_say 25 = .ok (.ifCond .le 9, 3) := by decide +kernel
theorem dX9_say_28 : decode cX9_say 28 = .ok (.aload_n 0, 1) := by decide +kernel
theorem dX9_say_29 : decode cX9_say 29 = .ok (.bipush 44, 2) := by decide +kernel
theorem dX9_say_31 : decode cX9_say 31 = .ok (.invokevirtual 321, 3) := by decide +kernel
theorem dX9_say_34 : decode cX9_say 34 = .ok (.aload_n 0, 1) := by decide +kernel
theorem dX9_say_35 : decode cX9_say 35 = .ok (.iload_n 1, 1) := by decide +kernel
theorem dX9_say_36 : decode cX9_say 36 = .ok (.invokevirtual 324, 3) := by decide +kernel
theorem dX9_say_39 : decode cX9_say 39 = .ok (.iinc 1 1, 3) := by decide +kernel
theorem dX9_say_42 : decode cX9_say 42 = .ok (.goto (-26), 3) := by decide +kernel
theorem dX9_say_45 : decode cX9_say 45 = .ok (.aload_n 0, 1) := by decide +kernel
theorem dX9_say_46 : decode cX9_say 46 = .ok (.invokevirtual 231, 3) := by decide +kernel
theorem dX9_say_49 : decode cX9_say 49 = .ok (.ifCond .eq 12, 3) := by decide +kernel
theorem dX9_say_52 : decode cX9_say 52 = .ok (.aload_n 0, 1) := by decide +kernel
theorem dX9_say_53 : decode cX9_say 53 = .ok (.bipush 59, 2) := by decide +kernel
theorem dX9_say_55 : decode cX9_say 55 = .ok (.invokevirtual 321, 3) := by decide +kernel
theorem dX9_say_58 : decode cX9_say 58 = .ok (.goto 16, 3) := by decide +kernel
theorem dX9_say_61 : decode cX9_say 61 = .ok (.aload_n 0, 1) := by decide +kernel
theorem dX9_say_62 : decode cX9_say 62 = .ok (.invokevirtual 196, 3) := by decide +kernel
theorem dX9_say_65 : decode cX9_say 65 = .ok (.ifCond .ne 9, 3) := by decide +kernel
theorem dX9_say_68 : decode cX9_say 68 = .ok (.aload_n 0, 1) := by decide +kernel
theorem dX9_say_69 : decode cX9_say 69 = .ok (.bipush 63, 2) := by decide +kernel
theorem dX9_say_71 : decode cX9_say 71 = .ok (.invokevirtual 321, 3) := by decide +kernel
theorem dX9_say_74 : decode cX9_say 74 = .ok (.aload_n 0, 1) := by decide +kernel
theorem dX9_say_75 : decode cX9_say 75 = .ok (.getfield 308, 3) := by decide +kernel
theorem dX9_say_78 : decode cX9_say 78 = .ok (.ireturn, 1) := by decide +kernel
theorem dX9_saysRace_0 : decode cX9_saysRace 0 = .ok (.aload_n 0, 1) := by decide +kernel
theorem dX9_saysRace_1 : decode cX9_saysRace 1 = .ok (.aload_n 0, 1) := by decide +kernel
theorem dX9_saysRace_2 : decode cX9_saysRace 2 = .ok (.iload_n 1, 1) := by decide +kernel
theorem dX9_saysRace_3 : decode cX9_saysRace 3 = .ok (.invokevirtual 141, 3) := by decide +kernel
theorem dX9_saysRace_6 : decode cX9_saysRace 6 = .ok (.ifCond .ne 8, 3) := by decide +kernel
theorem dX9_saysRace_9 : decode cX9_saysRace 9 = .ok (.bipush 99, 2) := by decide +kernel
theorem dX9_saysRace_11 : decode cX9_saysRace 11 = .ok (.goto 5, 3) := by decide +kernel
theorem dX9_saysRace_14 : decode cX9_saysRace 14 = .ok (.bipush 112, 2) := by decide +kernel
theorem dX9_saysRace_16 : decode cX9_saysRace 16 = .ok (.invokevirtual 321, 3) := by decide +kernel
theorem dX9_saysRace_19 : decode cX9_saysRace 19 = .ok (.aload_n 0, 1) := by decide +kernel
theorem dX9_saysRace_20 : decode cX9_saysRace 20 = .ok (.bipush 97, 2) := by decide +kernel
theorem dX9_saysRace_22 : decode cX9_saysRace 22 = .ok (.aload_n 0, 1) := by decide +kernel
theorem dX9_saysRace_23 : decode cX9_saysRace 23 = .ok (.getfield 31, 3) := by decide +kernel
theorem dX9_saysRace_26 : decode cX9_saysRace 26 = .ok (.iload_n 1, 1) := by decide +kernel
theorem dX9_saysRace_27 : decode cX9_saysRace 27 = .ok (.iaload, 1) := by decide +kernel
theorem dX9_saysRace_28 : decode cX9_saysRace 28 = .ok (.iadd, 1) := by decide +kernel
theorem dX9_saysRace_29 : decode cX9_saysRace 29 = .ok (.invokevirtual 321, 3) := by decide +kernel
theorem dX9_saysRace_32 : decode cX9_saysRace 32 = .ok (.aload_n 0, 1) := by decide +kernel
theorem dX9_saysRace_33 : decode cX9_saysRace 33 = .ok (.getfield 47, 3) := by decide +kernel
theorem dX9_saysRace_36 : decode cX9_saysRace 36 = .ok (.iload_n 1, 1) := by decide +kernel
theorem dX9_saysRace_37 : decode cX9_saysRace 37 = .ok (.iaload, 1) := by decide +kernel
theorem dX9_saysRace_38 : decode cX9_saysRace 38 = .ok (.iconst (-1), 1) := by decide +kernel
theorem dX9_saysRace_39 : decode cX9_saysRace 39 = .ok (.if_icmp .ne 23, 3) := by decide +kernel
theorem dX9_saysRace_42 : decode cX9_saysRace 42 = .ok (.aload_n 0, 1) := by decide +kernel
theorem dX9_saysRace_43 : decode cX9_saysRace 43 = .ok (.bipush 58, 2) := by decide +kernel
theorem dX9_saysRace_45 : decode cX9_saysRace 45 = .ok (.invokevirtual 321, 3) := by decide +kernel
theorem dX9_saysRace_48 : decode cX9_saysRace 48 = .ok (.aload_n 0, 1) := by decide +kernel
theorem dX9_saysRace_49 : decode cX9_saysRace 49 = .ok (.aload_n 0, 1) := by decide +kernel
theorem dX9_saysRace_50 : decode cX9_saysRace 50 = .ok (.iload_n 1, 1) := by decide +kernel
theorem dX9_saysRace_51 : decode cX9_saysRace 51 = .ok (.invokevirtual 169, 3) := by decide +kernel
theorem dX9_saysRace_54 : decode cX9_saysRace 54 = .ok (.ldc2_w 151, 3) := by decide +kernel
theorem dX9_saysRace_57 : decode cX9_saysRace 57 = .ok (.ldiv, 1) := by decide +kernel
theorem dX9_saysRace_58 : decode cX9_saysRace 58 = .ok (.invokevirtual 315, 3) := by decide +kernel
theorem dX9_saysRace_61 : decode cX9_saysRace 61 = .ok (.return_, 1) := by decide +kernel
theorem dX9_saysRace_62 : decode cX9_saysRace 62 = .ok (.aload_n 0, 1) := by decide +kernel
theorem dX9_saysRace_63 : decode cX9_saysRace 63 = .ok (.bipush 33, 2) := by decide +kernel
theorem dX9_saysRace_65 : decode cX9_saysRace 65 = .ok (.invokevirtual 321, 3) := by decide +kernel
theorem dX9_saysRace_68 : decode cX9_saysRace 68 = .ok (.aload_n 0, 1) := by decide +kernel
theorem dX9_saysRace_69 : decode cX9_saysRace 69 = .ok (.aload_n 0, 1) := by decide +kernel
theorem dX9_saysRace_70 : decode cX9_saysRace 70 = .ok (.getfield 47, 3) := by decide +kernel
theorem dX9_saysRace_73 : decode cX9_saysRace 73 = .ok (.iload_n 1, 1) := by decide +kernel
theorem dX9_saysRace_74 : decode cX9_saysRace 74 = .ok (.iaload, 1) := by decide +kernel
theorem dX9_saysRace_75 : decode cX9_saysRace 75 = .ok (.i2l, 1) := by decide +kernel
theorem dX9_saysRace_76 : decode cX9_saysRace 76 = .ok (.invokevirtual 315, 3) := by decide +kernel
theorem dX9_saysRace_79 : decode cX9_saysRace 79 = .ok (.return_, 1) := by decide +kernel
theorem dX9_said_0 : decode cX9_said 0 = .ok (.aload_n 0, 1) := by decide +kernel
theorem dX9_said_1 : decode cX9_said 1 = .ok (.iconst 0, 1) := by decide +kernel
theorem dX9_said_2 : decode cX9_said 2 = .ok (.putfield 73, 3) := by decide +kernel
theorem dX9_said_5 : decode cX9_said 5 = .ok (.iload_n 1, 1) := by decide +kernel
theorem dX9_said_6 : decode cX9_said 6 = .ok (.iconst 0, 1) := by decide +kernel
theorem dX9_said_7 : decode cX9_said 7 = .ok (.aload_n 0, 1) := by decide +kernel
theorem dX9_said_8 : decode cX9_said 8 = .ok (.getfield 308, 3) := by decide +kernel
theorem dX9_said_11 : decode cX9_said 11 = .ok (.iconst 1, 1) := by decide +kernel
theorem dX9_said_12 : decode cX9_said 12 = .ok (.isub, 1) := by decide +kernel
theorem dX9_said_13 : decode cX9_said 13 = .ok (.invokestatic 80, 3) := by decide +kernel
theorem dX9_said_16 : decode cX9_said 16 = .ok (.ifCond .eq 12, 3) := by decide +kernel
theorem dX9_said_19 : decode cX9_said 19 = .ok (.aload_n 0, 1) := by decide +kernel
theorem dX9_said_20 : decode cX9_said 20 = .ok (.getfield 59, 3) := by decide +kernel
theorem dX9_said_23 : decode cX9_said 23 = .ok (.iload_n 1, 1) := by decide +kernel
theorem dX9_said_24 : decode cX9_said 24 = .ok (.iaload, 1) := by decide +kernel
theorem dX9_said_25 : decode cX9_said 25 = .ok (.goto 4, 3) := by decide +kernel
theorem dX9_said_28 : decode cX9_said 28 = .ok (.iconst (-1), 1) := by decide +kernel
theorem dX9_said_29 : decode cX9_said 29 = .ok (.ireturn, 1) := by decide +kernel
theorem dX9_feed_0 : decode cX9_feed 0 = .ok (.aload_n 0, 1) := by decide +kernel
theorem dX9_feed_1 : decode cX9_feed 1 = .ok (.iconst 0, 1) := by decide +kernel
theorem dX9_feed_2 : decode cX9_feed 2 = .ok (.putfield 73, 3) := by decide +kernel
theorem dX9_feed_5 : decode cX9_feed 5 = .ok (.aload_n 0, 1) := by decide +kernel
theorem dX9_feed_6 : decode cX9_feed 6 = .ok (.getfield 237, 3) := by decide +kernel
theorem dX9_feed_9 : decode cX9_feed 9 = .ok (.bipush 20, 2) := by decide +kernel
theorem dX9_feed_11 : decode cX9_feed 11 = .ok (.iadd, 1) := by decide +kernel
theorem dX9_feed_12 : decode cX9_feed 12 = .ok (.sipush 600, 3) := by decide +kernel
theorem dX9_feed_15 : decode cX9_feed 15 = .ok (.if_icmp .le 5, 3) := by decide +kernel
theorem dX9_feed_18 : decode cX9_feed 18 = .ok (.iconst (-1), 1) := by decide +kernel
theorem dX9_feed_19 : decode cX9_feed 19 = .ok (.ireturn, 1) := by decide +kernel
theorem dX9_feed_20 : decode cX9_feed 20 = .ok (.iconst 0, 1) := by decide +kernel
theorem dX9_feed_21 : decode cX9_feed 21 = .ok (.istore 6, 2) := by decide +kernel
theorem dX9_feed_23 : decode cX9_feed 23 = .ok (.iload 6, 2) := by decide +kernel
theorem dX9_feed_25 : decode cX9_feed 25 = .ok (.bipush 20, 2) := by decide +kernel
theorem dX9_feed_27 : decode cX9_feed 27 = .ok (.if_icmp .ge 93, 3) := by decide +kernel
theorem dX9_feed_30 : decode cX9_feed 30 = .ok (.iload 6, 2) := by decide +kernel
theorem dX9_feed_32 : decode cX9_feed 32 = .ok (.iconst 4, 1) := by decide +kernel
theorem dX9_feed_33 : decode cX9_feed 33 = .ok (.if_icmp .ge 7, 3) := by decide +kernel
theorem dX9_feed_36 : decode cX9_feed 36 = .ok (.iload_n 1, 1) := by decide +kernel
theorem dX9_feed_37 : decode cX9_feed 37 = .ok (.goto 39, 3) := by decide +kernel
theorem dX9_feed_40 : decode cX9_feed 40 = .ok (.iload 6, 2) := by decide +kernel
theorem dX9_feed_42 : decode cX9_feed 42 = .ok (.bipush 8, 2) := by decide +kernel
theorem dX9_feed_44 : decode cX9_feed 44 = .ok (.if_icmp .ge 7, 3) := by decide +kernel
theorem dX9_feed_47 : decode cX9_feed 47 = .ok (.iload_n 2, 1) := by decide +kernel
theorem dX9_feed_48 : decode cX9_feed 48 = .ok (.goto 28, 3) := by decide +kernel
theorem dX9_feed_51 : decode cX9_feed 51 = .ok (.iload 6, 2) := by decide +kernel
theorem dX9_feed_53 : decode cX9_feed 53 = .ok (.bipush 12, 2) := by decide +kernel
theorem dX9_feed_55 : decode cX9_feed 55 = .ok (.if_icmp .ge 7, 3) := by decide +kernel
theorem dX9_feed_58 : decode cX9_feed 58 = .ok (.iload_n 3, 1) := by decide +kernel
theorem dX9_feed_59 : decode cX9_feed 59 = .ok (.goto 17, 3) := by decide +kernel
theorem dX9_feed_62 : decode cX9_feed 62 = .ok (.iload 6, 2) := by decide +kernel
theorem dX9_feed_64 : decode cX9_feed 64 = .ok (.bipush 16, 2) := by decide +kernel
theorem dX9_feed_66 : decode cX9_feed 66 = .ok (.if_icmp .ge 8, 3) := by decide +kernel
theorem dX9_feed_69 : decode cX9_feed 69 = .ok (.iload 4, 2) := by decide +kernel
theorem dX9_feed_71 : decode cX9_feed 71 = .ok (.goto 5, 3) := by decide +kernel
theorem dX9_feed_74 : decode cX9_feed 74 = .ok (.iload 5, 2) := by decide +kernel
theorem dX9_feed_76 : decode cX9_feed 76 = .ok (.istore 7, 2) := by decide +kernel
theorem dX9_feed_78 : decode cX9_feed 78 = .ok (.aload_n 0, 1) := by decide +kernel
theorem dX9_feed_79 : decode cX9_feed 79 = .ok (.getfield 62, 3) := by decide +kernel
theorem dX9_feed_82 : decode cX9_feed 82 = .ok (.aload_n 0, 1) := by decide +kernel
theorem dX9_feed_83 : decode cX9_feed 83 = .ok (.getfield 237, 3) := by decide +kernel
theorem dX9_feed_86 : decode cX9_feed 86 = .ok (.iload 7, 2) := by decide +kernel
theorem dX9_feed_88 : decode cX9_feed 88 = .ok (.bipush 24, 2) := by decide +kernel
theorem dX9_feed_90 : decode cX9_feed 90 = .ok (.bipush 8, 2) := by decide +kernel
theorem dX9_feed_92 : decode cX9_feed 92 = .ok (.iload 6, 2) := by decide +kernel
theorem dX9_feed_94 : decode cX9_feed 94 = .ok (.iconst 4, 1) := by decide +kernel
theorem dX9_feed_95 : decode cX9_feed 95 = .ok (.irem, 1) := by decide +kernel
theorem dX9_feed_96 : decode cX9_feed 96 = .ok (.imul, 1) := by decide +kernel
theorem dX9_feed_97 : decode cX9_feed 97 = .ok (.isub, 1) := by decide +kernel
theorem dX9_feed_98 : decode cX9_feed 98 = .ok (.ishr, 1) := by decide +kernel
theorem dX9_feed_99 : decode cX9_feed 99 = .ok (.sipush 255, 3) := by decide +kernel
theorem dX9_feed_102 : decode cX9_feed 102 = .ok (.iand, 1) := by decide +kernel
theorem dX9_feed_103 : decode cX9_feed 103 = .ok (.iastore, 1) := by decide +kernel
theorem dX9_feed_104 : decode cX9_feed 104 = .ok (.aload_n 0, 1) := by decide +kernel
theorem dX9_feed_105 : decode cX9_feed 105 = .ok (.dup, 1) := by decide +kernel
theorem dX9_feed_106 : decode cX9_feed 106 = .ok (.getfield 237, 3) := by decide +kernel
theorem dX9_feed_109 : decode cX9_feed 109 = .ok (.iconst 1, 1) := by decide +kernel
theorem dX9_feed_110 : decode cX9_feed 110 = .ok (.iadd, 1) := by decide +kernel
theorem dX9_feed_111 : decode cX9_feed 111 = .ok (.putfield 237, 3) := by decide +kernel
theorem dX9_feed_114 : decode cX9_feed 114 = .ok (.iinc 6 1, 3) := by decide +kernel
theorem dX9_feed_117 : decode cX9_feed 117 = .ok (.goto (-94), 3) := by decide +kernel
theorem dX9_feed_120 : decode cX9_feed 120 = .ok (.aload_n 0, 1) := by decide +kernel
theorem dX9_feed_121 : decode cX9_feed 121 = .ok (.getfield 237, 3) := by decide +kernel
theorem dX9_feed_124 : decode cX9_feed 124 = .ok (.ireturn, 1) := by decide +kernel
theorem dX9_fault_0 : decode cX9_fault 0 = .ok (.aload_n 0, 1) := by decide +kernel
theorem dX9_fault_1 : decode cX9_fault 1 = .ok (.iconst 0, 1) := by decide +kernel
theorem dX9_fault_2 : decode cX9_fault 2 = .ok (.putfield 73, 3) := by decide +kernel
theorem dX9_fault_5 : decode cX9_fault 5 = .ok (.aload_n 0, 1) := by decide +kernel
theorem dX9_fault_6 : decode cX9_fault 6 = .ok (.getfield 65, 3) := by decide +kernel
theorem dX9_fault_9 : decode cX9_fault 9 = .ok (.ireturn, 1) := by decide +kernel
theorem dX9_byteAt_0 : decode cX9_byteAt 0 = .ok (.iload_n 1, 1) := by decide +kernel
theorem dX9_byteAt_1 : decode cX9_byteAt 1 = .ok (.aload_n 0, 1) := by decide +kernel
theorem dX9_byteAt_2 : decode cX9_byteAt 2 = .ok (.getfield 327, 3) := by decide +kernel
theorem dX9_byteAt_5 : decode cX9_byteAt 5 = .ok (.if_icmp .ge 12, 3) := by decide +kernel
theorem dX9_byteAt_8 : decode cX9_byteAt 8 = .ok (.aload_n 0, 1) := by decide +kernel
theorem dX9_byteAt_9 : decode cX9_byteAt 9 = .ok (.getfield 62, 3) := by decide +kernel
theorem dX9_byteAt_12 : decode cX9_byteAt 12 = .ok (.iload_n 1, 1) := by decide +kernel
theorem dX9_byteAt_13 : decode cX9_byteAt 13 = .ok (.iaload, 1) := by decide +kernel
theorem dX9_byteAt_14 : decode cX9_byteAt 14 = .ok (.goto 4, 3) := by decide +kernel
theorem dX9_byteAt_17 : decode cX9_byteAt 17 = .ok (.iconst (-1), 1) := by decide +kernel
theorem dX9_byteAt_18 : decode cX9_byteAt 18 = .ok (.ireturn, 1) := by decide +kernel
theorem dX9_isSmall_0 : decode cX9_isSmall 0 = .ok (.iload_n 0, 1) := by decide +kernel
theorem dX9_isSmall_1 : decode cX9_isSmall 1 = .ok (.bipush 97, 2) := by decide +kernel
theorem dX9_isSmall_3 : decode cX9_isSmall 3 = .ok (.if_icmp .lt 13, 3) := by decide +kernel
theorem dX9_isSmall_6 : decode cX9_isSmall 6 = .ok (.iload_n 0, 1) := by decide +kernel
theorem dX9_isSmall_7 : decode cX9_isSmall 7 = .ok (.bipush 122, 2) := by decide +kernel
theorem dX9_isSmall_9 : decode cX9_isSmall 9 = .ok (.if_icmp .gt 7, 3) := by decide +kernel
theorem dX9_isSmall_12 : decode cX9_isSmall 12 = .ok (.iconst 1, 1) := by decide +kernel
theorem dX9_isSmall_13 : decode cX9_isSmall 13 = .ok (.goto 4, 3) := by decide +kernel
theorem dX9_isSmall_16 : decode cX9_isSmall 16 = .ok (.iconst 0, 1) := by decide +kernel
theorem dX9_isSmall_17 : decode cX9_isSmall 17 = .ok (.ireturn, 1) := by decide +kernel
theorem dX9_isFigure_0 : decode cX9_isFigure 0 = .ok (.iload_n 0, 1) := by decide +kernel
theorem dX9_isFigure_1 : decode cX9_isFigure 1 = .ok (.bipush 48, 2) := by decide +kernel
theorem dX9_isFigure_3 : decode cX9_isFigure 3 = .ok (.if_icmp .lt 13, 3) := by decide +kernel
theorem dX9_isFigure_6 : decode cX9_isFigure 6 = .ok (.iload_n 0, 1) := by decide +kernel
theorem dX9_isFigure_7 : decode cX9_isFigure 7 = .ok (.bipush 57, 2) := by decide +kernel
theorem dX9_isFigure_9 : decode cX9_isFigure 9 = .ok (.if_icmp .gt 7, 3) := by decide +kernel
theorem dX9_isFigure_12 : decode cX9_isFigure 12 = .ok (.iconst 1, 1) := by decide +kernel
theorem dX9_isFigure_13 : decode cX9_isFigure 13 = .ok (.goto 4, 3) := by decide +kernel
theorem dX9_isFigure_16 : decode cX9_isFigure 16 = .ok (.iconst 0, 1) := by decide +kernel
theorem dX9_isFigure_17 : decode cX9_isFigure 17 = .ok (.ireturn, 1) := by decide +kernel
theorem dX9_step_0 : decode cX9_step 0 = .ok (.aload_n 0, 1) := by decide +kernel
theorem dX9_step_1 : decode cX9_step 1 = .ok (.aload_n 0, 1) := by decide +kernel
theorem dX9_step_2 : decode cX9_step 2 = .ok (.getfield 330, 3) := by decide +kernel
theorem dX9_step_5 : decode cX9_step 5 = .ok (.invokevirtual 333, 3) := by decide +kernel
theorem dX9_step_8 : decode cX9_step 8 = .ok (.bipush 32, 2) := by decide +kernel
theorem dX9_step_10 : decode cX9_step 10 = .ok (.if_icmp .eq 16, 3) := by decide +kernel
theorem dX9_step_13 : decode cX9_step 13 = .ok (.aload_n 0, 1) := by decide +kernel
theorem dX9_step_14 : decode cX9_step 14 = .ok (.aload_n 0, 1) := by decide +kernel
theorem dX9_step_15 : decode cX9_step 15 = .ok (.getfield 330, 3) := by decide +kernel
theorem dX9_step_18 : decode cX9_step 18 = .ok (.invokevirtual 333, 3) := by decide +kernel
theorem dX9_step_21 : decode cX9_step 21 = .ok (.bipush 10, 2) := by decide +kernel
theorem dX9_step_23 : decode cX9_step 23 = .ok (.if_icmp .ne 16, 3) := by decide +kernel
theorem dX9_step_26 : decode cX9_step 26 = .ok (.aload_n 0, 1) := by decide +kernel
theorem dX9_step_27 : decode cX9_step 27 = .ok (.dup, 1) := by decide +kernel
theorem dX9_step_28 : decode cX9_step 28 = .ok (.getfield 330, 3) := by decide +kernel
theorem dX9_step_31 : decode cX9_step 31 = .ok (.iconst 1, 1) := by decide +kernel
theorem dX9_step_32 : decode cX9_step 32 = .ok (.iadd, 1) := by decide +kernel
theorem dX9_step_33 : decode cX9_step 33 = .ok (.putfield 330, 3) := by decide +kernel
theorem dX9_step_36 : decode cX9_step 36 = .ok (.goto (-36), 3) := by decide +kernel
theorem dX9_step_39 : decode cX9_step 39 = .ok (.aload_n 0, 1) := by decide +kernel
theorem dX9_step_40 : decode cX9_step 40 = .ok (.aload_n 0, 1) := by decide +kernel
theorem dX9_step_41 : decode cX9_step 41 = .ok (.getfield 330, 3) := by decide +kernel
theorem dX9_step_44 : decode cX9_step 44 = .ok (.putfield 336, 3) := by decide +kernel
theorem dX9_step_47 : decode cX9_step 47 = .ok (.aload_n 0, 1) := by decide +kernel
theorem dX9_step_48 : decode cX9_step 48 = .ok (.aload_n 0, 1) := by decide +kernel
theorem dX9_step_49 : decode cX9_step 49 = .ok (.getfield 330, 3) := by decide +kernel
theorem dX9_step_52 : decode cX9_step 52 = .ok (.invokevirtual 333, 3) := by decide +kernel
theorem dX9_step_55 : decode cX9_step 55 = .ok (.istore_n 1, 1) := by decide +kernel
theorem dX9_step_56 : decode cX9_step 56 = .ok (.iload_n 1, 1) := by decide +kernel
theorem dX9_step_57 : decode cX9_step 57 = .ok (.iconst (-1), 1) := by decide +kernel
theorem dX9_step_58 : decode cX9_step 58 = .ok (.if_icmp .ne 11, 3) := by decide +kernel
theorem dX9_step_61 : decode cX9_step 61 = .ok (.aload_n 0, 1) := by decide +kernel
theorem dX9_step_62 : decode cX9_step 62 = .ok (.iconst 0, 1) := by decide +kernel
theorem dX9_step_63 : decode cX9_step 63 = .ok (.putfield 338, 3) := by decide +kernel
theorem dX9_step_66 : decode cX9_step 66 = .ok (.goto 102, 3) := by decide +kernel
theorem dX9_step_69 : decode cX9_step 69 = .ok (.iload_n 1, 1) := by decide +kernel
theorem dX9_step_70 : decode cX9_step 70 = .ok (.invokestatic 341, 3) := by decide +kernel
theorem dX9_step_73 : decode cX9_step 73 = .ok (.ifCond .eq 38, 3) := by decide +kernel
theorem dX9_step_76 : decode cX9_step 76 = .ok (.aload_n 0, 1) := by decide +kernel
theorem dX9_step_77 : decode cX9_step 77 = .ok (.aload_n 0, 1) := by decide +kernel
theorem dX9_step_78 : decode cX9_step 78 = .ok (.getfield 330, 3) := by decide +kernel
theorem dX9_step_81 : decode cX9_step 81 = .ok (.invokevirtual 333, 3) := by decide +kernel
theorem dX9_step_84 : decode cX9_step 84 = .ok (.invokestatic 341, 3) := by decide +kernel
theorem dX9_step_87 : decode cX9_step 87 = .ok (.ifCond .eq 16, 3) := by decide +kernel
theorem dX9_step_90 : decode cX9_step 90 = .ok (.aload_n 0, 1) := by decide +kernel
theorem dX9_step_91 : decode cX9_step 91 = .ok (.dup, 1) := by decide +kernel
theorem dX9_step_92 : decode cX9_step 92 = .ok (.getfield 330, 3) := by decide +kernel
theorem dX9_step_95 : decode cX9_step 95 = .ok (.iconst 1, 1) := by decide +kernel
theorem dX9_step_96 : decode cX9_step 96 = .ok (.iadd, 1) := by decide +kernel
theorem dX9_step_97 : decode cX9_step 97 = .ok (.putfield 330, 3) := by decide +kernel
theorem dX9_step_100 : decode cX9_step 100 = .ok (.goto (-24), 3) := by decide +kernel
theorem dX9_step_103 : decode cX9_step 103 = .ok (.aload_n 0, 1) := by decide +kernel
theorem dX9_step_104 : decode cX9_step 104 = .ok (.iconst 1, 1) := by decide +kernel
theorem dX9_step_105 : decode cX9_step 105 = .ok (.putfield 338, 3) := by decide +kernel
theorem dX9_step_108 : decode cX9_step 108 = .ok (.goto 60, 3) := by decide +kernel
theorem dX9_step_111 : decode cX9_step 111 = .ok (.iload_n 1, 1) := by decide +kernel
theorem dX9_step_112 : decode cX9_step 112 = .ok (.invokestatic 344, 3) := by decide +kernel
theorem dX9_step_115 : decode cX9_step 115 = .ok (.ifCond .eq 38, 3) := by decide +kernel
theorem dX9_step_118 : decode cX9_step 118 = .ok (.aload_n 0, 1) := by decide +kernel
theorem dX9_step_119 : decode cX9_step 119 = .ok (.aload_n 0, 1) := by decide +kernel
theorem dX9_step_120 : decode cX9_step 120 = .ok (.getfield 330, 3) := by decide +kernel
theorem dX9_step_123 : decode cX9_step 123 = .ok (.invokevirtual 333, 3) := by decide +kernel
theorem dX9_step_126 : decode cX9_step 126 = .ok (.invokestatic 344, 3) := by decide +kernel
theorem dX9_step_129 : decode cX9_step 129 = .ok (.ifCond .eq 16, 3) := by decide +kernel
theorem dX9_step_132 : decode cX9_step 132 = .ok (.aload_n 0, 1) := by decide +kernel
theorem dX9_step_133 : decode cX9_step 133 = .ok (.dup, 1) := by decide +kernel
theorem dX9_step_134 : decode cX9_step 134 = .ok (.getfield 330, 3) := by decide +kernel
theorem dX9_step_137 : decode cX9_step 137 = .ok (.iconst 1, 1) := by decide +kernel
theorem dX9_step_138 : decode cX9_step 138 = .ok (.iadd, 1) := by decide +kernel
theorem dX9_step_139 : decode cX9_step 139 = .ok (.putfield 330, 3) := by decide +kernel
theorem dX9_step_142 : decode cX9_step 142 = .ok (.goto (-24), 3) := by decide +kernel
theorem dX9_step_145 : decode cX9_step 145 = .ok (.aload_n 0, 1) := by decide +kernel
theorem dX9_step_146 : decode cX9_step 146 = .ok (.iconst 2, 1) := by decide +kernel
theorem dX9_step_147 : decode cX9_step 147 = .ok (.putfield 338, 3) := by decide +kernel
theorem dX9_step_150 : decode cX9_step 150 = .ok (.goto 18, 3) := by decide +kernel
theorem dX9_step_153 : decode cX9_step 153 = .ok (.aload_n 0, 1) := by decide +kernel
theorem dX9_step_154 : decode cX9_step 154 = .ok (.dup, 1) := by decide +kernel
theorem dX9_step_155 : decode cX9_step 155 = .ok (.getfield 330, 3) := by decide +kernel
theorem dX9_step_158 : decode cX9_step 158 = .ok (.iconst 1, 1) := by decide +kernel
theorem dX9_step_159 : decode cX9_step 159 = .ok (.iadd, 1) := by decide +kernel
theorem dX9_step_160 : decode cX9_step 160 = .ok (.putfield 330, 3) := by decide +kernel
theorem dX9_step_163 : decode cX9_step 163 = .ok (.aload_n 0, 1) := by decide +kernel
theorem dX9_step_164 : decode cX9_step 164 = .ok (.iconst 3, 1) := by decide +kernel
theorem dX9_step_165 : decode cX9_step 165 = .ok (.putfield 338, 3) := by decide +kernel
theorem dX9_step_168 : decode cX9_step 168 = .ok (.aload_n 0, 1) := by decide +kernel
theorem dX9_step_169 : decode cX9_step 169 = .ok (.aload_n 0, 1) := by decide +kernel
theorem dX9_step_170 : decode cX9_step 170 = .ok (.getfield 330, 3) := by decide +kernel
theorem dX9_step_173 : decode cX9_step 173 = .ok (.putfield 347, 3) := by decide +kernel
theorem dX9_step_176 : decode cX9_step 176 = .ok (.return_, 1) := by decide +kernel
theorem dX9_opens_0 : decode cX9_opens 0 = .ok (.aload_n 0, 1) := by decide +kernel
theorem dX9_opens_1 : decode cX9_opens 1 = .ok (.iload_n 1, 1) := by decide +kernel
theorem dX9_opens_2 : decode cX9_opens 2 = .ok (.putfield 327, 3) := by decide +kernel
theorem dX9_opens_5 : decode cX9_opens 5 = .ok (.aload_n 0, 1) := by decide +kernel
theorem dX9_opens_6 : decode cX9_opens 6 = .ok (.iconst 0, 1) := by decide +kernel
theorem dX9_opens_7 : decode cX9_opens 7 = .ok (.putfield 330, 3) := by decide +kernel
theorem dX9_opens_10 : decode cX9_opens 10 = .ok (.aload_n 0, 1) := by decide +kernel
theorem dX9_opens_11 : decode cX9_opens 11 = .ok (.iconst 0, 1) := by decide +kernel
theorem dX9_opens_12 : decode cX9_opens 12 = .ok (.putfield 350, 3) := by decide +kernel
theorem dX9_opens_15 : decode cX9_opens 15 = .ok (.aload_n 0, 1) := by decide +kernel
theorem dX9_opens_16 : decode cX9_opens 16 = .ok (.iconst 0, 1) := by decide +kernel
theorem dX9_opens_17 : decode cX9_opens 17 = .ok (.putfield 353, 3) := by decide +kernel
theorem dX9_opens_20 : decode cX9_opens 20 = .ok (.aload_n 0, 1) := by decide +kernel
theorem dX9_opens_21 : decode cX9_opens 21 = .ok (.invokevirtual 356, 3) := by decide +kernel
theorem dX9_opens_24 : decode cX9_opens 24 = .ok (.return_, 1) := by decide +kernel
theorem dX9_wrong_0 : decode cX9_wrong 0 = .ok (.aload_n 0, 1) := by decide +kernel
theorem dX9_wrong_1 : decode cX9_wrong 1 = .ok (.getfield 350, 3) := by decide +kernel
theorem dX9_wrong_4 : decode cX9_wrong 4 = .ok (.ifCond .eq 4, 3) := by decide +kernel
theorem dX9_wrong_7 : decode cX9_wrong 7 = .ok (.return_, 1) := by decide +kernel
theorem dX9_wrong_8 : decode cX9_wrong 8 = .ok (.aload_n 0, 1) := by decide +kernel
theorem dX9_wrong_9 : decode cX9_wrong 9 = .ok (.iload_n 1, 1) := by decide +kernel
theorem dX9_wrong_10 : decode cX9_wrong 10 = .ok (.putfield 350, 3) := by decide +kernel
theorem dX9_wrong_13 : decode cX9_wrong 13 = .ok (.aload_n 0, 1) := by decide +kernel
theorem dX9_wrong_14 : decode cX9_wrong 14 = .ok (.aload_n 0, 1) := by decide +kernel
theorem dX9_wrong_15 : decode cX9_wrong 15 = .ok (.getfield 336, 3) := by decide +kernel
theorem dX9_wrong_18 : decode cX9_wrong 18 = .ok (.putfield 359, 3) := by decide +kernel
theorem dX9_wrong_21 : decode cX9_wrong 21 = .ok (.return_, 1) := by decide +kernel
theorem dX9_pass_0 : decode cX9_pass 0 = .ok (.aload_n 0, 1) := by decide +kernel
theorem dX9_pass_1 : decode cX9_pass 1 = .ok (.getfield 350, 3) := by decide +kernel
theorem dX9_pass_4 : decode cX9_pass 4 = .ok (.ifCond .ne 7, 3) := by decide +kernel
theorem dX9_pass_7 : decode cX9_pass 7 = .ok (.aload_n 0, 1) := by decide +kernel
theorem dX9_pass_8 : decode cX9_pass 8 = .ok (.invokevirtual 356, 3) := by decide +kernel
theorem dX9_pass_11 : decode cX9_pass 11 = .ok (.return_, 1) := by decide +kernel
theorem dX9_isSign_0 : decode cX9_isSign 0 = .ok (.aload_n 0, 1) := by decide +kernel
theorem dX9_isSign_1 : decode cX9_isSign 1 = .ok (.getfield 350, 3) := by decide +kernel
theorem dX9_isSign_4 : decode cX9_isSign 4 = .ok (.ifCond .ne 28, 3) := by decide +kernel
theorem dX9_isSign_7 : decode cX9_isSign 7 = .ok (.aload_n 0, 1) := by decide +kernel
theorem dX9_isSign_8 : decode cX9_isSign 8 = .ok (.getfield 338, 3) := by decide +kernel
theorem dX9_isSign_11 : decode cX9_isSign 11 = .ok (.iconst 3, 1) := by decide +kernel
theorem dX9_isSign_12 : decode cX9_isSign 12 = .ok (.if_icmp .ne 20, 3) := by decide +kernel
theorem dX9_isSign_15 : decode cX9_isSign 15 = .ok (.aload_n 0, 1) := by decide +kernel
theorem dX9_isSign_16 : decode cX9_isSign 16 = .ok (.getfield 62, 3) := by decide +kernel
theorem dX9_isSign_19 : decode cX9_isSign 19 = .ok (.aload_n 0, 1) := by decide +kernel
theorem dX9_isSign_20 : decode cX9_isSign 20 = .ok (.getfield 336, 3) := by decide +kernel
theorem dX9_isSign_23 : decode cX9_isSign 23 = .ok (.iaload, 1) := by decide +kernel
theorem dX9_isSign_24 : decode cX9_isSign 24 = .ok (.iload_n 1, 1) := by decide +kernel
theorem dX9_isSign_25 : decode cX9_isSign 25 = .ok (.if_icmp .ne 7, 3) := by decide +kernel
theorem dX9_isSign_28 : decode cX9_isSign 28 = .ok (.iconst 1, 1) := by decide +kernel
theorem dX9_isSign_29 : decode cX9_isSign 29 = .ok (.goto 4, 3) := by decide +kernel
theorem dX9_isSign_32 : decode cX9_isSign 32 = .ok (.iconst 0, 1) := by decide +kernel
theorem dX9_isSign_33 : decode cX9_isSign 33 = .ok (.ireturn, 1) := by decide +kernel
theorem dX9_isWord_0 : decode cX9_isWord 0 = .ok (.aload_n 0, 1) := by decide +kernel
theorem dX9_isWord_1 : decode cX9_isWord 1 = .ok (.getfield 350, 3) := by decide +kernel
theorem dX9_isWord_4 : decode cX9_isWord 4 = .ok (.ifCond .ne 31, 3) := by decide +kernel
theorem dX9_isWord_7 : decode cX9_isWord 7 = .ok (.aload_n 0, 1) := by decide +kernel
theorem dX9_isWord_8 : decode cX9_isWord 8 = .ok (.getfield 338, 3) := by decide +kernel
theorem dX9_isWord_11 : decode cX9_isWord 11 = .ok (.iconst 1, 1) := by decide +kernel
theorem dX9_isWord_12 : decode cX9_isWord 12 = .ok (.if_icmp .ne 23, 3) := by decide +kernel
theorem dX9_isWord_15 : decode cX9_isWord 15 = .ok (.aload_n 1, 1) := by decide +kernel
theorem dX9_isWord_16 : decode cX9_isWord 16 = .ok (.invokevirtual 362, 3) := by decide +kernel
theorem dX9_isWord_19 : decode cX9_isWord 19 = .ok (.aload_n 0, 1) := by decide +kernel
theorem dX9_isWord_20 : decode cX9_isWord 20 = .ok (.getfield 347, 3) := by decide +kernel
theorem dX9_isWord_23 : decode cX9_isWord 23 = .ok (.aload_n 0, 1) := by decide +kernel
theorem dX9_isWord_24 : decode cX9_isWord 24 = .ok (.getfield 336, 3) := by decide +kernel
theorem dX9_isWord_27 : decode cX9_isWord 27 = .ok (.isub, 1) := by decide +kernel
theorem dX9_isWord_28 : decode cX9_isWord 28 = .ok (.if_icmp .ne 7, 3) := by decide +kernel
theorem dX9_isWord_31 : decode cX9_isWord 31 = .ok (.iconst 1, 1) := by decide +kernel
theorem dX9_isWord_32 : decode cX9_isWord 32 = .ok (.goto 4, 3) := by decide +kernel
theorem dX9_isWord_35 : decode cX9_isWord 35 = .ok (.iconst 0, 1) := by decide +kernel
theorem dX9_isWord_36 : decode cX9_isWord 36 = .ok (.istore_n 2, 1) := by decide +kernel
theorem dX9_isWord_37 : decode cX9_isWord 37 = .ok (.iconst 0, 1) := by decide +kernel
theorem dX9_isWord_38 : decode cX9_isWord 38 = .ok (.istore_n 3, 1) := by decide +kernel
theorem dX9_isWord_39 : decode cX9_isWord 39 = .ok (.iload_n 2, 1) := by decide +kernel
theorem dX9_isWord_40 : decode cX9_isWord 40 = .ok (.ifCond .eq 42, 3) := by decide +kernel
theorem dX9_isWord_43 : decode cX9_isWord 43 = .ok (.iload_n 3, 1) := by decide +kernel
theorem dX9_isWord_44 : decode cX9_isWord 44 = .ok (.aload_n 1, 1) := by decide +kernel
theorem dX9_isWord_45 : decode cX9_isWord 45 = .ok (.invokevirtual 362, 3) := by decide +kernel
theorem dX9_isWord_48 : decode cX9_isWord 48 = .ok (.if_icmp .ge 34, 3) := by decide +kernel
theorem dX9_isWord_51 : decode cX9_isWord 51 = .ok (.aload_n 1, 1) := by decide +kernel
theorem dX9_isWord_52 : decode cX9_isWord 52 = .ok (.iload_n 3, 1) := by decide +kernel
theorem dX9_isWord_53 : decode cX9_isWord 53 = .ok (.invokevirtual 367, 3) := by decide +kernel
theorem dX9_isWord_56 : decode cX9_isWord 56 = .ok (.aload_n 0, 1) := by decide +kernel
theorem dX9_isWord_57 : decode cX9_isWord 57 = .ok (.getfield 62, 3) := by decide +kernel
theorem dX9_isWord_60 : decode cX9_isWord 60 = .ok (.aload_n 0, 1) := by decide +kernel
theorem dX9_isWord_61 : decode cX9_isWord 61 = .ok (.getfield 336, 3) := by decide +kernel
theorem dX9_isWord_64 : decode cX9_isWord 64 = .ok (.iload_n 3, 1) := by decide +kernel
theorem dX9_isWord_65 : decode cX9_isWord 65 = .ok (.iadd, 1) := by decide +kernel
theorem dX9_isWord_66 : decode cX9_isWord 66 = .ok (.iaload, 1) := by decide +kernel
theorem dX9_isWord_67 : decode cX9_isWord 67 = .ok (.if_icmp .ne 7, 3) := by decide +kernel
theorem dX9_isWord_70 : decode cX9_isWord 70 = .ok (.iconst 1, 1) := by decide +kernel
theorem dX9_isWord_71 : decode cX9_isWord 71 = .ok (.goto 4, 3) := by decide +kernel
theorem dX9_isWord_74 : decode cX9_isWord 74 = .ok (.iconst 0, 1) := by decide +kernel
theorem dX9_isWord_75 : decode cX9_isWord 75 = .ok (.istore_n 2, 1) := by decide +kernel
theorem dX9_isWord_76 : decode cX9_isWord 76 = .ok (.iinc 3 1, 3) := by decide +kernel
theorem dX9_isWord_79 : decode cX9_isWord 79 = .ok (.goto (-40), 3) := by decide +kernel
theorem dX9_isWord_82 : decode cX9_isWord 82 = .ok (.iload_n 2, 1) := by decide +kernel
theorem dX9_isWord_83 : decode cX9_isWord 83 = .ok (.ireturn, 1) := by decide +kernel
theorem dX9_must_0 : decode cX9_must 0 = .ok (.aload_n 0, 1) := by decide +kernel
theorem dX9_must_1 : decode cX9_must 1 = .ok (.iload_n 1, 1) := by decide +kernel
theorem dX9_must_2 : decode cX9_must 2 = .ok (.invokevirtual 371, 3) := by decide +kernel
theorem dX9_must_5 : decode cX9_must 5 = .ok (.ifCond .ne 8, 3) := by decide +kernel
theorem dX9_must_8 : decode cX9_must 8 = .ok (.aload_n 0, 1) := by decide +kernel
theorem dX9_must_9 : decode cX9_must 9 = .ok (.iconst 1, 1) := by decide +kernel
theorem dX9_must_10 : decode cX9_must 10 = .ok (.invokevirtual 374, 3) := by decide +kernel
theorem dX9_must_13 : decode cX9_must 13 = .ok (.aload_n 0, 1) := by decide +kernel
theorem dX9_must_14 : decode cX9_must 14 = .ok (.invokevirtual 377, 3) := by decide +kernel
theorem dX9_must_17 : decode cX9_must 17 = .ok (.return_, 1) := by decide +kernel
theorem dX9_numberHere_0 : decode cX9_numberHere 0 = .ok (.aload_n 0, 1) := by decide +kernel
theorem dX9_numberHere_1 : decode cX9_numberHere 1 = .ok (.getfield 350, 3) := by decide +kernel
theorem dX9_numberHere_4 : decode cX9_numberHere 4 = .ok (.ifCond .ne 16, 3) := by decide +kernel
theorem dX9_numberHere_7 : decode cX9_numberHere 7 = .ok (.aload_n 0, 1) := by decide +kernel
theorem dX9_numberHere_8 : decode cX9_numberHere 8 = .ok (.getfield 338, 3) := by decide +kernel
theorem dX9_numberHere_11 : decode cX9_numberHere 11 = .ok (.iconst 2, 1) := by decide +kernel
theorem dX9_numberHere_12 : decode cX9_numberHere 12 = .ok (.if_icmp .eq 8, 3) := by decide +kernel
theorem dX9_numberHere_15 : decode cX9_numberHere 15 = .ok (.aload_n 0, 1) := by decide +kernel
theorem dX9_numberHere_16 : decode cX9_numberHere 16 = .ok (.iconst 1, 1) := by decide +kernel
theorem dX9_numberHere_17 : decode cX9_numberHere 17 = .ok (.invokevirtual 374, 3) := by decide +kernel
theorem dX9_numberHere_20 : decode cX9_numberHere 20 = .ok (.iconst 0, 1) := by decide +kernel
theorem dX9_numberHere_21 : decode cX9_numberHere 21 = .ok (.istore_n 3, 1) := by decide +kernel
theorem dX9_numberHere_22 : decode cX9_numberHere 22 = .ok (.aload_n 0, 1) := by decide +kernel
theorem dX9_numberHere_23 : decode cX9_numberHere 23 = .ok (.getfield 336, 3) := by decide +kernel
theorem dX9_numberHere_26 : decode cX9_numberHere 26 = .ok (.istore 4, 2) := by decide +kernel
theorem dX9_numberHere_28 : decode cX9_numberHere 28 = .ok (.aload_n 0, 1) := by decide +kernel
theorem dX9_numberHere_29 : decode cX9_numberHere 29 = .ok (.getfield 350, 3) := by decide +kernel
theorem dX9_numberHere_32 : decode cX9_numberHere 32 = .ok (.ifCond .ne 40, 3) := by decide +kernel
theorem dX9_numberHere_35 : decode cX9_numberHere 35 = .ok (.iload 4, 2) := by decide +kernel
theorem dX9_numberHere_37 : decode cX9_numberHere 37 = .ok (.aload_n 0, 1) := by decide +kernel
theorem dX9_numberHere_38 : decode cX9_numberHere 38 = .ok (.getfield 347, 3) := by decide +kernel
theorem dX9_numberHere_41 : decode cX9_numberHere 41 = .ok (.if_icmp .ge 31, 3) := by decide +kernel
theorem dX9_numberHere_44 : decode cX9_numberHere 44 = .ok (.ldc_w 380, 3) := by decide +kernel
theorem dX9_numberHere_47 : decode cX9_numberHere 47 = .ok (.bipush 10, 2) := by decide +kernel
theorem dX9_numberHere_49 : decode cX9_numberHere 49 = .ok (.iload_n 3, 1) := by decide +kernel
theorem dX9_numberHere_50 : decode cX9_numberHere 50 = .ok (.imul, 1) := by decide +kernel
theorem dX9_numberHere_51 : decode cX9_numberHere 51 = .ok (.aload_n 0, 1) := by decide +kernel
theorem dX9_numberHere_52 : decode cX9_numberHere 52 = .ok (.getfield 62, 3) := by decide +kernel
theorem dX9_numberHere_55 : decode cX9_numberHere 55 = .ok (.iload 4, 2) := by decide +kernel
theorem dX9_numberHere_57 : decode cX9_numberHere 57 = .ok (.iaload, 1) := by decide +kernel
theorem dX9_numberHere_58 : decode cX9_numberHere 58 = .ok (.iadd, 1) := by decide +kernel
theorem dX9_numberHere_59 : decode cX9_numberHere 59 = .ok (.bipush 48, 2) := by decide +kernel
theorem dX9_numberHere_61 : decode cX9_numberHere 61 = .ok (.isub, 1) := by decide +kernel
theorem dX9_numberHere_62 : decode cX9_numberHere 62 = .ok (.invokestatic 381, 3) := by decide +kernel
theorem dX9_numberHere_65 : decode cX9_numberHere 65 = .ok (.istore_n 3, 1) := by decide +kernel
theorem dX9_numberHere_66 : decode cX9_numberHere 66 = .ok (.iinc 4 1, 3) := by decide +kernel
theorem dX9_numberHere_69 : decode cX9_numberHere 69 = .ok (.goto (-41), 3) := by decide +kernel
theorem dX9_numberHere_72 : decode cX9_numberHere 72 = .ok (.aload_n 0, 1) := by decide +kernel
theorem dX9_numberHere_73 : decode cX9_numberHere 73 = .ok (.getfield 350, 3) := by decide +kernel
theorem dX9_numberHere_76 : decode cX9_numberHere 76 = .ok (.ifCond .ne 17, 3) := by decide +kernel
theorem dX9_numberHere_79 : decode cX9_numberHere 79 = .ok (.iload_n 3, 1) := by decide +kernel
theorem dX9_numberHere_80 : decode cX9_numberHere 80 = .ok (.iload_n 1, 1) := by decide +kernel
theorem dX9_numberHere_81 : decode cX9_numberHere 81 = .ok (.iload_n 2, 1) := by decide +kernel
theorem dX9_numberHere_82 : decode cX9_numberHere 82 = .ok (.invokestatic 80, 3) := by decide +kernel
theorem dX9_numberHere_85 : decode cX9_numberHere 85 = .ok (.ifCond .ne 8, 3) := by decide +kernel
theorem dX9_numberHere_88 : decode cX9_numberHere 88 = .ok (.aload_n 0, 1) := by decide +kernel
theorem dX9_numberHere_89 : decode cX9_numberHere 89 = .ok (.iconst 2, 1) := by decide +kernel
theorem dX9_numberHere_90 : decode cX9_numberHere 90 = .ok (.invokevirtual 374, 3) := by decide +kernel
theorem dX9_numberHere_93 : decode cX9_numberHere 93 = .ok (.iload_n 3, 1) := by decide +kernel
theorem dX9_numberHere_94 : decode cX9_numberHere 94 = .ok (.ireturn, 1) := by decide +kernel
theorem dX9_number_0 : decode cX9_number 0 = .ok (.aload_n 0, 1) := by decide +kernel
theorem dX9_number_1 : decode cX9_number 1 = .ok (.iload_n 1, 1) := by decide +kernel
theorem dX9_number_2 : decode cX9_number 2 = .ok (.iload_n 2, 1) := by decide +kernel
theorem dX9_number_3 : decode cX9_number 3 = .ok (.invokevirtual 384, 3) := by decide +kernel
theorem dX9_number_6 : decode cX9_number 6 = .ok (.istore_n 3, 1) := by decide +kernel
theorem dX9_number_7 : decode cX9_number 7 = .ok (.aload_n 0, 1) := by decide +kernel
theorem dX9_number_8 : decode cX9_number 8 = .ok (.invokevirtual 377, 3) := by decide +kernel
theorem dX9_number_11 : decode cX9_number 11 = .ok (.iload_n 3, 1) := by decide +kernel
theorem dX9_number_12 : decode cX9_number 12 = .ok (.ireturn, 1) := by decide +kernel
theorem dX9_ends_0 : decode cX9_ends 0 = .ok (.aload_n 0, 1) := by decide +kernel
theorem dX9_ends_1 : decode cX9_ends 1 = .ok (.iconst 0, 1) := by decide +kernel
theorem dX9_ends_2 : decode cX9_ends 2 = .ok (.putfield 237, 3) := by decide +kernel
theorem dX9_ends_5 : decode cX9_ends 5 = .ok (.aload_n 0, 1) := by decide +kernel
theorem dX9_ends_6 : decode cX9_ends 6 = .ok (.aload_n 0, 1) := by decide +kernel
theorem dX9_ends_7 : decode cX9_ends 7 = .ok (.getfield 350, 3) := by decide +kernel
theorem dX9_ends_10 : decode cX9_ends 10 = .ok (.ifCond .ne 7, 3) := by decide +kernel
theorem dX9_ends_13 : decode cX9_ends 13 = .ok (.iconst (-1), 1) := by decide +kernel
theorem dX9_ends_14 : decode cX9_ends 14 = .ok (.goto 7, 3) := by decide +kernel
theorem dX9_ends_17 : decode cX9_ends 17 = .ok (.aload_n 0, 1) := by decide +kernel
theorem dX9_ends_18 : decode cX9_ends 18 = .ok (.getfield 359, 3) := by decide +kernel
theorem dX9_ends_21 : decode cX9_ends 21 = .ok (.putfield 65, 3) := by decide +kernel
theorem dX9_ends_24 : decode cX9_ends 24 = .ok (.aload_n 0, 1) := by decide +kernel
theorem dX9_ends_25 : decode cX9_ends 25 = .ok (.getfield 350, 3) := by decide +kernel
theorem dX9_ends_28 : decode cX9_ends 28 = .ok (.ireturn, 1) := by decide +kernel
theorem dX9_readRace_0 : decode cX9_readRace 0 = .ok (.aload_n 0, 1) := by decide +kernel
theorem dX9_readRace_1 : decode cX9_readRace 1 = .ok (.getfield 13, 3) := by decide +kernel
theorem dX9_readRace_4 : decode cX9_readRace 4 = .ok (.iconst 0, 1) := by decide +kernel
theorem dX9_readRace_5 : decode cX9_readRace 5 = .ok (.iaload, 1) := by decide +kernel
theorem dX9_readRace_6 : decode cX9_readRace 6 = .ok (.iconst 3, 1) := by decide +kernel
theorem dX9_readRace_7 : decode cX9_readRace 7 = .ok (.if_icmp .ne 8, 3) := by decide +kernel
theorem dX9_readRace_10 : decode cX9_readRace 10 = .ok (.aload_n 0, 1) := by decide +kernel
theorem dX9_readRace_11 : decode cX9_readRace 11 = .ok (.iconst 3, 1) := by decide +kernel
theorem dX9_readRace_12 : decode cX9_readRace 12 = .ok (.invokevirtual 374, 3) := by decide +kernel
theorem dX9_readRace_15 : decode cX9_readRace 15 = .ok (.aload_n 0, 1) := by decide +kernel
theorem dX9_readRace_16 : decode cX9_readRace 16 = .ok (.invokevirtual 377, 3) := by decide +kernel
theorem dX9_readRace_19 : decode cX9_readRace 19 = .ok (.aload_n 0, 1) := by decide +kernel
theorem dX9_readRace_20 : decode cX9_readRace 20 = .ok (.iconst 2, 1) := by decide +kernel
theorem dX9_readRace_21 : decode cX9_readRace 21 = .ok (.iconst 4, 1) := by decide +kernel
theorem dX9_readRace_22 : decode cX9_readRace 22 = .ok (.invokevirtual 387, 3) := by decide +kernel
theorem dX9_readRace_25 : decode cX9_readRace 25 = .ok (.istore_n 1, 1) := by decide +kernel
theorem dX9_readRace_26 : decode cX9_readRace 26 = .ok (.aload_n 0, 1) := by decide +kernel
theorem dX9_readRace_27 : decode cX9_readRace 27 = .ok (.invokevirtual 390, 3) := by decide +kernel
theorem dX9_readRace_30 : decode cX9_readRace 30 = .ok (.istore_n 2, 1) := by decide +kernel
theorem dX9_readRace_31 : decode cX9_readRace 31 = .ok (.aload_n 0, 1) := by decide +kernel
theorem dX9_readRace_32 : decode cX9_readRace 32 = .ok (.bipush 59, 2) := by decide +kernel
theorem dX9_readRace_34 : decode cX9_readRace 34 = .ok (.invokevirtual 393, 3) := by decide +kernel
theorem dX9_readRace_37 : decode cX9_readRace 37 = .ok (.aload_n 0, 1) := by decide +kernel
theorem dX9_readRace_38 : decode cX9_readRace 38 = .ok (.getfield 350, 3) := by decide +kernel
theorem dX9_readRace_41 : decode cX9_readRace 41 = .ok (.ifCond .eq 4, 3) := by decide +kernel
theorem dX9_readRace_44 : decode cX9_readRace 44 = .ok (.return_, 1) := by decide +kernel
theorem dX9_readRace_45 : decode cX9_readRace 45 = .ok (.aload_n 0, 1) := by decide +kernel
theorem dX9_readRace_46 : decode cX9_readRace 46 = .ok (.getfield 13, 3) := by decide +kernel
theorem dX9_readRace_49 : decode cX9_readRace 49 = .ok (.bipush 8, 2) := by decide +kernel
theorem dX9_readRace_51 : decode cX9_readRace 51 = .ok (.iconst 2, 1) := by decide +kernel
theorem dX9_readRace_52 : decode cX9_readRace 52 = .ok (.aload_n 0, 1) := by decide +kernel
theorem dX9_readRace_53 : decode cX9_readRace 53 = .ok (.getfield 13, 3) := by decide +kernel
theorem dX9_readRace_56 : decode cX9_readRace 56 = .ok (.iconst 0, 1) := by decide +kernel
theorem dX9_readRace_57 : decode cX9_readRace 57 = .ok (.iaload, 1) := by decide +kernel
theorem dX9_readRace_58 : decode cX9_readRace 58 = .ok (.imul, 1) := by decide +kernel
theorem dX9_readRace_59 : decode cX9_readRace 59 = .ok (.iadd, 1) := by decide +kernel
theorem dX9_readRace_60 : decode cX9_readRace 60 = .ok (.iload_n 1, 1) := by decide +kernel
theorem dX9_readRace_61 : decode cX9_readRace 61 = .ok (.iastore, 1) := by decide +kernel
theorem dX9_readRace_62 : decode cX9_readRace 62 = .ok (.aload_n 0, 1) := by decide +kernel
theorem dX9_readRace_63 : decode cX9_readRace 63 = .ok (.getfield 13, 3) := by decide +kernel
theorem dX9_readRace_66 : decode cX9_readRace 66 = .ok (.bipush 8, 2) := by decide +kernel
theorem dX9_readRace_68 : decode cX9_readRace 68 = .ok (.iconst 2, 1) := by decide +kernel
theorem dX9_readRace_69 : decode cX9_readRace 69 = .ok (.aload_n 0, 1) := by decide +kernel
theorem dX9_readRace_70 : decode cX9_readRace 70 = .ok (.getfield 13, 3) := by decide +kernel
theorem dX9_readRace_73 : decode cX9_readRace 73 = .ok (.iconst 0, 1) := by decide +kernel
theorem dX9_readRace_74 : decode cX9_readRace 74 = .ok (.iaload, 1) := by decide +kernel
theorem dX9_readRace_75 : decode cX9_readRace 75 = .ok (.imul, 1) := by decide +kernel
theorem dX9_readRace_76 : decode cX9_readRace 76 = .ok (.iadd, 1) := by decide +kernel
theorem dX9_readRace_77 : decode cX9_readRace 77 = .ok (.iconst 1, 1) := by decide +kernel
theorem dX9_readRace_78 : decode cX9_readRace 78 = .ok (.iadd, 1) := by decide +kernel
theorem dX9_readRace_79 : decode cX9_readRace 79 = .ok (.iload_n 2, 1) := by decide +kernel
theorem dX9_readRace_80 : decode cX9_readRace 80 = .ok (.iastore, 1) := by decide +kernel
theorem dX9_readRace_81 : decode cX9_readRace 81 = .ok (.aload_n 0, 1) := by decide +kernel
theorem dX9_readRace_82 : decode cX9_readRace 82 = .ok (.getfield 13, 3) := by decide +kernel
theorem dX9_readRace_85 : decode cX9_readRace 85 = .ok (.iconst 0, 1) := by decide +kernel
theorem dX9_readRace_86 : decode cX9_readRace 86 = .ok (.dup2, 1) := by decide +kernel
theorem dX9_readRace_87 : decode cX9_readRace 87 = .ok (.iaload, 1) := by decide +kernel
theorem dX9_readRace_88 : decode cX9_readRace 88 = .ok (.iconst 1, 1) := by decide +kernel
theorem dX9_readRace_89 : decode cX9_readRace 89 = .ok (.iadd, 1) := by decide +kernel
theorem dX9_readRace_90 : decode cX9_readRace 90 = .ok (.iastore, 1) := by decide +kernel
theorem dX9_readRace_91 : decode cX9_readRace 91 = .ok (.return_, 1) := by decide +kernel
theorem dX9_readWay_0 : decode cX9_readWay 0 = .ok (.aload_n 0, 1) := by decide +kernel
theorem dX9_readWay_1 : decode cX9_readWay 1 = .ok (.ldc_w 396, 3) := by decide +kernel
theorem dX9_readWay_4 : decode cX9_readWay 4 = .ok (.invokevirtual 398, 3) := by decide +kernel
theorem dX9_readWay_7 : decode cX9_readWay 7 = .ok (.ifCond .eq 7, 3) := by decide +kernel
theorem dX9_readWay_10 : decode cX9_readWay 10 = .ok (.iconst 1, 1) := by decide +kernel
theorem dX9_readWay_11 : decode cX9_readWay 11 = .ok (.goto 4, 3) := by decide +kernel
theorem dX9_readWay_14 : decode cX9_readWay 14 = .ok (.iconst 0, 1) := by decide +kernel
theorem dX9_readWay_15 : decode cX9_readWay 15 = .ok (.istore_n 1, 1) := by decide +kernel
theorem dX9_readWay_16 : decode cX9_readWay 16 = .ok (.iload_n 1, 1) := by decide +kernel
theorem dX9_readWay_17 : decode cX9_readWay 17 = .ok (.ifCond .ne 18, 3) := by decide +kernel
theorem dX9_readWay_20 : decode cX9_readWay 20 = .ok (.aload_n 0, 1) := by decide +kernel
theorem dX9_readWay_21 : decode cX9_readWay 21 = .ok (.ldc_w 402, 3) := by decide +kernel
theorem dX9_readWay_24 : decode cX9_readWay 24 = .ok (.invokevirtual 398, 3) := by decide +kernel
theorem dX9_readWay_27 : decode cX9_readWay 27 = .ok (.ifCond .ne 8, 3) := by decide +kernel
theorem dX9_readWay_30 : decode cX9_readWay 30 = .ok (.aload_n 0, 1) := by decide +kernel
theorem dX9_readWay_31 : decode cX9_readWay 31 = .ok (.iconst 1, 1) := by decide +kernel
theorem dX9_readWay_32 : decode cX9_readWay 32 = .ok (.invokevirtual 374, 3) := by decide +kernel
theorem dX9_readWay_35 : decode cX9_readWay 35 = .ok (.aload_n 0, 1) := by decide +kernel
theorem dX9_readWay_36 : decode cX9_readWay 36 = .ok (.invokevirtual 377, 3) := by decide +kernel
theorem dX9_readWay_39 : decode cX9_readWay 39 = .ok (.iload_n 1, 1) := by decide +kernel
theorem dX9_readWay_40 : decode cX9_readWay 40 = .ok (.ireturn, 1) := by decide +kernel
theorem dX9_choice_0 : decode cX9_choice 0 = .ok (.aload_n 0, 1) := by decide +kernel
theorem dX9_choice_1 : decode cX9_choice 1 = .ok (.ldc_w 404, 3) := by decide +kernel
theorem dX9_choice_4 : decode cX9_choice 4 = .ok (.invokevirtual 398, 3) := by decide +kernel
theorem dX9_choice_7 : decode cX9_choice 7 = .ok (.ifCond .eq 7, 3) := by decide +kernel
theorem dX9_choice_10 : decode cX9_choice 10 = .ok (.iconst (-1), 1) := by decide +kernel
theorem dX9_choice_11 : decode cX9_choice 11 = .ok (.goto 5, 3) := by decide +kernel
theorem dX9_choice_14 : decode cX9_choice 14 = .ok (.bipush (-2), 2) := by decide +kernel
theorem dX9_choice_16 : decode cX9_choice 16 = .ok (.istore_n 2, 1) := by decide +kernel
theorem dX9_choice_17 : decode cX9_choice 17 = .ok (.aload_n 0, 1) := by decide +kernel
theorem dX9_choice_18 : decode cX9_choice 18 = .ok (.ldc_w 404, 3) := by decide +kernel
theorem dX9_choice_21 : decode cX9_choice 21 = .ok (.invokevirtual 398, 3) := by decide +kernel
theorem dX9_choice_24 : decode cX9_choice 24 = .ok (.ifCond .ne 13, 3) := by decide +kernel
theorem dX9_choice_27 : decode cX9_choice 27 = .ok (.aload_n 0, 1) := by decide +kernel
theorem dX9_choice_28 : decode cX9_choice 28 = .ok (.ldc_w 406, 3) := by decide +kernel
theorem dX9_choice_31 : decode cX9_choice 31 = .ok (.invokevirtual 398, 3) := by decide +kernel
theorem dX9_choice_34 : decode cX9_choice 34 = .ok (.ifCond .eq 9, 3) := by decide +kernel
theorem dX9_choice_37 : decode cX9_choice 37 = .ok (.aload_n 0, 1) := by decide +kernel
theorem dX9_choice_38 : decode cX9_choice 38 = .ok (.invokevirtual 377, 3) := by decide +kernel
theorem dX9_choice_41 : decode cX9_choice 41 = .ok (.iload_n 2, 1) := by decide +kernel
theorem dX9_choice_42 : decode cX9_choice 42 = .ok (.ireturn, 1) := by decide +kernel
theorem dX9_choice_43 : decode cX9_choice 43 = .ok (.aload_n 0, 1) := by decide +kernel
theorem dX9_choice_44 : decode cX9_choice 44 = .ok (.iconst 0, 1) := by decide +kernel
theorem dX9_choice_45 : decode cX9_choice 45 = .ok (.aload_n 0, 1) := by decide +kernel
theorem dX9_choice_46 : decode cX9_choice 46 = .ok (.getfield 13, 3) := by decide +kernel
theorem dX9_choice_49 : decode cX9_choice 49 = .ok (.bipush 8, 2) := by decide +kernel
theorem dX9_choice_51 : decode cX9_choice 51 = .ok (.iconst 2, 1) := by decide +kernel
theorem dX9_choice_52 : decode cX9_choice 52 = .ok (.iload_n 1, 1) := by decide +kernel
theorem dX9_choice_53 : decode cX9_choice 53 = .ok (.imul, 1) := by decide +kernel
theorem dX9_choice_54 : decode cX9_choice 54 = .ok (.iadd, 1) := by decide +kernel
theorem dX9_choice_55 : decode cX9_choice 55 = .ok (.iaload, 1) := by decide +kernel
theorem dX9_choice_56 : decode cX9_choice 56 = .ok (.iconst 1, 1) := by decide +kernel
theorem dX9_choice_57 : decode cX9_choice 57 = .ok (.isub, 1) := by decide +kernel
theorem dX9_choice_58 : decode cX9_choice 58 = .ok (.invokevirtual 387, 3) := by decide +kernel
theorem dX9_choice_61 : decode cX9_choice 61 = .ok (.ireturn, 1) := by decide +kernel
theorem dX9_readBallots_0 : decode cX9_readBallots 0 = .ok (.aload_n 0, 1) := by decide +kernel
theorem dX9_readBallots_1 : decode cX9_readBallots 1 = .ok (.invokevirtual 377, 3) := by decide +kernel
theorem dX9_readBallots_4 : decode cX9_readBallots 4 = .ok (.aload_n 0, 1) := by decide +kernel
theorem dX9_readBallots_5 : decode cX9_readBallots 5 = .ok (.iconst 1, 1) := by decide +kernel
theorem dX9_readBallots_6 : decode cX9_readBallots 6 = .ok (.bipush 99, 2) := by decide +kernel
theorem dX9_readBallots_8 : decode cX9_readBallots 8 = .ok (.invokevirtual 384, 3) := by decide +kernel
theorem dX9_readBallots_11 : decode cX9_readBallots 11 = .ok (.istore_n 1, 1) := by decide +kernel
theorem dX9_readBallots_12 : decode cX9_readBallots 12 = .ok (.aload_n 0, 1) := by decide +kernel
theorem dX9_readBallots_13 : decode cX9_readBallots 13 = .ok (.getfield 350, 3) := by decide +kernel
theorem dX9_readBallots_16 : decode cX9_readBallots 16 = .ok (.ifCond .ne 22, 3) := by decide +kernel
theorem dX9_readBallots_19 : decode cX9_readBallots 19 = .ok (.aload_n 0, 1) := by decide +kernel
theorem dX9_readBallots_20 : decode cX9_readBallots 20 = .ok (.getfield 13, 3) := by decide +kernel
theorem dX9_readBallots_23 : decode cX9_readBallots 23 = .ok (.iconst 1, 1) := by decide +kernel
theorem dX9_readBallots_24 : decode cX9_readBallots 24 = .ok (.iaload, 1) := by decide +kernel
theorem dX9_readBallots_25 : decode cX9_readBallots 25 = .ok (.iload_n 1, 1) := by decide +kernel
theorem dX9_readBallots_26 : decode cX9_readBallots 26 = .ok (.iadd, 1) := by decide +kernel
theorem dX9_readBallots_27 : decode cX9_readBallots 27 = .ok (.sipush 200, 3) := by decide +kernel
theorem dX9_readBallots_30 : decode cX9_readBallots 30 = .ok (.if_icmp .le 8, 3) := by decide +kernel
theorem dX9_readBallots_33 : decode cX9_readBallots 33 = .ok (.aload_n 0, 1) := by decide +kernel
theorem dX9_readBallots_34 : decode cX9_readBallots 34 = .ok (.iconst 3, 1) := by decide +kernel
theorem dX9_readBallots_35 : decode cX9_readBallots 35 = .ok (.invokevirtual 374, 3) := by decide +kernel
theorem dX9_readBallots_38 : decode cX9_readBallots 38 = .ok (.aload_n 0, 1) := by decide +kernel
theorem dX9_readBallots_39 : decode cX9_readBallots 39 = .ok (.invokevirtual 377, 3) := by decide +kernel
theorem dX9_readBallots_42 : decode cX9_readBallots 42 = .ok (.iconst 0, 1) := by decide +kernel
theorem dX9_readBallots_43 : decode cX9_readBallots 43 = .ok (.istore_n 2, 1) := by decide +kernel
theorem dX9_readBallots_44 : decode cX9_readBallots 44 = .ok (.iload_n 2, 1) := by decide +kernel
theorem dX9_readBallots_45 : decode cX9_readBallots 45 = .ok (.aload_n 0, 1) := by decide +kernel
theorem dX9_readBallots_46 : decode cX9_readBallots 46 = .ok (.getfield 13, 3) := by decide +kernel
theorem dX9_readBallots_49 : decode cX9_readBallots 49 = .ok (.iconst 0, 1) := by decide +kernel
theorem dX9_readBallots_50 : decode cX9_readBallots 50 = .ok (.iaload, 1) := by decide +kernel
theorem dX9_readBallots_51 : decode cX9_readBallots 51 = .ok (.if_icmp .ge 78, 3) := by decide +kernel
theorem dX9_readBallots_54 : decode cX9_readBallots 54 = .ok (.aload_n 0, 1) := by decide +kernel
theorem dX9_readBallots_55 : decode cX9_readBallots 55 = .ok (.iload_n 2, 1) := by decide +kernel
theorem dX9_readBallots_56 : decode cX9_readBallots 56 = .ok (.invokevirtual 408, 3) := by decide +kernel
theorem dX9_readBallots_59 : decode cX9_readBallots 59 = .ok (.istore_n 3, 1) := by decide +kernel
theorem dX9_readBallots_60 : decode cX9_readBallots 60 = .ok (.aload_n 0, 1) := by decide +kernel
theorem dX9_readBallots_61 : decode cX9_readBallots 61 = .ok (.getfield 13, 3) := by decide +kernel
theorem dX9_readBallots_64 : decode cX9_readBallots 64 = .ok (.iconst 1, 1) := by decide +kernel
theorem dX9_readBallots_65 : decode cX9_readBallots 65 = .ok (.iaload, 1) := by decide +kernel
theorem dX9_readBallots_66 : decode cX9_readBallots 66 = .ok (.istore 4, 2) := by decide +kernel
theorem dX9_readBallots_68 : decode cX9_readBallots 68 = .ok (.iload 4, 2) := by decide +kernel
theorem dX9_readBallots_70 : decode cX9_readBallots 70 = .ok (.aload_n 0, 1) := by decide +kernel
theorem dX9_readBallots_71 : decode cX9_readBallots 71 = .ok (.getfield 13, 3) := by decide +kernel
theorem dX9_readBallots_74 : decode cX9_readBallots 74 = .ok (.iconst 1, 1) := by decide +kernel
theorem dX9_readBallots_75 : decode cX9_readBallots 75 = .ok (.iaload, 1) := by decide +kernel
theorem dX9_readBallots_76 : decode cX9_readBallots 76 = .ok (.iload_n 1, 1) := by decide +kernel
theorem dX9_readBallots_77 : decode cX9_readBallots 77 = .ok (.iadd, 1) := by decide +kernel
theorem dX9_readBallots_78 : decode cX9_readBallots 78 = .ok (.if_icmp .ge 45, 3) := by decide +kernel
theorem dX9_readBallots_81 : decode cX9_readBallots 81 = .ok (.aload_n 0, 1) := by decide +kernel
theorem dX9_readBallots_82 : decode cX9_readBallots 82 = .ok (.getfield 350, 3) := by decide +kernel
theorem dX9_readBallots_85 : decode cX9_readBallots 85 = .ok (.ifCond .ne 38, 3) := by decide +kernel
theorem dX9_readBallots_88 : decode cX9_readBallots 88 = .ok (.aload_n 0, 1) := by decide +kernel
theorem dX9_readBallots_89 : decode cX9_readBallots 89 = .ok (.getfield 13, 3) := by decide +kernel
theorem dX9_readBallots_92 : decode cX9_readBallots 92 = .ok (.bipush 14, 2) := by decide +kernel
theorem dX9_readBallots_94 : decode cX9_readBallots 94 = .ok (.iload 4, 2) := by decide +kernel
theorem dX9_readBallots_96 : decode cX9_readBallots 96 = .ok (.iload_n 2, 1) := by decide +kernel
theorem dX9_readBallots_97 : decode cX9_readBallots 97 = .ok (.invokestatic 91, 3) := by decide +kernel
theorem dX9_readBallots_100 : decode cX9_readBallots 100 = .ok (.iload_n 3, 1) := by decide +kernel
theorem dX9_readBallots_101 : decode cX9_readBallots 101 = .ok (.iastore, 1) := by decide +kernel
theorem dX9_readBallots_102 : decode cX9_readBallots 102 = .ok (.aload_n 0, 1) := by decide +kernel
theorem dX9_readBallots_103 : decode cX9_readBallots 103 = .ok (.getfield 13, 3) := by decide +kernel
theorem dX9_readBallots_106 : decode cX9_readBallots 106 = .ok (.sipush 614, 3) := by decide +kernel
theorem dX9_readBallots_109 : decode cX9_readBallots 109 = .ok (.iload 4, 2) := by decide +kernel
theorem dX9_readBallots_111 : decode cX9_readBallots 111 = .ok (.iload_n 2, 1) := by decide +kernel
theorem dX9_readBallots_112 : decode cX9_readBallots 112 = .ok (.invokestatic 91, 3) := by decide +kernel
theorem dX9_readBallots_115 : decode cX9_readBallots 115 = .ok (.iload_n 3, 1) := by decide +kernel
theorem dX9_readBallots_116 : decode cX9_readBallots 116 = .ok (.iastore, 1) := by decide +kernel
theorem dX9_readBallots_117 : decode cX9_readBallots 117 = .ok (.iinc 4 1, 3) := by decide +kernel
theorem dX9_readBallots_120 : decode cX9_readBallots 120 = .ok (.goto (-52), 3) := by decide +kernel
theorem dX9_readBallots_123 : decode cX9_readBallots 123 = .ok (.iinc 2 1, 3) := by decide +kernel
theorem dX9_readBallots_126 : decode cX9_readBallots 126 = .ok (.goto (-82), 3) := by decide +kernel
theorem dX9_readBallots_129 : decode cX9_readBallots 129 = .ok (.aload_n 0, 1) := by decide +kernel
theorem dX9_readBallots_130 : decode cX9_readBallots 130 = .ok (.bipush 59, 2) := by decide +kernel
theorem dX9_readBallots_132 : decode cX9_readBallots 132 = .ok (.invokevirtual 393, 3) := by decide +kernel
theorem dX9_readBallots_135 : decode cX9_readBallots 135 = .ok (.aload_n 0, 1) := by decide +kernel
theorem dX9_readBallots_136 : decode cX9_readBallots 136 = .ok (.getfield 13, 3) := by decide +kernel
theorem dX9_readBallots_139 : decode cX9_readBallots 139 = .ok (.iconst 1, 1) := by decide +kernel
theorem dX9_readBallots_140 : decode cX9_readBallots 140 = .ok (.dup2, 1) := by decide +kernel
theorem dX9_readBallots_141 : decode cX9_readBallots 141 = .ok (.iaload, 1) := by decide +kernel
theorem dX9_readBallots_142 : decode cX9_readBallots 142 = .ok (.aload_n 0, 1) := by decide +kernel
theorem dX9_readBallots_143 : decode cX9_readBallots 143 = .ok (.getfield 350, 3) := by decide +kernel
theorem dX9_readBallots_146 : decode cX9_readBallots 146 = .ok (.ifCond .ne 7, 3) := by decide +kernel
theorem dX9_readBallots_149 : decode cX9_readBallots 149 = .ok (.iload_n 1, 1) := by decide +kernel
theorem dX9_readBallots_150 : decode cX9_readBallots 150 = .ok (.goto 4, 3) := by decide +kernel
theorem dX9_readBallots_153 : decode cX9_readBallots 153 = .ok (.iconst 0, 1) := by decide +kernel
theorem dX9_readBallots_154 : decode cX9_readBallots 154 = .ok (.iadd, 1) := by decide +kernel
theorem dX9_readBallots_155 : decode cX9_readBallots 155 = .ok (.iastore, 1) := by decide +kernel
theorem dX9_readBallots_156 : decode cX9_readBallots 156 = .ok (.return_, 1) := by decide +kernel
theorem dX9_readPaper_0 : decode cX9_readPaper 0 = .ok (.aload_n 0, 1) := by decide +kernel
theorem dX9_readPaper_1 : decode cX9_readPaper 1 = .ok (.invokevirtual 377, 3) := by decide +kernel
theorem dX9_readPaper_4 : decode cX9_readPaper 4 = .ok (.aload_n 0, 1) := by decide +kernel
theorem dX9_readPaper_5 : decode cX9_readPaper 5 = .ok (.iconst 0, 1) := by decide +kernel
theorem dX9_readPaper_6 : decode cX9_readPaper 6 = .ok (.aload_n 0, 1) := by decide +kernel
theorem dX9_readPaper_7 : decode cX9_readPaper 7 = .ok (.getfield 13, 3) := by decide +kernel
theorem dX9_readPaper_10 : decode cX9_readPaper 10 = .ok (.iconst 1, 1) := by decide +kernel
theorem dX9_readPaper_11 : decode cX9_readPaper 11 = .ok (.iaload, 1) := by decide +kernel
theorem dX9_readPaper_12 : decode cX9_readPaper 12 = .ok (.iconst 1, 1) := by decide +kernel
theorem dX9_readPaper_13 : decode cX9_readPaper 13 = .ok (.isub, 1) := by decide +kernel
theorem dX9_readPaper_14 : decode cX9_readPaper 14 = .ok (.invokevirtual 387, 3) := by decide +kernel
theorem dX9_readPaper_17 : decode cX9_readPaper 17 = .ok (.istore_n 1, 1) := by decide +kernel
theorem dX9_readPaper_18 : decode cX9_readPaper 18 = .ok (.aload_n 0, 1) := by decide +kernel
theorem dX9_readPaper_19 : decode cX9_readPaper 19 = .ok (.iconst 0, 1) := by decide +kernel
theorem dX9_readPaper_20 : decode cX9_readPaper 20 = .ok (.aload_n 0, 1) := by decide +kernel
theorem dX9_readPaper_21 : decode cX9_readPaper 21 = .ok (.getfield 13, 3) := by decide +kernel
theorem dX9_readPaper_24 : decode cX9_readPaper 24 = .ok (.iconst 0, 1) := by decide +kernel
theorem dX9_readPaper_25 : decode cX9_readPaper 25 = .ok (.iaload, 1) := by decide +kernel
theorem dX9_readPaper_26 : decode cX9_readPaper 26 = .ok (.iconst 1, 1) := by decide +kernel
theorem dX9_readPaper_27 : decode cX9_readPaper 27 = .ok (.isub, 1) := by decide +kernel
theorem dX9_readPaper_28 : decode cX9_readPaper 28 = .ok (.invokevirtual 387, 3) := by decide +kernel
theorem dX9_readPaper_31 : decode cX9_readPaper 31 = .ok (.istore_n 2, 1) := by decide +kernel
theorem dX9_readPaper_32 : decode cX9_readPaper 32 = .ok (.aload_n 0, 1) := by decide +kernel
theorem dX9_readPaper_33 : decode cX9_readPaper 33 = .ok (.getfield 350, 3) := by decide +kernel
theorem dX9_readPaper_36 : decode cX9_readPaper 36 = .ok (.ifCond .ne 11, 3) := by decide +kernel
theorem dX9_readPaper_39 : decode cX9_readPaper 39 = .ok (.aload_n 0, 1) := by decide +kernel
theorem dX9_readPaper_40 : decode cX9_readPaper 40 = .ok (.iload_n 2, 1) := by decide +kernel
theorem dX9_readPaper_41 : decode cX9_readPaper 41 = .ok (.invokevirtual 408, 3) := by decide +kernel
theorem dX9_readPaper_44 : decode cX9_readPaper 44 = .ok (.goto 4, 3) := by decide +kernel
theorem dX9_readPaper_47 : decode cX9_readPaper 47 = .ok (.iconst 0, 1) := by decide +kernel
theorem dX9_readPaper_48 : decode cX9_readPaper 48 = .ok (.istore_n 3, 1) := by decide +kernel
theorem dX9_readPaper_49 : decode cX9_readPaper 49 = .ok (.aload_n 0, 1) := by decide +kernel
theorem dX9_readPaper_50 : decode cX9_readPaper 50 = .ok (.getfield 350, 3) := by decide +kernel
theorem dX9_readPaper_53 : decode cX9_readPaper 53 = .ok (.ifCond .ne 17, 3) := by decide +kernel
theorem dX9_readPaper_56 : decode cX9_readPaper 56 = .ok (.aload_n 0, 1) := by decide +kernel
theorem dX9_readPaper_57 : decode cX9_readPaper 57 = .ok (.getfield 13, 3) := by decide +kernel
theorem dX9_readPaper_60 : decode cX9_readPaper 60 = .ok (.sipush 614, 3) := by decide +kernel
theorem dX9_readPaper_63 : decode cX9_readPaper 63 = .ok (.iload_n 1, 1) := by decide +kernel
theorem dX9_readPaper_64 : decode cX9_readPaper 64 = .ok (.iload_n 2, 1) := by decide +kernel
theorem dX9_readPaper_65 : decode cX9_readPaper 65 = .ok (.invokestatic 91, 3) := by decide +kernel
theorem dX9_readPaper_68 : decode cX9_readPaper 68 = .ok (.iload_n 3, 1) := by decide +kernel
theorem dX9_readPaper_69 : decode cX9_readPaper 69 = .ok (.iastore, 1) := by decide +kernel
theorem dX9_readPaper_70 : decode cX9_readPaper 70 = .ok (.aload_n 0, 1) := by decide +kernel
theorem dX9_readPaper_71 : decode cX9_readPaper 71 = .ok (.bipush 59, 2) := by decide +kernel
theorem dX9_readPaper_73 : decode cX9_readPaper 73 = .ok (.invokevirtual 393, 3) := by decide +kernel
theorem dX9_readPaper_76 : decode cX9_readPaper 76 = .ok (.return_, 1) := by decide +kernel
theorem dX9_readRule_0 : decode cX9_readRule 0 = .ok (.aload_n 0, 1) := by decide +kernel
theorem dX9_readRule_1 : decode cX9_readRule 1 = .ok (.invokevirtual 377, 3) := by decide +kernel
theorem dX9_readRule_4 : decode cX9_readRule 4 = .ok (.aload_n 0, 1) := by decide +kernel
theorem dX9_readRule_5 : decode cX9_readRule 5 = .ok (.getfield 13, 3) := by decide +kernel
theorem dX9_readRule_8 : decode cX9_readRule 8 = .ok (.iload_n 1, 1) := by decide +kernel
theorem dX9_readRule_9 : decode cX9_readRule 9 = .ok (.aload_n 0, 1) := by decide +kernel
theorem dX9_readRule_10 : decode cX9_readRule 10 = .ok (.iload_n 2, 1) := by decide +kernel
theorem dX9_readRule_11 : decode cX9_readRule 11 = .ok (.iload_n 3, 1) := by decide +kernel
theorem dX9_readRule_12 : decode cX9_readRule 12 = .ok (.invokevirtual 387, 3) := by decide +kernel
theorem dX9_readRule_15 : decode cX9_readRule 15 = .ok (.iastore, 1) := by decide +kernel
theorem dX9_readRule_16 : decode cX9_readRule 16 = .ok (.aload_n 0, 1) := by decide +kernel
theorem dX9_readRule_17 : decode cX9_readRule 17 = .ok (.bipush 59, 2) := by decide +kernel
theorem dX9_readRule_19 : decode cX9_readRule 19 = .ok (.invokevirtual 393, 3) := by decide +kernel
theorem dX9_readRule_22 : decode cX9_readRule 22 = .ok (.return_, 1) := by decide +kernel
theorem dX9_readLine_0 : decode cX9_readLine 0 = .ok (.aload_n 0, 1) := by decide +kernel
theorem dX9_readLine_1 : decode cX9_readLine 1 = .ok (.ldc_w 411, 3) := by decide +kernel
theorem dX9_readLine_4 : decode cX9_readLine 4 = .ok (.invokevirtual 398, 3) := by decide +kernel
theorem dX9_readLine_7 : decode cX9_readLine 7 = .ok (.ifCond .eq 10, 3) := by decide +kernel
theorem dX9_readLine_10 : decode cX9_readLine 10 = .ok (.aload_n 0, 1) := by decide +kernel
theorem dX9_readLine_11 : decode cX9_readLine 11 = .ok (.invokevirtual 412, 3) := by decide +kernel
theorem dX9_readLine_14 : decode cX9_readLine 14 = .ok (.goto 114, 3) := by decide +kernel
theorem dX9_readLine_17 : decode cX9_readLine 17 = .ok (.aload_n 0, 1) := by decide +kernel
theorem dX9_readLine_18 : decode cX9_readLine 18 = .ok (.ldc_w 415, 3) := by decide +kernel
theorem dX9_readLine_21 : decode cX9_readLine 21 = .ok (.invokevirtual 398, 3) := by decide +kernel
theorem dX9_readLine_24 : decode cX9_readLine 24 = .ok (.ifCond .eq 10, 3) := by decide +kernel
theorem dX9_readLine_27 : decode cX9_readLine 27 = .ok (.aload_n 0, 1) := by decide +kernel
theorem dX9_readLine_28 : decode cX9_readLine 28 = .ok (.invokevirtual 417, 3) := by decide +kernel
theorem dX9_readLine_31 : decode cX9_readLine 31 = .ok (.goto 97, 3) := by decide +kernel
theorem dX9_readLine_34 : decode cX9_readLine 34 = .ok (.aload_n 0, 1) := by decide +kernel
theorem dX9_readLine_35 : decode cX9_readLine 35 = .ok (.ldc_w 420, 3) := by decide +kernel
theorem dX9_readLine_38 : decode cX9_readLine 38 = .ok (.invokevirtual 398, 3) := by decide +kernel
theorem dX9_readLine_41 : decode cX9_readLine 41 = .ok (.ifCond .eq 15, 3) := by decide +kernel
theorem dX9_readLine_44 : decode cX9_readLine 44 = .ok (.aload_n 0, 1) := by decide +kernel
theorem dX9_readLine_45 : decode cX9_readLine 45 = .ok (.iconst 2, 1) := by decide +kernel
theorem dX9_readLine_46 : decode cX9_readLine 46 = .ok (.iconst 1, 1) := by decide +kernel
theorem dX9_readLine_47 : decode cX9_readLine 47 = .ok (.sipush 500, 3) := by decide +kernel
theorem dX9_readLine_50 : decode cX9_readLine 50 = .ok (.invokevirtual 422, 3) := by decide +kernel
theorem dX9_readLine_53 : decode cX9_readLine 53 = .ok (.goto 75, 3) := by decide +kernel
theorem dX9_readLine_56 : decode cX9_readLine 56 = .ok (.aload_n 0, 1) := by decide +kernel
theorem dX9_readLine_57 : decode cX9_readLine 57 = .ok (.ldc_w 426, 3) := by decide +kernel
theorem dX9_readLine_60 : decode cX9_readLine 60 = .ok (.invokevirtual 398, 3) := by decide +kernel
theorem dX9_readLine_63 : decode cX9_readLine 63 = .ok (.ifCond .eq 16, 3) := by decide +kernel
theorem dX9_readLine_66 : decode cX9_readLine 66 = .ok (.aload_n 0, 1) := by decide +kernel
theorem dX9_readLine_67 : decode cX9_readLine 67 = .ok (.iconst 3, 1) := by decide +kernel
theorem dX9_readLine_68 : decode cX9_readLine 68 = .ok (.bipush 101, 2) := by decide +kernel
theorem dX9_readLine_70 : decode cX9_readLine 70 = .ok (.sipush 300, 3) := by decide +kernel
theorem dX9_readLine_73 : decode cX9_readLine 73 = .ok (.invokevirtual 422, 3) := by decide +kernel
theorem dX9_readLine_76 : decode cX9_readLine 76 = .ok (.goto 52, 3) := by decide +kernel
theorem dX9_readLine_79 : decode cX9_readLine 79 = .ok (.aload_n 0, 1) := by decide +kernel
theorem dX9_readLine_80 : decode cX9_readLine 80 = .ok (.ldc_w 428, 3) := by decide +kernel
theorem dX9_readLine_83 : decode cX9_readLine 83 = .ok (.invokevirtual 398, 3) := by decide +kernel
theorem dX9_readLine_86 : decode cX9_readLine 86 = .ok (.ifCond .eq 15, 3) := by decide +kernel
theorem dX9_readLine_89 : decode cX9_readLine 89 = .ok (.aload_n 0, 1) := by decide +kernel
theorem dX9_readLine_90 : decode cX9_readLine 90 = .ok (.iconst 4, 1) := by decide +kernel
theorem dX9_readLine_91 : decode cX9_readLine 91 = .ok (.iconst 1, 1) := by decide +kernel
theorem dX9_readLine_92 : decode cX9_readLine 92 = .ok (.sipush 300, 3) := by decide +kernel
theorem dX9_readLine_95 : decode cX9_readLine 95 = .ok (.invokevirtual 422, 3) := by decide +kernel
theorem dX9_readLine_98 : decode cX9_readLine 98 = .ok (.goto 30, 3) := by decide +kernel
theorem dX9_readLine_101 : decode cX9_readLine 101 = .ok (.aload_n 0, 1) := by decide +kernel
theorem dX9_readLine_102 : decode cX9_readLine 102 = .ok (.ldc_w 430, 3) := by decide +kernel
theorem dX9_readLine_105 : decode cX9_readLine 105 = .ok (.invokevirtual 398, 3) := by decide +kernel
theorem dX9_readLine_108 : decode cX9_readLine 108 = .ok (.ifCond .eq 15, 3) := by decide +kernel
theorem dX9_readLine_111 : decode cX9_readLine 111 = .ok (.aload_n 0, 1) := by decide +kernel
theorem dX9_readLine_112 : decode cX9_readLine 112 = .ok (.iconst 5, 1) := by decide +kernel
theorem dX9_readLine_113 : decode cX9_readLine 113 = .ok (.iconst 0, 1) := by decide +kernel
theorem dX9_readLine_114 : decode cX9_readLine 114 = .ok (.ldc_w 432, 3) := by decide +kernel
theorem dX9_readLine_117 : decode cX9_readLine 117 = .ok (.invokevirtual 422, 3) := by decide +kernel
theorem dX9_readLine_120 : decode cX9_readLine 120 = .ok (.goto 8, 3) := by decide +kernel
theorem dX9_readLine_123 : decode cX9_readLine 123 = .ok (.aload_n 0, 1) := by decide +kernel
theorem dX9_readLine_124 : decode cX9_readLine 124 = .ok (.iconst 1, 1) := by decide +kernel
theorem dX9_readLine_125 : decode cX9_readLine 125 = .ok (.invokevirtual 374, 3) := by decide +kernel
theorem dX9_readLine_128 : decode cX9_readLine 128 = .ok (.return_, 1) := by decide +kernel
theorem dX9_election_0 : decode cX9_election 0 = .ok (.aload_n 0, 1) := by decide +kernel
theorem dX9_election_1 : decode cX9_election 1 = .ok (.iconst 0, 1) := by decide +kernel
theorem dX9_election_2 : decode cX9_election 2 = .ok (.putfield 73, 3) := by decide +kernel
theorem dX9_election_5 : decode cX9_election 5 = .ok (.iload_n 1, 1) := by decide +kernel
theorem dX9_election_6 : decode cX9_election 6 = .ok (.ifCond .lt 11, 3) := by decide +kernel
theorem dX9_election_9 : decode cX9_election 9 = .ok (.iload_n 1, 1) := by decide +kernel
theorem dX9_election_10 : decode cX9_election 10 = .ok (.aload_n 0, 1) := by decide +kernel
theorem dX9_election_11 : decode cX9_election 11 = .ok (.getfield 237, 3) := by decide +kernel
theorem dX9_election_14 : decode cX9_election 14 = .ok (.if_icmp .le 9, 3) := by decide +kernel
theorem dX9_election_17 : decode cX9_election 17 = .ok (.aload_n 0, 1) := by decide +kernel
theorem dX9_election_18 : decode cX9_election 18 = .ok (.iconst 1, 1) := by decide +kernel
theorem dX9_election_19 : decode cX9_election 19 = .ok (.invokevirtual 210, 3) := by decide +kernel
theorem dX9_election_22 : decode cX9_election 22 = .ok (.ireturn, 1) := by decide +kernel
theorem dX9_election_23 : decode cX9_election 23 = .ok (.aload_n 0, 1) := by decide +kernel
theorem dX9_election_24 : decode cX9_election 24 = .ok (.getfield 13, 3) := by decide +kernel
theorem dX9_election_27 : decode cX9_election 27 = .ok (.invokestatic 69, 3) := by decide +kernel
theorem dX9_election_30 : decode cX9_election 30 = .ok (.aload_n 0, 1) := by decide +kernel
theorem dX9_election_31 : decode cX9_election 31 = .ok (.iload_n 1, 1) := by decide +kernel
theorem dX9_election_32 : decode cX9_election 32 = .ok (.invokevirtual 433, 3) := by decide +kernel
theorem dX9_election_35 : decode cX9_election 35 = .ok (.aload_n 0, 1) := by decide +kernel
theorem dX9_election_36 : decode cX9_election 36 = .ok (.ldc_w 436, 3) := by decide +kernel
theorem dX9_election_39 : decode cX9_election 39 = .ok (.invokevirtual 398, 3) := by decide +kernel
theorem dX9_election_42 : decode cX9_election 42 = .ok (.ifCond .ne 8, 3) := by decide +kernel
theorem dX9_election_45 : decode cX9_election 45 = .ok (.aload_n 0, 1) := by decide +kernel
theorem dX9_election_46 : decode cX9_election 46 = .ok (.iconst 1, 1) := by decide +kernel
theorem dX9_election_47 : decode cX9_election 47 = .ok (.invokevirtual 374, 3) := by decide +kernel
theorem dX9_election_50 : decode cX9_election 50 = .ok (.aload_n 0, 1) := by decide +kernel
theorem dX9_election_51 : decode cX9_election 51 = .ok (.ldc_w 436, 3) := by decide +kernel
theorem dX9_election_54 : decode cX9_election 54 = .ok (.invokevirtual 398, 3) := by decide +kernel
theorem dX9_election_57 : decode cX9_election 57 = .ok (.ifCond .eq 10, 3) := by decide +kernel
theorem dX9_election_60 : decode cX9_election 60 = .ok (.aload_n 0, 1) := by decide +kernel
theorem dX9_election_61 : decode cX9_election 61 = .ok (.invokevirtual 438, 3) := by decide +kernel
theorem dX9_election_64 : decode cX9_election 64 = .ok (.goto (-14), 3) := by decide +kernel
theorem dX9_election_67 : decode cX9_election 67 = .ok (.aload_n 0, 1) := by decide +kernel
theorem dX9_election_68 : decode cX9_election 68 = .ok (.getfield 350, 3) := by decide +kernel
theorem dX9_election_71 : decode cX9_election 71 = .ok (.ifCond .ne 17, 3) := by decide +kernel
theorem dX9_election_74 : decode cX9_election 74 = .ok (.aload_n 0, 1) := by decide +kernel
theorem dX9_election_75 : decode cX9_election 75 = .ok (.getfield 338, 3) := by decide +kernel
theorem dX9_election_78 : decode cX9_election 78 = .ok (.ifCond .eq 10, 3) := by decide +kernel
theorem dX9_election_81 : decode cX9_election 81 = .ok (.aload_n 0, 1) := by decide +kernel
theorem dX9_election_82 : decode cX9_election 82 = .ok (.invokevirtual 441, 3) := by decide +kernel
theorem dX9_election_85 : decode cX9_election 85 = .ok (.goto (-18), 3) := by decide +kernel
theorem dX9_election_88 : decode cX9_election 88 = .ok (.aload_n 0, 1) := by decide +kernel
theorem dX9_election_89 : decode cX9_election 89 = .ok (.invokevirtual 444, 3) := by decide +kernel
theorem dX9_election_92 : decode cX9_election 92 = .ok (.istore_n 2, 1) := by decide +kernel
theorem dX9_election_93 : decode cX9_election 93 = .ok (.iload_n 2, 1) := by decide +kernel
theorem dX9_election_94 : decode cX9_election 94 = .ok (.ifCond .eq 8, 3) := by decide +kernel
theorem dX9_election_97 : decode cX9_election 97 = .ok (.bipush (-10), 2) := by decide +kernel
theorem dX9_election_99 : decode cX9_election 99 = .ok (.iload_n 2, 1) := by decide +kernel
theorem dX9_election_100 : decode cX9_election 100 = .ok (.isub, 1) := by decide +kernel
theorem dX9_election_101 : decode cX9_election 101 = .ok (.ireturn, 1) := by decide +kernel
theorem dX9_election_102 : decode cX9_election 102 = .ok (.aload_n 0, 1) := by decide +kernel
theorem dX9_election_103 : decode cX9_election 103 = .ok (.getfield 9, 3) := by decide +kernel
theorem dX9_election_106 : decode cX9_election 106 = .ok (.aload_n 0, 1) := by decide +kernel
theorem dX9_election_107 : decode cX9_election 107 = .ok (.getfield 13, 3) := by decide +kernel
theorem dX9_election_110 : decode cX9_election 110 = .ok (.invokestatic 278, 3) := by decide +kernel
theorem dX9_election_113 : decode cX9_election 113 = .ok (.aload_n 0, 1) := by decide +kernel
theorem dX9_election_114 : decode cX9_election 114 = .ok (.iconst 0, 1) := by decide +kernel
theorem dX9_election_115 : decode cX9_election 115 = .ok (.putfield 234, 3) := by decide +kernel
theorem dX9_election_118 : decode cX9_election 118 = .ok (.aload_n 0, 1) := by decide +kernel
theorem dX9_election_119 : decode cX9_election 119 = .ok (.invokevirtual 84, 3) := by decide +kernel
theorem dX9_election_122 : decode cX9_election 122 = .ok (.ireturn, 1) := by decide +kernel
theorem dX9_ofRace_0 : decode cX9_ofRace 0 = .ok (.aload_n 0, 1) := by decide +kernel
theorem dX9_ofRace_1 : decode cX9_ofRace 1 = .ok (.invokevirtual 377, 3) := by decide +kernel
theorem dX9_ofRace_4 : decode cX9_ofRace 4 = .ok (.aload_n 0, 1) := by decide +kernel
theorem dX9_ofRace_5 : decode cX9_ofRace 5 = .ok (.iconst 0, 1) := by decide +kernel
theorem dX9_ofRace_6 : decode cX9_ofRace 6 = .ok (.aload_n 0, 1) := by decide +kernel
theorem dX9_ofRace_7 : decode cX9_ofRace 7 = .ok (.invokevirtual 76, 3) := by decide +kernel
theorem dX9_ofRace_10 : decode cX9_ofRace 10 = .ok (.iconst 1, 1) := by decide +kernel
theorem dX9_ofRace_11 : decode cX9_ofRace 11 = .ok (.isub, 1) := by decide +kernel
theorem dX9_ofRace_12 : decode cX9_ofRace 12 = .ok (.invokevirtual 387, 3) := by decide +kernel
theorem dX9_ofRace_15 : decode cX9_ofRace 15 = .ok (.istore_n 2, 1) := by decide +kernel
theorem dX9_ofRace_16 : decode cX9_ofRace 16 = .ok (.aload_n 0, 1) := by decide +kernel
theorem dX9_ofRace_17 : decode cX9_ofRace 17 = .ok (.getfield 350, 3) := by decide +kernel
theorem dX9_ofRace_20 : decode cX9_ofRace 20 = .ok (.ifCond .ne 11, 3) := by decide +kernel
theorem dX9_ofRace_23 : decode cX9_ofRace 23 = .ok (.aload_n 0, 1) := by decide +kernel
theorem dX9_ofRace_24 : decode cX9_ofRace 24 = .ok (.getfield 447, 3) := by decide +kernel
theorem dX9_ofRace_27 : decode cX9_ofRace 27 = .ok (.iconst (-1), 1) := by decide +kernel
theorem dX9_ofRace_28 : decode cX9_ofRace 28 = .ok (.if_icmp .ne 5, 3) := by decide +kernel
theorem dX9_ofRace_31 : decode cX9_ofRace 31 = .ok (.iconst 0, 1) := by decide +kernel
theorem dX9_ofRace_32 : decode cX9_ofRace 32 = .ok (.ireturn, 1) := by decide +kernel
theorem dX9_ofRace_33 : decode cX9_ofRace 33 = .ok (.iload_n 1, 1) := by decide +kernel
theorem dX9_ofRace_34 : decode cX9_ofRace 34 = .ok (.ifCond .ne 15, 3) := by decide +kernel
theorem dX9_ofRace_37 : decode cX9_ofRace 37 = .ok (.aload_n 0, 1) := by decide +kernel
theorem dX9_ofRace_38 : decode cX9_ofRace 38 = .ok (.aload_n 0, 1) := by decide +kernel
theorem dX9_ofRace_39 : decode cX9_ofRace 39 = .ok (.getfield 447, 3) := by decide +kernel
theorem dX9_ofRace_42 : decode cX9_ofRace 42 = .ok (.iload_n 2, 1) := by decide +kernel
theorem dX9_ofRace_43 : decode cX9_ofRace 43 = .ok (.invokevirtual 95, 3) := by decide +kernel
theorem dX9_ofRace_46 : decode cX9_ofRace 46 = .ok (.goto 29, 3) := by decide +kernel
theorem dX9_ofRace_49 : decode cX9_ofRace 49 = .ok (.iload_n 1, 1) := by decide +kernel
theorem dX9_ofRace_50 : decode cX9_ofRace 50 = .ok (.iconst 1, 1) := by decide +kernel
theorem dX9_ofRace_51 : decode cX9_ofRace 51 = .ok (.if_icmp .ne 15, 3) := by decide +kernel
theorem dX9_ofRace_54 : decode cX9_ofRace 54 = .ok (.aload_n 0, 1) := by decide +kernel
theorem dX9_ofRace_55 : decode cX9_ofRace 55 = .ok (.aload_n 0, 1) := by decide +kernel
theorem dX9_ofRace_56 : decode cX9_ofRace 56 = .ok (.getfield 447, 3) := by decide +kernel
theorem dX9_ofRace_59 : decode cX9_ofRace 59 = .ok (.iload_n 2, 1) := by decide +kernel
theorem dX9_ofRace_60 : decode cX9_ofRace 60 = .ok (.invokevirtual 103, 3) := by decide +kernel
theorem dX9_ofRace_63 : decode cX9_ofRace 63 = .ok (.goto 12, 3) := by decide +kernel
theorem dX9_ofRace_66 : decode cX9_ofRace 66 = .ok (.aload_n 0, 1) := by decide +kernel
theorem dX9_ofRace_67 : decode cX9_ofRace 67 = .ok (.aload_n 0, 1) := by decide +kernel
theorem dX9_ofRace_68 : decode cX9_ofRace 68 = .ok (.getfield 447, 3) := by decide +kernel
theorem dX9_ofRace_71 : decode cX9_ofRace 71 = .ok (.iload_n 2, 1) := by decide +kernel
theorem dX9_ofRace_72 : decode cX9_ofRace 72 = .ok (.invokevirtual 172, 3) := by decide +kernel
theorem dX9_ofRace_75 : decode cX9_ofRace 75 = .ok (.ireturn, 1) := by decide +kernel
theorem dX9_readValue_0 : decode cX9_readValue 0 = .ok (.aload_n 0, 1) := by decide +kernel
theorem dX9_readValue_1 : decode cX9_readValue 1 = .ok (.getfield 350, 3) := by decide +kernel
theorem dX9_readValue_4 : decode cX9_readValue 4 = .ok (.ifCond .ne 11, 3) := by decide +kernel
theorem dX9_readValue_7 : decode cX9_readValue 7 = .ok (.aload_n 0, 1) := by decide +kernel
theorem dX9_readValue_8 : decode cX9_readValue 8 = .ok (.getfield 338, 3) := by decide +kernel
theorem dX9_readValue_11 : decode cX9_readValue 11 = .ok (.iconst 2, 1) := by decide +kernel
theorem dX9_readValue_12 : decode cX9_readValue 12 = .ok (.if_icmp .ne 12, 3) := by decide +kernel
theorem dX9_readValue_15 : decode cX9_readValue 15 = .ok (.aload_n 0, 1) := by decide +kernel
theorem dX9_readValue_16 : decode cX9_readValue 16 = .ok (.iconst 0, 1) := by decide +kernel
theorem dX9_readValue_17 : decode cX9_readValue 17 = .ok (.sipush 9999, 3) := by decide +kernel
theorem dX9_readValue_20 : decode cX9_readValue 20 = .ok (.invokevirtual 387, 3) := by decide +kernel
theorem dX9_readValue_23 : decode cX9_readValue 23 = .ok (.ireturn, 1) := by decide +kernel
theorem dX9_readValue_24 : decode cX9_readValue 24 = .ok (.aload_n 0, 1) := by decide +kernel
theorem dX9_readValue_25 : decode cX9_readValue 25 = .ok (.ldc_w 450, 3) := by decide +kernel
theorem dX9_readValue_28 : decode cX9_readValue 28 = .ok (.invokevirtual 398, 3) := by decide +kernel
theorem dX9_readValue_31 : decode cX9_readValue 31 = .ok (.ifCond .eq 9, 3) := by decide +kernel
theorem dX9_readValue_34 : decode cX9_readValue 34 = .ok (.aload_n 0, 1) := by decide +kernel
theorem dX9_readValue_35 : decode cX9_readValue 35 = .ok (.iconst 0, 1) := by decide +kernel
theorem dX9_readValue_36 : decode cX9_readValue 36 = .ok (.invokevirtual 452, 3) := by decide +kernel
theorem dX9_readValue_39 : decode cX9_readValue 39 = .ok (.ireturn, 1) := by decide +kernel
theorem dX9_readValue_40 : decode cX9_readValue 40 = .ok (.aload_n 0, 1) := by decide +kernel
theorem dX9_readValue_41 : decode cX9_readValue 41 = .ok (.ldc_w 415, 3) := by decide +kernel
theorem dX9_readValue_44 : decode cX9_readValue 44 = .ok (.invokevirtual 398, 3) := by decide +kernel
theorem dX9_readValue_47 : decode cX9_readValue 47 = .ok (.ifCond .eq 9, 3) := by decide +kernel
theorem dX9_readValue_50 : decode cX9_readValue 50 = .ok (.aload_n 0, 1) := by decide +kernel
theorem dX9_readValue_51 : decode cX9_readValue 51 = .ok (.iconst 1, 1) := by decide +kernel
theorem dX9_readValue_52 : decode cX9_readValue 52 = .ok (.invokevirtual 452, 3) := by decide +kernel
theorem dX9_readValue_55 : decode cX9_readValue 55 = .ok (.ireturn, 1) := by decide +kernel
theorem dX9_readValue_56 : decode cX9_readValue 56 = .ok (.aload_n 0, 1) := by decide +kernel
theorem dX9_readValue_57 : decode cX9_readValue 57 = .ok (.ldc_w 455, 3) := by decide +kernel
theorem dX9_readValue_60 : decode cX9_readValue 60 = .ok (.invokevirtual 398, 3) := by decide +kernel
theorem dX9_readValue_63 : decode cX9_readValue 63 = .ok (.ifCond .eq 9, 3) := by decide +kernel
theorem dX9_readValue_66 : decode cX9_readValue 66 = .ok (.aload_n 0, 1) := by decide +kernel
theorem dX9_readValue_67 : decode cX9_readValue 67 = .ok (.iconst 2, 1) := by decide +kernel
theorem dX9_readValue_68 : decode cX9_readValue 68 = .ok (.invokevirtual 452, 3) := by decide +kernel
theorem dX9_readValue_71 : decode cX9_readValue 71 = .ok (.ireturn, 1) := by decide +kernel
theorem dX9_readValue_72 : decode cX9_readValue 72 = .ok (.aload_n 0, 1) := by decide +kernel
theorem dX9_readValue_73 : decode cX9_readValue 73 = .ok (.invokevirtual 457, 3) := by decide +kernel
theorem dX9_readValue_76 : decode cX9_readValue 76 = .ok (.istore_n 1, 1) := by decide +kernel
theorem dX9_readValue_77 : decode cX9_readValue 77 = .ok (.aload_n 0, 1) := by decide +kernel
theorem dX9_readValue_78 : decode cX9_readValue 78 = .ok (.invokevirtual 377, 3) := by decide +kernel
theorem dX9_readValue_81 : decode cX9_readValue 81 = .ok (.iload_n 1, 1) := by decide +kernel
theorem dX9_readValue_82 : decode cX9_readValue 82 = .ok (.ireturn, 1) := by decide +kernel
theorem dX9_valueOfWord_0 : decode cX9_valueOfWord 0 = .ok (.aload_n 0, 1) := by decide +kernel
theorem dX9_valueOfWord_1 : decode cX9_valueOfWord 1 = .ok (.ldc_w 404, 3) := by decide +kernel
theorem dX9_valueOfWord_4 : decode cX9_valueOfWord 4 = .ok (.invokevirtual 398, 3) := by decide +kernel
theorem dX9_valueOfWord_7 : decode cX9_valueOfWord 7 = .ok (.ifCond .eq 5, 3) := by decide +kernel
theorem dX9_valueOfWord_10 : decode cX9_valueOfWord 10 = .ok (.iconst (-1), 1) := by decide +kernel
theorem dX9_valueOfWord_11 : decode cX9_valueOfWord 11 = .ok (.ireturn, 1) := by decide +kernel
theorem dX9_valueOfWord_12 : decode cX9_valueOfWord 12 = .ok (.aload_n 0, 1) := by decide +kernel
theorem dX9_valueOfWord_13 : decode cX9_valueOfWord 13 = .ok (.ldc_w 406, 3) := by decide +kernel
theorem dX9_valueOfWord_16 : decode cX9_valueOfWord 16 = .ok (.invokevirtual 398, 3) := by decide +kernel
theorem dX9_valueOfWord_19 : decode cX9_valueOfWord 19 = .ok (.ifCond .eq 6, 3) := by decide +kernel
theorem dX9_valueOfWord_22 : decode cX9_valueOfWord 22 = .ok (.bipush (-2), 2) := by decide +kernel
theorem dX9_valueOfWord_24 : decode cX9_valueOfWord 24 = .ok (.ireturn, 1) := by decide +kernel
theorem dX9_valueOfWord_25 : decode cX9_valueOfWord 25 = .ok (.aload_n 0, 1) := by decide +kernel
theorem dX9_valueOfWord_26 : decode cX9_valueOfWord 26 = .ok (.ldc_w 460, 3) := by decide +kernel
theorem dX9_valueOfWord_29 : decode cX9_valueOfWord 29 = .ok (.invokevirtual 398, 3) := by decide +kernel
theorem dX9_valueOfWord_32 : decode cX9_valueOfWord 32 = .ok (.ifCond .eq 8, 3) := by decide +kernel
theorem dX9_valueOfWord_35 : decode cX9_valueOfWord 35 = .ok (.aload_n 0, 1) := by decide +kernel
theorem dX9_valueOfWord_36 : decode cX9_valueOfWord 36 = .ok (.getfield 447, 3) := by decide +kernel
theorem dX9_valueOfWord_39 : decode cX9_valueOfWord 39 = .ok (.ireturn, 1) := by decide +kernel
theorem dX9_valueOfWord_40 : decode cX9_valueOfWord 40 = .ok (.aload_n 0, 1) := by decide +kernel
theorem dX9_valueOfWord_41 : decode cX9_valueOfWord 41 = .ok (.ldc_w 461, 3) := by decide +kernel
theorem dX9_valueOfWord_44 : decode cX9_valueOfWord 44 = .ok (.invokevirtual 398, 3) := by decide +kernel
theorem dX9_valueOfWord_47 : decode cX9_valueOfWord 47 = .ok (.ifCond .ne 10, 3) := by decide +kernel
theorem dX9_valueOfWord_50 : decode cX9_valueOfWord 50 = .ok (.aload_n 0, 1) := by decide +kernel
theorem dX9_valueOfWord_51 : decode cX9_valueOfWord 51 = .ok (.iconst 1, 1) := by decide +kernel
theorem dX9_valueOfWord_52 : decode cX9_valueOfWord 52 = .ok (.invokevirtual 374, 3) := by decide +kernel
theorem dX9_valueOfWord_55 : decode cX9_valueOfWord 55 = .ok (.iconst 0, 1) := by decide +kernel
theorem dX9_valueOfWord_56 : decode cX9_valueOfWord 56 = .ok (.ireturn, 1) := by decide +kernel
theorem dX9_valueOfWord_57 : decode cX9_valueOfWord 57 = .ok (.aload_n 0, 1) := by decide +kernel
theorem dX9_valueOfWord_58 : decode cX9_valueOfWord 58 = .ok (.getfield 447, 3) := by decide +kernel
theorem dX9_valueOfWord_61 : decode cX9_valueOfWord 61 = .ok (.iconst (-1), 1) := by decide +kernel
theorem dX9_valueOfWord_62 : decode cX9_valueOfWord 62 = .ok (.if_icmp .ne 7, 3) := by decide +kernel
theorem dX9_valueOfWord_65 : decode cX9_valueOfWord 65 = .ok (.iconst 0, 1) := by decide +kernel
theorem dX9_valueOfWord_66 : decode cX9_valueOfWord 66 = .ok (.goto 12, 3) := by decide +kernel
theorem dX9_valueOfWord_69 : decode cX9_valueOfWord 69 = .ok (.aload_n 0, 1) := by decide +kernel
theorem dX9_valueOfWord_70 : decode cX9_valueOfWord 70 = .ok (.getfield 53, 3) := by decide +kernel
theorem dX9_valueOfWord_73 : decode cX9_valueOfWord 73 = .ok (.aload_n 0, 1) := by decide +kernel
theorem dX9_valueOfWord_74 : decode cX9_valueOfWord 74 = .ok (.getfield 447, 3) := by decide +kernel
theorem dX9_valueOfWord_77 : decode cX9_valueOfWord 77 = .ok (.iaload, 1) := by decide +kernel
theorem dX9_valueOfWord_78 : decode cX9_valueOfWord 78 = .ok (.ireturn, 1) := by decide +kernel
theorem dX9_goesIn_0 : decode cX9_goesIn 0 = .ok (.aload_n 0, 1) := by decide +kernel
theorem dX9_goesIn_1 : decode cX9_goesIn 1 = .ok (.getfield 350, 3) := by decide +kernel
theorem dX9_goesIn_4 : decode cX9_goesIn 4 = .ok (.ifCond .ne 17, 3) := by decide +kernel
theorem dX9_goesIn_7 : decode cX9_goesIn 7 = .ok (.aload_n 0, 1) := by decide +kernel
theorem dX9_goesIn_8 : decode cX9_goesIn 8 = .ok (.getfield 353, 3) := by decide +kernel
theorem dX9_goesIn_11 : decode cX9_goesIn 11 = .ok (.bipush 6, 2) := by decide +kernel
theorem dX9_goesIn_13 : decode cX9_goesIn 13 = .ok (.if_icmp .ne 8, 3) := by decide +kernel
theorem dX9_goesIn_16 : decode cX9_goesIn 16 = .ok (.aload_n 0, 1) := by decide +kernel
theorem dX9_goesIn_17 : decode cX9_goesIn 17 = .ok (.iconst 3, 1) := by decide +kernel
theorem dX9_goesIn_18 : decode cX9_goesIn 18 = .ok (.invokevirtual 374, 3) := by decide +kernel
theorem dX9_goesIn_21 : decode cX9_goesIn 21 = .ok (.aload_n 0, 1) := by decide +kernel
theorem dX9_goesIn_22 : decode cX9_goesIn 22 = .ok (.dup, 1) := by decide +kernel
theorem dX9_goesIn_23 : decode cX9_goesIn 23 = .ok (.getfield 353, 3) := by decide +kernel
theorem dX9_goesIn_26 : decode cX9_goesIn 26 = .ok (.iconst 1, 1) := by decide +kernel
theorem dX9_goesIn_27 : decode cX9_goesIn 27 = .ok (.iadd, 1) := by decide +kernel
theorem dX9_goesIn_28 : decode cX9_goesIn 28 = .ok (.putfield 353, 3) := by decide +kernel
theorem dX9_goesIn_31 : decode cX9_goesIn 31 = .ok (.aload_n 0, 1) := by decide +kernel
theorem dX9_goesIn_32 : decode cX9_goesIn 32 = .ok (.invokevirtual 377, 3) := by decide +kernel
theorem dX9_goesIn_35 : decode cX9_goesIn 35 = .ok (.return_, 1) := by decide +kernel
theorem dX9_readFact_0 : decode cX9_readFact 0 = .ok (.aload_n 0, 1) := by decide +kernel
theorem dX9_readFact_1 : decode cX9_readFact 1 = .ok (.ldc_w 462, 3) := by decide +kernel
theorem dX9_readFact_4 : decode cX9_readFact 4 = .ok (.invokevirtual 398, 3) := by decide +kernel
theorem dX9_readFact_7 : decode cX9_readFact 7 = .ok (.ifCond .eq 32, 3) := by decide +kernel
theorem dX9_readFact_10 : decode cX9_readFact 10 = .ok (.aload_n 0, 1) := by decide +kernel
theorem dX9_readFact_11 : decode cX9_readFact 11 = .ok (.invokevirtual 464, 3) := by decide +kernel
theorem dX9_readFact_14 : decode cX9_readFact 14 = .ok (.aload_n 0, 1) := by decide +kernel
theorem dX9_readFact_15 : decode cX9_readFact 15 = .ok (.invokevirtual 467, 3) := by decide +kernel
theorem dX9_readFact_18 : decode cX9_readFact 18 = .ok (.istore_n 1, 1) := by decide +kernel
theorem dX9_readFact_19 : decode cX9_readFact 19 = .ok (.aload_n 0, 1) := by decide +kernel
theorem dX9_readFact_20 : decode cX9_readFact 20 = .ok (.dup, 1) := by decide +kernel
theorem dX9_readFact_21 : decode cX9_readFact 21 = .ok (.getfield 353, 3) := by decide +kernel
theorem dX9_readFact_24 : decode cX9_readFact 24 = .ok (.iconst 1, 1) := by decide +kernel
theorem dX9_readFact_25 : decode cX9_readFact 25 = .ok (.isub, 1) := by decide +kernel
theorem dX9_readFact_26 : decode cX9_readFact 26 = .ok (.putfield 353, 3) := by decide +kernel
theorem dX9_readFact_29 : decode cX9_readFact 29 = .ok (.iload_n 1, 1) := by decide +kernel
theorem dX9_readFact_30 : decode cX9_readFact 30 = .ok (.ifCond .ne 7, 3) := by decide +kernel
theorem dX9_readFact_33 : decode cX9_readFact 33 = .ok (.iconst 1, 1) := by decide +kernel
theorem dX9_readFact_34 : decode cX9_readFact 34 = .ok (.goto 4, 3) := by decide +kernel
theorem dX9_readFact_37 : decode cX9_readFact 37 = .ok (.iconst 0, 1) := by decide +kernel
theorem dX9_readFact_38 : decode cX9_readFact 38 = .ok (.ireturn, 1) := by decide +kernel
theorem dX9_readFact_39 : decode cX9_readFact 39 = .ok (.aload_n 0, 1) := by decide +kernel
theorem dX9_readFact_40 : decode cX9_readFact 40 = .ok (.bipush 123, 2) := by decide +kernel
theorem dX9_readFact_42 : decode cX9_readFact 42 = .ok (.invokevirtual 371, 3) := by decide +kernel
theorem dX9_readFact_45 : decode cX9_readFact 45 = .ok (.ifCond .eq 30, 3) := by decide +kernel
theorem dX9_readFact_48 : decode cX9_readFact 48 = .ok (.aload_n 0, 1) := by decide +kernel
theorem dX9_readFact_49 : decode cX9_readFact 49 = .ok (.invokevirtual 464, 3) := by decide +kernel
theorem dX9_readFact_52 : decode cX9_readFact 52 = .ok (.aload_n 0, 1) := by decide +kernel
theorem dX9_readFact_53 : decode cX9_readFact 53 = .ok (.invokevirtual 470, 3) := by decide +kernel
theorem dX9_readFact_56 : decode cX9_readFact 56 = .ok (.istore_n 1, 1) := by decide +kernel
theorem dX9_readFact_57 : decode cX9_readFact 57 = .ok (.aload_n 0, 1) := by decide +kernel
theorem dX9_readFact_58 : decode cX9_readFact 58 = .ok (.bipush 125, 2) := by decide +kernel
theorem dX9_readFact_60 : decode cX9_readFact 60 = .ok (.invokevirtual 393, 3) := by decide +kernel
theorem dX9_readFact_63 : decode cX9_readFact 63 = .ok (.aload_n 0, 1) := by decide +kernel
theorem dX9_readFact_64 : decode cX9_readFact 64 = .ok (.dup, 1) := by decide +kernel
theorem dX9_readFact_65 : decode cX9_readFact 65 = .ok (.getfield 353, 3) := by decide +kernel
theorem dX9_readFact_68 : decode cX9_readFact 68 = .ok (.iconst 1, 1) := by decide +kernel
theorem dX9_readFact_69 : decode cX9_readFact 69 = .ok (.isub, 1) := by decide +kernel
theorem dX9_readFact_70 : decode cX9_readFact 70 = .ok (.putfield 353, 3) := by decide +kernel
theorem dX9_readFact_73 : decode cX9_readFact 73 = .ok (.iload_n 1, 1) := by decide +kernel
theorem dX9_readFact_74 : decode cX9_readFact 74 = .ok (.ireturn, 1) := by decide +kernel
theorem dX9_readFact_75 : decode cX9_readFact 75 = .ok (.aload_n 0, 1) := by decide +kernel
theorem dX9_readFact_76 : decode cX9_readFact 76 = .ok (.invokevirtual 473, 3) := by decide +kernel
theorem dX9_readFact_79 : decode cX9_readFact 79 = .ok (.istore_n 1, 1) := by decide +kernel
theorem dX9_readFact_80 : decode cX9_readFact 80 = .ok (.aload_n 0, 1) := by decide +kernel
theorem dX9_readFact_81 : decode cX9_readFact 81 = .ok (.bipush 60, 2) := by decide +kernel
theorem dX9_readFact_83 : decode cX9_readFact 83 = .ok (.invokevirtual 371, 3) := by decide +kernel
theorem dX9_readFact_86 : decode cX9_readFact 86 = .ok (.ifCond .eq 7, 3) := by decide +kernel
theorem dX9_readFact_89 : decode cX9_readFact 89 = .ok (.iconst (-1), 1) := by decide +kernel
theorem dX9_readFact_90 : decode cX9_readFact 90 = .ok (.goto 30, 3) := by decide +kernel
theorem dX9_readFact_93 : decode cX9_readFact 93 = .ok (.aload_n 0, 1) := by decide +kernel
theorem dX9_readFact_94 : decode cX9_readFact 94 = .ok (.bipush 61, 2) := by decide +kernel
theorem dX9_readFact_96 : decode cX9_readFact 96 = .ok (.invokevirtual 371, 3) := by decide +kernel
theorem dX9_readFact_99 : decode cX9_readFact 99 = .ok (.ifCond .eq 7, 3) := by decide +kernel
theorem dX9_readFact_102 : decode cX9_readFact 102 = .ok (.iconst 0, 1) := by decide +kernel
theorem dX9_readFact_103 : decode cX9_readFact 103 = .ok (.goto 17, 3) := by decide +kernel
theorem dX9_readFact_106 : decode cX9_readFact 106 = .ok (.aload_n 0, 1) := by decide +kernel
theorem dX9_readFact_107 : decode cX9_readFact 107 = .ok (.bipush 62, 2) := by decide +kernel
theorem dX9_readFact_109 : decode cX9_readFact 109 = .ok (.invokevirtual 371, 3) := by decide +kernel
theorem dX9_readFact_112 : decode cX9_readFact 112 = .ok (.ifCond .eq 7, 3) := by decide +kernel
theorem dX9_readFact_115 : decode cX9_readFact 115 = .ok (.iconst 1, 1) := by decide +kernel
theorem dX9_readFact_116 : decode cX9_readFact 116 = .ok (.goto 4, 3) := by decide +kernel
theorem dX9_readFact_119 : decode cX9_readFact 119 = .ok (.iconst 2, 1) := by decide +kernel
theorem dX9_readFact_120 : decode cX9_readFact 120 = .ok (.istore_n 2, 1) := by decide +kernel
theorem dX9_readFact_121 : decode cX9_readFact 121 = .ok (.iload_n 2, 1) := by decide +kernel
theorem dX9_readFact_122 : decode cX9_readFact 122 = .ok (.iconst 2, 1) := by decide +kernel
theorem dX9_readFact_123 : decode cX9_readFact 123 = .ok (.if_icmp .ne 8, 3) := by decide +kernel
theorem dX9_readFact_126 : decode cX9_readFact 126 = .ok (.aload_n 0, 1) := by decide +kernel
theorem dX9_readFact_127 : decode cX9_readFact 127 = .ok (.iconst 1, 1) := by decide +kernel
theorem dX9_readFact_128 : decode cX9_readFact 128 = .ok (.invokevirtual 374, 3) := by decide +kernel
theorem dX9_readFact_131 : decode cX9_readFact 131 = .ok (.aload_n 0, 1) := by decide +kernel
theorem dX9_readFact_132 : decode cX9_readFact 132 = .ok (.invokevirtual 377, 3) := by decide +kernel
theorem dX9_readFact_135 : decode cX9_readFact 135 = .ok (.aload_n 0, 1) := by decide +kernel
theorem dX9_readFact_136 : decode cX9_readFact 136 = .ok (.invokevirtual 473, 3) := by decide +kernel
theorem dX9_readFact_139 : decode cX9_readFact 139 = .ok (.istore_n 3, 1) := by decide +kernel
theorem dX9_readFact_140 : decode cX9_readFact 140 = .ok (.iload_n 2, 1) := by decide +kernel
theorem dX9_readFact_141 : decode cX9_readFact 141 = .ok (.ifCond .ge 16, 3) := by decide +kernel
theorem dX9_readFact_144 : decode cX9_readFact 144 = .ok (.iload_n 1, 1) := by decide +kernel
theorem dX9_readFact_145 : decode cX9_readFact 145 = .ok (.iload_n 3, 1) := by decide +kernel
theorem dX9_readFact_146 : decode cX9_readFact 146 = .ok (.if_icmp .ge 7, 3) := by decide +kernel
theorem dX9_readFact_149 : decode cX9_readFact 149 = .ok (.iconst 1, 1) := by decide +kernel
theorem dX9_readFact_150 : decode cX9_readFact 150 = .ok (.goto 34, 3) := by decide +kernel
theorem dX9_readFact_153 : decode cX9_readFact 153 = .ok (.iconst 0, 1) := by decide +kernel
theorem dX9_readFact_154 : decode cX9_readFact 154 = .ok (.goto 30, 3) := by decide +kernel
theorem dX9_readFact_157 : decode cX9_readFact 157 = .ok (.iload_n 2, 1) := by decide +kernel
theorem dX9_readFact_158 : decode cX9_readFact 158 = .ok (.ifCond .ne 16, 3) := by decide +kernel
theorem dX9_readFact_161 : decode cX9_readFact 161 = .ok (.iload_n 1, 1) := by decide +kernel
theorem dX9_readFact_162 : decode cX9_readFact 162 = .ok (.iload_n 3, 1) := by decide +kernel
theorem dX9_readFact_163 : decode cX9_readFact 163 = .ok (.if_icmp .ne 7, 3) := by decide +kernel
theorem dX9_readFact_166 : decode cX9_readFact 166 = .ok (.iconst 1, 1) := by decide +kernel
theorem dX9_readFact_167 : decode cX9_readFact 167 = .ok (.goto 17, 3) := by decide +kernel
theorem dX9_readFact_170 : decode cX9_readFact 170 = .ok (.iconst 0, 1) := by decide +kernel
theorem dX9_readFact_171 : decode cX9_readFact 171 = .ok (.goto 13, 3) := by decide +kernel
theorem dX9_readFact_174 : decode cX9_readFact 174 = .ok (.iload_n 1, 1) := by decide +kernel
theorem dX9_readFact_175 : decode cX9_readFact 175 = .ok (.iload_n 3, 1) := by decide +kernel
theorem dX9_readFact_176 : decode cX9_readFact 176 = .ok (.if_icmp .le 7, 3) := by decide +kernel
theorem dX9_readFact_179 : decode cX9_readFact 179 = .ok (.iconst 1, 1) := by decide +kernel
theorem dX9_readFact_180 : decode cX9_readFact 180 = .ok (.goto 4, 3) := by decide +kernel
theorem dX9_readFact_183 : decode cX9_readFact 183 = .ok (.iconst 0, 1) := by decide +kernel
theorem dX9_readFact_184 : decode cX9_readFact 184 = .ok (.ireturn, 1) := by decide +kernel
theorem dX9_readBoth_0 : decode cX9_readBoth 0 = .ok (.aload_n 0, 1) := by decide +kernel
theorem dX9_readBoth_1 : decode cX9_readBoth 1 = .ok (.invokevirtual 467, 3) := by decide +kernel
theorem dX9_readBoth_4 : decode cX9_readBoth 4 = .ok (.istore_n 1, 1) := by decide +kernel
theorem dX9_readBoth_5 : decode cX9_readBoth 5 = .ok (.aload_n 0, 1) := by decide +kernel
theorem dX9_readBoth_6 : decode cX9_readBoth 6 = .ok (.ldc_w 476, 3) := by decide +kernel
theorem dX9_readBoth_9 : decode cX9_readBoth 9 = .ok (.invokevirtual 398, 3) := by decide +kernel
theorem dX9_readBoth_12 : decode cX9_readBoth 12 = .ok (.ifCond .eq 29, 3) := by decide +kernel
theorem dX9_readBoth_15 : decode cX9_readBoth 15 = .ok (.aload_n 0, 1) := by decide +kernel
theorem dX9_readBoth_16 : decode cX9_readBoth 16 = .ok (.invokevirtual 377, 3) := by decide +kernel
theorem dX9_readBoth_19 : decode cX9_readBoth 19 = .ok (.aload_n 0, 1) := by decide +kernel
theorem dX9_readBoth_20 : decode cX9_readBoth 20 = .ok (.invokevirtual 467, 3) := by decide +kernel
theorem dX9_readBoth_23 : decode cX9_readBoth 23 = .ok (.istore_n 2, 1) := by decide +kernel
theorem dX9_readBoth_24 : decode cX9_readBoth 24 = .ok (.iload_n 1, 1) := by decide +kernel
theorem dX9_readBoth_25 : decode cX9_readBoth 25 = .ok (.ifCond .eq 11, 3) := by decide +kernel
theorem dX9_readBoth_28 : decode cX9_readBoth 28 = .ok (.iload_n 2, 1) := by decide +kernel
theorem dX9_readBoth_29 : decode cX9_readBoth 29 = .ok (.ifCond .eq 7, 3) := by decide +kernel
theorem dX9_readBoth_32 : decode cX9_readBoth 32 = .ok (.iconst 1, 1) := by decide +kernel
theorem dX9_readBoth_33 : decode cX9_readBoth 33 = .ok (.goto 4, 3) := by decide +kernel
theorem dX9_readBoth_36 : decode cX9_readBoth 36 = .ok (.iconst 0, 1) := by decide +kernel
theorem dX9_readBoth_37 : decode cX9_readBoth 37 = .ok (.istore_n 1, 1) := by decide +kernel
theorem dX9_readBoth_38 : decode cX9_readBoth 38 = .ok (.goto (-33), 3) := by decide +kernel
theorem dX9_readBoth_41 : decode cX9_readBoth 41 = .ok (.iload_n 1, 1) := by decide +kernel
theorem dX9_readBoth_42 : decode cX9_readBoth 42 = .ok (.ireturn, 1) := by decide +kernel
theorem dX9_readTest_0 : decode cX9_readTest 0 = .ok (.aload_n 0, 1) := by decide +kernel
theorem dX9_readTest_1 : decode cX9_readTest 1 = .ok (.invokevirtual 478, 3) := by decide +kernel
theorem dX9_readTest_4 : decode cX9_readTest 4 = .ok (.istore_n 1, 1) := by decide +kernel
theorem dX9_readTest_5 : decode cX9_readTest 5 = .ok (.aload_n 0, 1) := by decide +kernel
theorem dX9_readTest_6 : decode cX9_readTest 6 = .ok (.ldc_w 481, 3) := by decide +kernel
theorem dX9_readTest_9 : decode cX9_readTest 9 = .ok (.invokevirtual 398, 3) := by decide +kernel
theorem dX9_readTest_12 : decode cX9_readTest 12 = .ok (.ifCond .eq 29, 3) := by decide +kernel
theorem dX9_readTest_15 : decode cX9_readTest 15 = .ok (.aload_n 0, 1) := by decide +kernel
theorem dX9_readTest_16 : decode cX9_readTest 16 = .ok (.invokevirtual 377, 3) := by decide +kernel
theorem dX9_readTest_19 : decode cX9_readTest 19 = .ok (.aload_n 0, 1) := by decide +kernel
theorem dX9_readTest_20 : decode cX9_readTest 20 = .ok (.invokevirtual 478, 3) := by decide +kernel
theorem dX9_readTest_23 : decode cX9_readTest 23 = .ok (.istore_n 2, 1) := by decide +kernel
theorem dX9_readTest_24 : decode cX9_readTest 24 = .ok (.iload_n 1, 1) := by decide +kernel
theorem dX9_readTest_25 : decode cX9_readTest 25 = .ok (.ifCond .ne 7, 3) := by decide +kernel
theorem dX9_readTest_28 : decode cX9_readTest 28 = .ok (.iload_n 2, 1) := by decide +kernel
theorem dX9_readTest_29 : decode cX9_readTest 29 = .ok (.ifCond .eq 7, 3) := by decide +kernel
theorem dX9_readTest_32 : decode cX9_readTest 32 = .ok (.iconst 1, 1) := by decide +kernel
theorem dX9_readTest_33 : decode cX9_readTest 33 = .ok (.goto 4, 3) := by decide +kernel
theorem dX9_readTest_36 : decode cX9_readTest 36 = .ok (.iconst 0, 1) := by decide +kernel
theorem dX9_readTest_37 : decode cX9_readTest 37 = .ok (.istore_n 1, 1) := by decide +kernel
theorem dX9_readTest_38 : decode cX9_readTest 38 = .ok (.goto (-33), 3) := by decide +kernel
theorem dX9_readTest_41 : decode cX9_readTest 41 = .ok (.iload_n 1, 1) := by decide +kernel
theorem dX9_readTest_42 : decode cX9_readTest 42 = .ok (.ireturn, 1) := by decide +kernel
theorem dX9_readQuestion_0 : decode cX9_readQuestion 0 = .ok (.aload_n 0, 1) := by decide +kernel
theorem dX9_readQuestion_1 : decode cX9_readQuestion 1 = .ok (.iload_n 2, 1) := by decide +kernel
theorem dX9_readQuestion_2 : decode cX9_readQuestion 2 = .ok (.putfield 447, 3) := by decide +kernel
theorem dX9_readQuestion_5 : decode cX9_readQuestion 5 = .ok (.aload_n 0, 1) := by decide +kernel
theorem dX9_readQuestion_6 : decode cX9_readQuestion 6 = .ok (.iload_n 1, 1) := by decide +kernel
theorem dX9_readQuestion_7 : decode cX9_readQuestion 7 = .ok (.invokevirtual 433, 3) := by decide +kernel
theorem dX9_readQuestion_10 : decode cX9_readQuestion 10 = .ok (.aload_n 0, 1) := by decide +kernel
theorem dX9_readQuestion_11 : decode cX9_readQuestion 11 = .ok (.ldc_w 483, 3) := by decide +kernel
theorem dX9_readQuestion_14 : decode cX9_readQuestion 14 = .ok (.invokevirtual 398, 3) := by decide +kernel
theorem dX9_readQuestion_17 : decode cX9_readQuestion 17 = .ok (.ifCond .ne 28, 3) := by decide +kernel
theorem dX9_readQuestion_20 : decode cX9_readQuestion 20 = .ok (.aload_n 0, 1) := by decide +kernel
theorem dX9_readQuestion_21 : decode cX9_readQuestion 21 = .ok (.ldc_w 485, 3) := by decide +kernel
theorem dX9_readQuestion_24 : decode cX9_readQuestion 24 = .ok (.invokevirtual 398, 3) := by decide +kernel
theorem dX9_readQuestion_27 : decode cX9_readQuestion 27 = .ok (.ifCond .ne 18, 3) := by decide +kernel
theorem dX9_readQuestion_30 : decode cX9_readQuestion 30 = .ok (.aload_n 0, 1) := by decide +kernel
theorem dX9_readQuestion_31 : decode cX9_readQuestion 31 = .ok (.ldc_w 487, 3) := by decide +kernel
theorem dX9_readQuestion_34 : decode cX9_readQuestion 34 = .ok (.invokevirtual 398, 3) := by decide +kernel
theorem dX9_readQuestion_37 : decode cX9_readQuestion 37 = .ok (.ifCond .ne 8, 3) := by decide +kernel
theorem dX9_readQuestion_40 : decode cX9_readQuestion 40 = .ok (.aload_n 0, 1) := by decide +kernel
theorem dX9_readQuestion_41 : decode cX9_readQuestion 41 = .ok (.iconst 1, 1) := by decide +kernel
theorem dX9_readQuestion_42 : decode cX9_readQuestion 42 = .ok (.invokevirtual 374, 3) := by decide +kernel
theorem dX9_readQuestion_45 : decode cX9_readQuestion 45 = .ok (.aload_n 0, 1) := by decide +kernel
theorem dX9_readQuestion_46 : decode cX9_readQuestion 46 = .ok (.invokevirtual 377, 3) := by decide +kernel
theorem dX9_readQuestion_49 : decode cX9_readQuestion 49 = .ok (.aload_n 0, 1) := by decide +kernel
theorem dX9_readQuestion_50 : decode cX9_readQuestion 50 = .ok (.invokevirtual 470, 3) := by decide +kernel
theorem dX9_readQuestion_53 : decode cX9_readQuestion 53 = .ok (.istore_n 3, 1) := by decide +kernel
theorem dX9_readQuestion_54 : decode cX9_readQuestion 54 = .ok (.aload_n 0, 1) := by decide +kernel
theorem dX9_readQuestion_55 : decode cX9_readQuestion 55 = .ok (.getfield 350, 3) := by decide +kernel
theorem dX9_readQuestion_58 : decode cX9_readQuestion 58 = .ok (.ifCond .ne 15, 3) := by decide +kernel
theorem dX9_readQuestion_61 : decode cX9_readQuestion 61 = .ok (.aload_n 0, 1) := by decide +kernel
theorem dX9_readQuestion_62 : decode cX9_readQuestion 62 = .ok (.getfield 338, 3) := by decide +kernel
theorem dX9_readQuestion_65 : decode cX9_readQuestion 65 = .ok (.ifCond .eq 8, 3) := by decide +kernel
theorem dX9_readQuestion_68 : decode cX9_readQuestion 68 = .ok (.aload_n 0, 1) := by decide +kernel
theorem dX9_readQuestion_69 : decode cX9_readQuestion 69 = .ok (.iconst 1, 1) := by decide +kernel
theorem dX9_readQuestion_70 : decode cX9_readQuestion 70 = .ok (.invokevirtual 374, 3) := by decide +kernel
theorem dX9_readQuestion_73 : decode cX9_readQuestion 73 = .ok (.iload_n 3, 1) := by decide +kernel
theorem dX9_readQuestion_74 : decode cX9_readQuestion 74 = .ok (.ireturn, 1) := by decide +kernel
theorem dX9_ask_0 : decode cX9_ask 0 = .ok (.aload_n 0, 1) := by decide +kernel
theorem dX9_ask_1 : decode cX9_ask 1 = .ok (.iconst 0, 1) := by decide +kernel
theorem dX9_ask_2 : decode cX9_ask 2 = .ok (.putfield 73, 3) := by decide +kernel
theorem dX9_ask_5 : decode cX9_ask 5 = .ok (.iload_n 1, 1) := by decide +kernel
theorem dX9_ask_6 : decode cX9_ask 6 = .ok (.ifCond .lt 18, 3) := by decide +kernel
theorem dX9_ask_9 : decode cX9_ask 9 = .ok (.iload_n 1, 1) := by decide +kernel
theorem dX9_ask_10 : decode cX9_ask 10 = .ok (.aload_n 0, 1) := by decide +kernel
theorem dX9_ask_11 : decode cX9_ask 11 = .ok (.getfield 237, 3) := by decide +kernel
theorem dX9_ask_14 : decode cX9_ask 14 = .ok (.if_icmp .gt 10, 3) := by decide +kernel
theorem dX9_ask_17 : decode cX9_ask 17 = .ok (.iload_n 1, 1) := by decide +kernel
theorem dX9_ask_18 : decode cX9_ask 18 = .ok (.sipush 200, 3) := by decide +kernel
theorem dX9_ask_21 : decode cX9_ask 21 = .ok (.if_icmp .le 9, 3) := by decide +kernel
theorem dX9_ask_24 : decode cX9_ask 24 = .ok (.aload_n 0, 1) := by decide +kernel
theorem dX9_ask_25 : decode cX9_ask 25 = .ok (.iconst 1, 1) := by decide +kernel
theorem dX9_ask_26 : decode cX9_ask 26 = .ok (.invokevirtual 210, 3) := by decide +kernel
theorem dX9_ask_29 : decode cX9_ask 29 = .ok (.ireturn, 1) := by decide +kernel
theorem dX9_ask_30 : decode cX9_ask 30 = .ok (.aload_n 0, 1) := by decide +kernel
theorem dX9_ask_31 : decode cX9_ask 31 = .ok (.invokevirtual 213, 3) := by decide +kernel
theorem dX9_ask_34 : decode cX9_ask 34 = .ok (.aload_n 0, 1) := by decide +kernel
theorem dX9_ask_35 : decode cX9_ask 35 = .ok (.invokevirtual 225, 3) := by decide +kernel
theorem dX9_ask_38 : decode cX9_ask 38 = .ok (.aload_n 0, 1) := by decide +kernel
theorem dX9_ask_39 : decode cX9_ask 39 = .ok (.iload_n 1, 1) := by decide +kernel
theorem dX9_ask_40 : decode cX9_ask 40 = .ok (.invokevirtual 433, 3) := by decide +kernel
theorem dX9_ask_43 : decode cX9_ask 43 = .ok (.aload_n 0, 1) := by decide +kernel
theorem dX9_ask_44 : decode cX9_ask 44 = .ok (.ldc_w 483, 3) := by decide +kernel
theorem dX9_ask_47 : decode cX9_ask 47 = .ok (.invokevirtual 398, 3) := by decide +kernel
theorem dX9_ask_50 : decode cX9_ask 50 = .ok (.ifCond .eq 7, 3) := by decide +kernel
theorem dX9_ask_53 : decode cX9_ask 53 = .ok (.iconst 0, 1) := by decide +kernel
theorem dX9_ask_54 : decode cX9_ask 54 = .ok (.goto 18, 3) := by decide +kernel
theorem dX9_ask_57 : decode cX9_ask 57 = .ok (.aload_n 0, 1) := by decide +kernel
theorem dX9_ask_58 : decode cX9_ask 58 = .ok (.ldc_w 485, 3) := by decide +kernel
theorem dX9_ask_61 : decode cX9_ask 61 = .ok (.invokevirtual 398, 3) := by decide +kernel
theorem dX9_ask_64 : decode cX9_ask 64 = .ok (.ifCond .eq 7, 3) := by decide +kernel
theorem dX9_ask_67 : decode cX9_ask 67 = .ok (.iconst 1, 1) := by decide +kernel
theorem dX9_ask_68 : decode cX9_ask 68 = .ok (.goto 4, 3) := by decide +kernel
theorem dX9_ask_71 : decode cX9_ask 71 = .ok (.iconst 2, 1) := by decide +kernel
theorem dX9_ask_72 : decode cX9_ask 72 = .ok (.istore_n 2, 1) := by decide +kernel
theorem dX9_ask_73 : decode cX9_ask 73 = .ok (.aload_n 0, 1) := by decide +kernel
theorem dX9_ask_74 : decode cX9_ask 74 = .ok (.iload_n 1, 1) := by decide +kernel
theorem dX9_ask_75 : decode cX9_ask 75 = .ok (.iconst (-1), 1) := by decide +kernel
theorem dX9_ask_76 : decode cX9_ask 76 = .ok (.invokevirtual 489, 3) := by decide +kernel
theorem dX9_ask_79 : decode cX9_ask 79 = .ok (.istore_n 3, 1) := by decide +kernel
theorem dX9_ask_80 : decode cX9_ask 80 = .ok (.aload_n 0, 1) := by decide +kernel
theorem dX9_ask_81 : decode cX9_ask 81 = .ok (.invokevirtual 444, 3) := by decide +kernel
theorem dX9_ask_84 : decode cX9_ask 84 = .ok (.istore 4, 2) := by decide +kernel
theorem dX9_ask_86 : decode cX9_ask 86 = .ok (.iload 4, 2) := by decide +kernel
theorem dX9_ask_88 : decode cX9_ask 88 = .ok (.ifCond .eq 10, 3) := by decide +kernel
theorem dX9_ask_91 : decode cX9_ask 91 = .ok (.ldc_w 492, 3) := by decide +kernel
theorem dX9_ask_94 : decode cX9_ask 94 = .ok (.iload 4, 2) := by decide +kernel
theorem dX9_ask_96 : decode cX9_ask 96 = .ok (.isub, 1) := by decide +kernel
theorem dX9_ask_97 : decode cX9_ask 97 = .ok (.ireturn, 1) := by decide +kernel
theorem dX9_ask_98 : decode cX9_ask 98 = .ok (.iconst 0, 1) := by decide +kernel
theorem dX9_ask_99 : decode cX9_ask 99 = .ok (.istore 5, 2) := by decide +kernel
theorem dX9_ask_101 : decode cX9_ask 101 = .ok (.iconst 0, 1) := by decide +kernel
theorem dX9_ask_102 : decode cX9_ask 102 = .ok (.istore 6, 2) := by decide +kernel
theorem dX9_ask_104 : decode cX9_ask 104 = .ok (.iload 6, 2) := by decide +kernel
theorem dX9_ask_106 : decode cX9_ask 106 = .ok (.aload_n 0, 1) := by decide +kernel
theorem dX9_ask_107 : decode cX9_ask 107 = .ok (.invokevirtual 84, 3) := by decide +kernel
theorem dX9_ask_110 : decode cX9_ask 110 = .ok (.if_icmp .ge 50, 3) := by decide +kernel
theorem dX9_ask_113 : decode cX9_ask 113 = .ok (.aload_n 0, 1) := by decide +kernel
theorem dX9_ask_114 : decode cX9_ask 114 = .ok (.iload_n 1, 1) := by decide +kernel
theorem dX9_ask_115 : decode cX9_ask 115 = .ok (.iload 6, 2) := by decide +kernel
theorem dX9_ask_117 : decode cX9_ask 117 = .ok (.invokevirtual 489, 3) := by decide +kernel
theorem dX9_ask_120 : decode cX9_ask 120 = .ok (.ifCond .ne 6, 3) := by decide +kernel
theorem dX9_ask_123 : decode cX9_ask 123 = .ok (.goto 31, 3) := by decide +kernel
theorem dX9_ask_126 : decode cX9_ask 126 = .ok (.iload_n 2, 1) := by decide +kernel
theorem dX9_ask_127 : decode cX9_ask 127 = .ok (.iconst 1, 1) := by decide +kernel
theorem dX9_ask_128 : decode cX9_ask 128 = .ok (.if_icmp .ne 6, 3) := by decide +kernel
theorem dX9_ask_131 : decode cX9_ask 131 = .ok (.iload 6, 2) := by decide +kernel
theorem dX9_ask_133 : decode cX9_ask 133 = .ok (.ireturn, 1) := by decide +kernel
theorem dX9_ask_134 : decode cX9_ask 134 = .ok (.iload 5, 2) := by decide +kernel
theorem dX9_ask_136 : decode cX9_ask 136 = .ok (.iload_n 2, 1) := by decide +kernel
theorem dX9_ask_137 : decode cX9_ask 137 = .ok (.ifCond .ne 7, 3) := by decide +kernel
theorem dX9_ask_140 : decode cX9_ask 140 = .ok (.iconst 1, 1) := by decide +kernel
theorem dX9_ask_141 : decode cX9_ask 141 = .ok (.goto 10, 3) := by decide +kernel
theorem dX9_ask_144 : decode cX9_ask 144 = .ok (.aload_n 0, 1) := by decide +kernel
theorem dX9_ask_145 : decode cX9_ask 145 = .ok (.getfield 53, 3) := by decide +kernel
theorem dX9_ask_148 : decode cX9_ask 148 = .ok (.iload 6, 2) := by decide +kernel
theorem dX9_ask_150 : decode cX9_ask 150 = .ok (.iaload, 1) := by decide +kernel
theorem dX9_ask_151 : decode cX9_ask 151 = .ok (.iadd, 1) := by decide +kernel
theorem dX9_ask_152 : decode cX9_ask 152 = .ok (.istore 5, 2) := by decide +kernel
theorem dX9_ask_154 : decode cX9_ask 154 = .ok (.iinc 6 1, 3) := by decide +kernel
theorem dX9_ask_157 : decode cX9_ask 157 = .ok (.goto (-53), 3) := by decide +kernel
theorem dX9_ask_160 : decode cX9_ask 160 = .ok (.iload_n 2, 1) := by decide +kernel
theorem dX9_ask_161 : decode cX9_ask 161 = .ok (.iconst 1, 1) := by decide +kernel
theorem dX9_ask_162 : decode cX9_ask 162 = .ok (.if_icmp .ne 7, 3) := by decide +kernel
theorem dX9_ask_165 : decode cX9_ask 165 = .ok (.iconst (-1), 1) := by decide +kernel
theorem dX9_ask_166 : decode cX9_ask 166 = .ok (.goto 5, 3) := by decide +kernel
theorem dX9_ask_169 : decode cX9_ask 169 = .ok (.iload 5, 2) := by decide +kernel
theorem dX9_ask_171 : decode cX9_ask 171 = .ok (.ireturn, 1) := by decide +kernel
theorem dJ9_max_7cf53_0 : decode cJ9_max_7cf53 0 = .ok (.iload_n 0, 1) := by decide +kernel
theorem dJ9_max_7cf53_1 : decode cJ9_max_7cf53 1 = .ok (.iload_n 1, 1) := by decide +kernel
theorem dJ9_max_7cf53_2 : decode cJ9_max_7cf53 2 = .ok (.if_icmp .lt 7, 3) := by decide +kernel
theorem dJ9_max_7cf53_5 : decode cJ9_max_7cf53 5 = .ok (.iload_n 0, 1) := by decide +kernel
theorem dJ9_max_7cf53_6 : decode cJ9_max_7cf53 6 = .ok (.goto 4, 3) := by decide +kernel
theorem dJ9_max_7cf53_9 : decode cJ9_max_7cf53 9 = .ok (.iload_n 1, 1) := by decide +kernel
theorem dJ9_max_7cf53_10 : decode cJ9_max_7cf53 10 = .ok (.ireturn, 1) := by decide +kernel
theorem dJ9_max_f86c9_0 : decode cJ9_max_f86c9 0 = .ok (.lload_n 0, 1) := by decide +kernel
theorem dJ9_max_f86c9_1 : decode cJ9_max_f86c9 1 = .ok (.lload_n 2, 1) := by decide +kernel
theorem dJ9_max_f86c9_2 : decode cJ9_max_f86c9 2 = .ok (.lcmp, 1) := by decide +kernel
theorem dJ9_max_f86c9_3 : decode cJ9_max_f86c9 3 = .ok (.ifCond .lt 7, 3) := by decide +kernel
theorem dJ9_max_f86c9_6 : decode cJ9_max_f86c9 6 = .ok (.lload_n 0, 1) := by decide +kernel
theorem dJ9_max_f86c9_7 : decode cJ9_max_f86c9 7 = .ok (.goto 4, 3) := by decide +kernel
theorem dJ9_max_f86c9_10 : decode cJ9_max_f86c9 10 = .ok (.lload_n 2, 1) := by decide +kernel
theorem dJ9_max_f86c9_11 : decode cJ9_max_f86c9 11 = .ok (.lreturn, 1) := by decide +kernel
theorem dJ9_min_7cf53_0 : decode cJ9_min_7cf53 0 = .ok (.iload_n 0, 1) := by decide +kernel
theorem dJ9_min_7cf53_1 : decode cJ9_min_7cf53 1 = .ok (.iload_n 1, 1) := by decide +kernel
theorem dJ9_min_7cf53_2 : decode cJ9_min_7cf53 2 = .ok (.if_icmp .gt 7, 3) := by decide +kernel
theorem dJ9_min_7cf53_5 : decode cJ9_min_7cf53 5 = .ok (.iload_n 0, 1) := by decide +kernel
theorem dJ9_min_7cf53_6 : decode cJ9_min_7cf53 6 = .ok (.goto 4, 3) := by decide +kernel
theorem dJ9_min_7cf53_9 : decode cJ9_min_7cf53 9 = .ok (.iload_n 1, 1) := by decide +kernel
theorem dJ9_min_7cf53_10 : decode cJ9_min_7cf53 10 = .ok (.ireturn, 1) := by decide +kernel
theorem dJ9_min_f86c9_0 : decode cJ9_min_f86c9 0 = .ok (.lload_n 0, 1) := by decide +kernel
theorem dJ9_min_f86c9_1 : decode cJ9_min_f86c9 1 = .ok (.lload_n 2, 1) := by decide +kernel
theorem dJ9_min_f86c9_2 : decode cJ9_min_f86c9 2 = .ok (.lcmp, 1) := by decide +kernel
theorem dJ9_min_f86c9_3 : decode cJ9_min_f86c9 3 = .ok (.ifCond .gt 7, 3) := by decide +kernel
theorem dJ9_min_f86c9_6 : decode cJ9_min_f86c9 6 = .ok (.lload_n 0, 1) := by decide +kernel
theorem dJ9_min_f86c9_7 : decode cJ9_min_f86c9 7 = .ok (.goto 4, 3) := by decide +kernel
theorem dJ9_min_f86c9_10 : decode cJ9_min_f86c9 10 = .ok (.lload_n 2, 1) := by decide +kernel
theorem dJ9_min_f86c9_11 : decode cJ9_min_f86c9 11 = .ok (.lreturn, 1) := by decide +kernel
theorem dJ0_length_8abf5_0 : decode cJ0_length_8abf5 0 = .ok (.aload_n 0, 1) := by decide +kernel
theorem dJ0_length_8abf5_1 : decode cJ0_length_8abf5 1 = .ok (.getfield 9, 3) := by decide +kernel
theorem dJ0_length_8abf5_4 : decode cJ0_length_8abf5 4 = .ok (.arraylength, 1) := by decide +kernel
theorem dJ0_length_8abf5_5 : decode cJ0_length_8abf5 5 = .ok (.aload_n 0, 1) := by decide +kernel
theorem dJ0_length_8abf5_6 : decode cJ0_length_8abf5 6 = .ok (.invokevirtual 335, 3) := by decide +kernel
theorem dJ0_length_8abf5_9 : decode cJ0_length_8abf5 9 = .ok (.ishr, 1) := by decide +kernel
theorem dJ0_length_8abf5_10 : decode cJ0_length_8abf5 10 = .ok (.ireturn, 1) := by decide +kernel
theorem dJ0_charAt_5068e_0 : decode cJ0_charAt_5068e 0 = .ok (.aload_n 0, 1) := by decide +kernel
theorem dJ0_charAt_5068e_1 : decode cJ0_charAt_5068e 1 = .ok (.invokevirtual 492, 3) := by decide +kernel
theorem dJ0_charAt_5068e_4 : decode cJ0_charAt_5068e 4 = .ok (.ifCond .eq 12, 3) := by decide +kernel
theorem dJ0_charAt_5068e_7 : decode cJ0_charAt_5068e 7 = .ok (.aload_n 0, 1) := by decide +kernel
theorem dJ0_charAt_5068e_8 : decode cJ0_charAt_5068e 8 = .ok (.getfield 9, 3) := by decide +kernel
theorem dJ0_charAt_5068e_11 : decode cJ0_charAt_5068e 11 = .ok (.iload_n 1, 1) := by decide +kernel
theorem dJ0_charAt_5068e_12 : decode cJ0_charAt_5068e 12 = .ok (.invokestatic 495, 3) := by decide +kernel
theorem dJ0_charAt_5068e_15 : decode cJ0_charAt_5068e 15 = .ok (.ireturn, 1) := by decide +kernel
theorem dJ0_charAt_5068e_16 : decode cJ0_charAt_5068e 16 = .ok (.aload_n 0, 1) := by decide +kernel
theorem dJ0_charAt_5068e_17 : decode cJ0_charAt_5068e 17 = .ok (.getfield 9, 3) := by decide +kernel
theorem dJ0_charAt_5068e_20 : decode cJ0_charAt_5068e 20 = .ok (.iload_n 1, 1) := by decide +kernel
theorem dJ0_charAt_5068e_21 : decode cJ0_charAt_5068e 21 = .ok (.invokestatic 498, 3) := by decide +kernel
theorem dJ0_charAt_5068e_24 : decode cJ0_charAt_5068e 24 = .ok (.ireturn, 1) := by decide +kernel
theorem dJ0_coder_7d493_0 : decode cJ0_coder_7d493 0 = .ok (.getstatic 38, 3) := by decide +kernel
theorem dJ0_coder_7d493_3 : decode cJ0_coder_7d493 3 = .ok (.ifCond .eq 10, 3) := by decide +kernel
theorem dJ0_coder_7d493_6 : decode cJ0_coder_7d493 6 = .ok (.aload_n 0, 1) := by decide +kernel
theorem dJ0_coder_7d493_7 : decode cJ0_coder_7d493 7 = .ok (.getfield 15, 3) := by decide +kernel
theorem dJ0_coder_7d493_10 : decode cJ0_coder_7d493 10 = .ok (.goto 4, 3) := by decide +kernel
theorem dJ0_coder_7d493_13 : decode cJ0_coder_7d493 13 = .ok (.iconst 1, 1) := by decide +kernel
theorem dJ0_coder_7d493_14 : decode cJ0_coder_7d493 14 = .ok (.ireturn, 1) := by decide +kernel
theorem dJ0_isLatin1_aae02_0 : decode cJ0_isLatin1_aae02 0 = .ok (.getstatic 38, 3) := by decide +kernel
theorem dJ0_isLatin1_aae02_3 : decode cJ0_isLatin1_aae02 3 = .ok (.ifCond .eq 14, 3) := by decide +kernel
theorem dJ0_isLatin1_aae02_6 : decode cJ0_isLatin1_aae02 6 = .ok (.aload_n 0, 1) := by decide +kernel
theorem dJ0_isLatin1_aae02_7 : decode cJ0_isLatin1_aae02 7 = .ok (.getfield 15, 3) := by decide +kernel
theorem dJ0_isLatin1_aae02_10 : decode cJ0_isLatin1_aae02 10 = .ok (.ifCond .ne 7, 3) := by decide +kernel
theorem dJ0_isLatin1_aae02_13 : decode cJ0_isLatin1_aae02 13 = .ok (.iconst 1, 1) := by decide +kernel
theorem dJ0_isLatin1_aae02_14 : decode cJ0_isLatin1_aae02 14 = .ok (.goto 4, 3) := by decide +kernel
theorem dJ0_isLatin1_aae02_17 : decode cJ0_isLatin1_aae02 17 = .ok (.iconst 0, 1) := by decide +kernel
theorem dJ0_isLatin1_aae02_18 : decode cJ0_isLatin1_aae02 18 = .ok (.ireturn, 1) := by decide +kernel
theorem dJ0_checkIndex_df160_0 : decode cJ0_checkIndex_df160 0 = .ok (.iload_n 0, 1) := by decide +kernel
theorem dJ0_checkIndex_df160_1 : decode cJ0_checkIndex_df160 1 = .ok (.iload_n 1, 1) := by decide +kernel
theorem dJ0_checkIndex_df160_2 : decode cJ0_checkIndex_df160 2 = .ok (.getstatic 1053, 3) := by decide +kernel
theorem dJ0_checkIndex_df160_5 : decode cJ0_checkIndex_df160 5 = .ok (.invokestatic 1059, 3) := by decide +kernel
theorem dJ0_checkIndex_df160_8 : decode cJ0_checkIndex_df160 8 = .ok (.pop, 1) := by decide +kernel
theorem dJ0_checkIndex_df160_9 : decode cJ0_checkIndex_df160 9 = .ok (.return_, 1) := by decide +kernel
theorem dJ1_charAt_3b067_0 : decode cJ1_charAt_3b067 0 = .ok (.iload_n 1, 1) := by decide +kernel
theorem dJ1_charAt_3b067_1 : decode cJ1_charAt_3b067 1 = .ok (.aload_n 0, 1) := by decide +kernel
theorem dJ1_charAt_3b067_2 : decode cJ1_charAt_3b067 2 = .ok (.arraylength, 1) := by decide +kernel
theorem dJ1_charAt_3b067_3 : decode cJ1_charAt_3b067 3 = .ok (.invokestatic 9, 3) := by decide +kernel
theorem dJ1_charAt_3b067_6 : decode cJ1_charAt_3b067 6 = .ok (.aload_n 0, 1) := by decide +kernel
theorem dJ1_charAt_3b067_7 : decode cJ1_charAt_3b067 7 = .ok (.iload_n 1, 1) := by decide +kernel
theorem dJ1_charAt_3b067_8 : decode cJ1_charAt_3b067 8 = .ok (.baload, 1) := by decide +kernel
theorem dJ1_charAt_3b067_9 : decode cJ1_charAt_3b067 9 = .ok (.sipush 255, 3) := by decide +kernel
theorem dJ1_charAt_3b067_12 : decode cJ1_charAt_3b067 12 = .ok (.iand, 1) := by decide +kernel
theorem dJ1_charAt_3b067_13 : decode cJ1_charAt_3b067 13 = .ok (.i2c, 1) := by decide +kernel
theorem dJ1_charAt_3b067_14 : decode cJ1_charAt_3b067 14 = .ok (.ireturn, 1) := by decide +kernel
theorem dJ2_getChar_3b067_0 : decode cJ2_getChar_3b067 0 = .ok (.getstatic 44, 3) := by decide +kernel
theorem dJ2_getChar_3b067_3 : decode cJ2_getChar_3b067 3 = .ok (.ifCond .ne 25, 3) := by decide +kernel
theorem dJ2_getChar_3b067_6 : decode cJ2_getChar_3b067 6 = .ok (.iload_n 1, 1) := by decide +kernel
theorem dJ2_getChar_3b067_7 : decode cJ2_getChar_3b067 7 = .ok (.ifCond .lt 11, 3) := by decide +kernel
theorem dJ2_getChar_3b067_10 : decode cJ2_getChar_3b067 10 = .ok (.iload_n 1, 1) := by decide +kernel
theorem dJ2_getChar_3b067_11 : decode cJ2_getChar_3b067 11 = .ok (.aload_n 0, 1) := by decide +kernel
theorem dJ2_getChar_3b067_12 : decode cJ2_getChar_3b067 12 = .ok (.invokestatic 48, 3) := by decide +kernel
theorem dJ2_getChar_3b067_15 : decode cJ2_getChar_3b067 15 = .ok (.if_icmp .lt 13, 3) := by decide +kernel
theorem dJ2_getChar_3b067_18 : decode cJ2_getChar_3b067 18 = .ok (.new 52, 3) := by decide +kernel
theorem dJ2_getChar_3b067_21 : decode cJ2_getChar_3b067 21 = .ok (.dup, 1) := by decide +kernel
theorem dJ2_getChar_3b067_22 : decode cJ2_getChar_3b067 22 = .ok (.ldc 54, 2) := by decide +kernel
theorem dJ2_getChar_3b067_24 : decode cJ2_getChar_3b067 24 = .ok (.invokespecial 56, 3) := by decide +kernel
theorem dJ2_getChar_3b067_27 : decode cJ2_getChar_3b067 27 = .ok (.athrow, 1) := by decide +kernel
theorem dJ2_getChar_3b067_28 : decode cJ2_getChar_3b067 28 = .ok (.iload_n 1, 1) := by decide +kernel
theorem dJ2_getChar_3b067_29 : decode cJ2_getChar_3b067 29 = .ok (.iconst 1, 1) := by decide +kernel
theorem dJ2_getChar_3b067_30 : decode cJ2_getChar_3b067 30 = .ok (.ishl, 1) := by decide +kernel
theorem dJ2_getChar_3b067_31 : decode cJ2_getChar_3b067 31 = .ok (.istore_n 1, 1) := by decide +kernel
theorem dJ2_getChar_3b067_32 : decode cJ2_getChar_3b067 32 = .ok (.aload_n 0, 1) := by decide +kernel
theorem dJ2_getChar_3b067_33 : decode cJ2_getChar_3b067 33 = .ok (.iload_n 1, 1) := by decide +kernel
theorem dJ2_getChar_3b067_34 : decode cJ2_getChar_3b067 34 = .ok (.iinc 1 1, 3) := by decide +kernel
theorem dJ2_getChar_3b067_37 : decode cJ2_getChar_3b067 37 = .ok (.baload, 1) := by decide +kernel
theorem dJ2_getChar_3b067_38 : decode cJ2_getChar_3b067 38 = .ok (.sipush 255, 3) := by decide +kernel
theorem dJ2_getChar_3b067_41 : decode cJ2_getChar_3b067 41 = .ok (.iand, 1) := by decide +kernel
theorem dJ2_getChar_3b067_42 : decode cJ2_getChar_3b067 42 = .ok (.getstatic 59, 3) := by decide +kernel
theorem dJ2_getChar_3b067_45 : decode cJ2_getChar_3b067 45 = .ok (.ishl, 1) := by decide +kernel
theorem dJ2_getChar_3b067_46 : decode cJ2_getChar_3b067 46 = .ok (.aload_n 0, 1) := by decide +kernel
theorem dJ2_getChar_3b067_47 : decode cJ2_getChar_3b067 47 = .ok (.iload_n 1, 1) := by decide +kernel
theorem dJ2_getChar_3b067_48 : decode cJ2_getChar_3b067 48 = .ok (.baload, 1) := by decide +kernel
theorem dJ2_getChar_3b067_49 : decode cJ2_getChar_3b067 49 = .ok (.sipush 255, 3) := by decide +kernel
theorem dJ2_getChar_3b067_52 : decode cJ2_getChar_3b067 52 = .ok (.iand, 1) := by decide +kernel
theorem dJ2_getChar_3b067_53 : decode cJ2_getChar_3b067 53 = .ok (.getstatic 63, 3) := by decide +kernel
theorem dJ2_getChar_3b067_56 : decode cJ2_getChar_3b067 56 = .ok (.ishl, 1) := by decide +kernel
theorem dJ2_getChar_3b067_57 : decode cJ2_getChar_3b067 57 = .ok (.ior, 1) := by decide +kernel
theorem dJ2_getChar_3b067_58 : decode cJ2_getChar_3b067 58 = .ok (.i2c, 1) := by decide +kernel
theorem dJ2_getChar_3b067_59 : decode cJ2_getChar_3b067 59 = .ok (.ireturn, 1) := by decide +kernel
theorem dJ2_length_9d52b_0 : decode cJ2_length_9d52b 0 = .ok (.aload_n 0, 1) := by decide +kernel
theorem dJ2_length_9d52b_1 : decode cJ2_length_9d52b 1 = .ok (.arraylength, 1) := by decide +kernel
theorem dJ2_length_9d52b_2 : decode cJ2_length_9d52b 2 = .ok (.iconst 1, 1) := by decide +kernel
theorem dJ2_length_9d52b_3 : decode cJ2_length_9d52b 3 = .ok (.ishr, 1) := by decide +kernel
theorem dJ2_length_9d52b_4 : decode cJ2_length_9d52b 4 = .ok (.ireturn, 1) := by decide +kernel
theorem dJ2_charAt_3b067_0 : decode cJ2_charAt_3b067 0 = .ok (.iload_n 1, 1) := by decide +kernel
theorem dJ2_charAt_3b067_1 : decode cJ2_charAt_3b067 1 = .ok (.aload_n 0, 1) := by decide +kernel
theorem dJ2_charAt_3b067_2 : decode cJ2_charAt_3b067 2 = .ok (.invokestatic 67, 3) := by decide +kernel
theorem dJ2_charAt_3b067_5 : decode cJ2_charAt_3b067 5 = .ok (.aload_n 0, 1) := by decide +kernel
theorem dJ2_charAt_3b067_6 : decode cJ2_charAt_3b067 6 = .ok (.iload_n 1, 1) := by decide +kernel
theorem dJ2_charAt_3b067_7 : decode cJ2_charAt_3b067 7 = .ok (.invokestatic 71, 3) := by decide +kernel
theorem dJ2_charAt_3b067_10 : decode cJ2_charAt_3b067 10 = .ok (.ireturn, 1) := by decide +kernel
theorem dJ2_checkIndex_2214a_0 : decode cJ2_checkIndex_2214a 0 = .ok (.iload_n 0, 1) := by decide +kernel
theorem dJ2_checkIndex_2214a_1 : decode cJ2_checkIndex_2214a 1 = .ok (.aload_n 1, 1) := by decide +kernel
theorem dJ2_checkIndex_2214a_2 : decode cJ2_checkIndex_2214a 2 = .ok (.invokestatic 48, 3) := by decide +kernel
theorem dJ2_checkIndex_2214a_5 : decode cJ2_checkIndex_2214a 5 = .ok (.invokestatic 414, 3) := by decide +kernel
theorem dJ2_checkIndex_2214a_8 : decode cJ2_checkIndex_2214a 8 = .ok (.return_, 1) := by decide +kernel
theorem dJ7_fill_d0a16_0 : decode cJ7_fill_d0a16 0 = .ok (.iconst 0, 1) := by decide +kernel
theorem dJ7_fill_d0a16_1 : decode cJ7_fill_d0a16 1 = .ok (.istore_n 3, 1) := by decide +kernel
theorem dJ7_fill_d0a16_2 : decode cJ7_fill_d0a16 2 = .ok (.aload_n 0, 1) := by decide +kernel
theorem dJ7_fill_d0a16_3 : decode cJ7_fill_d0a16 3 = .ok (.arraylength, 1) := by decide +kernel
theorem dJ7_fill_d0a16_4 : decode cJ7_fill_d0a16 4 = .ok (.istore 4, 2) := by decide +kernel
theorem dJ7_fill_d0a16_6 : decode cJ7_fill_d0a16 6 = .ok (.iload_n 3, 1) := by decide +kernel
theorem dJ7_fill_d0a16_7 : decode cJ7_fill_d0a16 7 = .ok (.iload 4, 2) := by decide +kernel
theorem dJ7_fill_d0a16_9 : decode cJ7_fill_d0a16 9 = .ok (.if_icmp .ge 13, 3) := by decide +kernel
theorem dJ7_fill_d0a16_12 : decode cJ7_fill_d0a16 12 = .ok (.aload_n 0, 1) := by decide +kernel
theorem dJ7_fill_d0a16_13 : decode cJ7_fill_d0a16 13 = .ok (.iload_n 3, 1) := by decide +kernel
theorem dJ7_fill_d0a16_14 : decode cJ7_fill_d0a16 14 = .ok (.lload_n 1, 1) := by decide +kernel
theorem dJ7_fill_d0a16_15 : decode cJ7_fill_d0a16 15 = .ok (.lastore, 1) := by decide +kernel
theorem dJ7_fill_d0a16_16 : decode cJ7_fill_d0a16 16 = .ok (.iinc 3 1, 3) := by decide +kernel
theorem dJ7_fill_d0a16_19 : decode cJ7_fill_d0a16 19 = .ok (.goto (-13), 3) := by decide +kernel
theorem dJ7_fill_d0a16_22 : decode cJ7_fill_d0a16 22 = .ok (.return_, 1) := by decide +kernel
theorem dJ7_fill_53178_0 : decode cJ7_fill_53178 0 = .ok (.iconst 0, 1) := by decide +kernel
theorem dJ7_fill_53178_1 : decode cJ7_fill_53178 1 = .ok (.istore_n 2, 1) := by decide +kernel
theorem dJ7_fill_53178_2 : decode cJ7_fill_53178 2 = .ok (.aload_n 0, 1) := by decide +kernel
theorem dJ7_fill_53178_3 : decode cJ7_fill_53178 3 = .ok (.arraylength, 1) := by decide +kernel
theorem dJ7_fill_53178_4 : decode cJ7_fill_53178 4 = .ok (.istore_n 3, 1) := by decide +kernel
theorem dJ7_fill_53178_5 : decode cJ7_fill_53178 5 = .ok (.iload_n 2, 1) := by decide +kernel
theorem dJ7_fill_53178_6 : decode cJ7_fill_53178 6 = .ok (.iload_n 3, 1) := by decide +kernel
theorem dJ7_fill_53178_7 : decode cJ7_fill_53178 7 = .ok (.if_icmp .ge 13, 3) := by decide +kernel
theorem dJ7_fill_53178_10 : decode cJ7_fill_53178 10 = .ok (.aload_n 0, 1) := by decide +kernel
theorem dJ7_fill_53178_11 : decode cJ7_fill_53178 11 = .ok (.iload_n 2, 1) := by decide +kernel
theorem dJ7_fill_53178_12 : decode cJ7_fill_53178 12 = .ok (.iload_n 1, 1) := by decide +kernel
theorem dJ7_fill_53178_13 : decode cJ7_fill_53178 13 = .ok (.iastore, 1) := by decide +kernel
theorem dJ7_fill_53178_14 : decode cJ7_fill_53178 14 = .ok (.iinc 2 1, 3) := by decide +kernel
theorem dJ7_fill_53178_17 : decode cJ7_fill_53178 17 = .ok (.goto (-12), 3) := by decide +kernel
theorem dJ7_fill_53178_20 : decode cJ7_fill_53178 20 = .ok (.return_, 1) := by decide +kernel
theorem dJ3_checkIndex_8e157_0 : decode cJ3_checkIndex_8e157 0 = .ok (.iload_n 0, 1) := by decide +kernel
theorem dJ3_checkIndex_8e157_1 : decode cJ3_checkIndex_8e157 1 = .ok (.ifCond .lt 8, 3) := by decide +kernel
theorem dJ3_checkIndex_8e157_4 : decode cJ3_checkIndex_8e157 4 = .ok (.iload_n 0, 1) := by decide +kernel
theorem dJ3_checkIndex_8e157_5 : decode cJ3_checkIndex_8e157 5 = .ok (.iload_n 1, 1) := by decide +kernel
theorem dJ3_checkIndex_8e157_6 : decode cJ3_checkIndex_8e157 6 = .ok (.if_icmp .lt 10, 3) := by decide +kernel
theorem dJ3_checkIndex_8e157_9 : decode cJ3_checkIndex_8e157 9 = .ok (.aload_n 2, 1) := by decide +kernel
theorem dJ3_checkIndex_8e157_10 : decode cJ3_checkIndex_8e157 10 = .ok (.iload_n 0, 1) := by decide +kernel
theorem dJ3_checkIndex_8e157_11 : decode cJ3_checkIndex_8e157 11 = .ok (.iload_n 1, 1) := by decide +kernel
theorem dJ3_checkIndex_8e157_12 : decode cJ3_checkIndex_8e157 12 = .ok (.invokestatic 95, 3) := by decide +kernel
theorem dJ3_checkIndex_8e157_15 : decode cJ3_checkIndex_8e157 15 = .ok (.athrow, 1) := by decide +kernel
theorem dJ3_checkIndex_8e157_16 : decode cJ3_checkIndex_8e157 16 = .ok (.iload_n 0, 1) := by decide +kernel
theorem dJ3_checkIndex_8e157_17 : decode cJ3_checkIndex_8e157 17 = .ok (.ireturn, 1) := by decide +kernel
theorem dL_election_0 : decode cL_election 0 = .ok (.aload_n 2, 1) := by decide +kernel
theorem dL_election_1 : decode cL_election 1 = .ok (.iconst 0, 1) := by decide +kernel
theorem dL_election_2 : decode cL_election 2 = .ok (.aload_n 0, 1) := by decide +kernel
theorem dL_election_3 : decode cL_election 3 = .ok (.iload_n 1, 1) := by decide +kernel
theorem dL_election_4 : decode cL_election 4 = .ok (.invokevirtual 7, 3) := by decide +kernel
theorem dL_election_7 : decode cL_election 7 = .ok (.i2l, 1) := by decide +kernel
theorem dL_election_8 : decode cL_election 8 = .ok (.lastore, 1) := by decide +kernel
theorem dL_election_9 : decode cL_election 9 = .ok (.goto 6, 3) := by decide +kernel
theorem dL_election_12 : decode cL_election 12 = .ok (.astore_n 3, 1) := by decide +kernel
theorem dL_election_13 : decode cL_election 13 = .ok (.iconst 1, 1) := by decide +kernel
theorem dL_election_14 : decode cL_election 14 = .ok (.ireturn, 1) := by decide +kernel
theorem dL_election_15 : decode cL_election 15 = .ok (.iconst 0, 1) := by decide +kernel
theorem dL_election_16 : decode cL_election 16 = .ok (.ireturn, 1) := by decide +kernel
theorem dL_count_0 : decode cL_count 0 = .ok (.aload_n 2, 1) := by decide +kernel
theorem dL_count_1 : decode cL_count 1 = .ok (.iconst 0, 1) := by decide +kernel
theorem dL_count_2 : decode cL_count 2 = .ok (.aload_n 0, 1) := by decide +kernel
theorem dL_count_3 : decode cL_count 3 = .ok (.iload_n 1, 1) := by decide +kernel
theorem dL_count_4 : decode cL_count 4 = .ok (.invokevirtual 15, 3) := by decide +kernel
theorem dL_count_7 : decode cL_count 7 = .ok (.i2l, 1) := by decide +kernel
theorem dL_count_8 : decode cL_count 8 = .ok (.lastore, 1) := by decide +kernel
theorem dL_count_9 : decode cL_count 9 = .ok (.goto 6, 3) := by decide +kernel
theorem dL_count_12 : decode cL_count 12 = .ok (.astore_n 3, 1) := by decide +kernel
theorem dL_count_13 : decode cL_count 13 = .ok (.iconst 1, 1) := by decide +kernel
theorem dL_count_14 : decode cL_count 14 = .ok (.ireturn, 1) := by decide +kernel
theorem dL_count_15 : decode cL_count 15 = .ok (.iconst 0, 1) := by decide +kernel
theorem dL_count_16 : decode cL_count 16 = .ok (.ireturn, 1) := by decide +kernel
theorem dL_race_0 : decode cL_race 0 = .ok (.aload_n 3, 1) := by decide +kernel
theorem dL_race_1 : decode cL_race 1 = .ok (.iconst 0, 1) := by decide +kernel
theorem dL_race_2 : decode cL_race 2 = .ok (.aload_n 0, 1) := by decide +kernel
theorem dL_race_3 : decode cL_race 3 = .ok (.iload_n 1, 1) := by decide +kernel
theorem dL_race_4 : decode cL_race 4 = .ok (.iload_n 2, 1) := by decide +kernel
theorem dL_race_5 : decode cL_race 5 = .ok (.invokevirtual 20, 3) := by decide +kernel
theorem dL_race_8 : decode cL_race 8 = .ok (.i2l, 1) := by decide +kernel
theorem dL_race_9 : decode cL_race 9 = .ok (.lastore, 1) := by decide +kernel
theorem dL_race_10 : decode cL_race 10 = .ok (.goto 7, 3) := by decide +kernel
theorem dL_race_13 : decode cL_race 13 = .ok (.astore 4, 2) := by decide +kernel
theorem dL_race_15 : decode cL_race 15 = .ok (.iconst 1, 1) := by decide +kernel
theorem dL_race_16 : decode cL_race 16 = .ok (.ireturn, 1) := by decide +kernel
theorem dL_race_17 : decode cL_race 17 = .ok (.iconst 0, 1) := by decide +kernel
theorem dL_race_18 : decode cL_race 18 = .ok (.ireturn, 1) := by decide +kernel
theorem dL_risk_0 : decode cL_risk 0 = .ok (.aload_n 2, 1) := by decide +kernel
theorem dL_risk_1 : decode cL_risk 1 = .ok (.iconst 0, 1) := by decide +kernel
theorem dL_risk_2 : decode cL_risk 2 = .ok (.aload_n 0, 1) := by decide +kernel
theorem dL_risk_3 : decode cL_risk 3 = .ok (.iload_n 1, 1) := by decide +kernel
theorem dL_risk_4 : decode cL_risk 4 = .ok (.invokevirtual 24, 3) := by decide +kernel
theorem dL_risk_7 : decode cL_risk 7 = .ok (.lastore, 1) := by decide +kernel
theorem dL_risk_8 : decode cL_risk 8 = .ok (.goto 6, 3) := by decide +kernel
theorem dL_risk_11 : decode cL_risk 11 = .ok (.astore_n 3, 1) := by decide +kernel
theorem dL_risk_12 : decode cL_risk 12 = .ok (.iconst 1, 1) := by decide +kernel
theorem dL_risk_13 : decode cL_risk 13 = .ok (.ireturn, 1) := by decide +kernel
theorem dL_risk_14 : decode cL_risk 14 = .ok (.iconst 0, 1) := by decide +kernel
theorem dL_risk_15 : decode cL_risk 15 = .ok (.ireturn, 1) := by decide +kernel
theorem dL_riskOf_0 : decode cL_riskOf 0 = .ok (.aload_n 3, 1) := by decide +kernel
theorem dL_riskOf_1 : decode cL_riskOf 1 = .ok (.iconst 0, 1) := by decide +kernel
theorem dL_riskOf_2 : decode cL_riskOf 2 = .ok (.aload_n 0, 1) := by decide +kernel
theorem dL_riskOf_3 : decode cL_riskOf 3 = .ok (.iload_n 1, 1) := by decide +kernel
theorem dL_riskOf_4 : decode cL_riskOf 4 = .ok (.iload_n 2, 1) := by decide +kernel
theorem dL_riskOf_5 : decode cL_riskOf 5 = .ok (.invokevirtual 28, 3) := by decide +kernel
theorem dL_riskOf_8 : decode cL_riskOf 8 = .ok (.lastore, 1) := by decide +kernel
theorem dL_riskOf_9 : decode cL_riskOf 9 = .ok (.goto 7, 3) := by decide +kernel
theorem dL_riskOf_12 : decode cL_riskOf 12 = .ok (.astore 4, 2) := by decide +kernel
theorem dL_riskOf_14 : decode cL_riskOf 14 = .ok (.iconst 1, 1) := by decide +kernel
theorem dL_riskOf_15 : decode cL_riskOf 15 = .ok (.ireturn, 1) := by decide +kernel
theorem dL_riskOf_16 : decode cL_riskOf 16 = .ok (.iconst 0, 1) := by decide +kernel
theorem dL_riskOf_17 : decode cL_riskOf 17 = .ok (.ireturn, 1) := by decide +kernel
theorem dL_worst_0 : decode cL_worst 0 = .ok (.aload_n 2, 1) := by decide +kernel
theorem dL_worst_1 : decode cL_worst 1 = .ok (.iconst 0, 1) := by decide +kernel
theorem dL_worst_2 : decode cL_worst 2 = .ok (.aload_n 0, 1) := by decide +kernel
theorem dL_worst_3 : decode cL_worst 3 = .ok (.iload_n 1, 1) := by decide +kernel
theorem dL_worst_4 : decode cL_worst 4 = .ok (.invokevirtual 32, 3) := by decide +kernel
theorem dL_worst_7 : decode cL_worst 7 = .ok (.i2l, 1) := by decide +kernel
theorem dL_worst_8 : decode cL_worst 8 = .ok (.lastore, 1) := by decide +kernel
theorem dL_worst_9 : decode cL_worst 9 = .ok (.goto 6, 3) := by decide +kernel
theorem dL_worst_12 : decode cL_worst 12 = .ok (.astore_n 3, 1) := by decide +kernel
theorem dL_worst_13 : decode cL_worst 13 = .ok (.iconst 1, 1) := by decide +kernel
theorem dL_worst_14 : decode cL_worst 14 = .ok (.ireturn, 1) := by decide +kernel
theorem dL_worst_15 : decode cL_worst 15 = .ok (.iconst 0, 1) := by decide +kernel
theorem dL_worst_16 : decode cL_worst 16 = .ok (.ireturn, 1) := by decide +kernel
theorem dL_chance_0 : decode cL_chance 0 = .ok (.aload_n 3, 1) := by decide +kernel
theorem dL_chance_1 : decode cL_chance 1 = .ok (.iconst 0, 1) := by decide +kernel
theorem dL_chance_2 : decode cL_chance 2 = .ok (.aload_n 0, 1) := by decide +kernel
theorem dL_chance_3 : decode cL_chance 3 = .ok (.iload_n 1, 1) := by decide +kernel
theorem dL_chance_4 : decode cL_chance 4 = .ok (.iload_n 2, 1) := by decide +kernel
theorem dL_chance_5 : decode cL_chance 5 = .ok (.invokevirtual 35, 3) := by decide +kernel
theorem dL_chance_8 : decode cL_chance 8 = .ok (.lastore, 1) := by decide +kernel
theorem dL_chance_9 : decode cL_chance 9 = .ok (.goto 11, 3) := by decide +kernel
theorem dL_chance_12 : decode cL_chance 12 = .ok (.astore 4, 2) := by decide +kernel
theorem dL_chance_14 : decode cL_chance 14 = .ok (.iconst 1, 1) := by decide +kernel
theorem dL_chance_15 : decode cL_chance 15 = .ok (.ireturn, 1) := by decide +kernel
theorem dL_chance_16 : decode cL_chance 16 = .ok (.astore 4, 2) := by decide +kernel
theorem dL_chance_18 : decode cL_chance 18 = .ok (.iconst 2, 1) := by decide +kernel
theorem dL_chance_19 : decode cL_chance 19 = .ok (.ireturn, 1) := by decide +kernel
theorem dL_chance_20 : decode cL_chance 20 = .ok (.iconst 0, 1) := by decide +kernel
theorem dL_chance_21 : decode cL_chance 21 = .ok (.ireturn, 1) := by decide +kernel
theorem dL_enough_0 : decode cL_enough 0 = .ok (.aload_n 2, 1) := by decide +kernel
theorem dL_enough_1 : decode cL_enough 1 = .ok (.iconst 0, 1) := by decide +kernel
theorem dL_enough_2 : decode cL_enough 2 = .ok (.aload_n 0, 1) := by decide +kernel
theorem dL_enough_3 : decode cL_enough 3 = .ok (.iload_n 1, 1) := by decide +kernel
theorem dL_enough_4 : decode cL_enough 4 = .ok (.invokevirtual 38, 3) := by decide +kernel
theorem dL_enough_7 : decode cL_enough 7 = .ok (.i2l, 1) := by decide +kernel
theorem dL_enough_8 : decode cL_enough 8 = .ok (.lastore, 1) := by decide +kernel
theorem dL_enough_9 : decode cL_enough 9 = .ok (.goto 6, 3) := by decide +kernel
theorem dL_enough_12 : decode cL_enough 12 = .ok (.astore_n 3, 1) := by decide +kernel
theorem dL_enough_13 : decode cL_enough 13 = .ok (.iconst 1, 1) := by decide +kernel
theorem dL_enough_14 : decode cL_enough 14 = .ok (.ireturn, 1) := by decide +kernel
theorem dL_enough_15 : decode cL_enough 15 = .ok (.iconst 0, 1) := by decide +kernel
theorem dL_enough_16 : decode cL_enough 16 = .ok (.ireturn, 1) := by decide +kernel
theorem dL_flips_0 : decode cL_flips 0 = .ok (.aload_n 3, 1) := by decide +kernel
theorem dL_flips_1 : decode cL_flips 1 = .ok (.iconst 0, 1) := by decide +kernel
theorem dL_flips_2 : decode cL_flips 2 = .ok (.aload_n 0, 1) := by decide +kernel
theorem dL_flips_3 : decode cL_flips 3 = .ok (.iload_n 1, 1) := by decide +kernel
theorem dL_flips_4 : decode cL_flips 4 = .ok (.iload_n 2, 1) := by decide +kernel
theorem dL_flips_5 : decode cL_flips 5 = .ok (.invokevirtual 41, 3) := by decide +kernel
theorem dL_flips_8 : decode cL_flips 8 = .ok (.i2l, 1) := by decide +kernel
theorem dL_flips_9 : decode cL_flips 9 = .ok (.lastore, 1) := by decide +kernel
theorem dL_flips_10 : decode cL_flips 10 = .ok (.goto 7, 3) := by decide +kernel
theorem dL_flips_13 : decode cL_flips 13 = .ok (.astore 4, 2) := by decide +kernel
theorem dL_flips_15 : decode cL_flips 15 = .ok (.iconst 1, 1) := by decide +kernel
theorem dL_flips_16 : decode cL_flips 16 = .ok (.ireturn, 1) := by decide +kernel
theorem dL_flips_17 : decode cL_flips 17 = .ok (.iconst 0, 1) := by decide +kernel
theorem dL_flips_18 : decode cL_flips 18 = .ok (.ireturn, 1) := by decide +kernel
theorem dL_votes_0 : decode cL_votes 0 = .ok (.aload 4, 2) := by decide +kernel
theorem dL_votes_2 : decode cL_votes 2 = .ok (.iconst 0, 1) := by decide +kernel
theorem dL_votes_3 : decode cL_votes 3 = .ok (.aload_n 0, 1) := by decide +kernel
theorem dL_votes_4 : decode cL_votes 4 = .ok (.iload_n 1, 1) := by decide +kernel
theorem dL_votes_5 : decode cL_votes 5 = .ok (.iload_n 2, 1) := by decide +kernel
theorem dL_votes_6 : decode cL_votes 6 = .ok (.iload_n 3, 1) := by decide +kernel
theorem dL_votes_7 : decode cL_votes 7 = .ok (.invokevirtual 44, 3) := by decide +kernel
theorem dL_votes_10 : decode cL_votes 10 = .ok (.i2l, 1) := by decide +kernel
theorem dL_votes_11 : decode cL_votes 11 = .ok (.lastore, 1) := by decide +kernel
theorem dL_votes_12 : decode cL_votes 12 = .ok (.goto 7, 3) := by decide +kernel
theorem dL_votes_15 : decode cL_votes 15 = .ok (.astore 5, 2) := by decide +kernel
theorem dL_votes_17 : decode cL_votes 17 = .ok (.iconst 1, 1) := by decide +kernel
theorem dL_votes_18 : decode cL_votes 18 = .ok (.ireturn, 1) := by decide +kernel
theorem dL_votes_19 : decode cL_votes 19 = .ok (.iconst 0, 1) := by decide +kernel
theorem dL_votes_20 : decode cL_votes 20 = .ok (.ireturn, 1) := by decide +kernel
theorem dL_ballot_0 : decode cL_ballot 0 = .ok (.aload 4, 2) := by decide +kernel
theorem dL_ballot_2 : decode cL_ballot 2 = .ok (.iconst 0, 1) := by decide +kernel
theorem dL_ballot_3 : decode cL_ballot 3 = .ok (.aload_n 0, 1) := by decide +kernel
theorem dL_ballot_4 : decode cL_ballot 4 = .ok (.iload_n 1, 1) := by decide +kernel
theorem dL_ballot_5 : decode cL_ballot 5 = .ok (.iload_n 2, 1) := by decide +kernel
theorem dL_ballot_6 : decode cL_ballot 6 = .ok (.iload_n 3, 1) := by decide +kernel
theorem dL_ballot_7 : decode cL_ballot 7 = .ok (.invokevirtual 48, 3) := by decide +kernel
theorem dL_ballot_10 : decode cL_ballot 10 = .ok (.i2l, 1) := by decide +kernel
theorem dL_ballot_11 : decode cL_ballot 11 = .ok (.lastore, 1) := by decide +kernel
theorem dL_ballot_12 : decode cL_ballot 12 = .ok (.goto 7, 3) := by decide +kernel
theorem dL_ballot_15 : decode cL_ballot 15 = .ok (.astore 5, 2) := by decide +kernel
theorem dL_ballot_17 : decode cL_ballot 17 = .ok (.iconst 1, 1) := by decide +kernel
theorem dL_ballot_18 : decode cL_ballot 18 = .ok (.ireturn, 1) := by decide +kernel
theorem dL_ballot_19 : decode cL_ballot 19 = .ok (.iconst 0, 1) := by decide +kernel
theorem dL_ballot_20 : decode cL_ballot 20 = .ok (.ireturn, 1) := by decide +kernel
theorem dL_drawn_0 : decode cL_drawn 0 = .ok (.aload_n 2, 1) := by decide +kernel
theorem dL_drawn_1 : decode cL_drawn 1 = .ok (.iconst 0, 1) := by decide +kernel
theorem dL_drawn_2 : decode cL_drawn 2 = .ok (.aload_n 0, 1) := by decide +kernel
theorem dL_drawn_3 : decode cL_drawn 3 = .ok (.iload_n 1, 1) := by decide +kernel
theorem dL_drawn_4 : decode cL_drawn 4 = .ok (.invokevirtual 52, 3) := by decide +kernel
theorem dL_drawn_7 : decode cL_drawn 7 = .ok (.i2l, 1) := by decide +kernel
theorem dL_drawn_8 : decode cL_drawn 8 = .ok (.lastore, 1) := by decide +kernel
theorem dL_drawn_9 : decode cL_drawn 9 = .ok (.goto 6, 3) := by decide +kernel
theorem dL_drawn_12 : decode cL_drawn 12 = .ok (.astore_n 3, 1) := by decide +kernel
theorem dL_drawn_13 : decode cL_drawn 13 = .ok (.iconst 1, 1) := by decide +kernel
theorem dL_drawn_14 : decode cL_drawn 14 = .ok (.ireturn, 1) := by decide +kernel
theorem dL_drawn_15 : decode cL_drawn 15 = .ok (.iconst 0, 1) := by decide +kernel
theorem dL_drawn_16 : decode cL_drawn 16 = .ok (.ireturn, 1) := by decide +kernel
theorem dL_times_0 : decode cL_times 0 = .ok (.aload_n 2, 1) := by decide +kernel
theorem dL_times_1 : decode cL_times 1 = .ok (.iconst 0, 1) := by decide +kernel
theorem dL_times_2 : decode cL_times 2 = .ok (.aload_n 0, 1) := by decide +kernel
theorem dL_times_3 : decode cL_times 3 = .ok (.iload_n 1, 1) := by decide +kernel
theorem dL_times_4 : decode cL_times 4 = .ok (.invokevirtual 55, 3) := by decide +kernel
theorem dL_times_7 : decode cL_times 7 = .ok (.i2l, 1) := by decide +kernel
theorem dL_times_8 : decode cL_times 8 = .ok (.lastore, 1) := by decide +kernel
theorem dL_times_9 : decode cL_times 9 = .ok (.goto 6, 3) := by decide +kernel
theorem dL_times_12 : decode cL_times 12 = .ok (.astore_n 3, 1) := by decide +kernel
theorem dL_times_13 : decode cL_times 13 = .ok (.iconst 1, 1) := by decide +kernel
theorem dL_times_14 : decode cL_times 14 = .ok (.ireturn, 1) := by decide +kernel
theorem dL_times_15 : decode cL_times 15 = .ok (.iconst 0, 1) := by decide +kernel
theorem dL_times_16 : decode cL_times 16 = .ok (.ireturn, 1) := by decide +kernel
theorem dL_mistakes_0 : decode cL_mistakes 0 = .ok (.aload_n 3, 1) := by decide +kernel
theorem dL_mistakes_1 : decode cL_mistakes 1 = .ok (.iconst 0, 1) := by decide +kernel
theorem dL_mistakes_2 : decode cL_mistakes 2 = .ok (.aload_n 0, 1) := by decide +kernel
theorem dL_mistakes_3 : decode cL_mistakes 3 = .ok (.iload_n 1, 1) := by decide +kernel
theorem dL_mistakes_4 : decode cL_mistakes 4 = .ok (.iload_n 2, 1) := by decide +kernel
theorem dL_mistakes_5 : decode cL_mistakes 5 = .ok (.invokevirtual 58, 3) := by decide +kernel
theorem dL_mistakes_8 : decode cL_mistakes 8 = .ok (.i2l, 1) := by decide +kernel
theorem dL_mistakes_9 : decode cL_mistakes 9 = .ok (.lastore, 1) := by decide +kernel
theorem dL_mistakes_10 : decode cL_mistakes 10 = .ok (.goto 7, 3) := by decide +kernel
theorem dL_mistakes_13 : decode cL_mistakes 13 = .ok (.astore 4, 2) := by decide +kernel
theorem dL_mistakes_15 : decode cL_mistakes 15 = .ok (.iconst 1, 1) := by decide +kernel
theorem dL_mistakes_16 : decode cL_mistakes 16 = .ok (.ireturn, 1) := by decide +kernel
theorem dL_mistakes_17 : decode cL_mistakes 17 = .ok (.iconst 0, 1) := by decide +kernel
theorem dL_mistakes_18 : decode cL_mistakes 18 = .ok (.ireturn, 1) := by decide +kernel
theorem dL_riskAt_0 : decode cL_riskAt 0 = .ok (.aload_n 3, 1) := by decide +kernel
theorem dL_riskAt_1 : decode cL_riskAt 1 = .ok (.iconst 0, 1) := by decide +kernel
theorem dL_riskAt_2 : decode cL_riskAt 2 = .ok (.aload_n 0, 1) := by decide +kernel
theorem dL_riskAt_3 : decode cL_riskAt 3 = .ok (.iload_n 1, 1) := by decide +kernel
theorem dL_riskAt_4 : decode cL_riskAt 4 = .ok (.iload_n 2, 1) := by decide +kernel
theorem dL_riskAt_5 : decode cL_riskAt 5 = .ok (.invokevirtual 61, 3) := by decide +kernel
theorem dL_riskAt_8 : decode cL_riskAt 8 = .ok (.lastore, 1) := by decide +kernel
theorem dL_riskAt_9 : decode cL_riskAt 9 = .ok (.goto 7, 3) := by decide +kernel
theorem dL_riskAt_12 : decode cL_riskAt 12 = .ok (.astore 4, 2) := by decide +kernel
theorem dL_riskAt_14 : decode cL_riskAt 14 = .ok (.iconst 1, 1) := by decide +kernel
theorem dL_riskAt_15 : decode cL_riskAt 15 = .ok (.ireturn, 1) := by decide +kernel
theorem dL_riskAt_16 : decode cL_riskAt 16 = .ok (.iconst 0, 1) := by decide +kernel
theorem dL_riskAt_17 : decode cL_riskAt 17 = .ok (.ireturn, 1) := by decide +kernel
theorem dL_draw_0 : decode cL_draw 0 = .ok (.aload_n 2, 1) := by decide +kernel
theorem dL_draw_1 : decode cL_draw 1 = .ok (.iconst 0, 1) := by decide +kernel
theorem dL_draw_2 : decode cL_draw 2 = .ok (.aload_n 0, 1) := by decide +kernel
theorem dL_draw_3 : decode cL_draw 3 = .ok (.iload_n 1, 1) := by decide +kernel
theorem dL_draw_4 : decode cL_draw 4 = .ok (.invokevirtual 64, 3) := by decide +kernel
theorem dL_draw_7 : decode cL_draw 7 = .ok (.i2l, 1) := by decide +kernel
theorem dL_draw_8 : decode cL_draw 8 = .ok (.lastore, 1) := by decide +kernel
theorem dL_draw_9 : decode cL_draw 9 = .ok (.goto 6, 3) := by decide +kernel
theorem dL_draw_12 : decode cL_draw 12 = .ok (.astore_n 3, 1) := by decide +kernel
theorem dL_draw_13 : decode cL_draw 13 = .ok (.iconst 1, 1) := by decide +kernel
theorem dL_draw_14 : decode cL_draw 14 = .ok (.ireturn, 1) := by decide +kernel
theorem dL_draw_15 : decode cL_draw 15 = .ok (.iconst 0, 1) := by decide +kernel
theorem dL_draw_16 : decode cL_draw 16 = .ok (.ireturn, 1) := by decide +kernel
theorem dL_next_0 : decode cL_next 0 = .ok (.aload_n 3, 1) := by decide +kernel
theorem dL_next_1 : decode cL_next 1 = .ok (.iconst 0, 1) := by decide +kernel
theorem dL_next_2 : decode cL_next 2 = .ok (.aload_n 0, 1) := by decide +kernel
theorem dL_next_3 : decode cL_next 3 = .ok (.iload_n 1, 1) := by decide +kernel
theorem dL_next_4 : decode cL_next 4 = .ok (.iload_n 2, 1) := by decide +kernel
theorem dL_next_5 : decode cL_next 5 = .ok (.invokevirtual 67, 3) := by decide +kernel
theorem dL_next_8 : decode cL_next 8 = .ok (.lastore, 1) := by decide +kernel
theorem dL_next_9 : decode cL_next 9 = .ok (.goto 7, 3) := by decide +kernel
theorem dL_next_12 : decode cL_next 12 = .ok (.astore 4, 2) := by decide +kernel
theorem dL_next_14 : decode cL_next 14 = .ok (.iconst 1, 1) := by decide +kernel
theorem dL_next_15 : decode cL_next 15 = .ok (.ireturn, 1) := by decide +kernel
theorem dL_next_16 : decode cL_next 16 = .ok (.iconst 0, 1) := by decide +kernel
theorem dL_next_17 : decode cL_next 17 = .ok (.ireturn, 1) := by decide +kernel
theorem dL_paper_0 : decode cL_paper 0 = .ok (.aload 4, 2) := by decide +kernel
theorem dL_paper_2 : decode cL_paper 2 = .ok (.iconst 0, 1) := by decide +kernel
theorem dL_paper_3 : decode cL_paper 3 = .ok (.aload_n 0, 1) := by decide +kernel
theorem dL_paper_4 : decode cL_paper 4 = .ok (.iload_n 1, 1) := by decide +kernel
theorem dL_paper_5 : decode cL_paper 5 = .ok (.iload_n 2, 1) := by decide +kernel
theorem dL_paper_6 : decode cL_paper 6 = .ok (.iload_n 3, 1) := by decide +kernel
theorem dL_paper_7 : decode cL_paper 7 = .ok (.invokevirtual 70, 3) := by decide +kernel
theorem dL_paper_10 : decode cL_paper 10 = .ok (.i2l, 1) := by decide +kernel
theorem dL_paper_11 : decode cL_paper 11 = .ok (.lastore, 1) := by decide +kernel
theorem dL_paper_12 : decode cL_paper 12 = .ok (.goto 11, 3) := by decide +kernel
theorem dL_paper_15 : decode cL_paper 15 = .ok (.astore 5, 2) := by decide +kernel
theorem dL_paper_17 : decode cL_paper 17 = .ok (.iconst 1, 1) := by decide +kernel
theorem dL_paper_18 : decode cL_paper 18 = .ok (.ireturn, 1) := by decide +kernel
theorem dL_paper_19 : decode cL_paper 19 = .ok (.astore 5, 2) := by decide +kernel
theorem dL_paper_21 : decode cL_paper 21 = .ok (.iconst 2, 1) := by decide +kernel
theorem dL_paper_22 : decode cL_paper 22 = .ok (.ireturn, 1) := by decide +kernel
theorem dL_paper_23 : decode cL_paper 23 = .ok (.iconst 0, 1) := by decide +kernel
theorem dL_paper_24 : decode cL_paper 24 = .ok (.ireturn, 1) := by decide +kernel
theorem dL_way_0 : decode cL_way 0 = .ok (.aload_n 3, 1) := by decide +kernel
theorem dL_way_1 : decode cL_way 1 = .ok (.iconst 0, 1) := by decide +kernel
theorem dL_way_2 : decode cL_way 2 = .ok (.aload_n 0, 1) := by decide +kernel
theorem dL_way_3 : decode cL_way 3 = .ok (.iload_n 1, 1) := by decide +kernel
theorem dL_way_4 : decode cL_way 4 = .ok (.iload_n 2, 1) := by decide +kernel
theorem dL_way_5 : decode cL_way 5 = .ok (.invokevirtual 73, 3) := by decide +kernel
theorem dL_way_8 : decode cL_way 8 = .ok (.i2l, 1) := by decide +kernel
theorem dL_way_9 : decode cL_way 9 = .ok (.lastore, 1) := by decide +kernel
theorem dL_way_10 : decode cL_way 10 = .ok (.goto 11, 3) := by decide +kernel
theorem dL_way_13 : decode cL_way 13 = .ok (.astore 4, 2) := by decide +kernel
theorem dL_way_15 : decode cL_way 15 = .ok (.iconst 1, 1) := by decide +kernel
theorem dL_way_16 : decode cL_way 16 = .ok (.ireturn, 1) := by decide +kernel
theorem dL_way_17 : decode cL_way 17 = .ok (.astore 4, 2) := by decide +kernel
theorem dL_way_19 : decode cL_way 19 = .ok (.iconst 2, 1) := by decide +kernel
theorem dL_way_20 : decode cL_way 20 = .ok (.ireturn, 1) := by decide +kernel
theorem dL_way_21 : decode cL_way 21 = .ok (.iconst 0, 1) := by decide +kernel
theorem dL_way_22 : decode cL_way 22 = .ok (.ireturn, 1) := by decide +kernel
theorem dL_rule_0 : decode cL_rule 0 = .ok (.aload_n 3, 1) := by decide +kernel
theorem dL_rule_1 : decode cL_rule 1 = .ok (.iconst 0, 1) := by decide +kernel
theorem dL_rule_2 : decode cL_rule 2 = .ok (.aload_n 0, 1) := by decide +kernel
theorem dL_rule_3 : decode cL_rule 3 = .ok (.iload_n 1, 1) := by decide +kernel
theorem dL_rule_4 : decode cL_rule 4 = .ok (.iload_n 2, 1) := by decide +kernel
theorem dL_rule_5 : decode cL_rule 5 = .ok (.invokevirtual 76, 3) := by decide +kernel
theorem dL_rule_8 : decode cL_rule 8 = .ok (.i2l, 1) := by decide +kernel
theorem dL_rule_9 : decode cL_rule 9 = .ok (.lastore, 1) := by decide +kernel
theorem dL_rule_10 : decode cL_rule 10 = .ok (.goto 11, 3) := by decide +kernel
theorem dL_rule_13 : decode cL_rule 13 = .ok (.astore 4, 2) := by decide +kernel
theorem dL_rule_15 : decode cL_rule 15 = .ok (.iconst 1, 1) := by decide +kernel
theorem dL_rule_16 : decode cL_rule 16 = .ok (.ireturn, 1) := by decide +kernel
theorem dL_rule_17 : decode cL_rule 17 = .ok (.astore 4, 2) := by decide +kernel
theorem dL_rule_19 : decode cL_rule 19 = .ok (.iconst 2, 1) := by decide +kernel
theorem dL_rule_20 : decode cL_rule 20 = .ok (.ireturn, 1) := by decide +kernel
theorem dL_rule_21 : decode cL_rule 21 = .ok (.iconst 0, 1) := by decide +kernel
theorem dL_rule_22 : decode cL_rule 22 = .ok (.ireturn, 1) := by decide +kernel
theorem dL_need_0 : decode cL_need 0 = .ok (.aload 4, 2) := by decide +kernel
theorem dL_need_2 : decode cL_need 2 = .ok (.iconst 0, 1) := by decide +kernel
theorem dL_need_3 : decode cL_need 3 = .ok (.aload_n 0, 1) := by decide +kernel
theorem dL_need_4 : decode cL_need 4 = .ok (.iload_n 1, 1) := by decide +kernel
theorem dL_need_5 : decode cL_need 5 = .ok (.iload_n 2, 1) := by decide +kernel
theorem dL_need_6 : decode cL_need 6 = .ok (.iload_n 3, 1) := by decide +kernel
theorem dL_need_7 : decode cL_need 7 = .ok (.invokevirtual 79, 3) := by decide +kernel
theorem dL_need_10 : decode cL_need 10 = .ok (.i2l, 1) := by decide +kernel
theorem dL_need_11 : decode cL_need 11 = .ok (.lastore, 1) := by decide +kernel
theorem dL_need_12 : decode cL_need 12 = .ok (.goto 11, 3) := by decide +kernel
theorem dL_need_15 : decode cL_need 15 = .ok (.astore 5, 2) := by decide +kernel
theorem dL_need_17 : decode cL_need 17 = .ok (.iconst 1, 1) := by decide +kernel
theorem dL_need_18 : decode cL_need 18 = .ok (.ireturn, 1) := by decide +kernel
theorem dL_need_19 : decode cL_need 19 = .ok (.astore 5, 2) := by decide +kernel
theorem dL_need_21 : decode cL_need 21 = .ok (.iconst 2, 1) := by decide +kernel
theorem dL_need_22 : decode cL_need 22 = .ok (.ireturn, 1) := by decide +kernel
theorem dL_need_23 : decode cL_need 23 = .ok (.iconst 0, 1) := by decide +kernel
theorem dL_need_24 : decode cL_need 24 = .ok (.ireturn, 1) := by decide +kernel
theorem dL_bestFactor_0 : decode cL_bestFactor 0 = .ok (.aload 4, 2) := by decide +kernel
theorem dL_bestFactor_2 : decode cL_bestFactor 2 = .ok (.iconst 0, 1) := by decide +kernel
theorem dL_bestFactor_3 : decode cL_bestFactor 3 = .ok (.aload_n 0, 1) := by decide +kernel
theorem dL_bestFactor_4 : decode cL_bestFactor 4 = .ok (.iload_n 1, 1) := by decide +kernel
theorem dL_bestFactor_5 : decode cL_bestFactor 5 = .ok (.iload_n 2, 1) := by decide +kernel
theorem dL_bestFactor_6 : decode cL_bestFactor 6 = .ok (.iload_n 3, 1) := by decide +kernel
theorem dL_bestFactor_7 : decode cL_bestFactor 7 = .ok (.invokevirtual 82, 3) := by decide +kernel
theorem dL_bestFactor_10 : decode cL_bestFactor 10 = .ok (.i2l, 1) := by decide +kernel
theorem dL_bestFactor_11 : decode cL_bestFactor 11 = .ok (.lastore, 1) := by decide +kernel
theorem dL_bestFactor_12 : decode cL_bestFactor 12 = .ok (.goto 11, 3) := by decide +kernel
theorem dL_bestFactor_15 : decode cL_bestFactor 15 = .ok (.astore 5, 2) := by decide +kernel
theorem dL_bestFactor_17 : decode cL_bestFactor 17 = .ok (.iconst 1, 1) := by decide +kernel
theorem dL_bestFactor_18 : decode cL_bestFactor 18 = .ok (.ireturn, 1) := by decide +kernel
theorem dL_bestFactor_19 : decode cL_bestFactor 19 = .ok (.astore 5, 2) := by decide +kernel
theorem dL_bestFactor_21 : decode cL_bestFactor 21 = .ok (.iconst 2, 1) := by decide +kernel
theorem dL_bestFactor_22 : decode cL_bestFactor 22 = .ok (.ireturn, 1) := by decide +kernel
theorem dL_bestFactor_23 : decode cL_bestFactor 23 = .ok (.iconst 0, 1) := by decide +kernel
theorem dL_bestFactor_24 : decode cL_bestFactor 24 = .ok (.ireturn, 1) := by decide +kernel
theorem dL_more_0 : decode cL_more 0 = .ok (.aload_n 2, 1) := by decide +kernel
theorem dL_more_1 : decode cL_more 1 = .ok (.iconst 0, 1) := by decide +kernel
theorem dL_more_2 : decode cL_more 2 = .ok (.aload_n 0, 1) := by decide +kernel
theorem dL_more_3 : decode cL_more 3 = .ok (.iload_n 1, 1) := by decide +kernel
theorem dL_more_4 : decode cL_more 4 = .ok (.invokevirtual 85, 3) := by decide +kernel
theorem dL_more_7 : decode cL_more 7 = .ok (.i2l, 1) := by decide +kernel
theorem dL_more_8 : decode cL_more 8 = .ok (.lastore, 1) := by decide +kernel
theorem dL_more_9 : decode cL_more 9 = .ok (.goto 6, 3) := by decide +kernel
theorem dL_more_12 : decode cL_more 12 = .ok (.astore_n 3, 1) := by decide +kernel
theorem dL_more_13 : decode cL_more 13 = .ok (.iconst 1, 1) := by decide +kernel
theorem dL_more_14 : decode cL_more 14 = .ok (.ireturn, 1) := by decide +kernel
theorem dL_more_15 : decode cL_more 15 = .ok (.iconst 0, 1) := by decide +kernel
theorem dL_more_16 : decode cL_more 16 = .ok (.ireturn, 1) := by decide +kernel
theorem dL_tries_0 : decode cL_tries 0 = .ok (.aload 5, 2) := by decide +kernel
theorem dL_tries_2 : decode cL_tries 2 = .ok (.iconst 0, 1) := by decide +kernel
theorem dL_tries_3 : decode cL_tries 3 = .ok (.aload_n 0, 1) := by decide +kernel
theorem dL_tries_4 : decode cL_tries 4 = .ok (.iload_n 1, 1) := by decide +kernel
theorem dL_tries_5 : decode cL_tries 5 = .ok (.iload_n 2, 1) := by decide +kernel
theorem dL_tries_6 : decode cL_tries 6 = .ok (.iload_n 3, 1) := by decide +kernel
theorem dL_tries_7 : decode cL_tries 7 = .ok (.iload 4, 2) := by decide +kernel
theorem dL_tries_9 : decode cL_tries 9 = .ok (.invokevirtual 88, 3) := by decide +kernel
theorem dL_tries_12 : decode cL_tries 12 = .ok (.i2l, 1) := by decide +kernel
theorem dL_tries_13 : decode cL_tries 13 = .ok (.lastore, 1) := by decide +kernel
theorem dL_tries_14 : decode cL_tries 14 = .ok (.goto 11, 3) := by decide +kernel
theorem dL_tries_17 : decode cL_tries 17 = .ok (.astore 6, 2) := by decide +kernel
theorem dL_tries_19 : decode cL_tries 19 = .ok (.iconst 1, 1) := by decide +kernel
theorem dL_tries_20 : decode cL_tries 20 = .ok (.ireturn, 1) := by decide +kernel
theorem dL_tries_21 : decode cL_tries 21 = .ok (.astore 6, 2) := by decide +kernel
theorem dL_tries_23 : decode cL_tries 23 = .ok (.iconst 2, 1) := by decide +kernel
theorem dL_tries_24 : decode cL_tries 24 = .ok (.ireturn, 1) := by decide +kernel
theorem dL_tries_25 : decode cL_tries 25 = .ok (.iconst 0, 1) := by decide +kernel
theorem dL_tries_26 : decode cL_tries 26 = .ok (.ireturn, 1) := by decide +kernel
theorem dL_quickest_0 : decode cL_quickest 0 = .ok (.aload_n 3, 1) := by decide +kernel
theorem dL_quickest_1 : decode cL_quickest 1 = .ok (.iconst 0, 1) := by decide +kernel
theorem dL_quickest_2 : decode cL_quickest 2 = .ok (.aload_n 0, 1) := by decide +kernel
theorem dL_quickest_3 : decode cL_quickest 3 = .ok (.iload_n 1, 1) := by decide +kernel
theorem dL_quickest_4 : decode cL_quickest 4 = .ok (.iload_n 2, 1) := by decide +kernel
theorem dL_quickest_5 : decode cL_quickest 5 = .ok (.invokevirtual 92, 3) := by decide +kernel
theorem dL_quickest_8 : decode cL_quickest 8 = .ok (.i2l, 1) := by decide +kernel
theorem dL_quickest_9 : decode cL_quickest 9 = .ok (.lastore, 1) := by decide +kernel
theorem dL_quickest_10 : decode cL_quickest 10 = .ok (.goto 7, 3) := by decide +kernel
theorem dL_quickest_13 : decode cL_quickest 13 = .ok (.astore 4, 2) := by decide +kernel
theorem dL_quickest_15 : decode cL_quickest 15 = .ok (.iconst 1, 1) := by decide +kernel
theorem dL_quickest_16 : decode cL_quickest 16 = .ok (.ireturn, 1) := by decide +kernel
theorem dL_quickest_17 : decode cL_quickest 17 = .ok (.iconst 0, 1) := by decide +kernel
theorem dL_quickest_18 : decode cL_quickest 18 = .ok (.ireturn, 1) := by decide +kernel
theorem dL_ask_0 : decode cL_ask 0 = .ok (.aload_n 2, 1) := by decide +kernel
theorem dL_ask_1 : decode cL_ask 1 = .ok (.iconst 0, 1) := by decide +kernel
theorem dL_ask_2 : decode cL_ask 2 = .ok (.aload_n 0, 1) := by decide +kernel
theorem dL_ask_3 : decode cL_ask 3 = .ok (.iload_n 1, 1) := by decide +kernel
theorem dL_ask_4 : decode cL_ask 4 = .ok (.invokevirtual 95, 3) := by decide +kernel
theorem dL_ask_7 : decode cL_ask 7 = .ok (.i2l, 1) := by decide +kernel
theorem dL_ask_8 : decode cL_ask 8 = .ok (.lastore, 1) := by decide +kernel
theorem dL_ask_9 : decode cL_ask 9 = .ok (.goto 6, 3) := by decide +kernel
theorem dL_ask_12 : decode cL_ask 12 = .ok (.astore_n 3, 1) := by decide +kernel
theorem dL_ask_13 : decode cL_ask 13 = .ok (.iconst 1, 1) := by decide +kernel
theorem dL_ask_14 : decode cL_ask 14 = .ok (.ireturn, 1) := by decide +kernel
theorem dL_ask_15 : decode cL_ask 15 = .ok (.iconst 0, 1) := by decide +kernel
theorem dL_ask_16 : decode cL_ask 16 = .ok (.ireturn, 1) := by decide +kernel
theorem dL_law_0 : decode cL_law 0 = .ok (.new 8, 3) := by decide +kernel
theorem dL_law_3 : decode cL_law 3 = .ok (.dup, 1) := by decide +kernel
theorem dL_law_4 : decode cL_law 4 = .ok (.invokespecial 98, 3) := by decide +kernel
theorem dL_law_7 : decode cL_law 7 = .ok (.astore_n 1, 1) := by decide +kernel
theorem dL_law_8 : decode cL_law 8 = .ok (.new 99, 3) := by decide +kernel
theorem dL_law_11 : decode cL_law 11 = .ok (.dup, 1) := by decide +kernel
theorem dL_law_12 : decode cL_law 12 = .ok (.invokespecial 101, 3) := by decide +kernel
theorem dL_law_15 : decode cL_law 15 = .ok (.astore_n 2, 1) := by decide +kernel
theorem dL_law_16 : decode cL_law 16 = .ok (.iconst 1, 1) := by decide +kernel
theorem dL_law_17 : decode cL_law 17 = .ok (.newarray .long, 2) := by decide +kernel
theorem dL_law_19 : decode cL_law 19 = .ok (.astore_n 3, 1) := by decide +kernel
theorem dL_law_20 : decode cL_law 20 = .ok (.iconst 0, 1) := by decide +kernel
theorem dL_law_21 : decode cL_law 21 = .ok (.istore 4, 2) := by decide +kernel
theorem dL_law_23 : decode cL_law 23 = .ok (.iload 4, 2) := by decide +kernel
theorem dL_law_25 : decode cL_law 25 = .ok (.aload_n 0, 1) := by decide +kernel
theorem dL_law_26 : decode cL_law 26 = .ok (.arraylength, 1) := by decide +kernel
theorem dL_law_27 : decode cL_law 27 = .ok (.bipush 6, 2) := by decide +kernel
theorem dL_law_29 : decode cL_law 29 = .ok (.isub, 1) := by decide +kernel
theorem dL_law_30 : decode cL_law 30 = .ok (.if_icmp .gt 2068, 3) := by decide +kernel
theorem dL_law_33 : decode cL_law 33 = .ok (.aload_n 0, 1) := by decide +kernel
theorem dL_law_34 : decode cL_law 34 = .ok (.iload 4, 2) := by decide +kernel
theorem dL_law_36 : decode cL_law 36 = .ok (.iaload, 1) := by decide +kernel
theorem dL_law_37 : decode cL_law 37 = .ok (.bipush 63, 2) := by decide +kernel
theorem dL_law_39 : decode cL_law 39 = .ok (.iand, 1) := by decide +kernel
theorem dL_law_40 : decode cL_law 40 = .ok (.tableswitch 2052 0 32 #[148, 221, 277, 290, 346, 414, 469, 536, 592, 659, 715, 783, 796, 821, 917, 997, 1053, 1109, 1177, 1244, 1300, 1367, 1447, 1515, 1583, 1596, 1676, 1756, 1812, 1904, 1972, 2028, 2039], 148) := by decide +kernel
theorem dL_law_188 : decode cL_law 188 = .ok (.aload_n 1, 1) := by decide +kernel
theorem dL_law_189 : decode cL_law 189 = .ok (.aload_n 0, 1) := by decide +kernel
theorem dL_law_190 : decode cL_law 190 = .ok (.iload 4, 2) := by decide +kernel
theorem dL_law_192 : decode cL_law 192 = .ok (.iconst 1, 1) := by decide +kernel
theorem dL_law_193 : decode cL_law 193 = .ok (.iadd, 1) := by decide +kernel
theorem dL_law_194 : decode cL_law 194 = .ok (.iaload, 1) := by decide +kernel
theorem dL_law_195 : decode cL_law 195 = .ok (.aload_n 0, 1) := by decide +kernel
theorem dL_law_196 : decode cL_law 196 = .ok (.iload 4, 2) := by decide +kernel
theorem dL_law_198 : decode cL_law 198 = .ok (.iconst 2, 1) := by decide +kernel
theorem dL_law_199 : decode cL_law 199 = .ok (.iadd, 1) := by decide +kernel
theorem dL_law_200 : decode cL_law 200 = .ok (.iaload, 1) := by decide +kernel
theorem dL_law_201 : decode cL_law 201 = .ok (.aload_n 0, 1) := by decide +kernel
theorem dL_law_202 : decode cL_law 202 = .ok (.iload 4, 2) := by decide +kernel
theorem dL_law_204 : decode cL_law 204 = .ok (.iconst 3, 1) := by decide +kernel
theorem dL_law_205 : decode cL_law 205 = .ok (.iadd, 1) := by decide +kernel
theorem dL_law_206 : decode cL_law 206 = .ok (.iaload, 1) := by decide +kernel
theorem dL_law_207 : decode cL_law 207 = .ok (.aload_n 0, 1) := by decide +kernel
theorem dL_law_208 : decode cL_law 208 = .ok (.iload 4, 2) := by decide +kernel
theorem dL_law_210 : decode cL_law 210 = .ok (.iconst 4, 1) := by decide +kernel
theorem dL_law_211 : decode cL_law 211 = .ok (.iadd, 1) := by decide +kernel
theorem dL_law_212 : decode cL_law 212 = .ok (.iaload, 1) := by decide +kernel
theorem dL_law_213 : decode cL_law 213 = .ok (.aload_n 0, 1) := by decide +kernel
theorem dL_law_214 : decode cL_law 214 = .ok (.iload 4, 2) := by decide +kernel
theorem dL_law_216 : decode cL_law 216 = .ok (.iconst 5, 1) := by decide +kernel
theorem dL_law_217 : decode cL_law 217 = .ok (.iadd, 1) := by decide +kernel
theorem dL_law_218 : decode cL_law 218 = .ok (.iaload, 1) := by decide +kernel
theorem dL_law_219 : decode cL_law 219 = .ok (.invokevirtual 102, 3) := by decide +kernel
theorem dL_law_222 : decode cL_law 222 = .ok (.aload_n 2, 1) := by decide +kernel
theorem dL_law_223 : decode cL_law 223 = .ok (.aload_n 0, 1) := by decide +kernel
theorem dL_law_224 : decode cL_law 224 = .ok (.iload 4, 2) := by decide +kernel
theorem dL_law_226 : decode cL_law 226 = .ok (.iconst 1, 1) := by decide +kernel
theorem dL_law_227 : decode cL_law 227 = .ok (.iadd, 1) := by decide +kernel
theorem dL_law_228 : decode cL_law 228 = .ok (.iaload, 1) := by decide +kernel
theorem dL_law_229 : decode cL_law 229 = .ok (.aload_n 0, 1) := by decide +kernel
theorem dL_law_230 : decode cL_law 230 = .ok (.iload 4, 2) := by decide +kernel
theorem dL_law_232 : decode cL_law 232 = .ok (.iconst 2, 1) := by decide +kernel
theorem dL_law_233 : decode cL_law 233 = .ok (.iadd, 1) := by decide +kernel
theorem dL_law_234 : decode cL_law 234 = .ok (.iaload, 1) := by decide +kernel
theorem dL_law_235 : decode cL_law 235 = .ok (.aload_n 0, 1) := by decide +kernel
theorem dL_law_236 : decode cL_law 236 = .ok (.iload 4, 2) := by decide +kernel
theorem dL_law_238 : decode cL_law 238 = .ok (.iconst 3, 1) := by decide +kernel
theorem dL_law_239 : decode cL_law 239 = .ok (.iadd, 1) := by decide +kernel
theorem dL_law_240 : decode cL_law 240 = .ok (.iaload, 1) := by decide +kernel
theorem dL_law_241 : decode cL_law 241 = .ok (.aload_n 0, 1) := by decide +kernel
theorem dL_law_242 : decode cL_law 242 = .ok (.iload 4, 2) := by decide +kernel
theorem dL_law_244 : decode cL_law 244 = .ok (.iconst 4, 1) := by decide +kernel
theorem dL_law_245 : decode cL_law 245 = .ok (.iadd, 1) := by decide +kernel
theorem dL_law_246 : decode cL_law 246 = .ok (.iaload, 1) := by decide +kernel
theorem dL_law_247 : decode cL_law 247 = .ok (.aload_n 0, 1) := by decide +kernel
theorem dL_law_248 : decode cL_law 248 = .ok (.iload 4, 2) := by decide +kernel
theorem dL_law_250 : decode cL_law 250 = .ok (.iconst 5, 1) := by decide +kernel
theorem dL_law_251 : decode cL_law 251 = .ok (.iadd, 1) := by decide +kernel
theorem dL_law_252 : decode cL_law 252 = .ok (.iaload, 1) := by decide +kernel
theorem dL_law_253 : decode cL_law 253 = .ok (.invokevirtual 106, 3) := by decide +kernel
theorem dL_law_256 : decode cL_law 256 = .ok (.if_icmp .eq 1836, 3) := by decide +kernel
theorem dL_law_259 : decode cL_law 259 = .ok (.iconst 0, 1) := by decide +kernel
theorem dL_law_260 : decode cL_law 260 = .ok (.ireturn, 1) := by decide +kernel
theorem dL_law_261 : decode cL_law 261 = .ok (.aload_n 1, 1) := by decide +kernel
theorem dL_law_262 : decode cL_law 262 = .ok (.aload_n 0, 1) := by decide +kernel
theorem dL_law_263 : decode cL_law 263 = .ok (.iload 4, 2) := by decide +kernel
theorem dL_law_265 : decode cL_law 265 = .ok (.iconst 1, 1) := by decide +kernel
theorem dL_law_266 : decode cL_law 266 = .ok (.iadd, 1) := by decide +kernel
theorem dL_law_267 : decode cL_law 267 = .ok (.iaload, 1) := by decide +kernel
theorem dL_law_268 : decode cL_law 268 = .ok (.aload_n 3, 1) := by decide +kernel
theorem dL_law_269 : decode cL_law 269 = .ok (.invokestatic 107, 3) := by decide +kernel
theorem dL_law_272 : decode cL_law 272 = .ok (.istore 5, 2) := by decide +kernel
theorem dL_law_274 : decode cL_law 274 = .ok (.aload_n 2, 1) := by decide +kernel
theorem dL_law_275 : decode cL_law 275 = .ok (.aload_n 0, 1) := by decide +kernel
theorem dL_law_276 : decode cL_law 276 = .ok (.iload 4, 2) := by decide +kernel
theorem dL_law_278 : decode cL_law 278 = .ok (.iconst 1, 1) := by decide +kernel
theorem dL_law_279 : decode cL_law 279 = .ok (.iadd, 1) := by decide +kernel
theorem dL_law_280 : decode cL_law 280 = .ok (.iaload, 1) := by decide +kernel
theorem dL_law_281 : decode cL_law 281 = .ok (.invokevirtual 112, 3) := by decide +kernel
theorem dL_law_284 : decode cL_law 284 = .ok (.istore 6, 2) := by decide +kernel
theorem dL_law_286 : decode cL_law 286 = .ok (.aload_n 2, 1) := by decide +kernel
theorem dL_law_287 : decode cL_law 287 = .ok (.invokevirtual 113, 3) := by decide +kernel
theorem dL_law_290 : decode cL_law 290 = .ok (.iload 5, 2) := by decide +kernel
theorem dL_law_292 : decode cL_law 292 = .ok (.if_icmp .eq 5, 3) := by decide +kernel
theorem dL_law_295 : decode cL_law 295 = .ok (.iconst 0, 1) := by decide +kernel
theorem dL_law_296 : decode cL_law 296 = .ok (.ireturn, 1) := by decide +kernel
theorem dL_law_297 : decode cL_law 297 = .ok (.iload 5, 2) := by decide +kernel
theorem dL_law_299 : decode cL_law 299 = .ok (.ifCond .ne 15, 3) := by decide +kernel
theorem dL_law_302 : decode cL_law 302 = .ok (.aload_n 3, 1) := by decide +kernel
theorem dL_law_303 : decode cL_law 303 = .ok (.iconst 0, 1) := by decide +kernel
theorem dL_law_304 : decode cL_law 304 = .ok (.laload, 1) := by decide +kernel
theorem dL_law_305 : decode cL_law 305 = .ok (.iload 6, 2) := by decide +kernel
theorem dL_law_307 : decode cL_law 307 = .ok (.i2l, 1) := by decide +kernel
theorem dL_law_308 : decode cL_law 308 = .ok (.lcmp, 1) := by decide +kernel
theorem dL_law_309 : decode cL_law 309 = .ok (.ifCond .eq 5, 3) := by decide +kernel
theorem dL_law_312 : decode cL_law 312 = .ok (.iconst 0, 1) := by decide +kernel
theorem dL_law_313 : decode cL_law 313 = .ok (.ireturn, 1) := by decide +kernel
theorem dL_law_314 : decode cL_law 314 = .ok (.goto 1778, 3) := by decide +kernel
theorem dL_law_317 : decode cL_law 317 = .ok (.aload_n 1, 1) := by decide +kernel
theorem dL_law_318 : decode cL_law 318 = .ok (.invokevirtual 117, 3) := by decide +kernel
theorem dL_law_321 : decode cL_law 321 = .ok (.aload_n 2, 1) := by decide +kernel
theorem dL_law_322 : decode cL_law 322 = .ok (.invokevirtual 120, 3) := by decide +kernel
theorem dL_law_325 : decode cL_law 325 = .ok (.if_icmp .eq 1767, 3) := by decide +kernel
theorem dL_law_328 : decode cL_law 328 = .ok (.iconst 0, 1) := by decide +kernel
theorem dL_law_329 : decode cL_law 329 = .ok (.ireturn, 1) := by decide +kernel
theorem dL_law_330 : decode cL_law 330 = .ok (.aload_n 1, 1) := by decide +kernel
theorem dL_law_331 : decode cL_law 331 = .ok (.aload_n 0, 1) := by decide +kernel
theorem dL_law_332 : decode cL_law 332 = .ok (.iload 4, 2) := by decide +kernel
theorem dL_law_334 : decode cL_law 334 = .ok (.iconst 1, 1) := by decide +kernel
theorem dL_law_335 : decode cL_law 335 = .ok (.iadd, 1) := by decide +kernel
theorem dL_law_336 : decode cL_law 336 = .ok (.iaload, 1) := by decide +kernel
theorem dL_law_337 : decode cL_law 337 = .ok (.aload_n 3, 1) := by decide +kernel
theorem dL_law_338 : decode cL_law 338 = .ok (.invokestatic 121, 3) := by decide +kernel
theorem dL_law_341 : decode cL_law 341 = .ok (.istore 5, 2) := by decide +kernel
theorem dL_law_343 : decode cL_law 343 = .ok (.aload_n 2, 1) := by decide +kernel
theorem dL_law_344 : decode cL_law 344 = .ok (.aload_n 0, 1) := by decide +kernel
theorem dL_law_345 : decode cL_law 345 = .ok (.iload 4, 2) := by decide +kernel
theorem dL_law_347 : decode cL_law 347 = .ok (.iconst 1, 1) := by decide +kernel
theorem dL_law_348 : decode cL_law 348 = .ok (.iadd, 1) := by decide +kernel
theorem dL_law_349 : decode cL_law 349 = .ok (.iaload, 1) := by decide +kernel
theorem dL_law_350 : decode cL_law 350 = .ok (.invokevirtual 123, 3) := by decide +kernel
theorem dL_law_353 : decode cL_law 353 = .ok (.istore 6, 2) := by decide +kernel
theorem dL_law_355 : decode cL_law 355 = .ok (.aload_n 2, 1) := by decide +kernel
theorem dL_law_356 : decode cL_law 356 = .ok (.invokevirtual 113, 3) := by decide +kernel
theorem dL_law_359 : decode cL_law 359 = .ok (.iload 5, 2) := by decide +kernel
theorem dL_law_361 : decode cL_law 361 = .ok (.if_icmp .eq 5, 3) := by decide +kernel
theorem dL_law_364 : decode cL_law 364 = .ok (.iconst 0, 1) := by decide +kernel
theorem dL_law_365 : decode cL_law 365 = .ok (.ireturn, 1) := by decide +kernel
theorem dL_law_366 : decode cL_law 366 = .ok (.iload 5, 2) := by decide +kernel
theorem dL_law_368 : decode cL_law 368 = .ok (.ifCond .ne 15, 3) := by decide +kernel
theorem dL_law_371 : decode cL_law 371 = .ok (.aload_n 3, 1) := by decide +kernel
theorem dL_law_372 : decode cL_law 372 = .ok (.iconst 0, 1) := by decide +kernel
theorem dL_law_373 : decode cL_law 373 = .ok (.laload, 1) := by decide +kernel
theorem dL_law_374 : decode cL_law 374 = .ok (.iload 6, 2) := by decide +kernel
theorem dL_law_376 : decode cL_law 376 = .ok (.i2l, 1) := by decide +kernel
theorem dL_law_377 : decode cL_law 377 = .ok (.lcmp, 1) := by decide +kernel
theorem dL_law_378 : decode cL_law 378 = .ok (.ifCond .eq 5, 3) := by decide +kernel
theorem dL_law_381 : decode cL_law 381 = .ok (.iconst 0, 1) := by decide +kernel
theorem dL_law_382 : decode cL_law 382 = .ok (.ireturn, 1) := by decide +kernel
theorem dL_law_383 : decode cL_law 383 = .ok (.goto 1709, 3) := by decide +kernel
theorem dL_law_386 : decode cL_law 386 = .ok (.aload_n 1, 1) := by decide +kernel
theorem dL_law_387 : decode cL_law 387 = .ok (.aload_n 0, 1) := by decide +kernel
theorem dL_law_388 : decode cL_law 388 = .ok (.iload 4, 2) := by decide +kernel
theorem dL_law_390 : decode cL_law 390 = .ok (.iconst 1, 1) := by decide +kernel
theorem dL_law_391 : decode cL_law 391 = .ok (.iadd, 1) := by decide +kernel
theorem dL_law_392 : decode cL_law 392 = .ok (.iaload, 1) := by decide +kernel
theorem dL_law_393 : decode cL_law 393 = .ok (.aload_n 0, 1) := by decide +kernel
theorem dL_law_394 : decode cL_law 394 = .ok (.iload 4, 2) := by decide +kernel
theorem dL_law_396 : decode cL_law 396 = .ok (.iconst 2, 1) := by decide +kernel
theorem dL_law_397 : decode cL_law 397 = .ok (.iadd, 1) := by decide +kernel
theorem dL_law_398 : decode cL_law 398 = .ok (.iaload, 1) := by decide +kernel
theorem dL_law_399 : decode cL_law 399 = .ok (.aload_n 3, 1) := by decide +kernel
theorem dL_law_400 : decode cL_law 400 = .ok (.invokestatic 124, 3) := by decide +kernel
theorem dL_law_403 : decode cL_law 403 = .ok (.istore 5, 2) := by decide +kernel
theorem dL_law_405 : decode cL_law 405 = .ok (.aload_n 2, 1) := by decide +kernel
theorem dL_law_406 : decode cL_law 406 = .ok (.aload_n 0, 1) := by decide +kernel
theorem dL_law_407 : decode cL_law 407 = .ok (.iload 4, 2) := by decide +kernel
theorem dL_law_409 : decode cL_law 409 = .ok (.iconst 1, 1) := by decide +kernel
theorem dL_law_410 : decode cL_law 410 = .ok (.iadd, 1) := by decide +kernel
theorem dL_law_411 : decode cL_law 411 = .ok (.iaload, 1) := by decide +kernel
theorem dL_law_412 : decode cL_law 412 = .ok (.aload_n 0, 1) := by decide +kernel
theorem dL_law_413 : decode cL_law 413 = .ok (.iload 4, 2) := by decide +kernel
theorem dL_law_415 : decode cL_law 415 = .ok (.iconst 2, 1) := by decide +kernel
theorem dL_law_416 : decode cL_law 416 = .ok (.iadd, 1) := by decide +kernel
theorem dL_law_417 : decode cL_law 417 = .ok (.iaload, 1) := by decide +kernel
theorem dL_law_418 : decode cL_law 418 = .ok (.invokevirtual 127, 3) := by decide +kernel
theorem dL_law_421 : decode cL_law 421 = .ok (.istore 6, 2) := by decide +kernel
theorem dL_law_423 : decode cL_law 423 = .ok (.aload_n 2, 1) := by decide +kernel
theorem dL_law_424 : decode cL_law 424 = .ok (.invokevirtual 113, 3) := by decide +kernel
theorem dL_law_427 : decode cL_law 427 = .ok (.iload 5, 2) := by decide +kernel
theorem dL_law_429 : decode cL_law 429 = .ok (.if_icmp .eq 5, 3) := by decide +kernel
theorem dL_law_432 : decode cL_law 432 = .ok (.iconst 0, 1) := by decide +kernel
theorem dL_law_433 : decode cL_law 433 = .ok (.ireturn, 1) := by decide +kernel
theorem dL_law_434 : decode cL_law 434 = .ok (.iload 5, 2) := by decide +kernel
theorem dL_law_436 : decode cL_law 436 = .ok (.ifCond .ne 15, 3) := by decide +kernel
theorem dL_law_439 : decode cL_law 439 = .ok (.aload_n 3, 1) := by decide +kernel
theorem dL_law_440 : decode cL_law 440 = .ok (.iconst 0, 1) := by decide +kernel
theorem dL_law_441 : decode cL_law 441 = .ok (.laload, 1) := by decide +kernel
theorem dL_law_442 : decode cL_law 442 = .ok (.iload 6, 2) := by decide +kernel
theorem dL_law_444 : decode cL_law 444 = .ok (.i2l, 1) := by decide +kernel
theorem dL_law_445 : decode cL_law 445 = .ok (.lcmp, 1) := by decide +kernel
theorem dL_law_446 : decode cL_law 446 = .ok (.ifCond .eq 5, 3) := by decide +kernel
theorem dL_law_449 : decode cL_law 449 = .ok (.iconst 0, 1) := by decide +kernel
theorem dL_law_450 : decode cL_law 450 = .ok (.ireturn, 1) := by decide +kernel
theorem dL_law_451 : decode cL_law 451 = .ok (.goto 1641, 3) := by decide +kernel
theorem dL_law_454 : decode cL_law 454 = .ok (.aload_n 1, 1) := by decide +kernel
theorem dL_law_455 : decode cL_law 455 = .ok (.aload_n 0, 1) := by decide +kernel
theorem dL_law_456 : decode cL_law 456 = .ok (.iload 4, 2) := by decide +kernel
theorem dL_law_458 : decode cL_law 458 = .ok (.iconst 1, 1) := by decide +kernel
theorem dL_law_459 : decode cL_law 459 = .ok (.iadd, 1) := by decide +kernel
theorem dL_law_460 : decode cL_law 460 = .ok (.iaload, 1) := by decide +kernel
theorem dL_law_461 : decode cL_law 461 = .ok (.aload_n 3, 1) := by decide +kernel
theorem dL_law_462 : decode cL_law 462 = .ok (.invokestatic 128, 3) := by decide +kernel
theorem dL_law_465 : decode cL_law 465 = .ok (.istore 5, 2) := by decide +kernel
theorem dL_law_467 : decode cL_law 467 = .ok (.aload_n 2, 1) := by decide +kernel
theorem dL_law_468 : decode cL_law 468 = .ok (.aload_n 0, 1) := by decide +kernel
theorem dL_law_469 : decode cL_law 469 = .ok (.iload 4, 2) := by decide +kernel
theorem dL_law_471 : decode cL_law 471 = .ok (.iconst 1, 1) := by decide +kernel
theorem dL_law_472 : decode cL_law 472 = .ok (.iadd, 1) := by decide +kernel
theorem dL_law_473 : decode cL_law 473 = .ok (.iaload, 1) := by decide +kernel
theorem dL_law_474 : decode cL_law 474 = .ok (.invokevirtual 130, 3) := by decide +kernel
theorem dL_law_477 : decode cL_law 477 = .ok (.lstore 6, 2) := by decide +kernel
theorem dL_law_479 : decode cL_law 479 = .ok (.aload_n 2, 1) := by decide +kernel
theorem dL_law_480 : decode cL_law 480 = .ok (.invokevirtual 113, 3) := by decide +kernel
theorem dL_law_483 : decode cL_law 483 = .ok (.iload 5, 2) := by decide +kernel
theorem dL_law_485 : decode cL_law 485 = .ok (.if_icmp .eq 5, 3) := by decide +kernel
theorem dL_law_488 : decode cL_law 488 = .ok (.iconst 0, 1) := by decide +kernel
theorem dL_law_489 : decode cL_law 489 = .ok (.ireturn, 1) := by decide +kernel
theorem dL_law_490 : decode cL_law 490 = .ok (.iload 5, 2) := by decide +kernel
theorem dL_law_492 : decode cL_law 492 = .ok (.ifCond .ne 14, 3) := by decide +kernel
theorem dL_law_495 : decode cL_law 495 = .ok (.aload_n 3, 1) := by decide +kernel
theorem dL_law_496 : decode cL_law 496 = .ok (.iconst 0, 1) := by decide +kernel
theorem dL_law_497 : decode cL_law 497 = .ok (.laload, 1) := by decide +kernel
theorem dL_law_498 : decode cL_law 498 = .ok (.lload 6, 2) := by decide +kernel
theorem dL_law_500 : decode cL_law 500 = .ok (.lcmp, 1) := by decide +kernel
theorem dL_law_501 : decode cL_law 501 = .ok (.ifCond .eq 5, 3) := by decide +kernel
theorem dL_law_504 : decode cL_law 504 = .ok (.iconst 0, 1) := by decide +kernel
theorem dL_law_505 : decode cL_law 505 = .ok (.ireturn, 1) := by decide +kernel
theorem dL_law_506 : decode cL_law 506 = .ok (.goto 1586, 3) := by decide +kernel
theorem dL_law_509 : decode cL_law 509 = .ok (.aload_n 1, 1) := by decide +kernel
theorem dL_law_510 : decode cL_law 510 = .ok (.aload_n 0, 1) := by decide +kernel
theorem dL_law_511 : decode cL_law 511 = .ok (.iload 4, 2) := by decide +kernel
theorem dL_law_513 : decode cL_law 513 = .ok (.iconst 1, 1) := by decide +kernel
theorem dL_law_514 : decode cL_law 514 = .ok (.iadd, 1) := by decide +kernel
theorem dL_law_515 : decode cL_law 515 = .ok (.iaload, 1) := by decide +kernel
theorem dL_law_516 : decode cL_law 516 = .ok (.aload_n 0, 1) := by decide +kernel
theorem dL_law_517 : decode cL_law 517 = .ok (.iload 4, 2) := by decide +kernel
theorem dL_law_519 : decode cL_law 519 = .ok (.iconst 2, 1) := by decide +kernel
theorem dL_law_520 : decode cL_law 520 = .ok (.iadd, 1) := by decide +kernel
theorem dL_law_521 : decode cL_law 521 = .ok (.iaload, 1) := by decide +kernel
theorem dL_law_522 : decode cL_law 522 = .ok (.aload_n 3, 1) := by decide +kernel
theorem dL_law_523 : decode cL_law 523 = .ok (.invokestatic 131, 3) := by decide +kernel
theorem dL_law_526 : decode cL_law 526 = .ok (.istore 5, 2) := by decide +kernel
theorem dL_law_528 : decode cL_law 528 = .ok (.aload_n 2, 1) := by decide +kernel
theorem dL_law_529 : decode cL_law 529 = .ok (.aload_n 0, 1) := by decide +kernel
theorem dL_law_530 : decode cL_law 530 = .ok (.iload 4, 2) := by decide +kernel
theorem dL_law_532 : decode cL_law 532 = .ok (.iconst 1, 1) := by decide +kernel
theorem dL_law_533 : decode cL_law 533 = .ok (.iadd, 1) := by decide +kernel
theorem dL_law_534 : decode cL_law 534 = .ok (.iaload, 1) := by decide +kernel
theorem dL_law_535 : decode cL_law 535 = .ok (.aload_n 0, 1) := by decide +kernel
theorem dL_law_536 : decode cL_law 536 = .ok (.iload 4, 2) := by decide +kernel
theorem dL_law_538 : decode cL_law 538 = .ok (.iconst 2, 1) := by decide +kernel
theorem dL_law_539 : decode cL_law 539 = .ok (.iadd, 1) := by decide +kernel
theorem dL_law_540 : decode cL_law 540 = .ok (.iaload, 1) := by decide +kernel
theorem dL_law_541 : decode cL_law 541 = .ok (.invokevirtual 133, 3) := by decide +kernel
theorem dL_law_544 : decode cL_law 544 = .ok (.lstore 6, 2) := by decide +kernel
theorem dL_law_546 : decode cL_law 546 = .ok (.aload_n 2, 1) := by decide +kernel
theorem dL_law_547 : decode cL_law 547 = .ok (.invokevirtual 113, 3) := by decide +kernel
theorem dL_law_550 : decode cL_law 550 = .ok (.iload 5, 2) := by decide +kernel
theorem dL_law_552 : decode cL_law 552 = .ok (.if_icmp .eq 5, 3) := by decide +kernel
theorem dL_law_555 : decode cL_law 555 = .ok (.iconst 0, 1) := by decide +kernel
theorem dL_law_556 : decode cL_law 556 = .ok (.ireturn, 1) := by decide +kernel
theorem dL_law_557 : decode cL_law 557 = .ok (.iload 5, 2) := by decide +kernel
theorem dL_law_559 : decode cL_law 559 = .ok (.ifCond .ne 14, 3) := by decide +kernel
theorem dL_law_562 : decode cL_law 562 = .ok (.aload_n 3, 1) := by decide +kernel
theorem dL_law_563 : decode cL_law 563 = .ok (.iconst 0, 1) := by decide +kernel
theorem dL_law_564 : decode cL_law 564 = .ok (.laload, 1) := by decide +kernel
theorem dL_law_565 : decode cL_law 565 = .ok (.lload 6, 2) := by decide +kernel
theorem dL_law_567 : decode cL_law 567 = .ok (.lcmp, 1) := by decide +kernel
theorem dL_law_568 : decode cL_law 568 = .ok (.ifCond .eq 5, 3) := by decide +kernel
theorem dL_law_571 : decode cL_law 571 = .ok (.iconst 0, 1) := by decide +kernel
theorem dL_law_572 : decode cL_law 572 = .ok (.ireturn, 1) := by decide +kernel
theorem dL_law_573 : decode cL_law 573 = .ok (.goto 1519, 3) := by decide +kernel
theorem dL_law_576 : decode cL_law 576 = .ok (.aload_n 1, 1) := by decide +kernel
theorem dL_law_577 : decode cL_law 577 = .ok (.aload_n 0, 1) := by decide +kernel
theorem dL_law_578 : decode cL_law 578 = .ok (.iload 4, 2) := by decide +kernel
theorem dL_law_580 : decode cL_law 580 = .ok (.iconst 1, 1) := by decide +kernel
theorem dL_law_581 : decode cL_law 581 = .ok (.iadd, 1) := by decide +kernel
theorem dL_law_582 : decode cL_law 582 = .ok (.iaload, 1) := by decide +kernel
theorem dL_law_583 : decode cL_law 583 = .ok (.aload_n 3, 1) := by decide +kernel
theorem dL_law_584 : decode cL_law 584 = .ok (.invokestatic 134, 3) := by decide +kernel
theorem dL_law_587 : decode cL_law 587 = .ok (.istore 5, 2) := by decide +kernel
theorem dL_law_589 : decode cL_law 589 = .ok (.aload_n 2, 1) := by decide +kernel
theorem dL_law_590 : decode cL_law 590 = .ok (.aload_n 0, 1) := by decide +kernel
theorem dL_law_591 : decode cL_law 591 = .ok (.iload 4, 2) := by decide +kernel
theorem dL_law_593 : decode cL_law 593 = .ok (.iconst 1, 1) := by decide +kernel
theorem dL_law_594 : decode cL_law 594 = .ok (.iadd, 1) := by decide +kernel
theorem dL_law_595 : decode cL_law 595 = .ok (.iaload, 1) := by decide +kernel
theorem dL_law_596 : decode cL_law 596 = .ok (.invokevirtual 136, 3) := by decide +kernel
theorem dL_law_599 : decode cL_law 599 = .ok (.istore 6, 2) := by decide +kernel
theorem dL_law_601 : decode cL_law 601 = .ok (.aload_n 2, 1) := by decide +kernel
theorem dL_law_602 : decode cL_law 602 = .ok (.invokevirtual 113, 3) := by decide +kernel
theorem dL_law_605 : decode cL_law 605 = .ok (.iload 5, 2) := by decide +kernel
theorem dL_law_607 : decode cL_law 607 = .ok (.if_icmp .eq 5, 3) := by decide +kernel
theorem dL_law_610 : decode cL_law 610 = .ok (.iconst 0, 1) := by decide +kernel
theorem dL_law_611 : decode cL_law 611 = .ok (.ireturn, 1) := by decide +kernel
theorem dL_law_612 : decode cL_law 612 = .ok (.iload 5, 2) := by decide +kernel
theorem dL_law_614 : decode cL_law 614 = .ok (.ifCond .ne 15, 3) := by decide +kernel
theorem dL_law_617 : decode cL_law 617 = .ok (.aload_n 3, 1) := by decide +kernel
theorem dL_law_618 : decode cL_law 618 = .ok (.iconst 0, 1) := by decide +kernel
theorem dL_law_619 : decode cL_law 619 = .ok (.laload, 1) := by decide +kernel
theorem dL_law_620 : decode cL_law 620 = .ok (.iload 6, 2) := by decide +kernel
theorem dL_law_622 : decode cL_law 622 = .ok (.i2l, 1) := by decide +kernel
theorem dL_law_623 : decode cL_law 623 = .ok (.lcmp, 1) := by decide +kernel
theorem dL_law_624 : decode cL_law 624 = .ok (.ifCond .eq 5, 3) := by decide +kernel
theorem dL_law_627 : decode cL_law 627 = .ok (.iconst 0, 1) := by decide +kernel
theorem dL_law_628 : decode cL_law 628 = .ok (.ireturn, 1) := by decide +kernel
theorem dL_law_629 : decode cL_law 629 = .ok (.goto 1463, 3) := by decide +kernel
theorem dL_law_632 : decode cL_law 632 = .ok (.aload_n 1, 1) := by decide +kernel
theorem dL_law_633 : decode cL_law 633 = .ok (.aload_n 0, 1) := by decide +kernel
theorem dL_law_634 : decode cL_law 634 = .ok (.iload 4, 2) := by decide +kernel
theorem dL_law_636 : decode cL_law 636 = .ok (.iconst 1, 1) := by decide +kernel
theorem dL_law_637 : decode cL_law 637 = .ok (.iadd, 1) := by decide +kernel
theorem dL_law_638 : decode cL_law 638 = .ok (.iaload, 1) := by decide +kernel
theorem dL_law_639 : decode cL_law 639 = .ok (.aload_n 0, 1) := by decide +kernel
theorem dL_law_640 : decode cL_law 640 = .ok (.iload 4, 2) := by decide +kernel
theorem dL_law_642 : decode cL_law 642 = .ok (.iconst 2, 1) := by decide +kernel
theorem dL_law_643 : decode cL_law 643 = .ok (.iadd, 1) := by decide +kernel
theorem dL_law_644 : decode cL_law 644 = .ok (.iaload, 1) := by decide +kernel
theorem dL_law_645 : decode cL_law 645 = .ok (.aload_n 3, 1) := by decide +kernel
theorem dL_law_646 : decode cL_law 646 = .ok (.invokestatic 137, 3) := by decide +kernel
theorem dL_law_649 : decode cL_law 649 = .ok (.istore 5, 2) := by decide +kernel
theorem dL_law_651 : decode cL_law 651 = .ok (.aload_n 2, 1) := by decide +kernel
theorem dL_law_652 : decode cL_law 652 = .ok (.aload_n 0, 1) := by decide +kernel
theorem dL_law_653 : decode cL_law 653 = .ok (.iload 4, 2) := by decide +kernel
theorem dL_law_655 : decode cL_law 655 = .ok (.iconst 1, 1) := by decide +kernel
theorem dL_law_656 : decode cL_law 656 = .ok (.iadd, 1) := by decide +kernel
theorem dL_law_657 : decode cL_law 657 = .ok (.iaload, 1) := by decide +kernel
theorem dL_law_658 : decode cL_law 658 = .ok (.aload_n 0, 1) := by decide +kernel
theorem dL_law_659 : decode cL_law 659 = .ok (.iload 4, 2) := by decide +kernel
theorem dL_law_661 : decode cL_law 661 = .ok (.iconst 2, 1) := by decide +kernel
theorem dL_law_662 : decode cL_law 662 = .ok (.iadd, 1) := by decide +kernel
theorem dL_law_663 : decode cL_law 663 = .ok (.iaload, 1) := by decide +kernel
theorem dL_law_664 : decode cL_law 664 = .ok (.invokevirtual 139, 3) := by decide +kernel
theorem dL_law_667 : decode cL_law 667 = .ok (.lstore 6, 2) := by decide +kernel
theorem dL_law_669 : decode cL_law 669 = .ok (.aload_n 2, 1) := by decide +kernel
theorem dL_law_670 : decode cL_law 670 = .ok (.invokevirtual 113, 3) := by decide +kernel
theorem dL_law_673 : decode cL_law 673 = .ok (.iload 5, 2) := by decide +kernel
theorem dL_law_675 : decode cL_law 675 = .ok (.if_icmp .eq 5, 3) := by decide +kernel
theorem dL_law_678 : decode cL_law 678 = .ok (.iconst 0, 1) := by decide +kernel
theorem dL_law_679 : decode cL_law 679 = .ok (.ireturn, 1) := by decide +kernel
theorem dL_law_680 : decode cL_law 680 = .ok (.iload 5, 2) := by decide +kernel
theorem dL_law_682 : decode cL_law 682 = .ok (.ifCond .ne 14, 3) := by decide +kernel
theorem dL_law_685 : decode cL_law 685 = .ok (.aload_n 3, 1) := by decide +kernel
theorem dL_law_686 : decode cL_law 686 = .ok (.iconst 0, 1) := by decide +kernel
theorem dL_law_687 : decode cL_law 687 = .ok (.laload, 1) := by decide +kernel
theorem dL_law_688 : decode cL_law 688 = .ok (.lload 6, 2) := by decide +kernel
theorem dL_law_690 : decode cL_law 690 = .ok (.lcmp, 1) := by decide +kernel
theorem dL_law_691 : decode cL_law 691 = .ok (.ifCond .eq 5, 3) := by decide +kernel
theorem dL_law_694 : decode cL_law 694 = .ok (.iconst 0, 1) := by decide +kernel
theorem dL_law_695 : decode cL_law 695 = .ok (.ireturn, 1) := by decide +kernel
theorem dL_law_696 : decode cL_law 696 = .ok (.goto 1396, 3) := by decide +kernel
theorem dL_law_699 : decode cL_law 699 = .ok (.aload_n 1, 1) := by decide +kernel
theorem dL_law_700 : decode cL_law 700 = .ok (.aload_n 0, 1) := by decide +kernel
theorem dL_law_701 : decode cL_law 701 = .ok (.iload 4, 2) := by decide +kernel
theorem dL_law_703 : decode cL_law 703 = .ok (.iconst 1, 1) := by decide +kernel
theorem dL_law_704 : decode cL_law 704 = .ok (.iadd, 1) := by decide +kernel
theorem dL_law_705 : decode cL_law 705 = .ok (.iaload, 1) := by decide +kernel
theorem dL_law_706 : decode cL_law 706 = .ok (.aload_n 3, 1) := by decide +kernel
theorem dL_law_707 : decode cL_law 707 = .ok (.invokestatic 140, 3) := by decide +kernel
theorem dL_law_710 : decode cL_law 710 = .ok (.istore 5, 2) := by decide +kernel
theorem dL_law_712 : decode cL_law 712 = .ok (.aload_n 2, 1) := by decide +kernel
theorem dL_law_713 : decode cL_law 713 = .ok (.aload_n 0, 1) := by decide +kernel
theorem dL_law_714 : decode cL_law 714 = .ok (.iload 4, 2) := by decide +kernel
theorem dL_law_716 : decode cL_law 716 = .ok (.iconst 1, 1) := by decide +kernel
theorem dL_law_717 : decode cL_law 717 = .ok (.iadd, 1) := by decide +kernel
theorem dL_law_718 : decode cL_law 718 = .ok (.iaload, 1) := by decide +kernel
theorem dL_law_719 : decode cL_law 719 = .ok (.invokevirtual 142, 3) := by decide +kernel
theorem dL_law_722 : decode cL_law 722 = .ok (.istore 6, 2) := by decide +kernel
theorem dL_law_724 : decode cL_law 724 = .ok (.aload_n 2, 1) := by decide +kernel
theorem dL_law_725 : decode cL_law 725 = .ok (.invokevirtual 113, 3) := by decide +kernel
theorem dL_law_728 : decode cL_law 728 = .ok (.iload 5, 2) := by decide +kernel
theorem dL_law_730 : decode cL_law 730 = .ok (.if_icmp .eq 5, 3) := by decide +kernel
theorem dL_law_733 : decode cL_law 733 = .ok (.iconst 0, 1) := by decide +kernel
theorem dL_law_734 : decode cL_law 734 = .ok (.ireturn, 1) := by decide +kernel
theorem dL_law_735 : decode cL_law 735 = .ok (.iload 5, 2) := by decide +kernel
theorem dL_law_737 : decode cL_law 737 = .ok (.ifCond .ne 15, 3) := by decide +kernel
theorem dL_law_740 : decode cL_law 740 = .ok (.aload_n 3, 1) := by decide +kernel
theorem dL_law_741 : decode cL_law 741 = .ok (.iconst 0, 1) := by decide +kernel
theorem dL_law_742 : decode cL_law 742 = .ok (.laload, 1) := by decide +kernel
theorem dL_law_743 : decode cL_law 743 = .ok (.iload 6, 2) := by decide +kernel
theorem dL_law_745 : decode cL_law 745 = .ok (.i2l, 1) := by decide +kernel
theorem dL_law_746 : decode cL_law 746 = .ok (.lcmp, 1) := by decide +kernel
theorem dL_law_747 : decode cL_law 747 = .ok (.ifCond .eq 5, 3) := by decide +kernel
theorem dL_law_750 : decode cL_law 750 = .ok (.iconst 0, 1) := by decide +kernel
theorem dL_law_751 : decode cL_law 751 = .ok (.ireturn, 1) := by decide +kernel
theorem dL_law_752 : decode cL_law 752 = .ok (.goto 1340, 3) := by decide +kernel
theorem dL_law_755 : decode cL_law 755 = .ok (.aload_n 1, 1) := by decide +kernel
theorem dL_law_756 : decode cL_law 756 = .ok (.aload_n 0, 1) := by decide +kernel
theorem dL_law_757 : decode cL_law 757 = .ok (.iload 4, 2) := by decide +kernel
theorem dL_law_759 : decode cL_law 759 = .ok (.iconst 1, 1) := by decide +kernel
theorem dL_law_760 : decode cL_law 760 = .ok (.iadd, 1) := by decide +kernel
theorem dL_law_761 : decode cL_law 761 = .ok (.iaload, 1) := by decide +kernel
theorem dL_law_762 : decode cL_law 762 = .ok (.aload_n 0, 1) := by decide +kernel
theorem dL_law_763 : decode cL_law 763 = .ok (.iload 4, 2) := by decide +kernel
theorem dL_law_765 : decode cL_law 765 = .ok (.iconst 2, 1) := by decide +kernel
theorem dL_law_766 : decode cL_law 766 = .ok (.iadd, 1) := by decide +kernel
theorem dL_law_767 : decode cL_law 767 = .ok (.iaload, 1) := by decide +kernel
theorem dL_law_768 : decode cL_law 768 = .ok (.aload_n 3, 1) := by decide +kernel
theorem dL_law_769 : decode cL_law 769 = .ok (.invokestatic 143, 3) := by decide +kernel
theorem dL_law_772 : decode cL_law 772 = .ok (.istore 5, 2) := by decide +kernel
theorem dL_law_774 : decode cL_law 774 = .ok (.aload_n 2, 1) := by decide +kernel
theorem dL_law_775 : decode cL_law 775 = .ok (.aload_n 0, 1) := by decide +kernel
theorem dL_law_776 : decode cL_law 776 = .ok (.iload 4, 2) := by decide +kernel
theorem dL_law_778 : decode cL_law 778 = .ok (.iconst 1, 1) := by decide +kernel
theorem dL_law_779 : decode cL_law 779 = .ok (.iadd, 1) := by decide +kernel
theorem dL_law_780 : decode cL_law 780 = .ok (.iaload, 1) := by decide +kernel
theorem dL_law_781 : decode cL_law 781 = .ok (.aload_n 0, 1) := by decide +kernel
theorem dL_law_782 : decode cL_law 782 = .ok (.iload 4, 2) := by decide +kernel
theorem dL_law_784 : decode cL_law 784 = .ok (.iconst 2, 1) := by decide +kernel
theorem dL_law_785 : decode cL_law 785 = .ok (.iadd, 1) := by decide +kernel
theorem dL_law_786 : decode cL_law 786 = .ok (.iaload, 1) := by decide +kernel
theorem dL_law_787 : decode cL_law 787 = .ok (.invokevirtual 145, 3) := by decide +kernel
theorem dL_law_790 : decode cL_law 790 = .ok (.istore 6, 2) := by decide +kernel
theorem dL_law_792 : decode cL_law 792 = .ok (.aload_n 2, 1) := by decide +kernel
theorem dL_law_793 : decode cL_law 793 = .ok (.invokevirtual 113, 3) := by decide +kernel
theorem dL_law_796 : decode cL_law 796 = .ok (.iload 5, 2) := by decide +kernel
theorem dL_law_798 : decode cL_law 798 = .ok (.if_icmp .eq 5, 3) := by decide +kernel
theorem dL_law_801 : decode cL_law 801 = .ok (.iconst 0, 1) := by decide +kernel
theorem dL_law_802 : decode cL_law 802 = .ok (.ireturn, 1) := by decide +kernel
theorem dL_law_803 : decode cL_law 803 = .ok (.iload 5, 2) := by decide +kernel
theorem dL_law_805 : decode cL_law 805 = .ok (.ifCond .ne 15, 3) := by decide +kernel
theorem dL_law_808 : decode cL_law 808 = .ok (.aload_n 3, 1) := by decide +kernel
theorem dL_law_809 : decode cL_law 809 = .ok (.iconst 0, 1) := by decide +kernel
theorem dL_law_810 : decode cL_law 810 = .ok (.laload, 1) := by decide +kernel
theorem dL_law_811 : decode cL_law 811 = .ok (.iload 6, 2) := by decide +kernel
theorem dL_law_813 : decode cL_law 813 = .ok (.i2l, 1) := by decide +kernel
theorem dL_law_814 : decode cL_law 814 = .ok (.lcmp, 1) := by decide +kernel
theorem dL_law_815 : decode cL_law 815 = .ok (.ifCond .eq 5, 3) := by decide +kernel
theorem dL_law_818 : decode cL_law 818 = .ok (.iconst 0, 1) := by decide +kernel
theorem dL_law_819 : decode cL_law 819 = .ok (.ireturn, 1) := by decide +kernel
theorem dL_law_820 : decode cL_law 820 = .ok (.goto 1272, 3) := by decide +kernel
theorem dL_law_823 : decode cL_law 823 = .ok (.aload_n 1, 1) := by decide +kernel
theorem dL_law_824 : decode cL_law 824 = .ok (.invokevirtual 146, 3) := by decide +kernel
theorem dL_law_827 : decode cL_law 827 = .ok (.aload_n 2, 1) := by decide +kernel
theorem dL_law_828 : decode cL_law 828 = .ok (.invokevirtual 149, 3) := by decide +kernel
theorem dL_law_831 : decode cL_law 831 = .ok (.if_icmp .eq 1261, 3) := by decide +kernel
theorem dL_law_834 : decode cL_law 834 = .ok (.iconst 0, 1) := by decide +kernel
theorem dL_law_835 : decode cL_law 835 = .ok (.ireturn, 1) := by decide +kernel
theorem dL_law_836 : decode cL_law 836 = .ok (.aload_n 1, 1) := by decide +kernel
theorem dL_law_837 : decode cL_law 837 = .ok (.aload_n 0, 1) := by decide +kernel
theorem dL_law_838 : decode cL_law 838 = .ok (.iload 4, 2) := by decide +kernel
theorem dL_law_840 : decode cL_law 840 = .ok (.iconst 1, 1) := by decide +kernel
theorem dL_law_841 : decode cL_law 841 = .ok (.iadd, 1) := by decide +kernel
theorem dL_law_842 : decode cL_law 842 = .ok (.iaload, 1) := by decide +kernel
theorem dL_law_843 : decode cL_law 843 = .ok (.invokevirtual 150, 3) := by decide +kernel
theorem dL_law_846 : decode cL_law 846 = .ok (.aload_n 2, 1) := by decide +kernel
theorem dL_law_847 : decode cL_law 847 = .ok (.aload_n 0, 1) := by decide +kernel
theorem dL_law_848 : decode cL_law 848 = .ok (.iload 4, 2) := by decide +kernel
theorem dL_law_850 : decode cL_law 850 = .ok (.iconst 1, 1) := by decide +kernel
theorem dL_law_851 : decode cL_law 851 = .ok (.iadd, 1) := by decide +kernel
theorem dL_law_852 : decode cL_law 852 = .ok (.iaload, 1) := by decide +kernel
theorem dL_law_853 : decode cL_law 853 = .ok (.invokevirtual 153, 3) := by decide +kernel
theorem dL_law_856 : decode cL_law 856 = .ok (.if_icmp .eq 1236, 3) := by decide +kernel
theorem dL_law_859 : decode cL_law 859 = .ok (.iconst 0, 1) := by decide +kernel
theorem dL_law_860 : decode cL_law 860 = .ok (.ireturn, 1) := by decide +kernel
theorem dL_law_861 : decode cL_law 861 = .ok (.aload_n 1, 1) := by decide +kernel
theorem dL_law_862 : decode cL_law 862 = .ok (.aload_n 0, 1) := by decide +kernel
theorem dL_law_863 : decode cL_law 863 = .ok (.iload 4, 2) := by decide +kernel
theorem dL_law_865 : decode cL_law 865 = .ok (.iconst 1, 1) := by decide +kernel
theorem dL_law_866 : decode cL_law 866 = .ok (.iadd, 1) := by decide +kernel
theorem dL_law_867 : decode cL_law 867 = .ok (.iaload, 1) := by decide +kernel
theorem dL_law_868 : decode cL_law 868 = .ok (.aload_n 0, 1) := by decide +kernel
theorem dL_law_869 : decode cL_law 869 = .ok (.iload 4, 2) := by decide +kernel
theorem dL_law_871 : decode cL_law 871 = .ok (.iconst 2, 1) := by decide +kernel
theorem dL_law_872 : decode cL_law 872 = .ok (.iadd, 1) := by decide +kernel
theorem dL_law_873 : decode cL_law 873 = .ok (.iaload, 1) := by decide +kernel
theorem dL_law_874 : decode cL_law 874 = .ok (.aload_n 0, 1) := by decide +kernel
theorem dL_law_875 : decode cL_law 875 = .ok (.iload 4, 2) := by decide +kernel
theorem dL_law_877 : decode cL_law 877 = .ok (.iconst 3, 1) := by decide +kernel
theorem dL_law_878 : decode cL_law 878 = .ok (.iadd, 1) := by decide +kernel
theorem dL_law_879 : decode cL_law 879 = .ok (.iaload, 1) := by decide +kernel
theorem dL_law_880 : decode cL_law 880 = .ok (.ifCond .eq 7, 3) := by decide +kernel
theorem dL_law_883 : decode cL_law 883 = .ok (.iconst 1, 1) := by decide +kernel
theorem dL_law_884 : decode cL_law 884 = .ok (.goto 4, 3) := by decide +kernel
theorem dL_law_887 : decode cL_law 887 = .ok (.iconst 0, 1) := by decide +kernel
theorem dL_law_888 : decode cL_law 888 = .ok (.aload_n 3, 1) := by decide +kernel
theorem dL_law_889 : decode cL_law 889 = .ok (.invokestatic 154, 3) := by decide +kernel
theorem dL_law_892 : decode cL_law 892 = .ok (.istore 5, 2) := by decide +kernel
theorem dL_law_894 : decode cL_law 894 = .ok (.aload_n 2, 1) := by decide +kernel
theorem dL_law_895 : decode cL_law 895 = .ok (.aload_n 0, 1) := by decide +kernel
theorem dL_law_896 : decode cL_law 896 = .ok (.iload 4, 2) := by decide +kernel
theorem dL_law_898 : decode cL_law 898 = .ok (.iconst 1, 1) := by decide +kernel
theorem dL_law_899 : decode cL_law 899 = .ok (.iadd, 1) := by decide +kernel
theorem dL_law_900 : decode cL_law 900 = .ok (.iaload, 1) := by decide +kernel
theorem dL_law_901 : decode cL_law 901 = .ok (.aload_n 0, 1) := by decide +kernel
theorem dL_law_902 : decode cL_law 902 = .ok (.iload 4, 2) := by decide +kernel
theorem dL_law_904 : decode cL_law 904 = .ok (.iconst 2, 1) := by decide +kernel
theorem dL_law_905 : decode cL_law 905 = .ok (.iadd, 1) := by decide +kernel
theorem dL_law_906 : decode cL_law 906 = .ok (.iaload, 1) := by decide +kernel
theorem dL_law_907 : decode cL_law 907 = .ok (.aload_n 0, 1) := by decide +kernel
theorem dL_law_908 : decode cL_law 908 = .ok (.iload 4, 2) := by decide +kernel
theorem dL_law_910 : decode cL_law 910 = .ok (.iconst 3, 1) := by decide +kernel
theorem dL_law_911 : decode cL_law 911 = .ok (.iadd, 1) := by decide +kernel
theorem dL_law_912 : decode cL_law 912 = .ok (.iaload, 1) := by decide +kernel
theorem dL_law_913 : decode cL_law 913 = .ok (.ifCond .eq 7, 3) := by decide +kernel
theorem dL_law_916 : decode cL_law 916 = .ok (.iconst 1, 1) := by decide +kernel
theorem dL_law_917 : decode cL_law 917 = .ok (.goto 4, 3) := by decide +kernel
theorem dL_law_920 : decode cL_law 920 = .ok (.iconst 0, 1) := by decide +kernel
theorem dL_law_921 : decode cL_law 921 = .ok (.invokevirtual 157, 3) := by decide +kernel
theorem dL_law_924 : decode cL_law 924 = .ok (.istore 6, 2) := by decide +kernel
theorem dL_law_926 : decode cL_law 926 = .ok (.aload_n 2, 1) := by decide +kernel
theorem dL_law_927 : decode cL_law 927 = .ok (.invokevirtual 113, 3) := by decide +kernel
theorem dL_law_930 : decode cL_law 930 = .ok (.iload 5, 2) := by decide +kernel
theorem dL_law_932 : decode cL_law 932 = .ok (.if_icmp .eq 5, 3) := by decide +kernel
theorem dL_law_935 : decode cL_law 935 = .ok (.iconst 0, 1) := by decide +kernel
theorem dL_law_936 : decode cL_law 936 = .ok (.ireturn, 1) := by decide +kernel
theorem dL_law_937 : decode cL_law 937 = .ok (.iload 5, 2) := by decide +kernel
theorem dL_law_939 : decode cL_law 939 = .ok (.ifCond .ne 15, 3) := by decide +kernel
theorem dL_law_942 : decode cL_law 942 = .ok (.aload_n 3, 1) := by decide +kernel
theorem dL_law_943 : decode cL_law 943 = .ok (.iconst 0, 1) := by decide +kernel
theorem dL_law_944 : decode cL_law 944 = .ok (.laload, 1) := by decide +kernel
theorem dL_law_945 : decode cL_law 945 = .ok (.iload 6, 2) := by decide +kernel
theorem dL_law_947 : decode cL_law 947 = .ok (.i2l, 1) := by decide +kernel
theorem dL_law_948 : decode cL_law 948 = .ok (.lcmp, 1) := by decide +kernel
theorem dL_law_949 : decode cL_law 949 = .ok (.ifCond .eq 5, 3) := by decide +kernel
theorem dL_law_952 : decode cL_law 952 = .ok (.iconst 0, 1) := by decide +kernel
theorem dL_law_953 : decode cL_law 953 = .ok (.ireturn, 1) := by decide +kernel
theorem dL_law_954 : decode cL_law 954 = .ok (.goto 1138, 3) := by decide +kernel
theorem dL_law_957 : decode cL_law 957 = .ok (.aload_n 1, 1) := by decide +kernel
theorem dL_law_958 : decode cL_law 958 = .ok (.aload_n 0, 1) := by decide +kernel
theorem dL_law_959 : decode cL_law 959 = .ok (.iload 4, 2) := by decide +kernel
theorem dL_law_961 : decode cL_law 961 = .ok (.iconst 1, 1) := by decide +kernel
theorem dL_law_962 : decode cL_law 962 = .ok (.iadd, 1) := by decide +kernel
theorem dL_law_963 : decode cL_law 963 = .ok (.iaload, 1) := by decide +kernel
theorem dL_law_964 : decode cL_law 964 = .ok (.aload_n 0, 1) := by decide +kernel
theorem dL_law_965 : decode cL_law 965 = .ok (.iload 4, 2) := by decide +kernel
theorem dL_law_967 : decode cL_law 967 = .ok (.iconst 2, 1) := by decide +kernel
theorem dL_law_968 : decode cL_law 968 = .ok (.iadd, 1) := by decide +kernel
theorem dL_law_969 : decode cL_law 969 = .ok (.iaload, 1) := by decide +kernel
theorem dL_law_970 : decode cL_law 970 = .ok (.aload_n 0, 1) := by decide +kernel
theorem dL_law_971 : decode cL_law 971 = .ok (.iload 4, 2) := by decide +kernel
theorem dL_law_973 : decode cL_law 973 = .ok (.iconst 3, 1) := by decide +kernel
theorem dL_law_974 : decode cL_law 974 = .ok (.iadd, 1) := by decide +kernel
theorem dL_law_975 : decode cL_law 975 = .ok (.iaload, 1) := by decide +kernel
theorem dL_law_976 : decode cL_law 976 = .ok (.aload_n 3, 1) := by decide +kernel
theorem dL_law_977 : decode cL_law 977 = .ok (.invokestatic 158, 3) := by decide +kernel
theorem dL_law_980 : decode cL_law 980 = .ok (.istore 5, 2) := by decide +kernel
theorem dL_law_982 : decode cL_law 982 = .ok (.aload_n 2, 1) := by decide +kernel
theorem dL_law_983 : decode cL_law 983 = .ok (.aload_n 0, 1) := by decide +kernel
theorem dL_law_984 : decode cL_law 984 = .ok (.iload 4, 2) := by decide +kernel
theorem dL_law_986 : decode cL_law 986 = .ok (.iconst 1, 1) := by decide +kernel
theorem dL_law_987 : decode cL_law 987 = .ok (.iadd, 1) := by decide +kernel
theorem dL_law_988 : decode cL_law 988 = .ok (.iaload, 1) := by decide +kernel
theorem dL_law_989 : decode cL_law 989 = .ok (.aload_n 0, 1) := by decide +kernel
theorem dL_law_990 : decode cL_law 990 = .ok (.iload 4, 2) := by decide +kernel
theorem dL_law_992 : decode cL_law 992 = .ok (.iconst 2, 1) := by decide +kernel
theorem dL_law_993 : decode cL_law 993 = .ok (.iadd, 1) := by decide +kernel
theorem dL_law_994 : decode cL_law 994 = .ok (.iaload, 1) := by decide +kernel
theorem dL_law_995 : decode cL_law 995 = .ok (.aload_n 0, 1) := by decide +kernel
theorem dL_law_996 : decode cL_law 996 = .ok (.iload 4, 2) := by decide +kernel
theorem dL_law_998 : decode cL_law 998 = .ok (.iconst 3, 1) := by decide +kernel
theorem dL_law_999 : decode cL_law 999 = .ok (.iadd, 1) := by decide +kernel
theorem dL_law_1000 : decode cL_law 1000 = .ok (.iaload, 1) := by decide +kernel
theorem dL_law_1001 : decode cL_law 1001 = .ok (.invokevirtual 161, 3) := by decide +kernel
theorem dL_law_1004 : decode cL_law 1004 = .ok (.istore 6, 2) := by decide +kernel
theorem dL_law_1006 : decode cL_law 1006 = .ok (.aload_n 2, 1) := by decide +kernel
theorem dL_law_1007 : decode cL_law 1007 = .ok (.invokevirtual 113, 3) := by decide +kernel
theorem dL_law_1010 : decode cL_law 1010 = .ok (.iload 5, 2) := by decide +kernel
theorem dL_law_1012 : decode cL_law 1012 = .ok (.if_icmp .eq 5, 3) := by decide +kernel
theorem dL_law_1015 : decode cL_law 1015 = .ok (.iconst 0, 1) := by decide +kernel
theorem dL_law_1016 : decode cL_law 1016 = .ok (.ireturn, 1) := by decide +kernel
theorem dL_law_1017 : decode cL_law 1017 = .ok (.iload 5, 2) := by decide +kernel
theorem dL_law_1019 : decode cL_law 1019 = .ok (.ifCond .ne 15, 3) := by decide +kernel
theorem dL_law_1022 : decode cL_law 1022 = .ok (.aload_n 3, 1) := by decide +kernel
theorem dL_law_1023 : decode cL_law 1023 = .ok (.iconst 0, 1) := by decide +kernel
theorem dL_law_1024 : decode cL_law 1024 = .ok (.laload, 1) := by decide +kernel
theorem dL_law_1025 : decode cL_law 1025 = .ok (.iload 6, 2) := by decide +kernel
theorem dL_law_1027 : decode cL_law 1027 = .ok (.i2l, 1) := by decide +kernel
theorem dL_law_1028 : decode cL_law 1028 = .ok (.lcmp, 1) := by decide +kernel
theorem dL_law_1029 : decode cL_law 1029 = .ok (.ifCond .eq 5, 3) := by decide +kernel
theorem dL_law_1032 : decode cL_law 1032 = .ok (.iconst 0, 1) := by decide +kernel
theorem dL_law_1033 : decode cL_law 1033 = .ok (.ireturn, 1) := by decide +kernel
theorem dL_law_1034 : decode cL_law 1034 = .ok (.goto 1058, 3) := by decide +kernel
theorem dL_law_1037 : decode cL_law 1037 = .ok (.aload_n 1, 1) := by decide +kernel
theorem dL_law_1038 : decode cL_law 1038 = .ok (.aload_n 0, 1) := by decide +kernel
theorem dL_law_1039 : decode cL_law 1039 = .ok (.iload 4, 2) := by decide +kernel
theorem dL_law_1041 : decode cL_law 1041 = .ok (.iconst 1, 1) := by decide +kernel
theorem dL_law_1042 : decode cL_law 1042 = .ok (.iadd, 1) := by decide +kernel
theorem dL_law_1043 : decode cL_law 1043 = .ok (.iaload, 1) := by decide +kernel
theorem dL_law_1044 : decode cL_law 1044 = .ok (.aload_n 3, 1) := by decide +kernel
theorem dL_law_1045 : decode cL_law 1045 = .ok (.invokestatic 162, 3) := by decide +kernel
theorem dL_law_1048 : decode cL_law 1048 = .ok (.istore 5, 2) := by decide +kernel
theorem dL_law_1050 : decode cL_law 1050 = .ok (.aload_n 2, 1) := by decide +kernel
theorem dL_law_1051 : decode cL_law 1051 = .ok (.aload_n 0, 1) := by decide +kernel
theorem dL_law_1052 : decode cL_law 1052 = .ok (.iload 4, 2) := by decide +kernel
theorem dL_law_1054 : decode cL_law 1054 = .ok (.iconst 1, 1) := by decide +kernel
theorem dL_law_1055 : decode cL_law 1055 = .ok (.iadd, 1) := by decide +kernel
theorem dL_law_1056 : decode cL_law 1056 = .ok (.iaload, 1) := by decide +kernel
theorem dL_law_1057 : decode cL_law 1057 = .ok (.invokevirtual 164, 3) := by decide +kernel
theorem dL_law_1060 : decode cL_law 1060 = .ok (.istore 6, 2) := by decide +kernel
theorem dL_law_1062 : decode cL_law 1062 = .ok (.aload_n 2, 1) := by decide +kernel
theorem dL_law_1063 : decode cL_law 1063 = .ok (.invokevirtual 113, 3) := by decide +kernel
theorem dL_law_1066 : decode cL_law 1066 = .ok (.iload 5, 2) := by decide +kernel
theorem dL_law_1068 : decode cL_law 1068 = .ok (.if_icmp .eq 5, 3) := by decide +kernel
theorem dL_law_1071 : decode cL_law 1071 = .ok (.iconst 0, 1) := by decide +kernel
theorem dL_law_1072 : decode cL_law 1072 = .ok (.ireturn, 1) := by decide +kernel
theorem dL_law_1073 : decode cL_law 1073 = .ok (.iload 5, 2) := by decide +kernel
theorem dL_law_1075 : decode cL_law 1075 = .ok (.ifCond .ne 15, 3) := by decide +kernel
theorem dL_law_1078 : decode cL_law 1078 = .ok (.aload_n 3, 1) := by decide +kernel
theorem dL_law_1079 : decode cL_law 1079 = .ok (.iconst 0, 1) := by decide +kernel
theorem dL_law_1080 : decode cL_law 1080 = .ok (.laload, 1) := by decide +kernel
theorem dL_law_1081 : decode cL_law 1081 = .ok (.iload 6, 2) := by decide +kernel
theorem dL_law_1083 : decode cL_law 1083 = .ok (.i2l, 1) := by decide +kernel
theorem dL_law_1084 : decode cL_law 1084 = .ok (.lcmp, 1) := by decide +kernel
theorem dL_law_1085 : decode cL_law 1085 = .ok (.ifCond .eq 5, 3) := by decide +kernel
theorem dL_law_1088 : decode cL_law 1088 = .ok (.iconst 0, 1) := by decide +kernel
theorem dL_law_1089 : decode cL_law 1089 = .ok (.ireturn, 1) := by decide +kernel
theorem dL_law_1090 : decode cL_law 1090 = .ok (.goto 1002, 3) := by decide +kernel
theorem dL_law_1093 : decode cL_law 1093 = .ok (.aload_n 1, 1) := by decide +kernel
theorem dL_law_1094 : decode cL_law 1094 = .ok (.aload_n 0, 1) := by decide +kernel
theorem dL_law_1095 : decode cL_law 1095 = .ok (.iload 4, 2) := by decide +kernel
theorem dL_law_1097 : decode cL_law 1097 = .ok (.iconst 1, 1) := by decide +kernel
theorem dL_law_1098 : decode cL_law 1098 = .ok (.iadd, 1) := by decide +kernel
theorem dL_law_1099 : decode cL_law 1099 = .ok (.iaload, 1) := by decide +kernel
theorem dL_law_1100 : decode cL_law 1100 = .ok (.aload_n 3, 1) := by decide +kernel
theorem dL_law_1101 : decode cL_law 1101 = .ok (.invokestatic 165, 3) := by decide +kernel
theorem dL_law_1104 : decode cL_law 1104 = .ok (.istore 5, 2) := by decide +kernel
theorem dL_law_1106 : decode cL_law 1106 = .ok (.aload_n 2, 1) := by decide +kernel
theorem dL_law_1107 : decode cL_law 1107 = .ok (.aload_n 0, 1) := by decide +kernel
theorem dL_law_1108 : decode cL_law 1108 = .ok (.iload 4, 2) := by decide +kernel
theorem dL_law_1110 : decode cL_law 1110 = .ok (.iconst 1, 1) := by decide +kernel
theorem dL_law_1111 : decode cL_law 1111 = .ok (.iadd, 1) := by decide +kernel
theorem dL_law_1112 : decode cL_law 1112 = .ok (.iaload, 1) := by decide +kernel
theorem dL_law_1113 : decode cL_law 1113 = .ok (.invokevirtual 167, 3) := by decide +kernel
theorem dL_law_1116 : decode cL_law 1116 = .ok (.istore 6, 2) := by decide +kernel
theorem dL_law_1118 : decode cL_law 1118 = .ok (.aload_n 2, 1) := by decide +kernel
theorem dL_law_1119 : decode cL_law 1119 = .ok (.invokevirtual 113, 3) := by decide +kernel
theorem dL_law_1122 : decode cL_law 1122 = .ok (.iload 5, 2) := by decide +kernel
theorem dL_law_1124 : decode cL_law 1124 = .ok (.if_icmp .eq 5, 3) := by decide +kernel
theorem dL_law_1127 : decode cL_law 1127 = .ok (.iconst 0, 1) := by decide +kernel
theorem dL_law_1128 : decode cL_law 1128 = .ok (.ireturn, 1) := by decide +kernel
theorem dL_law_1129 : decode cL_law 1129 = .ok (.iload 5, 2) := by decide +kernel
theorem dL_law_1131 : decode cL_law 1131 = .ok (.ifCond .ne 15, 3) := by decide +kernel
theorem dL_law_1134 : decode cL_law 1134 = .ok (.aload_n 3, 1) := by decide +kernel
theorem dL_law_1135 : decode cL_law 1135 = .ok (.iconst 0, 1) := by decide +kernel
theorem dL_law_1136 : decode cL_law 1136 = .ok (.laload, 1) := by decide +kernel
theorem dL_law_1137 : decode cL_law 1137 = .ok (.iload 6, 2) := by decide +kernel
theorem dL_law_1139 : decode cL_law 1139 = .ok (.i2l, 1) := by decide +kernel
theorem dL_law_1140 : decode cL_law 1140 = .ok (.lcmp, 1) := by decide +kernel
theorem dL_law_1141 : decode cL_law 1141 = .ok (.ifCond .eq 5, 3) := by decide +kernel
theorem dL_law_1144 : decode cL_law 1144 = .ok (.iconst 0, 1) := by decide +kernel
theorem dL_law_1145 : decode cL_law 1145 = .ok (.ireturn, 1) := by decide +kernel
theorem dL_law_1146 : decode cL_law 1146 = .ok (.goto 946, 3) := by decide +kernel
theorem dL_law_1149 : decode cL_law 1149 = .ok (.aload_n 1, 1) := by decide +kernel
theorem dL_law_1150 : decode cL_law 1150 = .ok (.aload_n 0, 1) := by decide +kernel
theorem dL_law_1151 : decode cL_law 1151 = .ok (.iload 4, 2) := by decide +kernel
theorem dL_law_1153 : decode cL_law 1153 = .ok (.iconst 1, 1) := by decide +kernel
theorem dL_law_1154 : decode cL_law 1154 = .ok (.iadd, 1) := by decide +kernel
theorem dL_law_1155 : decode cL_law 1155 = .ok (.iaload, 1) := by decide +kernel
theorem dL_law_1156 : decode cL_law 1156 = .ok (.aload_n 0, 1) := by decide +kernel
theorem dL_law_1157 : decode cL_law 1157 = .ok (.iload 4, 2) := by decide +kernel
theorem dL_law_1159 : decode cL_law 1159 = .ok (.iconst 2, 1) := by decide +kernel
theorem dL_law_1160 : decode cL_law 1160 = .ok (.iadd, 1) := by decide +kernel
theorem dL_law_1161 : decode cL_law 1161 = .ok (.iaload, 1) := by decide +kernel
theorem dL_law_1162 : decode cL_law 1162 = .ok (.aload_n 3, 1) := by decide +kernel
theorem dL_law_1163 : decode cL_law 1163 = .ok (.invokestatic 168, 3) := by decide +kernel
theorem dL_law_1166 : decode cL_law 1166 = .ok (.istore 5, 2) := by decide +kernel
theorem dL_law_1168 : decode cL_law 1168 = .ok (.aload_n 2, 1) := by decide +kernel
theorem dL_law_1169 : decode cL_law 1169 = .ok (.aload_n 0, 1) := by decide +kernel
theorem dL_law_1170 : decode cL_law 1170 = .ok (.iload 4, 2) := by decide +kernel
theorem dL_law_1172 : decode cL_law 1172 = .ok (.iconst 1, 1) := by decide +kernel
theorem dL_law_1173 : decode cL_law 1173 = .ok (.iadd, 1) := by decide +kernel
theorem dL_law_1174 : decode cL_law 1174 = .ok (.iaload, 1) := by decide +kernel
theorem dL_law_1175 : decode cL_law 1175 = .ok (.aload_n 0, 1) := by decide +kernel
theorem dL_law_1176 : decode cL_law 1176 = .ok (.iload 4, 2) := by decide +kernel
theorem dL_law_1178 : decode cL_law 1178 = .ok (.iconst 2, 1) := by decide +kernel
theorem dL_law_1179 : decode cL_law 1179 = .ok (.iadd, 1) := by decide +kernel
theorem dL_law_1180 : decode cL_law 1180 = .ok (.iaload, 1) := by decide +kernel
theorem dL_law_1181 : decode cL_law 1181 = .ok (.invokevirtual 170, 3) := by decide +kernel
theorem dL_law_1184 : decode cL_law 1184 = .ok (.istore 6, 2) := by decide +kernel
theorem dL_law_1186 : decode cL_law 1186 = .ok (.aload_n 2, 1) := by decide +kernel
theorem dL_law_1187 : decode cL_law 1187 = .ok (.invokevirtual 113, 3) := by decide +kernel
theorem dL_law_1190 : decode cL_law 1190 = .ok (.iload 5, 2) := by decide +kernel
theorem dL_law_1192 : decode cL_law 1192 = .ok (.if_icmp .eq 5, 3) := by decide +kernel
theorem dL_law_1195 : decode cL_law 1195 = .ok (.iconst 0, 1) := by decide +kernel
theorem dL_law_1196 : decode cL_law 1196 = .ok (.ireturn, 1) := by decide +kernel
theorem dL_law_1197 : decode cL_law 1197 = .ok (.iload 5, 2) := by decide +kernel
theorem dL_law_1199 : decode cL_law 1199 = .ok (.ifCond .ne 15, 3) := by decide +kernel
theorem dL_law_1202 : decode cL_law 1202 = .ok (.aload_n 3, 1) := by decide +kernel
theorem dL_law_1203 : decode cL_law 1203 = .ok (.iconst 0, 1) := by decide +kernel
theorem dL_law_1204 : decode cL_law 1204 = .ok (.laload, 1) := by decide +kernel
theorem dL_law_1205 : decode cL_law 1205 = .ok (.iload 6, 2) := by decide +kernel
theorem dL_law_1207 : decode cL_law 1207 = .ok (.i2l, 1) := by decide +kernel
theorem dL_law_1208 : decode cL_law 1208 = .ok (.lcmp, 1) := by decide +kernel
theorem dL_law_1209 : decode cL_law 1209 = .ok (.ifCond .eq 5, 3) := by decide +kernel
theorem dL_law_1212 : decode cL_law 1212 = .ok (.iconst 0, 1) := by decide +kernel
theorem dL_law_1213 : decode cL_law 1213 = .ok (.ireturn, 1) := by decide +kernel
theorem dL_law_1214 : decode cL_law 1214 = .ok (.goto 878, 3) := by decide +kernel
theorem dL_law_1217 : decode cL_law 1217 = .ok (.aload_n 1, 1) := by decide +kernel
theorem dL_law_1218 : decode cL_law 1218 = .ok (.aload_n 0, 1) := by decide +kernel
theorem dL_law_1219 : decode cL_law 1219 = .ok (.iload 4, 2) := by decide +kernel
theorem dL_law_1221 : decode cL_law 1221 = .ok (.iconst 1, 1) := by decide +kernel
theorem dL_law_1222 : decode cL_law 1222 = .ok (.iadd, 1) := by decide +kernel
theorem dL_law_1223 : decode cL_law 1223 = .ok (.iaload, 1) := by decide +kernel
theorem dL_law_1224 : decode cL_law 1224 = .ok (.aload_n 0, 1) := by decide +kernel
theorem dL_law_1225 : decode cL_law 1225 = .ok (.iload 4, 2) := by decide +kernel
theorem dL_law_1227 : decode cL_law 1227 = .ok (.iconst 2, 1) := by decide +kernel
theorem dL_law_1228 : decode cL_law 1228 = .ok (.iadd, 1) := by decide +kernel
theorem dL_law_1229 : decode cL_law 1229 = .ok (.iaload, 1) := by decide +kernel
theorem dL_law_1230 : decode cL_law 1230 = .ok (.aload_n 3, 1) := by decide +kernel
theorem dL_law_1231 : decode cL_law 1231 = .ok (.invokestatic 171, 3) := by decide +kernel
theorem dL_law_1234 : decode cL_law 1234 = .ok (.istore 5, 2) := by decide +kernel
theorem dL_law_1236 : decode cL_law 1236 = .ok (.aload_n 2, 1) := by decide +kernel
theorem dL_law_1237 : decode cL_law 1237 = .ok (.aload_n 0, 1) := by decide +kernel
theorem dL_law_1238 : decode cL_law 1238 = .ok (.iload 4, 2) := by decide +kernel
theorem dL_law_1240 : decode cL_law 1240 = .ok (.iconst 1, 1) := by decide +kernel
theorem dL_law_1241 : decode cL_law 1241 = .ok (.iadd, 1) := by decide +kernel
theorem dL_law_1242 : decode cL_law 1242 = .ok (.iaload, 1) := by decide +kernel
theorem dL_law_1243 : decode cL_law 1243 = .ok (.aload_n 0, 1) := by decide +kernel
theorem dL_law_1244 : decode cL_law 1244 = .ok (.iload 4, 2) := by decide +kernel
theorem dL_law_1246 : decode cL_law 1246 = .ok (.iconst 2, 1) := by decide +kernel
theorem dL_law_1247 : decode cL_law 1247 = .ok (.iadd, 1) := by decide +kernel
theorem dL_law_1248 : decode cL_law 1248 = .ok (.iaload, 1) := by decide +kernel
theorem dL_law_1249 : decode cL_law 1249 = .ok (.invokevirtual 173, 3) := by decide +kernel
theorem dL_law_1252 : decode cL_law 1252 = .ok (.lstore 6, 2) := by decide +kernel
theorem dL_law_1254 : decode cL_law 1254 = .ok (.aload_n 2, 1) := by decide +kernel
theorem dL_law_1255 : decode cL_law 1255 = .ok (.invokevirtual 113, 3) := by decide +kernel
theorem dL_law_1258 : decode cL_law 1258 = .ok (.iload 5, 2) := by decide +kernel
theorem dL_law_1260 : decode cL_law 1260 = .ok (.if_icmp .eq 5, 3) := by decide +kernel
theorem dL_law_1263 : decode cL_law 1263 = .ok (.iconst 0, 1) := by decide +kernel
theorem dL_law_1264 : decode cL_law 1264 = .ok (.ireturn, 1) := by decide +kernel
theorem dL_law_1265 : decode cL_law 1265 = .ok (.iload 5, 2) := by decide +kernel
theorem dL_law_1267 : decode cL_law 1267 = .ok (.ifCond .ne 14, 3) := by decide +kernel
theorem dL_law_1270 : decode cL_law 1270 = .ok (.aload_n 3, 1) := by decide +kernel
theorem dL_law_1271 : decode cL_law 1271 = .ok (.iconst 0, 1) := by decide +kernel
theorem dL_law_1272 : decode cL_law 1272 = .ok (.laload, 1) := by decide +kernel
theorem dL_law_1273 : decode cL_law 1273 = .ok (.lload 6, 2) := by decide +kernel
theorem dL_law_1275 : decode cL_law 1275 = .ok (.lcmp, 1) := by decide +kernel
theorem dL_law_1276 : decode cL_law 1276 = .ok (.ifCond .eq 5, 3) := by decide +kernel
theorem dL_law_1279 : decode cL_law 1279 = .ok (.iconst 0, 1) := by decide +kernel
theorem dL_law_1280 : decode cL_law 1280 = .ok (.ireturn, 1) := by decide +kernel
theorem dL_law_1281 : decode cL_law 1281 = .ok (.goto 811, 3) := by decide +kernel
theorem dL_law_1284 : decode cL_law 1284 = .ok (.aload_n 1, 1) := by decide +kernel
theorem dL_law_1285 : decode cL_law 1285 = .ok (.aload_n 0, 1) := by decide +kernel
theorem dL_law_1286 : decode cL_law 1286 = .ok (.iload 4, 2) := by decide +kernel
theorem dL_law_1288 : decode cL_law 1288 = .ok (.iconst 1, 1) := by decide +kernel
theorem dL_law_1289 : decode cL_law 1289 = .ok (.iadd, 1) := by decide +kernel
theorem dL_law_1290 : decode cL_law 1290 = .ok (.iaload, 1) := by decide +kernel
theorem dL_law_1291 : decode cL_law 1291 = .ok (.aload_n 3, 1) := by decide +kernel
theorem dL_law_1292 : decode cL_law 1292 = .ok (.invokestatic 174, 3) := by decide +kernel
theorem dL_law_1295 : decode cL_law 1295 = .ok (.istore 5, 2) := by decide +kernel
theorem dL_law_1297 : decode cL_law 1297 = .ok (.aload_n 2, 1) := by decide +kernel
theorem dL_law_1298 : decode cL_law 1298 = .ok (.aload_n 0, 1) := by decide +kernel
theorem dL_law_1299 : decode cL_law 1299 = .ok (.iload 4, 2) := by decide +kernel
theorem dL_law_1301 : decode cL_law 1301 = .ok (.iconst 1, 1) := by decide +kernel
theorem dL_law_1302 : decode cL_law 1302 = .ok (.iadd, 1) := by decide +kernel
theorem dL_law_1303 : decode cL_law 1303 = .ok (.iaload, 1) := by decide +kernel
theorem dL_law_1304 : decode cL_law 1304 = .ok (.invokevirtual 176, 3) := by decide +kernel
theorem dL_law_1307 : decode cL_law 1307 = .ok (.istore 6, 2) := by decide +kernel
theorem dL_law_1309 : decode cL_law 1309 = .ok (.aload_n 2, 1) := by decide +kernel
theorem dL_law_1310 : decode cL_law 1310 = .ok (.invokevirtual 113, 3) := by decide +kernel
theorem dL_law_1313 : decode cL_law 1313 = .ok (.iload 5, 2) := by decide +kernel
theorem dL_law_1315 : decode cL_law 1315 = .ok (.if_icmp .eq 5, 3) := by decide +kernel
theorem dL_law_1318 : decode cL_law 1318 = .ok (.iconst 0, 1) := by decide +kernel
theorem dL_law_1319 : decode cL_law 1319 = .ok (.ireturn, 1) := by decide +kernel
theorem dL_law_1320 : decode cL_law 1320 = .ok (.iload 5, 2) := by decide +kernel
theorem dL_law_1322 : decode cL_law 1322 = .ok (.ifCond .ne 15, 3) := by decide +kernel
theorem dL_law_1325 : decode cL_law 1325 = .ok (.aload_n 3, 1) := by decide +kernel
theorem dL_law_1326 : decode cL_law 1326 = .ok (.iconst 0, 1) := by decide +kernel
theorem dL_law_1327 : decode cL_law 1327 = .ok (.laload, 1) := by decide +kernel
theorem dL_law_1328 : decode cL_law 1328 = .ok (.iload 6, 2) := by decide +kernel
theorem dL_law_1330 : decode cL_law 1330 = .ok (.i2l, 1) := by decide +kernel
theorem dL_law_1331 : decode cL_law 1331 = .ok (.lcmp, 1) := by decide +kernel
theorem dL_law_1332 : decode cL_law 1332 = .ok (.ifCond .eq 5, 3) := by decide +kernel
theorem dL_law_1335 : decode cL_law 1335 = .ok (.iconst 0, 1) := by decide +kernel
theorem dL_law_1336 : decode cL_law 1336 = .ok (.ireturn, 1) := by decide +kernel
theorem dL_law_1337 : decode cL_law 1337 = .ok (.goto 755, 3) := by decide +kernel
theorem dL_law_1340 : decode cL_law 1340 = .ok (.aload_n 1, 1) := by decide +kernel
theorem dL_law_1341 : decode cL_law 1341 = .ok (.aload_n 0, 1) := by decide +kernel
theorem dL_law_1342 : decode cL_law 1342 = .ok (.iload 4, 2) := by decide +kernel
theorem dL_law_1344 : decode cL_law 1344 = .ok (.iconst 1, 1) := by decide +kernel
theorem dL_law_1345 : decode cL_law 1345 = .ok (.iadd, 1) := by decide +kernel
theorem dL_law_1346 : decode cL_law 1346 = .ok (.iaload, 1) := by decide +kernel
theorem dL_law_1347 : decode cL_law 1347 = .ok (.aload_n 0, 1) := by decide +kernel
theorem dL_law_1348 : decode cL_law 1348 = .ok (.iload 4, 2) := by decide +kernel
theorem dL_law_1350 : decode cL_law 1350 = .ok (.iconst 2, 1) := by decide +kernel
theorem dL_law_1351 : decode cL_law 1351 = .ok (.iadd, 1) := by decide +kernel
theorem dL_law_1352 : decode cL_law 1352 = .ok (.iaload, 1) := by decide +kernel
theorem dL_law_1353 : decode cL_law 1353 = .ok (.aload_n 3, 1) := by decide +kernel
theorem dL_law_1354 : decode cL_law 1354 = .ok (.invokestatic 177, 3) := by decide +kernel
theorem dL_law_1357 : decode cL_law 1357 = .ok (.istore 5, 2) := by decide +kernel
theorem dL_law_1359 : decode cL_law 1359 = .ok (.aload_n 2, 1) := by decide +kernel
theorem dL_law_1360 : decode cL_law 1360 = .ok (.aload_n 0, 1) := by decide +kernel
theorem dL_law_1361 : decode cL_law 1361 = .ok (.iload 4, 2) := by decide +kernel
theorem dL_law_1363 : decode cL_law 1363 = .ok (.iconst 1, 1) := by decide +kernel
theorem dL_law_1364 : decode cL_law 1364 = .ok (.iadd, 1) := by decide +kernel
theorem dL_law_1365 : decode cL_law 1365 = .ok (.iaload, 1) := by decide +kernel
theorem dL_law_1366 : decode cL_law 1366 = .ok (.aload_n 0, 1) := by decide +kernel
theorem dL_law_1367 : decode cL_law 1367 = .ok (.iload 4, 2) := by decide +kernel
theorem dL_law_1369 : decode cL_law 1369 = .ok (.iconst 2, 1) := by decide +kernel
theorem dL_law_1370 : decode cL_law 1370 = .ok (.iadd, 1) := by decide +kernel
theorem dL_law_1371 : decode cL_law 1371 = .ok (.iaload, 1) := by decide +kernel
theorem dL_law_1372 : decode cL_law 1372 = .ok (.invokevirtual 179, 3) := by decide +kernel
theorem dL_law_1375 : decode cL_law 1375 = .ok (.lstore 6, 2) := by decide +kernel
theorem dL_law_1377 : decode cL_law 1377 = .ok (.aload_n 2, 1) := by decide +kernel
theorem dL_law_1378 : decode cL_law 1378 = .ok (.invokevirtual 113, 3) := by decide +kernel
theorem dL_law_1381 : decode cL_law 1381 = .ok (.iload 5, 2) := by decide +kernel
theorem dL_law_1383 : decode cL_law 1383 = .ok (.if_icmp .eq 5, 3) := by decide +kernel
theorem dL_law_1386 : decode cL_law 1386 = .ok (.iconst 0, 1) := by decide +kernel
theorem dL_law_1387 : decode cL_law 1387 = .ok (.ireturn, 1) := by decide +kernel
theorem dL_law_1388 : decode cL_law 1388 = .ok (.iload 5, 2) := by decide +kernel
theorem dL_law_1390 : decode cL_law 1390 = .ok (.ifCond .ne 14, 3) := by decide +kernel
theorem dL_law_1393 : decode cL_law 1393 = .ok (.aload_n 3, 1) := by decide +kernel
theorem dL_law_1394 : decode cL_law 1394 = .ok (.iconst 0, 1) := by decide +kernel
theorem dL_law_1395 : decode cL_law 1395 = .ok (.laload, 1) := by decide +kernel
theorem dL_law_1396 : decode cL_law 1396 = .ok (.lload 6, 2) := by decide +kernel
theorem dL_law_1398 : decode cL_law 1398 = .ok (.lcmp, 1) := by decide +kernel
theorem dL_law_1399 : decode cL_law 1399 = .ok (.ifCond .eq 5, 3) := by decide +kernel
theorem dL_law_1402 : decode cL_law 1402 = .ok (.iconst 0, 1) := by decide +kernel
theorem dL_law_1403 : decode cL_law 1403 = .ok (.ireturn, 1) := by decide +kernel
theorem dL_law_1404 : decode cL_law 1404 = .ok (.goto 688, 3) := by decide +kernel
theorem dL_law_1407 : decode cL_law 1407 = .ok (.aload_n 1, 1) := by decide +kernel
theorem dL_law_1408 : decode cL_law 1408 = .ok (.aload_n 0, 1) := by decide +kernel
theorem dL_law_1409 : decode cL_law 1409 = .ok (.iload 4, 2) := by decide +kernel
theorem dL_law_1411 : decode cL_law 1411 = .ok (.iconst 1, 1) := by decide +kernel
theorem dL_law_1412 : decode cL_law 1412 = .ok (.iadd, 1) := by decide +kernel
theorem dL_law_1413 : decode cL_law 1413 = .ok (.iaload, 1) := by decide +kernel
theorem dL_law_1414 : decode cL_law 1414 = .ok (.aload_n 0, 1) := by decide +kernel
theorem dL_law_1415 : decode cL_law 1415 = .ok (.iload 4, 2) := by decide +kernel
theorem dL_law_1417 : decode cL_law 1417 = .ok (.iconst 2, 1) := by decide +kernel
theorem dL_law_1418 : decode cL_law 1418 = .ok (.iadd, 1) := by decide +kernel
theorem dL_law_1419 : decode cL_law 1419 = .ok (.iaload, 1) := by decide +kernel
theorem dL_law_1420 : decode cL_law 1420 = .ok (.aload_n 0, 1) := by decide +kernel
theorem dL_law_1421 : decode cL_law 1421 = .ok (.iload 4, 2) := by decide +kernel
theorem dL_law_1423 : decode cL_law 1423 = .ok (.iconst 3, 1) := by decide +kernel
theorem dL_law_1424 : decode cL_law 1424 = .ok (.iadd, 1) := by decide +kernel
theorem dL_law_1425 : decode cL_law 1425 = .ok (.iaload, 1) := by decide +kernel
theorem dL_law_1426 : decode cL_law 1426 = .ok (.aload_n 3, 1) := by decide +kernel
theorem dL_law_1427 : decode cL_law 1427 = .ok (.invokestatic 180, 3) := by decide +kernel
theorem dL_law_1430 : decode cL_law 1430 = .ok (.istore 5, 2) := by decide +kernel
theorem dL_law_1432 : decode cL_law 1432 = .ok (.aload_n 2, 1) := by decide +kernel
theorem dL_law_1433 : decode cL_law 1433 = .ok (.aload_n 0, 1) := by decide +kernel
theorem dL_law_1434 : decode cL_law 1434 = .ok (.iload 4, 2) := by decide +kernel
theorem dL_law_1436 : decode cL_law 1436 = .ok (.iconst 1, 1) := by decide +kernel
theorem dL_law_1437 : decode cL_law 1437 = .ok (.iadd, 1) := by decide +kernel
theorem dL_law_1438 : decode cL_law 1438 = .ok (.iaload, 1) := by decide +kernel
theorem dL_law_1439 : decode cL_law 1439 = .ok (.aload_n 0, 1) := by decide +kernel
theorem dL_law_1440 : decode cL_law 1440 = .ok (.iload 4, 2) := by decide +kernel
theorem dL_law_1442 : decode cL_law 1442 = .ok (.iconst 2, 1) := by decide +kernel
theorem dL_law_1443 : decode cL_law 1443 = .ok (.iadd, 1) := by decide +kernel
theorem dL_law_1444 : decode cL_law 1444 = .ok (.iaload, 1) := by decide +kernel
theorem dL_law_1445 : decode cL_law 1445 = .ok (.aload_n 0, 1) := by decide +kernel
theorem dL_law_1446 : decode cL_law 1446 = .ok (.iload 4, 2) := by decide +kernel
theorem dL_law_1448 : decode cL_law 1448 = .ok (.iconst 3, 1) := by decide +kernel
theorem dL_law_1449 : decode cL_law 1449 = .ok (.iadd, 1) := by decide +kernel
theorem dL_law_1450 : decode cL_law 1450 = .ok (.iaload, 1) := by decide +kernel
theorem dL_law_1451 : decode cL_law 1451 = .ok (.invokevirtual 182, 3) := by decide +kernel
theorem dL_law_1454 : decode cL_law 1454 = .ok (.istore 6, 2) := by decide +kernel
theorem dL_law_1456 : decode cL_law 1456 = .ok (.aload_n 2, 1) := by decide +kernel
theorem dL_law_1457 : decode cL_law 1457 = .ok (.invokevirtual 113, 3) := by decide +kernel
theorem dL_law_1460 : decode cL_law 1460 = .ok (.iload 5, 2) := by decide +kernel
theorem dL_law_1462 : decode cL_law 1462 = .ok (.if_icmp .eq 5, 3) := by decide +kernel
theorem dL_law_1465 : decode cL_law 1465 = .ok (.iconst 0, 1) := by decide +kernel
theorem dL_law_1466 : decode cL_law 1466 = .ok (.ireturn, 1) := by decide +kernel
theorem dL_law_1467 : decode cL_law 1467 = .ok (.iload 5, 2) := by decide +kernel
theorem dL_law_1469 : decode cL_law 1469 = .ok (.ifCond .ne 15, 3) := by decide +kernel
theorem dL_law_1472 : decode cL_law 1472 = .ok (.aload_n 3, 1) := by decide +kernel
theorem dL_law_1473 : decode cL_law 1473 = .ok (.iconst 0, 1) := by decide +kernel
theorem dL_law_1474 : decode cL_law 1474 = .ok (.laload, 1) := by decide +kernel
theorem dL_law_1475 : decode cL_law 1475 = .ok (.iload 6, 2) := by decide +kernel
theorem dL_law_1477 : decode cL_law 1477 = .ok (.i2l, 1) := by decide +kernel
theorem dL_law_1478 : decode cL_law 1478 = .ok (.lcmp, 1) := by decide +kernel
theorem dL_law_1479 : decode cL_law 1479 = .ok (.ifCond .eq 5, 3) := by decide +kernel
theorem dL_law_1482 : decode cL_law 1482 = .ok (.iconst 0, 1) := by decide +kernel
theorem dL_law_1483 : decode cL_law 1483 = .ok (.ireturn, 1) := by decide +kernel
theorem dL_law_1484 : decode cL_law 1484 = .ok (.goto 608, 3) := by decide +kernel
theorem dL_law_1487 : decode cL_law 1487 = .ok (.aload_n 1, 1) := by decide +kernel
theorem dL_law_1488 : decode cL_law 1488 = .ok (.aload_n 0, 1) := by decide +kernel
theorem dL_law_1489 : decode cL_law 1489 = .ok (.iload 4, 2) := by decide +kernel
theorem dL_law_1491 : decode cL_law 1491 = .ok (.iconst 1, 1) := by decide +kernel
theorem dL_law_1492 : decode cL_law 1492 = .ok (.iadd, 1) := by decide +kernel
theorem dL_law_1493 : decode cL_law 1493 = .ok (.iaload, 1) := by decide +kernel
theorem dL_law_1494 : decode cL_law 1494 = .ok (.aload_n 0, 1) := by decide +kernel
theorem dL_law_1495 : decode cL_law 1495 = .ok (.iload 4, 2) := by decide +kernel
theorem dL_law_1497 : decode cL_law 1497 = .ok (.iconst 2, 1) := by decide +kernel
theorem dL_law_1498 : decode cL_law 1498 = .ok (.iadd, 1) := by decide +kernel
theorem dL_law_1499 : decode cL_law 1499 = .ok (.iaload, 1) := by decide +kernel
theorem dL_law_1500 : decode cL_law 1500 = .ok (.aload_n 3, 1) := by decide +kernel
theorem dL_law_1501 : decode cL_law 1501 = .ok (.invokestatic 183, 3) := by decide +kernel
theorem dL_law_1504 : decode cL_law 1504 = .ok (.istore 5, 2) := by decide +kernel
theorem dL_law_1506 : decode cL_law 1506 = .ok (.aload_n 2, 1) := by decide +kernel
theorem dL_law_1507 : decode cL_law 1507 = .ok (.aload_n 0, 1) := by decide +kernel
theorem dL_law_1508 : decode cL_law 1508 = .ok (.iload 4, 2) := by decide +kernel
theorem dL_law_1510 : decode cL_law 1510 = .ok (.iconst 1, 1) := by decide +kernel
theorem dL_law_1511 : decode cL_law 1511 = .ok (.iadd, 1) := by decide +kernel
theorem dL_law_1512 : decode cL_law 1512 = .ok (.iaload, 1) := by decide +kernel
theorem dL_law_1513 : decode cL_law 1513 = .ok (.aload_n 0, 1) := by decide +kernel
theorem dL_law_1514 : decode cL_law 1514 = .ok (.iload 4, 2) := by decide +kernel
theorem dL_law_1516 : decode cL_law 1516 = .ok (.iconst 2, 1) := by decide +kernel
theorem dL_law_1517 : decode cL_law 1517 = .ok (.iadd, 1) := by decide +kernel
theorem dL_law_1518 : decode cL_law 1518 = .ok (.iaload, 1) := by decide +kernel
theorem dL_law_1519 : decode cL_law 1519 = .ok (.invokevirtual 185, 3) := by decide +kernel
theorem dL_law_1522 : decode cL_law 1522 = .ok (.istore 6, 2) := by decide +kernel
theorem dL_law_1524 : decode cL_law 1524 = .ok (.aload_n 2, 1) := by decide +kernel
theorem dL_law_1525 : decode cL_law 1525 = .ok (.invokevirtual 113, 3) := by decide +kernel
theorem dL_law_1528 : decode cL_law 1528 = .ok (.iload 5, 2) := by decide +kernel
theorem dL_law_1530 : decode cL_law 1530 = .ok (.if_icmp .eq 5, 3) := by decide +kernel
theorem dL_law_1533 : decode cL_law 1533 = .ok (.iconst 0, 1) := by decide +kernel
theorem dL_law_1534 : decode cL_law 1534 = .ok (.ireturn, 1) := by decide +kernel
theorem dL_law_1535 : decode cL_law 1535 = .ok (.iload 5, 2) := by decide +kernel
theorem dL_law_1537 : decode cL_law 1537 = .ok (.ifCond .ne 15, 3) := by decide +kernel
theorem dL_law_1540 : decode cL_law 1540 = .ok (.aload_n 3, 1) := by decide +kernel
theorem dL_law_1541 : decode cL_law 1541 = .ok (.iconst 0, 1) := by decide +kernel
theorem dL_law_1542 : decode cL_law 1542 = .ok (.laload, 1) := by decide +kernel
theorem dL_law_1543 : decode cL_law 1543 = .ok (.iload 6, 2) := by decide +kernel
theorem dL_law_1545 : decode cL_law 1545 = .ok (.i2l, 1) := by decide +kernel
theorem dL_law_1546 : decode cL_law 1546 = .ok (.lcmp, 1) := by decide +kernel
theorem dL_law_1547 : decode cL_law 1547 = .ok (.ifCond .eq 5, 3) := by decide +kernel
theorem dL_law_1550 : decode cL_law 1550 = .ok (.iconst 0, 1) := by decide +kernel
theorem dL_law_1551 : decode cL_law 1551 = .ok (.ireturn, 1) := by decide +kernel
theorem dL_law_1552 : decode cL_law 1552 = .ok (.goto 540, 3) := by decide +kernel
theorem dL_law_1555 : decode cL_law 1555 = .ok (.aload_n 1, 1) := by decide +kernel
theorem dL_law_1556 : decode cL_law 1556 = .ok (.aload_n 0, 1) := by decide +kernel
theorem dL_law_1557 : decode cL_law 1557 = .ok (.iload 4, 2) := by decide +kernel
theorem dL_law_1559 : decode cL_law 1559 = .ok (.iconst 1, 1) := by decide +kernel
theorem dL_law_1560 : decode cL_law 1560 = .ok (.iadd, 1) := by decide +kernel
theorem dL_law_1561 : decode cL_law 1561 = .ok (.iaload, 1) := by decide +kernel
theorem dL_law_1562 : decode cL_law 1562 = .ok (.aload_n 0, 1) := by decide +kernel
theorem dL_law_1563 : decode cL_law 1563 = .ok (.iload 4, 2) := by decide +kernel
theorem dL_law_1565 : decode cL_law 1565 = .ok (.iconst 2, 1) := by decide +kernel
theorem dL_law_1566 : decode cL_law 1566 = .ok (.iadd, 1) := by decide +kernel
theorem dL_law_1567 : decode cL_law 1567 = .ok (.iaload, 1) := by decide +kernel
theorem dL_law_1568 : decode cL_law 1568 = .ok (.aload_n 3, 1) := by decide +kernel
theorem dL_law_1569 : decode cL_law 1569 = .ok (.invokestatic 186, 3) := by decide +kernel
theorem dL_law_1572 : decode cL_law 1572 = .ok (.istore 5, 2) := by decide +kernel
theorem dL_law_1574 : decode cL_law 1574 = .ok (.aload_n 2, 1) := by decide +kernel
theorem dL_law_1575 : decode cL_law 1575 = .ok (.aload_n 0, 1) := by decide +kernel
theorem dL_law_1576 : decode cL_law 1576 = .ok (.iload 4, 2) := by decide +kernel
theorem dL_law_1578 : decode cL_law 1578 = .ok (.iconst 1, 1) := by decide +kernel
theorem dL_law_1579 : decode cL_law 1579 = .ok (.iadd, 1) := by decide +kernel
theorem dL_law_1580 : decode cL_law 1580 = .ok (.iaload, 1) := by decide +kernel
theorem dL_law_1581 : decode cL_law 1581 = .ok (.aload_n 0, 1) := by decide +kernel
theorem dL_law_1582 : decode cL_law 1582 = .ok (.iload 4, 2) := by decide +kernel
theorem dL_law_1584 : decode cL_law 1584 = .ok (.iconst 2, 1) := by decide +kernel
theorem dL_law_1585 : decode cL_law 1585 = .ok (.iadd, 1) := by decide +kernel
theorem dL_law_1586 : decode cL_law 1586 = .ok (.iaload, 1) := by decide +kernel
theorem dL_law_1587 : decode cL_law 1587 = .ok (.invokevirtual 188, 3) := by decide +kernel
theorem dL_law_1590 : decode cL_law 1590 = .ok (.istore 6, 2) := by decide +kernel
theorem dL_law_1592 : decode cL_law 1592 = .ok (.aload_n 2, 1) := by decide +kernel
theorem dL_law_1593 : decode cL_law 1593 = .ok (.invokevirtual 113, 3) := by decide +kernel
theorem dL_law_1596 : decode cL_law 1596 = .ok (.iload 5, 2) := by decide +kernel
theorem dL_law_1598 : decode cL_law 1598 = .ok (.if_icmp .eq 5, 3) := by decide +kernel
theorem dL_law_1601 : decode cL_law 1601 = .ok (.iconst 0, 1) := by decide +kernel
theorem dL_law_1602 : decode cL_law 1602 = .ok (.ireturn, 1) := by decide +kernel
theorem dL_law_1603 : decode cL_law 1603 = .ok (.iload 5, 2) := by decide +kernel
theorem dL_law_1605 : decode cL_law 1605 = .ok (.ifCond .ne 15, 3) := by decide +kernel
theorem dL_law_1608 : decode cL_law 1608 = .ok (.aload_n 3, 1) := by decide +kernel
theorem dL_law_1609 : decode cL_law 1609 = .ok (.iconst 0, 1) := by decide +kernel
theorem dL_law_1610 : decode cL_law 1610 = .ok (.laload, 1) := by decide +kernel
theorem dL_law_1611 : decode cL_law 1611 = .ok (.iload 6, 2) := by decide +kernel
theorem dL_law_1613 : decode cL_law 1613 = .ok (.i2l, 1) := by decide +kernel
theorem dL_law_1614 : decode cL_law 1614 = .ok (.lcmp, 1) := by decide +kernel
theorem dL_law_1615 : decode cL_law 1615 = .ok (.ifCond .eq 5, 3) := by decide +kernel
theorem dL_law_1618 : decode cL_law 1618 = .ok (.iconst 0, 1) := by decide +kernel
theorem dL_law_1619 : decode cL_law 1619 = .ok (.ireturn, 1) := by decide +kernel
theorem dL_law_1620 : decode cL_law 1620 = .ok (.goto 472, 3) := by decide +kernel
theorem dL_law_1623 : decode cL_law 1623 = .ok (.aload_n 1, 1) := by decide +kernel
theorem dL_law_1624 : decode cL_law 1624 = .ok (.invokevirtual 189, 3) := by decide +kernel
theorem dL_law_1627 : decode cL_law 1627 = .ok (.aload_n 2, 1) := by decide +kernel
theorem dL_law_1628 : decode cL_law 1628 = .ok (.invokevirtual 192, 3) := by decide +kernel
theorem dL_law_1631 : decode cL_law 1631 = .ok (.if_icmp .eq 461, 3) := by decide +kernel
theorem dL_law_1634 : decode cL_law 1634 = .ok (.iconst 0, 1) := by decide +kernel
theorem dL_law_1635 : decode cL_law 1635 = .ok (.ireturn, 1) := by decide +kernel
theorem dL_law_1636 : decode cL_law 1636 = .ok (.aload_n 1, 1) := by decide +kernel
theorem dL_law_1637 : decode cL_law 1637 = .ok (.aload_n 0, 1) := by decide +kernel
theorem dL_law_1638 : decode cL_law 1638 = .ok (.iload 4, 2) := by decide +kernel
theorem dL_law_1640 : decode cL_law 1640 = .ok (.iconst 1, 1) := by decide +kernel
theorem dL_law_1641 : decode cL_law 1641 = .ok (.iadd, 1) := by decide +kernel
theorem dL_law_1642 : decode cL_law 1642 = .ok (.iaload, 1) := by decide +kernel
theorem dL_law_1643 : decode cL_law 1643 = .ok (.aload_n 0, 1) := by decide +kernel
theorem dL_law_1644 : decode cL_law 1644 = .ok (.iload 4, 2) := by decide +kernel
theorem dL_law_1646 : decode cL_law 1646 = .ok (.iconst 2, 1) := by decide +kernel
theorem dL_law_1647 : decode cL_law 1647 = .ok (.iadd, 1) := by decide +kernel
theorem dL_law_1648 : decode cL_law 1648 = .ok (.iaload, 1) := by decide +kernel
theorem dL_law_1649 : decode cL_law 1649 = .ok (.aload_n 0, 1) := by decide +kernel
theorem dL_law_1650 : decode cL_law 1650 = .ok (.iload 4, 2) := by decide +kernel
theorem dL_law_1652 : decode cL_law 1652 = .ok (.iconst 3, 1) := by decide +kernel
theorem dL_law_1653 : decode cL_law 1653 = .ok (.iadd, 1) := by decide +kernel
theorem dL_law_1654 : decode cL_law 1654 = .ok (.iaload, 1) := by decide +kernel
theorem dL_law_1655 : decode cL_law 1655 = .ok (.aload_n 3, 1) := by decide +kernel
theorem dL_law_1656 : decode cL_law 1656 = .ok (.invokestatic 193, 3) := by decide +kernel
theorem dL_law_1659 : decode cL_law 1659 = .ok (.istore 5, 2) := by decide +kernel
theorem dL_law_1661 : decode cL_law 1661 = .ok (.aload_n 2, 1) := by decide +kernel
theorem dL_law_1662 : decode cL_law 1662 = .ok (.aload_n 0, 1) := by decide +kernel
theorem dL_law_1663 : decode cL_law 1663 = .ok (.iload 4, 2) := by decide +kernel
theorem dL_law_1665 : decode cL_law 1665 = .ok (.iconst 1, 1) := by decide +kernel
theorem dL_law_1666 : decode cL_law 1666 = .ok (.iadd, 1) := by decide +kernel
theorem dL_law_1667 : decode cL_law 1667 = .ok (.iaload, 1) := by decide +kernel
theorem dL_law_1668 : decode cL_law 1668 = .ok (.aload_n 0, 1) := by decide +kernel
theorem dL_law_1669 : decode cL_law 1669 = .ok (.iload 4, 2) := by decide +kernel
theorem dL_law_1671 : decode cL_law 1671 = .ok (.iconst 2, 1) := by decide +kernel
theorem dL_law_1672 : decode cL_law 1672 = .ok (.iadd, 1) := by decide +kernel
theorem dL_law_1673 : decode cL_law 1673 = .ok (.iaload, 1) := by decide +kernel
theorem dL_law_1674 : decode cL_law 1674 = .ok (.aload_n 0, 1) := by decide +kernel
theorem dL_law_1675 : decode cL_law 1675 = .ok (.iload 4, 2) := by decide +kernel
theorem dL_law_1677 : decode cL_law 1677 = .ok (.iconst 3, 1) := by decide +kernel
theorem dL_law_1678 : decode cL_law 1678 = .ok (.iadd, 1) := by decide +kernel
theorem dL_law_1679 : decode cL_law 1679 = .ok (.iaload, 1) := by decide +kernel
theorem dL_law_1680 : decode cL_law 1680 = .ok (.invokevirtual 195, 3) := by decide +kernel
theorem dL_law_1683 : decode cL_law 1683 = .ok (.istore 6, 2) := by decide +kernel
theorem dL_law_1685 : decode cL_law 1685 = .ok (.aload_n 2, 1) := by decide +kernel
theorem dL_law_1686 : decode cL_law 1686 = .ok (.invokevirtual 113, 3) := by decide +kernel
theorem dL_law_1689 : decode cL_law 1689 = .ok (.iload 5, 2) := by decide +kernel
theorem dL_law_1691 : decode cL_law 1691 = .ok (.if_icmp .eq 5, 3) := by decide +kernel
theorem dL_law_1694 : decode cL_law 1694 = .ok (.iconst 0, 1) := by decide +kernel
theorem dL_law_1695 : decode cL_law 1695 = .ok (.ireturn, 1) := by decide +kernel
theorem dL_law_1696 : decode cL_law 1696 = .ok (.iload 5, 2) := by decide +kernel
theorem dL_law_1698 : decode cL_law 1698 = .ok (.ifCond .ne 15, 3) := by decide +kernel
theorem dL_law_1701 : decode cL_law 1701 = .ok (.aload_n 3, 1) := by decide +kernel
theorem dL_law_1702 : decode cL_law 1702 = .ok (.iconst 0, 1) := by decide +kernel
theorem dL_law_1703 : decode cL_law 1703 = .ok (.laload, 1) := by decide +kernel
theorem dL_law_1704 : decode cL_law 1704 = .ok (.iload 6, 2) := by decide +kernel
theorem dL_law_1706 : decode cL_law 1706 = .ok (.i2l, 1) := by decide +kernel
theorem dL_law_1707 : decode cL_law 1707 = .ok (.lcmp, 1) := by decide +kernel
theorem dL_law_1708 : decode cL_law 1708 = .ok (.ifCond .eq 5, 3) := by decide +kernel
theorem dL_law_1711 : decode cL_law 1711 = .ok (.iconst 0, 1) := by decide +kernel
theorem dL_law_1712 : decode cL_law 1712 = .ok (.ireturn, 1) := by decide +kernel
theorem dL_law_1713 : decode cL_law 1713 = .ok (.goto 379, 3) := by decide +kernel
theorem dL_law_1716 : decode cL_law 1716 = .ok (.aload_n 1, 1) := by decide +kernel
theorem dL_law_1717 : decode cL_law 1717 = .ok (.aload_n 0, 1) := by decide +kernel
theorem dL_law_1718 : decode cL_law 1718 = .ok (.iload 4, 2) := by decide +kernel
theorem dL_law_1720 : decode cL_law 1720 = .ok (.iconst 1, 1) := by decide +kernel
theorem dL_law_1721 : decode cL_law 1721 = .ok (.iadd, 1) := by decide +kernel
theorem dL_law_1722 : decode cL_law 1722 = .ok (.iaload, 1) := by decide +kernel
theorem dL_law_1723 : decode cL_law 1723 = .ok (.aload_n 0, 1) := by decide +kernel
theorem dL_law_1724 : decode cL_law 1724 = .ok (.iload 4, 2) := by decide +kernel
theorem dL_law_1726 : decode cL_law 1726 = .ok (.iconst 2, 1) := by decide +kernel
theorem dL_law_1727 : decode cL_law 1727 = .ok (.iadd, 1) := by decide +kernel
theorem dL_law_1728 : decode cL_law 1728 = .ok (.iaload, 1) := by decide +kernel
theorem dL_law_1729 : decode cL_law 1729 = .ok (.aload_n 0, 1) := by decide +kernel
theorem dL_law_1730 : decode cL_law 1730 = .ok (.iload 4, 2) := by decide +kernel
theorem dL_law_1732 : decode cL_law 1732 = .ok (.iconst 3, 1) := by decide +kernel
theorem dL_law_1733 : decode cL_law 1733 = .ok (.iadd, 1) := by decide +kernel
theorem dL_law_1734 : decode cL_law 1734 = .ok (.iaload, 1) := by decide +kernel
theorem dL_law_1735 : decode cL_law 1735 = .ok (.aload_n 3, 1) := by decide +kernel
theorem dL_law_1736 : decode cL_law 1736 = .ok (.invokestatic 196, 3) := by decide +kernel
theorem dL_law_1739 : decode cL_law 1739 = .ok (.istore 5, 2) := by decide +kernel
theorem dL_law_1741 : decode cL_law 1741 = .ok (.aload_n 2, 1) := by decide +kernel
theorem dL_law_1742 : decode cL_law 1742 = .ok (.aload_n 0, 1) := by decide +kernel
theorem dL_law_1743 : decode cL_law 1743 = .ok (.iload 4, 2) := by decide +kernel
theorem dL_law_1745 : decode cL_law 1745 = .ok (.iconst 1, 1) := by decide +kernel
theorem dL_law_1746 : decode cL_law 1746 = .ok (.iadd, 1) := by decide +kernel
theorem dL_law_1747 : decode cL_law 1747 = .ok (.iaload, 1) := by decide +kernel
theorem dL_law_1748 : decode cL_law 1748 = .ok (.aload_n 0, 1) := by decide +kernel
theorem dL_law_1749 : decode cL_law 1749 = .ok (.iload 4, 2) := by decide +kernel
theorem dL_law_1751 : decode cL_law 1751 = .ok (.iconst 2, 1) := by decide +kernel
theorem dL_law_1752 : decode cL_law 1752 = .ok (.iadd, 1) := by decide +kernel
theorem dL_law_1753 : decode cL_law 1753 = .ok (.iaload, 1) := by decide +kernel
theorem dL_law_1754 : decode cL_law 1754 = .ok (.aload_n 0, 1) := by decide +kernel
theorem dL_law_1755 : decode cL_law 1755 = .ok (.iload 4, 2) := by decide +kernel
theorem dL_law_1757 : decode cL_law 1757 = .ok (.iconst 3, 1) := by decide +kernel
theorem dL_law_1758 : decode cL_law 1758 = .ok (.iadd, 1) := by decide +kernel
theorem dL_law_1759 : decode cL_law 1759 = .ok (.iaload, 1) := by decide +kernel
theorem dL_law_1760 : decode cL_law 1760 = .ok (.invokevirtual 198, 3) := by decide +kernel
theorem dL_law_1763 : decode cL_law 1763 = .ok (.istore 6, 2) := by decide +kernel
theorem dL_law_1765 : decode cL_law 1765 = .ok (.aload_n 2, 1) := by decide +kernel
theorem dL_law_1766 : decode cL_law 1766 = .ok (.invokevirtual 113, 3) := by decide +kernel
theorem dL_law_1769 : decode cL_law 1769 = .ok (.iload 5, 2) := by decide +kernel
theorem dL_law_1771 : decode cL_law 1771 = .ok (.if_icmp .eq 5, 3) := by decide +kernel
theorem dL_law_1774 : decode cL_law 1774 = .ok (.iconst 0, 1) := by decide +kernel
theorem dL_law_1775 : decode cL_law 1775 = .ok (.ireturn, 1) := by decide +kernel
theorem dL_law_1776 : decode cL_law 1776 = .ok (.iload 5, 2) := by decide +kernel
theorem dL_law_1778 : decode cL_law 1778 = .ok (.ifCond .ne 15, 3) := by decide +kernel
theorem dL_law_1781 : decode cL_law 1781 = .ok (.aload_n 3, 1) := by decide +kernel
theorem dL_law_1782 : decode cL_law 1782 = .ok (.iconst 0, 1) := by decide +kernel
theorem dL_law_1783 : decode cL_law 1783 = .ok (.laload, 1) := by decide +kernel
theorem dL_law_1784 : decode cL_law 1784 = .ok (.iload 6, 2) := by decide +kernel
theorem dL_law_1786 : decode cL_law 1786 = .ok (.i2l, 1) := by decide +kernel
theorem dL_law_1787 : decode cL_law 1787 = .ok (.lcmp, 1) := by decide +kernel
theorem dL_law_1788 : decode cL_law 1788 = .ok (.ifCond .eq 5, 3) := by decide +kernel
theorem dL_law_1791 : decode cL_law 1791 = .ok (.iconst 0, 1) := by decide +kernel
theorem dL_law_1792 : decode cL_law 1792 = .ok (.ireturn, 1) := by decide +kernel
theorem dL_law_1793 : decode cL_law 1793 = .ok (.goto 299, 3) := by decide +kernel
theorem dL_law_1796 : decode cL_law 1796 = .ok (.aload_n 1, 1) := by decide +kernel
theorem dL_law_1797 : decode cL_law 1797 = .ok (.aload_n 0, 1) := by decide +kernel
theorem dL_law_1798 : decode cL_law 1798 = .ok (.iload 4, 2) := by decide +kernel
theorem dL_law_1800 : decode cL_law 1800 = .ok (.iconst 1, 1) := by decide +kernel
theorem dL_law_1801 : decode cL_law 1801 = .ok (.iadd, 1) := by decide +kernel
theorem dL_law_1802 : decode cL_law 1802 = .ok (.iaload, 1) := by decide +kernel
theorem dL_law_1803 : decode cL_law 1803 = .ok (.aload_n 3, 1) := by decide +kernel
theorem dL_law_1804 : decode cL_law 1804 = .ok (.invokestatic 199, 3) := by decide +kernel
theorem dL_law_1807 : decode cL_law 1807 = .ok (.istore 5, 2) := by decide +kernel
theorem dL_law_1809 : decode cL_law 1809 = .ok (.aload_n 2, 1) := by decide +kernel
theorem dL_law_1810 : decode cL_law 1810 = .ok (.aload_n 0, 1) := by decide +kernel
theorem dL_law_1811 : decode cL_law 1811 = .ok (.iload 4, 2) := by decide +kernel
theorem dL_law_1813 : decode cL_law 1813 = .ok (.iconst 1, 1) := by decide +kernel
theorem dL_law_1814 : decode cL_law 1814 = .ok (.iadd, 1) := by decide +kernel
theorem dL_law_1815 : decode cL_law 1815 = .ok (.iaload, 1) := by decide +kernel
theorem dL_law_1816 : decode cL_law 1816 = .ok (.invokevirtual 201, 3) := by decide +kernel
theorem dL_law_1819 : decode cL_law 1819 = .ok (.istore 6, 2) := by decide +kernel
theorem dL_law_1821 : decode cL_law 1821 = .ok (.aload_n 2, 1) := by decide +kernel
theorem dL_law_1822 : decode cL_law 1822 = .ok (.invokevirtual 113, 3) := by decide +kernel
theorem dL_law_1825 : decode cL_law 1825 = .ok (.iload 5, 2) := by decide +kernel
theorem dL_law_1827 : decode cL_law 1827 = .ok (.if_icmp .eq 5, 3) := by decide +kernel
theorem dL_law_1830 : decode cL_law 1830 = .ok (.iconst 0, 1) := by decide +kernel
theorem dL_law_1831 : decode cL_law 1831 = .ok (.ireturn, 1) := by decide +kernel
theorem dL_law_1832 : decode cL_law 1832 = .ok (.iload 5, 2) := by decide +kernel
theorem dL_law_1834 : decode cL_law 1834 = .ok (.ifCond .ne 15, 3) := by decide +kernel
theorem dL_law_1837 : decode cL_law 1837 = .ok (.aload_n 3, 1) := by decide +kernel
theorem dL_law_1838 : decode cL_law 1838 = .ok (.iconst 0, 1) := by decide +kernel
theorem dL_law_1839 : decode cL_law 1839 = .ok (.laload, 1) := by decide +kernel
theorem dL_law_1840 : decode cL_law 1840 = .ok (.iload 6, 2) := by decide +kernel
theorem dL_law_1842 : decode cL_law 1842 = .ok (.i2l, 1) := by decide +kernel
theorem dL_law_1843 : decode cL_law 1843 = .ok (.lcmp, 1) := by decide +kernel
theorem dL_law_1844 : decode cL_law 1844 = .ok (.ifCond .eq 5, 3) := by decide +kernel
theorem dL_law_1847 : decode cL_law 1847 = .ok (.iconst 0, 1) := by decide +kernel
theorem dL_law_1848 : decode cL_law 1848 = .ok (.ireturn, 1) := by decide +kernel
theorem dL_law_1849 : decode cL_law 1849 = .ok (.goto 243, 3) := by decide +kernel
theorem dL_law_1852 : decode cL_law 1852 = .ok (.aload_n 1, 1) := by decide +kernel
theorem dL_law_1853 : decode cL_law 1853 = .ok (.aload_n 0, 1) := by decide +kernel
theorem dL_law_1854 : decode cL_law 1854 = .ok (.iload 4, 2) := by decide +kernel
theorem dL_law_1856 : decode cL_law 1856 = .ok (.iconst 1, 1) := by decide +kernel
theorem dL_law_1857 : decode cL_law 1857 = .ok (.iadd, 1) := by decide +kernel
theorem dL_law_1858 : decode cL_law 1858 = .ok (.iaload, 1) := by decide +kernel
theorem dL_law_1859 : decode cL_law 1859 = .ok (.aload_n 0, 1) := by decide +kernel
theorem dL_law_1860 : decode cL_law 1860 = .ok (.iload 4, 2) := by decide +kernel
theorem dL_law_1862 : decode cL_law 1862 = .ok (.iconst 2, 1) := by decide +kernel
theorem dL_law_1863 : decode cL_law 1863 = .ok (.iadd, 1) := by decide +kernel
theorem dL_law_1864 : decode cL_law 1864 = .ok (.iaload, 1) := by decide +kernel
theorem dL_law_1865 : decode cL_law 1865 = .ok (.aload_n 0, 1) := by decide +kernel
theorem dL_law_1866 : decode cL_law 1866 = .ok (.iload 4, 2) := by decide +kernel
theorem dL_law_1868 : decode cL_law 1868 = .ok (.iconst 3, 1) := by decide +kernel
theorem dL_law_1869 : decode cL_law 1869 = .ok (.iadd, 1) := by decide +kernel
theorem dL_law_1870 : decode cL_law 1870 = .ok (.iaload, 1) := by decide +kernel
theorem dL_law_1871 : decode cL_law 1871 = .ok (.aload_n 0, 1) := by decide +kernel
theorem dL_law_1872 : decode cL_law 1872 = .ok (.iload 4, 2) := by decide +kernel
theorem dL_law_1874 : decode cL_law 1874 = .ok (.iconst 4, 1) := by decide +kernel
theorem dL_law_1875 : decode cL_law 1875 = .ok (.iadd, 1) := by decide +kernel
theorem dL_law_1876 : decode cL_law 1876 = .ok (.iaload, 1) := by decide +kernel
theorem dL_law_1877 : decode cL_law 1877 = .ok (.aload_n 3, 1) := by decide +kernel
theorem dL_law_1878 : decode cL_law 1878 = .ok (.invokestatic 202, 3) := by decide +kernel
theorem dL_law_1881 : decode cL_law 1881 = .ok (.istore 5, 2) := by decide +kernel
theorem dL_law_1883 : decode cL_law 1883 = .ok (.aload_n 2, 1) := by decide +kernel
theorem dL_law_1884 : decode cL_law 1884 = .ok (.aload_n 0, 1) := by decide +kernel
theorem dL_law_1885 : decode cL_law 1885 = .ok (.iload 4, 2) := by decide +kernel
theorem dL_law_1887 : decode cL_law 1887 = .ok (.iconst 1, 1) := by decide +kernel
theorem dL_law_1888 : decode cL_law 1888 = .ok (.iadd, 1) := by decide +kernel
theorem dL_law_1889 : decode cL_law 1889 = .ok (.iaload, 1) := by decide +kernel
theorem dL_law_1890 : decode cL_law 1890 = .ok (.aload_n 0, 1) := by decide +kernel
theorem dL_law_1891 : decode cL_law 1891 = .ok (.iload 4, 2) := by decide +kernel
theorem dL_law_1893 : decode cL_law 1893 = .ok (.iconst 2, 1) := by decide +kernel
theorem dL_law_1894 : decode cL_law 1894 = .ok (.iadd, 1) := by decide +kernel
theorem dL_law_1895 : decode cL_law 1895 = .ok (.iaload, 1) := by decide +kernel
theorem dL_law_1896 : decode cL_law 1896 = .ok (.aload_n 0, 1) := by decide +kernel
theorem dL_law_1897 : decode cL_law 1897 = .ok (.iload 4, 2) := by decide +kernel
theorem dL_law_1899 : decode cL_law 1899 = .ok (.iconst 3, 1) := by decide +kernel
theorem dL_law_1900 : decode cL_law 1900 = .ok (.iadd, 1) := by decide +kernel
theorem dL_law_1901 : decode cL_law 1901 = .ok (.iaload, 1) := by decide +kernel
theorem dL_law_1902 : decode cL_law 1902 = .ok (.aload_n 0, 1) := by decide +kernel
theorem dL_law_1903 : decode cL_law 1903 = .ok (.iload 4, 2) := by decide +kernel
theorem dL_law_1905 : decode cL_law 1905 = .ok (.iconst 4, 1) := by decide +kernel
theorem dL_law_1906 : decode cL_law 1906 = .ok (.iadd, 1) := by decide +kernel
theorem dL_law_1907 : decode cL_law 1907 = .ok (.iaload, 1) := by decide +kernel
theorem dL_law_1908 : decode cL_law 1908 = .ok (.invokevirtual 205, 3) := by decide +kernel
theorem dL_law_1911 : decode cL_law 1911 = .ok (.istore 6, 2) := by decide +kernel
theorem dL_law_1913 : decode cL_law 1913 = .ok (.aload_n 2, 1) := by decide +kernel
theorem dL_law_1914 : decode cL_law 1914 = .ok (.invokevirtual 113, 3) := by decide +kernel
theorem dL_law_1917 : decode cL_law 1917 = .ok (.iload 5, 2) := by decide +kernel
theorem dL_law_1919 : decode cL_law 1919 = .ok (.if_icmp .eq 5, 3) := by decide +kernel
theorem dL_law_1922 : decode cL_law 1922 = .ok (.iconst 0, 1) := by decide +kernel
theorem dL_law_1923 : decode cL_law 1923 = .ok (.ireturn, 1) := by decide +kernel
theorem dL_law_1924 : decode cL_law 1924 = .ok (.iload 5, 2) := by decide +kernel
theorem dL_law_1926 : decode cL_law 1926 = .ok (.ifCond .ne 15, 3) := by decide +kernel
theorem dL_law_1929 : decode cL_law 1929 = .ok (.aload_n 3, 1) := by decide +kernel
theorem dL_law_1930 : decode cL_law 1930 = .ok (.iconst 0, 1) := by decide +kernel
theorem dL_law_1931 : decode cL_law 1931 = .ok (.laload, 1) := by decide +kernel
theorem dL_law_1932 : decode cL_law 1932 = .ok (.iload 6, 2) := by decide +kernel
theorem dL_law_1934 : decode cL_law 1934 = .ok (.i2l, 1) := by decide +kernel
theorem dL_law_1935 : decode cL_law 1935 = .ok (.lcmp, 1) := by decide +kernel
theorem dL_law_1936 : decode cL_law 1936 = .ok (.ifCond .eq 5, 3) := by decide +kernel
theorem dL_law_1939 : decode cL_law 1939 = .ok (.iconst 0, 1) := by decide +kernel
theorem dL_law_1940 : decode cL_law 1940 = .ok (.ireturn, 1) := by decide +kernel
theorem dL_law_1941 : decode cL_law 1941 = .ok (.goto 151, 3) := by decide +kernel
theorem dL_law_1944 : decode cL_law 1944 = .ok (.aload_n 1, 1) := by decide +kernel
theorem dL_law_1945 : decode cL_law 1945 = .ok (.aload_n 0, 1) := by decide +kernel
theorem dL_law_1946 : decode cL_law 1946 = .ok (.iload 4, 2) := by decide +kernel
theorem dL_law_1948 : decode cL_law 1948 = .ok (.iconst 1, 1) := by decide +kernel
theorem dL_law_1949 : decode cL_law 1949 = .ok (.iadd, 1) := by decide +kernel
theorem dL_law_1950 : decode cL_law 1950 = .ok (.iaload, 1) := by decide +kernel
theorem dL_law_1951 : decode cL_law 1951 = .ok (.aload_n 0, 1) := by decide +kernel
theorem dL_law_1952 : decode cL_law 1952 = .ok (.iload 4, 2) := by decide +kernel
theorem dL_law_1954 : decode cL_law 1954 = .ok (.iconst 2, 1) := by decide +kernel
theorem dL_law_1955 : decode cL_law 1955 = .ok (.iadd, 1) := by decide +kernel
theorem dL_law_1956 : decode cL_law 1956 = .ok (.iaload, 1) := by decide +kernel
theorem dL_law_1957 : decode cL_law 1957 = .ok (.aload_n 3, 1) := by decide +kernel
theorem dL_law_1958 : decode cL_law 1958 = .ok (.invokestatic 206, 3) := by decide +kernel
theorem dL_law_1961 : decode cL_law 1961 = .ok (.istore 5, 2) := by decide +kernel
theorem dL_law_1963 : decode cL_law 1963 = .ok (.aload_n 2, 1) := by decide +kernel
theorem dL_law_1964 : decode cL_law 1964 = .ok (.aload_n 0, 1) := by decide +kernel
theorem dL_law_1965 : decode cL_law 1965 = .ok (.iload 4, 2) := by decide +kernel
theorem dL_law_1967 : decode cL_law 1967 = .ok (.iconst 1, 1) := by decide +kernel
theorem dL_law_1968 : decode cL_law 1968 = .ok (.iadd, 1) := by decide +kernel
theorem dL_law_1969 : decode cL_law 1969 = .ok (.iaload, 1) := by decide +kernel
theorem dL_law_1970 : decode cL_law 1970 = .ok (.aload_n 0, 1) := by decide +kernel
theorem dL_law_1971 : decode cL_law 1971 = .ok (.iload 4, 2) := by decide +kernel
theorem dL_law_1973 : decode cL_law 1973 = .ok (.iconst 2, 1) := by decide +kernel
theorem dL_law_1974 : decode cL_law 1974 = .ok (.iadd, 1) := by decide +kernel
theorem dL_law_1975 : decode cL_law 1975 = .ok (.iaload, 1) := by decide +kernel
theorem dL_law_1976 : decode cL_law 1976 = .ok (.invokevirtual 208, 3) := by decide +kernel
theorem dL_law_1979 : decode cL_law 1979 = .ok (.istore 6, 2) := by decide +kernel
theorem dL_law_1981 : decode cL_law 1981 = .ok (.aload_n 2, 1) := by decide +kernel
theorem dL_law_1982 : decode cL_law 1982 = .ok (.invokevirtual 113, 3) := by decide +kernel
theorem dL_law_1985 : decode cL_law 1985 = .ok (.iload 5, 2) := by decide +kernel
theorem dL_law_1987 : decode cL_law 1987 = .ok (.if_icmp .eq 5, 3) := by decide +kernel
theorem dL_law_1990 : decode cL_law 1990 = .ok (.iconst 0, 1) := by decide +kernel
theorem dL_law_1991 : decode cL_law 1991 = .ok (.ireturn, 1) := by decide +kernel
theorem dL_law_1992 : decode cL_law 1992 = .ok (.iload 5, 2) := by decide +kernel
theorem dL_law_1994 : decode cL_law 1994 = .ok (.ifCond .ne 15, 3) := by decide +kernel
theorem dL_law_1997 : decode cL_law 1997 = .ok (.aload_n 3, 1) := by decide +kernel
theorem dL_law_1998 : decode cL_law 1998 = .ok (.iconst 0, 1) := by decide +kernel
theorem dL_law_1999 : decode cL_law 1999 = .ok (.laload, 1) := by decide +kernel
theorem dL_law_2000 : decode cL_law 2000 = .ok (.iload 6, 2) := by decide +kernel
theorem dL_law_2002 : decode cL_law 2002 = .ok (.i2l, 1) := by decide +kernel
theorem dL_law_2003 : decode cL_law 2003 = .ok (.lcmp, 1) := by decide +kernel
theorem dL_law_2004 : decode cL_law 2004 = .ok (.ifCond .eq 5, 3) := by decide +kernel
theorem dL_law_2007 : decode cL_law 2007 = .ok (.iconst 0, 1) := by decide +kernel
theorem dL_law_2008 : decode cL_law 2008 = .ok (.ireturn, 1) := by decide +kernel
theorem dL_law_2009 : decode cL_law 2009 = .ok (.goto 83, 3) := by decide +kernel
theorem dL_law_2012 : decode cL_law 2012 = .ok (.aload_n 1, 1) := by decide +kernel
theorem dL_law_2013 : decode cL_law 2013 = .ok (.aload_n 0, 1) := by decide +kernel
theorem dL_law_2014 : decode cL_law 2014 = .ok (.iload 4, 2) := by decide +kernel
theorem dL_law_2016 : decode cL_law 2016 = .ok (.iconst 1, 1) := by decide +kernel
theorem dL_law_2017 : decode cL_law 2017 = .ok (.iadd, 1) := by decide +kernel
theorem dL_law_2018 : decode cL_law 2018 = .ok (.iaload, 1) := by decide +kernel
theorem dL_law_2019 : decode cL_law 2019 = .ok (.aload_n 3, 1) := by decide +kernel
theorem dL_law_2020 : decode cL_law 2020 = .ok (.invokestatic 209, 3) := by decide +kernel
theorem dL_law_2023 : decode cL_law 2023 = .ok (.istore 5, 2) := by decide +kernel
theorem dL_law_2025 : decode cL_law 2025 = .ok (.aload_n 2, 1) := by decide +kernel
theorem dL_law_2026 : decode cL_law 2026 = .ok (.aload_n 0, 1) := by decide +kernel
theorem dL_law_2027 : decode cL_law 2027 = .ok (.iload 4, 2) := by decide +kernel
theorem dL_law_2029 : decode cL_law 2029 = .ok (.iconst 1, 1) := by decide +kernel
theorem dL_law_2030 : decode cL_law 2030 = .ok (.iadd, 1) := by decide +kernel
theorem dL_law_2031 : decode cL_law 2031 = .ok (.iaload, 1) := by decide +kernel
theorem dL_law_2032 : decode cL_law 2032 = .ok (.invokevirtual 211, 3) := by decide +kernel
theorem dL_law_2035 : decode cL_law 2035 = .ok (.istore 6, 2) := by decide +kernel
theorem dL_law_2037 : decode cL_law 2037 = .ok (.aload_n 2, 1) := by decide +kernel
theorem dL_law_2038 : decode cL_law 2038 = .ok (.invokevirtual 113, 3) := by decide +kernel
theorem dL_law_2041 : decode cL_law 2041 = .ok (.iload 5, 2) := by decide +kernel
theorem dL_law_2043 : decode cL_law 2043 = .ok (.if_icmp .eq 5, 3) := by decide +kernel
theorem dL_law_2046 : decode cL_law 2046 = .ok (.iconst 0, 1) := by decide +kernel
theorem dL_law_2047 : decode cL_law 2047 = .ok (.ireturn, 1) := by decide +kernel
theorem dL_law_2048 : decode cL_law 2048 = .ok (.iload 5, 2) := by decide +kernel
theorem dL_law_2050 : decode cL_law 2050 = .ok (.ifCond .ne 15, 3) := by decide +kernel
theorem dL_law_2053 : decode cL_law 2053 = .ok (.aload_n 3, 1) := by decide +kernel
theorem dL_law_2054 : decode cL_law 2054 = .ok (.iconst 0, 1) := by decide +kernel
theorem dL_law_2055 : decode cL_law 2055 = .ok (.laload, 1) := by decide +kernel
theorem dL_law_2056 : decode cL_law 2056 = .ok (.iload 6, 2) := by decide +kernel
theorem dL_law_2058 : decode cL_law 2058 = .ok (.i2l, 1) := by decide +kernel
theorem dL_law_2059 : decode cL_law 2059 = .ok (.lcmp, 1) := by decide +kernel
theorem dL_law_2060 : decode cL_law 2060 = .ok (.ifCond .eq 5, 3) := by decide +kernel
theorem dL_law_2063 : decode cL_law 2063 = .ok (.iconst 0, 1) := by decide +kernel
theorem dL_law_2064 : decode cL_law 2064 = .ok (.ireturn, 1) := by decide +kernel
theorem dL_law_2065 : decode cL_law 2065 = .ok (.goto 27, 3) := by decide +kernel
theorem dL_law_2068 : decode cL_law 2068 = .ok (.aload_n 1, 1) := by decide +kernel
theorem dL_law_2069 : decode cL_law 2069 = .ok (.invokevirtual 212, 3) := by decide +kernel
theorem dL_law_2072 : decode cL_law 2072 = .ok (.aload_n 2, 1) := by decide +kernel
theorem dL_law_2073 : decode cL_law 2073 = .ok (.invokevirtual 215, 3) := by decide +kernel
theorem dL_law_2076 : decode cL_law 2076 = .ok (.goto 16, 3) := by decide +kernel
theorem dL_law_2079 : decode cL_law 2079 = .ok (.aload_n 1, 1) := by decide +kernel
theorem dL_law_2080 : decode cL_law 2080 = .ok (.invokevirtual 216, 3) := by decide +kernel
theorem dL_law_2083 : decode cL_law 2083 = .ok (.aload_n 2, 1) := by decide +kernel
theorem dL_law_2084 : decode cL_law 2084 = .ok (.invokevirtual 220, 3) := by decide +kernel
theorem dL_law_2087 : decode cL_law 2087 = .ok (.if_icmp .eq 5, 3) := by decide +kernel
theorem dL_law_2090 : decode cL_law 2090 = .ok (.iconst 0, 1) := by decide +kernel
theorem dL_law_2091 : decode cL_law 2091 = .ok (.ireturn, 1) := by decide +kernel
theorem dL_law_2092 : decode cL_law 2092 = .ok (.iinc 4 6, 3) := by decide +kernel
theorem dL_law_2095 : decode cL_law 2095 = .ok (.goto (-2072), 3) := by decide +kernel
theorem dL_law_2098 : decode cL_law 2098 = .ok (.iconst 1, 1) := by decide +kernel
theorem dL_law_2099 : decode cL_law 2099 = .ok (.ireturn, 1) := by decide +kernel
