theorem dX8_draw_97 : decode cX8_draw 97 = .ok (.getfield 121, 3) := by decide +kernel
theorem dX8_draw_100 : decode cX8_draw 100 = .ok (.putfield 293, 3) := by decide +kernel
theorem dX8_draw_103 : decode cX8_draw 103 = .ok (.iload_n 3, 1) := by decide +kernel
theorem dX8_draw_104 : decode cX8_draw 104 = .ok (.ireturn, 1) := by decide +kernel
theorem dX8_next_0 : decode cX8_next 0 = .ok (.aload_n 0, 1) := by decide +kernel
theorem dX8_next_1 : decode cX8_next 1 = .ok (.iload_n 1, 1) := by decide +kernel
theorem dX8_next_2 : decode cX8_next 2 = .ok (.invokevirtual 146, 3) := by decide +kernel
theorem dX8_next_5 : decode cX8_next 5 = .ok (.pop, 1) := by decide +kernel
theorem dX8_next_6 : decode cX8_next 6 = .ok (.aload_n 0, 1) := by decide +kernel
theorem dX8_next_7 : decode cX8_next 7 = .ok (.iload_n 2, 1) := by decide +kernel
theorem dX8_next_8 : decode cX8_next 8 = .ok (.invokevirtual 254, 3) := by decide +kernel
theorem dX8_next_11 : decode cX8_next 11 = .ok (.aload_n 0, 1) := by decide +kernel
theorem dX8_next_12 : decode cX8_next 12 = .ok (.getfield 40, 3) := by decide +kernel
theorem dX8_next_15 : decode cX8_next 15 = .ok (.aload_n 0, 1) := by decide +kernel
theorem dX8_next_16 : decode cX8_next 16 = .ok (.getfield 30, 3) := by decide +kernel
theorem dX8_next_19 : decode cX8_next 19 = .ok (.iload_n 1, 1) := by decide +kernel
theorem dX8_next_20 : decode cX8_next 20 = .ok (.iload_n 2, 1) := by decide +kernel
theorem dX8_next_21 : decode cX8_next 21 = .ok (.invokevirtual 202, 3) := by decide +kernel
theorem dX8_next_24 : decode cX8_next 24 = .ok (.lreturn, 1) := by decide +kernel
theorem dX8_paper_0 : decode cX8_paper 0 = .ok (.aload_n 0, 1) := by decide +kernel
theorem dX8_paper_1 : decode cX8_paper 1 = .ok (.iload_n 2, 1) := by decide +kernel
theorem dX8_paper_2 : decode cX8_paper 2 = .ok (.invokevirtual 146, 3) := by decide +kernel
theorem dX8_paper_5 : decode cX8_paper 5 = .ok (.astore 4, 2) := by decide +kernel
theorem dX8_paper_7 : decode cX8_paper 7 = .ok (.aload_n 0, 1) := by decide +kernel
theorem dX8_paper_8 : decode cX8_paper 8 = .ok (.iload_n 1, 1) := by decide +kernel
theorem dX8_paper_9 : decode cX8_paper 9 = .ok (.invokevirtual 254, 3) := by decide +kernel
theorem dX8_paper_12 : decode cX8_paper 12 = .ok (.iload_n 3, 1) := by decide +kernel
theorem dX8_paper_13 : decode cX8_paper 13 = .ok (.bipush (-2), 2) := by decide +kernel
theorem dX8_paper_15 : decode cX8_paper 15 = .ok (.if_icmp .lt 12, 3) := by decide +kernel
theorem dX8_paper_18 : decode cX8_paper 18 = .ok (.iload_n 3, 1) := by decide +kernel
theorem dX8_paper_19 : decode cX8_paper 19 = .ok (.aload 4, 2) := by decide +kernel
theorem dX8_paper_21 : decode cX8_paper 21 = .ok (.getfield 150, 3) := by decide +kernel
theorem dX8_paper_24 : decode cX8_paper 24 = .ok (.if_icmp .lt 14, 3) := by decide +kernel
theorem dX8_paper_27 : decode cX8_paper 27 = .ok (.new 79, 3) := by decide +kernel
theorem dX8_paper_30 : decode cX8_paper 30 = .ok (.dup, 1) := by decide +kernel
theorem dX8_paper_31 : decode cX8_paper 31 = .ok (.ldc_w 300, 3) := by decide +kernel
theorem dX8_paper_34 : decode cX8_paper 34 = .ok (.invokespecial 83, 3) := by decide +kernel
theorem dX8_paper_37 : decode cX8_paper 37 = .ok (.athrow, 1) := by decide +kernel
theorem dX8_paper_38 : decode cX8_paper 38 = .ok (.aload 4, 2) := by decide +kernel
theorem dX8_paper_40 : decode cX8_paper 40 = .ok (.getfield 260, 3) := by decide +kernel
theorem dX8_paper_43 : decode cX8_paper 43 = .ok (.iload_n 1, 1) := by decide +kernel
theorem dX8_paper_44 : decode cX8_paper 44 = .ok (.iaload, 1) := by decide +kernel
theorem dX8_paper_45 : decode cX8_paper 45 = .ok (.istore 5, 2) := by decide +kernel
theorem dX8_paper_47 : decode cX8_paper 47 = .ok (.aload_n 0, 1) := by decide +kernel
theorem dX8_paper_48 : decode cX8_paper 48 = .ok (.getfield 50, 3) := by decide +kernel
theorem dX8_paper_51 : decode cX8_paper 51 = .ok (.iconst 1, 1) := by decide +kernel
theorem dX8_paper_52 : decode cX8_paper 52 = .ok (.iload_n 2, 1) := by decide +kernel
theorem dX8_paper_53 : decode cX8_paper 53 = .ok (.iload_n 1, 1) := by decide +kernel
theorem dX8_paper_54 : decode cX8_paper 54 = .ok (.iload 5, 2) := by decide +kernel
theorem dX8_paper_56 : decode cX8_paper 56 = .ok (.invokevirtual 296, 3) := by decide +kernel
theorem dX8_paper_59 : decode cX8_paper 59 = .ok (.aload_n 0, 1) := by decide +kernel
theorem dX8_paper_60 : decode cX8_paper 60 = .ok (.getfield 30, 3) := by decide +kernel
theorem dX8_paper_63 : decode cX8_paper 63 = .ok (.iload_n 2, 1) := by decide +kernel
theorem dX8_paper_64 : decode cX8_paper 64 = .ok (.iload_n 1, 1) := by decide +kernel
theorem dX8_paper_65 : decode cX8_paper 65 = .ok (.iload_n 3, 1) := by decide +kernel
theorem dX8_paper_66 : decode cX8_paper 66 = .ok (.invokevirtual 302, 3) := by decide +kernel
theorem dX8_paper_69 : decode cX8_paper 69 = .ok (.aload_n 0, 1) := by decide +kernel
theorem dX8_paper_70 : decode cX8_paper 70 = .ok (.invokevirtual 104, 3) := by decide +kernel
theorem dX8_paper_73 : decode cX8_paper 73 = .ok (.iload 5, 2) := by decide +kernel
theorem dX8_paper_75 : decode cX8_paper 75 = .ok (.ireturn, 1) := by decide +kernel
theorem dX8_way_0 : decode cX8_way 0 = .ok (.aload_n 0, 1) := by decide +kernel
theorem dX8_way_1 : decode cX8_way 1 = .ok (.iload_n 1, 1) := by decide +kernel
theorem dX8_way_2 : decode cX8_way 2 = .ok (.invokevirtual 146, 3) := by decide +kernel
theorem dX8_way_5 : decode cX8_way 5 = .ok (.astore_n 3, 1) := by decide +kernel
theorem dX8_way_6 : decode cX8_way 6 = .ok (.iload_n 2, 1) := by decide +kernel
theorem dX8_way_7 : decode cX8_way 7 = .ok (.ifCond .eq 19, 3) := by decide +kernel
theorem dX8_way_10 : decode cX8_way 10 = .ok (.iload_n 2, 1) := by decide +kernel
theorem dX8_way_11 : decode cX8_way 11 = .ok (.iconst 1, 1) := by decide +kernel
theorem dX8_way_12 : decode cX8_way 12 = .ok (.if_icmp .eq 14, 3) := by decide +kernel
theorem dX8_way_15 : decode cX8_way 15 = .ok (.new 79, 3) := by decide +kernel
theorem dX8_way_18 : decode cX8_way 18 = .ok (.dup, 1) := by decide +kernel
theorem dX8_way_19 : decode cX8_way 19 = .ok (.ldc_w 306, 3) := by decide +kernel
theorem dX8_way_22 : decode cX8_way 22 = .ok (.invokespecial 83, 3) := by decide +kernel
theorem dX8_way_25 : decode cX8_way 25 = .ok (.athrow, 1) := by decide +kernel
theorem dX8_way_26 : decode cX8_way 26 = .ok (.aload_n 3, 1) := by decide +kernel
theorem dX8_way_27 : decode cX8_way 27 = .ok (.getfield 155, 3) := by decide +kernel
theorem dX8_way_30 : decode cX8_way 30 = .ok (.istore 4, 2) := by decide +kernel
theorem dX8_way_32 : decode cX8_way 32 = .ok (.aload_n 0, 1) := by decide +kernel
theorem dX8_way_33 : decode cX8_way 33 = .ok (.getfield 50, 3) := by decide +kernel
theorem dX8_way_36 : decode cX8_way 36 = .ok (.iconst 2, 1) := by decide +kernel
theorem dX8_way_37 : decode cX8_way 37 = .ok (.iload_n 1, 1) := by decide +kernel
theorem dX8_way_38 : decode cX8_way 38 = .ok (.iconst 0, 1) := by decide +kernel
theorem dX8_way_39 : decode cX8_way 39 = .ok (.iload 4, 2) := by decide +kernel
theorem dX8_way_41 : decode cX8_way 41 = .ok (.invokevirtual 296, 3) := by decide +kernel
theorem dX8_way_44 : decode cX8_way 44 = .ok (.aload_n 3, 1) := by decide +kernel
theorem dX8_way_45 : decode cX8_way 45 = .ok (.iload_n 2, 1) := by decide +kernel
theorem dX8_way_46 : decode cX8_way 46 = .ok (.putfield 155, 3) := by decide +kernel
theorem dX8_way_49 : decode cX8_way 49 = .ok (.aload_n 0, 1) := by decide +kernel
theorem dX8_way_50 : decode cX8_way 50 = .ok (.invokevirtual 104, 3) := by decide +kernel
theorem dX8_way_53 : decode cX8_way 53 = .ok (.iload 4, 2) := by decide +kernel
theorem dX8_way_55 : decode cX8_way 55 = .ok (.ireturn, 1) := by decide +kernel
theorem dX8_rule_0 : decode cX8_rule 0 = .ok (.iload_n 1, 1) := by decide +kernel
theorem dX8_rule_1 : decode cX8_rule 1 = .ok (.ifCond .lt 8, 3) := by decide +kernel
theorem dX8_rule_4 : decode cX8_rule 4 = .ok (.iload_n 1, 1) := by decide +kernel
theorem dX8_rule_5 : decode cX8_rule 5 = .ok (.iconst 2, 1) := by decide +kernel
theorem dX8_rule_6 : decode cX8_rule 6 = .ok (.if_icmp .le 14, 3) := by decide +kernel
theorem dX8_rule_9 : decode cX8_rule 9 = .ok (.new 141, 3) := by decide +kernel
theorem dX8_rule_12 : decode cX8_rule 12 = .ok (.dup, 1) := by decide +kernel
theorem dX8_rule_13 : decode cX8_rule 13 = .ok (.ldc_w 308, 3) := by decide +kernel
theorem dX8_rule_16 : decode cX8_rule 16 = .ok (.invokespecial 145, 3) := by decide +kernel
theorem dX8_rule_19 : decode cX8_rule 19 = .ok (.athrow, 1) := by decide +kernel
theorem dX8_rule_20 : decode cX8_rule 20 = .ok (.iload_n 2, 1) := by decide +kernel
theorem dX8_rule_21 : decode cX8_rule 21 = .ok (.iload_n 1, 1) := by decide +kernel
theorem dX8_rule_22 : decode cX8_rule 22 = .ok (.invokestatic 310, 3) := by decide +kernel
theorem dX8_rule_25 : decode cX8_rule 25 = .ok (.if_icmp .lt 11, 3) := by decide +kernel
theorem dX8_rule_28 : decode cX8_rule 28 = .ok (.iload_n 2, 1) := by decide +kernel
theorem dX8_rule_29 : decode cX8_rule 29 = .ok (.iload_n 1, 1) := by decide +kernel
theorem dX8_rule_30 : decode cX8_rule 30 = .ok (.invokestatic 313, 3) := by decide +kernel
theorem dX8_rule_33 : decode cX8_rule 33 = .ok (.if_icmp .le 14, 3) := by decide +kernel
theorem dX8_rule_36 : decode cX8_rule 36 = .ok (.new 79, 3) := by decide +kernel
theorem dX8_rule_39 : decode cX8_rule 39 = .ok (.dup, 1) := by decide +kernel
theorem dX8_rule_40 : decode cX8_rule 40 = .ok (.ldc_w 316, 3) := by decide +kernel
theorem dX8_rule_43 : decode cX8_rule 43 = .ok (.invokespecial 83, 3) := by decide +kernel
theorem dX8_rule_46 : decode cX8_rule 46 = .ok (.athrow, 1) := by decide +kernel
theorem dX8_rule_47 : decode cX8_rule 47 = .ok (.aload_n 0, 1) := by decide +kernel
theorem dX8_rule_48 : decode cX8_rule 48 = .ok (.getfield 30, 3) := by decide +kernel
theorem dX8_rule_51 : decode cX8_rule 51 = .ok (.getfield 117, 3) := by decide +kernel
theorem dX8_rule_54 : decode cX8_rule 54 = .ok (.iload_n 1, 1) := by decide +kernel
theorem dX8_rule_55 : decode cX8_rule 55 = .ok (.iaload, 1) := by decide +kernel
theorem dX8_rule_56 : decode cX8_rule 56 = .ok (.istore_n 3, 1) := by decide +kernel
theorem dX8_rule_57 : decode cX8_rule 57 = .ok (.aload_n 0, 1) := by decide +kernel
theorem dX8_rule_58 : decode cX8_rule 58 = .ok (.getfield 50, 3) := by decide +kernel
theorem dX8_rule_61 : decode cX8_rule 61 = .ok (.iconst 3, 1) := by decide +kernel
theorem dX8_rule_62 : decode cX8_rule 62 = .ok (.iload_n 1, 1) := by decide +kernel
theorem dX8_rule_63 : decode cX8_rule 63 = .ok (.iconst 0, 1) := by decide +kernel
theorem dX8_rule_64 : decode cX8_rule 64 = .ok (.iload_n 3, 1) := by decide +kernel
theorem dX8_rule_65 : decode cX8_rule 65 = .ok (.invokevirtual 296, 3) := by decide +kernel
theorem dX8_rule_68 : decode cX8_rule 68 = .ok (.aload_n 0, 1) := by decide +kernel
theorem dX8_rule_69 : decode cX8_rule 69 = .ok (.getfield 30, 3) := by decide +kernel
theorem dX8_rule_72 : decode cX8_rule 72 = .ok (.getfield 117, 3) := by decide +kernel
theorem dX8_rule_75 : decode cX8_rule 75 = .ok (.iload_n 1, 1) := by decide +kernel
theorem dX8_rule_76 : decode cX8_rule 76 = .ok (.iload_n 2, 1) := by decide +kernel
theorem dX8_rule_77 : decode cX8_rule 77 = .ok (.iastore, 1) := by decide +kernel
theorem dX8_rule_78 : decode cX8_rule 78 = .ok (.aload_n 0, 1) := by decide +kernel
theorem dX8_rule_79 : decode cX8_rule 79 = .ok (.invokevirtual 104, 3) := by decide +kernel
theorem dX8_rule_82 : decode cX8_rule 82 = .ok (.iload_n 3, 1) := by decide +kernel
theorem dX8_rule_83 : decode cX8_rule 83 = .ok (.ireturn, 1) := by decide +kernel
theorem dX8_leastOf_0 : decode cX8_leastOf 0 = .ok (.iload_n 0, 1) := by decide +kernel
theorem dX8_leastOf_1 : decode cX8_leastOf 1 = .ok (.iconst 1, 1) := by decide +kernel
theorem dX8_leastOf_2 : decode cX8_leastOf 2 = .ok (.if_icmp .ne 8, 3) := by decide +kernel
theorem dX8_leastOf_5 : decode cX8_leastOf 5 = .ok (.bipush 101, 2) := by decide +kernel
theorem dX8_leastOf_7 : decode cX8_leastOf 7 = .ok (.goto 4, 3) := by decide +kernel
theorem dX8_leastOf_10 : decode cX8_leastOf 10 = .ok (.iconst 1, 1) := by decide +kernel
theorem dX8_leastOf_11 : decode cX8_leastOf 11 = .ok (.ireturn, 1) := by decide +kernel
theorem dX8_mostOf_0 : decode cX8_mostOf 0 = .ok (.iload_n 0, 1) := by decide +kernel
theorem dX8_mostOf_1 : decode cX8_mostOf 1 = .ok (.ifCond .ne 7, 3) := by decide +kernel
theorem dX8_mostOf_4 : decode cX8_mostOf 4 = .ok (.sipush 500, 3) := by decide +kernel
theorem dX8_mostOf_7 : decode cX8_mostOf 7 = .ok (.ireturn, 1) := by decide +kernel
theorem dX8_mostOf_8 : decode cX8_mostOf 8 = .ok (.iload_n 0, 1) := by decide +kernel
theorem dX8_mostOf_9 : decode cX8_mostOf 9 = .ok (.iconst 1, 1) := by decide +kernel
theorem dX8_mostOf_10 : decode cX8_mostOf 10 = .ok (.if_icmp .ne 9, 3) := by decide +kernel
theorem dX8_mostOf_13 : decode cX8_mostOf 13 = .ok (.sipush 300, 3) := by decide +kernel
theorem dX8_mostOf_16 : decode cX8_mostOf 16 = .ok (.goto 6, 3) := by decide +kernel
theorem dX8_mostOf_19 : decode cX8_mostOf 19 = .ok (.sipush 300, 3) := by decide +kernel
theorem dX8_mostOf_22 : decode cX8_mostOf 22 = .ok (.ireturn, 1) := by decide +kernel
theorem dX8_replay_0 : decode cX8_replay 0 = .ok (.aload_n 0, 1) := by decide +kernel
theorem dX8_replay_1 : decode cX8_replay 1 = .ok (.getfield 40, 3) := by decide +kernel
theorem dX8_replay_4 : decode cX8_replay 4 = .ok (.aload_n 0, 1) := by decide +kernel
theorem dX8_replay_5 : decode cX8_replay 5 = .ok (.getfield 30, 3) := by decide +kernel
theorem dX8_replay_8 : decode cX8_replay 8 = .ok (.aload_n 0, 1) := by decide +kernel
theorem dX8_replay_9 : decode cX8_replay 9 = .ok (.getfield 30, 3) := by decide +kernel
theorem dX8_replay_12 : decode cX8_replay 12 = .ok (.getfield 318, 3) := by decide +kernel
theorem dX8_replay_15 : decode cX8_replay 15 = .ok (.invokevirtual 321, 3) := by decide +kernel
theorem dX8_replay_18 : decode cX8_replay 18 = .ok (.aload_n 0, 1) := by decide +kernel
theorem dX8_replay_19 : decode cX8_replay 19 = .ok (.getfield 40, 3) := by decide +kernel
theorem dX8_replay_22 : decode cX8_replay 22 = .ok (.aload_n 0, 1) := by decide +kernel
theorem dX8_replay_23 : decode cX8_replay 23 = .ok (.getfield 30, 3) := by decide +kernel
theorem dX8_replay_26 : decode cX8_replay 26 = .ok (.aload_n 0, 1) := by decide +kernel
theorem dX8_replay_27 : decode cX8_replay 27 = .ok (.getfield 30, 3) := by decide +kernel
theorem dX8_replay_30 : decode cX8_replay 30 = .ok (.getfield 293, 3) := by decide +kernel
theorem dX8_replay_33 : decode cX8_replay 33 = .ok (.invokevirtual 289, 3) := by decide +kernel
theorem dX8_replay_36 : decode cX8_replay 36 = .ok (.return_, 1) := by decide +kernel
theorem dX8_undo_0 : decode cX8_undo 0 = .ok (.aload_n 0, 1) := by decide +kernel
theorem dX8_undo_1 : decode cX8_undo 1 = .ok (.getfield 50, 3) := by decide +kernel
theorem dX8_undo_4 : decode cX8_undo 4 = .ok (.invokevirtual 324, 3) := by decide +kernel
theorem dX8_undo_7 : decode cX8_undo 7 = .ok (.ifCond .ne 5, 3) := by decide +kernel
theorem dX8_undo_10 : decode cX8_undo 10 = .ok (.iconst (-1), 1) := by decide +kernel
theorem dX8_undo_11 : decode cX8_undo 11 = .ok (.ireturn, 1) := by decide +kernel
theorem dX8_undo_12 : decode cX8_undo 12 = .ok (.aload_n 0, 1) := by decide +kernel
theorem dX8_undo_13 : decode cX8_undo 13 = .ok (.getfield 50, 3) := by decide +kernel
theorem dX8_undo_16 : decode cX8_undo 16 = .ok (.getfield 327, 3) := by decide +kernel
theorem dX8_undo_19 : decode cX8_undo 19 = .ok (.istore_n 1, 1) := by decide +kernel
theorem dX8_undo_20 : decode cX8_undo 20 = .ok (.aload_n 0, 1) := by decide +kernel
theorem dX8_undo_21 : decode cX8_undo 21 = .ok (.getfield 50, 3) := by decide +kernel
theorem dX8_undo_24 : decode cX8_undo 24 = .ok (.getfield 330, 3) := by decide +kernel
theorem dX8_undo_27 : decode cX8_undo 27 = .ok (.tableswitch 79 0 2 #[25, 36, 61], 25) := by decide +kernel
theorem dX8_undo_52 : decode cX8_undo 52 = .ok (.aload_n 0, 1) := by decide +kernel
theorem dX8_undo_53 : decode cX8_undo 53 = .ok (.getfield 30, 3) := by decide +kernel
theorem dX8_undo_56 : decode cX8_undo 56 = .ok (.iload_n 1, 1) := by decide +kernel
theorem dX8_undo_57 : decode cX8_undo 57 = .ok (.putfield 293, 3) := by decide +kernel
theorem dX8_undo_60 : decode cX8_undo 60 = .ok (.goto 61, 3) := by decide +kernel
theorem dX8_undo_63 : decode cX8_undo 63 = .ok (.aload_n 0, 1) := by decide +kernel
theorem dX8_undo_64 : decode cX8_undo 64 = .ok (.getfield 30, 3) := by decide +kernel
theorem dX8_undo_67 : decode cX8_undo 67 = .ok (.aload_n 0, 1) := by decide +kernel
theorem dX8_undo_68 : decode cX8_undo 68 = .ok (.getfield 50, 3) := by decide +kernel
theorem dX8_undo_71 : decode cX8_undo 71 = .ok (.getfield 333, 3) := by decide +kernel
theorem dX8_undo_74 : decode cX8_undo 74 = .ok (.aload_n 0, 1) := by decide +kernel
theorem dX8_undo_75 : decode cX8_undo 75 = .ok (.getfield 50, 3) := by decide +kernel
theorem dX8_undo_78 : decode cX8_undo 78 = .ok (.getfield 336, 3) := by decide +kernel
theorem dX8_undo_81 : decode cX8_undo 81 = .ok (.iload_n 1, 1) := by decide +kernel
theorem dX8_undo_82 : decode cX8_undo 82 = .ok (.invokevirtual 302, 3) := by decide +kernel
theorem dX8_undo_85 : decode cX8_undo 85 = .ok (.goto 36, 3) := by decide +kernel
theorem dX8_undo_88 : decode cX8_undo 88 = .ok (.aload_n 0, 1) := by decide +kernel
theorem dX8_undo_89 : decode cX8_undo 89 = .ok (.getfield 30, 3) := by decide +kernel
theorem dX8_undo_92 : decode cX8_undo 92 = .ok (.aload_n 0, 1) := by decide +kernel
theorem dX8_undo_93 : decode cX8_undo 93 = .ok (.getfield 50, 3) := by decide +kernel
theorem dX8_undo_96 : decode cX8_undo 96 = .ok (.getfield 333, 3) := by decide +kernel
theorem dX8_undo_99 : decode cX8_undo 99 = .ok (.iload_n 1, 1) := by decide +kernel
theorem dX8_undo_100 : decode cX8_undo 100 = .ok (.invokevirtual 339, 3) := by decide +kernel
theorem dX8_undo_103 : decode cX8_undo 103 = .ok (.goto 18, 3) := by decide +kernel
theorem dX8_undo_106 : decode cX8_undo 106 = .ok (.aload_n 0, 1) := by decide +kernel
theorem dX8_undo_107 : decode cX8_undo 107 = .ok (.getfield 30, 3) := by decide +kernel
theorem dX8_undo_110 : decode cX8_undo 110 = .ok (.aload_n 0, 1) := by decide +kernel
theorem dX8_undo_111 : decode cX8_undo 111 = .ok (.getfield 50, 3) := by decide +kernel
theorem dX8_undo_114 : decode cX8_undo 114 = .ok (.getfield 333, 3) := by decide +kernel
theorem dX8_undo_117 : decode cX8_undo 117 = .ok (.iload_n 1, 1) := by decide +kernel
theorem dX8_undo_118 : decode cX8_undo 118 = .ok (.invokevirtual 343, 3) := by decide +kernel
theorem dX8_undo_121 : decode cX8_undo 121 = .ok (.aload_n 0, 1) := by decide +kernel
theorem dX8_undo_122 : decode cX8_undo 122 = .ok (.invokevirtual 104, 3) := by decide +kernel
theorem dX8_undo_125 : decode cX8_undo 125 = .ok (.aload_n 0, 1) := by decide +kernel
theorem dX8_undo_126 : decode cX8_undo 126 = .ok (.getfield 50, 3) := by decide +kernel
theorem dX8_undo_129 : decode cX8_undo 129 = .ok (.getfield 138, 3) := by decide +kernel
theorem dX8_undo_132 : decode cX8_undo 132 = .ok (.ireturn, 1) := by decide +kernel
theorem dX8_need_0 : decode cX8_need 0 = .ok (.aload_n 0, 1) := by decide +kernel
theorem dX8_need_1 : decode cX8_need 1 = .ok (.iload_n 1, 1) := by decide +kernel
theorem dX8_need_2 : decode cX8_need 2 = .ok (.invokevirtual 146, 3) := by decide +kernel
theorem dX8_need_5 : decode cX8_need 5 = .ok (.astore 4, 2) := by decide +kernel
theorem dX8_need_7 : decode cX8_need 7 = .ok (.iload_n 2, 1) := by decide +kernel
theorem dX8_need_8 : decode cX8_need 8 = .ok (.iload_n 3, 1) := by decide +kernel
theorem dX8_need_9 : decode cX8_need 9 = .ok (.invokestatic 346, 3) := by decide +kernel
theorem dX8_need_12 : decode cX8_need 12 = .ok (.aload_n 0, 1) := by decide +kernel
theorem dX8_need_13 : decode cX8_need 13 = .ok (.aload 4, 2) := by decide +kernel
theorem dX8_need_15 : decode cX8_need 15 = .ok (.aload_n 0, 1) := by decide +kernel
theorem dX8_need_16 : decode cX8_need 16 = .ok (.getfield 30, 3) := by decide +kernel
theorem dX8_need_19 : decode cX8_need 19 = .ok (.getfield 117, 3) := by decide +kernel
theorem dX8_need_22 : decode cX8_need 22 = .ok (.iconst 1, 1) := by decide +kernel
theorem dX8_need_23 : decode cX8_need 23 = .ok (.iaload, 1) := by decide +kernel
theorem dX8_need_24 : decode cX8_need 24 = .ok (.iload_n 2, 1) := by decide +kernel
theorem dX8_need_25 : decode cX8_need 25 = .ok (.iload_n 3, 1) := by decide +kernel
theorem dX8_need_26 : decode cX8_need 26 = .ok (.sipush 5000, 3) := by decide +kernel
theorem dX8_need_29 : decode cX8_need 29 = .ok (.invokevirtual 349, 3) := by decide +kernel
theorem dX8_need_32 : decode cX8_need 32 = .ok (.ireturn, 1) := by decide +kernel
theorem dX8_seekSupposed_0 : decode cX8_seekSupposed 0 = .ok (.iload_n 0, 1) := by decide +kernel
theorem dX8_seekSupposed_1 : decode cX8_seekSupposed 1 = .ok (.ifCond .lt 19, 3) := by decide +kernel
theorem dX8_seekSupposed_4 : decode cX8_seekSupposed 4 = .ok (.iload_n 0, 1) := by decide +kernel
theorem dX8_seekSupposed_5 : decode cX8_seekSupposed 5 = .ok (.bipush 99, 2) := by decide +kernel
theorem dX8_seekSupposed_7 : decode cX8_seekSupposed 7 = .ok (.if_icmp .gt 13, 3) := by decide +kernel
theorem dX8_seekSupposed_10 : decode cX8_seekSupposed 10 = .ok (.iload_n 1, 1) := by decide +kernel
theorem dX8_seekSupposed_11 : decode cX8_seekSupposed 11 = .ok (.ifCond .lt 9, 3) := by decide +kernel
theorem dX8_seekSupposed_14 : decode cX8_seekSupposed 14 = .ok (.iload_n 1, 1) := by decide +kernel
theorem dX8_seekSupposed_15 : decode cX8_seekSupposed 15 = .ok (.bipush 99, 2) := by decide +kernel
theorem dX8_seekSupposed_17 : decode cX8_seekSupposed 17 = .ok (.if_icmp .le 14, 3) := by decide +kernel
theorem dX8_seekSupposed_20 : decode cX8_seekSupposed 20 = .ok (.new 79, 3) := by decide +kernel
theorem dX8_seekSupposed_23 : decode cX8_seekSupposed 23 = .ok (.dup, 1) := by decide +kernel
theorem dX8_seekSupposed_24 : decode cX8_seekSupposed 24 = .ok (.ldc_w 353, 3) := by decide +kernel
theorem dX8_seekSupposed_27 : decode cX8_seekSupposed 27 = .ok (.invokespecial 83, 3) := by decide +kernel
theorem dX8_seekSupposed_30 : decode cX8_seekSupposed 30 = .ok (.athrow, 1) := by decide +kernel
theorem dX8_seekSupposed_31 : decode cX8_seekSupposed 31 = .ok (.return_, 1) := by decide +kernel
theorem dX8_bestFactor_0 : decode cX8_bestFactor 0 = .ok (.aload_n 0, 1) := by decide +kernel
theorem dX8_bestFactor_1 : decode cX8_bestFactor 1 = .ok (.iload_n 1, 1) := by decide +kernel
theorem dX8_bestFactor_2 : decode cX8_bestFactor 2 = .ok (.invokevirtual 146, 3) := by decide +kernel
theorem dX8_bestFactor_5 : decode cX8_bestFactor 5 = .ok (.astore 4, 2) := by decide +kernel
theorem dX8_bestFactor_7 : decode cX8_bestFactor 7 = .ok (.iload_n 2, 1) := by decide +kernel
theorem dX8_bestFactor_8 : decode cX8_bestFactor 8 = .ok (.iload_n 3, 1) := by decide +kernel
theorem dX8_bestFactor_9 : decode cX8_bestFactor 9 = .ok (.invokestatic 346, 3) := by decide +kernel
theorem dX8_bestFactor_12 : decode cX8_bestFactor 12 = .ok (.aload 4, 2) := by decide +kernel
theorem dX8_bestFactor_14 : decode cX8_bestFactor 14 = .ok (.getfield 155, 3) := by decide +kernel
theorem dX8_bestFactor_17 : decode cX8_bestFactor 17 = .ok (.ifCond .ne 9, 3) := by decide +kernel
theorem dX8_bestFactor_20 : decode cX8_bestFactor 20 = .ok (.sipush 300, 3) := by decide +kernel
theorem dX8_bestFactor_23 : decode cX8_bestFactor 23 = .ok (.goto 5, 3) := by decide +kernel
theorem dX8_bestFactor_26 : decode cX8_bestFactor 26 = .ok (.bipush 101, 2) := by decide +kernel
theorem dX8_bestFactor_28 : decode cX8_bestFactor 28 = .ok (.istore 5, 2) := by decide +kernel
theorem dX8_bestFactor_30 : decode cX8_bestFactor 30 = .ok (.iconst (-1), 1) := by decide +kernel
theorem dX8_bestFactor_31 : decode cX8_bestFactor 31 = .ok (.istore 6, 2) := by decide +kernel
theorem dX8_bestFactor_33 : decode cX8_bestFactor 33 = .ok (.sipush 5000, 3) := by decide +kernel
theorem dX8_bestFactor_36 : decode cX8_bestFactor 36 = .ok (.istore 7, 2) := by decide +kernel
theorem dX8_bestFactor_38 : decode cX8_bestFactor 38 = .ok (.bipush 101, 2) := by decide +kernel
theorem dX8_bestFactor_40 : decode cX8_bestFactor 40 = .ok (.istore 8, 2) := by decide +kernel
theorem dX8_bestFactor_42 : decode cX8_bestFactor 42 = .ok (.iload 8, 2) := by decide +kernel
theorem dX8_bestFactor_44 : decode cX8_bestFactor 44 = .ok (.iload 5, 2) := by decide +kernel
theorem dX8_bestFactor_46 : decode cX8_bestFactor 46 = .ok (.if_icmp .gt 39, 3) := by decide +kernel
theorem dX8_bestFactor_49 : decode cX8_bestFactor 49 = .ok (.aload_n 0, 1) := by decide +kernel
theorem dX8_bestFactor_50 : decode cX8_bestFactor 50 = .ok (.aload 4, 2) := by decide +kernel
theorem dX8_bestFactor_52 : decode cX8_bestFactor 52 = .ok (.iload 8, 2) := by decide +kernel
theorem dX8_bestFactor_54 : decode cX8_bestFactor 54 = .ok (.iload_n 2, 1) := by decide +kernel
theorem dX8_bestFactor_55 : decode cX8_bestFactor 55 = .ok (.iload_n 3, 1) := by decide +kernel
theorem dX8_bestFactor_56 : decode cX8_bestFactor 56 = .ok (.iload 7, 2) := by decide +kernel
theorem dX8_bestFactor_58 : decode cX8_bestFactor 58 = .ok (.invokevirtual 349, 3) := by decide +kernel
theorem dX8_bestFactor_61 : decode cX8_bestFactor 61 = .ok (.istore 9, 2) := by decide +kernel
theorem dX8_bestFactor_63 : decode cX8_bestFactor 63 = .ok (.iload 9, 2) := by decide +kernel
theorem dX8_bestFactor_65 : decode cX8_bestFactor 65 = .ok (.iconst (-1), 1) := by decide +kernel
theorem dX8_bestFactor_66 : decode cX8_bestFactor 66 = .ok (.if_icmp .eq 13, 3) := by decide +kernel
theorem dX8_bestFactor_69 : decode cX8_bestFactor 69 = .ok (.iload 8, 2) := by decide +kernel
theorem dX8_bestFactor_71 : decode cX8_bestFactor 71 = .ok (.istore 6, 2) := by decide +kernel
theorem dX8_bestFactor_73 : decode cX8_bestFactor 73 = .ok (.iload 9, 2) := by decide +kernel
theorem dX8_bestFactor_75 : decode cX8_bestFactor 75 = .ok (.iconst 1, 1) := by decide +kernel
theorem dX8_bestFactor_76 : decode cX8_bestFactor 76 = .ok (.isub, 1) := by decide +kernel
theorem dX8_bestFactor_77 : decode cX8_bestFactor 77 = .ok (.istore 7, 2) := by decide +kernel
theorem dX8_bestFactor_79 : decode cX8_bestFactor 79 = .ok (.iinc 8 1, 3) := by decide +kernel
theorem dX8_bestFactor_82 : decode cX8_bestFactor 82 = .ok (.goto (-40), 3) := by decide +kernel
theorem dX8_bestFactor_85 : decode cX8_bestFactor 85 = .ok (.iload 6, 2) := by decide +kernel
theorem dX8_bestFactor_87 : decode cX8_bestFactor 87 = .ok (.ireturn, 1) := by decide +kernel
theorem dX8_needed_0 : decode cX8_needed 0 = .ok (.aload_n 1, 1) := by decide +kernel
theorem dX8_needed_1 : decode cX8_needed 1 = .ok (.aload_n 1, 1) := by decide +kernel
theorem dX8_needed_2 : decode cX8_needed 2 = .ok (.getfield 251, 3) := by decide +kernel
theorem dX8_needed_5 : decode cX8_needed 5 = .ok (.aload_n 1, 1) := by decide +kernel
theorem dX8_needed_6 : decode cX8_needed 6 = .ok (.getfield 158, 3) := by decide +kernel
theorem dX8_needed_9 : decode cX8_needed 9 = .ok (.invokevirtual 355, 3) := by decide +kernel
theorem dX8_needed_12 : decode cX8_needed 12 = .ok (.istore 6, 2) := by decide +kernel
theorem dX8_needed_14 : decode cX8_needed 14 = .ok (.iload 5, 2) := by decide +kernel
theorem dX8_needed_16 : decode cX8_needed 16 = .ok (.iload_n 3, 1) := by decide +kernel
theorem dX8_needed_17 : decode cX8_needed 17 = .ok (.isub, 1) := by decide +kernel
theorem dX8_needed_18 : decode cX8_needed 18 = .ok (.iload 4, 2) := by decide +kernel
theorem dX8_needed_20 : decode cX8_needed 20 = .ok (.isub, 1) := by decide +kernel
theorem dX8_needed_21 : decode cX8_needed 21 = .ok (.istore 7, 2) := by decide +kernel
theorem dX8_needed_23 : decode cX8_needed 23 = .ok (.iconst 0, 1) := by decide +kernel
theorem dX8_needed_24 : decode cX8_needed 24 = .ok (.istore 8, 2) := by decide +kernel
theorem dX8_needed_26 : decode cX8_needed 26 = .ok (.iconst 0, 1) := by decide +kernel
theorem dX8_needed_27 : decode cX8_needed 27 = .ok (.istore 9, 2) := by decide +kernel
theorem dX8_needed_29 : decode cX8_needed 29 = .ok (.iload 9, 2) := by decide +kernel
theorem dX8_needed_31 : decode cX8_needed 31 = .ok (.aload_n 1, 1) := by decide +kernel
theorem dX8_needed_32 : decode cX8_needed 32 = .ok (.getfield 150, 3) := by decide +kernel
theorem dX8_needed_35 : decode cX8_needed 35 = .ok (.if_icmp .ge 101, 3) := by decide +kernel
theorem dX8_needed_38 : decode cX8_needed 38 = .ok (.iload 9, 2) := by decide +kernel
theorem dX8_needed_40 : decode cX8_needed 40 = .ok (.iconst 4, 1) := by decide +kernel
theorem dX8_needed_41 : decode cX8_needed 41 = .ok (.if_icmp .ge 95, 3) := by decide +kernel
theorem dX8_needed_44 : decode cX8_needed 44 = .ok (.iload 8, 2) := by decide +kernel
theorem dX8_needed_46 : decode cX8_needed 46 = .ok (.iconst (-1), 1) := by decide +kernel
theorem dX8_needed_47 : decode cX8_needed 47 = .ok (.if_icmp .eq 89, 3) := by decide +kernel
theorem dX8_needed_50 : decode cX8_needed 50 = .ok (.iload 9, 2) := by decide +kernel
theorem dX8_needed_52 : decode cX8_needed 52 = .ok (.aload_n 1, 1) := by decide +kernel
theorem dX8_needed_53 : decode cX8_needed 53 = .ok (.getfield 158, 3) := by decide +kernel
theorem dX8_needed_56 : decode cX8_needed 56 = .ok (.if_icmp .ne 6, 3) := by decide +kernel
theorem dX8_needed_59 : decode cX8_needed 59 = .ok (.goto 71, 3) := by decide +kernel
theorem dX8_needed_62 : decode cX8_needed 62 = .ok (.aload_n 0, 1) := by decide +kernel
theorem dX8_needed_63 : decode cX8_needed 63 = .ok (.aload_n 1, 1) := by decide +kernel
theorem dX8_needed_64 : decode cX8_needed 64 = .ok (.iload 9, 2) := by decide +kernel
theorem dX8_needed_66 : decode cX8_needed 66 = .ok (.iload 9, 2) := by decide +kernel
theorem dX8_needed_68 : decode cX8_needed 68 = .ok (.iload 6, 2) := by decide +kernel
theorem dX8_needed_70 : decode cX8_needed 70 = .ok (.if_icmp .ne 7, 3) := by decide +kernel
theorem dX8_needed_73 : decode cX8_needed 73 = .ok (.iconst 1, 1) := by decide +kernel
theorem dX8_needed_74 : decode cX8_needed 74 = .ok (.goto 4, 3) := by decide +kernel
theorem dX8_needed_77 : decode cX8_needed 77 = .ok (.iconst 0, 1) := by decide +kernel
theorem dX8_needed_78 : decode cX8_needed 78 = .ok (.iload_n 2, 1) := by decide +kernel
theorem dX8_needed_79 : decode cX8_needed 79 = .ok (.iload_n 3, 1) := by decide +kernel
theorem dX8_needed_80 : decode cX8_needed 80 = .ok (.iload 4, 2) := by decide +kernel
theorem dX8_needed_82 : decode cX8_needed 82 = .ok (.invokevirtual 359, 3) := by decide +kernel
theorem dX8_needed_85 : decode cX8_needed 85 = .ok (.lstore 10, 2) := by decide +kernel
theorem dX8_needed_87 : decode cX8_needed 87 = .ok (.aload_n 0, 1) := by decide +kernel
theorem dX8_needed_88 : decode cX8_needed 88 = .ok (.aload_n 1, 1) := by decide +kernel
theorem dX8_needed_89 : decode cX8_needed 89 = .ok (.iload 9, 2) := by decide +kernel
theorem dX8_needed_91 : decode cX8_needed 91 = .ok (.iload_n 2, 1) := by decide +kernel
theorem dX8_needed_92 : decode cX8_needed 92 = .ok (.lload 10, 2) := by decide +kernel
theorem dX8_needed_94 : decode cX8_needed 94 = .ok (.iload 7, 2) := by decide +kernel
theorem dX8_needed_96 : decode cX8_needed 96 = .ok (.invokevirtual 363, 3) := by decide +kernel
theorem dX8_needed_99 : decode cX8_needed 99 = .ok (.istore 12, 2) := by decide +kernel
theorem dX8_needed_101 : decode cX8_needed 101 = .ok (.iload 12, 2) := by decide +kernel
theorem dX8_needed_103 : decode cX8_needed 103 = .ok (.iconst (-1), 1) := by decide +kernel
theorem dX8_needed_104 : decode cX8_needed 104 = .ok (.if_icmp .ne 7, 3) := by decide +kernel
theorem dX8_needed_107 : decode cX8_needed 107 = .ok (.iconst (-1), 1) := by decide +kernel
theorem dX8_needed_108 : decode cX8_needed 108 = .ok (.goto 10, 3) := by decide +kernel
theorem dX8_needed_111 : decode cX8_needed 111 = .ok (.iload 8, 2) := by decide +kernel
theorem dX8_needed_113 : decode cX8_needed 113 = .ok (.iload 12, 2) := by decide +kernel
theorem dX8_needed_115 : decode cX8_needed 115 = .ok (.invokestatic 367, 3) := by decide +kernel
theorem dX8_needed_118 : decode cX8_needed 118 = .ok (.istore 8, 2) := by decide +kernel
theorem dX8_needed_120 : decode cX8_needed 120 = .ok (.aload_n 1, 1) := by decide +kernel
theorem dX8_needed_121 : decode cX8_needed 121 = .ok (.getfield 155, 3) := by decide +kernel
theorem dX8_needed_124 : decode cX8_needed 124 = .ok (.ifCond .ne 6, 3) := by decide +kernel
theorem dX8_needed_127 : decode cX8_needed 127 = .ok (.goto 9, 3) := by decide +kernel
theorem dX8_needed_130 : decode cX8_needed 130 = .ok (.iinc 9 1, 3) := by decide +kernel
theorem dX8_needed_133 : decode cX8_needed 133 = .ok (.goto (-104), 3) := by decide +kernel
theorem dX8_needed_136 : decode cX8_needed 136 = .ok (.iload 8, 2) := by decide +kernel
theorem dX8_needed_138 : decode cX8_needed 138 = .ok (.iconst (-1), 1) := by decide +kernel
theorem dX8_needed_139 : decode cX8_needed 139 = .ok (.if_icmp .ne 7, 3) := by decide +kernel
theorem dX8_needed_142 : decode cX8_needed 142 = .ok (.iconst (-1), 1) := by decide +kernel
theorem dX8_needed_143 : decode cX8_needed 143 = .ok (.goto 10, 3) := by decide +kernel
theorem dX8_needed_146 : decode cX8_needed 146 = .ok (.iload_n 3, 1) := by decide +kernel
theorem dX8_needed_147 : decode cX8_needed 147 = .ok (.iload 4, 2) := by decide +kernel
theorem dX8_needed_149 : decode cX8_needed 149 = .ok (.iadd, 1) := by decide +kernel
theorem dX8_needed_150 : decode cX8_needed 150 = .ok (.iload 8, 2) := by decide +kernel
theorem dX8_needed_152 : decode cX8_needed 152 = .ok (.iadd, 1) := by decide +kernel
theorem dX8_needed_153 : decode cX8_needed 153 = .ok (.ireturn, 1) := by decide +kernel
theorem dX8_supposedRisk_0 : decode cX8_supposedRisk 0 = .ok (.aload_n 1, 1) := by decide +kernel
theorem dX8_supposedRisk_1 : decode cX8_supposedRisk 1 = .ok (.getfield 155, 3) := by decide +kernel
theorem dX8_supposedRisk_4 : decode cX8_supposedRisk 4 = .ok (.iconst 1, 1) := by decide +kernel
theorem dX8_supposedRisk_5 : decode cX8_supposedRisk 5 = .ok (.if_icmp .ne 42, 3) := by decide +kernel
theorem dX8_supposedRisk_8 : decode cX8_supposedRisk 8 = .ok (.aload_n 1, 1) := by decide +kernel
theorem dX8_supposedRisk_9 : decode cX8_supposedRisk 9 = .ok (.iload_n 2, 1) := by decide +kernel
theorem dX8_supposedRisk_10 : decode cX8_supposedRisk 10 = .ok (.invokevirtual 370, 3) := by decide +kernel
theorem dX8_supposedRisk_13 : decode cX8_supposedRisk 13 = .ok (.lstore 7, 2) := by decide +kernel
theorem dX8_supposedRisk_15 : decode cX8_supposedRisk 15 = .ok (.iload_n 3, 1) := by decide +kernel
theorem dX8_supposedRisk_16 : decode cX8_supposedRisk 16 = .ok (.ifCond .eq 27, 3) := by decide +kernel
theorem dX8_supposedRisk_19 : decode cX8_supposedRisk 19 = .ok (.ldc2_w 212, 3) := by decide +kernel
theorem dX8_supposedRisk_22 : decode cX8_supposedRisk 22 = .ok (.lload 7, 2) := by decide +kernel
theorem dX8_supposedRisk_24 : decode cX8_supposedRisk 24 = .ok (.ldc2_w 373, 3) := by decide +kernel
theorem dX8_supposedRisk_27 : decode cX8_supposedRisk 27 = .ok (.aload_n 1, 1) := by decide +kernel
theorem dX8_supposedRisk_28 : decode cX8_supposedRisk 28 = .ok (.getfield 251, 3) := by decide +kernel
theorem dX8_supposedRisk_31 : decode cX8_supposedRisk 31 = .ok (.iload_n 2, 1) := by decide +kernel
theorem dX8_supposedRisk_32 : decode cX8_supposedRisk 32 = .ok (.iaload, 1) := by decide +kernel
theorem dX8_supposedRisk_33 : decode cX8_supposedRisk 33 = .ok (.i2l, 1) := by decide +kernel
theorem dX8_supposedRisk_34 : decode cX8_supposedRisk 34 = .ok (.lmul, 1) := by decide +kernel
theorem dX8_supposedRisk_35 : decode cX8_supposedRisk 35 = .ok (.iload 6, 2) := by decide +kernel
theorem dX8_supposedRisk_37 : decode cX8_supposedRisk 37 = .ok (.invokestatic 375, 3) := by decide +kernel
theorem dX8_supposedRisk_40 : decode cX8_supposedRisk 40 = .ok (.goto 6, 3) := by decide +kernel
theorem dX8_supposedRisk_43 : decode cX8_supposedRisk 43 = .ok (.ldc2_w 212, 3) := by decide +kernel
theorem dX8_supposedRisk_46 : decode cX8_supposedRisk 46 = .ok (.lreturn, 1) := by decide +kernel
theorem dX8_supposedRisk_47 : decode cX8_supposedRisk 47 = .ok (.aload_n 1, 1) := by decide +kernel
theorem dX8_supposedRisk_48 : decode cX8_supposedRisk 48 = .ok (.aload_n 0, 1) := by decide +kernel
theorem dX8_supposedRisk_49 : decode cX8_supposedRisk 49 = .ok (.getfield 30, 3) := by decide +kernel
theorem dX8_supposedRisk_52 : decode cX8_supposedRisk 52 = .ok (.getfield 107, 3) := by decide +kernel
theorem dX8_supposedRisk_55 : decode cX8_supposedRisk 55 = .ok (.iload 4, 2) := by decide +kernel
theorem dX8_supposedRisk_57 : decode cX8_supposedRisk 57 = .ok (.invokevirtual 379, 3) := by decide +kernel
theorem dX8_supposedRisk_60 : decode cX8_supposedRisk 60 = .ok (.lstore 7, 2) := by decide +kernel
theorem dX8_supposedRisk_62 : decode cX8_supposedRisk 62 = .ok (.ldc2_w 212, 3) := by decide +kernel
theorem dX8_supposedRisk_65 : decode cX8_supposedRisk 65 = .ok (.lload 7, 2) := by decide +kernel
theorem dX8_supposedRisk_67 : decode cX8_supposedRisk 67 = .ok (.aload_n 0, 1) := by decide +kernel
theorem dX8_supposedRisk_68 : decode cX8_supposedRisk 68 = .ok (.getfield 30, 3) := by decide +kernel
theorem dX8_supposedRisk_71 : decode cX8_supposedRisk 71 = .ok (.getfield 107, 3) := by decide +kernel
theorem dX8_supposedRisk_74 : decode cX8_supposedRisk 74 = .ok (.iload 4, 2) := by decide +kernel
theorem dX8_supposedRisk_76 : decode cX8_supposedRisk 76 = .ok (.iconst 2, 1) := by decide +kernel
theorem dX8_supposedRisk_77 : decode cX8_supposedRisk 77 = .ok (.invokestatic 383, 3) := by decide +kernel
theorem dX8_supposedRisk_80 : decode cX8_supposedRisk 80 = .ok (.iload 6, 2) := by decide +kernel
theorem dX8_supposedRisk_82 : decode cX8_supposedRisk 82 = .ok (.invokestatic 375, 3) := by decide +kernel
theorem dX8_supposedRisk_85 : decode cX8_supposedRisk 85 = .ok (.lstore 9, 2) := by decide +kernel
theorem dX8_supposedRisk_87 : decode cX8_supposedRisk 87 = .ok (.lload 9, 2) := by decide +kernel
theorem dX8_supposedRisk_89 : decode cX8_supposedRisk 89 = .ok (.lload 7, 2) := by decide +kernel
theorem dX8_supposedRisk_91 : decode cX8_supposedRisk 91 = .ok (.aload_n 0, 1) := by decide +kernel
theorem dX8_supposedRisk_92 : decode cX8_supposedRisk 92 = .ok (.getfield 30, 3) := by decide +kernel
theorem dX8_supposedRisk_95 : decode cX8_supposedRisk 95 = .ok (.getfield 107, 3) := by decide +kernel
theorem dX8_supposedRisk_98 : decode cX8_supposedRisk 98 = .ok (.iload 4, 2) := by decide +kernel
theorem dX8_supposedRisk_100 : decode cX8_supposedRisk 100 = .ok (.iconst 1, 1) := by decide +kernel
theorem dX8_supposedRisk_101 : decode cX8_supposedRisk 101 = .ok (.invokestatic 383, 3) := by decide +kernel
theorem dX8_supposedRisk_104 : decode cX8_supposedRisk 104 = .ok (.iload 5, 2) := by decide +kernel
theorem dX8_supposedRisk_106 : decode cX8_supposedRisk 106 = .ok (.invokestatic 375, 3) := by decide +kernel
theorem dX8_supposedRisk_109 : decode cX8_supposedRisk 109 = .ok (.lreturn, 1) := by decide +kernel
theorem dX8_cleanDraws_0 : decode cX8_cleanDraws 0 = .ok (.aload_n 1, 1) := by decide +kernel
theorem dX8_cleanDraws_1 : decode cX8_cleanDraws 1 = .ok (.getfield 155, 3) := by decide +kernel
theorem dX8_cleanDraws_4 : decode cX8_cleanDraws 4 = .ok (.iconst 1, 1) := by decide +kernel
theorem dX8_cleanDraws_5 : decode cX8_cleanDraws 5 = .ok (.if_icmp .ne 41, 3) := by decide +kernel
theorem dX8_cleanDraws_8 : decode cX8_cleanDraws 8 = .ok (.aload_n 1, 1) := by decide +kernel
theorem dX8_cleanDraws_9 : decode cX8_cleanDraws 9 = .ok (.iload_n 2, 1) := by decide +kernel
theorem dX8_cleanDraws_10 : decode cX8_cleanDraws 10 = .ok (.invokevirtual 370, 3) := by decide +kernel
theorem dX8_cleanDraws_13 : decode cX8_cleanDraws 13 = .ok (.lstore 7, 2) := by decide +kernel
theorem dX8_cleanDraws_15 : decode cX8_cleanDraws 15 = .ok (.lload 4, 2) := by decide +kernel
theorem dX8_cleanDraws_17 : decode cX8_cleanDraws 17 = .ok (.lload 7, 2) := by decide +kernel
theorem dX8_cleanDraws_19 : decode cX8_cleanDraws 19 = .ok (.ldc2_w 373, 3) := by decide +kernel
theorem dX8_cleanDraws_22 : decode cX8_cleanDraws 22 = .ok (.aload_n 1, 1) := by decide +kernel
theorem dX8_cleanDraws_23 : decode cX8_cleanDraws 23 = .ok (.getfield 251, 3) := by decide +kernel
theorem dX8_cleanDraws_26 : decode cX8_cleanDraws 26 = .ok (.aload_n 1, 1) := by decide +kernel
theorem dX8_cleanDraws_27 : decode cX8_cleanDraws 27 = .ok (.getfield 158, 3) := by decide +kernel
theorem dX8_cleanDraws_30 : decode cX8_cleanDraws 30 = .ok (.iaload, 1) := by decide +kernel
theorem dX8_cleanDraws_31 : decode cX8_cleanDraws 31 = .ok (.i2l, 1) := by decide +kernel
theorem dX8_cleanDraws_32 : decode cX8_cleanDraws 32 = .ok (.lmul, 1) := by decide +kernel
theorem dX8_cleanDraws_33 : decode cX8_cleanDraws 33 = .ok (.aload_n 0, 1) := by decide +kernel
theorem dX8_cleanDraws_34 : decode cX8_cleanDraws 34 = .ok (.getfield 30, 3) := by decide +kernel
theorem dX8_cleanDraws_37 : decode cX8_cleanDraws 37 = .ok (.invokevirtual 218, 3) := by decide +kernel
theorem dX8_cleanDraws_40 : decode cX8_cleanDraws 40 = .ok (.iload 6, 2) := by decide +kernel
theorem dX8_cleanDraws_42 : decode cX8_cleanDraws 42 = .ok (.invokestatic 387, 3) := by decide +kernel
theorem dX8_cleanDraws_45 : decode cX8_cleanDraws 45 = .ok (.ireturn, 1) := by decide +kernel
theorem dX8_cleanDraws_46 : decode cX8_cleanDraws 46 = .ok (.aload_n 1, 1) := by decide +kernel
theorem dX8_cleanDraws_47 : decode cX8_cleanDraws 47 = .ok (.aload_n 0, 1) := by decide +kernel
theorem dX8_cleanDraws_48 : decode cX8_cleanDraws 48 = .ok (.getfield 30, 3) := by decide +kernel
theorem dX8_cleanDraws_51 : decode cX8_cleanDraws 51 = .ok (.getfield 107, 3) := by decide +kernel
theorem dX8_cleanDraws_54 : decode cX8_cleanDraws 54 = .ok (.iload_n 3, 1) := by decide +kernel
theorem dX8_cleanDraws_55 : decode cX8_cleanDraws 55 = .ok (.invokevirtual 379, 3) := by decide +kernel
theorem dX8_cleanDraws_58 : decode cX8_cleanDraws 58 = .ok (.lstore 7, 2) := by decide +kernel
theorem dX8_cleanDraws_60 : decode cX8_cleanDraws 60 = .ok (.lload 4, 2) := by decide +kernel
theorem dX8_cleanDraws_62 : decode cX8_cleanDraws 62 = .ok (.lload 7, 2) := by decide +kernel
theorem dX8_cleanDraws_64 : decode cX8_cleanDraws 64 = .ok (.aload_n 0, 1) := by decide +kernel
theorem dX8_cleanDraws_65 : decode cX8_cleanDraws 65 = .ok (.getfield 30, 3) := by decide +kernel
theorem dX8_cleanDraws_68 : decode cX8_cleanDraws 68 = .ok (.getfield 107, 3) := by decide +kernel
theorem dX8_cleanDraws_71 : decode cX8_cleanDraws 71 = .ok (.iload_n 3, 1) := by decide +kernel
theorem dX8_cleanDraws_72 : decode cX8_cleanDraws 72 = .ok (.iconst 0, 1) := by decide +kernel
theorem dX8_cleanDraws_73 : decode cX8_cleanDraws 73 = .ok (.invokestatic 383, 3) := by decide +kernel
theorem dX8_cleanDraws_76 : decode cX8_cleanDraws 76 = .ok (.aload_n 0, 1) := by decide +kernel
theorem dX8_cleanDraws_77 : decode cX8_cleanDraws 77 = .ok (.getfield 30, 3) := by decide +kernel
theorem dX8_cleanDraws_80 : decode cX8_cleanDraws 80 = .ok (.invokevirtual 218, 3) := by decide +kernel
theorem dX8_cleanDraws_83 : decode cX8_cleanDraws 83 = .ok (.iload 6, 2) := by decide +kernel
theorem dX8_cleanDraws_85 : decode cX8_cleanDraws 85 = .ok (.invokestatic 387, 3) := by decide +kernel
theorem dX8_cleanDraws_88 : decode cX8_cleanDraws 88 = .ok (.ireturn, 1) := by decide +kernel
theorem dX8_more_0 : decode cX8_more 0 = .ok (.aload_n 0, 1) := by decide +kernel
theorem dX8_more_1 : decode cX8_more 1 = .ok (.iload_n 1, 1) := by decide +kernel
theorem dX8_more_2 : decode cX8_more 2 = .ok (.invokevirtual 146, 3) := by decide +kernel
theorem dX8_more_5 : decode cX8_more 5 = .ok (.astore_n 2, 1) := by decide +kernel
theorem dX8_more_6 : decode cX8_more 6 = .ok (.aload_n 0, 1) := by decide +kernel
theorem dX8_more_7 : decode cX8_more 7 = .ok (.getfield 40, 3) := by decide +kernel
theorem dX8_more_10 : decode cX8_more 10 = .ok (.iload_n 1, 1) := by decide +kernel
theorem dX8_more_11 : decode cX8_more 11 = .ok (.invokevirtual 167, 3) := by decide +kernel
theorem dX8_more_14 : decode cX8_more 14 = .ok (.ifCond .eq 5, 3) := by decide +kernel
theorem dX8_more_17 : decode cX8_more 17 = .ok (.iconst 0, 1) := by decide +kernel
theorem dX8_more_18 : decode cX8_more 18 = .ok (.ireturn, 1) := by decide +kernel
theorem dX8_more_19 : decode cX8_more 19 = .ok (.aload_n 0, 1) := by decide +kernel
theorem dX8_more_20 : decode cX8_more 20 = .ok (.getfield 30, 3) := by decide +kernel
theorem dX8_more_23 : decode cX8_more 23 = .ok (.getfield 117, 3) := by decide +kernel
theorem dX8_more_26 : decode cX8_more 26 = .ok (.iconst 1, 1) := by decide +kernel
theorem dX8_more_27 : decode cX8_more 27 = .ok (.iaload, 1) := by decide +kernel
theorem dX8_more_28 : decode cX8_more 28 = .ok (.istore_n 3, 1) := by decide +kernel
theorem dX8_more_29 : decode cX8_more 29 = .ok (.aload_n 2, 1) := by decide +kernel
theorem dX8_more_30 : decode cX8_more 30 = .ok (.getfield 155, 3) := by decide +kernel
theorem dX8_more_33 : decode cX8_more 33 = .ok (.ifCond .ne 22, 3) := by decide +kernel
theorem dX8_more_36 : decode cX8_more 36 = .ok (.aload_n 0, 1) := by decide +kernel
theorem dX8_more_37 : decode cX8_more 37 = .ok (.aload_n 2, 1) := by decide +kernel
theorem dX8_more_38 : decode cX8_more 38 = .ok (.iconst 0, 1) := by decide +kernel
theorem dX8_more_39 : decode cX8_more 39 = .ok (.iload_n 3, 1) := by decide +kernel
theorem dX8_more_40 : decode cX8_more 40 = .ok (.aload_n 0, 1) := by decide +kernel
theorem dX8_more_41 : decode cX8_more 41 = .ok (.getfield 40, 3) := by decide +kernel
theorem dX8_more_44 : decode cX8_more 44 = .ok (.iload_n 1, 1) := by decide +kernel
theorem dX8_more_45 : decode cX8_more 45 = .ok (.invokevirtual 190, 3) := by decide +kernel
theorem dX8_more_48 : decode cX8_more 48 = .ok (.sipush 5000, 3) := by decide +kernel
theorem dX8_more_51 : decode cX8_more 51 = .ok (.invokevirtual 363, 3) := by decide +kernel
theorem dX8_more_54 : decode cX8_more 54 = .ok (.ireturn, 1) := by decide +kernel
theorem dX8_more_55 : decode cX8_more 55 = .ok (.iconst 0, 1) := by decide +kernel
theorem dX8_more_56 : decode cX8_more 56 = .ok (.istore 4, 2) := by decide +kernel
theorem dX8_more_58 : decode cX8_more 58 = .ok (.iconst 0, 1) := by decide +kernel
theorem dX8_more_59 : decode cX8_more 59 = .ok (.istore 5, 2) := by decide +kernel
theorem dX8_more_61 : decode cX8_more 61 = .ok (.iload 5, 2) := by decide +kernel
theorem dX8_more_63 : decode cX8_more 63 = .ok (.aload_n 2, 1) := by decide +kernel
theorem dX8_more_64 : decode cX8_more 64 = .ok (.getfield 150, 3) := by decide +kernel
theorem dX8_more_67 : decode cX8_more 67 = .ok (.if_icmp .ge 74, 3) := by decide +kernel
theorem dX8_more_70 : decode cX8_more 70 = .ok (.iload 5, 2) := by decide +kernel
theorem dX8_more_72 : decode cX8_more 72 = .ok (.iconst 4, 1) := by decide +kernel
theorem dX8_more_73 : decode cX8_more 73 = .ok (.if_icmp .ge 68, 3) := by decide +kernel
theorem dX8_more_76 : decode cX8_more 76 = .ok (.iload 4, 2) := by decide +kernel
theorem dX8_more_78 : decode cX8_more 78 = .ok (.iconst (-1), 1) := by decide +kernel
theorem dX8_more_79 : decode cX8_more 79 = .ok (.if_icmp .eq 62, 3) := by decide +kernel
theorem dX8_more_82 : decode cX8_more 82 = .ok (.iload 5, 2) := by decide +kernel
theorem dX8_more_84 : decode cX8_more 84 = .ok (.aload_n 2, 1) := by decide +kernel
theorem dX8_more_85 : decode cX8_more 85 = .ok (.getfield 158, 3) := by decide +kernel
theorem dX8_more_88 : decode cX8_more 88 = .ok (.if_icmp .eq 47, 3) := by decide +kernel
theorem dX8_more_91 : decode cX8_more 91 = .ok (.aload_n 0, 1) := by decide +kernel
theorem dX8_more_92 : decode cX8_more 92 = .ok (.aload_n 2, 1) := by decide +kernel
theorem dX8_more_93 : decode cX8_more 93 = .ok (.iload 5, 2) := by decide +kernel
theorem dX8_more_95 : decode cX8_more 95 = .ok (.iload_n 3, 1) := by decide +kernel
theorem dX8_more_96 : decode cX8_more 96 = .ok (.aload_n 0, 1) := by decide +kernel
theorem dX8_more_97 : decode cX8_more 97 = .ok (.getfield 40, 3) := by decide +kernel
theorem dX8_more_100 : decode cX8_more 100 = .ok (.getfield 198, 3) := by decide +kernel
theorem dX8_more_103 : decode cX8_more 103 = .ok (.iload_n 1, 1) := by decide +kernel
theorem dX8_more_104 : decode cX8_more 104 = .ok (.aaload, 1) := by decide +kernel
theorem dX8_more_105 : decode cX8_more 105 = .ok (.iload 5, 2) := by decide +kernel
theorem dX8_more_107 : decode cX8_more 107 = .ok (.laload, 1) := by decide +kernel
theorem dX8_more_108 : decode cX8_more 108 = .ok (.sipush 5000, 3) := by decide +kernel
theorem dX8_more_111 : decode cX8_more 111 = .ok (.invokevirtual 363, 3) := by decide +kernel
theorem dX8_more_114 : decode cX8_more 114 = .ok (.istore 6, 2) := by decide +kernel
theorem dX8_more_116 : decode cX8_more 116 = .ok (.iload 6, 2) := by decide +kernel
theorem dX8_more_118 : decode cX8_more 118 = .ok (.iconst (-1), 1) := by decide +kernel
theorem dX8_more_119 : decode cX8_more 119 = .ok (.if_icmp .ne 7, 3) := by decide +kernel
theorem dX8_more_122 : decode cX8_more 122 = .ok (.iconst (-1), 1) := by decide +kernel
theorem dX8_more_123 : decode cX8_more 123 = .ok (.goto 10, 3) := by decide +kernel
theorem dX8_more_126 : decode cX8_more 126 = .ok (.iload 4, 2) := by decide +kernel
theorem dX8_more_128 : decode cX8_more 128 = .ok (.iload 6, 2) := by decide +kernel
theorem dX8_more_130 : decode cX8_more 130 = .ok (.invokestatic 367, 3) := by decide +kernel
theorem dX8_more_133 : decode cX8_more 133 = .ok (.istore 4, 2) := by decide +kernel
theorem dX8_more_135 : decode cX8_more 135 = .ok (.iinc 5 1, 3) := by decide +kernel
theorem dX8_more_138 : decode cX8_more 138 = .ok (.goto (-77), 3) := by decide +kernel
theorem dX8_more_141 : decode cX8_more 141 = .ok (.iload 4, 2) := by decide +kernel
theorem dX8_more_143 : decode cX8_more 143 = .ok (.ireturn, 1) := by decide +kernel
theorem dX8_tries_0 : decode cX8_tries 0 = .ok (.aload_n 0, 1) := by decide +kernel
theorem dX8_tries_1 : decode cX8_tries 1 = .ok (.iload_n 1, 1) := by decide +kernel
theorem dX8_tries_2 : decode cX8_tries 2 = .ok (.invokevirtual 146, 3) := by decide +kernel
theorem dX8_tries_5 : decode cX8_tries 5 = .ok (.astore 5, 2) := by decide +kernel
theorem dX8_tries_7 : decode cX8_tries 7 = .ok (.iload 4, 2) := by decide +kernel
theorem dX8_tries_9 : decode cX8_tries 9 = .ok (.ifCond .lt 9, 3) := by decide +kernel
theorem dX8_tries_12 : decode cX8_tries 12 = .ok (.iload 4, 2) := by decide +kernel
theorem dX8_tries_14 : decode cX8_tries 14 = .ok (.iconst 2, 1) := by decide +kernel
theorem dX8_tries_15 : decode cX8_tries 15 = .ok (.if_icmp .le 14, 3) := by decide +kernel
theorem dX8_tries_18 : decode cX8_tries 18 = .ok (.new 141, 3) := by decide +kernel
theorem dX8_tries_21 : decode cX8_tries 21 = .ok (.dup, 1) := by decide +kernel
theorem dX8_tries_22 : decode cX8_tries 22 = .ok (.ldc_w 391, 3) := by decide +kernel
theorem dX8_tries_25 : decode cX8_tries 25 = .ok (.invokespecial 145, 3) := by decide +kernel
theorem dX8_tries_28 : decode cX8_tries 28 = .ok (.athrow, 1) := by decide +kernel
theorem dX8_tries_29 : decode cX8_tries 29 = .ok (.iload_n 3, 1) := by decide +kernel
theorem dX8_tries_30 : decode cX8_tries 30 = .ok (.invokestatic 393, 3) := by decide +kernel
theorem dX8_tries_33 : decode cX8_tries 33 = .ok (.iconst 0, 1) := by decide +kernel
theorem dX8_tries_34 : decode cX8_tries 34 = .ok (.istore 6, 2) := by decide +kernel
theorem dX8_tries_36 : decode cX8_tries 36 = .ok (.iconst 0, 1) := by decide +kernel
theorem dX8_tries_37 : decode cX8_tries 37 = .ok (.istore 7, 2) := by decide +kernel
theorem dX8_tries_39 : decode cX8_tries 39 = .ok (.iload 7, 2) := by decide +kernel
theorem dX8_tries_41 : decode cX8_tries 41 = .ok (.iload_n 3, 1) := by decide +kernel
theorem dX8_tries_42 : decode cX8_tries 42 = .ok (.if_icmp .ge 97, 3) := by decide +kernel
theorem dX8_tries_45 : decode cX8_tries 45 = .ok (.aload_n 0, 1) := by decide +kernel
theorem dX8_tries_46 : decode cX8_tries 46 = .ok (.getfield 44, 3) := by decide +kernel
theorem dX8_tries_49 : decode cX8_tries 49 = .ok (.aload_n 0, 1) := by decide +kernel
theorem dX8_tries_50 : decode cX8_tries 50 = .ok (.getfield 30, 3) := by decide +kernel
theorem dX8_tries_53 : decode cX8_tries 53 = .ok (.iload_n 2, 1) := by decide +kernel
theorem dX8_tries_54 : decode cX8_tries 54 = .ok (.iload 7, 2) := by decide +kernel
theorem dX8_tries_56 : decode cX8_tries 56 = .ok (.iadd, 1) := by decide +kernel
theorem dX8_tries_57 : decode cX8_tries 57 = .ok (.invokevirtual 321, 3) := by decide +kernel
theorem dX8_tries_60 : decode cX8_tries 60 = .ok (.aload_n 0, 1) := by decide +kernel
theorem dX8_tries_61 : decode cX8_tries 61 = .ok (.getfield 44, 3) := by decide +kernel
theorem dX8_tries_64 : decode cX8_tries 64 = .ok (.aload_n 0, 1) := by decide +kernel
theorem dX8_tries_65 : decode cX8_tries 65 = .ok (.getfield 30, 3) := by decide +kernel
theorem dX8_tries_68 : decode cX8_tries 68 = .ok (.aload_n 0, 1) := by decide +kernel
theorem dX8_tries_69 : decode cX8_tries 69 = .ok (.getfield 30, 3) := by decide +kernel
theorem dX8_tries_72 : decode cX8_tries 72 = .ok (.getfield 117, 3) := by decide +kernel
theorem dX8_tries_75 : decode cX8_tries 75 = .ok (.iconst 2, 1) := by decide +kernel
theorem dX8_tries_76 : decode cX8_tries 76 = .ok (.iaload, 1) := by decide +kernel
theorem dX8_tries_77 : decode cX8_tries 77 = .ok (.invokevirtual 289, 3) := by decide +kernel
theorem dX8_tries_80 : decode cX8_tries 80 = .ok (.iload 4, 2) := by decide +kernel
theorem dX8_tries_82 : decode cX8_tries 82 = .ok (.iconst 1, 1) := by decide +kernel
theorem dX8_tries_83 : decode cX8_tries 83 = .ok (.if_icmp .ne 18, 3) := by decide +kernel
theorem dX8_tries_86 : decode cX8_tries 86 = .ok (.iload 6, 2) := by decide +kernel
theorem dX8_tries_88 : decode cX8_tries 88 = .ok (.aload_n 0, 1) := by decide +kernel
theorem dX8_tries_89 : decode cX8_tries 89 = .ok (.getfield 44, 3) := by decide +kernel
theorem dX8_tries_92 : decode cX8_tries 92 = .ok (.getfield 121, 3) := by decide +kernel
theorem dX8_tries_95 : decode cX8_tries 95 = .ok (.iadd, 1) := by decide +kernel
theorem dX8_tries_96 : decode cX8_tries 96 = .ok (.istore 6, 2) := by decide +kernel
theorem dX8_tries_98 : decode cX8_tries 98 = .ok (.goto 35, 3) := by decide +kernel
theorem dX8_tries_101 : decode cX8_tries 101 = .ok (.aload_n 0, 1) := by decide +kernel
theorem dX8_tries_102 : decode cX8_tries 102 = .ok (.getfield 44, 3) := by decide +kernel
theorem dX8_tries_105 : decode cX8_tries 105 = .ok (.iload_n 1, 1) := by decide +kernel
theorem dX8_tries_106 : decode cX8_tries 106 = .ok (.invokevirtual 167, 3) := by decide +kernel
theorem dX8_tries_109 : decode cX8_tries 109 = .ok (.ifCond .eq 24, 3) := by decide +kernel
theorem dX8_tries_112 : decode cX8_tries 112 = .ok (.iload 4, 2) := by decide +kernel
theorem dX8_tries_114 : decode cX8_tries 114 = .ok (.ifCond .eq 16, 3) := by decide +kernel
theorem dX8_tries_117 : decode cX8_tries 117 = .ok (.aload 5, 2) := by decide +kernel
theorem dX8_tries_119 : decode cX8_tries 119 = .ok (.getfield 158, 3) := by decide +kernel
theorem dX8_tries_122 : decode cX8_tries 122 = .ok (.aload 5, 2) := by decide +kernel
theorem dX8_tries_124 : decode cX8_tries 124 = .ok (.getfield 161, 3) := by decide +kernel
theorem dX8_tries_127 : decode cX8_tries 127 = .ok (.if_icmp .eq 6, 3) := by decide +kernel
theorem dX8_tries_130 : decode cX8_tries 130 = .ok (.iinc 6 1, 3) := by decide +kernel
theorem dX8_tries_133 : decode cX8_tries 133 = .ok (.iinc 7 1, 3) := by decide +kernel
theorem dX8_tries_136 : decode cX8_tries 136 = .ok (.goto (-97), 3) := by decide +kernel
theorem dX8_tries_139 : decode cX8_tries 139 = .ok (.iload 6, 2) := by decide +kernel
theorem dX8_tries_141 : decode cX8_tries 141 = .ok (.ireturn, 1) := by decide +kernel
theorem dX8_seekTries_0 : decode cX8_seekTries 0 = .ok (.iload_n 0, 1) := by decide +kernel
theorem dX8_seekTries_1 : decode cX8_seekTries 1 = .ok (.iconst 1, 1) := by decide +kernel
theorem dX8_seekTries_2 : decode cX8_seekTries 2 = .ok (.if_icmp .lt 9, 3) := by decide +kernel
theorem dX8_seekTries_5 : decode cX8_seekTries 5 = .ok (.iload_n 0, 1) := by decide +kernel
theorem dX8_seekTries_6 : decode cX8_seekTries 6 = .ok (.bipush 30, 2) := by decide +kernel
theorem dX8_seekTries_8 : decode cX8_seekTries 8 = .ok (.if_icmp .le 14, 3) := by decide +kernel
theorem dX8_seekTries_11 : decode cX8_seekTries 11 = .ok (.new 79, 3) := by decide +kernel
theorem dX8_seekTries_14 : decode cX8_seekTries 14 = .ok (.dup, 1) := by decide +kernel
theorem dX8_seekTries_15 : decode cX8_seekTries 15 = .ok (.ldc_w 396, 3) := by decide +kernel
theorem dX8_seekTries_18 : decode cX8_seekTries 18 = .ok (.invokespecial 83, 3) := by decide +kernel
theorem dX8_seekTries_21 : decode cX8_seekTries 21 = .ok (.athrow, 1) := by decide +kernel
theorem dX8_seekTries_22 : decode cX8_seekTries 22 = .ok (.return_, 1) := by decide +kernel
theorem dX8_quickest_0 : decode cX8_quickest 0 = .ok (.iload_n 2, 1) := by decide +kernel
theorem dX8_quickest_1 : decode cX8_quickest 1 = .ok (.invokestatic 393, 3) := by decide +kernel
theorem dX8_quickest_4 : decode cX8_quickest 4 = .ok (.iconst (-1), 1) := by decide +kernel
theorem dX8_quickest_5 : decode cX8_quickest 5 = .ok (.istore_n 3, 1) := by decide +kernel
theorem dX8_quickest_6 : decode cX8_quickest 6 = .ok (.iconst 0, 1) := by decide +kernel
theorem dX8_quickest_7 : decode cX8_quickest 7 = .ok (.istore 4, 2) := by decide +kernel
theorem dX8_quickest_9 : decode cX8_quickest 9 = .ok (.iconst 0, 1) := by decide +kernel
theorem dX8_quickest_10 : decode cX8_quickest 10 = .ok (.istore 5, 2) := by decide +kernel
theorem dX8_quickest_12 : decode cX8_quickest 12 = .ok (.iload 5, 2) := by decide +kernel
theorem dX8_quickest_14 : decode cX8_quickest 14 = .ok (.iload_n 2, 1) := by decide +kernel
theorem dX8_quickest_15 : decode cX8_quickest 15 = .ok (.if_icmp .ge 83, 3) := by decide +kernel
theorem dX8_quickest_18 : decode cX8_quickest 18 = .ok (.aload_n 0, 1) := by decide +kernel
theorem dX8_quickest_19 : decode cX8_quickest 19 = .ok (.getfield 44, 3) := by decide +kernel
theorem dX8_quickest_22 : decode cX8_quickest 22 = .ok (.aload_n 0, 1) := by decide +kernel
theorem dX8_quickest_23 : decode cX8_quickest 23 = .ok (.getfield 30, 3) := by decide +kernel
theorem dX8_quickest_26 : decode cX8_quickest 26 = .ok (.iload_n 1, 1) := by decide +kernel
theorem dX8_quickest_27 : decode cX8_quickest 27 = .ok (.iload 5, 2) := by decide +kernel
theorem dX8_quickest_29 : decode cX8_quickest 29 = .ok (.iadd, 1) := by decide +kernel
theorem dX8_quickest_30 : decode cX8_quickest 30 = .ok (.invokevirtual 321, 3) := by decide +kernel
theorem dX8_quickest_33 : decode cX8_quickest 33 = .ok (.aload_n 0, 1) := by decide +kernel
theorem dX8_quickest_34 : decode cX8_quickest 34 = .ok (.getfield 44, 3) := by decide +kernel
theorem dX8_quickest_37 : decode cX8_quickest 37 = .ok (.aload_n 0, 1) := by decide +kernel
theorem dX8_quickest_38 : decode cX8_quickest 38 = .ok (.getfield 30, 3) := by decide +kernel
theorem dX8_quickest_41 : decode cX8_quickest 41 = .ok (.aload_n 0, 1) := by decide +kernel
theorem dX8_quickest_42 : decode cX8_quickest 42 = .ok (.getfield 30, 3) := by decide +kernel
theorem dX8_quickest_45 : decode cX8_quickest 45 = .ok (.getfield 117, 3) := by decide +kernel
theorem dX8_quickest_48 : decode cX8_quickest 48 = .ok (.iconst 2, 1) := by decide +kernel
theorem dX8_quickest_49 : decode cX8_quickest 49 = .ok (.iaload, 1) := by decide +kernel
theorem dX8_quickest_50 : decode cX8_quickest 50 = .ok (.invokevirtual 289, 3) := by decide +kernel
theorem dX8_quickest_53 : decode cX8_quickest 53 = .ok (.aload_n 0, 1) := by decide +kernel
theorem dX8_quickest_54 : decode cX8_quickest 54 = .ok (.getfield 44, 3) := by decide +kernel
theorem dX8_quickest_57 : decode cX8_quickest 57 = .ok (.invokevirtual 130, 3) := by decide +kernel
theorem dX8_quickest_60 : decode cX8_quickest 60 = .ok (.ifCond .eq 32, 3) := by decide +kernel
theorem dX8_quickest_63 : decode cX8_quickest 63 = .ok (.iload_n 3, 1) := by decide +kernel
theorem dX8_quickest_64 : decode cX8_quickest 64 = .ok (.iconst (-1), 1) := by decide +kernel
theorem dX8_quickest_65 : decode cX8_quickest 65 = .ok (.if_icmp .eq 15, 3) := by decide +kernel
theorem dX8_quickest_68 : decode cX8_quickest 68 = .ok (.aload_n 0, 1) := by decide +kernel
theorem dX8_quickest_69 : decode cX8_quickest 69 = .ok (.getfield 44, 3) := by decide +kernel
theorem dX8_quickest_72 : decode cX8_quickest 72 = .ok (.getfield 121, 3) := by decide +kernel
theorem dX8_quickest_75 : decode cX8_quickest 75 = .ok (.iload 4, 2) := by decide +kernel
theorem dX8_quickest_77 : decode cX8_quickest 77 = .ok (.if_icmp .ge 15, 3) := by decide +kernel
theorem dX8_quickest_80 : decode cX8_quickest 80 = .ok (.iload 5, 2) := by decide +kernel
theorem dX8_quickest_82 : decode cX8_quickest 82 = .ok (.istore_n 3, 1) := by decide +kernel
theorem dX8_quickest_83 : decode cX8_quickest 83 = .ok (.aload_n 0, 1) := by decide +kernel
theorem dX8_quickest_84 : decode cX8_quickest 84 = .ok (.getfield 44, 3) := by decide +kernel
theorem dX8_quickest_87 : decode cX8_quickest 87 = .ok (.getfield 121, 3) := by decide +kernel
theorem dX8_quickest_90 : decode cX8_quickest 90 = .ok (.istore 4, 2) := by decide +kernel
theorem dX8_quickest_92 : decode cX8_quickest 92 = .ok (.iinc 5 1, 3) := by decide +kernel
theorem dX8_quickest_95 : decode cX8_quickest 95 = .ok (.goto (-83), 3) := by decide +kernel
theorem dX8_quickest_98 : decode cX8_quickest 98 = .ok (.iload_n 3, 1) := by decide +kernel
theorem dX8_quickest_99 : decode cX8_quickest 99 = .ok (.ireturn, 1) := by decide +kernel
theorem dX8_ask_0 : decode cX8_ask 0 = .ok (.iload_n 1, 1) := by decide +kernel
theorem dX8_ask_1 : decode cX8_ask 1 = .ok (.ifCond .lt 18, 3) := by decide +kernel
theorem dX8_ask_4 : decode cX8_ask 4 = .ok (.iload_n 1, 1) := by decide +kernel
theorem dX8_ask_5 : decode cX8_ask 5 = .ok (.aload_n 0, 1) := by decide +kernel
theorem dX8_ask_6 : decode cX8_ask 6 = .ok (.getfield 13, 3) := by decide +kernel
theorem dX8_ask_9 : decode cX8_ask 9 = .ok (.if_icmp .gt 10, 3) := by decide +kernel
theorem dX8_ask_12 : decode cX8_ask 12 = .ok (.iload_n 1, 1) := by decide +kernel
theorem dX8_ask_13 : decode cX8_ask 13 = .ok (.sipush 200, 3) := by decide +kernel
theorem dX8_ask_16 : decode cX8_ask 16 = .ok (.if_icmp .le 14, 3) := by decide +kernel
theorem dX8_ask_19 : decode cX8_ask 19 = .ok (.new 79, 3) := by decide +kernel
theorem dX8_ask_22 : decode cX8_ask 22 = .ok (.dup, 1) := by decide +kernel
theorem dX8_ask_23 : decode cX8_ask 23 = .ok (.ldc_w 398, 3) := by decide +kernel
theorem dX8_ask_26 : decode cX8_ask 26 = .ok (.invokespecial 83, 3) := by decide +kernel
theorem dX8_ask_29 : decode cX8_ask 29 = .ok (.athrow, 1) := by decide +kernel
theorem dX8_ask_30 : decode cX8_ask 30 = .ok (.aload_n 0, 1) := by decide +kernel
theorem dX8_ask_31 : decode cX8_ask 31 = .ok (.iload_n 1, 1) := by decide +kernel
theorem dX8_ask_32 : decode cX8_ask 32 = .ok (.invokevirtual 86, 3) := by decide +kernel
theorem dX8_ask_35 : decode cX8_ask 35 = .ok (.aload_n 0, 1) := by decide +kernel
theorem dX8_ask_36 : decode cX8_ask 36 = .ok (.getfield 64, 3) := by decide +kernel
theorem dX8_ask_39 : decode cX8_ask 39 = .ok (.aload_n 0, 1) := by decide +kernel
theorem dX8_ask_40 : decode cX8_ask 40 = .ok (.getfield 57, 3) := by decide +kernel
theorem dX8_ask_43 : decode cX8_ask 43 = .ok (.aload_n 0, 1) := by decide +kernel
theorem dX8_ask_44 : decode cX8_ask 44 = .ok (.getfield 30, 3) := by decide +kernel
theorem dX8_ask_47 : decode cX8_ask 47 = .ok (.getfield 114, 3) := by decide +kernel
theorem dX8_ask_50 : decode cX8_ask 50 = .ok (.invokevirtual 400, 3) := by decide +kernel
theorem dX8_ask_53 : decode cX8_ask 53 = .ok (.aload_n 0, 1) := by decide +kernel
theorem dX8_ask_54 : decode cX8_ask 54 = .ok (.aload_n 0, 1) := by decide +kernel
theorem dX8_ask_55 : decode cX8_ask 55 = .ok (.getfield 57, 3) := by decide +kernel
theorem dX8_ask_58 : decode cX8_ask 58 = .ok (.getfield 95, 3) := by decide +kernel
theorem dX8_ask_61 : decode cX8_ask 61 = .ok (.putfield 17, 3) := by decide +kernel
theorem dX8_ask_64 : decode cX8_ask 64 = .ok (.aload_n 0, 1) := by decide +kernel
theorem dX8_ask_65 : decode cX8_ask 65 = .ok (.getfield 57, 3) := by decide +kernel
theorem dX8_ask_68 : decode cX8_ask 68 = .ok (.getfield 98, 3) := by decide +kernel
theorem dX8_ask_71 : decode cX8_ask 71 = .ok (.ifCond .eq 15, 3) := by decide +kernel
theorem dX8_ask_74 : decode cX8_ask 74 = .ok (.ldc_w 404, 3) := by decide +kernel
theorem dX8_ask_77 : decode cX8_ask 77 = .ok (.aload_n 0, 1) := by decide +kernel
theorem dX8_ask_78 : decode cX8_ask 78 = .ok (.getfield 57, 3) := by decide +kernel
theorem dX8_ask_81 : decode cX8_ask 81 = .ok (.getfield 98, 3) := by decide +kernel
theorem dX8_ask_84 : decode cX8_ask 84 = .ok (.isub, 1) := by decide +kernel
theorem dX8_ask_85 : decode cX8_ask 85 = .ok (.ireturn, 1) := by decide +kernel
theorem dX8_ask_86 : decode cX8_ask 86 = .ok (.aload_n 0, 1) := by decide +kernel
theorem dX8_ask_87 : decode cX8_ask 87 = .ok (.getfield 64, 3) := by decide +kernel
theorem dX8_ask_90 : decode cX8_ask 90 = .ok (.aload_n 0, 1) := by decide +kernel
theorem dX8_ask_91 : decode cX8_ask 91 = .ok (.getfield 30, 3) := by decide +kernel
theorem dX8_ask_94 : decode cX8_ask 94 = .ok (.aload_n 0, 1) := by decide +kernel
theorem dX8_ask_95 : decode cX8_ask 95 = .ok (.getfield 40, 3) := by decide +kernel
theorem dX8_ask_98 : decode cX8_ask 98 = .ok (.invokevirtual 405, 3) := by decide +kernel
theorem dX8_ask_101 : decode cX8_ask 101 = .ok (.ireturn, 1) := by decide +kernel
theorem dX8_image_0 : decode cX8_image 0 = .ok (.aload_n 0, 1) := by decide +kernel
theorem dX8_image_1 : decode cX8_image 1 = .ok (.iconst 1, 1) := by decide +kernel
theorem dX8_image_2 : decode cX8_image 2 = .ok (.putfield 68, 3) := by decide +kernel
theorem dX8_image_5 : decode cX8_image 5 = .ok (.aload_n 0, 1) := by decide +kernel
theorem dX8_image_6 : decode cX8_image 6 = .ok (.getfield 72, 3) := by decide +kernel
theorem dX8_image_9 : decode cX8_image 9 = .ok (.aload_n 0, 1) := by decide +kernel
theorem dX8_image_10 : decode cX8_image 10 = .ok (.getfield 30, 3) := by decide +kernel
theorem dX8_image_13 : decode cX8_image 13 = .ok (.invokevirtual 409, 3) := by decide +kernel
theorem dX8_image_16 : decode cX8_image 16 = .ok (.return_, 1) := by decide +kernel
theorem dX8_back_0 : decode cX8_back 0 = .ok (.aload_n 0, 1) := by decide +kernel
theorem dX8_back_1 : decode cX8_back 1 = .ok (.getfield 68, 3) := by decide +kernel
theorem dX8_back_4 : decode cX8_back 4 = .ok (.ifCond .ne 5, 3) := by decide +kernel
theorem dX8_back_7 : decode cX8_back 7 = .ok (.iconst 0, 1) := by decide +kernel
theorem dX8_back_8 : decode cX8_back 8 = .ok (.ireturn, 1) := by decide +kernel
theorem dX8_back_9 : decode cX8_back 9 = .ok (.aload_n 0, 1) := by decide +kernel
theorem dX8_back_10 : decode cX8_back 10 = .ok (.getfield 30, 3) := by decide +kernel
theorem dX8_back_13 : decode cX8_back 13 = .ok (.aload_n 0, 1) := by decide +kernel
theorem dX8_back_14 : decode cX8_back 14 = .ok (.getfield 72, 3) := by decide +kernel
theorem dX8_back_17 : decode cX8_back 17 = .ok (.invokevirtual 409, 3) := by decide +kernel
theorem dX8_back_20 : decode cX8_back 20 = .ok (.aload_n 0, 1) := by decide +kernel
theorem dX8_back_21 : decode cX8_back 21 = .ok (.getfield 50, 3) := by decide +kernel
theorem dX8_back_24 : decode cX8_back 24 = .ok (.invokevirtual 101, 3) := by decide +kernel
theorem dX8_back_27 : decode cX8_back 27 = .ok (.aload_n 0, 1) := by decide +kernel
theorem dX8_back_28 : decode cX8_back 28 = .ok (.invokevirtual 104, 3) := by decide +kernel
theorem dX8_back_31 : decode cX8_back 31 = .ok (.iconst 1, 1) := by decide +kernel
theorem dX8_back_32 : decode cX8_back 32 = .ok (.ireturn, 1) := by decide +kernel
theorem dX8_scaled_0 : decode cX8_scaled 0 = .ok (.lload 4, 2) := by decide +kernel
theorem dX8_scaled_2 : decode cX8_scaled 2 = .ok (.lconst 0, 1) := by decide +kernel
theorem dX8_scaled_3 : decode cX8_scaled 3 = .ok (.lcmp, 1) := by decide +kernel
theorem dX8_scaled_4 : decode cX8_scaled 4 = .ok (.ifCond .gt 7, 3) := by decide +kernel
theorem dX8_scaled_7 : decode cX8_scaled 7 = .ok (.ldc2_w 413, 3) := by decide +kernel
theorem dX8_scaled_10 : decode cX8_scaled 10 = .ok (.lreturn, 1) := by decide +kernel
theorem dX8_scaled_11 : decode cX8_scaled 11 = .ok (.lload_n 0, 1) := by decide +kernel
theorem dX8_scaled_12 : decode cX8_scaled 12 = .ok (.lload_n 2, 1) := by decide +kernel
theorem dX8_scaled_13 : decode cX8_scaled 13 = .ok (.lmul, 1) := by decide +kernel
theorem dX8_scaled_14 : decode cX8_scaled 14 = .ok (.lload 4, 2) := by decide +kernel
theorem dX8_scaled_16 : decode cX8_scaled 16 = .ok (.ladd, 1) := by decide +kernel
theorem dX8_scaled_17 : decode cX8_scaled 17 = .ok (.lconst 1, 1) := by decide +kernel
theorem dX8_scaled_18 : decode cX8_scaled 18 = .ok (.lsub, 1) := by decide +kernel
theorem dX8_scaled_19 : decode cX8_scaled 19 = .ok (.lload 4, 2) := by decide +kernel
theorem dX8_scaled_21 : decode cX8_scaled 21 = .ok (.ldiv, 1) := by decide +kernel
theorem dX8_scaled_22 : decode cX8_scaled 22 = .ok (.lstore 6, 2) := by decide +kernel
theorem dX8_scaled_24 : decode cX8_scaled 24 = .ok (.lconst 1, 1) := by decide +kernel
theorem dX8_scaled_25 : decode cX8_scaled 25 = .ok (.ldc2_w 413, 3) := by decide +kernel
theorem dX8_scaled_28 : decode cX8_scaled 28 = .ok (.lload 6, 2) := by decide +kernel
theorem dX8_scaled_30 : decode cX8_scaled 30 = .ok (.invokestatic 415, 3) := by decide +kernel
theorem dX8_scaled_33 : decode cX8_scaled 33 = .ok (.invokestatic 418, 3) := by decide +kernel
theorem dX8_scaled_36 : decode cX8_scaled 36 = .ok (.lreturn, 1) := by decide +kernel
theorem dX8_repeated_0 : decode cX8_repeated 0 = .ok (.lload_n 0, 1) := by decide +kernel
theorem dX8_repeated_1 : decode cX8_repeated 1 = .ok (.lstore 7, 2) := by decide +kernel
theorem dX8_repeated_3 : decode cX8_repeated 3 = .ok (.iconst 0, 1) := by decide +kernel
theorem dX8_repeated_4 : decode cX8_repeated 4 = .ok (.istore 9, 2) := by decide +kernel
theorem dX8_repeated_6 : decode cX8_repeated 6 = .ok (.iload 9, 2) := by decide +kernel
theorem dX8_repeated_8 : decode cX8_repeated 8 = .ok (.iload 6, 2) := by decide +kernel
theorem dX8_repeated_10 : decode cX8_repeated 10 = .ok (.if_icmp .ge 34, 3) := by decide +kernel
theorem dX8_repeated_13 : decode cX8_repeated 13 = .ok (.lload 7, 2) := by decide +kernel
theorem dX8_repeated_15 : decode cX8_repeated 15 = .ok (.lstore 10, 2) := by decide +kernel
theorem dX8_repeated_17 : decode cX8_repeated 17 = .ok (.lload 10, 2) := by decide +kernel
theorem dX8_repeated_19 : decode cX8_repeated 19 = .ok (.lload_n 2, 1) := by decide +kernel
theorem dX8_repeated_20 : decode cX8_repeated 20 = .ok (.lload 4, 2) := by decide +kernel
theorem dX8_repeated_22 : decode cX8_repeated 22 = .ok (.invokestatic 420, 3) := by decide +kernel
theorem dX8_repeated_25 : decode cX8_repeated 25 = .ok (.lstore 7, 2) := by decide +kernel
theorem dX8_repeated_27 : decode cX8_repeated 27 = .ok (.lload 7, 2) := by decide +kernel
theorem dX8_repeated_29 : decode cX8_repeated 29 = .ok (.lload 10, 2) := by decide +kernel
theorem dX8_repeated_31 : decode cX8_repeated 31 = .ok (.lcmp, 1) := by decide +kernel
theorem dX8_repeated_32 : decode cX8_repeated 32 = .ok (.ifCond .ne 6, 3) := by decide +kernel
theorem dX8_repeated_35 : decode cX8_repeated 35 = .ok (.goto 9, 3) := by decide +kernel
theorem dX8_repeated_38 : decode cX8_repeated 38 = .ok (.iinc 9 1, 3) := by decide +kernel
theorem dX8_repeated_41 : decode cX8_repeated 41 = .ok (.goto (-35), 3) := by decide +kernel
theorem dX8_repeated_44 : decode cX8_repeated 44 = .ok (.lload 7, 2) := by decide +kernel
theorem dX8_repeated_46 : decode cX8_repeated 46 = .ok (.lreturn, 1) := by decide +kernel
theorem dX8_drawsDown_0 : decode cX8_drawsDown 0 = .ok (.lload_n 0, 1) := by decide +kernel
theorem dX8_drawsDown_1 : decode cX8_drawsDown 1 = .ok (.lload 6, 2) := by decide +kernel
theorem dX8_drawsDown_3 : decode cX8_drawsDown 3 = .ok (.lcmp, 1) := by decide +kernel
theorem dX8_drawsDown_4 : decode cX8_drawsDown 4 = .ok (.ifCond .gt 5, 3) := by decide +kernel
theorem dX8_drawsDown_7 : decode cX8_drawsDown 7 = .ok (.iconst 0, 1) := by decide +kernel
theorem dX8_drawsDown_8 : decode cX8_drawsDown 8 = .ok (.ireturn, 1) := by decide +kernel
theorem dX8_drawsDown_9 : decode cX8_drawsDown 9 = .ok (.lload 4, 2) := by decide +kernel
theorem dX8_drawsDown_11 : decode cX8_drawsDown 11 = .ok (.lconst 0, 1) := by decide +kernel
theorem dX8_drawsDown_12 : decode cX8_drawsDown 12 = .ok (.lcmp, 1) := by decide +kernel
theorem dX8_drawsDown_13 : decode cX8_drawsDown 13 = .ok (.ifCond .le 24, 3) := by decide +kernel
theorem dX8_drawsDown_16 : decode cX8_drawsDown 16 = .ok (.lload_n 2, 1) := by decide +kernel
theorem dX8_drawsDown_17 : decode cX8_drawsDown 17 = .ok (.lload 4, 2) := by decide +kernel
theorem dX8_drawsDown_19 : decode cX8_drawsDown 19 = .ok (.lcmp, 1) := by decide +kernel
theorem dX8_drawsDown_20 : decode cX8_drawsDown 20 = .ok (.ifCond .ge 17, 3) := by decide +kernel
theorem dX8_drawsDown_23 : decode cX8_drawsDown 23 = .ok (.lload_n 0, 1) := by decide +kernel
theorem dX8_drawsDown_24 : decode cX8_drawsDown 24 = .ok (.lload_n 2, 1) := by decide +kernel
theorem dX8_drawsDown_25 : decode cX8_drawsDown 25 = .ok (.lload 4, 2) := by decide +kernel
theorem dX8_drawsDown_27 : decode cX8_drawsDown 27 = .ok (.lload 6, 2) := by decide +kernel
theorem dX8_drawsDown_29 : decode cX8_drawsDown 29 = .ok (.iload 8, 2) := by decide +kernel
theorem dX8_drawsDown_31 : decode cX8_drawsDown 31 = .ok (.invokestatic 424, 3) := by decide +kernel
theorem dX8_drawsDown_34 : decode cX8_drawsDown 34 = .ok (.ifCond .eq 5, 3) := by decide +kernel
theorem dX8_drawsDown_37 : decode cX8_drawsDown 37 = .ok (.iconst (-1), 1) := by decide +kernel
theorem dX8_drawsDown_38 : decode cX8_drawsDown 38 = .ok (.ireturn, 1) := by decide +kernel
theorem dX8_drawsDown_39 : decode cX8_drawsDown 39 = .ok (.lload_n 0, 1) := by decide +kernel
theorem dX8_drawsDown_40 : decode cX8_drawsDown 40 = .ok (.lstore 9, 2) := by decide +kernel
theorem dX8_drawsDown_42 : decode cX8_drawsDown 42 = .ok (.iconst 1, 1) := by decide +kernel
theorem dX8_drawsDown_43 : decode cX8_drawsDown 43 = .ok (.istore 11, 2) := by decide +kernel
theorem dX8_drawsDown_45 : decode cX8_drawsDown 45 = .ok (.iload 11, 2) := by decide +kernel
theorem dX8_drawsDown_47 : decode cX8_drawsDown 47 = .ok (.iload 8, 2) := by decide +kernel
theorem dX8_drawsDown_49 : decode cX8_drawsDown 49 = .ok (.if_icmp .gt 30, 3) := by decide +kernel
theorem dX8_drawsDown_52 : decode cX8_drawsDown 52 = .ok (.lload 9, 2) := by decide +kernel
theorem dX8_drawsDown_54 : decode cX8_drawsDown 54 = .ok (.lload_n 2, 1) := by decide +kernel
theorem dX8_drawsDown_55 : decode cX8_drawsDown 55 = .ok (.lload 4, 2) := by decide +kernel
theorem dX8_drawsDown_57 : decode cX8_drawsDown 57 = .ok (.invokestatic 420, 3) := by decide +kernel
theorem dX8_drawsDown_60 : decode cX8_drawsDown 60 = .ok (.lstore 9, 2) := by decide +kernel
theorem dX8_drawsDown_62 : decode cX8_drawsDown 62 = .ok (.lload 9, 2) := by decide +kernel
theorem dX8_drawsDown_64 : decode cX8_drawsDown 64 = .ok (.lload 6, 2) := by decide +kernel
theorem dX8_drawsDown_66 : decode cX8_drawsDown 66 = .ok (.lcmp, 1) := by decide +kernel
theorem dX8_drawsDown_67 : decode cX8_drawsDown 67 = .ok (.ifCond .gt 6, 3) := by decide +kernel
theorem dX8_drawsDown_70 : decode cX8_drawsDown 70 = .ok (.iload 11, 2) := by decide +kernel
theorem dX8_drawsDown_72 : decode cX8_drawsDown 72 = .ok (.ireturn, 1) := by decide +kernel
theorem dX8_drawsDown_73 : decode cX8_drawsDown 73 = .ok (.iinc 11 1, 3) := by decide +kernel
theorem dX8_drawsDown_76 : decode cX8_drawsDown 76 = .ok (.goto (-31), 3) := by decide +kernel
theorem dX8_drawsDown_79 : decode cX8_drawsDown 79 = .ok (.iconst (-1), 1) := by decide +kernel
theorem dX8_drawsDown_80 : decode cX8_drawsDown 80 = .ok (.ireturn, 1) := by decide +kernel
theorem dX8_isOutOfReach_0 : decode cX8_isOutOfReach 0 = .ok (.lload_n 0, 1) := by decide +kernel
theorem dX8_isOutOfReach_1 : decode cX8_isOutOfReach 1 = .ok (.l2d, 1) := by decide +kernel
theorem dX8_isOutOfReach_2 : decode cX8_isOutOfReach 2 = .ok (.dstore 9, 2) := by decide +kernel
theorem dX8_isOutOfReach_4 : decode cX8_isOutOfReach 4 = .ok (.lload 4, 2) := by decide +kernel
theorem dX8_isOutOfReach_6 : decode cX8_isOutOfReach 6 = .ok (.lconst 0, 1) := by decide +kernel
theorem dX8_isOutOfReach_7 : decode cX8_isOutOfReach 7 = .ok (.lcmp, 1) := by decide +kernel
theorem dX8_isOutOfReach_8 : decode cX8_isOutOfReach 8 = .ok (.ifCond .gt 7, 3) := by decide +kernel
theorem dX8_isOutOfReach_11 : decode cX8_isOutOfReach 11 = .ok (.dconst 1, 1) := by decide +kernel
theorem dX8_isOutOfReach_12 : decode cX8_isOutOfReach 12 = .ok (.goto 9, 3) := by decide +kernel
theorem dX8_isOutOfReach_15 : decode cX8_isOutOfReach 15 = .ok (.lload_n 2, 1) := by decide +kernel
theorem dX8_isOutOfReach_16 : decode cX8_isOutOfReach 16 = .ok (.l2d, 1) := by decide +kernel
theorem dX8_isOutOfReach_17 : decode cX8_isOutOfReach 17 = .ok (.lload 4, 2) := by decide +kernel
theorem dX8_isOutOfReach_19 : decode cX8_isOutOfReach 19 = .ok (.l2d, 1) := by decide +kernel
theorem dX8_isOutOfReach_20 : decode cX8_isOutOfReach 20 = .ok (.ddiv, 1) := by decide +kernel
theorem dX8_isOutOfReach_21 : decode cX8_isOutOfReach 21 = .ok (.dstore 11, 2) := by decide +kernel
theorem dX8_isOutOfReach_23 : decode cX8_isOutOfReach 23 = .ok (.iload 8, 2) := by decide +kernel
theorem dX8_isOutOfReach_25 : decode cX8_isOutOfReach 25 = .ok (.istore 13, 2) := by decide +kernel
theorem dX8_isOutOfReach_27 : decode cX8_isOutOfReach 27 = .ok (.iload 13, 2) := by decide +kernel
theorem dX8_isOutOfReach_29 : decode cX8_isOutOfReach 29 = .ok (.ifCond .le 33, 3) := by decide +kernel
theorem dX8_isOutOfReach_32 : decode cX8_isOutOfReach 32 = .ok (.iload 13, 2) := by decide +kernel
theorem dX8_isOutOfReach_34 : decode cX8_isOutOfReach 34 = .ok (.iconst 1, 1) := by decide +kernel
theorem dX8_isOutOfReach_35 : decode cX8_isOutOfReach 35 = .ok (.iand, 1) := by decide +kernel
theorem dX8_isOutOfReach_36 : decode cX8_isOutOfReach 36 = .ok (.ifCond .eq 10, 3) := by decide +kernel
theorem dX8_isOutOfReach_39 : decode cX8_isOutOfReach 39 = .ok (.dload 9, 2) := by decide +kernel
theorem dX8_isOutOfReach_41 : decode cX8_isOutOfReach 41 = .ok (.dload 11, 2) := by decide +kernel
theorem dX8_isOutOfReach_43 : decode cX8_isOutOfReach 43 = .ok (.dmul, 1) := by decide +kernel
theorem dX8_isOutOfReach_44 : decode cX8_isOutOfReach 44 = .ok (.dstore 9, 2) := by decide +kernel
theorem dX8_isOutOfReach_46 : decode cX8_isOutOfReach 46 = .ok (.dload 11, 2) := by decide +kernel
theorem dX8_isOutOfReach_48 : decode cX8_isOutOfReach 48 = .ok (.dload 11, 2) := by decide +kernel
theorem dX8_isOutOfReach_50 : decode cX8_isOutOfReach 50 = .ok (.dmul, 1) := by decide +kernel
theorem dX8_isOutOfReach_51 : decode cX8_isOutOfReach 51 = .ok (.dstore 11, 2) := by decide +kernel
theorem dX8_isOutOfReach_53 : decode cX8_isOutOfReach 53 = .ok (.iload 13, 2) := by decide +kernel
theorem dX8_isOutOfReach_55 : decode cX8_isOutOfReach 55 = .ok (.iconst 1, 1) := by decide +kernel
theorem dX8_isOutOfReach_56 : decode cX8_isOutOfReach 56 = .ok (.ishr, 1) := by decide +kernel
theorem dX8_isOutOfReach_57 : decode cX8_isOutOfReach 57 = .ok (.istore 13, 2) := by decide +kernel
theorem dX8_isOutOfReach_59 : decode cX8_isOutOfReach 59 = .ok (.goto (-32), 3) := by decide +kernel
theorem dX8_isOutOfReach_62 : decode cX8_isOutOfReach 62 = .ok (.dload 9, 2) := by decide +kernel
theorem dX8_isOutOfReach_64 : decode cX8_isOutOfReach 64 = .ok (.lload 6, 2) := by decide +kernel
theorem dX8_isOutOfReach_66 : decode cX8_isOutOfReach 66 = .ok (.l2d, 1) := by decide +kernel
theorem dX8_isOutOfReach_67 : decode cX8_isOutOfReach 67 = .ok (.ldc2_w 428, 3) := by decide +kernel
theorem dX8_isOutOfReach_70 : decode cX8_isOutOfReach 70 = .ok (.dmul, 1) := by decide +kernel
theorem dX8_isOutOfReach_71 : decode cX8_isOutOfReach 71 = .ok (.dcmp .l, 1) := by decide +kernel
theorem dX8_isOutOfReach_72 : decode cX8_isOutOfReach 72 = .ok (.ifCond .le 7, 3) := by decide +kernel
theorem dX8_isOutOfReach_75 : decode cX8_isOutOfReach 75 = .ok (.iconst 1, 1) := by decide +kernel
theorem dX8_isOutOfReach_76 : decode cX8_isOutOfReach 76 = .ok (.goto 4, 3) := by decide +kernel
theorem dX8_isOutOfReach_79 : decode cX8_isOutOfReach 79 = .ok (.iconst 0, 1) := by decide +kernel
theorem dX8_isOutOfReach_80 : decode cX8_isOutOfReach 80 = .ok (.ireturn, 1) := by decide +kernel
theorem dX9_init_0 : decode cX9_init 0 = .ok (.aload_n 0, 1) := by decide +kernel
theorem dX9_init_1 : decode cX9_init 1 = .ok (.invokespecial 1, 3) := by decide +kernel
theorem dX9_init_4 : decode cX9_init 4 = .ok (.aload_n 0, 1) := by decide +kernel
theorem dX9_init_5 : decode cX9_init 5 = .ok (.sipush 1514, 3) := by decide +kernel
theorem dX9_init_8 : decode cX9_init 8 = .ok (.newarray .int, 2) := by decide +kernel
theorem dX9_init_10 : decode cX9_init 10 = .ok (.putfield 9, 3) := by decide +kernel
theorem dX9_init_13 : decode cX9_init 13 = .ok (.aload_n 0, 1) := by decide +kernel
theorem dX9_init_14 : decode cX9_init 14 = .ok (.sipush 1514, 3) := by decide +kernel
theorem dX9_init_17 : decode cX9_init 17 = .ok (.newarray .int, 2) := by decide +kernel
theorem dX9_init_19 : decode cX9_init 19 = .ok (.putfield 13, 3) := by decide +kernel
theorem dX9_init_22 : decode cX9_init 22 = .ok (.aload_n 0, 1) := by decide +kernel
theorem dX9_init_23 : decode cX9_init 23 = .ok (.sipush 1514, 3) := by decide +kernel
theorem dX9_init_26 : decode cX9_init 26 = .ok (.newarray .int, 2) := by decide +kernel
theorem dX9_init_28 : decode cX9_init 28 = .ok (.putfield 16, 3) := by decide +kernel
theorem dX9_init_31 : decode cX9_init 31 = .ok (.aload_n 0, 1) := by decide +kernel
theorem dX9_init_32 : decode cX9_init 32 = .ok (.sipush 1514, 3) := by decide +kernel
theorem dX9_init_35 : decode cX9_init 35 = .ok (.newarray .int, 2) := by decide +kernel
theorem dX9_init_37 : decode cX9_init 37 = .ok (.putfield 19, 3) := by decide +kernel
theorem dX9_init_40 : decode cX9_init 40 = .ok (.aload_n 0, 1) := by decide +kernel
theorem dX9_init_41 : decode cX9_init 41 = .ok (.sipush 18168, 3) := by decide +kernel
theorem dX9_init_44 : decode cX9_init 44 = .ok (.newarray .int, 2) := by decide +kernel
theorem dX9_init_46 : decode cX9_init 46 = .ok (.putfield 22, 3) := by decide +kernel
theorem dX9_init_49 : decode cX9_init 49 = .ok (.aload_n 0, 1) := by decide +kernel
theorem dX9_init_50 : decode cX9_init 50 = .ok (.bipush 12, 2) := by decide +kernel
theorem dX9_init_52 : decode cX9_init 52 = .ok (.newarray .int, 2) := by decide +kernel
theorem dX9_init_54 : decode cX9_init 54 = .ok (.putfield 25, 3) := by decide +kernel
theorem dX9_init_57 : decode cX9_init 57 = .ok (.aload_n 0, 1) := by decide +kernel
theorem dX9_init_58 : decode cX9_init 58 = .ok (.bipush 12, 2) := by decide +kernel
theorem dX9_init_60 : decode cX9_init 60 = .ok (.newarray .int, 2) := by decide +kernel
theorem dX9_init_62 : decode cX9_init 62 = .ok (.putfield 28, 3) := by decide +kernel
theorem dX9_init_65 : decode cX9_init 65 = .ok (.aload_n 0, 1) := by decide +kernel
theorem dX9_init_66 : decode cX9_init 66 = .ok (.iconst 3, 1) := by decide +kernel
theorem dX9_init_67 : decode cX9_init 67 = .ok (.newarray .int, 2) := by decide +kernel
theorem dX9_init_69 : decode cX9_init 69 = .ok (.putfield 31, 3) := by decide +kernel
theorem dX9_init_72 : decode cX9_init 72 = .ok (.aload_n 0, 1) := by decide +kernel
theorem dX9_init_73 : decode cX9_init 73 = .ok (.iconst 3, 1) := by decide +kernel
theorem dX9_init_74 : decode cX9_init 74 = .ok (.newarray .int, 2) := by decide +kernel
theorem dX9_init_76 : decode cX9_init 76 = .ok (.putfield 34, 3) := by decide +kernel
theorem dX9_init_79 : decode cX9_init 79 = .ok (.aload_n 0, 1) := by decide +kernel
theorem dX9_init_80 : decode cX9_init 80 = .ok (.iconst 3, 1) := by decide +kernel
theorem dX9_init_81 : decode cX9_init 81 = .ok (.newarray .int, 2) := by decide +kernel
theorem dX9_init_83 : decode cX9_init 83 = .ok (.putfield 37, 3) := by decide +kernel
theorem dX9_init_86 : decode cX9_init 86 = .ok (.aload_n 0, 1) := by decide +kernel
theorem dX9_init_87 : decode cX9_init 87 = .ok (.sipush 600, 3) := by decide +kernel
theorem dX9_init_90 : decode cX9_init 90 = .ok (.newarray .int, 2) := by decide +kernel
theorem dX9_init_92 : decode cX9_init 92 = .ok (.putfield 40, 3) := by decide +kernel
theorem dX9_init_95 : decode cX9_init 95 = .ok (.aload_n 0, 1) := by decide +kernel
theorem dX9_init_96 : decode cX9_init 96 = .ok (.bipush 12, 2) := by decide +kernel
theorem dX9_init_98 : decode cX9_init 98 = .ok (.newarray .long, 2) := by decide +kernel
theorem dX9_init_100 : decode cX9_init 100 = .ok (.putfield 43, 3) := by decide +kernel
theorem dX9_init_103 : decode cX9_init 103 = .ok (.aload_n 0, 1) := by decide +kernel
theorem dX9_init_104 : decode cX9_init 104 = .ok (.iconst 3, 1) := by decide +kernel
theorem dX9_init_105 : decode cX9_init 105 = .ok (.newarray .int, 2) := by decide +kernel
theorem dX9_init_107 : decode cX9_init 107 = .ok (.putfield 47, 3) := by decide +kernel
theorem dX9_init_110 : decode cX9_init 110 = .ok (.aload_n 0, 1) := by decide +kernel
theorem dX9_init_111 : decode cX9_init 111 = .ok (.sipush 903, 3) := by decide +kernel
theorem dX9_init_114 : decode cX9_init 114 = .ok (.newarray .long, 2) := by decide +kernel
theorem dX9_init_116 : decode cX9_init 116 = .ok (.putfield 50, 3) := by decide +kernel
theorem dX9_init_119 : decode cX9_init 119 = .ok (.aload_n 0, 1) := by decide +kernel
theorem dX9_init_120 : decode cX9_init 120 = .ok (.sipush 200, 3) := by decide +kernel
theorem dX9_init_123 : decode cX9_init 123 = .ok (.newarray .int, 2) := by decide +kernel
theorem dX9_init_125 : decode cX9_init 125 = .ok (.putfield 53, 3) := by decide +kernel
theorem dX9_init_128 : decode cX9_init 128 = .ok (.aload_n 0, 1) := by decide +kernel
theorem dX9_init_129 : decode cX9_init 129 = .ok (.iconst 4, 1) := by decide +kernel
theorem dX9_init_130 : decode cX9_init 130 = .ok (.newarray .long, 2) := by decide +kernel
theorem dX9_init_132 : decode cX9_init 132 = .ok (.putfield 56, 3) := by decide +kernel
theorem dX9_init_135 : decode cX9_init 135 = .ok (.aload_n 0, 1) := by decide +kernel
theorem dX9_init_136 : decode cX9_init 136 = .ok (.bipush 100, 2) := by decide +kernel
theorem dX9_init_138 : decode cX9_init 138 = .ok (.newarray .int, 2) := by decide +kernel
theorem dX9_init_140 : decode cX9_init 140 = .ok (.putfield 59, 3) := by decide +kernel
theorem dX9_init_143 : decode cX9_init 143 = .ok (.aload_n 0, 1) := by decide +kernel
theorem dX9_init_144 : decode cX9_init 144 = .ok (.sipush 600, 3) := by decide +kernel
theorem dX9_init_147 : decode cX9_init 147 = .ok (.newarray .int, 2) := by decide +kernel
theorem dX9_init_149 : decode cX9_init 149 = .ok (.putfield 62, 3) := by decide +kernel
theorem dX9_init_152 : decode cX9_init 152 = .ok (.aload_n 0, 1) := by decide +kernel
theorem dX9_init_153 : decode cX9_init 153 = .ok (.iconst (-1), 1) := by decide +kernel
theorem dX9_init_154 : decode cX9_init 154 = .ok (.putfield 65, 3) := by decide +kernel
theorem dX9_init_157 : decode cX9_init 157 = .ok (.aload_n 0, 1) := by decide +kernel
theorem dX9_init_158 : decode cX9_init 158 = .ok (.getfield 9, 3) := by decide +kernel
theorem dX9_init_161 : decode cX9_init 161 = .ok (.invokestatic 69, 3) := by decide +kernel
theorem dX9_init_164 : decode cX9_init 164 = .ok (.return_, 1) := by decide +kernel
theorem dX9_bare_0 : decode cX9_bare 0 = .ok (.iconst 0, 1) := by decide +kernel
theorem dX9_bare_1 : decode cX9_bare 1 = .ok (.istore_n 1, 1) := by decide +kernel
theorem dX9_bare_2 : decode cX9_bare 2 = .ok (.iload_n 1, 1) := by decide +kernel
theorem dX9_bare_3 : decode cX9_bare 3 = .ok (.sipush 1514, 3) := by decide +kernel
theorem dX9_bare_6 : decode cX9_bare 6 = .ok (.if_icmp .ge 13, 3) := by decide +kernel
theorem dX9_bare_9 : decode cX9_bare 9 = .ok (.aload_n 0, 1) := by decide +kernel
theorem dX9_bare_10 : decode cX9_bare 10 = .ok (.iload_n 1, 1) := by decide +kernel
theorem dX9_bare_11 : decode cX9_bare 11 = .ok (.iconst 0, 1) := by decide +kernel
theorem dX9_bare_12 : decode cX9_bare 12 = .ok (.iastore, 1) := by decide +kernel
theorem dX9_bare_13 : decode cX9_bare 13 = .ok (.iinc 1 1, 3) := by decide +kernel
theorem dX9_bare_16 : decode cX9_bare 16 = .ok (.goto (-14), 3) := by decide +kernel
theorem dX9_bare_19 : decode cX9_bare 19 = .ok (.aload_n 0, 1) := by decide +kernel
theorem dX9_bare_20 : decode cX9_bare 20 = .ok (.iconst 2, 1) := by decide +kernel
theorem dX9_bare_21 : decode cX9_bare 21 = .ok (.bipush 50, 2) := by decide +kernel
theorem dX9_bare_23 : decode cX9_bare 23 = .ok (.iastore, 1) := by decide +kernel
theorem dX9_bare_24 : decode cX9_bare 24 = .ok (.aload_n 0, 1) := by decide +kernel
theorem dX9_bare_25 : decode cX9_bare 25 = .ok (.iconst 3, 1) := by decide +kernel
theorem dX9_bare_26 : decode cX9_bare 26 = .ok (.bipush 110, 2) := by decide +kernel
theorem dX9_bare_28 : decode cX9_bare 28 = .ok (.iastore, 1) := by decide +kernel
theorem dX9_bare_29 : decode cX9_bare 29 = .ok (.aload_n 0, 1) := by decide +kernel
theorem dX9_bare_30 : decode cX9_bare 30 = .ok (.iconst 4, 1) := by decide +kernel
theorem dX9_bare_31 : decode cX9_bare 31 = .ok (.bipush 100, 2) := by decide +kernel
theorem dX9_bare_33 : decode cX9_bare 33 = .ok (.iastore, 1) := by decide +kernel
theorem dX9_bare_34 : decode cX9_bare 34 = .ok (.return_, 1) := by decide +kernel
theorem dX9_thrown_0 : decode cX9_thrown 0 = .ok (.aload_n 0, 1) := by decide +kernel
theorem dX9_thrown_1 : decode cX9_thrown 1 = .ok (.getfield 73, 3) := by decide +kernel
theorem dX9_thrown_4 : decode cX9_thrown 4 = .ok (.ireturn, 1) := by decide +kernel
theorem dX9_fail_0 : decode cX9_fail 0 = .ok (.aload_n 0, 1) := by decide +kernel
theorem dX9_fail_1 : decode cX9_fail 1 = .ok (.iload_n 1, 1) := by decide +kernel
theorem dX9_fail_2 : decode cX9_fail 2 = .ok (.putfield 73, 3) := by decide +kernel
theorem dX9_fail_5 : decode cX9_fail 5 = .ok (.iconst 0, 1) := by decide +kernel
theorem dX9_fail_6 : decode cX9_fail 6 = .ok (.ireturn, 1) := by decide +kernel
theorem dX9_isIn_0 : decode cX9_isIn 0 = .ok (.iload_n 0, 1) := by decide +kernel
theorem dX9_isIn_1 : decode cX9_isIn 1 = .ok (.iload_n 1, 1) := by decide +kernel
theorem dX9_isIn_2 : decode cX9_isIn 2 = .ok (.if_icmp .lt 12, 3) := by decide +kernel
theorem dX9_isIn_5 : decode cX9_isIn 5 = .ok (.iload_n 0, 1) := by decide +kernel
theorem dX9_isIn_6 : decode cX9_isIn 6 = .ok (.iload_n 2, 1) := by decide +kernel
theorem dX9_isIn_7 : decode cX9_isIn 7 = .ok (.if_icmp .gt 7, 3) := by decide +kernel
theorem dX9_isIn_10 : decode cX9_isIn 10 = .ok (.iconst 1, 1) := by decide +kernel
theorem dX9_isIn_11 : decode cX9_isIn 11 = .ok (.goto 4, 3) := by decide +kernel
theorem dX9_isIn_14 : decode cX9_isIn 14 = .ok (.iconst 0, 1) := by decide +kernel
theorem dX9_isIn_15 : decode cX9_isIn 15 = .ok (.ireturn, 1) := by decide +kernel
theorem dX9_copy_0 : decode cX9_copy 0 = .ok (.iconst 0, 1) := by decide +kernel
theorem dX9_copy_1 : decode cX9_copy 1 = .ok (.istore_n 2, 1) := by decide +kernel
theorem dX9_copy_2 : decode cX9_copy 2 = .ok (.iload_n 2, 1) := by decide +kernel
theorem dX9_copy_3 : decode cX9_copy 3 = .ok (.sipush 1514, 3) := by decide +kernel
theorem dX9_copy_6 : decode cX9_copy 6 = .ok (.if_icmp .ge 15, 3) := by decide +kernel
theorem dX9_copy_9 : decode cX9_copy 9 = .ok (.aload_n 0, 1) := by decide +kernel
theorem dX9_copy_10 : decode cX9_copy 10 = .ok (.iload_n 2, 1) := by decide +kernel
theorem dX9_copy_11 : decode cX9_copy 11 = .ok (.aload_n 1, 1) := by decide +kernel
theorem dX9_copy_12 : decode cX9_copy 12 = .ok (.iload_n 2, 1) := by decide +kernel
theorem dX9_copy_13 : decode cX9_copy 13 = .ok (.iaload, 1) := by decide +kernel
theorem dX9_copy_14 : decode cX9_copy 14 = .ok (.iastore, 1) := by decide +kernel
theorem dX9_copy_15 : decode cX9_copy 15 = .ok (.iinc 2 1, 3) := by decide +kernel
theorem dX9_copy_18 : decode cX9_copy 18 = .ok (.goto (-16), 3) := by decide +kernel
theorem dX9_copy_21 : decode cX9_copy 21 = .ok (.return_, 1) := by decide +kernel
theorem dX9_races_0 : decode cX9_races 0 = .ok (.aload_n 0, 1) := by decide +kernel
theorem dX9_races_1 : decode cX9_races 1 = .ok (.getfield 9, 3) := by decide +kernel
theorem dX9_races_4 : decode cX9_races 4 = .ok (.iconst 0, 1) := by decide +kernel
theorem dX9_races_5 : decode cX9_races 5 = .ok (.iaload, 1) := by decide +kernel
theorem dX9_races_6 : decode cX9_races 6 = .ok (.ireturn, 1) := by decide +kernel
theorem dX9_ballots_0 : decode cX9_ballots 0 = .ok (.aload_n 0, 1) := by decide +kernel
theorem dX9_ballots_1 : decode cX9_ballots 1 = .ok (.getfield 9, 3) := by decide +kernel
theorem dX9_ballots_4 : decode cX9_ballots 4 = .ok (.iconst 1, 1) := by decide +kernel
theorem dX9_ballots_5 : decode cX9_ballots 5 = .ok (.iaload, 1) := by decide +kernel
theorem dX9_ballots_6 : decode cX9_ballots 6 = .ok (.ireturn, 1) := by decide +kernel
theorem dX9_candidates_0 : decode cX9_candidates 0 = .ok (.aload_n 0, 1) := by decide +kernel
theorem dX9_candidates_1 : decode cX9_candidates 1 = .ok (.getfield 9, 3) := by decide +kernel
theorem dX9_candidates_4 : decode cX9_candidates 4 = .ok (.bipush 8, 2) := by decide +kernel
theorem dX9_candidates_6 : decode cX9_candidates 6 = .ok (.iconst 2, 1) := by decide +kernel
theorem dX9_candidates_7 : decode cX9_candidates 7 = .ok (.iload_n 1, 1) := by decide +kernel
theorem dX9_candidates_8 : decode cX9_candidates 8 = .ok (.imul, 1) := by decide +kernel
theorem dX9_candidates_9 : decode cX9_candidates 9 = .ok (.iadd, 1) := by decide +kernel
theorem dX9_candidates_10 : decode cX9_candidates 10 = .ok (.iaload, 1) := by decide +kernel
theorem dX9_candidates_11 : decode cX9_candidates 11 = .ok (.ireturn, 1) := by decide +kernel
theorem dX9_wayOf_0 : decode cX9_wayOf 0 = .ok (.aload_n 0, 1) := by decide +kernel
theorem dX9_wayOf_1 : decode cX9_wayOf 1 = .ok (.getfield 9, 3) := by decide +kernel
theorem dX9_wayOf_4 : decode cX9_wayOf 4 = .ok (.bipush 8, 2) := by decide +kernel
theorem dX9_wayOf_6 : decode cX9_wayOf 6 = .ok (.iconst 2, 1) := by decide +kernel
theorem dX9_wayOf_7 : decode cX9_wayOf 7 = .ok (.iload_n 1, 1) := by decide +kernel
theorem dX9_wayOf_8 : decode cX9_wayOf 8 = .ok (.imul, 1) := by decide +kernel
theorem dX9_wayOf_9 : decode cX9_wayOf 9 = .ok (.iadd, 1) := by decide +kernel
theorem dX9_wayOf_10 : decode cX9_wayOf 10 = .ok (.iconst 1, 1) := by decide +kernel
theorem dX9_wayOf_11 : decode cX9_wayOf 11 = .ok (.iadd, 1) := by decide +kernel
theorem dX9_wayOf_12 : decode cX9_wayOf 12 = .ok (.iaload, 1) := by decide +kernel
theorem dX9_wayOf_13 : decode cX9_wayOf 13 = .ok (.ireturn, 1) := by decide +kernel
theorem dX9_isRace_0 : decode cX9_isRace 0 = .ok (.iload_n 1, 1) := by decide +kernel
theorem dX9_isRace_1 : decode cX9_isRace 1 = .ok (.iconst 0, 1) := by decide +kernel
theorem dX9_isRace_2 : decode cX9_isRace 2 = .ok (.aload_n 0, 1) := by decide +kernel
theorem dX9_isRace_3 : decode cX9_isRace 3 = .ok (.invokevirtual 76, 3) := by decide +kernel
theorem dX9_isRace_6 : decode cX9_isRace 6 = .ok (.iconst 1, 1) := by decide +kernel
theorem dX9_isRace_7 : decode cX9_isRace 7 = .ok (.isub, 1) := by decide +kernel
theorem dX9_isRace_8 : decode cX9_isRace 8 = .ok (.invokestatic 80, 3) := by decide +kernel
theorem dX9_isRace_11 : decode cX9_isRace 11 = .ok (.ireturn, 1) := by decide +kernel
theorem dX9_isBallot_0 : decode cX9_isBallot 0 = .ok (.iload_n 1, 1) := by decide +kernel
theorem dX9_isBallot_1 : decode cX9_isBallot 1 = .ok (.iconst 0, 1) := by decide +kernel
theorem dX9_isBallot_2 : decode cX9_isBallot 2 = .ok (.aload_n 0, 1) := by decide +kernel
theorem dX9_isBallot_3 : decode cX9_isBallot 3 = .ok (.invokevirtual 84, 3) := by decide +kernel
theorem dX9_isBallot_6 : decode cX9_isBallot 6 = .ok (.iconst 1, 1) := by decide +kernel
theorem dX9_isBallot_7 : decode cX9_isBallot 7 = .ok (.isub, 1) := by decide +kernel
theorem dX9_isBallot_8 : decode cX9_isBallot 8 = .ok (.invokestatic 80, 3) := by decide +kernel
theorem dX9_isBallot_11 : decode cX9_isBallot 11 = .ok (.ireturn, 1) := by decide +kernel
theorem dX9_isCandidate_0 : decode cX9_isCandidate 0 = .ok (.iload_n 2, 1) := by decide +kernel
theorem dX9_isCandidate_1 : decode cX9_isCandidate 1 = .ok (.iconst 0, 1) := by decide +kernel
theorem dX9_isCandidate_2 : decode cX9_isCandidate 2 = .ok (.aload_n 0, 1) := by decide +kernel
theorem dX9_isCandidate_3 : decode cX9_isCandidate 3 = .ok (.iload_n 1, 1) := by decide +kernel
theorem dX9_isCandidate_4 : decode cX9_isCandidate 4 = .ok (.invokevirtual 87, 3) := by decide +kernel
theorem dX9_isCandidate_7 : decode cX9_isCandidate 7 = .ok (.iconst 1, 1) := by decide +kernel
theorem dX9_isCandidate_8 : decode cX9_isCandidate 8 = .ok (.isub, 1) := by decide +kernel
theorem dX9_isCandidate_9 : decode cX9_isCandidate 9 = .ok (.invokestatic 80, 3) := by decide +kernel
theorem dX9_isCandidate_12 : decode cX9_isCandidate 12 = .ok (.ireturn, 1) := by decide +kernel
theorem dX9_at_0 : decode cX9_at 0 = .ok (.iload_n 0, 1) := by decide +kernel
theorem dX9_at_1 : decode cX9_at 1 = .ok (.iconst 3, 1) := by decide +kernel
theorem dX9_at_2 : decode cX9_at 2 = .ok (.iload_n 1, 1) := by decide +kernel
theorem dX9_at_3 : decode cX9_at 3 = .ok (.imul, 1) := by decide +kernel
theorem dX9_at_4 : decode cX9_at 4 = .ok (.iadd, 1) := by decide +kernel
theorem dX9_at_5 : decode cX9_at 5 = .ok (.iload_n 2, 1) := by decide +kernel
theorem dX9_at_6 : decode cX9_at 6 = .ok (.iadd, 1) := by decide +kernel
theorem dX9_at_7 : decode cX9_at 7 = .ok (.ireturn, 1) := by decide +kernel
theorem dX9_recorded_0 : decode cX9_recorded 0 = .ok (.aload_n 0, 1) := by decide +kernel
theorem dX9_recorded_1 : decode cX9_recorded 1 = .ok (.getfield 9, 3) := by decide +kernel
theorem dX9_recorded_4 : decode cX9_recorded 4 = .ok (.bipush 14, 2) := by decide +kernel
theorem dX9_recorded_6 : decode cX9_recorded 6 = .ok (.iload_n 1, 1) := by decide +kernel
theorem dX9_recorded_7 : decode cX9_recorded 7 = .ok (.iload_n 2, 1) := by decide +kernel
theorem dX9_recorded_8 : decode cX9_recorded 8 = .ok (.invokestatic 91, 3) := by decide +kernel
theorem dX9_recorded_11 : decode cX9_recorded 11 = .ok (.iaload, 1) := by decide +kernel
theorem dX9_recorded_12 : decode cX9_recorded 12 = .ok (.ireturn, 1) := by decide +kernel
theorem dX9_shown_0 : decode cX9_shown 0 = .ok (.aload_n 0, 1) := by decide +kernel
theorem dX9_shown_1 : decode cX9_shown 1 = .ok (.getfield 9, 3) := by decide +kernel
theorem dX9_shown_4 : decode cX9_shown 4 = .ok (.sipush 614, 3) := by decide +kernel
theorem dX9_shown_7 : decode cX9_shown 7 = .ok (.iload_n 1, 1) := by decide +kernel
theorem dX9_shown_8 : decode cX9_shown 8 = .ok (.iload_n 2, 1) := by decide +kernel
theorem dX9_shown_9 : decode cX9_shown 9 = .ok (.invokestatic 91, 3) := by decide +kernel
theorem dX9_shown_12 : decode cX9_shown 12 = .ok (.iaload, 1) := by decide +kernel
theorem dX9_shown_13 : decode cX9_shown 13 = .ok (.ireturn, 1) := by decide +kernel
theorem dX9_counts_0 : decode cX9_counts 0 = .ok (.iload_n 2, 1) := by decide +kernel
theorem dX9_counts_1 : decode cX9_counts 1 = .ok (.ifCond .lt 14, 3) := by decide +kernel
theorem dX9_counts_4 : decode cX9_counts 4 = .ok (.aload_n 0, 1) := by decide +kernel
theorem dX9_counts_5 : decode cX9_counts 5 = .ok (.iconst 4, 1) := by decide +kernel
theorem dX9_counts_6 : decode cX9_counts 6 = .ok (.iload_n 1, 1) := by decide +kernel
theorem dX9_counts_7 : decode cX9_counts 7 = .ok (.imul, 1) := by decide +kernel
theorem dX9_counts_8 : decode cX9_counts 8 = .ok (.iload_n 2, 1) := by decide +kernel
theorem dX9_counts_9 : decode cX9_counts 9 = .ok (.iadd, 1) := by decide +kernel
theorem dX9_counts_10 : decode cX9_counts 10 = .ok (.dup2, 1) := by decide +kernel
theorem dX9_counts_11 : decode cX9_counts 11 = .ok (.iaload, 1) := by decide +kernel
theorem dX9_counts_12 : decode cX9_counts 12 = .ok (.iconst 1, 1) := by decide +kernel
theorem dX9_counts_13 : decode cX9_counts 13 = .ok (.iadd, 1) := by decide +kernel
theorem dX9_counts_14 : decode cX9_counts 14 = .ok (.iastore, 1) := by decide +kernel
theorem dX9_counts_15 : decode cX9_counts 15 = .ok (.return_, 1) := by decide +kernel
theorem dX9_layVotes_0 : decode cX9_layVotes 0 = .ok (.iconst 0, 1) := by decide +kernel
theorem dX9_layVotes_1 : decode cX9_layVotes 1 = .ok (.istore_n 1, 1) := by decide +kernel
theorem dX9_layVotes_2 : decode cX9_layVotes 2 = .ok (.iload_n 1, 1) := by decide +kernel
theorem dX9_layVotes_3 : decode cX9_layVotes 3 = .ok (.bipush 12, 2) := by decide +kernel
theorem dX9_layVotes_5 : decode cX9_layVotes 5 = .ok (.if_icmp .ge 23, 3) := by decide +kernel
theorem dX9_layVotes_8 : decode cX9_layVotes 8 = .ok (.aload_n 0, 1) := by decide +kernel
theorem dX9_layVotes_9 : decode cX9_layVotes 9 = .ok (.getfield 25, 3) := by decide +kernel
theorem dX9_layVotes_12 : decode cX9_layVotes 12 = .ok (.iload_n 1, 1) := by decide +kernel
theorem dX9_layVotes_13 : decode cX9_layVotes 13 = .ok (.iconst 0, 1) := by decide +kernel
theorem dX9_layVotes_14 : decode cX9_layVotes 14 = .ok (.iastore, 1) := by decide +kernel
theorem dX9_layVotes_15 : decode cX9_layVotes 15 = .ok (.aload_n 0, 1) := by decide +kernel
theorem dX9_layVotes_16 : decode cX9_layVotes 16 = .ok (.getfield 28, 3) := by decide +kernel
theorem dX9_layVotes_19 : decode cX9_layVotes 19 = .ok (.iload_n 1, 1) := by decide +kernel
theorem dX9_layVotes_20 : decode cX9_layVotes 20 = .ok (.iconst 0, 1) := by decide +kernel
theorem dX9_layVotes_21 : decode cX9_layVotes 21 = .ok (.iastore, 1) := by decide +kernel
theorem dX9_layVotes_22 : decode cX9_layVotes 22 = .ok (.iinc 1 1, 3) := by decide +kernel
theorem dX9_layVotes_25 : decode cX9_layVotes 25 = .ok (.goto (-23), 3) := by decide +kernel
theorem dX9_layVotes_28 : decode cX9_layVotes 28 = .ok (.iconst 0, 1) := by decide +kernel
theorem dX9_layVotes_29 : decode cX9_layVotes 29 = .ok (.istore_n 1, 1) := by decide +kernel
theorem dX9_layVotes_30 : decode cX9_layVotes 30 = .ok (.iload_n 1, 1) := by decide +kernel
theorem dX9_layVotes_31 : decode cX9_layVotes 31 = .ok (.aload_n 0, 1) := by decide +kernel
theorem dX9_layVotes_32 : decode cX9_layVotes 32 = .ok (.invokevirtual 84, 3) := by decide +kernel
theorem dX9_layVotes_35 : decode cX9_layVotes 35 = .ok (.if_icmp .ge 53, 3) := by decide +kernel
theorem dX9_layVotes_38 : decode cX9_layVotes 38 = .ok (.iconst 0, 1) := by decide +kernel
theorem dX9_layVotes_39 : decode cX9_layVotes 39 = .ok (.istore_n 2, 1) := by decide +kernel
theorem dX9_layVotes_40 : decode cX9_layVotes 40 = .ok (.iload_n 2, 1) := by decide +kernel
theorem dX9_layVotes_41 : decode cX9_layVotes 41 = .ok (.aload_n 0, 1) := by decide +kernel
theorem dX9_layVotes_42 : decode cX9_layVotes 42 = .ok (.invokevirtual 76, 3) := by decide +kernel
theorem dX9_layVotes_45 : decode cX9_layVotes 45 = .ok (.if_icmp .ge 37, 3) := by decide +kernel
theorem dX9_layVotes_48 : decode cX9_layVotes 48 = .ok (.aload_n 0, 1) := by decide +kernel
theorem dX9_layVotes_49 : decode cX9_layVotes 49 = .ok (.getfield 25, 3) := by decide +kernel
theorem dX9_layVotes_52 : decode cX9_layVotes 52 = .ok (.iload_n 2, 1) := by decide +kernel
theorem dX9_layVotes_53 : decode cX9_layVotes 53 = .ok (.aload_n 0, 1) := by decide +kernel
theorem dX9_layVotes_54 : decode cX9_layVotes 54 = .ok (.iload_n 1, 1) := by decide +kernel
theorem dX9_layVotes_55 : decode cX9_layVotes 55 = .ok (.iload_n 2, 1) := by decide +kernel
theorem dX9_layVotes_56 : decode cX9_layVotes 56 = .ok (.invokevirtual 95, 3) := by decide +kernel
theorem dX9_layVotes_59 : decode cX9_layVotes 59 = .ok (.invokestatic 99, 3) := by decide +kernel
theorem dX9_layVotes_62 : decode cX9_layVotes 62 = .ok (.aload_n 0, 1) := by decide +kernel
theorem dX9_layVotes_63 : decode cX9_layVotes 63 = .ok (.getfield 28, 3) := by decide +kernel
theorem dX9_layVotes_66 : decode cX9_layVotes 66 = .ok (.iload_n 2, 1) := by decide +kernel
theorem dX9_layVotes_67 : decode cX9_layVotes 67 = .ok (.aload_n 0, 1) := by decide +kernel
theorem dX9_layVotes_68 : decode cX9_layVotes 68 = .ok (.iload_n 1, 1) := by decide +kernel
theorem dX9_layVotes_69 : decode cX9_layVotes 69 = .ok (.iload_n 2, 1) := by decide +kernel
theorem dX9_layVotes_70 : decode cX9_layVotes 70 = .ok (.invokevirtual 103, 3) := by decide +kernel
theorem dX9_layVotes_73 : decode cX9_layVotes 73 = .ok (.invokestatic 99, 3) := by decide +kernel
theorem dX9_layVotes_76 : decode cX9_layVotes 76 = .ok (.iinc 2 1, 3) := by decide +kernel
theorem dX9_layVotes_79 : decode cX9_layVotes 79 = .ok (.goto (-39), 3) := by decide +kernel
theorem dX9_layVotes_82 : decode cX9_layVotes 82 = .ok (.iinc 1 1, 3) := by decide +kernel
theorem dX9_layVotes_85 : decode cX9_layVotes 85 = .ok (.goto (-55), 3) := by decide +kernel
theorem dX9_layVotes_88 : decode cX9_layVotes 88 = .ok (.return_, 1) := by decide +kernel
theorem dX9_firstBy_0 : decode cX9_firstBy 0 = .ok (.iconst 0, 1) := by decide +kernel
theorem dX9_firstBy_1 : decode cX9_firstBy 1 = .ok (.istore_n 3, 1) := by decide +kernel
theorem dX9_firstBy_2 : decode cX9_firstBy 2 = .ok (.iconst 1, 1) := by decide +kernel
theorem dX9_firstBy_3 : decode cX9_firstBy 3 = .ok (.istore 4, 2) := by decide +kernel
theorem dX9_firstBy_5 : decode cX9_firstBy 5 = .ok (.iload 4, 2) := by decide +kernel
theorem dX9_firstBy_7 : decode cX9_firstBy 7 = .ok (.aload_n 0, 1) := by decide +kernel
theorem dX9_firstBy_8 : decode cX9_firstBy 8 = .ok (.iload_n 1, 1) := by decide +kernel
theorem dX9_firstBy_9 : decode cX9_firstBy 9 = .ok (.invokevirtual 87, 3) := by decide +kernel
theorem dX9_firstBy_12 : decode cX9_firstBy 12 = .ok (.if_icmp .ge 30, 3) := by decide +kernel
theorem dX9_firstBy_15 : decode cX9_firstBy 15 = .ok (.aload_n 2, 1) := by decide +kernel
theorem dX9_firstBy_16 : decode cX9_firstBy 16 = .ok (.iconst 4, 1) := by decide +kernel
theorem dX9_firstBy_17 : decode cX9_firstBy 17 = .ok (.iload_n 1, 1) := by decide +kernel
theorem dX9_firstBy_18 : decode cX9_firstBy 18 = .ok (.imul, 1) := by decide +kernel
theorem dX9_firstBy_19 : decode cX9_firstBy 19 = .ok (.iload 4, 2) := by decide +kernel
theorem dX9_firstBy_21 : decode cX9_firstBy 21 = .ok (.iadd, 1) := by decide +kernel
theorem dX9_firstBy_22 : decode cX9_firstBy 22 = .ok (.iaload, 1) := by decide +kernel
theorem dX9_firstBy_23 : decode cX9_firstBy 23 = .ok (.aload_n 2, 1) := by decide +kernel
theorem dX9_firstBy_24 : decode cX9_firstBy 24 = .ok (.iconst 4, 1) := by decide +kernel
theorem dX9_firstBy_25 : decode cX9_firstBy 25 = .ok (.iload_n 1, 1) := by decide +kernel
theorem dX9_firstBy_26 : decode cX9_firstBy 26 = .ok (.imul, 1) := by decide +kernel
theorem dX9_firstBy_27 : decode cX9_firstBy 27 = .ok (.iload_n 3, 1) := by decide +kernel
theorem dX9_firstBy_28 : decode cX9_firstBy 28 = .ok (.iadd, 1) := by decide +kernel
theorem dX9_firstBy_29 : decode cX9_firstBy 29 = .ok (.iaload, 1) := by decide +kernel
theorem dX9_firstBy_30 : decode cX9_firstBy 30 = .ok (.if_icmp .le 6, 3) := by decide +kernel
theorem dX9_firstBy_33 : decode cX9_firstBy 33 = .ok (.iload 4, 2) := by decide +kernel
theorem dX9_firstBy_35 : decode cX9_firstBy 35 = .ok (.istore_n 3, 1) := by decide +kernel
theorem dX9_firstBy_36 : decode cX9_firstBy 36 = .ok (.iinc 4 1, 3) := by decide +kernel
theorem dX9_firstBy_39 : decode cX9_firstBy 39 = .ok (.goto (-34), 3) := by decide +kernel
theorem dX9_firstBy_42 : decode cX9_firstBy 42 = .ok (.iload_n 3, 1) := by decide +kernel
theorem dX9_firstBy_43 : decode cX9_firstBy 43 = .ok (.ireturn, 1) := by decide +kernel
theorem dX9_second_0 : decode cX9_second 0 = .ok (.iconst (-1), 1) := by decide +kernel
theorem dX9_second_1 : decode cX9_second 1 = .ok (.istore_n 2, 1) := by decide +kernel
theorem dX9_second_2 : decode cX9_second 2 = .ok (.iconst 0, 1) := by decide +kernel
theorem dX9_second_3 : decode cX9_second 3 = .ok (.istore_n 3, 1) := by decide +kernel
theorem dX9_second_4 : decode cX9_second 4 = .ok (.iload_n 3, 1) := by decide +kernel
theorem dX9_second_5 : decode cX9_second 5 = .ok (.aload_n 0, 1) := by decide +kernel
theorem dX9_second_6 : decode cX9_second 6 = .ok (.iload_n 1, 1) := by decide +kernel
theorem dX9_second_7 : decode cX9_second 7 = .ok (.invokevirtual 87, 3) := by decide +kernel
theorem dX9_second_10 : decode cX9_second 10 = .ok (.if_icmp .ge 52, 3) := by decide +kernel
theorem dX9_second_13 : decode cX9_second 13 = .ok (.iload_n 3, 1) := by decide +kernel
theorem dX9_second_14 : decode cX9_second 14 = .ok (.aload_n 0, 1) := by decide +kernel
theorem dX9_second_15 : decode cX9_second 15 = .ok (.getfield 31, 3) := by decide +kernel
theorem dX9_second_18 : decode cX9_second 18 = .ok (.iload_n 1, 1) := by decide +kernel
theorem dX9_second_19 : decode cX9_second 19 = .ok (.iaload, 1) := by decide +kernel
theorem dX9_second_20 : decode cX9_second 20 = .ok (.if_icmp .ne 6, 3) := by decide +kernel
theorem dX9_second_23 : decode cX9_second 23 = .ok (.goto 33, 3) := by decide +kernel
theorem dX9_second_26 : decode cX9_second 26 = .ok (.iload_n 2, 1) := by decide +kernel
theorem dX9_second_27 : decode cX9_second 27 = .ok (.iconst (-1), 1) := by decide +kernel
theorem dX9_second_28 : decode cX9_second 28 = .ok (.if_icmp .eq 26, 3) := by decide +kernel
theorem dX9_second_31 : decode cX9_second 31 = .ok (.aload_n 0, 1) := by decide +kernel
theorem dX9_second_32 : decode cX9_second 32 = .ok (.getfield 25, 3) := by decide +kernel
theorem dX9_second_35 : decode cX9_second 35 = .ok (.iconst 4, 1) := by decide +kernel
theorem dX9_second_36 : decode cX9_second 36 = .ok (.iload_n 1, 1) := by decide +kernel
theorem dX9_second_37 : decode cX9_second 37 = .ok (.imul, 1) := by decide +kernel
theorem dX9_second_38 : decode cX9_second 38 = .ok (.iload_n 3, 1) := by decide +kernel
theorem dX9_second_39 : decode cX9_second 39 = .ok (.iadd, 1) := by decide +kernel
theorem dX9_second_40 : decode cX9_second 40 = .ok (.iaload, 1) := by decide +kernel
theorem dX9_second_41 : decode cX9_second 41 = .ok (.aload_n 0, 1) := by decide +kernel
theorem dX9_second_42 : decode cX9_second 42 = .ok (.getfield 25, 3) := by decide +kernel
theorem dX9_second_45 : decode cX9_second 45 = .ok (.iconst 4, 1) := by decide +kernel
theorem dX9_second_46 : decode cX9_second 46 = .ok (.iload_n 1, 1) := by decide +kernel
theorem dX9_second_47 : decode cX9_second 47 = .ok (.imul, 1) := by decide +kernel
theorem dX9_second_48 : decode cX9_second 48 = .ok (.iload_n 2, 1) := by decide +kernel
theorem dX9_second_49 : decode cX9_second 49 = .ok (.iadd, 1) := by decide +kernel
theorem dX9_second_50 : decode cX9_second 50 = .ok (.iaload, 1) := by decide +kernel
theorem dX9_second_51 : decode cX9_second 51 = .ok (.if_icmp .le 5, 3) := by decide +kernel
theorem dX9_second_54 : decode cX9_second 54 = .ok (.iload_n 3, 1) := by decide +kernel
theorem dX9_second_55 : decode cX9_second 55 = .ok (.istore_n 2, 1) := by decide +kernel
theorem dX9_second_56 : decode cX9_second 56 = .ok (.iinc 3 1, 3) := by decide +kernel
theorem dX9_second_59 : decode cX9_second 59 = .ok (.goto (-55), 3) := by decide +kernel
theorem dX9_second_62 : decode cX9_second 62 = .ok (.iload_n 2, 1) := by decide +kernel
theorem dX9_second_63 : decode cX9_second 63 = .ok (.ireturn, 1) := by decide +kernel
theorem dX9_signOf_0 : decode cX9_signOf 0 = .ok (.iload_n 0, 1) := by decide +kernel
theorem dX9_signOf_1 : decode cX9_signOf 1 = .ok (.iload_n 1, 1) := by decide +kernel
theorem dX9_signOf_2 : decode cX9_signOf 2 = .ok (.if_icmp .ne 5, 3) := by decide +kernel
theorem dX9_signOf_5 : decode cX9_signOf 5 = .ok (.iconst 1, 1) := by decide +kernel
theorem dX9_signOf_6 : decode cX9_signOf 6 = .ok (.ireturn, 1) := by decide +kernel
theorem dX9_signOf_7 : decode cX9_signOf 7 = .ok (.iload_n 0, 1) := by decide +kernel
theorem dX9_signOf_8 : decode cX9_signOf 8 = .ok (.iload_n 2, 1) := by decide +kernel
theorem dX9_signOf_9 : decode cX9_signOf 9 = .ok (.if_icmp .ne 7, 3) := by decide +kernel
theorem dX9_signOf_12 : decode cX9_signOf 12 = .ok (.iconst (-1), 1) := by decide +kernel
theorem dX9_signOf_13 : decode cX9_signOf 13 = .ok (.goto 4, 3) := by decide +kernel
theorem dX9_signOf_16 : decode cX9_signOf 16 = .ok (.iconst 0, 1) := by decide +kernel
theorem dX9_signOf_17 : decode cX9_signOf 17 = .ok (.ireturn, 1) := by decide +kernel
theorem dX9_mistakeOf_0 : decode cX9_mistakeOf 0 = .ok (.bipush (-2), 2) := by decide +kernel
theorem dX9_mistakeOf_2 : decode cX9_mistakeOf 2 = .ok (.istore 4, 2) := by decide +kernel
theorem dX9_mistakeOf_4 : decode cX9_mistakeOf 4 = .ok (.iconst 0, 1) := by decide +kernel
theorem dX9_mistakeOf_5 : decode cX9_mistakeOf 5 = .ok (.istore 5, 2) := by decide +kernel
theorem dX9_mistakeOf_7 : decode cX9_mistakeOf 7 = .ok (.iload 5, 2) := by decide +kernel
theorem dX9_mistakeOf_9 : decode cX9_mistakeOf 9 = .ok (.aload_n 0, 1) := by decide +kernel
theorem dX9_mistakeOf_10 : decode cX9_mistakeOf 10 = .ok (.iload_n 2, 1) := by decide +kernel
theorem dX9_mistakeOf_11 : decode cX9_mistakeOf 11 = .ok (.invokevirtual 87, 3) := by decide +kernel
theorem dX9_mistakeOf_14 : decode cX9_mistakeOf 14 = .ok (.if_icmp .ge 58, 3) := by decide +kernel
theorem dX9_mistakeOf_17 : decode cX9_mistakeOf 17 = .ok (.iload 5, 2) := by decide +kernel
theorem dX9_mistakeOf_19 : decode cX9_mistakeOf 19 = .ok (.iload_n 3, 1) := by decide +kernel
theorem dX9_mistakeOf_20 : decode cX9_mistakeOf 20 = .ok (.if_icmp .ne 6, 3) := by decide +kernel
theorem dX9_mistakeOf_23 : decode cX9_mistakeOf 23 = .ok (.goto 43, 3) := by decide +kernel
theorem dX9_mistakeOf_26 : decode cX9_mistakeOf 26 = .ok (.aload_n 0, 1) := by decide +kernel
theorem dX9_mistakeOf_27 : decode cX9_mistakeOf 27 = .ok (.iload_n 1, 1) := by decide +kernel
theorem dX9_mistakeOf_28 : decode cX9_mistakeOf 28 = .ok (.iload_n 2, 1) := by decide +kernel
theorem dX9_mistakeOf_29 : decode cX9_mistakeOf 29 = .ok (.invokevirtual 95, 3) := by decide +kernel
theorem dX9_mistakeOf_32 : decode cX9_mistakeOf 32 = .ok (.iload_n 3, 1) := by decide +kernel
theorem dX9_mistakeOf_33 : decode cX9_mistakeOf 33 = .ok (.iload 5, 2) := by decide +kernel
theorem dX9_mistakeOf_35 : decode cX9_mistakeOf 35 = .ok (.invokestatic 106, 3) := by decide +kernel
theorem dX9_mistakeOf_38 : decode cX9_mistakeOf 38 = .ok (.istore 6, 2) := by decide +kernel
theorem dX9_mistakeOf_40 : decode cX9_mistakeOf 40 = .ok (.aload_n 0, 1) := by decide +kernel
theorem dX9_mistakeOf_41 : decode cX9_mistakeOf 41 = .ok (.iload_n 1, 1) := by decide +kernel
theorem dX9_mistakeOf_42 : decode cX9_mistakeOf 42 = .ok (.iload_n 2, 1) := by decide +kernel
theorem dX9_mistakeOf_43 : decode cX9_mistakeOf 43 = .ok (.invokevirtual 103, 3) := by decide +kernel
theorem dX9_mistakeOf_46 : decode cX9_mistakeOf 46 = .ok (.iload_n 3, 1) := by decide +kernel
theorem dX9_mistakeOf_47 : decode cX9_mistakeOf 47 = .ok (.iload 5, 2) := by decide +kernel
theorem dX9_mistakeOf_49 : decode cX9_mistakeOf 49 = .ok (.invokestatic 106, 3) := by decide +kernel
theorem dX9_mistakeOf_52 : decode cX9_mistakeOf 52 = .ok (.istore 7, 2) := by decide +kernel
theorem dX9_mistakeOf_54 : decode cX9_mistakeOf 54 = .ok (.iload 4, 2) := by decide +kernel
theorem dX9_mistakeOf_56 : decode cX9_mistakeOf 56 = .ok (.iload 6, 2) := by decide +kernel
theorem dX9_mistakeOf_58 : decode cX9_mistakeOf 58 = .ok (.iload 7, 2) := by decide +kernel
theorem dX9_mistakeOf_60 : decode cX9_mistakeOf 60 = .ok (.isub, 1) := by decide +kernel
theorem dX9_mistakeOf_61 : decode cX9_mistakeOf 61 = .ok (.invokestatic 109, 3) := by decide +kernel
theorem dX9_mistakeOf_64 : decode cX9_mistakeOf 64 = .ok (.istore 4, 2) := by decide +kernel
theorem dX9_mistakeOf_66 : decode cX9_mistakeOf 66 = .ok (.iinc 5 1, 3) := by decide +kernel
theorem dX9_mistakeOf_69 : decode cX9_mistakeOf 69 = .ok (.goto (-62), 3) := by decide +kernel
theorem dX9_mistakeOf_72 : decode cX9_mistakeOf 72 = .ok (.iload 4, 2) := by decide +kernel
theorem dX9_mistakeOf_74 : decode cX9_mistakeOf 74 = .ok (.ireturn, 1) := by decide +kernel
theorem dX9_layRaces_0 : decode cX9_layRaces 0 = .ok (.aload_n 0, 1) := by decide +kernel
theorem dX9_layRaces_1 : decode cX9_layRaces 1 = .ok (.invokevirtual 114, 3) := by decide +kernel
theorem dX9_layRaces_4 : decode cX9_layRaces 4 = .ok (.iconst 0, 1) := by decide +kernel
theorem dX9_layRaces_5 : decode cX9_layRaces 5 = .ok (.istore_n 1, 1) := by decide +kernel
theorem dX9_layRaces_6 : decode cX9_layRaces 6 = .ok (.iload_n 1, 1) := by decide +kernel
theorem dX9_layRaces_7 : decode cX9_layRaces 7 = .ok (.aload_n 0, 1) := by decide +kernel
theorem dX9_layRaces_8 : decode cX9_layRaces 8 = .ok (.invokevirtual 76, 3) := by decide +kernel
theorem dX9_layRaces_11 : decode cX9_layRaces 11 = .ok (.if_icmp .ge 115, 3) := by decide +kernel
theorem dX9_layRaces_14 : decode cX9_layRaces 14 = .ok (.aload_n 0, 1) := by decide +kernel
theorem dX9_layRaces_15 : decode cX9_layRaces 15 = .ok (.getfield 31, 3) := by decide +kernel
theorem dX9_layRaces_18 : decode cX9_layRaces 18 = .ok (.iload_n 1, 1) := by decide +kernel
theorem dX9_layRaces_19 : decode cX9_layRaces 19 = .ok (.aload_n 0, 1) := by decide +kernel
theorem dX9_layRaces_20 : decode cX9_layRaces 20 = .ok (.iload_n 1, 1) := by decide +kernel
theorem dX9_layRaces_21 : decode cX9_layRaces 21 = .ok (.aload_n 0, 1) := by decide +kernel
theorem dX9_layRaces_22 : decode cX9_layRaces 22 = .ok (.getfield 25, 3) := by decide +kernel
theorem dX9_layRaces_25 : decode cX9_layRaces 25 = .ok (.invokevirtual 117, 3) := by decide +kernel
theorem dX9_layRaces_28 : decode cX9_layRaces 28 = .ok (.iastore, 1) := by decide +kernel
theorem dX9_layRaces_29 : decode cX9_layRaces 29 = .ok (.aload_n 0, 1) := by decide +kernel
theorem dX9_layRaces_30 : decode cX9_layRaces 30 = .ok (.getfield 34, 3) := by decide +kernel
theorem dX9_layRaces_33 : decode cX9_layRaces 33 = .ok (.iload_n 1, 1) := by decide +kernel
theorem dX9_layRaces_34 : decode cX9_layRaces 34 = .ok (.aload_n 0, 1) := by decide +kernel
theorem dX9_layRaces_35 : decode cX9_layRaces 35 = .ok (.iload_n 1, 1) := by decide +kernel
theorem dX9_layRaces_36 : decode cX9_layRaces 36 = .ok (.aload_n 0, 1) := by decide +kernel
theorem dX9_layRaces_37 : decode cX9_layRaces 37 = .ok (.getfield 28, 3) := by decide +kernel
theorem dX9_layRaces_40 : decode cX9_layRaces 40 = .ok (.invokevirtual 117, 3) := by decide +kernel
theorem dX9_layRaces_43 : decode cX9_layRaces 43 = .ok (.iastore, 1) := by decide +kernel
theorem dX9_layRaces_44 : decode cX9_layRaces 44 = .ok (.aload_n 0, 1) := by decide +kernel
theorem dX9_layRaces_45 : decode cX9_layRaces 45 = .ok (.getfield 37, 3) := by decide +kernel
theorem dX9_layRaces_48 : decode cX9_layRaces 48 = .ok (.iload_n 1, 1) := by decide +kernel
theorem dX9_layRaces_49 : decode cX9_layRaces 49 = .ok (.aload_n 0, 1) := by decide +kernel
theorem dX9_layRaces_50 : decode cX9_layRaces 50 = .ok (.getfield 25, 3) := by decide +kernel
theorem dX9_layRaces_53 : decode cX9_layRaces 53 = .ok (.iconst 4, 1) := by decide +kernel
theorem dX9_layRaces_54 : decode cX9_layRaces 54 = .ok (.iload_n 1, 1) := by decide +kernel
theorem dX9_layRaces_55 : decode cX9_layRaces 55 = .ok (.imul, 1) := by decide +kernel
theorem dX9_layRaces_56 : decode cX9_layRaces 56 = .ok (.aload_n 0, 1) := by decide +kernel
theorem dX9_layRaces_57 : decode cX9_layRaces 57 = .ok (.getfield 31, 3) := by decide +kernel
theorem dX9_layRaces_60 : decode cX9_layRaces 60 = .ok (.iload_n 1, 1) := by decide +kernel
theorem dX9_layRaces_61 : decode cX9_layRaces 61 = .ok (.iaload, 1) := by decide +kernel
theorem dX9_layRaces_62 : decode cX9_layRaces 62 = .ok (.iadd, 1) := by decide +kernel
theorem dX9_layRaces_63 : decode cX9_layRaces 63 = .ok (.iaload, 1) := by decide +kernel
theorem dX9_layRaces_64 : decode cX9_layRaces 64 = .ok (.aload_n 0, 1) := by decide +kernel
theorem dX9_layRaces_65 : decode cX9_layRaces 65 = .ok (.getfield 25, 3) := by decide +kernel
theorem dX9_layRaces_68 : decode cX9_layRaces 68 = .ok (.iconst 4, 1) := by decide +kernel
theorem dX9_layRaces_69 : decode cX9_layRaces 69 = .ok (.iload_n 1, 1) := by decide +kernel
theorem dX9_layRaces_70 : decode cX9_layRaces 70 = .ok (.imul, 1) := by decide +kernel
theorem dX9_layRaces_71 : decode cX9_layRaces 71 = .ok (.aload_n 0, 1) := by decide +kernel
theorem dX9_layRaces_72 : decode cX9_layRaces 72 = .ok (.iload_n 1, 1) := by decide +kernel
theorem dX9_layRaces_73 : decode cX9_layRaces 73 = .ok (.invokevirtual 121, 3) := by decide +kernel
theorem dX9_layRaces_76 : decode cX9_layRaces 76 = .ok (.iadd, 1) := by decide +kernel
theorem dX9_layRaces_77 : decode cX9_layRaces 77 = .ok (.iaload, 1) := by decide +kernel
theorem dX9_layRaces_78 : decode cX9_layRaces 78 = .ok (.isub, 1) := by decide +kernel
theorem dX9_layRaces_79 : decode cX9_layRaces 79 = .ok (.iastore, 1) := by decide +kernel
theorem dX9_layRaces_80 : decode cX9_layRaces 80 = .ok (.iconst 0, 1) := by decide +kernel
theorem dX9_layRaces_81 : decode cX9_layRaces 81 = .ok (.istore_n 2, 1) := by decide +kernel
theorem dX9_layRaces_82 : decode cX9_layRaces 82 = .ok (.iload_n 2, 1) := by decide +kernel
theorem dX9_layRaces_83 : decode cX9_layRaces 83 = .ok (.aload_n 0, 1) := by decide +kernel
theorem dX9_layRaces_84 : decode cX9_layRaces 84 = .ok (.invokevirtual 84, 3) := by decide +kernel
theorem dX9_layRaces_87 : decode cX9_layRaces 87 = .ok (.if_icmp .ge 33, 3) := by decide +kernel
theorem dX9_layRaces_90 : decode cX9_layRaces 90 = .ok (.aload_n 0, 1) := by decide +kernel
theorem dX9_layRaces_91 : decode cX9_layRaces 91 = .ok (.getfield 40, 3) := by decide +kernel
theorem dX9_layRaces_94 : decode cX9_layRaces 94 = .ok (.sipush 200, 3) := by decide +kernel
theorem dX9_layRaces_97 : decode cX9_layRaces 97 = .ok (.iload_n 1, 1) := by decide +kernel
theorem dX9_layRaces_98 : decode cX9_layRaces 98 = .ok (.imul, 1) := by decide +kernel
theorem dX9_layRaces_99 : decode cX9_layRaces 99 = .ok (.iload_n 2, 1) := by decide +kernel
theorem dX9_layRaces_100 : decode cX9_layRaces 100 = .ok (.iadd, 1) := by decide +kernel
theorem dX9_layRaces_101 : decode cX9_layRaces 101 = .ok (.aload_n 0, 1) := by decide +kernel
theorem dX9_layRaces_102 : decode cX9_layRaces 102 = .ok (.iload_n 2, 1) := by decide +kernel
theorem dX9_layRaces_103 : decode cX9_layRaces 103 = .ok (.iload_n 1, 1) := by decide +kernel
theorem dX9_layRaces_104 : decode cX9_layRaces 104 = .ok (.aload_n 0, 1) := by decide +kernel
theorem dX9_layRaces_105 : decode cX9_layRaces 105 = .ok (.getfield 31, 3) := by decide +kernel
theorem dX9_layRaces_108 : decode cX9_layRaces 108 = .ok (.iload_n 1, 1) := by decide +kernel
theorem dX9_layRaces_109 : decode cX9_layRaces 109 = .ok (.iaload, 1) := by decide +kernel
theorem dX9_layRaces_110 : decode cX9_layRaces 110 = .ok (.invokevirtual 124, 3) := by decide +kernel
theorem dX9_layRaces_113 : decode cX9_layRaces 113 = .ok (.iastore, 1) := by decide +kernel
theorem dX9_layRaces_114 : decode cX9_layRaces 114 = .ok (.iinc 2 1, 3) := by decide +kernel
theorem dX9_layRaces_117 : decode cX9_layRaces 117 = .ok (.goto (-35), 3) := by decide +kernel
theorem dX9_layRaces_120 : decode cX9_layRaces 120 = .ok (.iinc 1 1, 3) := by decide +kernel
theorem dX9_layRaces_123 : decode cX9_layRaces 123 = .ok (.goto (-117), 3) := by decide +kernel
theorem dX9_layRaces_126 : decode cX9_layRaces 126 = .ok (.return_, 1) := by decide +kernel
theorem dX9_mistakeAt_0 : decode cX9_mistakeAt 0 = .ok (.aload_n 0, 1) := by decide +kernel
theorem dX9_mistakeAt_1 : decode cX9_mistakeAt 1 = .ok (.getfield 40, 3) := by decide +kernel
theorem dX9_mistakeAt_4 : decode cX9_mistakeAt 4 = .ok (.sipush 200, 3) := by decide +kernel
theorem dX9_mistakeAt_7 : decode cX9_mistakeAt 7 = .ok (.iload_n 2, 1) := by decide +kernel
theorem dX9_mistakeAt_8 : decode cX9_mistakeAt 8 = .ok (.imul, 1) := by decide +kernel
theorem dX9_mistakeAt_9 : decode cX9_mistakeAt 9 = .ok (.iload_n 1, 1) := by decide +kernel
theorem dX9_mistakeAt_10 : decode cX9_mistakeAt 10 = .ok (.iadd, 1) := by decide +kernel
theorem dX9_mistakeAt_11 : decode cX9_mistakeAt 11 = .ok (.iaload, 1) := by decide +kernel
theorem dX9_mistakeAt_12 : decode cX9_mistakeAt 12 = .ok (.ireturn, 1) := by decide +kernel
theorem dX9_kept_0 : decode cX9_kept 0 = .ok (.lload_n 0, 1) := by decide +kernel
theorem dX9_kept_1 : decode cX9_kept 1 = .ok (.lconst 1, 1) := by decide +kernel
theorem dX9_kept_2 : decode cX9_kept 2 = .ok (.lcmp, 1) := by decide +kernel
theorem dX9_kept_3 : decode cX9_kept 3 = .ok (.ifCond .ge 5, 3) := by decide +kernel
theorem dX9_kept_6 : decode cX9_kept 6 = .ok (.lconst 1, 1) := by decide +kernel
theorem dX9_kept_7 : decode cX9_kept 7 = .ok (.lreturn, 1) := by decide +kernel
theorem dX9_kept_8 : decode cX9_kept 8 = .ok (.lload_n 0, 1) := by decide +kernel
theorem dX9_kept_9 : decode cX9_kept 9 = .ok (.ldc2_w 127, 3) := by decide +kernel
theorem dX9_kept_12 : decode cX9_kept 12 = .ok (.lcmp, 1) := by decide +kernel
theorem dX9_kept_13 : decode cX9_kept 13 = .ok (.ifCond .le 9, 3) := by decide +kernel
theorem dX9_kept_16 : decode cX9_kept 16 = .ok (.ldc2_w 127, 3) := by decide +kernel
theorem dX9_kept_19 : decode cX9_kept 19 = .ok (.goto 4, 3) := by decide +kernel
theorem dX9_kept_22 : decode cX9_kept 22 = .ok (.lload_n 0, 1) := by decide +kernel
theorem dX9_kept_23 : decode cX9_kept 23 = .ok (.lreturn, 1) := by decide +kernel
theorem dX9_times_0 : decode cX9_times 0 = .ok (.lload 4, 2) := by decide +kernel
theorem dX9_times_2 : decode cX9_times 2 = .ok (.lconst 0, 1) := by decide +kernel
theorem dX9_times_3 : decode cX9_times 3 = .ok (.lcmp, 1) := by decide +kernel
theorem dX9_times_4 : decode cX9_times 4 = .ok (.ifCond .gt 7, 3) := by decide +kernel
theorem dX9_times_7 : decode cX9_times 7 = .ok (.ldc2_w 127, 3) := by decide +kernel
theorem dX9_times_10 : decode cX9_times 10 = .ok (.lreturn, 1) := by decide +kernel
theorem dX9_times_11 : decode cX9_times 11 = .ok (.lload_n 2, 1) := by decide +kernel
theorem dX9_times_12 : decode cX9_times 12 = .ok (.lconst 0, 1) := by decide +kernel
theorem dX9_times_13 : decode cX9_times 13 = .ok (.lcmp, 1) := by decide +kernel
theorem dX9_times_14 : decode cX9_times 14 = .ok (.ifCond .gt 5, 3) := by decide +kernel
theorem dX9_times_17 : decode cX9_times 17 = .ok (.lconst 1, 1) := by decide +kernel
theorem dX9_times_18 : decode cX9_times 18 = .ok (.lreturn, 1) := by decide +kernel
theorem dX9_times_19 : decode cX9_times 19 = .ok (.lload_n 0, 1) := by decide +kernel
theorem dX9_times_20 : decode cX9_times 20 = .ok (.lload 4, 2) := by decide +kernel
theorem dX9_times_22 : decode cX9_times 22 = .ok (.ldiv, 1) := by decide +kernel
theorem dX9_times_23 : decode cX9_times 23 = .ok (.lstore 6, 2) := by decide +kernel
theorem dX9_times_25 : decode cX9_times 25 = .ok (.lload_n 0, 1) := by decide +kernel
theorem dX9_times_26 : decode cX9_times 26 = .ok (.lload 4, 2) := by decide +kernel
theorem dX9_times_28 : decode cX9_times 28 = .ok (.lrem, 1) := by decide +kernel
theorem dX9_times_29 : decode cX9_times 29 = .ok (.lstore 8, 2) := by decide +kernel
theorem dX9_times_31 : decode cX9_times 31 = .ok (.lload 6, 2) := by decide +kernel
theorem dX9_times_33 : decode cX9_times 33 = .ok (.ldc2_w 127, 3) := by decide +kernel
theorem dX9_times_36 : decode cX9_times 36 = .ok (.lload_n 2, 1) := by decide +kernel
theorem dX9_times_37 : decode cX9_times 37 = .ok (.ldiv, 1) := by decide +kernel
theorem dX9_times_38 : decode cX9_times 38 = .ok (.lcmp, 1) := by decide +kernel
theorem dX9_times_39 : decode cX9_times 39 = .ok (.ifCond .le 7, 3) := by decide +kernel
theorem dX9_times_42 : decode cX9_times 42 = .ok (.ldc2_w 127, 3) := by decide +kernel
theorem dX9_times_45 : decode cX9_times 45 = .ok (.lreturn, 1) := by decide +kernel
theorem dX9_times_46 : decode cX9_times 46 = .ok (.lload 6, 2) := by decide +kernel
theorem dX9_times_48 : decode cX9_times 48 = .ok (.lload_n 2, 1) := by decide +kernel
theorem dX9_times_49 : decode cX9_times 49 = .ok (.lmul, 1) := by decide +kernel
theorem dX9_times_50 : decode cX9_times 50 = .ok (.lload 8, 2) := by decide +kernel
theorem dX9_times_52 : decode cX9_times 52 = .ok (.lload_n 2, 1) := by decide +kernel
theorem dX9_times_53 : decode cX9_times 53 = .ok (.lmul, 1) := by decide +kernel
theorem dX9_times_54 : decode cX9_times 54 = .ok (.lload 4, 2) := by decide +kernel
theorem dX9_times_56 : decode cX9_times 56 = .ok (.ladd, 1) := by decide +kernel
theorem dX9_times_57 : decode cX9_times 57 = .ok (.lconst 1, 1) := by decide +kernel
theorem dX9_times_58 : decode cX9_times 58 = .ok (.lsub, 1) := by decide +kernel
theorem dX9_times_59 : decode cX9_times 59 = .ok (.lload 4, 2) := by decide +kernel
theorem dX9_times_61 : decode cX9_times 61 = .ok (.ldiv, 1) := by decide +kernel
theorem dX9_times_62 : decode cX9_times 62 = .ok (.ladd, 1) := by decide +kernel
theorem dX9_times_63 : decode cX9_times 63 = .ok (.invokestatic 129, 3) := by decide +kernel
theorem dX9_times_66 : decode cX9_times 66 = .ok (.lreturn, 1) := by decide +kernel
theorem dX9_compared_0 : decode cX9_compared 0 = .ok (.aload_n 0, 1) := by decide +kernel
theorem dX9_compared_1 : decode cX9_compared 1 = .ok (.invokevirtual 84, 3) := by decide +kernel
theorem dX9_compared_4 : decode cX9_compared 4 = .ok (.i2l, 1) := by decide +kernel
theorem dX9_compared_5 : decode cX9_compared 5 = .ok (.lstore 6, 2) := by decide +kernel
theorem dX9_compared_7 : decode cX9_compared 7 = .ok (.lload_n 1, 1) := by decide +kernel
theorem dX9_compared_8 : decode cX9_compared 8 = .ok (.iload 4, 2) := by decide +kernel
theorem dX9_compared_10 : decode cX9_compared 10 = .ok (.i2l, 1) := by decide +kernel
theorem dX9_compared_11 : decode cX9_compared 11 = .ok (.lload 6, 2) := by decide +kernel
theorem dX9_compared_13 : decode cX9_compared 13 = .ok (.lmul, 1) := by decide +kernel
theorem dX9_compared_14 : decode cX9_compared 14 = .ok (.ldc2_w 133, 3) := by decide +kernel
theorem dX9_compared_17 : decode cX9_compared 17 = .ok (.aload_n 0, 1) := by decide +kernel
theorem dX9_compared_18 : decode cX9_compared 18 = .ok (.getfield 37, 3) := by decide +kernel
theorem dX9_compared_21 : decode cX9_compared 21 = .ok (.iload_n 3, 1) := by decide +kernel
theorem dX9_compared_22 : decode cX9_compared 22 = .ok (.iaload, 1) := by decide +kernel
theorem dX9_compared_23 : decode cX9_compared 23 = .ok (.i2l, 1) := by decide +kernel
theorem dX9_compared_24 : decode cX9_compared 24 = .ok (.lmul, 1) := by decide +kernel
theorem dX9_compared_25 : decode cX9_compared 25 = .ok (.lsub, 1) := by decide +kernel
theorem dX9_compared_26 : decode cX9_compared 26 = .ok (.lload 6, 2) := by decide +kernel
theorem dX9_compared_28 : decode cX9_compared 28 = .ok (.iload 4, 2) := by decide +kernel
theorem dX9_compared_30 : decode cX9_compared 30 = .ok (.i2l, 1) := by decide +kernel
theorem dX9_compared_31 : decode cX9_compared 31 = .ok (.ldc2_w 133, 3) := by decide +kernel
theorem dX9_compared_34 : decode cX9_compared 34 = .ok (.iload 5, 2) := by decide +kernel
theorem dX9_compared_36 : decode cX9_compared 36 = .ok (.i2l, 1) := by decide +kernel
theorem dX9_compared_37 : decode cX9_compared 37 = .ok (.lmul, 1) := by decide +kernel
theorem dX9_compared_38 : decode cX9_compared 38 = .ok (.lsub, 1) := by decide +kernel
theorem dX9_compared_39 : decode cX9_compared 39 = .ok (.lmul, 1) := by decide +kernel
theorem dX9_compared_40 : decode cX9_compared 40 = .ok (.invokestatic 135, 3) := by decide +kernel
theorem dX9_compared_43 : decode cX9_compared 43 = .ok (.lreturn, 1) := by decide +kernel
theorem dX9_polled_0 : decode cX9_polled 0 = .ok (.aload_n 0, 1) := by decide +kernel
theorem dX9_polled_1 : decode cX9_polled 1 = .ok (.getfield 25, 3) := by decide +kernel
theorem dX9_polled_4 : decode cX9_polled 4 = .ok (.iconst 4, 1) := by decide +kernel
theorem dX9_polled_5 : decode cX9_polled 5 = .ok (.iload_n 3, 1) := by decide +kernel
theorem dX9_polled_6 : decode cX9_polled 6 = .ok (.imul, 1) := by decide +kernel
theorem dX9_polled_7 : decode cX9_polled 7 = .ok (.aload_n 0, 1) := by decide +kernel
theorem dX9_polled_8 : decode cX9_polled 8 = .ok (.getfield 31, 3) := by decide +kernel
theorem dX9_polled_11 : decode cX9_polled 11 = .ok (.iload_n 3, 1) := by decide +kernel
theorem dX9_polled_12 : decode cX9_polled 12 = .ok (.iaload, 1) := by decide +kernel
theorem dX9_polled_13 : decode cX9_polled 13 = .ok (.iadd, 1) := by decide +kernel
theorem dX9_polled_14 : decode cX9_polled 14 = .ok (.iaload, 1) := by decide +kernel
theorem dX9_polled_15 : decode cX9_polled 15 = .ok (.i2l, 1) := by decide +kernel
theorem dX9_polled_16 : decode cX9_polled 16 = .ok (.lstore 6, 2) := by decide +kernel
theorem dX9_polled_18 : decode cX9_polled 18 = .ok (.aload_n 0, 1) := by decide +kernel
theorem dX9_polled_19 : decode cX9_polled 19 = .ok (.getfield 25, 3) := by decide +kernel
theorem dX9_polled_22 : decode cX9_polled 22 = .ok (.iconst 4, 1) := by decide +kernel
theorem dX9_polled_23 : decode cX9_polled 23 = .ok (.iload_n 3, 1) := by decide +kernel
theorem dX9_polled_24 : decode cX9_polled 24 = .ok (.imul, 1) := by decide +kernel
theorem dX9_polled_25 : decode cX9_polled 25 = .ok (.iload 4, 2) := by decide +kernel
theorem dX9_polled_27 : decode cX9_polled 27 = .ok (.iadd, 1) := by decide +kernel
theorem dX9_polled_28 : decode cX9_polled 28 = .ok (.iaload, 1) := by decide +kernel
theorem dX9_polled_29 : decode cX9_polled 29 = .ok (.i2l, 1) := by decide +kernel
theorem dX9_polled_30 : decode cX9_polled 30 = .ok (.lstore 8, 2) := by decide +kernel
theorem dX9_polled_32 : decode cX9_polled 32 = .ok (.iload 5, 2) := by decide +kernel
theorem dX9_polled_34 : decode cX9_polled 34 = .ok (.aload_n 0, 1) := by decide +kernel
theorem dX9_polled_35 : decode cX9_polled 35 = .ok (.getfield 31, 3) := by decide +kernel
theorem dX9_polled_38 : decode cX9_polled 38 = .ok (.iload_n 3, 1) := by decide +kernel
theorem dX9_polled_39 : decode cX9_polled 39 = .ok (.iaload, 1) := by decide +kernel
theorem dX9_polled_40 : decode cX9_polled 40 = .ok (.if_icmp .ne 19, 3) := by decide +kernel
theorem dX9_polled_43 : decode cX9_polled 43 = .ok (.lload_n 1, 1) := by decide +kernel
theorem dX9_polled_44 : decode cX9_polled 44 = .ok (.lload 6, 2) := by decide +kernel
theorem dX9_polled_46 : decode cX9_polled 46 = .ok (.lload 8, 2) := by decide +kernel
theorem dX9_polled_48 : decode cX9_polled 48 = .ok (.ladd, 1) := by decide +kernel
theorem dX9_polled_49 : decode cX9_polled 49 = .ok (.ldc2_w 139, 3) := by decide +kernel
theorem dX9_polled_52 : decode cX9_polled 52 = .ok (.lload 6, 2) := by decide +kernel
theorem dX9_polled_54 : decode cX9_polled 54 = .ok (.lmul, 1) := by decide +kernel
theorem dX9_polled_55 : decode cX9_polled 55 = .ok (.invokestatic 135, 3) := by decide +kernel
theorem dX9_polled_58 : decode cX9_polled 58 = .ok (.lreturn, 1) := by decide +kernel
theorem dX9_polled_59 : decode cX9_polled 59 = .ok (.iload 5, 2) := by decide +kernel
theorem dX9_polled_61 : decode cX9_polled 61 = .ok (.iload 4, 2) := by decide +kernel
theorem dX9_polled_63 : decode cX9_polled 63 = .ok (.if_icmp .ne 21, 3) := by decide +kernel
theorem dX9_polled_66 : decode cX9_polled 66 = .ok (.lload_n 1, 1) := by decide +kernel
theorem dX9_polled_67 : decode cX9_polled 67 = .ok (.lload 6, 2) := by decide +kernel
theorem dX9_polled_69 : decode cX9_polled 69 = .ok (.lload 8, 2) := by decide +kernel
theorem dX9_polled_71 : decode cX9_polled 71 = .ok (.ladd, 1) := by decide +kernel
theorem dX9_polled_72 : decode cX9_polled 72 = .ok (.ldc2_w 139, 3) := by decide +kernel
theorem dX9_polled_75 : decode cX9_polled 75 = .ok (.lload 8, 2) := by decide +kernel
theorem dX9_polled_77 : decode cX9_polled 77 = .ok (.lmul, 1) := by decide +kernel
theorem dX9_polled_78 : decode cX9_polled 78 = .ok (.invokestatic 135, 3) := by decide +kernel
theorem dX9_polled_81 : decode cX9_polled 81 = .ok (.goto 4, 3) := by decide +kernel
theorem dX9_polled_84 : decode cX9_polled 84 = .ok (.lload_n 1, 1) := by decide +kernel
theorem dX9_polled_85 : decode cX9_polled 85 = .ok (.lreturn, 1) := by decide +kernel
theorem dX9_riskNow_0 : decode cX9_riskNow 0 = .ok (.aload_n 0, 1) := by decide +kernel
theorem dX9_riskNow_1 : decode cX9_riskNow 1 = .ok (.iload_n 1, 1) := by decide +kernel
theorem dX9_riskNow_2 : decode cX9_riskNow 2 = .ok (.invokevirtual 141, 3) := by decide +kernel
theorem dX9_riskNow_5 : decode cX9_riskNow 5 = .ok (.ifCond .ne 14, 3) := by decide +kernel
theorem dX9_riskNow_8 : decode cX9_riskNow 8 = .ok (.aload_n 0, 1) := by decide +kernel
theorem dX9_riskNow_9 : decode cX9_riskNow 9 = .ok (.getfield 43, 3) := by decide +kernel
theorem dX9_riskNow_12 : decode cX9_riskNow 12 = .ok (.iconst 4, 1) := by decide +kernel
theorem dX9_riskNow_13 : decode cX9_riskNow 13 = .ok (.iload_n 1, 1) := by decide +kernel
theorem dX9_riskNow_14 : decode cX9_riskNow 14 = .ok (.imul, 1) := by decide +kernel
theorem dX9_riskNow_15 : decode cX9_riskNow 15 = .ok (.laload, 1) := by decide +kernel
theorem dX9_riskNow_16 : decode cX9_riskNow 16 = .ok (.goto 8, 3) := by decide +kernel
theorem dX9_riskNow_19 : decode cX9_riskNow 19 = .ok (.aload_n 0, 1) := by decide +kernel
theorem dX9_riskNow_20 : decode cX9_riskNow 20 = .ok (.iload_n 1, 1) := by decide +kernel
theorem dX9_riskNow_21 : decode cX9_riskNow 21 = .ok (.invokevirtual 144, 3) := by decide +kernel
theorem dX9_riskNow_24 : decode cX9_riskNow 24 = .ok (.lreturn, 1) := by decide +kernel
theorem dX9_greatestOf_0 : decode cX9_greatestOf 0 = .ok (.lconst 0, 1) := by decide +kernel
theorem dX9_greatestOf_1 : decode cX9_greatestOf 1 = .ok (.lstore_n 2, 1) := by decide +kernel
theorem dX9_greatestOf_2 : decode cX9_greatestOf 2 = .ok (.iconst 0, 1) := by decide +kernel
theorem dX9_greatestOf_3 : decode cX9_greatestOf 3 = .ok (.istore 4, 2) := by decide +kernel
theorem dX9_greatestOf_5 : decode cX9_greatestOf 5 = .ok (.iload 4, 2) := by decide +kernel
theorem dX9_greatestOf_7 : decode cX9_greatestOf 7 = .ok (.aload_n 0, 1) := by decide +kernel
theorem dX9_greatestOf_8 : decode cX9_greatestOf 8 = .ok (.iload_n 1, 1) := by decide +kernel
theorem dX9_greatestOf_9 : decode cX9_greatestOf 9 = .ok (.invokevirtual 87, 3) := by decide +kernel
theorem dX9_greatestOf_12 : decode cX9_greatestOf 12 = .ok (.if_icmp .ge 39, 3) := by decide +kernel
theorem dX9_greatestOf_15 : decode cX9_greatestOf 15 = .ok (.iload 4, 2) := by decide +kernel
theorem dX9_greatestOf_17 : decode cX9_greatestOf 17 = .ok (.aload_n 0, 1) := by decide +kernel
theorem dX9_greatestOf_18 : decode cX9_greatestOf 18 = .ok (.getfield 31, 3) := by decide +kernel
theorem dX9_greatestOf_21 : decode cX9_greatestOf 21 = .ok (.iload_n 1, 1) := by decide +kernel
theorem dX9_greatestOf_22 : decode cX9_greatestOf 22 = .ok (.iaload, 1) := by decide +kernel
theorem dX9_greatestOf_23 : decode cX9_greatestOf 23 = .ok (.if_icmp .ne 6, 3) := by decide +kernel
theorem dX9_greatestOf_26 : decode cX9_greatestOf 26 = .ok (.goto 19, 3) := by decide +kernel
theorem dX9_greatestOf_29 : decode cX9_greatestOf 29 = .ok (.lload_n 2, 1) := by decide +kernel
theorem dX9_greatestOf_30 : decode cX9_greatestOf 30 = .ok (.aload_n 0, 1) := by decide +kernel
theorem dX9_greatestOf_31 : decode cX9_greatestOf 31 = .ok (.getfield 43, 3) := by decide +kernel
theorem dX9_greatestOf_34 : decode cX9_greatestOf 34 = .ok (.iconst 4, 1) := by decide +kernel
theorem dX9_greatestOf_35 : decode cX9_greatestOf 35 = .ok (.iload_n 1, 1) := by decide +kernel
theorem dX9_greatestOf_36 : decode cX9_greatestOf 36 = .ok (.imul, 1) := by decide +kernel
theorem dX9_greatestOf_37 : decode cX9_greatestOf 37 = .ok (.iload 4, 2) := by decide +kernel
theorem dX9_greatestOf_39 : decode cX9_greatestOf 39 = .ok (.iadd, 1) := by decide +kernel
theorem dX9_greatestOf_40 : decode cX9_greatestOf 40 = .ok (.laload, 1) := by decide +kernel
theorem dX9_greatestOf_41 : decode cX9_greatestOf 41 = .ok (.invokestatic 148, 3) := by decide +kernel
theorem dX9_greatestOf_44 : decode cX9_greatestOf 44 = .ok (.lstore_n 2, 1) := by decide +kernel
theorem dX9_greatestOf_45 : decode cX9_greatestOf 45 = .ok (.iinc 4 1, 3) := by decide +kernel
theorem dX9_greatestOf_48 : decode cX9_greatestOf 48 = .ok (.goto (-43), 3) := by decide +kernel
theorem dX9_greatestOf_51 : decode cX9_greatestOf 51 = .ok (.lload_n 2, 1) := by decide +kernel
theorem dX9_greatestOf_52 : decode cX9_greatestOf 52 = .ok (.lreturn, 1) := by decide +kernel
theorem dX9_isLittle_0 : decode cX9_isLittle 0 = .ok (.lload_n 1, 1) := by decide +kernel
theorem dX9_isLittle_1 : decode cX9_isLittle 1 = .ok (.aload_n 0, 1) := by decide +kernel
theorem dX9_isLittle_2 : decode cX9_isLittle 2 = .ok (.getfield 9, 3) := by decide +kernel
theorem dX9_isLittle_5 : decode cX9_isLittle 5 = .ok (.iconst 2, 1) := by decide +kernel
theorem dX9_isLittle_6 : decode cX9_isLittle 6 = .ok (.iaload, 1) := by decide +kernel
theorem dX9_isLittle_7 : decode cX9_isLittle 7 = .ok (.i2l, 1) := by decide +kernel
theorem dX9_isLittle_8 : decode cX9_isLittle 8 = .ok (.ldc2_w 151, 3) := by decide +kernel
theorem dX9_isLittle_11 : decode cX9_isLittle 11 = .ok (.lmul, 1) := by decide +kernel
theorem dX9_isLittle_12 : decode cX9_isLittle 12 = .ok (.lcmp, 1) := by decide +kernel
theorem dX9_isLittle_13 : decode cX9_isLittle 13 = .ok (.ifCond .gt 7, 3) := by decide +kernel
theorem dX9_isLittle_16 : decode cX9_isLittle 16 = .ok (.iconst 1, 1) := by decide +kernel
theorem dX9_isLittle_17 : decode cX9_isLittle 17 = .ok (.goto 4, 3) := by decide +kernel
theorem dX9_isLittle_20 : decode cX9_isLittle 20 = .ok (.iconst 0, 1) := by decide +kernel
theorem dX9_isLittle_21 : decode cX9_isLittle 21 = .ok (.ireturn, 1) := by decide +kernel
theorem dX9_clear_0 : decode cX9_clear 0 = .ok (.iconst 0, 1) := by decide +kernel
theorem dX9_clear_1 : decode cX9_clear 1 = .ok (.istore_n 2, 1) := by decide +kernel
theorem dX9_clear_2 : decode cX9_clear 2 = .ok (.iload_n 2, 1) := by decide +kernel
theorem dX9_clear_3 : decode cX9_clear 3 = .ok (.iconst 4, 1) := by decide +kernel
theorem dX9_clear_4 : decode cX9_clear 4 = .ok (.if_icmp .ge 22, 3) := by decide +kernel
theorem dX9_clear_7 : decode cX9_clear 7 = .ok (.aload_n 0, 1) := by decide +kernel
theorem dX9_clear_8 : decode cX9_clear 8 = .ok (.getfield 43, 3) := by decide +kernel
theorem dX9_clear_11 : decode cX9_clear 11 = .ok (.iconst 4, 1) := by decide +kernel
theorem dX9_clear_12 : decode cX9_clear 12 = .ok (.iload_n 1, 1) := by decide +kernel
theorem dX9_clear_13 : decode cX9_clear 13 = .ok (.imul, 1) := by decide +kernel
theorem dX9_clear_14 : decode cX9_clear 14 = .ok (.iload_n 2, 1) := by decide +kernel
theorem dX9_clear_15 : decode cX9_clear 15 = .ok (.iadd, 1) := by decide +kernel
theorem dX9_clear_16 : decode cX9_clear 16 = .ok (.ldc2_w 153, 3) := by decide +kernel
theorem dX9_clear_19 : decode cX9_clear 19 = .ok (.lastore, 1) := by decide +kernel
theorem dX9_clear_20 : decode cX9_clear 20 = .ok (.iinc 2 1, 3) := by decide +kernel
theorem dX9_clear_23 : decode cX9_clear 23 = .ok (.goto (-21), 3) := by decide +kernel
theorem dX9_clear_26 : decode cX9_clear 26 = .ok (.aload_n 0, 1) := by decide +kernel
theorem dX9_clear_27 : decode cX9_clear 27 = .ok (.getfield 47, 3) := by decide +kernel
theorem dX9_clear_30 : decode cX9_clear 30 = .ok (.iload_n 1, 1) := by decide +kernel
theorem dX9_clear_31 : decode cX9_clear 31 = .ok (.iconst (-1), 1) := by decide +kernel
theorem dX9_clear_32 : decode cX9_clear 32 = .ok (.iastore, 1) := by decide +kernel
theorem dX9_clear_33 : decode cX9_clear 33 = .ok (.return_, 1) := by decide +kernel
theorem dX9_draws_0 : decode cX9_draws 0 = .ok (.aload_n 0, 1) := by decide +kernel
theorem dX9_draws_1 : decode cX9_draws 1 = .ok (.iload_n 1, 1) := by decide +kernel
theorem dX9_draws_2 : decode cX9_draws 2 = .ok (.invokevirtual 141, 3) := by decide +kernel
theorem dX9_draws_5 : decode cX9_draws 5 = .ok (.ifCond .ne 28, 3) := by decide +kernel
theorem dX9_draws_8 : decode cX9_draws 8 = .ok (.aload_n 0, 1) := by decide +kernel
theorem dX9_draws_9 : decode cX9_draws 9 = .ok (.getfield 43, 3) := by decide +kernel
theorem dX9_draws_12 : decode cX9_draws 12 = .ok (.iconst 4, 1) := by decide +kernel
theorem dX9_draws_13 : decode cX9_draws 13 = .ok (.iload_n 1, 1) := by decide +kernel
theorem dX9_draws_14 : decode cX9_draws 14 = .ok (.imul, 1) := by decide +kernel
theorem dX9_draws_15 : decode cX9_draws 15 = .ok (.aload_n 0, 1) := by decide +kernel
theorem dX9_draws_16 : decode cX9_draws 16 = .ok (.aload_n 0, 1) := by decide +kernel
theorem dX9_draws_17 : decode cX9_draws 17 = .ok (.getfield 43, 3) := by decide +kernel
theorem dX9_draws_20 : decode cX9_draws 20 = .ok (.iconst 4, 1) := by decide +kernel
theorem dX9_draws_21 : decode cX9_draws 21 = .ok (.iload_n 1, 1) := by decide +kernel
theorem dX9_draws_22 : decode cX9_draws 22 = .ok (.imul, 1) := by decide +kernel
theorem dX9_draws_23 : decode cX9_draws 23 = .ok (.laload, 1) := by decide +kernel
theorem dX9_draws_24 : decode cX9_draws 24 = .ok (.iload_n 1, 1) := by decide +kernel
theorem dX9_draws_25 : decode cX9_draws 25 = .ok (.iload 4, 2) := by decide +kernel
theorem dX9_draws_27 : decode cX9_draws 27 = .ok (.iload_n 2, 1) := by decide +kernel
theorem dX9_draws_28 : decode cX9_draws 28 = .ok (.invokevirtual 155, 3) := by decide +kernel
theorem dX9_draws_31 : decode cX9_draws 31 = .ok (.lastore, 1) := by decide +kernel
theorem dX9_draws_32 : decode cX9_draws 32 = .ok (.return_, 1) := by decide +kernel
theorem dX9_draws_33 : decode cX9_draws 33 = .ok (.aload_n 0, 1) := by decide +kernel
theorem dX9_draws_34 : decode cX9_draws 34 = .ok (.iload_n 1, 1) := by decide +kernel
theorem dX9_draws_35 : decode cX9_draws 35 = .ok (.iload_n 3, 1) := by decide +kernel
theorem dX9_draws_36 : decode cX9_draws 36 = .ok (.invokevirtual 159, 3) := by decide +kernel
theorem dX9_draws_39 : decode cX9_draws 39 = .ok (.return_, 1) := by decide +kernel
theorem dX9_isOver_0 : decode cX9_isOver 0 = .ok (.aload_n 0, 1) := by decide +kernel
theorem dX9_isOver_1 : decode cX9_isOver 1 = .ok (.invokevirtual 163, 3) := by decide +kernel
theorem dX9_isOver_4 : decode cX9_isOver 4 = .ok (.aload_n 0, 1) := by decide +kernel
theorem dX9_isOver_5 : decode cX9_isOver 5 = .ok (.invokevirtual 76, 3) := by decide +kernel
theorem dX9_isOver_8 : decode cX9_isOver 8 = .ok (.if_icmp .ne 7, 3) := by decide +kernel
theorem dX9_isOver_11 : decode cX9_isOver 11 = .ok (.iconst 1, 1) := by decide +kernel
theorem dX9_isOver_12 : decode cX9_isOver 12 = .ok (.goto 4, 3) := by decide +kernel
theorem dX9_isOver_15 : decode cX9_isOver 15 = .ok (.iconst 0, 1) := by decide +kernel
theorem dX9_isOver_16 : decode cX9_isOver 16 = .ok (.ireturn, 1) := by decide +kernel
theorem dX9_writesHistory_0 : decode cX9_writesHistory 0 = .ok (.iconst 0, 1) := by decide +kernel
theorem dX9_writesHistory_1 : decode cX9_writesHistory 1 = .ok (.istore_n 1, 1) := by decide +kernel
theorem dX9_writesHistory_2 : decode cX9_writesHistory 2 = .ok (.iload_n 1, 1) := by decide +kernel
theorem dX9_writesHistory_3 : decode cX9_writesHistory 3 = .ok (.aload_n 0, 1) := by decide +kernel
theorem dX9_writesHistory_4 : decode cX9_writesHistory 4 = .ok (.invokevirtual 76, 3) := by decide +kernel
theorem dX9_writesHistory_7 : decode cX9_writesHistory 7 = .ok (.if_icmp .ge 27, 3) := by decide +kernel
theorem dX9_writesHistory_10 : decode cX9_writesHistory 10 = .ok (.aload_n 0, 1) := by decide +kernel
theorem dX9_writesHistory_11 : decode cX9_writesHistory 11 = .ok (.getfield 50, 3) := by decide +kernel
theorem dX9_writesHistory_14 : decode cX9_writesHistory 14 = .ok (.iconst 3, 1) := by decide +kernel
theorem dX9_writesHistory_15 : decode cX9_writesHistory 15 = .ok (.aload_n 0, 1) := by decide +kernel
theorem dX9_writesHistory_16 : decode cX9_writesHistory 16 = .ok (.getfield 166, 3) := by decide +kernel
theorem dX9_writesHistory_19 : decode cX9_writesHistory 19 = .ok (.imul, 1) := by decide +kernel
theorem dX9_writesHistory_20 : decode cX9_writesHistory 20 = .ok (.iload_n 1, 1) := by decide +kernel
theorem dX9_writesHistory_21 : decode cX9_writesHistory 21 = .ok (.iadd, 1) := by decide +kernel
theorem dX9_writesHistory_22 : decode cX9_writesHistory 22 = .ok (.aload_n 0, 1) := by decide +kernel
theorem dX9_writesHistory_23 : decode cX9_writesHistory 23 = .ok (.iload_n 1, 1) := by decide +kernel
theorem dX9_writesHistory_24 : decode cX9_writesHistory 24 = .ok (.invokevirtual 169, 3) := by decide +kernel
theorem dX9_writesHistory_27 : decode cX9_writesHistory 27 = .ok (.lastore, 1) := by decide +kernel
theorem dX9_writesHistory_28 : decode cX9_writesHistory 28 = .ok (.iinc 1 1, 3) := by decide +kernel
theorem dX9_writesHistory_31 : decode cX9_writesHistory 31 = .ok (.goto (-29), 3) := by decide +kernel
theorem dX9_writesHistory_34 : decode cX9_writesHistory 34 = .ok (.return_, 1) := by decide +kernel
theorem dX9_drawsBallot_0 : decode cX9_drawsBallot 0 = .ok (.aload_n 0, 1) := by decide +kernel
theorem dX9_drawsBallot_1 : decode cX9_drawsBallot 1 = .ok (.dup, 1) := by decide +kernel
theorem dX9_drawsBallot_2 : decode cX9_drawsBallot 2 = .ok (.getfield 166, 3) := by decide +kernel
theorem dX9_drawsBallot_5 : decode cX9_drawsBallot 5 = .ok (.iconst 1, 1) := by decide +kernel
theorem dX9_drawsBallot_6 : decode cX9_drawsBallot 6 = .ok (.iadd, 1) := by decide +kernel
theorem dX9_drawsBallot_7 : decode cX9_drawsBallot 7 = .ok (.putfield 166, 3) := by decide +kernel
theorem dX9_drawsBallot_10 : decode cX9_drawsBallot 10 = .ok (.iconst 0, 1) := by decide +kernel
theorem dX9_drawsBallot_11 : decode cX9_drawsBallot 11 = .ok (.istore_n 2, 1) := by decide +kernel
theorem dX9_drawsBallot_12 : decode cX9_drawsBallot 12 = .ok (.iload_n 2, 1) := by decide +kernel
theorem dX9_drawsBallot_13 : decode cX9_drawsBallot 13 = .ok (.aload_n 0, 1) := by decide +kernel
theorem dX9_drawsBallot_14 : decode cX9_drawsBallot 14 = .ok (.invokevirtual 76, 3) := by decide +kernel
theorem dX9_drawsBallot_17 : decode cX9_drawsBallot 17 = .ok (.if_icmp .ge 67, 3) := by decide +kernel
theorem dX9_drawsBallot_20 : decode cX9_drawsBallot 20 = .ok (.aload_n 0, 1) := by decide +kernel
theorem dX9_drawsBallot_21 : decode cX9_drawsBallot 21 = .ok (.getfield 47, 3) := by decide +kernel
theorem dX9_drawsBallot_24 : decode cX9_drawsBallot 24 = .ok (.iload_n 2, 1) := by decide +kernel
theorem dX9_drawsBallot_25 : decode cX9_drawsBallot 25 = .ok (.iaload, 1) := by decide +kernel
theorem dX9_drawsBallot_26 : decode cX9_drawsBallot 26 = .ok (.iconst (-1), 1) := by decide +kernel
theorem dX9_drawsBallot_27 : decode cX9_drawsBallot 27 = .ok (.if_icmp .eq 6, 3) := by decide +kernel
theorem dX9_drawsBallot_30 : decode cX9_drawsBallot 30 = .ok (.goto 48, 3) := by decide +kernel
theorem dX9_drawsBallot_33 : decode cX9_drawsBallot 33 = .ok (.aload_n 0, 1) := by decide +kernel
theorem dX9_drawsBallot_34 : decode cX9_drawsBallot 34 = .ok (.iload_n 2, 1) := by decide +kernel
theorem dX9_drawsBallot_35 : decode cX9_drawsBallot 35 = .ok (.aload_n 0, 1) := by decide +kernel
theorem dX9_drawsBallot_36 : decode cX9_drawsBallot 36 = .ok (.iload_n 1, 1) := by decide +kernel
theorem dX9_drawsBallot_37 : decode cX9_drawsBallot 37 = .ok (.iload_n 2, 1) := by decide +kernel
theorem dX9_drawsBallot_38 : decode cX9_drawsBallot 38 = .ok (.invokevirtual 172, 3) := by decide +kernel
theorem dX9_drawsBallot_41 : decode cX9_drawsBallot 41 = .ok (.aload_n 0, 1) := by decide +kernel
theorem dX9_drawsBallot_42 : decode cX9_drawsBallot 42 = .ok (.iload_n 1, 1) := by decide +kernel
theorem dX9_drawsBallot_43 : decode cX9_drawsBallot 43 = .ok (.iload_n 2, 1) := by decide +kernel
theorem dX9_drawsBallot_44 : decode cX9_drawsBallot 44 = .ok (.invokevirtual 103, 3) := by decide +kernel
theorem dX9_drawsBallot_47 : decode cX9_drawsBallot 47 = .ok (.aload_n 0, 1) := by decide +kernel
theorem dX9_drawsBallot_48 : decode cX9_drawsBallot 48 = .ok (.getfield 9, 3) := by decide +kernel
theorem dX9_drawsBallot_51 : decode cX9_drawsBallot 51 = .ok (.iconst 3, 1) := by decide +kernel
theorem dX9_drawsBallot_52 : decode cX9_drawsBallot 52 = .ok (.iaload, 1) := by decide +kernel
theorem dX9_drawsBallot_53 : decode cX9_drawsBallot 53 = .ok (.invokevirtual 175, 3) := by decide +kernel
theorem dX9_drawsBallot_56 : decode cX9_drawsBallot 56 = .ok (.aload_n 0, 1) := by decide +kernel
theorem dX9_drawsBallot_57 : decode cX9_drawsBallot 57 = .ok (.aload_n 0, 1) := by decide +kernel
theorem dX9_drawsBallot_58 : decode cX9_drawsBallot 58 = .ok (.iload_n 2, 1) := by decide +kernel
theorem dX9_drawsBallot_59 : decode cX9_drawsBallot 59 = .ok (.invokevirtual 169, 3) := by decide +kernel
theorem dX9_drawsBallot_62 : decode cX9_drawsBallot 62 = .ok (.invokevirtual 179, 3) := by decide +kernel
theorem dX9_drawsBallot_65 : decode cX9_drawsBallot 65 = .ok (.ifCond .eq 13, 3) := by decide +kernel
theorem dX9_drawsBallot_68 : decode cX9_drawsBallot 68 = .ok (.aload_n 0, 1) := by decide +kernel
theorem dX9_drawsBallot_69 : decode cX9_drawsBallot 69 = .ok (.getfield 47, 3) := by decide +kernel
theorem dX9_drawsBallot_72 : decode cX9_drawsBallot 72 = .ok (.iload_n 2, 1) := by decide +kernel
theorem dX9_drawsBallot_73 : decode cX9_drawsBallot 73 = .ok (.aload_n 0, 1) := by decide +kernel
theorem dX9_drawsBallot_74 : decode cX9_drawsBallot 74 = .ok (.getfield 166, 3) := by decide +kernel
theorem dX9_drawsBallot_77 : decode cX9_drawsBallot 77 = .ok (.iastore, 1) := by decide +kernel
theorem dX9_drawsBallot_78 : decode cX9_drawsBallot 78 = .ok (.iinc 2 1, 3) := by decide +kernel
theorem dX9_drawsBallot_81 : decode cX9_drawsBallot 81 = .ok (.goto (-69), 3) := by decide +kernel
theorem dX9_drawsBallot_84 : decode cX9_drawsBallot 84 = .ok (.aload_n 0, 1) := by decide +kernel
theorem dX9_drawsBallot_85 : decode cX9_drawsBallot 85 = .ok (.invokevirtual 183, 3) := by decide +kernel
theorem dX9_drawsBallot_88 : decode cX9_drawsBallot 88 = .ok (.return_, 1) := by decide +kernel
theorem dX9_begins_0 : decode cX9_begins 0 = .ok (.aload_n 0, 1) := by decide +kernel
theorem dX9_begins_1 : decode cX9_begins 1 = .ok (.invokevirtual 186, 3) := by decide +kernel
theorem dX9_begins_4 : decode cX9_begins 4 = .ok (.aload_n 0, 1) := by decide +kernel
theorem dX9_begins_5 : decode cX9_begins 5 = .ok (.iconst 0, 1) := by decide +kernel
theorem dX9_begins_6 : decode cX9_begins 6 = .ok (.putfield 166, 3) := by decide +kernel
theorem dX9_begins_9 : decode cX9_begins 9 = .ok (.iconst 0, 1) := by decide +kernel
theorem dX9_begins_10 : decode cX9_begins 10 = .ok (.istore_n 1, 1) := by decide +kernel
theorem dX9_begins_11 : decode cX9_begins 11 = .ok (.iload_n 1, 1) := by decide +kernel
theorem dX9_begins_12 : decode cX9_begins 12 = .ok (.aload_n 0, 1) := by decide +kernel
theorem dX9_begins_13 : decode cX9_begins 13 = .ok (.invokevirtual 76, 3) := by decide +kernel
theorem dX9_begins_16 : decode cX9_begins 16 = .ok (.if_icmp .ge 14, 3) := by decide +kernel
theorem dX9_begins_19 : decode cX9_begins 19 = .ok (.aload_n 0, 1) := by decide +kernel
theorem dX9_begins_20 : decode cX9_begins 20 = .ok (.iload_n 1, 1) := by decide +kernel
theorem dX9_begins_21 : decode cX9_begins 21 = .ok (.invokevirtual 189, 3) := by decide +kernel
theorem dX9_begins_24 : decode cX9_begins 24 = .ok (.iinc 1 1, 3) := by decide +kernel
theorem dX9_begins_27 : decode cX9_begins 27 = .ok (.goto (-16), 3) := by decide +kernel
theorem dX9_begins_30 : decode cX9_begins 30 = .ok (.aload_n 0, 1) := by decide +kernel
theorem dX9_begins_31 : decode cX9_begins 31 = .ok (.invokevirtual 183, 3) := by decide +kernel
theorem dX9_begins_34 : decode cX9_begins 34 = .ok (.return_, 1) := by decide +kernel
theorem dX9_goes_0 : decode cX9_goes 0 = .ok (.aload_n 0, 1) := by decide +kernel
theorem dX9_goes_1 : decode cX9_goes 1 = .ok (.invokevirtual 193, 3) := by decide +kernel
theorem dX9_goes_4 : decode cX9_goes 4 = .ok (.iconst 0, 1) := by decide +kernel
theorem dX9_goes_5 : decode cX9_goes 5 = .ok (.istore_n 1, 1) := by decide +kernel
theorem dX9_goes_6 : decode cX9_goes 6 = .ok (.iload_n 1, 1) := by decide +kernel
theorem dX9_goes_7 : decode cX9_goes 7 = .ok (.aload_n 0, 1) := by decide +kernel
theorem dX9_goes_8 : decode cX9_goes 8 = .ok (.getfield 9, 3) := by decide +kernel
theorem dX9_goes_11 : decode cX9_goes 11 = .ok (.bipush 6, 2) := by decide +kernel
theorem dX9_goes_13 : decode cX9_goes 13 = .ok (.iaload, 1) := by decide +kernel
theorem dX9_goes_14 : decode cX9_goes 14 = .ok (.if_icmp .ge 30, 3) := by decide +kernel
theorem dX9_goes_17 : decode cX9_goes 17 = .ok (.aload_n 0, 1) := by decide +kernel
theorem dX9_goes_18 : decode cX9_goes 18 = .ok (.invokevirtual 196, 3) := by decide +kernel
theorem dX9_goes_21 : decode cX9_goes 21 = .ok (.ifCond .ne 23, 3) := by decide +kernel
theorem dX9_goes_24 : decode cX9_goes 24 = .ok (.aload_n 0, 1) := by decide +kernel
theorem dX9_goes_25 : decode cX9_goes 25 = .ok (.aload_n 0, 1) := by decide +kernel
theorem dX9_goes_26 : decode cX9_goes 26 = .ok (.getfield 9, 3) := by decide +kernel
theorem dX9_goes_29 : decode cX9_goes 29 = .ok (.sipush 1214, 3) := by decide +kernel
theorem dX9_goes_32 : decode cX9_goes 32 = .ok (.iload_n 1, 1) := by decide +kernel
theorem dX9_goes_33 : decode cX9_goes 33 = .ok (.iadd, 1) := by decide +kernel
theorem dX9_goes_34 : decode cX9_goes 34 = .ok (.iaload, 1) := by decide +kernel
theorem dX9_goes_35 : decode cX9_goes 35 = .ok (.invokevirtual 200, 3) := by decide +kernel
theorem dX9_goes_38 : decode cX9_goes 38 = .ok (.iinc 1 1, 3) := by decide +kernel
theorem dX9_goes_41 : decode cX9_goes 41 = .ok (.goto (-35), 3) := by decide +kernel
theorem dX9_goes_44 : decode cX9_goes 44 = .ok (.return_, 1) := by decide +kernel
theorem dX9_isByHand_0 : decode cX9_isByHand 0 = .ok (.aload_n 0, 1) := by decide +kernel
theorem dX9_isByHand_1 : decode cX9_isByHand 1 = .ok (.invokevirtual 196, 3) := by decide +kernel
theorem dX9_isByHand_4 : decode cX9_isByHand 4 = .ok (.ifCond .ne 20, 3) := by decide +kernel
theorem dX9_isByHand_7 : decode cX9_isByHand 7 = .ok (.aload_n 0, 1) := by decide +kernel
theorem dX9_isByHand_8 : decode cX9_isByHand 8 = .ok (.getfield 166, 3) := by decide +kernel
theorem dX9_isByHand_11 : decode cX9_isByHand 11 = .ok (.aload_n 0, 1) := by decide +kernel
theorem dX9_isByHand_12 : decode cX9_isByHand 12 = .ok (.getfield 9, 3) := by decide +kernel
theorem dX9_isByHand_15 : decode cX9_isByHand 15 = .ok (.iconst 4, 1) := by decide +kernel
theorem dX9_isByHand_16 : decode cX9_isByHand 16 = .ok (.iaload, 1) := by decide +kernel
theorem dX9_isByHand_17 : decode cX9_isByHand 17 = .ok (.if_icmp .lt 7, 3) := by decide +kernel
theorem dX9_isByHand_20 : decode cX9_isByHand 20 = .ok (.iconst 1, 1) := by decide +kernel
theorem dX9_isByHand_21 : decode cX9_isByHand 21 = .ok (.goto 4, 3) := by decide +kernel
theorem dX9_isByHand_24 : decode cX9_isByHand 24 = .ok (.iconst 0, 1) := by decide +kernel
theorem dX9_isByHand_25 : decode cX9_isByHand 25 = .ok (.ireturn, 1) := by decide +kernel
theorem dX9_drawnBy_0 : decode cX9_drawnBy 0 = .ok (.aload_n 0, 1) := by decide +kernel
theorem dX9_drawnBy_1 : decode cX9_drawnBy 1 = .ok (.aload_n 0, 1) := by decide +kernel
theorem dX9_drawnBy_2 : decode cX9_drawnBy 2 = .ok (.getfield 203, 3) := by decide +kernel
theorem dX9_drawnBy_5 : decode cX9_drawnBy 5 = .ok (.ldc 206, 2) := by decide +kernel
theorem dX9_drawnBy_7 : decode cX9_drawnBy 7 = .ok (.imul, 1) := by decide +kernel
theorem dX9_drawnBy_8 : decode cX9_drawnBy 8 = .ok (.sipush 12345, 3) := by decide +kernel
theorem dX9_drawnBy_11 : decode cX9_drawnBy 11 = .ok (.iadd, 1) := by decide +kernel
theorem dX9_drawnBy_12 : decode cX9_drawnBy 12 = .ok (.putfield 203, 3) := by decide +kernel
theorem dX9_drawnBy_15 : decode cX9_drawnBy 15 = .ok (.aload_n 0, 1) := by decide +kernel
theorem dX9_drawnBy_16 : decode cX9_drawnBy 16 = .ok (.getfield 203, 3) := by decide +kernel
theorem dX9_drawnBy_19 : decode cX9_drawnBy 19 = .ok (.bipush 16, 2) := by decide +kernel
theorem dX9_drawnBy_21 : decode cX9_drawnBy 21 = .ok (.ishr, 1) := by decide +kernel
theorem dX9_drawnBy_22 : decode cX9_drawnBy 22 = .ok (.sipush 32767, 3) := by decide +kernel
theorem dX9_drawnBy_25 : decode cX9_drawnBy 25 = .ok (.iand, 1) := by decide +kernel
theorem dX9_drawnBy_26 : decode cX9_drawnBy 26 = .ok (.aload_n 0, 1) := by decide +kernel
theorem dX9_drawnBy_27 : decode cX9_drawnBy 27 = .ok (.invokevirtual 84, 3) := by decide +kernel
theorem dX9_drawnBy_30 : decode cX9_drawnBy 30 = .ok (.irem, 1) := by decide +kernel
theorem dX9_drawnBy_31 : decode cX9_drawnBy 31 = .ok (.ireturn, 1) := by decide +kernel
theorem dX9_seeds_0 : decode cX9_seeds 0 = .ok (.aload_n 0, 1) := by decide +kernel
theorem dX9_seeds_1 : decode cX9_seeds 1 = .ok (.aload_n 0, 1) := by decide +kernel
theorem dX9_seeds_2 : decode cX9_seeds 2 = .ok (.getfield 9, 3) := by decide +kernel
theorem dX9_seeds_5 : decode cX9_seeds 5 = .ok (.iconst 5, 1) := by decide +kernel
theorem dX9_seeds_6 : decode cX9_seeds 6 = .ok (.iaload, 1) := by decide +kernel
theorem dX9_seeds_7 : decode cX9_seeds 7 = .ok (.putfield 203, 3) := by decide +kernel
theorem dX9_seeds_10 : decode cX9_seeds 10 = .ok (.iconst 0, 1) := by decide +kernel
theorem dX9_seeds_11 : decode cX9_seeds 11 = .ok (.istore_n 1, 1) := by decide +kernel
theorem dX9_seeds_12 : decode cX9_seeds 12 = .ok (.iload_n 1, 1) := by decide +kernel
theorem dX9_seeds_13 : decode cX9_seeds 13 = .ok (.aload_n 0, 1) := by decide +kernel
theorem dX9_seeds_14 : decode cX9_seeds 14 = .ok (.getfield 9, 3) := by decide +kernel
theorem dX9_seeds_17 : decode cX9_seeds 17 = .ok (.bipush 6, 2) := by decide +kernel
theorem dX9_seeds_19 : decode cX9_seeds 19 = .ok (.iaload, 1) := by decide +kernel
theorem dX9_seeds_20 : decode cX9_seeds 20 = .ok (.if_icmp .ge 14, 3) := by decide +kernel
theorem dX9_seeds_23 : decode cX9_seeds 23 = .ok (.aload_n 0, 1) := by decide +kernel
theorem dX9_seeds_24 : decode cX9_seeds 24 = .ok (.invokevirtual 207, 3) := by decide +kernel
theorem dX9_seeds_27 : decode cX9_seeds 27 = .ok (.istore_n 2, 1) := by decide +kernel
theorem dX9_seeds_28 : decode cX9_seeds 28 = .ok (.iinc 1 1, 3) := by decide +kernel
theorem dX9_seeds_31 : decode cX9_seeds 31 = .ok (.goto (-19), 3) := by decide +kernel
theorem dX9_seeds_34 : decode cX9_seeds 34 = .ok (.return_, 1) := by decide +kernel
theorem dX9_draw_0 : decode cX9_draw 0 = .ok (.aload_n 0, 1) := by decide +kernel
theorem dX9_draw_1 : decode cX9_draw 1 = .ok (.iconst 0, 1) := by decide +kernel
theorem dX9_draw_2 : decode cX9_draw 2 = .ok (.putfield 73, 3) := by decide +kernel
theorem dX9_draw_5 : decode cX9_draw 5 = .ok (.iload_n 1, 1) := by decide +kernel
theorem dX9_draw_6 : decode cX9_draw 6 = .ok (.iconst 1, 1) := by decide +kernel
theorem dX9_draw_7 : decode cX9_draw 7 = .ok (.sipush 300, 3) := by decide +kernel
theorem dX9_draw_10 : decode cX9_draw 10 = .ok (.invokestatic 80, 3) := by decide +kernel
theorem dX9_draw_13 : decode cX9_draw 13 = .ok (.ifCond .ne 9, 3) := by decide +kernel
theorem dX9_draw_16 : decode cX9_draw 16 = .ok (.aload_n 0, 1) := by decide +kernel
theorem dX9_draw_17 : decode cX9_draw 17 = .ok (.iconst 1, 1) := by decide +kernel
theorem dX9_draw_18 : decode cX9_draw 18 = .ok (.invokevirtual 210, 3) := by decide +kernel
theorem dX9_draw_21 : decode cX9_draw 21 = .ok (.ireturn, 1) := by decide +kernel
theorem dX9_draw_22 : decode cX9_draw 22 = .ok (.aload_n 0, 1) := by decide +kernel
theorem dX9_draw_23 : decode cX9_draw 23 = .ok (.invokevirtual 213, 3) := by decide +kernel
theorem dX9_draw_26 : decode cX9_draw 26 = .ok (.aload_n 0, 1) := by decide +kernel
theorem dX9_draw_27 : decode cX9_draw 27 = .ok (.invokevirtual 196, 3) := by decide +kernel
theorem dX9_draw_30 : decode cX9_draw 30 = .ok (.ifCond .ne 23, 3) := by decide +kernel
theorem dX9_draw_33 : decode cX9_draw 33 = .ok (.aload_n 0, 1) := by decide +kernel
theorem dX9_draw_34 : decode cX9_draw 34 = .ok (.getfield 166, 3) := by decide +kernel
theorem dX9_draw_37 : decode cX9_draw 37 = .ok (.aload_n 0, 1) := by decide +kernel
theorem dX9_draw_38 : decode cX9_draw 38 = .ok (.getfield 9, 3) := by decide +kernel
theorem dX9_draw_41 : decode cX9_draw 41 = .ok (.iconst 4, 1) := by decide +kernel
theorem dX9_draw_42 : decode cX9_draw 42 = .ok (.iaload, 1) := by decide +kernel
theorem dX9_draw_43 : decode cX9_draw 43 = .ok (.if_icmp .ge 10, 3) := by decide +kernel
theorem dX9_draw_46 : decode cX9_draw 46 = .ok (.aload_n 0, 1) := by decide +kernel
theorem dX9_draw_47 : decode cX9_draw 47 = .ok (.invokevirtual 84, 3) := by decide +kernel
theorem dX9_draw_50 : decode cX9_draw 50 = .ok (.ifCond .ne 5, 3) := by decide +kernel
theorem dX9_draw_53 : decode cX9_draw 53 = .ok (.iconst (-1), 1) := by decide +kernel
theorem dX9_draw_54 : decode cX9_draw 54 = .ok (.ireturn, 1) := by decide +kernel
theorem dX9_draw_55 : decode cX9_draw 55 = .ok (.aload_n 0, 1) := by decide +kernel
theorem dX9_draw_56 : decode cX9_draw 56 = .ok (.invokevirtual 216, 3) := by decide +kernel
theorem dX9_draw_59 : decode cX9_draw 59 = .ok (.aload_n 0, 1) := by decide +kernel
theorem dX9_draw_60 : decode cX9_draw 60 = .ok (.invokevirtual 219, 3) := by decide +kernel
theorem dX9_draw_63 : decode cX9_draw 63 = .ok (.aload_n 0, 1) := by decide +kernel
theorem dX9_draw_64 : decode cX9_draw 64 = .ok (.getfield 166, 3) := by decide +kernel
theorem dX9_draw_67 : decode cX9_draw 67 = .ok (.istore_n 2, 1) := by decide +kernel
theorem dX9_draw_68 : decode cX9_draw 68 = .ok (.aload_n 0, 1) := by decide +kernel
theorem dX9_draw_69 : decode cX9_draw 69 = .ok (.getfield 166, 3) := by decide +kernel
theorem dX9_draw_72 : decode cX9_draw 72 = .ok (.iload_n 2, 1) := by decide +kernel
theorem dX9_draw_73 : decode cX9_draw 73 = .ok (.isub, 1) := by decide +kernel
theorem dX9_draw_74 : decode cX9_draw 74 = .ok (.iload_n 1, 1) := by decide +kernel
theorem dX9_draw_75 : decode cX9_draw 75 = .ok (.if_icmp .ge 30, 3) := by decide +kernel
theorem dX9_draw_78 : decode cX9_draw 78 = .ok (.aload_n 0, 1) := by decide +kernel
theorem dX9_draw_79 : decode cX9_draw 79 = .ok (.invokevirtual 196, 3) := by decide +kernel
theorem dX9_draw_82 : decode cX9_draw 82 = .ok (.ifCond .ne 23, 3) := by decide +kernel
theorem dX9_draw_85 : decode cX9_draw 85 = .ok (.aload_n 0, 1) := by decide +kernel
theorem dX9_draw_86 : decode cX9_draw 86 = .ok (.getfield 166, 3) := by decide +kernel
theorem dX9_draw_89 : decode cX9_draw 89 = .ok (.aload_n 0, 1) := by decide +kernel
theorem dX9_draw_90 : decode cX9_draw 90 = .ok (.getfield 9, 3) := by decide +kernel
theorem dX9_draw_93 : decode cX9_draw 93 = .ok (.iconst 4, 1) := by decide +kernel
theorem dX9_draw_94 : decode cX9_draw 94 = .ok (.iaload, 1) := by decide +kernel
theorem dX9_draw_95 : decode cX9_draw 95 = .ok (.if_icmp .ge 10, 3) := by decide +kernel
theorem dX9_draw_98 : decode cX9_draw 98 = .ok (.aload_n 0, 1) := by decide +kernel
theorem dX9_draw_99 : decode cX9_draw 99 = .ok (.invokevirtual 222, 3) := by decide +kernel
theorem dX9_draw_102 : decode cX9_draw 102 = .ok (.goto (-34), 3) := by decide +kernel
theorem dX9_draw_105 : decode cX9_draw 105 = .ok (.aload_n 0, 1) := by decide +kernel
theorem dX9_draw_106 : decode cX9_draw 106 = .ok (.getfield 166, 3) := by decide +kernel
theorem dX9_draw_109 : decode cX9_draw 109 = .ok (.iload_n 2, 1) := by decide +kernel
theorem dX9_draw_110 : decode cX9_draw 110 = .ok (.isub, 1) := by decide +kernel
theorem dX9_draw_111 : decode cX9_draw 111 = .ok (.ireturn, 1) := by decide +kernel
theorem dX9_drawsOne_0 : decode cX9_drawsOne 0 = .ok (.aload_n 0, 1) := by decide +kernel
theorem dX9_drawsOne_1 : decode cX9_drawsOne 1 = .ok (.invokevirtual 207, 3) := by decide +kernel
theorem dX9_drawsOne_4 : decode cX9_drawsOne 4 = .ok (.istore_n 1, 1) := by decide +kernel
theorem dX9_drawsOne_5 : decode cX9_drawsOne 5 = .ok (.aload_n 0, 1) := by decide +kernel
theorem dX9_drawsOne_6 : decode cX9_drawsOne 6 = .ok (.getfield 9, 3) := by decide +kernel
theorem dX9_drawsOne_9 : decode cX9_drawsOne 9 = .ok (.sipush 1214, 3) := by decide +kernel
theorem dX9_drawsOne_12 : decode cX9_drawsOne 12 = .ok (.aload_n 0, 1) := by decide +kernel
theorem dX9_drawsOne_13 : decode cX9_drawsOne 13 = .ok (.getfield 9, 3) := by decide +kernel
theorem dX9_drawsOne_16 : decode cX9_drawsOne 16 = .ok (.bipush 6, 2) := by decide +kernel
theorem dX9_drawsOne_18 : decode cX9_drawsOne 18 = .ok (.iaload, 1) := by decide +kernel
theorem dX9_drawsOne_19 : decode cX9_drawsOne 19 = .ok (.iadd, 1) := by decide +kernel
theorem dX9_drawsOne_20 : decode cX9_drawsOne 20 = .ok (.iload_n 1, 1) := by decide +kernel
theorem dX9_drawsOne_21 : decode cX9_drawsOne 21 = .ok (.iastore, 1) := by decide +kernel
theorem dX9_drawsOne_22 : decode cX9_drawsOne 22 = .ok (.aload_n 0, 1) := by decide +kernel
theorem dX9_drawsOne_23 : decode cX9_drawsOne 23 = .ok (.getfield 9, 3) := by decide +kernel
theorem dX9_drawsOne_26 : decode cX9_drawsOne 26 = .ok (.bipush 6, 2) := by decide +kernel
theorem dX9_drawsOne_28 : decode cX9_drawsOne 28 = .ok (.dup2, 1) := by decide +kernel
theorem dX9_drawsOne_29 : decode cX9_drawsOne 29 = .ok (.iaload, 1) := by decide +kernel
theorem dX9_drawsOne_30 : decode cX9_drawsOne 30 = .ok (.iconst 1, 1) := by decide +kernel
theorem dX9_drawsOne_31 : decode cX9_drawsOne 31 = .ok (.iadd, 1) := by decide +kernel
theorem dX9_drawsOne_32 : decode cX9_drawsOne 32 = .ok (.iastore, 1) := by decide +kernel
theorem dX9_drawsOne_33 : decode cX9_drawsOne 33 = .ok (.aload_n 0, 1) := by decide +kernel
theorem dX9_drawsOne_34 : decode cX9_drawsOne 34 = .ok (.iload_n 1, 1) := by decide +kernel
theorem dX9_drawsOne_35 : decode cX9_drawsOne 35 = .ok (.invokevirtual 200, 3) := by decide +kernel
theorem dX9_drawsOne_38 : decode cX9_drawsOne 38 = .ok (.return_, 1) := by decide +kernel
theorem dX9_layTimes_0 : decode cX9_layTimes 0 = .ok (.iconst 0, 1) := by decide +kernel
theorem dX9_layTimes_1 : decode cX9_layTimes 1 = .ok (.istore_n 1, 1) := by decide +kernel
theorem dX9_layTimes_2 : decode cX9_layTimes 2 = .ok (.iload_n 1, 1) := by decide +kernel
theorem dX9_layTimes_3 : decode cX9_layTimes 3 = .ok (.sipush 200, 3) := by decide +kernel
theorem dX9_layTimes_6 : decode cX9_layTimes 6 = .ok (.if_icmp .ge 16, 3) := by decide +kernel
theorem dX9_layTimes_9 : decode cX9_layTimes 9 = .ok (.aload_n 0, 1) := by decide +kernel
theorem dX9_layTimes_10 : decode cX9_layTimes 10 = .ok (.getfield 53, 3) := by decide +kernel
theorem dX9_layTimes_13 : decode cX9_layTimes 13 = .ok (.iload_n 1, 1) := by decide +kernel
theorem dX9_layTimes_14 : decode cX9_layTimes 14 = .ok (.iconst 0, 1) := by decide +kernel
theorem dX9_layTimes_15 : decode cX9_layTimes 15 = .ok (.iastore, 1) := by decide +kernel
theorem dX9_layTimes_16 : decode cX9_layTimes 16 = .ok (.iinc 1 1, 3) := by decide +kernel
theorem dX9_layTimes_19 : decode cX9_layTimes 19 = .ok (.goto (-17), 3) := by decide +kernel
theorem dX9_layTimes_22 : decode cX9_layTimes 22 = .ok (.iconst 0, 1) := by decide +kernel
theorem dX9_layTimes_23 : decode cX9_layTimes 23 = .ok (.istore_n 1, 1) := by decide +kernel
theorem dX9_layTimes_24 : decode cX9_layTimes 24 = .ok (.iload_n 1, 1) := by decide +kernel
theorem dX9_layTimes_25 : decode cX9_layTimes 25 = .ok (.aload_n 0, 1) := by decide +kernel
theorem dX9_layTimes_26 : decode cX9_layTimes 26 = .ok (.getfield 166, 3) := by decide +kernel
theorem dX9_layTimes_29 : decode cX9_layTimes 29 = .ok (.if_icmp .ge 28, 3) := by decide +kernel
theorem dX9_layTimes_32 : decode cX9_layTimes 32 = .ok (.aload_n 0, 1) := by decide +kernel
theorem dX9_layTimes_33 : decode cX9_layTimes 33 = .ok (.getfield 53, 3) := by decide +kernel
theorem dX9_layTimes_36 : decode cX9_layTimes 36 = .ok (.aload_n 0, 1) := by decide +kernel
theorem dX9_layTimes_37 : decode cX9_layTimes 37 = .ok (.getfield 9, 3) := by decide +kernel
theorem dX9_layTimes_40 : decode cX9_layTimes 40 = .ok (.sipush 1214, 3) := by decide +kernel
theorem dX9_layTimes_43 : decode cX9_layTimes 43 = .ok (.iload_n 1, 1) := by decide +kernel
theorem dX9_layTimes_44 : decode cX9_layTimes 44 = .ok (.iadd, 1) := by decide +kernel
theorem dX9_layTimes_45 : decode cX9_layTimes 45 = .ok (.iaload, 1) := by decide +kernel
theorem dX9_layTimes_46 : decode cX9_layTimes 46 = .ok (.dup2, 1) := by decide +kernel
theorem dX9_layTimes_47 : decode cX9_layTimes 47 = .ok (.iaload, 1) := by decide +kernel
theorem dX9_layTimes_48 : decode cX9_layTimes 48 = .ok (.iconst 1, 1) := by decide +kernel
theorem dX9_layTimes_49 : decode cX9_layTimes 49 = .ok (.iadd, 1) := by decide +kernel
theorem dX9_layTimes_50 : decode cX9_layTimes 50 = .ok (.iastore, 1) := by decide +kernel
theorem dX9_layTimes_51 : decode cX9_layTimes 51 = .ok (.iinc 1 1, 3) := by decide +kernel
theorem dX9_layTimes_54 : decode cX9_layTimes 54 = .ok (.goto (-30), 3) := by decide +kernel
theorem dX9_layTimes_57 : decode cX9_layTimes 57 = .ok (.return_, 1) := by decide +kernel
theorem dX9_unlikeDrawn_0 : decode cX9_unlikeDrawn 0 = .ok (.aload_n 0, 1) := by decide +kernel
theorem dX9_unlikeDrawn_1 : decode cX9_unlikeDrawn 1 = .ok (.invokevirtual 225, 3) := by decide +kernel
theorem dX9_unlikeDrawn_4 : decode cX9_unlikeDrawn 4 = .ok (.iconst 0, 1) := by decide +kernel
theorem dX9_unlikeDrawn_5 : decode cX9_unlikeDrawn 5 = .ok (.istore_n 1, 1) := by decide +kernel
theorem dX9_unlikeDrawn_6 : decode cX9_unlikeDrawn 6 = .ok (.iconst 0, 1) := by decide +kernel
theorem dX9_unlikeDrawn_7 : decode cX9_unlikeDrawn 7 = .ok (.istore_n 2, 1) := by decide +kernel
theorem dX9_unlikeDrawn_8 : decode cX9_unlikeDrawn 8 = .ok (.iload_n 2, 1) := by decide +kernel
theorem dX9_unlikeDrawn_9 : decode cX9_unlikeDrawn 9 = .ok (.aload_n 0, 1) := by decide +kernel
theorem dX9_unlikeDrawn_10 : decode cX9_unlikeDrawn 10 = .ok (.invokevirtual 84, 3) := by decide +kernel
theorem dX9_unlikeDrawn_13 : decode cX9_unlikeDrawn 13 = .ok (.if_icmp .ge 21, 3) := by decide +kernel
theorem dX9_unlikeDrawn_16 : decode cX9_unlikeDrawn 16 = .ok (.aload_n 0, 1) := by decide +kernel
theorem dX9_unlikeDrawn_17 : decode cX9_unlikeDrawn 17 = .ok (.getfield 53, 3) := by decide +kernel
theorem dX9_unlikeDrawn_20 : decode cX9_unlikeDrawn 20 = .ok (.iload_n 2, 1) := by decide +kernel
theorem dX9_unlikeDrawn_21 : decode cX9_unlikeDrawn 21 = .ok (.iaload, 1) := by decide +kernel
theorem dX9_unlikeDrawn_22 : decode cX9_unlikeDrawn 22 = .ok (.ifCond .le 6, 3) := by decide +kernel
theorem dX9_unlikeDrawn_25 : decode cX9_unlikeDrawn 25 = .ok (.iinc 1 1, 3) := by decide +kernel
theorem dX9_unlikeDrawn_28 : decode cX9_unlikeDrawn 28 = .ok (.iinc 2 1, 3) := by decide +kernel
theorem dX9_unlikeDrawn_31 : decode cX9_unlikeDrawn 31 = .ok (.goto (-23), 3) := by decide +kernel
theorem dX9_unlikeDrawn_34 : decode cX9_unlikeDrawn 34 = .ok (.iload_n 1, 1) := by decide +kernel
theorem dX9_unlikeDrawn_35 : decode cX9_unlikeDrawn 35 = .ok (.ireturn, 1) := by decide +kernel
theorem dX9_doneMany_0 : decode cX9_doneMany 0 = .ok (.iconst 0, 1) := by decide +kernel
theorem dX9_doneMany_1 : decode cX9_doneMany 1 = .ok (.istore_n 1, 1) := by decide +kernel
theorem dX9_doneMany_2 : decode cX9_doneMany 2 = .ok (.iconst 0, 1) := by decide +kernel
theorem dX9_doneMany_3 : decode cX9_doneMany 3 = .ok (.istore_n 2, 1) := by decide +kernel
theorem dX9_doneMany_4 : decode cX9_doneMany 4 = .ok (.iload_n 2, 1) := by decide +kernel
theorem dX9_doneMany_5 : decode cX9_doneMany 5 = .ok (.aload_n 0, 1) := by decide +kernel
theorem dX9_doneMany_6 : decode cX9_doneMany 6 = .ok (.invokevirtual 76, 3) := by decide +kernel
theorem dX9_doneMany_9 : decode cX9_doneMany 9 = .ok (.if_icmp .ge 22, 3) := by decide +kernel
theorem dX9_doneMany_12 : decode cX9_doneMany 12 = .ok (.aload_n 0, 1) := by decide +kernel
theorem dX9_doneMany_13 : decode cX9_doneMany 13 = .ok (.getfield 47, 3) := by decide +kernel
theorem dX9_doneMany_16 : decode cX9_doneMany 16 = .ok (.iload_n 2, 1) := by decide +kernel
theorem dX9_doneMany_17 : decode cX9_doneMany 17 = .ok (.iaload, 1) := by decide +kernel
theorem dX9_doneMany_18 : decode cX9_doneMany 18 = .ok (.iconst (-1), 1) := by decide +kernel
theorem dX9_doneMany_19 : decode cX9_doneMany 19 = .ok (.if_icmp .eq 6, 3) := by decide +kernel
theorem dX9_doneMany_22 : decode cX9_doneMany 22 = .ok (.iinc 1 1, 3) := by decide +kernel
theorem dX9_doneMany_25 : decode cX9_doneMany 25 = .ok (.iinc 2 1, 3) := by decide +kernel
theorem dX9_doneMany_28 : decode cX9_doneMany 28 = .ok (.goto (-24), 3) := by decide +kernel
theorem dX9_doneMany_31 : decode cX9_doneMany 31 = .ok (.iload_n 1, 1) := by decide +kernel
theorem dX9_doneMany_32 : decode cX9_doneMany 32 = .ok (.ireturn, 1) := by decide +kernel
theorem dX9_count_0 : decode cX9_count 0 = .ok (.aload_n 0, 1) := by decide +kernel
theorem dX9_count_1 : decode cX9_count 1 = .ok (.iconst 0, 1) := by decide +kernel
theorem dX9_count_2 : decode cX9_count 2 = .ok (.putfield 73, 3) := by decide +kernel
theorem dX9_count_5 : decode cX9_count 5 = .ok (.aload_n 0, 1) := by decide +kernel
theorem dX9_count_6 : decode cX9_count 6 = .ok (.invokevirtual 213, 3) := by decide +kernel
theorem dX9_count_9 : decode cX9_count 9 = .ok (.iload_n 1, 1) := by decide +kernel
theorem dX9_count_10 : decode cX9_count 10 = .ok (.tableswitch 120 0 11 #[62, 62, 62, 62, 62, 69, 74, 79, 84, 97, 110, 115], 62) := by decide +kernel
theorem dX9_count_72 : decode cX9_count 72 = .ok (.aload_n 0, 1) := by decide +kernel
theorem dX9_count_73 : decode cX9_count 73 = .ok (.getfield 9, 3) := by decide +kernel
theorem dX9_count_76 : decode cX9_count 76 = .ok (.iload_n 1, 1) := by decide +kernel
theorem dX9_count_77 : decode cX9_count 77 = .ok (.iaload, 1) := by decide +kernel
theorem dX9_count_78 : decode cX9_count 78 = .ok (.ireturn, 1) := by decide +kernel
theorem dX9_count_79 : decode cX9_count 79 = .ok (.aload_n 0, 1) := by decide +kernel
theorem dX9_count_80 : decode cX9_count 80 = .ok (.getfield 166, 3) := by decide +kernel
theorem dX9_count_83 : decode cX9_count 83 = .ok (.ireturn, 1) := by decide +kernel
theorem dX9_count_84 : decode cX9_count 84 = .ok (.aload_n 0, 1) := by decide +kernel
theorem dX9_count_85 : decode cX9_count 85 = .ok (.invokevirtual 228, 3) := by decide +kernel
theorem dX9_count_88 : decode cX9_count 88 = .ok (.ireturn, 1) := by decide +kernel
theorem dX9_count_89 : decode cX9_count 89 = .ok (.aload_n 0, 1) := by decide +kernel
theorem dX9_count_90 : decode cX9_count 90 = .ok (.invokevirtual 163, 3) := by decide +kernel
theorem dX9_count_93 : decode cX9_count 93 = .ok (.ireturn, 1) := by decide +kernel
theorem dX9_count_94 : decode cX9_count 94 = .ok (.aload_n 0, 1) := by decide +kernel
theorem dX9_count_95 : decode cX9_count 95 = .ok (.invokevirtual 196, 3) := by decide +kernel
theorem dX9_count_98 : decode cX9_count 98 = .ok (.ifCond .eq 7, 3) := by decide +kernel
theorem dX9_count_101 : decode cX9_count 101 = .ok (.iconst 1, 1) := by decide +kernel
theorem dX9_count_102 : decode cX9_count 102 = .ok (.goto 4, 3) := by decide +kernel
theorem dX9_count_105 : decode cX9_count 105 = .ok (.iconst 0, 1) := by decide +kernel
theorem dX9_count_106 : decode cX9_count 106 = .ok (.ireturn, 1) := by decide +kernel
theorem dX9_count_107 : decode cX9_count 107 = .ok (.aload_n 0, 1) := by decide +kernel
theorem dX9_count_108 : decode cX9_count 108 = .ok (.invokevirtual 231, 3) := by decide +kernel
theorem dX9_count_111 : decode cX9_count 111 = .ok (.ifCond .eq 7, 3) := by decide +kernel
theorem dX9_count_114 : decode cX9_count 114 = .ok (.iconst 1, 1) := by decide +kernel
theorem dX9_count_115 : decode cX9_count 115 = .ok (.goto 4, 3) := by decide +kernel
theorem dX9_count_118 : decode cX9_count 118 = .ok (.iconst 0, 1) := by decide +kernel
theorem dX9_count_119 : decode cX9_count 119 = .ok (.ireturn, 1) := by decide +kernel
theorem dX9_count_120 : decode cX9_count 120 = .ok (.aload_n 0, 1) := by decide +kernel
theorem dX9_count_121 : decode cX9_count 121 = .ok (.getfield 234, 3) := by decide +kernel
theorem dX9_count_124 : decode cX9_count 124 = .ok (.ireturn, 1) := by decide +kernel
theorem dX9_count_125 : decode cX9_count 125 = .ok (.aload_n 0, 1) := by decide +kernel
theorem dX9_count_126 : decode cX9_count 126 = .ok (.getfield 237, 3) := by decide +kernel
theorem dX9_count_129 : decode cX9_count 129 = .ok (.ireturn, 1) := by decide +kernel
theorem dX9_count_130 : decode cX9_count 130 = .ok (.aload_n 0, 1) := by decide +kernel
theorem dX9_count_131 : decode cX9_count 131 = .ok (.iconst 1, 1) := by decide +kernel
theorem dX9_count_132 : decode cX9_count 132 = .ok (.invokevirtual 210, 3) := by decide +kernel
theorem dX9_count_135 : decode cX9_count 135 = .ok (.ireturn, 1) := by decide +kernel
theorem dX9_wins_0 : decode cX9_wins 0 = .ok (.aload_n 0, 1) := by decide +kernel
theorem dX9_wins_1 : decode cX9_wins 1 = .ok (.getfield 47, 3) := by decide +kernel
theorem dX9_wins_4 : decode cX9_wins 4 = .ok (.iload_n 1, 1) := by decide +kernel
theorem dX9_wins_5 : decode cX9_wins 5 = .ok (.iaload, 1) := by decide +kernel
theorem dX9_wins_6 : decode cX9_wins 6 = .ok (.iconst (-1), 1) := by decide +kernel
theorem dX9_wins_7 : decode cX9_wins 7 = .ok (.if_icmp .eq 12, 3) := by decide +kernel
theorem dX9_wins_10 : decode cX9_wins 10 = .ok (.aload_n 0, 1) := by decide +kernel
theorem dX9_wins_11 : decode cX9_wins 11 = .ok (.getfield 31, 3) := by decide +kernel
theorem dX9_wins_14 : decode cX9_wins 14 = .ok (.iload_n 1, 1) := by decide +kernel
theorem dX9_wins_15 : decode cX9_wins 15 = .ok (.iaload, 1) := by decide +kernel
theorem dX9_wins_16 : decode cX9_wins 16 = .ok (.goto 20, 3) := by decide +kernel
theorem dX9_wins_19 : decode cX9_wins 19 = .ok (.aload_n 0, 1) := by decide +kernel
theorem dX9_wins_20 : decode cX9_wins 20 = .ok (.invokevirtual 231, 3) := by decide +kernel
theorem dX9_wins_23 : decode cX9_wins 23 = .ok (.ifCond .eq 12, 3) := by decide +kernel
theorem dX9_wins_26 : decode cX9_wins 26 = .ok (.aload_n 0, 1) := by decide +kernel
theorem dX9_wins_27 : decode cX9_wins 27 = .ok (.getfield 34, 3) := by decide +kernel
theorem dX9_wins_30 : decode cX9_wins 30 = .ok (.iload_n 1, 1) := by decide +kernel
theorem dX9_wins_31 : decode cX9_wins 31 = .ok (.iaload, 1) := by decide +kernel
theorem dX9_wins_32 : decode cX9_wins 32 = .ok (.goto 4, 3) := by decide +kernel
theorem dX9_wins_35 : decode cX9_wins 35 = .ok (.iconst (-1), 1) := by decide +kernel
theorem dX9_wins_36 : decode cX9_wins 36 = .ok (.ireturn, 1) := by decide +kernel
theorem dX9_race_0 : decode cX9_race 0 = .ok (.aload_n 0, 1) := by decide +kernel
theorem dX9_race_1 : decode cX9_race 1 = .ok (.iconst 0, 1) := by decide +kernel
theorem dX9_race_2 : decode cX9_race 2 = .ok (.putfield 73, 3) := by decide +kernel
theorem dX9_race_5 : decode cX9_race 5 = .ok (.aload_n 0, 1) := by decide +kernel
theorem dX9_race_6 : decode cX9_race 6 = .ok (.iload_n 1, 1) := by decide +kernel
theorem dX9_race_7 : decode cX9_race 7 = .ok (.invokevirtual 240, 3) := by decide +kernel
theorem dX9_race_10 : decode cX9_race 10 = .ok (.ifCond .eq 13, 3) := by decide +kernel
theorem dX9_race_13 : decode cX9_race 13 = .ok (.iload_n 2, 1) := by decide +kernel
theorem dX9_race_14 : decode cX9_race 14 = .ok (.iconst 0, 1) := by decide +kernel
theorem dX9_race_15 : decode cX9_race 15 = .ok (.bipush 7, 2) := by decide +kernel
theorem dX9_race_17 : decode cX9_race 17 = .ok (.invokestatic 80, 3) := by decide +kernel
theorem dX9_race_20 : decode cX9_race 20 = .ok (.ifCond .ne 9, 3) := by decide +kernel
theorem dX9_race_23 : decode cX9_race 23 = .ok (.aload_n 0, 1) := by decide +kernel
theorem dX9_race_24 : decode cX9_race 24 = .ok (.iconst 1, 1) := by decide +kernel
theorem dX9_race_25 : decode cX9_race 25 = .ok (.invokevirtual 210, 3) := by decide +kernel
theorem dX9_race_28 : decode cX9_race 28 = .ok (.ireturn, 1) := by decide +kernel
theorem dX9_race_29 : decode cX9_race 29 = .ok (.aload_n 0, 1) := by decide +kernel
theorem dX9_race_30 : decode cX9_race 30 = .ok (.invokevirtual 213, 3) := by decide +kernel
theorem dX9_race_33 : decode cX9_race 33 = .ok (.iload_n 2, 1) := by decide +kernel
theorem dX9_race_34 : decode cX9_race 34 = .ok (.tableswitch 98 0 6 #[42, 48, 54, 61, 68, 75, 91], 42) := by decide +kernel
theorem dX9_race_76 : decode cX9_race 76 = .ok (.aload_n 0, 1) := by decide +kernel
theorem dX9_race_77 : decode cX9_race 77 = .ok (.iload_n 1, 1) := by decide +kernel
theorem dX9_race_78 : decode cX9_race 78 = .ok (.invokevirtual 87, 3) := by decide +kernel
theorem dX9_race_81 : decode cX9_race 81 = .ok (.ireturn, 1) := by decide +kernel
theorem dX9_race_82 : decode cX9_race 82 = .ok (.aload_n 0, 1) := by decide +kernel
theorem dX9_race_83 : decode cX9_race 83 = .ok (.iload_n 1, 1) := by decide +kernel
theorem dX9_race_84 : decode cX9_race 84 = .ok (.invokevirtual 141, 3) := by decide +kernel
theorem dX9_race_87 : decode cX9_race 87 = .ok (.ireturn, 1) := by decide +kernel
theorem dX9_race_88 : decode cX9_race 88 = .ok (.aload_n 0, 1) := by decide +kernel
theorem dX9_race_89 : decode cX9_race 89 = .ok (.getfield 31, 3) := by decide +kernel
theorem dX9_race_92 : decode cX9_race 92 = .ok (.iload_n 1, 1) := by decide +kernel
theorem dX9_race_93 : decode cX9_race 93 = .ok (.iaload, 1) := by decide +kernel
theorem dX9_race_94 : decode cX9_race 94 = .ok (.ireturn, 1) := by decide +kernel
theorem dX9_race_95 : decode cX9_race 95 = .ok (.aload_n 0, 1) := by decide +kernel
theorem dX9_race_96 : decode cX9_race 96 = .ok (.getfield 34, 3) := by decide +kernel
theorem dX9_race_99 : decode cX9_race 99 = .ok (.iload_n 1, 1) := by decide +kernel
theorem dX9_race_100 : decode cX9_race 100 = .ok (.iaload, 1) := by decide +kernel
theorem dX9_race_101 : decode cX9_race 101 = .ok (.ireturn, 1) := by decide +kernel
theorem dX9_race_102 : decode cX9_race 102 = .ok (.aload_n 0, 1) := by decide +kernel
theorem dX9_race_103 : decode cX9_race 103 = .ok (.getfield 37, 3) := by decide +kernel
theorem dX9_race_106 : decode cX9_race 106 = .ok (.iload_n 1, 1) := by decide +kernel
theorem dX9_race_107 : decode cX9_race 107 = .ok (.iaload, 1) := by decide +kernel
theorem dX9_race_108 : decode cX9_race 108 = .ok (.ireturn, 1) := by decide +kernel
theorem dX9_race_109 : decode cX9_race 109 = .ok (.aload_n 0, 1) := by decide +kernel
theorem dX9_race_110 : decode cX9_race 110 = .ok (.getfield 47, 3) := by decide +kernel
theorem dX9_race_113 : decode cX9_race 113 = .ok (.iload_n 1, 1) := by decide +kernel
theorem dX9_race_114 : decode cX9_race 114 = .ok (.iaload, 1) := by decide +kernel
theorem dX9_race_115 : decode cX9_race 115 = .ok (.iconst (-1), 1) := by decide +kernel
theorem dX9_race_116 : decode cX9_race 116 = .ok (.if_icmp .ne 7, 3) := by decide +kernel
theorem dX9_race_119 : decode cX9_race 119 = .ok (.iconst 0, 1) := by decide +kernel
theorem dX9_race_120 : decode cX9_race 120 = .ok (.goto 4, 3) := by decide +kernel
theorem dX9_race_123 : decode cX9_race 123 = .ok (.iconst 1, 1) := by decide +kernel
theorem dX9_race_124 : decode cX9_race 124 = .ok (.ireturn, 1) := by decide +kernel
theorem dX9_race_125 : decode cX9_race 125 = .ok (.aload_n 0, 1) := by decide +kernel
theorem dX9_race_126 : decode cX9_race 126 = .ok (.getfield 47, 3) := by decide +kernel
theorem dX9_race_129 : decode cX9_race 129 = .ok (.iload_n 1, 1) := by decide +kernel
theorem dX9_race_130 : decode cX9_race 130 = .ok (.iaload, 1) := by decide +kernel
theorem dX9_race_131 : decode cX9_race 131 = .ok (.ireturn, 1) := by decide +kernel
theorem dX9_race_132 : decode cX9_race 132 = .ok (.aload_n 0, 1) := by decide +kernel
theorem dX9_race_133 : decode cX9_race 133 = .ok (.iload_n 1, 1) := by decide +kernel
theorem dX9_race_134 : decode cX9_race 134 = .ok (.invokevirtual 244, 3) := by decide +kernel
theorem dX9_race_137 : decode cX9_race 137 = .ok (.ireturn, 1) := by decide +kernel
theorem dX9_risk_0 : decode cX9_risk 0 = .ok (.aload_n 0, 1) := by decide +kernel
theorem dX9_risk_1 : decode cX9_risk 1 = .ok (.iconst 0, 1) := by decide +kernel
theorem dX9_risk_2 : decode cX9_risk 2 = .ok (.putfield 73, 3) := by decide +kernel
theorem dX9_risk_5 : decode cX9_risk 5 = .ok (.aload_n 0, 1) := by decide +kernel
theorem dX9_risk_6 : decode cX9_risk 6 = .ok (.iload_n 1, 1) := by decide +kernel
theorem dX9_risk_7 : decode cX9_risk 7 = .ok (.invokevirtual 240, 3) := by decide +kernel
theorem dX9_risk_10 : decode cX9_risk 10 = .ok (.ifCond .ne 10, 3) := by decide +kernel
theorem dX9_risk_13 : decode cX9_risk 13 = .ok (.aload_n 0, 1) := by decide +kernel
theorem dX9_risk_14 : decode cX9_risk 14 = .ok (.iconst 1, 1) := by decide +kernel
theorem dX9_risk_15 : decode cX9_risk 15 = .ok (.invokevirtual 210, 3) := by decide +kernel
theorem dX9_risk_18 : decode cX9_risk 18 = .ok (.i2l, 1) := by decide +kernel
theorem dX9_risk_19 : decode cX9_risk 19 = .ok (.lreturn, 1) := by decide +kernel
theorem dX9_risk_20 : decode cX9_risk 20 = .ok (.aload_n 0, 1) := by decide +kernel
theorem dX9_risk_21 : decode cX9_risk 21 = .ok (.invokevirtual 213, 3) := by decide +kernel
theorem dX9_risk_24 : decode cX9_risk 24 = .ok (.aload_n 0, 1) := by decide +kernel
theorem dX9_risk_25 : decode cX9_risk 25 = .ok (.iload_n 1, 1) := by decide +kernel
theorem dX9_risk_26 : decode cX9_risk 26 = .ok (.invokevirtual 169, 3) := by decide +kernel
theorem dX9_risk_29 : decode cX9_risk 29 = .ok (.lreturn, 1) := by decide +kernel
theorem dX9_riskOf_0 : decode cX9_riskOf 0 = .ok (.aload_n 0, 1) := by decide +kernel
theorem dX9_riskOf_1 : decode cX9_riskOf 1 = .ok (.iconst 0, 1) := by decide +kernel
theorem dX9_riskOf_2 : decode cX9_riskOf 2 = .ok (.putfield 73, 3) := by decide +kernel
theorem dX9_riskOf_5 : decode cX9_riskOf 5 = .ok (.aload_n 0, 1) := by decide +kernel
theorem dX9_riskOf_6 : decode cX9_riskOf 6 = .ok (.iload_n 1, 1) := by decide +kernel
theorem dX9_riskOf_7 : decode cX9_riskOf 7 = .ok (.invokevirtual 240, 3) := by decide +kernel
theorem dX9_riskOf_10 : decode cX9_riskOf 10 = .ok (.ifCond .eq 12, 3) := by decide +kernel
theorem dX9_riskOf_13 : decode cX9_riskOf 13 = .ok (.aload_n 0, 1) := by decide +kernel
theorem dX9_riskOf_14 : decode cX9_riskOf 14 = .ok (.iload_n 1, 1) := by decide +kernel
theorem dX9_riskOf_15 : decode cX9_riskOf 15 = .ok (.iload_n 2, 1) := by decide +kernel
theorem dX9_riskOf_16 : decode cX9_riskOf 16 = .ok (.invokevirtual 247, 3) := by decide +kernel
theorem dX9_riskOf_19 : decode cX9_riskOf 19 = .ok (.ifCond .ne 10, 3) := by decide +kernel
theorem dX9_riskOf_22 : decode cX9_riskOf 22 = .ok (.aload_n 0, 1) := by decide +kernel
theorem dX9_riskOf_23 : decode cX9_riskOf 23 = .ok (.iconst 1, 1) := by decide +kernel
theorem dX9_riskOf_24 : decode cX9_riskOf 24 = .ok (.invokevirtual 210, 3) := by decide +kernel
theorem dX9_riskOf_27 : decode cX9_riskOf 27 = .ok (.i2l, 1) := by decide +kernel
theorem dX9_riskOf_28 : decode cX9_riskOf 28 = .ok (.lreturn, 1) := by decide +kernel
theorem dX9_riskOf_29 : decode cX9_riskOf 29 = .ok (.aload_n 0, 1) := by decide +kernel
theorem dX9_riskOf_30 : decode cX9_riskOf 30 = .ok (.invokevirtual 213, 3) := by decide +kernel
theorem dX9_riskOf_33 : decode cX9_riskOf 33 = .ok (.iload_n 2, 1) := by decide +kernel
theorem dX9_riskOf_34 : decode cX9_riskOf 34 = .ok (.aload_n 0, 1) := by decide +kernel
theorem dX9_riskOf_35 : decode cX9_riskOf 35 = .ok (.getfield 31, 3) := by decide +kernel
theorem dX9_riskOf_38 : decode cX9_riskOf 38 = .ok (.iload_n 1, 1) := by decide +kernel
theorem dX9_riskOf_39 : decode cX9_riskOf 39 = .ok (.iaload, 1) := by decide +kernel
theorem dX9_riskOf_40 : decode cX9_riskOf 40 = .ok (.if_icmp .ne 5, 3) := by decide +kernel
theorem dX9_riskOf_43 : decode cX9_riskOf 43 = .ok (.lconst 0, 1) := by decide +kernel
theorem dX9_riskOf_44 : decode cX9_riskOf 44 = .ok (.lreturn, 1) := by decide +kernel
theorem dX9_riskOf_45 : decode cX9_riskOf 45 = .ok (.aload_n 0, 1) := by decide +kernel
theorem dX9_riskOf_46 : decode cX9_riskOf 46 = .ok (.iload_n 1, 1) := by decide +kernel
theorem dX9_riskOf_47 : decode cX9_riskOf 47 = .ok (.invokevirtual 141, 3) := by decide +kernel
theorem dX9_riskOf_50 : decode cX9_riskOf 50 = .ok (.ifCond .ne 11, 3) := by decide +kernel
theorem dX9_riskOf_53 : decode cX9_riskOf 53 = .ok (.aload_n 0, 1) := by decide +kernel
theorem dX9_riskOf_54 : decode cX9_riskOf 54 = .ok (.iload_n 1, 1) := by decide +kernel
theorem dX9_riskOf_55 : decode cX9_riskOf 55 = .ok (.invokevirtual 169, 3) := by decide +kernel
theorem dX9_riskOf_58 : decode cX9_riskOf 58 = .ok (.goto 13, 3) := by decide +kernel
theorem dX9_riskOf_61 : decode cX9_riskOf 61 = .ok (.aload_n 0, 1) := by decide +kernel
theorem dX9_riskOf_62 : decode cX9_riskOf 62 = .ok (.getfield 43, 3) := by decide +kernel
theorem dX9_riskOf_65 : decode cX9_riskOf 65 = .ok (.iconst 4, 1) := by decide +kernel
theorem dX9_riskOf_66 : decode cX9_riskOf 66 = .ok (.iload_n 1, 1) := by decide +kernel
theorem dX9_riskOf_67 : decode cX9_riskOf 67 = .ok (.imul, 1) := by decide +kernel
theorem dX9_riskOf_68 : decode cX9_riskOf 68 = .ok (.iload_n 2, 1) := by decide +kernel
theorem dX9_riskOf_69 : decode cX9_riskOf 69 = .ok (.iadd, 1) := by decide +kernel
theorem dX9_riskOf_70 : decode cX9_riskOf 70 = .ok (.laload, 1) := by decide +kernel
theorem dX9_riskOf_71 : decode cX9_riskOf 71 = .ok (.lreturn, 1) := by decide +kernel
theorem dX9_riskAt_0 : decode cX9_riskAt 0 = .ok (.aload_n 0, 1) := by decide +kernel
theorem dX9_riskAt_1 : decode cX9_riskAt 1 = .ok (.iconst 0, 1) := by decide +kernel
theorem dX9_riskAt_2 : decode cX9_riskAt 2 = .ok (.putfield 73, 3) := by decide +kernel
theorem dX9_riskAt_5 : decode cX9_riskAt 5 = .ok (.aload_n 0, 1) := by decide +kernel
theorem dX9_riskAt_6 : decode cX9_riskAt 6 = .ok (.invokevirtual 213, 3) := by decide +kernel
theorem dX9_riskAt_9 : decode cX9_riskAt 9 = .ok (.aload_n 0, 1) := by decide +kernel
theorem dX9_riskAt_10 : decode cX9_riskAt 10 = .ok (.iload_n 1, 1) := by decide +kernel
theorem dX9_riskAt_11 : decode cX9_riskAt 11 = .ok (.invokevirtual 240, 3) := by decide +kernel
theorem dX9_riskAt_14 : decode cX9_riskAt 14 = .ok (.ifCond .eq 15, 3) := by decide +kernel
theorem dX9_riskAt_17 : decode cX9_riskAt 17 = .ok (.iload_n 2, 1) := by decide +kernel
theorem dX9_riskAt_18 : decode cX9_riskAt 18 = .ok (.iconst 0, 1) := by decide +kernel
theorem dX9_riskAt_19 : decode cX9_riskAt 19 = .ok (.aload_n 0, 1) := by decide +kernel
theorem dX9_riskAt_20 : decode cX9_riskAt 20 = .ok (.getfield 166, 3) := by decide +kernel
theorem dX9_riskAt_23 : decode cX9_riskAt 23 = .ok (.invokestatic 80, 3) := by decide +kernel
theorem dX9_riskAt_26 : decode cX9_riskAt 26 = .ok (.ifCond .ne 10, 3) := by decide +kernel
theorem dX9_riskAt_29 : decode cX9_riskAt 29 = .ok (.aload_n 0, 1) := by decide +kernel
theorem dX9_riskAt_30 : decode cX9_riskAt 30 = .ok (.iconst 1, 1) := by decide +kernel
theorem dX9_riskAt_31 : decode cX9_riskAt 31 = .ok (.invokevirtual 210, 3) := by decide +kernel
theorem dX9_riskAt_34 : decode cX9_riskAt 34 = .ok (.i2l, 1) := by decide +kernel
theorem dX9_riskAt_35 : decode cX9_riskAt 35 = .ok (.lreturn, 1) := by decide +kernel
theorem dX9_riskAt_36 : decode cX9_riskAt 36 = .ok (.aload_n 0, 1) := by decide +kernel
theorem dX9_riskAt_37 : decode cX9_riskAt 37 = .ok (.getfield 50, 3) := by decide +kernel
theorem dX9_riskAt_40 : decode cX9_riskAt 40 = .ok (.iconst 3, 1) := by decide +kernel
theorem dX9_riskAt_41 : decode cX9_riskAt 41 = .ok (.iload_n 2, 1) := by decide +kernel
theorem dX9_riskAt_42 : decode cX9_riskAt 42 = .ok (.imul, 1) := by decide +kernel
theorem dX9_riskAt_43 : decode cX9_riskAt 43 = .ok (.iload_n 1, 1) := by decide +kernel
theorem dX9_riskAt_44 : decode cX9_riskAt 44 = .ok (.iadd, 1) := by decide +kernel
theorem dX9_riskAt_45 : decode cX9_riskAt 45 = .ok (.laload, 1) := by decide +kernel
theorem dX9_riskAt_46 : decode cX9_riskAt 46 = .ok (.lreturn, 1) := by decide +kernel
theorem dX9_riskWith_0 : decode cX9_riskWith 0 = .ok (.aload_n 0, 1) := by decide +kernel
theorem dX9_riskWith_1 : decode cX9_riskWith 1 = .ok (.getfield 47, 3) := by decide +kernel
theorem dX9_riskWith_4 : decode cX9_riskWith 4 = .ok (.iload_n 1, 1) := by decide +kernel
theorem dX9_riskWith_5 : decode cX9_riskWith 5 = .ok (.iaload, 1) := by decide +kernel
theorem dX9_riskWith_6 : decode cX9_riskWith 6 = .ok (.iconst (-1), 1) := by decide +kernel
theorem dX9_riskWith_7 : decode cX9_riskWith 7 = .ok (.if_icmp .eq 9, 3) := by decide +kernel
theorem dX9_riskWith_10 : decode cX9_riskWith 10 = .ok (.aload_n 0, 1) := by decide +kernel
theorem dX9_riskWith_11 : decode cX9_riskWith 11 = .ok (.iload_n 1, 1) := by decide +kernel
theorem dX9_riskWith_12 : decode cX9_riskWith 12 = .ok (.invokevirtual 169, 3) := by decide +kernel
theorem dX9_riskWith_15 : decode cX9_riskWith 15 = .ok (.lreturn, 1) := by decide +kernel
theorem dX9_riskWith_16 : decode cX9_riskWith 16 = .ok (.iconst 0, 1) := by decide +kernel
theorem dX9_riskWith_17 : decode cX9_riskWith 17 = .ok (.istore_n 3, 1) := by decide +kernel
theorem dX9_riskWith_18 : decode cX9_riskWith 18 = .ok (.iload_n 3, 1) := by decide +kernel
theorem dX9_riskWith_19 : decode cX9_riskWith 19 = .ok (.iconst 4, 1) := by decide +kernel
theorem dX9_riskWith_20 : decode cX9_riskWith 20 = .ok (.if_icmp .ge 25, 3) := by decide +kernel
theorem dX9_riskWith_23 : decode cX9_riskWith 23 = .ok (.aload_n 0, 1) := by decide +kernel
theorem dX9_riskWith_24 : decode cX9_riskWith 24 = .ok (.getfield 56, 3) := by decide +kernel
theorem dX9_riskWith_27 : decode cX9_riskWith 27 = .ok (.iload_n 3, 1) := by decide +kernel
theorem dX9_riskWith_28 : decode cX9_riskWith 28 = .ok (.aload_n 0, 1) := by decide +kernel
theorem dX9_riskWith_29 : decode cX9_riskWith 29 = .ok (.getfield 43, 3) := by decide +kernel
theorem dX9_riskWith_32 : decode cX9_riskWith 32 = .ok (.iconst 4, 1) := by decide +kernel
theorem dX9_riskWith_33 : decode cX9_riskWith 33 = .ok (.iload_n 1, 1) := by decide +kernel
theorem dX9_riskWith_34 : decode cX9_riskWith 34 = .ok (.imul, 1) := by decide +kernel
theorem dX9_riskWith_35 : decode cX9_riskWith 35 = .ok (.iload_n 3, 1) := by decide +kernel
theorem dX9_riskWith_36 : decode cX9_riskWith 36 = .ok (.iadd, 1) := by decide +kernel
theorem dX9_riskWith_37 : decode cX9_riskWith 37 = .ok (.laload, 1) := by decide +kernel
theorem dX9_riskWith_38 : decode cX9_riskWith 38 = .ok (.lastore, 1) := by decide +kernel
theorem dX9_riskWith_39 : decode cX9_riskWith 39 = .ok (.iinc 3 1, 3) := by decide +kernel
theorem dX9_riskWith_42 : decode cX9_riskWith 42 = .ok (.goto (-24), 3) := by decide +kernel
theorem dX9_riskWith_45 : decode cX9_riskWith 45 = .ok (.aload_n 0, 1) := by decide +kernel
theorem dX9_riskWith_46 : decode cX9_riskWith 46 = .ok (.iload_n 1, 1) := by decide +kernel
theorem dX9_riskWith_47 : decode cX9_riskWith 47 = .ok (.aload_n 0, 1) := by decide +kernel
theorem dX9_riskWith_48 : decode cX9_riskWith 48 = .ok (.iload_n 2, 1) := by decide +kernel
theorem dX9_riskWith_49 : decode cX9_riskWith 49 = .ok (.iload_n 1, 1) := by decide +kernel
theorem dX9_riskWith_50 : decode cX9_riskWith 50 = .ok (.invokevirtual 172, 3) := by decide +kernel
theorem dX9_riskWith_53 : decode cX9_riskWith 53 = .ok (.aload_n 0, 1) := by decide +kernel
theorem dX9_riskWith_54 : decode cX9_riskWith 54 = .ok (.iload_n 2, 1) := by decide +kernel
theorem dX9_riskWith_55 : decode cX9_riskWith 55 = .ok (.iload_n 1, 1) := by decide +kernel
theorem dX9_riskWith_56 : decode cX9_riskWith 56 = .ok (.invokevirtual 103, 3) := by decide +kernel
theorem dX9_riskWith_59 : decode cX9_riskWith 59 = .ok (.aload_n 0, 1) := by decide +kernel
theorem dX9_riskWith_60 : decode cX9_riskWith 60 = .ok (.getfield 9, 3) := by decide +kernel
theorem dX9_riskWith_63 : decode cX9_riskWith 63 = .ok (.iconst 3, 1) := by decide +kernel
theorem dX9_riskWith_64 : decode cX9_riskWith 64 = .ok (.iaload, 1) := by decide +kernel
theorem dX9_riskWith_65 : decode cX9_riskWith 65 = .ok (.invokevirtual 175, 3) := by decide +kernel
theorem dX9_riskWith_68 : decode cX9_riskWith 68 = .ok (.aload_n 0, 1) := by decide +kernel
theorem dX9_riskWith_69 : decode cX9_riskWith 69 = .ok (.iload_n 1, 1) := by decide +kernel
theorem dX9_riskWith_70 : decode cX9_riskWith 70 = .ok (.invokevirtual 169, 3) := by decide +kernel
theorem dX9_riskWith_73 : decode cX9_riskWith 73 = .ok (.lstore_n 3, 1) := by decide +kernel
theorem dX9_riskWith_74 : decode cX9_riskWith 74 = .ok (.iconst 0, 1) := by decide +kernel
theorem dX9_riskWith_75 : decode cX9_riskWith 75 = .ok (.istore 5, 2) := by decide +kernel
theorem dX9_riskWith_77 : decode cX9_riskWith 77 = .ok (.iload 5, 2) := by decide +kernel
theorem dX9_riskWith_79 : decode cX9_riskWith 79 = .ok (.iconst 4, 1) := by decide +kernel
theorem dX9_riskWith_80 : decode cX9_riskWith 80 = .ok (.if_icmp .ge 27, 3) := by decide +kernel
theorem dX9_riskWith_83 : decode cX9_riskWith 83 = .ok (.aload_n 0, 1) := by decide +kernel
theorem dX9_riskWith_84 : decode cX9_riskWith 84 = .ok (.getfield 43, 3) := by decide +kernel
theorem dX9_riskWith_87 : decode cX9_riskWith 87 = .ok (.iconst 4, 1) := by decide +kernel
theorem dX9_riskWith_88 : decode cX9_riskWith 88 = .ok (.iload_n 1, 1) := by decide +kernel
theorem dX9_riskWith_89 : decode cX9_riskWith 89 = .ok (.imul, 1) := by decide +kernel
theorem dX9_riskWith_90 : decode cX9_riskWith 90 = .ok (.iload 5, 2) := by decide +kernel
theorem dX9_riskWith_92 : decode cX9_riskWith 92 = .ok (.iadd, 1) := by decide +kernel
theorem dX9_riskWith_93 : decode cX9_riskWith 93 = .ok (.aload_n 0, 1) := by decide +kernel
theorem dX9_riskWith_94 : decode cX9_riskWith 94 = .ok (.getfield 56, 3) := by decide +kernel
theorem dX9_riskWith_97 : decode cX9_riskWith 97 = .ok (.iload 5, 2) := by decide +kernel
theorem dX9_riskWith_99 : decode cX9_riskWith 99 = .ok (.laload, 1) := by decide +kernel
theorem dX9_riskWith_100 : decode cX9_riskWith 100 = .ok (.lastore, 1) := by decide +kernel
theorem dX9_riskWith_101 : decode cX9_riskWith 101 = .ok (.iinc 5 1, 3) := by decide +kernel
theorem dX9_riskWith_104 : decode cX9_riskWith 104 = .ok (.goto (-27), 3) := by decide +kernel
theorem dX9_riskWith_107 : decode cX9_riskWith 107 = .ok (.lload_n 3, 1) := by decide +kernel
theorem dX9_riskWith_108 : decode cX9_riskWith 108 = .ok (.lreturn, 1) := by decide +kernel
theorem dX9_next_0 : decode cX9_next 0 = .ok (.aload_n 0, 1) := by decide +kernel
theorem dX9_next_1 : decode cX9_next 1 = .ok (.iconst 0, 1) := by decide +kernel
theorem dX9_next_2 : decode cX9_next 2 = .ok (.putfield 73, 3) := by decide +kernel
theorem dX9_next_5 : decode cX9_next 5 = .ok (.aload_n 0, 1) := by decide +kernel
theorem dX9_next_6 : decode cX9_next 6 = .ok (.iload_n 1, 1) := by decide +kernel
theorem dX9_next_7 : decode cX9_next 7 = .ok (.invokevirtual 240, 3) := by decide +kernel
theorem dX9_next_10 : decode cX9_next 10 = .ok (.ifCond .eq 11, 3) := by decide +kernel
theorem dX9_next_13 : decode cX9_next 13 = .ok (.aload_n 0, 1) := by decide +kernel
theorem dX9_next_14 : decode cX9_next 14 = .ok (.iload_n 2, 1) := by decide +kernel
theorem dX9_next_15 : decode cX9_next 15 = .ok (.invokevirtual 251, 3) := by decide +kernel
theorem dX9_next_18 : decode cX9_next 18 = .ok (.ifCond .ne 10, 3) := by decide +kernel
theorem dX9_next_21 : decode cX9_next 21 = .ok (.aload_n 0, 1) := by decide +kernel
theorem dX9_next_22 : decode cX9_next 22 = .ok (.iconst 1, 1) := by decide +kernel
theorem dX9_next_23 : decode cX9_next 23 = .ok (.invokevirtual 210, 3) := by decide +kernel
theorem dX9_next_26 : decode cX9_next 26 = .ok (.i2l, 1) := by decide +kernel
theorem dX9_next_27 : decode cX9_next 27 = .ok (.lreturn, 1) := by decide +kernel
theorem dX9_next_28 : decode cX9_next 28 = .ok (.aload_n 0, 1) := by decide +kernel
theorem dX9_next_29 : decode cX9_next 29 = .ok (.invokevirtual 213, 3) := by decide +kernel
theorem dX9_next_32 : decode cX9_next 32 = .ok (.aload_n 0, 1) := by decide +kernel
theorem dX9_next_33 : decode cX9_next 33 = .ok (.iload_n 1, 1) := by decide +kernel
theorem dX9_next_34 : decode cX9_next 34 = .ok (.iload_n 2, 1) := by decide +kernel
theorem dX9_next_35 : decode cX9_next 35 = .ok (.invokevirtual 254, 3) := by decide +kernel
theorem dX9_next_38 : decode cX9_next 38 = .ok (.lreturn, 1) := by decide +kernel
theorem dX9_worst_0 : decode cX9_worst 0 = .ok (.aload_n 0, 1) := by decide +kernel
theorem dX9_worst_1 : decode cX9_worst 1 = .ok (.iconst 0, 1) := by decide +kernel
theorem dX9_worst_2 : decode cX9_worst 2 = .ok (.putfield 73, 3) := by decide +kernel
theorem dX9_worst_5 : decode cX9_worst 5 = .ok (.aload_n 0, 1) := by decide +kernel
theorem dX9_worst_6 : decode cX9_worst 6 = .ok (.iload_n 1, 1) := by decide +kernel
theorem dX9_worst_7 : decode cX9_worst 7 = .ok (.invokevirtual 240, 3) := by decide +kernel
theorem dX9_worst_10 : decode cX9_worst 10 = .ok (.ifCond .ne 9, 3) := by decide +kernel
theorem dX9_worst_13 : decode cX9_worst 13 = .ok (.aload_n 0, 1) := by decide +kernel
theorem dX9_worst_14 : decode cX9_worst 14 = .ok (.iconst 1, 1) := by decide +kernel
theorem dX9_worst_15 : decode cX9_worst 15 = .ok (.invokevirtual 210, 3) := by decide +kernel
theorem dX9_worst_18 : decode cX9_worst 18 = .ok (.ireturn, 1) := by decide +kernel
theorem dX9_worst_19 : decode cX9_worst 19 = .ok (.aload_n 0, 1) := by decide +kernel
theorem dX9_worst_20 : decode cX9_worst 20 = .ok (.invokevirtual 213, 3) := by decide +kernel
theorem dX9_worst_23 : decode cX9_worst 23 = .ok (.aload_n 0, 1) := by decide +kernel
theorem dX9_worst_24 : decode cX9_worst 24 = .ok (.iload_n 1, 1) := by decide +kernel
theorem dX9_worst_25 : decode cX9_worst 25 = .ok (.invokevirtual 258, 3) := by decide +kernel
theorem dX9_worst_28 : decode cX9_worst 28 = .ok (.ireturn, 1) := by decide +kernel
theorem dX9_worstOf_0 : decode cX9_worstOf 0 = .ok (.iconst (-1), 1) := by decide +kernel
theorem dX9_worstOf_1 : decode cX9_worstOf 1 = .ok (.istore_n 2, 1) := by decide +kernel
theorem dX9_worstOf_2 : decode cX9_worstOf 2 = .ok (.lconst 0, 1) := by decide +kernel
theorem dX9_worstOf_3 : decode cX9_worstOf 3 = .ok (.lstore_n 3, 1) := by decide +kernel
theorem dX9_worstOf_4 : decode cX9_worstOf 4 = .ok (.iconst 0, 1) := by decide +kernel
theorem dX9_worstOf_5 : decode cX9_worstOf 5 = .ok (.istore 5, 2) := by decide +kernel
theorem dX9_worstOf_7 : decode cX9_worstOf 7 = .ok (.iload 5, 2) := by decide +kernel
theorem dX9_worstOf_9 : decode cX9_worstOf 9 = .ok (.aload_n 0, 1) := by decide +kernel
theorem dX9_worstOf_10 : decode cX9_worstOf 10 = .ok (.invokevirtual 84, 3) := by decide +kernel
theorem dX9_worstOf_13 : decode cX9_worstOf 13 = .ok (.if_icmp .ge 39, 3) := by decide +kernel
theorem dX9_worstOf_16 : decode cX9_worstOf 16 = .ok (.aload_n 0, 1) := by decide +kernel
theorem dX9_worstOf_17 : decode cX9_worstOf 17 = .ok (.iload_n 1, 1) := by decide +kernel
theorem dX9_worstOf_18 : decode cX9_worstOf 18 = .ok (.iload 5, 2) := by decide +kernel
theorem dX9_worstOf_20 : decode cX9_worstOf 20 = .ok (.invokevirtual 254, 3) := by decide +kernel
theorem dX9_worstOf_23 : decode cX9_worstOf 23 = .ok (.lstore 6, 2) := by decide +kernel
theorem dX9_worstOf_25 : decode cX9_worstOf 25 = .ok (.iload_n 2, 1) := by decide +kernel
theorem dX9_worstOf_26 : decode cX9_worstOf 26 = .ok (.iconst (-1), 1) := by decide +kernel
theorem dX9_worstOf_27 : decode cX9_worstOf 27 = .ok (.if_icmp .eq 13, 3) := by decide +kernel
theorem dX9_worstOf_30 : decode cX9_worstOf 30 = .ok (.lload 6, 2) := by decide +kernel
theorem dX9_worstOf_32 : decode cX9_worstOf 32 = .ok (.lload_n 3, 1) := by decide +kernel
theorem dX9_worstOf_33 : decode cX9_worstOf 33 = .ok (.lcmp, 1) := by decide +kernel
theorem dX9_worstOf_34 : decode cX9_worstOf 34 = .ok (.ifCond .gt 6, 3) := by decide +kernel
theorem dX9_worstOf_37 : decode cX9_worstOf 37 = .ok (.goto 9, 3) := by decide +kernel
theorem dX9_worstOf_40 : decode cX9_worstOf 40 = .ok (.iload 5, 2) := by decide +kernel
theorem dX9_worstOf_42 : decode cX9_worstOf 42 = .ok (.istore_n 2, 1) := by decide +kernel
theorem dX9_worstOf_43 : decode cX9_worstOf 43 = .ok (.lload 6, 2) := by decide +kernel
theorem dX9_worstOf_45 : decode cX9_worstOf 45 = .ok (.lstore_n 3, 1) := by decide +kernel
theorem dX9_worstOf_46 : decode cX9_worstOf 46 = .ok (.iinc 5 1, 3) := by decide +kernel
theorem dX9_worstOf_49 : decode cX9_worstOf 49 = .ok (.goto (-42), 3) := by decide +kernel
theorem dX9_worstOf_52 : decode cX9_worstOf 52 = .ok (.iload_n 2, 1) := by decide +kernel
theorem dX9_worstOf_53 : decode cX9_worstOf 53 = .ok (.ireturn, 1) := by decide +kernel
theorem dX9_clean_0 : decode cX9_clean 0 = .ok (.iconst 0, 1) := by decide +kernel
theorem dX9_clean_1 : decode cX9_clean 1 = .ok (.istore_n 2, 1) := by decide +kernel
theorem dX9_clean_2 : decode cX9_clean 2 = .ok (.iconst 0, 1) := by decide +kernel
theorem dX9_clean_3 : decode cX9_clean 3 = .ok (.istore_n 3, 1) := by decide +kernel
theorem dX9_clean_4 : decode cX9_clean 4 = .ok (.iload_n 3, 1) := by decide +kernel
theorem dX9_clean_5 : decode cX9_clean 5 = .ok (.aload_n 0, 1) := by decide +kernel
theorem dX9_clean_6 : decode cX9_clean 6 = .ok (.invokevirtual 84, 3) := by decide +kernel
theorem dX9_clean_9 : decode cX9_clean 9 = .ok (.if_icmp .ge 21, 3) := by decide +kernel
theorem dX9_clean_12 : decode cX9_clean 12 = .ok (.aload_n 0, 1) := by decide +kernel
theorem dX9_clean_13 : decode cX9_clean 13 = .ok (.iload_n 3, 1) := by decide +kernel
theorem dX9_clean_14 : decode cX9_clean 14 = .ok (.iload_n 1, 1) := by decide +kernel
theorem dX9_clean_15 : decode cX9_clean 15 = .ok (.invokevirtual 172, 3) := by decide +kernel
theorem dX9_clean_18 : decode cX9_clean 18 = .ok (.ifCond .gt 6, 3) := by decide +kernel
theorem dX9_clean_21 : decode cX9_clean 21 = .ok (.iinc 2 1, 3) := by decide +kernel
theorem dX9_clean_24 : decode cX9_clean 24 = .ok (.iinc 3 1, 3) := by decide +kernel
theorem dX9_clean_27 : decode cX9_clean 27 = .ok (.goto (-23), 3) := by decide +kernel
theorem dX9_clean_30 : decode cX9_clean 30 = .ok (.iload_n 2, 1) := by decide +kernel
theorem dX9_clean_31 : decode cX9_clean 31 = .ok (.ireturn, 1) := by decide +kernel
theorem dX9_chanceBehind_0 : decode cX9_chanceBehind 0 = .ok (.aload_n 0, 1) := by decide +kernel
theorem dX9_chanceBehind_1 : decode cX9_chanceBehind 1 = .ok (.invokevirtual 84, 3) := by decide +kernel
theorem dX9_chanceBehind_4 : decode cX9_chanceBehind 4 = .ok (.ifCond .ne 5, 3) := by decide +kernel
theorem dX9_chanceBehind_7 : decode cX9_chanceBehind 7 = .ok (.lload_n 1, 1) := by decide +kernel
theorem dX9_chanceBehind_8 : decode cX9_chanceBehind 8 = .ok (.lreturn, 1) := by decide +kernel
theorem dX9_chanceBehind_9 : decode cX9_chanceBehind 9 = .ok (.lload_n 1, 1) := by decide +kernel
theorem dX9_chanceBehind_10 : decode cX9_chanceBehind 10 = .ok (.iload_n 3, 1) := by decide +kernel
theorem dX9_chanceBehind_11 : decode cX9_chanceBehind 11 = .ok (.i2l, 1) := by decide +kernel
theorem dX9_chanceBehind_12 : decode cX9_chanceBehind 12 = .ok (.lmul, 1) := by decide +kernel
theorem dX9_chanceBehind_13 : decode cX9_chanceBehind 13 = .ok (.aload_n 0, 1) := by decide +kernel
theorem dX9_chanceBehind_14 : decode cX9_chanceBehind 14 = .ok (.invokevirtual 84, 3) := by decide +kernel
theorem dX9_chanceBehind_17 : decode cX9_chanceBehind 17 = .ok (.i2l, 1) := by decide +kernel
theorem dX9_chanceBehind_18 : decode cX9_chanceBehind 18 = .ok (.ladd, 1) := by decide +kernel
theorem dX9_chanceBehind_19 : decode cX9_chanceBehind 19 = .ok (.lconst 1, 1) := by decide +kernel
theorem dX9_chanceBehind_20 : decode cX9_chanceBehind 20 = .ok (.lsub, 1) := by decide +kernel
theorem dX9_chanceBehind_21 : decode cX9_chanceBehind 21 = .ok (.aload_n 0, 1) := by decide +kernel
theorem dX9_chanceBehind_22 : decode cX9_chanceBehind 22 = .ok (.invokevirtual 84, 3) := by decide +kernel
theorem dX9_chanceBehind_25 : decode cX9_chanceBehind 25 = .ok (.i2l, 1) := by decide +kernel
theorem dX9_chanceBehind_26 : decode cX9_chanceBehind 26 = .ok (.ldiv, 1) := by decide +kernel
theorem dX9_chanceBehind_27 : decode cX9_chanceBehind 27 = .ok (.lreturn, 1) := by decide +kernel
theorem dX9_chance_0 : decode cX9_chance 0 = .ok (.aload_n 0, 1) := by decide +kernel
theorem dX9_chance_1 : decode cX9_chance 1 = .ok (.aload_n 0, 1) := by decide +kernel
theorem dX9_chance_2 : decode cX9_chance 2 = .ok (.iload_n 1, 1) := by decide +kernel
theorem dX9_chance_3 : decode cX9_chance 3 = .ok (.invokevirtual 240, 3) := by decide +kernel
theorem dX9_chance_6 : decode cX9_chance 6 = .ok (.ifCond .ne 7, 3) := by decide +kernel
theorem dX9_chance_9 : decode cX9_chance 9 = .ok (.iconst 1, 1) := by decide +kernel
theorem dX9_chance_10 : decode cX9_chance 10 = .ok (.goto 19, 3) := by decide +kernel
theorem dX9_chance_13 : decode cX9_chance 13 = .ok (.iload_n 2, 1) := by decide +kernel
theorem dX9_chance_14 : decode cX9_chance 14 = .ok (.iconst 0, 1) := by decide +kernel
theorem dX9_chance_15 : decode cX9_chance 15 = .ok (.sipush 300, 3) := by decide +kernel
theorem dX9_chance_18 : decode cX9_chance 18 = .ok (.invokestatic 80, 3) := by decide +kernel
theorem dX9_chance_21 : decode cX9_chance 21 = .ok (.ifCond .ne 7, 3) := by decide +kernel
theorem dX9_chance_24 : decode cX9_chance 24 = .ok (.iconst 2, 1) := by decide +kernel
theorem dX9_chance_25 : decode cX9_chance 25 = .ok (.goto 4, 3) := by decide +kernel
theorem dX9_chance_28 : decode cX9_chance 28 = .ok (.iconst 0, 1) := by decide +kernel
theorem dX9_chance_29 : decode cX9_chance 29 = .ok (.putfield 73, 3) := by decide +kernel
theorem dX9_chance_32 : decode cX9_chance 32 = .ok (.aload_n 0, 1) := by decide +kernel
theorem dX9_chance_33 : decode cX9_chance 33 = .ok (.getfield 73, 3) := by decide +kernel
theorem dX9_chance_36 : decode cX9_chance 36 = .ok (.ifCond .le 5, 3) := by decide +kernel
theorem dX9_chance_39 : decode cX9_chance 39 = .ok (.lconst 0, 1) := by decide +kernel
theorem dX9_chance_40 : decode cX9_chance 40 = .ok (.lreturn, 1) := by decide +kernel
theorem dX9_chance_41 : decode cX9_chance 41 = .ok (.aload_n 0, 1) := by decide +kernel
theorem dX9_chance_42 : decode cX9_chance 42 = .ok (.invokevirtual 186, 3) := by decide +kernel
theorem dX9_chance_45 : decode cX9_chance 45 = .ok (.aload_n 0, 1) := by decide +kernel
theorem dX9_chance_46 : decode cX9_chance 46 = .ok (.iload_n 1, 1) := by decide +kernel
theorem dX9_chance_47 : decode cX9_chance 47 = .ok (.invokevirtual 261, 3) := by decide +kernel
theorem dX9_chance_50 : decode cX9_chance 50 = .ok (.istore_n 3, 1) := by decide +kernel
theorem dX9_chance_51 : decode cX9_chance 51 = .ok (.ldc2_w 153, 3) := by decide +kernel
theorem dX9_chance_54 : decode cX9_chance 54 = .ok (.lstore 4, 2) := by decide +kernel
theorem dX9_chance_56 : decode cX9_chance 56 = .ok (.iconst 0, 1) := by decide +kernel
theorem dX9_chance_57 : decode cX9_chance 57 = .ok (.istore 6, 2) := by decide +kernel
theorem dX9_chance_59 : decode cX9_chance 59 = .ok (.iload 6, 2) := by decide +kernel
theorem dX9_chance_61 : decode cX9_chance 61 = .ok (.iload_n 2, 1) := by decide +kernel
theorem dX9_chance_62 : decode cX9_chance 62 = .ok (.if_icmp .ge 18, 3) := by decide +kernel
theorem dX9_chance_65 : decode cX9_chance 65 = .ok (.aload_n 0, 1) := by decide +kernel
theorem dX9_chance_66 : decode cX9_chance 66 = .ok (.lload 4, 2) := by decide +kernel
theorem dX9_chance_68 : decode cX9_chance 68 = .ok (.iload_n 3, 1) := by decide +kernel
theorem dX9_chance_69 : decode cX9_chance 69 = .ok (.invokevirtual 264, 3) := by decide +kernel
theorem dX9_chance_72 : decode cX9_chance 72 = .ok (.lstore 4, 2) := by decide +kernel
theorem dX9_chance_74 : decode cX9_chance 74 = .ok (.iinc 6 1, 3) := by decide +kernel
theorem dX9_chance_77 : decode cX9_chance 77 = .ok (.goto (-18), 3) := by decide +kernel
theorem dX9_chance_80 : decode cX9_chance 80 = .ok (.lload 4, 2) := by decide +kernel
theorem dX9_chance_82 : decode cX9_chance 82 = .ok (.lreturn, 1) := by decide +kernel
theorem dX9_enough_0 : decode cX9_enough 0 = .ok (.aload_n 0, 1) := by decide +kernel
theorem dX9_enough_1 : decode cX9_enough 1 = .ok (.iconst 0, 1) := by decide +kernel
theorem dX9_enough_2 : decode cX9_enough 2 = .ok (.putfield 73, 3) := by decide +kernel
theorem dX9_enough_5 : decode cX9_enough 5 = .ok (.aload_n 0, 1) := by decide +kernel
theorem dX9_enough_6 : decode cX9_enough 6 = .ok (.iload_n 1, 1) := by decide +kernel
theorem dX9_enough_7 : decode cX9_enough 7 = .ok (.invokevirtual 240, 3) := by decide +kernel
theorem dX9_enough_10 : decode cX9_enough 10 = .ok (.ifCond .ne 9, 3) := by decide +kernel
theorem dX9_enough_13 : decode cX9_enough 13 = .ok (.aload_n 0, 1) := by decide +kernel
theorem dX9_enough_14 : decode cX9_enough 14 = .ok (.iconst 1, 1) := by decide +kernel
theorem dX9_enough_15 : decode cX9_enough 15 = .ok (.invokevirtual 210, 3) := by decide +kernel
theorem dX9_enough_18 : decode cX9_enough 18 = .ok (.ireturn, 1) := by decide +kernel
theorem dX9_enough_19 : decode cX9_enough 19 = .ok (.aload_n 0, 1) := by decide +kernel
theorem dX9_enough_20 : decode cX9_enough 20 = .ok (.invokevirtual 186, 3) := by decide +kernel
theorem dX9_enough_23 : decode cX9_enough 23 = .ok (.aload_n 0, 1) := by decide +kernel
theorem dX9_enough_24 : decode cX9_enough 24 = .ok (.iload_n 1, 1) := by decide +kernel
theorem dX9_enough_25 : decode cX9_enough 25 = .ok (.invokevirtual 261, 3) := by decide +kernel
theorem dX9_enough_28 : decode cX9_enough 28 = .ok (.istore_n 2, 1) := by decide +kernel
theorem dX9_enough_29 : decode cX9_enough 29 = .ok (.ldc2_w 153, 3) := by decide +kernel
theorem dX9_enough_32 : decode cX9_enough 32 = .ok (.lstore_n 3, 1) := by decide +kernel
theorem dX9_enough_33 : decode cX9_enough 33 = .ok (.iconst 0, 1) := by decide +kernel
theorem dX9_enough_34 : decode cX9_enough 34 = .ok (.istore 5, 2) := by decide +kernel
theorem dX9_enough_36 : decode cX9_enough 36 = .ok (.iload 5, 2) := by decide +kernel
theorem dX9_enough_38 : decode cX9_enough 38 = .ok (.sipush 5000, 3) := by decide +kernel
theorem dX9_enough_41 : decode cX9_enough 41 = .ok (.if_icmp .gt 27, 3) := by decide +kernel
theorem dX9_enough_44 : decode cX9_enough 44 = .ok (.aload_n 0, 1) := by decide +kernel
theorem dX9_enough_45 : decode cX9_enough 45 = .ok (.lload_n 3, 1) := by decide +kernel
theorem dX9_enough_46 : decode cX9_enough 46 = .ok (.invokevirtual 179, 3) := by decide +kernel
theorem dX9_enough_49 : decode cX9_enough 49 = .ok (.ifCond .eq 6, 3) := by decide +kernel
theorem dX9_enough_52 : decode cX9_enough 52 = .ok (.iload 5, 2) := by decide +kernel
theorem dX9_enough_54 : decode cX9_enough 54 = .ok (.ireturn, 1) := by decide +kernel
theorem dX9_enough_55 : decode cX9_enough 55 = .ok (.aload_n 0, 1) := by decide +kernel
theorem dX9_enough_56 : decode cX9_enough 56 = .ok (.lload_n 3, 1) := by decide +kernel
theorem dX9_enough_57 : decode cX9_enough 57 = .ok (.iload_n 2, 1) := by decide +kernel
theorem dX9_enough_58 : decode cX9_enough 58 = .ok (.invokevirtual 264, 3) := by decide +kernel
theorem dX9_enough_61 : decode cX9_enough 61 = .ok (.lstore_n 3, 1) := by decide +kernel
theorem dX9_enough_62 : decode cX9_enough 62 = .ok (.iinc 5 1, 3) := by decide +kernel
theorem dX9_enough_65 : decode cX9_enough 65 = .ok (.goto (-29), 3) := by decide +kernel
theorem dX9_enough_68 : decode cX9_enough 68 = .ok (.iconst (-1), 1) := by decide +kernel
theorem dX9_enough_69 : decode cX9_enough 69 = .ok (.ireturn, 1) := by decide +kernel
theorem dX9_flipsFor_0 : decode cX9_flipsFor 0 = .ok (.iconst 0, 1) := by decide +kernel
theorem dX9_flipsFor_1 : decode cX9_flipsFor 1 = .ok (.istore 4, 2) := by decide +kernel
theorem dX9_flipsFor_3 : decode cX9_flipsFor 3 = .ok (.iload_n 0, 1) := by decide +kernel
theorem dX9_flipsFor_4 : decode cX9_flipsFor 4 = .ok (.iload_n 1, 1) := by decide +kernel
theorem dX9_flipsFor_5 : decode cX9_flipsFor 5 = .ok (.if_icmp .ge 7, 3) := by decide +kernel
theorem dX9_flipsFor_8 : decode cX9_flipsFor 8 = .ok (.iconst 0, 1) := by decide +kernel
theorem dX9_flipsFor_9 : decode cX9_flipsFor 9 = .ok (.goto 4, 3) := by decide +kernel
theorem dX9_flipsFor_12 : decode cX9_flipsFor 12 = .ok (.iconst 1, 1) := by decide +kernel
theorem dX9_flipsFor_13 : decode cX9_flipsFor 13 = .ok (.istore 5, 2) := by decide +kernel
theorem dX9_flipsFor_15 : decode cX9_flipsFor 15 = .ok (.iload_n 2, 1) := by decide +kernel
theorem dX9_flipsFor_16 : decode cX9_flipsFor 16 = .ok (.iload 4, 2) := by decide +kernel
theorem dX9_flipsFor_18 : decode cX9_flipsFor 18 = .ok (.iadd, 1) := by decide +kernel
theorem dX9_flipsFor_19 : decode cX9_flipsFor 19 = .ok (.iload_n 3, 1) := by decide +kernel
theorem dX9_flipsFor_20 : decode cX9_flipsFor 20 = .ok (.iload 4, 2) := by decide +kernel
theorem dX9_flipsFor_22 : decode cX9_flipsFor 22 = .ok (.isub, 1) := by decide +kernel
theorem dX9_flipsFor_23 : decode cX9_flipsFor 23 = .ok (.isub, 1) := by decide +kernel
theorem dX9_flipsFor_24 : decode cX9_flipsFor 24 = .ok (.iload 5, 2) := by decide +kernel
theorem dX9_flipsFor_26 : decode cX9_flipsFor 26 = .ok (.if_icmp .ge 9, 3) := by decide +kernel
theorem dX9_flipsFor_29 : decode cX9_flipsFor 29 = .ok (.iinc 4 1, 3) := by decide +kernel
theorem dX9_flipsFor_32 : decode cX9_flipsFor 32 = .ok (.goto (-17), 3) := by decide +kernel
theorem dX9_flipsFor_35 : decode cX9_flipsFor 35 = .ok (.iload 4, 2) := by decide +kernel
theorem dX9_flipsFor_37 : decode cX9_flipsFor 37 = .ok (.ireturn, 1) := by decide +kernel
theorem dX9_flips_0 : decode cX9_flips 0 = .ok (.aload_n 0, 1) := by decide +kernel
theorem dX9_flips_1 : decode cX9_flips 1 = .ok (.iconst 0, 1) := by decide +kernel
theorem dX9_flips_2 : decode cX9_flips 2 = .ok (.putfield 73, 3) := by decide +kernel
theorem dX9_flips_5 : decode cX9_flips 5 = .ok (.aload_n 0, 1) := by decide +kernel
theorem dX9_flips_6 : decode cX9_flips 6 = .ok (.iload_n 1, 1) := by decide +kernel
theorem dX9_flips_7 : decode cX9_flips 7 = .ok (.invokevirtual 240, 3) := by decide +kernel
theorem dX9_flips_10 : decode cX9_flips 10 = .ok (.ifCond .eq 12, 3) := by decide +kernel
theorem dX9_flips_13 : decode cX9_flips 13 = .ok (.iload_n 2, 1) := by decide +kernel
theorem dX9_flips_14 : decode cX9_flips 14 = .ok (.iconst 0, 1) := by decide +kernel
theorem dX9_flips_15 : decode cX9_flips 15 = .ok (.iconst 1, 1) := by decide +kernel
theorem dX9_flips_16 : decode cX9_flips 16 = .ok (.invokestatic 80, 3) := by decide +kernel
theorem dX9_flips_19 : decode cX9_flips 19 = .ok (.ifCond .ne 9, 3) := by decide +kernel
theorem dX9_flips_22 : decode cX9_flips 22 = .ok (.aload_n 0, 1) := by decide +kernel
theorem dX9_flips_23 : decode cX9_flips 23 = .ok (.iconst 1, 1) := by decide +kernel
theorem dX9_flips_24 : decode cX9_flips 24 = .ok (.invokevirtual 210, 3) := by decide +kernel
theorem dX9_flips_27 : decode cX9_flips 27 = .ok (.ireturn, 1) := by decide +kernel
theorem dX9_flips_28 : decode cX9_flips 28 = .ok (.aload_n 0, 1) := by decide +kernel
theorem dX9_flips_29 : decode cX9_flips 29 = .ok (.invokevirtual 186, 3) := by decide +kernel
theorem dX9_flips_32 : decode cX9_flips 32 = .ok (.iconst (-1), 1) := by decide +kernel
theorem dX9_flips_33 : decode cX9_flips 33 = .ok (.istore_n 3, 1) := by decide +kernel
theorem dX9_flips_34 : decode cX9_flips 34 = .ok (.iconst 0, 1) := by decide +kernel
theorem dX9_flips_35 : decode cX9_flips 35 = .ok (.istore 4, 2) := by decide +kernel
theorem dX9_flips_37 : decode cX9_flips 37 = .ok (.iconst 0, 1) := by decide +kernel
theorem dX9_flips_38 : decode cX9_flips 38 = .ok (.istore 5, 2) := by decide +kernel
theorem dX9_flips_40 : decode cX9_flips 40 = .ok (.iload 5, 2) := by decide +kernel
theorem dX9_flips_42 : decode cX9_flips 42 = .ok (.aload_n 0, 1) := by decide +kernel
theorem dX9_flips_43 : decode cX9_flips 43 = .ok (.iload_n 1, 1) := by decide +kernel
theorem dX9_flips_44 : decode cX9_flips 44 = .ok (.invokevirtual 87, 3) := by decide +kernel
theorem dX9_flips_47 : decode cX9_flips 47 = .ok (.if_icmp .ge 84, 3) := by decide +kernel
theorem dX9_flips_50 : decode cX9_flips 50 = .ok (.iload 5, 2) := by decide +kernel
theorem dX9_flips_52 : decode cX9_flips 52 = .ok (.aload_n 0, 1) := by decide +kernel
theorem dX9_flips_53 : decode cX9_flips 53 = .ok (.getfield 34, 3) := by decide +kernel
theorem dX9_flips_56 : decode cX9_flips 56 = .ok (.iload_n 1, 1) := by decide +kernel
theorem dX9_flips_57 : decode cX9_flips 57 = .ok (.iaload, 1) := by decide +kernel
theorem dX9_flips_58 : decode cX9_flips 58 = .ok (.if_icmp .ne 6, 3) := by decide +kernel
theorem dX9_flips_61 : decode cX9_flips 61 = .ok (.goto 64, 3) := by decide +kernel
theorem dX9_flips_64 : decode cX9_flips 64 = .ok (.iload 5, 2) := by decide +kernel
theorem dX9_flips_66 : decode cX9_flips 66 = .ok (.aload_n 0, 1) := by decide +kernel
theorem dX9_flips_67 : decode cX9_flips 67 = .ok (.getfield 34, 3) := by decide +kernel
theorem dX9_flips_70 : decode cX9_flips 70 = .ok (.iload_n 1, 1) := by decide +kernel
theorem dX9_flips_71 : decode cX9_flips 71 = .ok (.iaload, 1) := by decide +kernel
theorem dX9_flips_72 : decode cX9_flips 72 = .ok (.aload_n 0, 1) := by decide +kernel
theorem dX9_flips_73 : decode cX9_flips 73 = .ok (.getfield 28, 3) := by decide +kernel
theorem dX9_flips_76 : decode cX9_flips 76 = .ok (.iconst 4, 1) := by decide +kernel
theorem dX9_flips_77 : decode cX9_flips 77 = .ok (.iload_n 1, 1) := by decide +kernel
theorem dX9_flips_78 : decode cX9_flips 78 = .ok (.imul, 1) := by decide +kernel
theorem dX9_flips_79 : decode cX9_flips 79 = .ok (.iload 5, 2) := by decide +kernel
theorem dX9_flips_81 : decode cX9_flips 81 = .ok (.iadd, 1) := by decide +kernel
theorem dX9_flips_82 : decode cX9_flips 82 = .ok (.iaload, 1) := by decide +kernel
theorem dX9_flips_83 : decode cX9_flips 83 = .ok (.aload_n 0, 1) := by decide +kernel
theorem dX9_flips_84 : decode cX9_flips 84 = .ok (.getfield 28, 3) := by decide +kernel
theorem dX9_flips_87 : decode cX9_flips 87 = .ok (.iconst 4, 1) := by decide +kernel
theorem dX9_flips_88 : decode cX9_flips 88 = .ok (.iload_n 1, 1) := by decide +kernel
theorem dX9_flips_89 : decode cX9_flips 89 = .ok (.imul, 1) := by decide +kernel
theorem dX9_flips_90 : decode cX9_flips 90 = .ok (.aload_n 0, 1) := by decide +kernel
theorem dX9_flips_91 : decode cX9_flips 91 = .ok (.getfield 34, 3) := by decide +kernel
theorem dX9_flips_94 : decode cX9_flips 94 = .ok (.iload_n 1, 1) := by decide +kernel
theorem dX9_flips_95 : decode cX9_flips 95 = .ok (.iaload, 1) := by decide +kernel
theorem dX9_flips_96 : decode cX9_flips 96 = .ok (.iadd, 1) := by decide +kernel
theorem dX9_flips_97 : decode cX9_flips 97 = .ok (.iaload, 1) := by decide +kernel
theorem dX9_flips_98 : decode cX9_flips 98 = .ok (.invokestatic 268, 3) := by decide +kernel
theorem dX9_flips_101 : decode cX9_flips 101 = .ok (.istore 6, 2) := by decide +kernel
theorem dX9_flips_103 : decode cX9_flips 103 = .ok (.iload_n 3, 1) := by decide +kernel
theorem dX9_flips_104 : decode cX9_flips 104 = .ok (.iconst (-1), 1) := by decide +kernel
theorem dX9_flips_105 : decode cX9_flips 105 = .ok (.if_icmp .eq 13, 3) := by decide +kernel
theorem dX9_flips_108 : decode cX9_flips 108 = .ok (.iload 6, 2) := by decide +kernel
theorem dX9_flips_110 : decode cX9_flips 110 = .ok (.iload 4, 2) := by decide +kernel
theorem dX9_flips_112 : decode cX9_flips 112 = .ok (.if_icmp .lt 6, 3) := by decide +kernel
theorem dX9_flips_115 : decode cX9_flips 115 = .ok (.goto 10, 3) := by decide +kernel
theorem dX9_flips_118 : decode cX9_flips 118 = .ok (.iload 5, 2) := by decide +kernel
theorem dX9_flips_120 : decode cX9_flips 120 = .ok (.istore_n 3, 1) := by decide +kernel
theorem dX9_flips_121 : decode cX9_flips 121 = .ok (.iload 6, 2) := by decide +kernel
theorem dX9_flips_123 : decode cX9_flips 123 = .ok (.istore 4, 2) := by decide +kernel
theorem dX9_flips_125 : decode cX9_flips 125 = .ok (.iinc 5 1, 3) := by decide +kernel
theorem dX9_flips_128 : decode cX9_flips 128 = .ok (.goto (-88), 3) := by decide +kernel
theorem dX9_flips_131 : decode cX9_flips 131 = .ok (.iload_n 2, 1) := by decide +kernel
theorem dX9_flips_132 : decode cX9_flips 132 = .ok (.ifCond .ne 8, 3) := by decide +kernel
theorem dX9_flips_135 : decode cX9_flips 135 = .ok (.iload 4, 2) := by decide +kernel
theorem dX9_flips_137 : decode cX9_flips 137 = .ok (.goto 4, 3) := by decide +kernel
theorem dX9_flips_140 : decode cX9_flips 140 = .ok (.iload_n 3, 1) := by decide +kernel
theorem dX9_flips_141 : decode cX9_flips 141 = .ok (.ireturn, 1) := by decide +kernel
theorem dX9_votes_0 : decode cX9_votes 0 = .ok (.aload_n 0, 1) := by decide +kernel
theorem dX9_votes_1 : decode cX9_votes 1 = .ok (.iconst 0, 1) := by decide +kernel
theorem dX9_votes_2 : decode cX9_votes 2 = .ok (.putfield 73, 3) := by decide +kernel
theorem dX9_votes_5 : decode cX9_votes 5 = .ok (.aload_n 0, 1) := by decide +kernel
theorem dX9_votes_6 : decode cX9_votes 6 = .ok (.iload_n 1, 1) := by decide +kernel
theorem dX9_votes_7 : decode cX9_votes 7 = .ok (.invokevirtual 240, 3) := by decide +kernel
theorem dX9_votes_10 : decode cX9_votes 10 = .ok (.ifCond .eq 12, 3) := by decide +kernel
theorem dX9_votes_13 : decode cX9_votes 13 = .ok (.aload_n 0, 1) := by decide +kernel
theorem dX9_votes_14 : decode cX9_votes 14 = .ok (.iload_n 1, 1) := by decide +kernel
theorem dX9_votes_15 : decode cX9_votes 15 = .ok (.iload_n 2, 1) := by decide +kernel
theorem dX9_votes_16 : decode cX9_votes 16 = .ok (.invokevirtual 247, 3) := by decide +kernel
theorem dX9_votes_19 : decode cX9_votes 19 = .ok (.ifCond .ne 9, 3) := by decide +kernel
theorem dX9_votes_22 : decode cX9_votes 22 = .ok (.aload_n 0, 1) := by decide +kernel
theorem dX9_votes_23 : decode cX9_votes 23 = .ok (.iconst 1, 1) := by decide +kernel
theorem dX9_votes_24 : decode cX9_votes 24 = .ok (.invokevirtual 210, 3) := by decide +kernel
theorem dX9_votes_27 : decode cX9_votes 27 = .ok (.ireturn, 1) := by decide +kernel
theorem dX9_votes_28 : decode cX9_votes 28 = .ok (.aload_n 0, 1) := by decide +kernel
theorem dX9_votes_29 : decode cX9_votes 29 = .ok (.invokevirtual 114, 3) := by decide +kernel
theorem dX9_votes_32 : decode cX9_votes 32 = .ok (.iload_n 3, 1) := by decide +kernel
theorem dX9_votes_33 : decode cX9_votes 33 = .ok (.ifCond .eq 16, 3) := by decide +kernel
theorem dX9_votes_36 : decode cX9_votes 36 = .ok (.aload_n 0, 1) := by decide +kernel
theorem dX9_votes_37 : decode cX9_votes 37 = .ok (.getfield 28, 3) := by decide +kernel
theorem dX9_votes_40 : decode cX9_votes 40 = .ok (.iconst 4, 1) := by decide +kernel
theorem dX9_votes_41 : decode cX9_votes 41 = .ok (.iload_n 1, 1) := by decide +kernel
theorem dX9_votes_42 : decode cX9_votes 42 = .ok (.imul, 1) := by decide +kernel
theorem dX9_votes_43 : decode cX9_votes 43 = .ok (.iload_n 2, 1) := by decide +kernel
theorem dX9_votes_44 : decode cX9_votes 44 = .ok (.iadd, 1) := by decide +kernel
theorem dX9_votes_45 : decode cX9_votes 45 = .ok (.iaload, 1) := by decide +kernel
theorem dX9_votes_46 : decode cX9_votes 46 = .ok (.goto 13, 3) := by decide +kernel
theorem dX9_votes_49 : decode cX9_votes 49 = .ok (.aload_n 0, 1) := by decide +kernel
theorem dX9_votes_50 : decode cX9_votes 50 = .ok (.getfield 25, 3) := by decide +kernel
theorem dX9_votes_53 : decode cX9_votes 53 = .ok (.iconst 4, 1) := by decide +kernel
theorem dX9_votes_54 : decode cX9_votes 54 = .ok (.iload_n 1, 1) := by decide +kernel
theorem dX9_votes_55 : decode cX9_votes 55 = .ok (.imul, 1) := by decide +kernel
theorem dX9_votes_56 : decode cX9_votes 56 = .ok (.iload_n 2, 1) := by decide +kernel
theorem dX9_votes_57 : decode cX9_votes 57 = .ok (.iadd, 1) := by decide +kernel
theorem dX9_votes_58 : decode cX9_votes 58 = .ok (.iaload, 1) := by decide +kernel
theorem dX9_votes_59 : decode cX9_votes 59 = .ok (.ireturn, 1) := by decide +kernel
theorem dX9_ballot_0 : decode cX9_ballot 0 = .ok (.aload_n 0, 1) := by decide +kernel
theorem dX9_ballot_1 : decode cX9_ballot 1 = .ok (.iconst 0, 1) := by decide +kernel
theorem dX9_ballot_2 : decode cX9_ballot 2 = .ok (.putfield 73, 3) := by decide +kernel
theorem dX9_ballot_5 : decode cX9_ballot 5 = .ok (.aload_n 0, 1) := by decide +kernel
theorem dX9_ballot_6 : decode cX9_ballot 6 = .ok (.iload_n 1, 1) := by decide +kernel
theorem dX9_ballot_7 : decode cX9_ballot 7 = .ok (.invokevirtual 251, 3) := by decide +kernel
theorem dX9_ballot_10 : decode cX9_ballot 10 = .ok (.ifCond .eq 20, 3) := by decide +kernel
theorem dX9_ballot_13 : decode cX9_ballot 13 = .ok (.aload_n 0, 1) := by decide +kernel
theorem dX9_ballot_14 : decode cX9_ballot 14 = .ok (.iload_n 2, 1) := by decide +kernel
theorem dX9_ballot_15 : decode cX9_ballot 15 = .ok (.invokevirtual 240, 3) := by decide +kernel
theorem dX9_ballot_18 : decode cX9_ballot 18 = .ok (.ifCond .eq 12, 3) := by decide +kernel
theorem dX9_ballot_21 : decode cX9_ballot 21 = .ok (.iload_n 3, 1) := by decide +kernel
theorem dX9_ballot_22 : decode cX9_ballot 22 = .ok (.iconst 0, 1) := by decide +kernel
theorem dX9_ballot_23 : decode cX9_ballot 23 = .ok (.iconst 2, 1) := by decide +kernel
theorem dX9_ballot_24 : decode cX9_ballot 24 = .ok (.invokestatic 80, 3) := by decide +kernel
theorem dX9_ballot_27 : decode cX9_ballot 27 = .ok (.ifCond .ne 9, 3) := by decide +kernel
theorem dX9_ballot_30 : decode cX9_ballot 30 = .ok (.aload_n 0, 1) := by decide +kernel
theorem dX9_ballot_31 : decode cX9_ballot 31 = .ok (.iconst 1, 1) := by decide +kernel
theorem dX9_ballot_32 : decode cX9_ballot 32 = .ok (.invokevirtual 210, 3) := by decide +kernel
theorem dX9_ballot_35 : decode cX9_ballot 35 = .ok (.ireturn, 1) := by decide +kernel
theorem dX9_ballot_36 : decode cX9_ballot 36 = .ok (.iload_n 3, 1) := by decide +kernel
theorem dX9_ballot_37 : decode cX9_ballot 37 = .ok (.iconst 2, 1) := by decide +kernel
theorem dX9_ballot_38 : decode cX9_ballot 38 = .ok (.if_icmp .ge 23, 3) := by decide +kernel
theorem dX9_ballot_41 : decode cX9_ballot 41 = .ok (.iload_n 3, 1) := by decide +kernel
theorem dX9_ballot_42 : decode cX9_ballot 42 = .ok (.ifCond .ne 12, 3) := by decide +kernel
theorem dX9_ballot_45 : decode cX9_ballot 45 = .ok (.aload_n 0, 1) := by decide +kernel
theorem dX9_ballot_46 : decode cX9_ballot 46 = .ok (.iload_n 1, 1) := by decide +kernel
theorem dX9_ballot_47 : decode cX9_ballot 47 = .ok (.iload_n 2, 1) := by decide +kernel
theorem dX9_ballot_48 : decode cX9_ballot 48 = .ok (.invokevirtual 95, 3) := by decide +kernel
theorem dX9_ballot_51 : decode cX9_ballot 51 = .ok (.goto 9, 3) := by decide +kernel
theorem dX9_ballot_54 : decode cX9_ballot 54 = .ok (.aload_n 0, 1) := by decide +kernel
theorem dX9_ballot_55 : decode cX9_ballot 55 = .ok (.iload_n 1, 1) := by decide +kernel
theorem dX9_ballot_56 : decode cX9_ballot 56 = .ok (.iload_n 2, 1) := by decide +kernel
theorem dX9_ballot_57 : decode cX9_ballot 57 = .ok (.invokevirtual 103, 3) := by decide +kernel
theorem dX9_ballot_60 : decode cX9_ballot 60 = .ok (.ireturn, 1) := by decide +kernel
theorem dX9_ballot_61 : decode cX9_ballot 61 = .ok (.aload_n 0, 1) := by decide +kernel
theorem dX9_ballot_62 : decode cX9_ballot 62 = .ok (.invokevirtual 186, 3) := by decide +kernel
theorem dX9_ballot_65 : decode cX9_ballot 65 = .ok (.aload_n 0, 1) := by decide +kernel
theorem dX9_ballot_66 : decode cX9_ballot 66 = .ok (.iload_n 1, 1) := by decide +kernel
theorem dX9_ballot_67 : decode cX9_ballot 67 = .ok (.iload_n 2, 1) := by decide +kernel
theorem dX9_ballot_68 : decode cX9_ballot 68 = .ok (.invokevirtual 172, 3) := by decide +kernel
theorem dX9_ballot_71 : decode cX9_ballot 71 = .ok (.ireturn, 1) := by decide +kernel
theorem dX9_drawn_0 : decode cX9_drawn 0 = .ok (.aload_n 0, 1) := by decide +kernel
theorem dX9_drawn_1 : decode cX9_drawn 1 = .ok (.iconst 0, 1) := by decide +kernel
theorem dX9_drawn_2 : decode cX9_drawn 2 = .ok (.putfield 73, 3) := by decide +kernel
theorem dX9_drawn_5 : decode cX9_drawn 5 = .ok (.aload_n 0, 1) := by decide +kernel
theorem dX9_drawn_6 : decode cX9_drawn 6 = .ok (.invokevirtual 213, 3) := by decide +kernel
theorem dX9_drawn_9 : decode cX9_drawn 9 = .ok (.iload_n 1, 1) := by decide +kernel
theorem dX9_drawn_10 : decode cX9_drawn 10 = .ok (.iconst 0, 1) := by decide +kernel
theorem dX9_drawn_11 : decode cX9_drawn 11 = .ok (.aload_n 0, 1) := by decide +kernel
theorem dX9_drawn_12 : decode cX9_drawn 12 = .ok (.getfield 166, 3) := by decide +kernel
theorem dX9_drawn_15 : decode cX9_drawn 15 = .ok (.iconst 1, 1) := by decide +kernel
theorem dX9_drawn_16 : decode cX9_drawn 16 = .ok (.isub, 1) := by decide +kernel
theorem dX9_drawn_17 : decode cX9_drawn 17 = .ok (.invokestatic 80, 3) := by decide +kernel
theorem dX9_drawn_20 : decode cX9_drawn 20 = .ok (.ifCond .eq 16, 3) := by decide +kernel
theorem dX9_drawn_23 : decode cX9_drawn 23 = .ok (.aload_n 0, 1) := by decide +kernel
theorem dX9_drawn_24 : decode cX9_drawn 24 = .ok (.getfield 9, 3) := by decide +kernel
theorem dX9_drawn_27 : decode cX9_drawn 27 = .ok (.sipush 1214, 3) := by decide +kernel
theorem dX9_drawn_30 : decode cX9_drawn 30 = .ok (.iload_n 1, 1) := by decide +kernel
theorem dX9_drawn_31 : decode cX9_drawn 31 = .ok (.iadd, 1) := by decide +kernel
theorem dX9_drawn_32 : decode cX9_drawn 32 = .ok (.iaload, 1) := by decide +kernel
theorem dX9_drawn_33 : decode cX9_drawn 33 = .ok (.goto 8, 3) := by decide +kernel
theorem dX9_drawn_36 : decode cX9_drawn 36 = .ok (.aload_n 0, 1) := by decide +kernel
theorem dX9_drawn_37 : decode cX9_drawn 37 = .ok (.iconst 1, 1) := by decide +kernel
theorem dX9_drawn_38 : decode cX9_drawn 38 = .ok (.invokevirtual 210, 3) := by decide +kernel
theorem dX9_drawn_41 : decode cX9_drawn 41 = .ok (.ireturn, 1) := by decide +kernel
theorem dX9_times__0 : decode cX9_times_ 0 = .ok (.aload_n 0, 1) := by decide +kernel
theorem dX9_times__1 : decode cX9_times_ 1 = .ok (.iconst 0, 1) := by decide +kernel
theorem dX9_times__2 : decode cX9_times_ 2 = .ok (.putfield 73, 3) := by decide +kernel
theorem dX9_times__5 : decode cX9_times_ 5 = .ok (.aload_n 0, 1) := by decide +kernel
theorem dX9_times__6 : decode cX9_times_ 6 = .ok (.iload_n 1, 1) := by decide +kernel
theorem dX9_times__7 : decode cX9_times_ 7 = .ok (.invokevirtual 251, 3) := by decide +kernel
theorem dX9_times__10 : decode cX9_times_ 10 = .ok (.ifCond .ne 9, 3) := by decide +kernel
theorem dX9_times__13 : decode cX9_times_ 13 = .ok (.aload_n 0, 1) := by decide +kernel
theorem dX9_times__14 : decode cX9_times_ 14 = .ok (.iconst 1, 1) := by decide +kernel
theorem dX9_times__15 : decode cX9_times_ 15 = .ok (.invokevirtual 210, 3) := by decide +kernel
theorem dX9_times__18 : decode cX9_times_ 18 = .ok (.ireturn, 1) := by decide +kernel
theorem dX9_times__19 : decode cX9_times_ 19 = .ok (.aload_n 0, 1) := by decide +kernel
theorem dX9_times__20 : decode cX9_times_ 20 = .ok (.invokevirtual 213, 3) := by decide +kernel
theorem dX9_times__23 : decode cX9_times_ 23 = .ok (.aload_n 0, 1) := by decide +kernel
theorem dX9_times__24 : decode cX9_times_ 24 = .ok (.invokevirtual 225, 3) := by decide +kernel
theorem dX9_times__27 : decode cX9_times_ 27 = .ok (.aload_n 0, 1) := by decide +kernel
theorem dX9_times__28 : decode cX9_times_ 28 = .ok (.getfield 53, 3) := by decide +kernel
theorem dX9_times__31 : decode cX9_times_ 31 = .ok (.iload_n 1, 1) := by decide +kernel
theorem dX9_times__32 : decode cX9_times_ 32 = .ok (.iaload, 1) := by decide +kernel
theorem dX9_times__33 : decode cX9_times_ 33 = .ok (.ireturn, 1) := by decide +kernel
theorem dX9_mistakes_0 : decode cX9_mistakes 0 = .ok (.aload_n 0, 1) := by decide +kernel
theorem dX9_mistakes_1 : decode cX9_mistakes 1 = .ok (.iconst 0, 1) := by decide +kernel
theorem dX9_mistakes_2 : decode cX9_mistakes 2 = .ok (.putfield 73, 3) := by decide +kernel
theorem dX9_mistakes_5 : decode cX9_mistakes 5 = .ok (.aload_n 0, 1) := by decide +kernel
theorem dX9_mistakes_6 : decode cX9_mistakes 6 = .ok (.iload_n 1, 1) := by decide +kernel
theorem dX9_mistakes_7 : decode cX9_mistakes 7 = .ok (.invokevirtual 240, 3) := by decide +kernel
theorem dX9_mistakes_10 : decode cX9_mistakes 10 = .ok (.ifCond .eq 13, 3) := by decide +kernel
theorem dX9_mistakes_13 : decode cX9_mistakes 13 = .ok (.iload_n 2, 1) := by decide +kernel
theorem dX9_mistakes_14 : decode cX9_mistakes 14 = .ok (.bipush (-2), 2) := by decide +kernel
theorem dX9_mistakes_16 : decode cX9_mistakes 16 = .ok (.iconst 2, 1) := by decide +kernel
theorem dX9_mistakes_17 : decode cX9_mistakes 17 = .ok (.invokestatic 80, 3) := by decide +kernel
theorem dX9_mistakes_20 : decode cX9_mistakes 20 = .ok (.ifCond .ne 9, 3) := by decide +kernel
theorem dX9_mistakes_23 : decode cX9_mistakes 23 = .ok (.aload_n 0, 1) := by decide +kernel
theorem dX9_mistakes_24 : decode cX9_mistakes 24 = .ok (.iconst 1, 1) := by decide +kernel
theorem dX9_mistakes_25 : decode cX9_mistakes 25 = .ok (.invokevirtual 210, 3) := by decide +kernel
theorem dX9_mistakes_28 : decode cX9_mistakes 28 = .ok (.ireturn, 1) := by decide +kernel
theorem dX9_mistakes_29 : decode cX9_mistakes 29 = .ok (.aload_n 0, 1) := by decide +kernel
theorem dX9_mistakes_30 : decode cX9_mistakes 30 = .ok (.invokevirtual 213, 3) := by decide +kernel
theorem dX9_mistakes_33 : decode cX9_mistakes 33 = .ok (.iconst 0, 1) := by decide +kernel
theorem dX9_mistakes_34 : decode cX9_mistakes 34 = .ok (.istore_n 3, 1) := by decide +kernel
theorem dX9_mistakes_35 : decode cX9_mistakes 35 = .ok (.iconst 0, 1) := by decide +kernel
theorem dX9_mistakes_36 : decode cX9_mistakes 36 = .ok (.istore 4, 2) := by decide +kernel
theorem dX9_mistakes_38 : decode cX9_mistakes 38 = .ok (.iload 4, 2) := by decide +kernel
theorem dX9_mistakes_40 : decode cX9_mistakes 40 = .ok (.aload_n 0, 1) := by decide +kernel
theorem dX9_mistakes_41 : decode cX9_mistakes 41 = .ok (.getfield 166, 3) := by decide +kernel
theorem dX9_mistakes_44 : decode cX9_mistakes 44 = .ok (.if_icmp .ge 32, 3) := by decide +kernel
theorem dX9_mistakes_47 : decode cX9_mistakes 47 = .ok (.aload_n 0, 1) := by decide +kernel
theorem dX9_mistakes_48 : decode cX9_mistakes 48 = .ok (.aload_n 0, 1) := by decide +kernel
theorem dX9_mistakes_49 : decode cX9_mistakes 49 = .ok (.getfield 9, 3) := by decide +kernel
theorem dX9_mistakes_52 : decode cX9_mistakes 52 = .ok (.sipush 1214, 3) := by decide +kernel
theorem dX9_mistakes_55 : decode cX9_mistakes 55 = .ok (.iload 4, 2) := by decide +kernel
theorem dX9_mistakes_57 : decode cX9_mistakes 57 = .ok (.iadd, 1) := by decide +kernel
theorem dX9_mistakes_58 : decode cX9_mistakes 58 = .ok (.iaload, 1) := by decide +kernel
theorem dX9_mistakes_59 : decode cX9_mistakes 59 = .ok (.iload_n 1, 1) := by decide +kernel
theorem dX9_mistakes_60 : decode cX9_mistakes 60 = .ok (.invokevirtual 172, 3) := by decide +kernel
theorem dX9_mistakes_63 : decode cX9_mistakes 63 = .ok (.iload_n 2, 1) := by decide +kernel
theorem dX9_mistakes_64 : decode cX9_mistakes 64 = .ok (.if_icmp .ne 6, 3) := by decide +kernel
theorem dX9_mistakes_67 : decode cX9_mistakes 67 = .ok (.iinc 3 1, 3) := by decide +kernel
theorem dX9_mistakes_70 : decode cX9_mistakes 70 = .ok (.iinc 4 1, 3) := by decide +kernel
theorem dX9_mistakes_73 : decode cX9_mistakes 73 = .ok (.goto (-35), 3) := by decide +kernel
theorem dX9_mistakes_76 : decode cX9_mistakes 76 = .ok (.iload_n 3, 1) := by decide +kernel
theorem dX9_mistakes_77 : decode cX9_mistakes 77 = .ok (.ireturn, 1) := by decide +kernel
theorem dX9_keep_0 : decode cX9_keep 0 = .ok (.aload_n 0, 1) := by decide +kernel
theorem dX9_keep_1 : decode cX9_keep 1 = .ok (.getfield 234, 3) := by decide +kernel
theorem dX9_keep_4 : decode cX9_keep 4 = .ok (.bipush 12, 2) := by decide +kernel
theorem dX9_keep_6 : decode cX9_keep 6 = .ok (.if_icmp .ne 46, 3) := by decide +kernel
theorem dX9_keep_9 : decode cX9_keep 9 = .ok (.sipush 1514, 3) := by decide +kernel
theorem dX9_keep_12 : decode cX9_keep 12 = .ok (.istore_n 1, 1) := by decide +kernel
theorem dX9_keep_13 : decode cX9_keep 13 = .ok (.iload_n 1, 1) := by decide +kernel
theorem dX9_keep_14 : decode cX9_keep 14 = .ok (.sipush 18168, 3) := by decide +kernel
theorem dX9_keep_17 : decode cX9_keep 17 = .ok (.if_icmp .ge 25, 3) := by decide +kernel
theorem dX9_keep_20 : decode cX9_keep 20 = .ok (.aload_n 0, 1) := by decide +kernel
theorem dX9_keep_21 : decode cX9_keep 21 = .ok (.getfield 22, 3) := by decide +kernel
theorem dX9_keep_24 : decode cX9_keep 24 = .ok (.iload_n 1, 1) := by decide +kernel
theorem dX9_keep_25 : decode cX9_keep 25 = .ok (.sipush 1514, 3) := by decide +kernel
theorem dX9_keep_28 : decode cX9_keep 28 = .ok (.isub, 1) := by decide +kernel
theorem dX9_keep_29 : decode cX9_keep 29 = .ok (.aload_n 0, 1) := by decide +kernel
theorem dX9_keep_30 : decode cX9_keep 30 = .ok (.getfield 22, 3) := by decide +kernel
theorem dX9_keep_33 : decode cX9_keep 33 = .ok (.iload_n 1, 1) := by decide +kernel
theorem dX9_keep_34 : decode cX9_keep 34 = .ok (.iaload, 1) := by decide +kernel
theorem dX9_keep_35 : decode cX9_keep 35 = .ok (.iastore, 1) := by decide +kernel
theorem dX9_keep_36 : decode cX9_keep 36 = .ok (.iinc 1 1, 3) := by decide +kernel
theorem dX9_keep_39 : decode cX9_keep 39 = .ok (.goto (-26), 3) := by decide +kernel
theorem dX9_keep_42 : decode cX9_keep 42 = .ok (.aload_n 0, 1) := by decide +kernel
theorem dX9_keep_43 : decode cX9_keep 43 = .ok (.dup, 1) := by decide +kernel
theorem dX9_keep_44 : decode cX9_keep 44 = .ok (.getfield 234, 3) := by decide +kernel
theorem dX9_keep_47 : decode cX9_keep 47 = .ok (.iconst 1, 1) := by decide +kernel
theorem dX9_keep_48 : decode cX9_keep 48 = .ok (.isub, 1) := by decide +kernel
theorem dX9_keep_49 : decode cX9_keep 49 = .ok (.putfield 234, 3) := by decide +kernel
theorem dX9_keep_52 : decode cX9_keep 52 = .ok (.iconst 0, 1) := by decide +kernel
theorem dX9_keep_53 : decode cX9_keep 53 = .ok (.istore_n 1, 1) := by decide +kernel
theorem dX9_keep_54 : decode cX9_keep 54 = .ok (.iload_n 1, 1) := by decide +kernel
theorem dX9_keep_55 : decode cX9_keep 55 = .ok (.sipush 1514, 3) := by decide +kernel
theorem dX9_keep_58 : decode cX9_keep 58 = .ok (.if_icmp .ge 30, 3) := by decide +kernel
theorem dX9_keep_61 : decode cX9_keep 61 = .ok (.aload_n 0, 1) := by decide +kernel
theorem dX9_keep_62 : decode cX9_keep 62 = .ok (.getfield 22, 3) := by decide +kernel
theorem dX9_keep_65 : decode cX9_keep 65 = .ok (.sipush 1514, 3) := by decide +kernel
theorem dX9_keep_68 : decode cX9_keep 68 = .ok (.aload_n 0, 1) := by decide +kernel
theorem dX9_keep_69 : decode cX9_keep 69 = .ok (.getfield 234, 3) := by decide +kernel
theorem dX9_keep_72 : decode cX9_keep 72 = .ok (.imul, 1) := by decide +kernel
theorem dX9_keep_73 : decode cX9_keep 73 = .ok (.iload_n 1, 1) := by decide +kernel
theorem dX9_keep_74 : decode cX9_keep 74 = .ok (.iadd, 1) := by decide +kernel
theorem dX9_keep_75 : decode cX9_keep 75 = .ok (.aload_n 0, 1) := by decide +kernel
theorem dX9_keep_76 : decode cX9_keep 76 = .ok (.getfield 9, 3) := by decide +kernel
theorem dX9_keep_79 : decode cX9_keep 79 = .ok (.iload_n 1, 1) := by decide +kernel
theorem dX9_keep_80 : decode cX9_keep 80 = .ok (.iaload, 1) := by decide +kernel
theorem dX9_keep_81 : decode cX9_keep 81 = .ok (.iastore, 1) := by decide +kernel
theorem dX9_keep_82 : decode cX9_keep 82 = .ok (.iinc 1 1, 3) := by decide +kernel
theorem dX9_keep_85 : decode cX9_keep 85 = .ok (.goto (-31), 3) := by decide +kernel
theorem dX9_keep_88 : decode cX9_keep 88 = .ok (.aload_n 0, 1) := by decide +kernel
theorem dX9_keep_89 : decode cX9_keep 89 = .ok (.dup, 1) := by decide +kernel
theorem dX9_keep_90 : decode cX9_keep 90 = .ok (.getfield 234, 3) := by decide +kernel
theorem dX9_keep_93 : decode cX9_keep 93 = .ok (.iconst 1, 1) := by decide +kernel
theorem dX9_keep_94 : decode cX9_keep 94 = .ok (.iadd, 1) := by decide +kernel
theorem dX9_keep_95 : decode cX9_keep 95 = .ok (.putfield 234, 3) := by decide +kernel
theorem dX9_keep_98 : decode cX9_keep 98 = .ok (.return_, 1) := by decide +kernel
theorem dX9_becomes_0 : decode cX9_becomes 0 = .ok (.aload_n 0, 1) := by decide +kernel
theorem dX9_becomes_1 : decode cX9_becomes 1 = .ok (.invokevirtual 216, 3) := by decide +kernel
theorem dX9_becomes_4 : decode cX9_becomes 4 = .ok (.aload_n 0, 1) := by decide +kernel
theorem dX9_becomes_5 : decode cX9_becomes 5 = .ok (.getfield 9, 3) := by decide +kernel
theorem dX9_becomes_8 : decode cX9_becomes 8 = .ok (.iload_n 1, 1) := by decide +kernel
theorem dX9_becomes_9 : decode cX9_becomes 9 = .ok (.iaload, 1) := by decide +kernel
theorem dX9_becomes_10 : decode cX9_becomes 10 = .ok (.istore_n 3, 1) := by decide +kernel
theorem dX9_becomes_11 : decode cX9_becomes 11 = .ok (.aload_n 0, 1) := by decide +kernel
theorem dX9_becomes_12 : decode cX9_becomes 12 = .ok (.getfield 9, 3) := by decide +kernel
theorem dX9_becomes_15 : decode cX9_becomes 15 = .ok (.iload_n 1, 1) := by decide +kernel
theorem dX9_becomes_16 : decode cX9_becomes 16 = .ok (.iload_n 2, 1) := by decide +kernel
theorem dX9_becomes_17 : decode cX9_becomes 17 = .ok (.iastore, 1) := by decide +kernel
theorem dX9_becomes_18 : decode cX9_becomes 18 = .ok (.iload_n 3, 1) := by decide +kernel
theorem dX9_becomes_19 : decode cX9_becomes 19 = .ok (.ireturn, 1) := by decide +kernel
theorem dX9_paper_0 : decode cX9_paper 0 = .ok (.aload_n 0, 1) := by decide +kernel
theorem dX9_paper_1 : decode cX9_paper 1 = .ok (.aload_n 0, 1) := by decide +kernel
theorem dX9_paper_2 : decode cX9_paper 2 = .ok (.iload_n 1, 1) := by decide +kernel
theorem dX9_paper_3 : decode cX9_paper 3 = .ok (.invokevirtual 251, 3) := by decide +kernel
theorem dX9_paper_6 : decode cX9_paper 6 = .ok (.ifCond .eq 11, 3) := by decide +kernel
theorem dX9_paper_9 : decode cX9_paper 9 = .ok (.aload_n 0, 1) := by decide +kernel
theorem dX9_paper_10 : decode cX9_paper 10 = .ok (.iload_n 2, 1) := by decide +kernel
theorem dX9_paper_11 : decode cX9_paper 11 = .ok (.invokevirtual 240, 3) := by decide +kernel
theorem dX9_paper_14 : decode cX9_paper 14 = .ok (.ifCond .ne 7, 3) := by decide +kernel
theorem dX9_paper_17 : decode cX9_paper 17 = .ok (.iconst 1, 1) := by decide +kernel
theorem dX9_paper_18 : decode cX9_paper 18 = .ok (.goto 24, 3) := by decide +kernel
theorem dX9_paper_21 : decode cX9_paper 21 = .ok (.iload_n 3, 1) := by decide +kernel
theorem dX9_paper_22 : decode cX9_paper 22 = .ok (.bipush (-2), 2) := by decide +kernel
theorem dX9_paper_24 : decode cX9_paper 24 = .ok (.aload_n 0, 1) := by decide +kernel
theorem dX9_paper_25 : decode cX9_paper 25 = .ok (.iload_n 2, 1) := by decide +kernel
theorem dX9_paper_26 : decode cX9_paper 26 = .ok (.invokevirtual 87, 3) := by decide +kernel
theorem dX9_paper_29 : decode cX9_paper 29 = .ok (.iconst 1, 1) := by decide +kernel
theorem dX9_paper_30 : decode cX9_paper 30 = .ok (.isub, 1) := by decide +kernel
theorem dX9_paper_31 : decode cX9_paper 31 = .ok (.invokestatic 80, 3) := by decide +kernel
theorem dX9_paper_34 : decode cX9_paper 34 = .ok (.ifCond .ne 7, 3) := by decide +kernel
theorem dX9_paper_37 : decode cX9_paper 37 = .ok (.iconst 2, 1) := by decide +kernel
theorem dX9_paper_38 : decode cX9_paper 38 = .ok (.goto 4, 3) := by decide +kernel
theorem dX9_paper_41 : decode cX9_paper 41 = .ok (.iconst 0, 1) := by decide +kernel
theorem dX9_paper_42 : decode cX9_paper 42 = .ok (.putfield 73, 3) := by decide +kernel
theorem dX9_paper_45 : decode cX9_paper 45 = .ok (.aload_n 0, 1) := by decide +kernel
theorem dX9_paper_46 : decode cX9_paper 46 = .ok (.getfield 73, 3) := by decide +kernel
theorem dX9_paper_49 : decode cX9_paper 49 = .ok (.ifCond .le 7, 3) := by decide +kernel
theorem dX9_paper_52 : decode cX9_paper 52 = .ok (.iconst 0, 1) := by decide +kernel
theorem dX9_paper_53 : decode cX9_paper 53 = .ok (.goto 16, 3) := by decide +kernel
theorem dX9_paper_56 : decode cX9_paper 56 = .ok (.aload_n 0, 1) := by decide +kernel
theorem dX9_paper_57 : decode cX9_paper 57 = .ok (.sipush 614, 3) := by decide +kernel
theorem dX9_paper_60 : decode cX9_paper 60 = .ok (.iload_n 1, 1) := by decide +kernel
theorem dX9_paper_61 : decode cX9_paper 61 = .ok (.iload_n 2, 1) := by decide +kernel
theorem dX9_paper_62 : decode cX9_paper 62 = .ok (.invokestatic 91, 3) := by decide +kernel
theorem dX9_paper_65 : decode cX9_paper 65 = .ok (.iload_n 3, 1) := by decide +kernel
theorem dX9_paper_66 : decode cX9_paper 66 = .ok (.invokevirtual 272, 3) := by decide +kernel
theorem dX9_paper_69 : decode cX9_paper 69 = .ok (.ireturn, 1) := by decide +kernel
theorem dX9_way_0 : decode cX9_way 0 = .ok (.aload_n 0, 1) := by decide +kernel
theorem dX9_way_1 : decode cX9_way 1 = .ok (.aload_n 0, 1) := by decide +kernel
theorem dX9_way_2 : decode cX9_way 2 = .ok (.iload_n 1, 1) := by decide +kernel
theorem dX9_way_3 : decode cX9_way 3 = .ok (.invokevirtual 240, 3) := by decide +kernel
theorem dX9_way_6 : decode cX9_way 6 = .ok (.ifCond .ne 7, 3) := by decide +kernel
theorem dX9_way_9 : decode cX9_way 9 = .ok (.iconst 1, 1) := by decide +kernel
theorem dX9_way_10 : decode cX9_way 10 = .ok (.goto 17, 3) := by decide +kernel
theorem dX9_way_13 : decode cX9_way 13 = .ok (.iload_n 2, 1) := by decide +kernel
theorem dX9_way_14 : decode cX9_way 14 = .ok (.iconst 0, 1) := by decide +kernel
theorem dX9_way_15 : decode cX9_way 15 = .ok (.iconst 1, 1) := by decide +kernel
theorem dX9_way_16 : decode cX9_way 16 = .ok (.invokestatic 80, 3) := by decide +kernel
theorem dX9_way_19 : decode cX9_way 19 = .ok (.ifCond .ne 7, 3) := by decide +kernel
theorem dX9_way_22 : decode cX9_way 22 = .ok (.iconst 2, 1) := by decide +kernel
theorem dX9_way_23 : decode cX9_way 23 = .ok (.goto 4, 3) := by decide +kernel
theorem dX9_way_26 : decode cX9_way 26 = .ok (.iconst 0, 1) := by decide +kernel
theorem dX9_way_27 : decode cX9_way 27 = .ok (.putfield 73, 3) := by decide +kernel
theorem dX9_way_30 : decode cX9_way 30 = .ok (.aload_n 0, 1) := by decide +kernel
theorem dX9_way_31 : decode cX9_way 31 = .ok (.getfield 73, 3) := by decide +kernel
theorem dX9_way_34 : decode cX9_way 34 = .ok (.ifCond .le 7, 3) := by decide +kernel
theorem dX9_way_37 : decode cX9_way 37 = .ok (.iconst 0, 1) := by decide +kernel
theorem dX9_way_38 : decode cX9_way 38 = .ok (.goto 16, 3) := by decide +kernel
theorem dX9_way_41 : decode cX9_way 41 = .ok (.aload_n 0, 1) := by decide +kernel
theorem dX9_way_42 : decode cX9_way 42 = .ok (.bipush 8, 2) := by decide +kernel
theorem dX9_way_44 : decode cX9_way 44 = .ok (.iconst 2, 1) := by decide +kernel
theorem dX9_way_45 : decode cX9_way 45 = .ok (.iload_n 1, 1) := by decide +kernel
theorem dX9_way_46 : decode cX9_way 46 = .ok (.imul, 1) := by decide +kernel
theorem dX9_way_47 : decode cX9_way 47 = .ok (.iadd, 1) := by decide +kernel
theorem dX9_way_48 : decode cX9_way 48 = .ok (.iconst 1, 1) := by decide +kernel
theorem dX9_way_49 : decode cX9_way 49 = .ok (.iadd, 1) := by decide +kernel
theorem dX9_way_50 : decode cX9_way 50 = .ok (.iload_n 2, 1) := by decide +kernel
theorem dX9_way_51 : decode cX9_way 51 = .ok (.invokevirtual 272, 3) := by decide +kernel
theorem dX9_way_54 : decode cX9_way 54 = .ok (.ireturn, 1) := by decide +kernel
theorem dX9_isRule_0 : decode cX9_isRule 0 = .ok (.iload_n 0, 1) := by decide +kernel
theorem dX9_isRule_1 : decode cX9_isRule 1 = .ok (.lookupswitch 46 #[(0, 27), (1, 36)], 27) := by decide +kernel
theorem dX9_isRule_28 : decode cX9_isRule 28 = .ok (.iload_n 1, 1) := by decide +kernel
theorem dX9_isRule_29 : decode cX9_isRule 29 = .ok (.iconst 1, 1) := by decide +kernel
theorem dX9_isRule_30 : decode cX9_isRule 30 = .ok (.sipush 500, 3) := by decide +kernel
theorem dX9_isRule_33 : decode cX9_isRule 33 = .ok (.invokestatic 80, 3) := by decide +kernel
theorem dX9_isRule_36 : decode cX9_isRule 36 = .ok (.ireturn, 1) := by decide +kernel
theorem dX9_isRule_37 : decode cX9_isRule 37 = .ok (.iload_n 1, 1) := by decide +kernel
theorem dX9_isRule_38 : decode cX9_isRule 38 = .ok (.bipush 101, 2) := by decide +kernel
theorem dX9_isRule_40 : decode cX9_isRule 40 = .ok (.sipush 300, 3) := by decide +kernel
theorem dX9_isRule_43 : decode cX9_isRule 43 = .ok (.invokestatic 80, 3) := by decide +kernel
theorem dX9_isRule_46 : decode cX9_isRule 46 = .ok (.ireturn, 1) := by decide +kernel
theorem dX9_isRule_47 : decode cX9_isRule 47 = .ok (.iload_n 1, 1) := by decide +kernel
theorem dX9_isRule_48 : decode cX9_isRule 48 = .ok (.iconst 1, 1) := by decide +kernel
theorem dX9_isRule_49 : decode cX9_isRule 49 = .ok (.sipush 300, 3) := by decide +kernel
theorem dX9_isRule_52 : decode cX9_isRule 52 = .ok (.invokestatic 80, 3) := by decide +kernel
theorem dX9_isRule_55 : decode cX9_isRule 55 = .ok (.ireturn, 1) := by decide +kernel
theorem dX9_rule_0 : decode cX9_rule 0 = .ok (.aload_n 0, 1) := by decide +kernel
theorem dX9_rule_1 : decode cX9_rule 1 = .ok (.iload_n 1, 1) := by decide +kernel
theorem dX9_rule_2 : decode cX9_rule 2 = .ok (.iconst 0, 1) := by decide +kernel
theorem dX9_rule_3 : decode cX9_rule 3 = .ok (.iconst 2, 1) := by decide +kernel
theorem dX9_rule_4 : decode cX9_rule 4 = .ok (.invokestatic 80, 3) := by decide +kernel
theorem dX9_rule_7 : decode cX9_rule 7 = .ok (.ifCond .ne 7, 3) := by decide +kernel
theorem dX9_rule_10 : decode cX9_rule 10 = .ok (.iconst 1, 1) := by decide +kernel
theorem dX9_rule_11 : decode cX9_rule 11 = .ok (.goto 16, 3) := by decide +kernel
theorem dX9_rule_14 : decode cX9_rule 14 = .ok (.iload_n 1, 1) := by decide +kernel
theorem dX9_rule_15 : decode cX9_rule 15 = .ok (.iload_n 2, 1) := by decide +kernel
theorem dX9_rule_16 : decode cX9_rule 16 = .ok (.invokestatic 275, 3) := by decide +kernel
theorem dX9_rule_19 : decode cX9_rule 19 = .ok (.ifCond .ne 7, 3) := by decide +kernel
theorem dX9_rule_22 : decode cX9_rule 22 = .ok (.iconst 2, 1) := by decide +kernel
theorem dX9_rule_23 : decode cX9_rule 23 = .ok (.goto 4, 3) := by decide +kernel
theorem dX9_rule_26 : decode cX9_rule 26 = .ok (.iconst 0, 1) := by decide +kernel
theorem dX9_rule_27 : decode cX9_rule 27 = .ok (.putfield 73, 3) := by decide +kernel
theorem dX9_rule_30 : decode cX9_rule 30 = .ok (.aload_n 0, 1) := by decide +kernel
theorem dX9_rule_31 : decode cX9_rule 31 = .ok (.getfield 73, 3) := by decide +kernel
theorem dX9_rule_34 : decode cX9_rule 34 = .ok (.ifCond .le 7, 3) := by decide +kernel
theorem dX9_rule_37 : decode cX9_rule 37 = .ok (.iconst 0, 1) := by decide +kernel
theorem dX9_rule_38 : decode cX9_rule 38 = .ok (.goto 11, 3) := by decide +kernel
theorem dX9_rule_41 : decode cX9_rule 41 = .ok (.aload_n 0, 1) := by decide +kernel
theorem dX9_rule_42 : decode cX9_rule 42 = .ok (.iconst 2, 1) := by decide +kernel
theorem dX9_rule_43 : decode cX9_rule 43 = .ok (.iload_n 1, 1) := by decide +kernel
theorem dX9_rule_44 : decode cX9_rule 44 = .ok (.iadd, 1) := by decide +kernel
theorem dX9_rule_45 : decode cX9_rule 45 = .ok (.iload_n 2, 1) := by decide +kernel
theorem dX9_rule_46 : decode cX9_rule 46 = .ok (.invokevirtual 272, 3) := by decide +kernel
theorem dX9_rule_49 : decode cX9_rule 49 = .ok (.ireturn, 1) := by decide +kernel
theorem dX9_undo_0 : decode cX9_undo 0 = .ok (.aload_n 0, 1) := by decide +kernel
theorem dX9_undo_1 : decode cX9_undo 1 = .ok (.iconst 0, 1) := by decide +kernel
theorem dX9_undo_2 : decode cX9_undo 2 = .ok (.putfield 73, 3) := by decide +kernel
theorem dX9_undo_5 : decode cX9_undo 5 = .ok (.aload_n 0, 1) := by decide +kernel
theorem dX9_undo_6 : decode cX9_undo 6 = .ok (.getfield 234, 3) := by decide +kernel
theorem dX9_undo_9 : decode cX9_undo 9 = .ok (.ifCond .ne 5, 3) := by decide +kernel
theorem dX9_undo_12 : decode cX9_undo 12 = .ok (.iconst (-1), 1) := by decide +kernel
theorem dX9_undo_13 : decode cX9_undo 13 = .ok (.ireturn, 1) := by decide +kernel
theorem dX9_undo_14 : decode cX9_undo 14 = .ok (.aload_n 0, 1) := by decide +kernel
theorem dX9_undo_15 : decode cX9_undo 15 = .ok (.dup, 1) := by decide +kernel
theorem dX9_undo_16 : decode cX9_undo 16 = .ok (.getfield 234, 3) := by decide +kernel
theorem dX9_undo_19 : decode cX9_undo 19 = .ok (.iconst 1, 1) := by decide +kernel
theorem dX9_undo_20 : decode cX9_undo 20 = .ok (.isub, 1) := by decide +kernel
theorem dX9_undo_21 : decode cX9_undo 21 = .ok (.putfield 234, 3) := by decide +kernel
theorem dX9_undo_24 : decode cX9_undo 24 = .ok (.iconst 0, 1) := by decide +kernel
theorem dX9_undo_25 : decode cX9_undo 25 = .ok (.istore_n 1, 1) := by decide +kernel
theorem dX9_undo_26 : decode cX9_undo 26 = .ok (.iload_n 1, 1) := by decide +kernel
theorem dX9_undo_27 : decode cX9_undo 27 = .ok (.sipush 1514, 3) := by decide +kernel
theorem dX9_undo_30 : decode cX9_undo 30 = .ok (.if_icmp .ge 30, 3) := by decide +kernel
theorem dX9_undo_33 : decode cX9_undo 33 = .ok (.aload_n 0, 1) := by decide +kernel
theorem dX9_undo_34 : decode cX9_undo 34 = .ok (.getfield 9, 3) := by decide +kernel
theorem dX9_undo_37 : decode cX9_undo 37 = .ok (.iload_n 1, 1) := by decide +kernel
theorem dX9_undo_38 : decode cX9_undo 38 = .ok (.aload_n 0, 1) := by decide +kernel
theorem dX9_undo_39 : decode cX9_undo 39 = .ok (.getfield 22, 3) := by decide +kernel
theorem dX9_undo_42 : decode cX9_undo 42 = .ok (.sipush 1514, 3) := by decide +kernel
theorem dX9_undo_45 : decode cX9_undo 45 = .ok (.aload_n 0, 1) := by decide +kernel
theorem dX9_undo_46 : decode cX9_undo 46 = .ok (.getfield 234, 3) := by decide +kernel
theorem dX9_undo_49 : decode cX9_undo 49 = .ok (.imul, 1) := by decide +kernel
theorem dX9_undo_50 : decode cX9_undo 50 = .ok (.iload_n 1, 1) := by decide +kernel
theorem dX9_undo_51 : decode cX9_undo 51 = .ok (.iadd, 1) := by decide +kernel
theorem dX9_undo_52 : decode cX9_undo 52 = .ok (.iaload, 1) := by decide +kernel
theorem dX9_undo_53 : decode cX9_undo 53 = .ok (.iastore, 1) := by decide +kernel
theorem dX9_undo_54 : decode cX9_undo 54 = .ok (.iinc 1 1, 3) := by decide +kernel
theorem dX9_undo_57 : decode cX9_undo 57 = .ok (.goto (-31), 3) := by decide +kernel
theorem dX9_undo_60 : decode cX9_undo 60 = .ok (.aload_n 0, 1) := by decide +kernel
theorem dX9_undo_61 : decode cX9_undo 61 = .ok (.getfield 234, 3) := by decide +kernel
theorem dX9_undo_64 : decode cX9_undo 64 = .ok (.ireturn, 1) := by decide +kernel
theorem dX9_image_0 : decode cX9_image 0 = .ok (.aload_n 0, 1) := by decide +kernel
theorem dX9_image_1 : decode cX9_image 1 = .ok (.iconst 0, 1) := by decide +kernel
theorem dX9_image_2 : decode cX9_image 2 = .ok (.putfield 73, 3) := by decide +kernel
theorem dX9_image_5 : decode cX9_image 5 = .ok (.aload_n 0, 1) := by decide +kernel
theorem dX9_image_6 : decode cX9_image 6 = .ok (.getfield 19, 3) := by decide +kernel
theorem dX9_image_9 : decode cX9_image 9 = .ok (.aload_n 0, 1) := by decide +kernel
theorem dX9_image_10 : decode cX9_image 10 = .ok (.getfield 9, 3) := by decide +kernel
theorem dX9_image_13 : decode cX9_image 13 = .ok (.invokestatic 278, 3) := by decide +kernel
theorem dX9_image_16 : decode cX9_image 16 = .ok (.aload_n 0, 1) := by decide +kernel
theorem dX9_image_17 : decode cX9_image 17 = .ok (.iconst 1, 1) := by decide +kernel
theorem dX9_image_18 : decode cX9_image 18 = .ok (.putfield 282, 3) := by decide +kernel
theorem dX9_image_21 : decode cX9_image 21 = .ok (.return_, 1) := by decide +kernel
theorem dX9_back_0 : decode cX9_back 0 = .ok (.aload_n 0, 1) := by decide +kernel
theorem dX9_back_1 : decode cX9_back 1 = .ok (.iconst 0, 1) := by decide +kernel
theorem dX9_back_2 : decode cX9_back 2 = .ok (.putfield 73, 3) := by decide +kernel
theorem dX9_back_5 : decode cX9_back 5 = .ok (.aload_n 0, 1) := by decide +kernel
theorem dX9_back_6 : decode cX9_back 6 = .ok (.getfield 282, 3) := by decide +kernel
theorem dX9_back_9 : decode cX9_back 9 = .ok (.ifCond .ne 5, 3) := by decide +kernel
theorem dX9_back_12 : decode cX9_back 12 = .ok (.iconst 0, 1) := by decide +kernel
theorem dX9_back_13 : decode cX9_back 13 = .ok (.ireturn, 1) := by decide +kernel
theorem dX9_back_14 : decode cX9_back 14 = .ok (.aload_n 0, 1) := by decide +kernel
theorem dX9_back_15 : decode cX9_back 15 = .ok (.getfield 9, 3) := by decide +kernel
theorem dX9_back_18 : decode cX9_back 18 = .ok (.aload_n 0, 1) := by decide +kernel
theorem dX9_back_19 : decode cX9_back 19 = .ok (.getfield 19, 3) := by decide +kernel
theorem dX9_back_22 : decode cX9_back 22 = .ok (.invokestatic 278, 3) := by decide +kernel
theorem dX9_back_25 : decode cX9_back 25 = .ok (.aload_n 0, 1) := by decide +kernel
theorem dX9_back_26 : decode cX9_back 26 = .ok (.iconst 0, 1) := by decide +kernel
theorem dX9_back_27 : decode cX9_back 27 = .ok (.putfield 234, 3) := by decide +kernel
theorem dX9_back_30 : decode cX9_back 30 = .ok (.iconst 1, 1) := by decide +kernel
theorem dX9_back_31 : decode cX9_back 31 = .ok (.ireturn, 1) := by decide +kernel
theorem dX9_needByComparing_0 : decode cX9_needByComparing 0 = .ok (.ldc2_w 153, 3) := by decide +kernel
theorem dX9_needByComparing_3 : decode cX9_needByComparing 3 = .ok (.lstore 5, 2) := by decide +kernel
theorem dX9_needByComparing_5 : decode cX9_needByComparing 5 = .ok (.iconst 0, 1) := by decide +kernel
theorem dX9_needByComparing_6 : decode cX9_needByComparing 6 = .ok (.istore 7, 2) := by decide +kernel
theorem dX9_needByComparing_8 : decode cX9_needByComparing 8 = .ok (.iload 7, 2) := by decide +kernel
theorem dX9_needByComparing_10 : decode cX9_needByComparing 10 = .ok (.iload_n 3, 1) := by decide +kernel
theorem dX9_needByComparing_11 : decode cX9_needByComparing 11 = .ok (.if_icmp .ge 21, 3) := by decide +kernel
theorem dX9_needByComparing_14 : decode cX9_needByComparing 14 = .ok (.aload_n 0, 1) := by decide +kernel
theorem dX9_needByComparing_15 : decode cX9_needByComparing 15 = .ok (.lload 5, 2) := by decide +kernel
theorem dX9_needByComparing_17 : decode cX9_needByComparing 17 = .ok (.iload_n 1, 1) := by decide +kernel
theorem dX9_needByComparing_18 : decode cX9_needByComparing 18 = .ok (.iload 4, 2) := by decide +kernel
theorem dX9_needByComparing_20 : decode cX9_needByComparing 20 = .ok (.iconst 2, 1) := by decide +kernel
theorem dX9_needByComparing_21 : decode cX9_needByComparing 21 = .ok (.invokevirtual 155, 3) := by decide +kernel
theorem dX9_needByComparing_24 : decode cX9_needByComparing 24 = .ok (.lstore 5, 2) := by decide +kernel
theorem dX9_needByComparing_26 : decode cX9_needByComparing 26 = .ok (.iinc 7 1, 3) := by decide +kernel
theorem dX9_needByComparing_29 : decode cX9_needByComparing 29 = .ok (.goto (-21), 3) := by decide +kernel
theorem dX9_needByComparing_32 : decode cX9_needByComparing 32 = .ok (.iconst 0, 1) := by decide +kernel
theorem dX9_needByComparing_33 : decode cX9_needByComparing 33 = .ok (.istore 7, 2) := by decide +kernel
theorem dX9_needByComparing_35 : decode cX9_needByComparing 35 = .ok (.iload 7, 2) := by decide +kernel
theorem dX9_needByComparing_37 : decode cX9_needByComparing 37 = .ok (.iload_n 2, 1) := by decide +kernel
theorem dX9_needByComparing_38 : decode cX9_needByComparing 38 = .ok (.if_icmp .ge 21, 3) := by decide +kernel
theorem dX9_needByComparing_41 : decode cX9_needByComparing 41 = .ok (.aload_n 0, 1) := by decide +kernel
theorem dX9_needByComparing_42 : decode cX9_needByComparing 42 = .ok (.lload 5, 2) := by decide +kernel
theorem dX9_needByComparing_44 : decode cX9_needByComparing 44 = .ok (.iload_n 1, 1) := by decide +kernel
theorem dX9_needByComparing_45 : decode cX9_needByComparing 45 = .ok (.iload 4, 2) := by decide +kernel
theorem dX9_needByComparing_47 : decode cX9_needByComparing 47 = .ok (.iconst 1, 1) := by decide +kernel
theorem dX9_needByComparing_48 : decode cX9_needByComparing 48 = .ok (.invokevirtual 155, 3) := by decide +kernel
theorem dX9_needByComparing_51 : decode cX9_needByComparing 51 = .ok (.lstore 5, 2) := by decide +kernel
theorem dX9_needByComparing_53 : decode cX9_needByComparing 53 = .ok (.iinc 7 1, 3) := by decide +kernel
theorem dX9_needByComparing_56 : decode cX9_needByComparing 56 = .ok (.goto (-21), 3) := by decide +kernel
theorem dX9_needByComparing_59 : decode cX9_needByComparing 59 = .ok (.iload_n 2, 1) := by decide +kernel
theorem dX9_needByComparing_60 : decode cX9_needByComparing 60 = .ok (.iload_n 3, 1) := by decide +kernel
theorem dX9_needByComparing_61 : decode cX9_needByComparing 61 = .ok (.iadd, 1) := by decide +kernel
theorem dX9_needByComparing_62 : decode cX9_needByComparing 62 = .ok (.istore 7, 2) := by decide +kernel
theorem dX9_needByComparing_64 : decode cX9_needByComparing 64 = .ok (.iload 7, 2) := by decide +kernel
theorem dX9_needByComparing_66 : decode cX9_needByComparing 66 = .ok (.sipush 5000, 3) := by decide +kernel
theorem dX9_needByComparing_69 : decode cX9_needByComparing 69 = .ok (.if_icmp .gt 30, 3) := by decide +kernel
theorem dX9_needByComparing_72 : decode cX9_needByComparing 72 = .ok (.aload_n 0, 1) := by decide +kernel
theorem dX9_needByComparing_73 : decode cX9_needByComparing 73 = .ok (.lload 5, 2) := by decide +kernel
theorem dX9_needByComparing_75 : decode cX9_needByComparing 75 = .ok (.invokevirtual 179, 3) := by decide +kernel
theorem dX9_needByComparing_78 : decode cX9_needByComparing 78 = .ok (.ifCond .ne 21, 3) := by decide +kernel
theorem dX9_needByComparing_81 : decode cX9_needByComparing 81 = .ok (.aload_n 0, 1) := by decide +kernel
theorem dX9_needByComparing_82 : decode cX9_needByComparing 82 = .ok (.lload 5, 2) := by decide +kernel
theorem dX9_needByComparing_84 : decode cX9_needByComparing 84 = .ok (.iload_n 1, 1) := by decide +kernel
theorem dX9_needByComparing_85 : decode cX9_needByComparing 85 = .ok (.iload 4, 2) := by decide +kernel
theorem dX9_needByComparing_87 : decode cX9_needByComparing 87 = .ok (.iconst 0, 1) := by decide +kernel
theorem dX9_needByComparing_88 : decode cX9_needByComparing 88 = .ok (.invokevirtual 155, 3) := by decide +kernel
theorem dX9_needByComparing_91 : decode cX9_needByComparing 91 = .ok (.lstore 5, 2) := by decide +kernel
theorem dX9_needByComparing_93 : decode cX9_needByComparing 93 = .ok (.iinc 7 1, 3) := by decide +kernel
theorem dX9_needByComparing_96 : decode cX9_needByComparing 96 = .ok (.goto (-32), 3) := by decide +kernel
theorem dX9_needByComparing_99 : decode cX9_needByComparing 99 = .ok (.iload 7, 2) := by decide +kernel
theorem dX9_needByComparing_101 : decode cX9_needByComparing 101 = .ok (.sipush 5000, 3) := by decide +kernel
theorem dX9_needByComparing_104 : decode cX9_needByComparing 104 = .ok (.if_icmp .gt 8, 3) := by decide +kernel
theorem dX9_needByComparing_107 : decode cX9_needByComparing 107 = .ok (.iload 7, 2) := by decide +kernel
theorem dX9_needByComparing_109 : decode cX9_needByComparing 109 = .ok (.goto 4, 3) := by decide +kernel
theorem dX9_needByComparing_112 : decode cX9_needByComparing 112 = .ok (.iconst (-1), 1) := by decide +kernel
theorem dX9_needByComparing_113 : decode cX9_needByComparing 113 = .ok (.ireturn, 1) := by decide +kernel
theorem dX9_needByPolling_0 : decode cX9_needByPolling 0 = .ok (.aload_n 0, 1) := by decide +kernel
theorem dX9_needByPolling_1 : decode cX9_needByPolling 1 = .ok (.iload_n 1, 1) := by decide +kernel
theorem dX9_needByPolling_2 : decode cX9_needByPolling 2 = .ok (.invokevirtual 189, 3) := by decide +kernel
theorem dX9_needByPolling_5 : decode cX9_needByPolling 5 = .ok (.aload_n 0, 1) := by decide +kernel
theorem dX9_needByPolling_6 : decode cX9_needByPolling 6 = .ok (.iload_n 1, 1) := by decide +kernel
theorem dX9_needByPolling_7 : decode cX9_needByPolling 7 = .ok (.invokevirtual 121, 3) := by decide +kernel
theorem dX9_needByPolling_10 : decode cX9_needByPolling 10 = .ok (.istore 4, 2) := by decide +kernel
theorem dX9_needByPolling_12 : decode cX9_needByPolling 12 = .ok (.iconst 0, 1) := by decide +kernel
theorem dX9_needByPolling_13 : decode cX9_needByPolling 13 = .ok (.istore 5, 2) := by decide +kernel
theorem dX9_needByPolling_15 : decode cX9_needByPolling 15 = .ok (.iload 5, 2) := by decide +kernel
theorem dX9_needByPolling_17 : decode cX9_needByPolling 17 = .ok (.iload_n 2, 1) := by decide +kernel
theorem dX9_needByPolling_18 : decode cX9_needByPolling 18 = .ok (.if_icmp .ge 16, 3) := by decide +kernel
theorem dX9_needByPolling_21 : decode cX9_needByPolling 21 = .ok (.aload_n 0, 1) := by decide +kernel
theorem dX9_needByPolling_22 : decode cX9_needByPolling 22 = .ok (.iload_n 1, 1) := by decide +kernel
theorem dX9_needByPolling_23 : decode cX9_needByPolling 23 = .ok (.iload 4, 2) := by decide +kernel
theorem dX9_needByPolling_25 : decode cX9_needByPolling 25 = .ok (.invokevirtual 159, 3) := by decide +kernel
theorem dX9_needByPolling_28 : decode cX9_needByPolling 28 = .ok (.iinc 5 1, 3) := by decide +kernel
theorem dX9_needByPolling_31 : decode cX9_needByPolling 31 = .ok (.goto (-16), 3) := by decide +kernel
theorem dX9_needByPolling_34 : decode cX9_needByPolling 34 = .ok (.iload_n 3, 1) := by decide +kernel
theorem dX9_needByPolling_35 : decode cX9_needByPolling 35 = .ok (.iload_n 2, 1) := by decide +kernel
theorem dX9_needByPolling_36 : decode cX9_needByPolling 36 = .ok (.iadd, 1) := by decide +kernel
theorem dX9_needByPolling_37 : decode cX9_needByPolling 37 = .ok (.istore 5, 2) := by decide +kernel
theorem dX9_needByPolling_39 : decode cX9_needByPolling 39 = .ok (.iload 5, 2) := by decide +kernel
theorem dX9_needByPolling_41 : decode cX9_needByPolling 41 = .ok (.sipush 5000, 3) := by decide +kernel
theorem dX9_needByPolling_44 : decode cX9_needByPolling 44 = .ok (.if_icmp .gt 32, 3) := by decide +kernel
theorem dX9_needByPolling_47 : decode cX9_needByPolling 47 = .ok (.aload_n 0, 1) := by decide +kernel
theorem dX9_needByPolling_48 : decode cX9_needByPolling 48 = .ok (.aload_n 0, 1) := by decide +kernel
theorem dX9_needByPolling_49 : decode cX9_needByPolling 49 = .ok (.iload_n 1, 1) := by decide +kernel
theorem dX9_needByPolling_50 : decode cX9_needByPolling 50 = .ok (.invokevirtual 169, 3) := by decide +kernel
theorem dX9_needByPolling_53 : decode cX9_needByPolling 53 = .ok (.invokevirtual 179, 3) := by decide +kernel
theorem dX9_needByPolling_56 : decode cX9_needByPolling 56 = .ok (.ifCond .ne 20, 3) := by decide +kernel
theorem dX9_needByPolling_59 : decode cX9_needByPolling 59 = .ok (.aload_n 0, 1) := by decide +kernel
theorem dX9_needByPolling_60 : decode cX9_needByPolling 60 = .ok (.iload_n 1, 1) := by decide +kernel
theorem dX9_needByPolling_61 : decode cX9_needByPolling 61 = .ok (.aload_n 0, 1) := by decide +kernel
theorem dX9_needByPolling_62 : decode cX9_needByPolling 62 = .ok (.getfield 31, 3) := by decide +kernel
theorem dX9_needByPolling_65 : decode cX9_needByPolling 65 = .ok (.iload_n 1, 1) := by decide +kernel
theorem dX9_needByPolling_66 : decode cX9_needByPolling 66 = .ok (.iaload, 1) := by decide +kernel
theorem dX9_needByPolling_67 : decode cX9_needByPolling 67 = .ok (.invokevirtual 159, 3) := by decide +kernel
theorem dX9_needByPolling_70 : decode cX9_needByPolling 70 = .ok (.iinc 5 1, 3) := by decide +kernel
theorem dX9_needByPolling_73 : decode cX9_needByPolling 73 = .ok (.goto (-34), 3) := by decide +kernel
theorem dX9_needByPolling_76 : decode cX9_needByPolling 76 = .ok (.iload 5, 2) := by decide +kernel
theorem dX9_needByPolling_78 : decode cX9_needByPolling 78 = .ok (.sipush 5000, 3) := by decide +kernel
theorem dX9_needByPolling_81 : decode cX9_needByPolling 81 = .ok (.if_icmp .gt 8, 3) := by decide +kernel
theorem dX9_needByPolling_84 : decode cX9_needByPolling 84 = .ok (.iload 5, 2) := by decide +kernel
theorem dX9_needByPolling_86 : decode cX9_needByPolling 86 = .ok (.goto 4, 3) := by decide +kernel
theorem dX9_needByPolling_89 : decode cX9_needByPolling 89 = .ok (.iconst (-1), 1) := by decide +kernel
theorem dX9_needByPolling_90 : decode cX9_needByPolling 90 = .ok (.ireturn, 1) := by decide +kernel
theorem dX9_polls_0 : decode cX9_polls 0 = .ok (.iconst 0, 1) := by decide +kernel
theorem dX9_polls_1 : decode cX9_polls 1 = .ok (.istore_n 3, 1) := by decide +kernel
theorem dX9_polls_2 : decode cX9_polls 2 = .ok (.iload_n 3, 1) := by decide +kernel
theorem dX9_polls_3 : decode cX9_polls 3 = .ok (.aload_n 0, 1) := by decide +kernel
theorem dX9_polls_4 : decode cX9_polls 4 = .ok (.iload_n 1, 1) := by decide +kernel
theorem dX9_polls_5 : decode cX9_polls 5 = .ok (.invokevirtual 87, 3) := by decide +kernel
theorem dX9_polls_8 : decode cX9_polls 8 = .ok (.if_icmp .ge 49, 3) := by decide +kernel
theorem dX9_polls_11 : decode cX9_polls 11 = .ok (.iload_n 3, 1) := by decide +kernel
theorem dX9_polls_12 : decode cX9_polls 12 = .ok (.aload_n 0, 1) := by decide +kernel
theorem dX9_polls_13 : decode cX9_polls 13 = .ok (.getfield 31, 3) := by decide +kernel
theorem dX9_polls_16 : decode cX9_polls 16 = .ok (.iload_n 1, 1) := by decide +kernel
theorem dX9_polls_17 : decode cX9_polls 17 = .ok (.iaload, 1) := by decide +kernel
theorem dX9_polls_18 : decode cX9_polls 18 = .ok (.if_icmp .ne 6, 3) := by decide +kernel
theorem dX9_polls_21 : decode cX9_polls 21 = .ok (.goto 30, 3) := by decide +kernel
theorem dX9_polls_24 : decode cX9_polls 24 = .ok (.aload_n 0, 1) := by decide +kernel
theorem dX9_polls_25 : decode cX9_polls 25 = .ok (.getfield 43, 3) := by decide +kernel
theorem dX9_polls_28 : decode cX9_polls 28 = .ok (.iconst 4, 1) := by decide +kernel
theorem dX9_polls_29 : decode cX9_polls 29 = .ok (.iload_n 1, 1) := by decide +kernel
theorem dX9_polls_30 : decode cX9_polls 30 = .ok (.imul, 1) := by decide +kernel
theorem dX9_polls_31 : decode cX9_polls 31 = .ok (.iload_n 3, 1) := by decide +kernel
theorem dX9_polls_32 : decode cX9_polls 32 = .ok (.iadd, 1) := by decide +kernel
theorem dX9_polls_33 : decode cX9_polls 33 = .ok (.aload_n 0, 1) := by decide +kernel
theorem dX9_polls_34 : decode cX9_polls 34 = .ok (.aload_n 0, 1) := by decide +kernel
theorem dX9_polls_35 : decode cX9_polls 35 = .ok (.getfield 43, 3) := by decide +kernel
theorem dX9_polls_38 : decode cX9_polls 38 = .ok (.iconst 4, 1) := by decide +kernel
theorem dX9_polls_39 : decode cX9_polls 39 = .ok (.iload_n 1, 1) := by decide +kernel
theorem dX9_polls_40 : decode cX9_polls 40 = .ok (.imul, 1) := by decide +kernel
theorem dX9_polls_41 : decode cX9_polls 41 = .ok (.iload_n 3, 1) := by decide +kernel
theorem dX9_polls_42 : decode cX9_polls 42 = .ok (.iadd, 1) := by decide +kernel
theorem dX9_polls_43 : decode cX9_polls 43 = .ok (.laload, 1) := by decide +kernel
theorem dX9_polls_44 : decode cX9_polls 44 = .ok (.iload_n 1, 1) := by decide +kernel
theorem dX9_polls_45 : decode cX9_polls 45 = .ok (.iload_n 3, 1) := by decide +kernel
theorem dX9_polls_46 : decode cX9_polls 46 = .ok (.iload_n 2, 1) := by decide +kernel
theorem dX9_polls_47 : decode cX9_polls 47 = .ok (.invokevirtual 286, 3) := by decide +kernel
theorem dX9_polls_50 : decode cX9_polls 50 = .ok (.lastore, 1) := by decide +kernel
theorem dX9_polls_51 : decode cX9_polls 51 = .ok (.iinc 3 1, 3) := by decide +kernel
theorem dX9_polls_54 : decode cX9_polls 54 = .ok (.goto (-52), 3) := by decide +kernel
theorem dX9_polls_57 : decode cX9_polls 57 = .ok (.return_, 1) := by decide +kernel
theorem dX9_needOf_0 : decode cX9_needOf 0 = .ok (.aload_n 0, 1) := by decide +kernel
theorem dX9_needOf_1 : decode cX9_needOf 1 = .ok (.iload_n 1, 1) := by decide +kernel
theorem dX9_needOf_2 : decode cX9_needOf 2 = .ok (.invokevirtual 141, 3) := by decide +kernel
theorem dX9_needOf_5 : decode cX9_needOf 5 = .ok (.ifCond .ne 15, 3) := by decide +kernel
theorem dX9_needOf_8 : decode cX9_needOf 8 = .ok (.aload_n 0, 1) := by decide +kernel
theorem dX9_needOf_9 : decode cX9_needOf 9 = .ok (.iload_n 1, 1) := by decide +kernel
theorem dX9_needOf_10 : decode cX9_needOf 10 = .ok (.iload_n 2, 1) := by decide +kernel
theorem dX9_needOf_11 : decode cX9_needOf 11 = .ok (.iload_n 3, 1) := by decide +kernel
theorem dX9_needOf_12 : decode cX9_needOf 12 = .ok (.iload 4, 2) := by decide +kernel
theorem dX9_needOf_14 : decode cX9_needOf 14 = .ok (.invokevirtual 289, 3) := by decide +kernel
theorem dX9_needOf_17 : decode cX9_needOf 17 = .ok (.goto 10, 3) := by decide +kernel
theorem dX9_needOf_20 : decode cX9_needOf 20 = .ok (.aload_n 0, 1) := by decide +kernel
theorem dX9_needOf_21 : decode cX9_needOf 21 = .ok (.iload_n 1, 1) := by decide +kernel
theorem dX9_needOf_22 : decode cX9_needOf 22 = .ok (.iload_n 3, 1) := by decide +kernel
theorem dX9_needOf_23 : decode cX9_needOf 23 = .ok (.iload_n 2, 1) := by decide +kernel
theorem dX9_needOf_24 : decode cX9_needOf 24 = .ok (.invokevirtual 292, 3) := by decide +kernel
theorem dX9_needOf_27 : decode cX9_needOf 27 = .ok (.ireturn, 1) := by decide +kernel
theorem dX9_areMistakes_0 : decode cX9_areMistakes 0 = .ok (.iload_n 0, 1) := by decide +kernel
theorem dX9_areMistakes_1 : decode cX9_areMistakes 1 = .ok (.iconst 0, 1) := by decide +kernel
theorem dX9_areMistakes_2 : decode cX9_areMistakes 2 = .ok (.bipush 99, 2) := by decide +kernel
theorem dX9_areMistakes_4 : decode cX9_areMistakes 4 = .ok (.invokestatic 80, 3) := by decide +kernel
theorem dX9_areMistakes_7 : decode cX9_areMistakes 7 = .ok (.ifCond .eq 17, 3) := by decide +kernel
theorem dX9_areMistakes_10 : decode cX9_areMistakes 10 = .ok (.iload_n 1, 1) := by decide +kernel
theorem dX9_areMistakes_11 : decode cX9_areMistakes 11 = .ok (.iconst 0, 1) := by decide +kernel
theorem dX9_areMistakes_12 : decode cX9_areMistakes 12 = .ok (.bipush 99, 2) := by decide +kernel
theorem dX9_areMistakes_14 : decode cX9_areMistakes 14 = .ok (.invokestatic 80, 3) := by decide +kernel
theorem dX9_areMistakes_17 : decode cX9_areMistakes 17 = .ok (.ifCond .eq 7, 3) := by decide +kernel
theorem dX9_areMistakes_20 : decode cX9_areMistakes 20 = .ok (.iconst 1, 1) := by decide +kernel
theorem dX9_areMistakes_21 : decode cX9_areMistakes 21 = .ok (.goto 4, 3) := by decide +kernel
theorem dX9_areMistakes_24 : decode cX9_areMistakes 24 = .ok (.iconst 0, 1) := by decide +kernel
theorem dX9_areMistakes_25 : decode cX9_areMistakes 25 = .ok (.ireturn, 1) := by decide +kernel
theorem dX9_need_0 : decode cX9_need 0 = .ok (.aload_n 0, 1) := by decide +kernel
theorem dX9_need_1 : decode cX9_need 1 = .ok (.aload_n 0, 1) := by decide +kernel
theorem dX9_need_2 : decode cX9_need 2 = .ok (.iload_n 1, 1) := by decide +kernel
theorem dX9_need_3 : decode cX9_need 3 = .ok (.invokevirtual 240, 3) := by decide +kernel
theorem dX9_need_6 : decode cX9_need 6 = .ok (.ifCond .ne 7, 3) := by decide +kernel
theorem dX9_need_9 : decode cX9_need 9 = .ok (.iconst 1, 1) := by decide +kernel
theorem dX9_need_10 : decode cX9_need 10 = .ok (.goto 16, 3) := by decide +kernel
theorem dX9_need_13 : decode cX9_need 13 = .ok (.iload_n 2, 1) := by decide +kernel
theorem dX9_need_14 : decode cX9_need 14 = .ok (.iload_n 3, 1) := by decide +kernel
theorem dX9_need_15 : decode cX9_need 15 = .ok (.invokestatic 295, 3) := by decide +kernel
theorem dX9_need_18 : decode cX9_need 18 = .ok (.ifCond .ne 7, 3) := by decide +kernel
theorem dX9_need_21 : decode cX9_need 21 = .ok (.iconst 2, 1) := by decide +kernel
theorem dX9_need_22 : decode cX9_need 22 = .ok (.goto 4, 3) := by decide +kernel
theorem dX9_need_25 : decode cX9_need 25 = .ok (.iconst 0, 1) := by decide +kernel
theorem dX9_need_26 : decode cX9_need 26 = .ok (.putfield 73, 3) := by decide +kernel
theorem dX9_need_29 : decode cX9_need 29 = .ok (.aload_n 0, 1) := by decide +kernel
theorem dX9_need_30 : decode cX9_need 30 = .ok (.getfield 73, 3) := by decide +kernel
theorem dX9_need_33 : decode cX9_need 33 = .ok (.ifCond .le 5, 3) := by decide +kernel
theorem dX9_need_36 : decode cX9_need 36 = .ok (.iconst 0, 1) := by decide +kernel
theorem dX9_need_37 : decode cX9_need 37 = .ok (.ireturn, 1) := by decide +kernel
theorem dX9_need_38 : decode cX9_need 38 = .ok (.aload_n 0, 1) := by decide +kernel
theorem dX9_need_39 : decode cX9_need 39 = .ok (.invokevirtual 186, 3) := by decide +kernel
theorem dX9_need_42 : decode cX9_need 42 = .ok (.aload_n 0, 1) := by decide +kernel
theorem dX9_need_43 : decode cX9_need 43 = .ok (.iload_n 1, 1) := by decide +kernel
theorem dX9_need_44 : decode cX9_need 44 = .ok (.iload_n 2, 1) := by decide +kernel
theorem dX9_need_45 : decode cX9_need 45 = .ok (.iload_n 3, 1) := by decide +kernel
theorem dX9_need_46 : decode cX9_need 46 = .ok (.aload_n 0, 1) := by decide +kernel
theorem dX9_need_47 : decode cX9_need 47 = .ok (.getfield 9, 3) := by decide +kernel
theorem dX9_need_50 : decode cX9_need 50 = .ok (.iconst 3, 1) := by decide +kernel
theorem dX9_need_51 : decode cX9_need 51 = .ok (.iaload, 1) := by decide +kernel
theorem dX9_need_52 : decode cX9_need 52 = .ok (.invokevirtual 298, 3) := by decide +kernel
theorem dX9_need_55 : decode cX9_need 55 = .ok (.ireturn, 1) := by decide +kernel
theorem dX9_bestFactor_0 : decode cX9_bestFactor 0 = .ok (.aload_n 0, 1) := by decide +kernel
theorem dX9_bestFactor_1 : decode cX9_bestFactor 1 = .ok (.aload_n 0, 1) := by decide +kernel
theorem dX9_bestFactor_2 : decode cX9_bestFactor 2 = .ok (.iload_n 1, 1) := by decide +kernel
theorem dX9_bestFactor_3 : decode cX9_bestFactor 3 = .ok (.invokevirtual 240, 3) := by decide +kernel
theorem dX9_bestFactor_6 : decode cX9_bestFactor 6 = .ok (.ifCond .ne 7, 3) := by decide +kernel
theorem dX9_bestFactor_9 : decode cX9_bestFactor 9 = .ok (.iconst 1, 1) := by decide +kernel
theorem dX9_bestFactor_10 : decode cX9_bestFactor 10 = .ok (.goto 16, 3) := by decide +kernel
theorem dX9_bestFactor_13 : decode cX9_bestFactor 13 = .ok (.iload_n 2, 1) := by decide +kernel
theorem dX9_bestFactor_14 : decode cX9_bestFactor 14 = .ok (.iload_n 3, 1) := by decide +kernel
theorem dX9_bestFactor_15 : decode cX9_bestFactor 15 = .ok (.invokestatic 295, 3) := by decide +kernel
theorem dX9_bestFactor_18 : decode cX9_bestFactor 18 = .ok (.ifCond .ne 7, 3) := by decide +kernel
theorem dX9_bestFactor_21 : decode cX9_bestFactor 21 = .ok (.iconst 2, 1) := by decide +kernel
theorem dX9_bestFactor_22 : decode cX9_bestFactor 22 = .ok (.goto 4, 3) := by decide +kernel
theorem dX9_bestFactor_25 : decode cX9_bestFactor 25 = .ok (.iconst 0, 1) := by decide +kernel
theorem dX9_bestFactor_26 : decode cX9_bestFactor 26 = .ok (.putfield 73, 3) := by decide +kernel
theorem dX9_bestFactor_29 : decode cX9_bestFactor 29 = .ok (.aload_n 0, 1) := by decide +kernel
theorem dX9_bestFactor_30 : decode cX9_bestFactor 30 = .ok (.getfield 73, 3) := by decide +kernel
theorem dX9_bestFactor_33 : decode cX9_bestFactor 33 = .ok (.ifCond .le 5, 3) := by decide +kernel
theorem dX9_bestFactor_36 : decode cX9_bestFactor 36 = .ok (.iconst 0, 1) := by decide +kernel
theorem dX9_bestFactor_37 : decode cX9_bestFactor 37 = .ok (.ireturn, 1) := by decide +kernel
theorem dX9_bestFactor_38 : decode cX9_bestFactor 38 = .ok (.aload_n 0, 1) := by decide +kernel
theorem dX9_bestFactor_39 : decode cX9_bestFactor 39 = .ok (.invokevirtual 186, 3) := by decide +kernel
theorem dX9_bestFactor_42 : decode cX9_bestFactor 42 = .ok (.iconst (-1), 1) := by decide +kernel
theorem dX9_bestFactor_43 : decode cX9_bestFactor 43 = .ok (.istore 4, 2) := by decide +kernel
theorem dX9_bestFactor_45 : decode cX9_bestFactor 45 = .ok (.iconst 0, 1) := by decide +kernel
theorem dX9_bestFactor_46 : decode cX9_bestFactor 46 = .ok (.istore 5, 2) := by decide +kernel
theorem dX9_bestFactor_48 : decode cX9_bestFactor 48 = .ok (.bipush 101, 2) := by decide +kernel
theorem dX9_bestFactor_50 : decode cX9_bestFactor 50 = .ok (.istore 6, 2) := by decide +kernel
theorem dX9_bestFactor_52 : decode cX9_bestFactor 52 = .ok (.iload 6, 2) := by decide +kernel
theorem dX9_bestFactor_54 : decode cX9_bestFactor 54 = .ok (.sipush 300, 3) := by decide +kernel
theorem dX9_bestFactor_57 : decode cX9_bestFactor 57 = .ok (.if_icmp .gt 50, 3) := by decide +kernel
theorem dX9_bestFactor_60 : decode cX9_bestFactor 60 = .ok (.aload_n 0, 1) := by decide +kernel
theorem dX9_bestFactor_61 : decode cX9_bestFactor 61 = .ok (.iload_n 1, 1) := by decide +kernel
theorem dX9_bestFactor_62 : decode cX9_bestFactor 62 = .ok (.iload_n 2, 1) := by decide +kernel
theorem dX9_bestFactor_63 : decode cX9_bestFactor 63 = .ok (.iload_n 3, 1) := by decide +kernel
theorem dX9_bestFactor_64 : decode cX9_bestFactor 64 = .ok (.iload 6, 2) := by decide +kernel
theorem dX9_bestFactor_66 : decode cX9_bestFactor 66 = .ok (.invokevirtual 298, 3) := by decide +kernel
theorem dX9_bestFactor_69 : decode cX9_bestFactor 69 = .ok (.istore 7, 2) := by decide +kernel
theorem dX9_bestFactor_71 : decode cX9_bestFactor 71 = .ok (.iload 7, 2) := by decide +kernel
theorem dX9_bestFactor_73 : decode cX9_bestFactor 73 = .ok (.iconst (-1), 1) := by decide +kernel
theorem dX9_bestFactor_74 : decode cX9_bestFactor 74 = .ok (.if_icmp .eq 27, 3) := by decide +kernel
theorem dX9_bestFactor_77 : decode cX9_bestFactor 77 = .ok (.iload 4, 2) := by decide +kernel
theorem dX9_bestFactor_79 : decode cX9_bestFactor 79 = .ok (.iconst (-1), 1) := by decide +kernel
theorem dX9_bestFactor_80 : decode cX9_bestFactor 80 = .ok (.if_icmp .eq 13, 3) := by decide +kernel
theorem dX9_bestFactor_83 : decode cX9_bestFactor 83 = .ok (.iload 7, 2) := by decide +kernel
theorem dX9_bestFactor_85 : decode cX9_bestFactor 85 = .ok (.iload 5, 2) := by decide +kernel
theorem dX9_bestFactor_87 : decode cX9_bestFactor 87 = .ok (.if_icmp .lt 6, 3) := by decide +kernel
theorem dX9_bestFactor_90 : decode cX9_bestFactor 90 = .ok (.goto 11, 3) := by decide +kernel
theorem dX9_bestFactor_93 : decode cX9_bestFactor 93 = .ok (.iload 6, 2) := by decide +kernel
theorem dX9_bestFactor_95 : decode cX9_bestFactor 95 = .ok (.istore 4, 2) := by decide +kernel
theorem dX9_bestFactor_97 : decode cX9_bestFactor 97 = .ok (.iload 7, 2) := by decide +kernel
theorem dX9_bestFactor_99 : decode cX9_bestFactor 99 = .ok (.istore 5, 2) := by decide +kernel
theorem dX9_bestFactor_101 : decode cX9_bestFactor 101 = .ok (.iinc 6 1, 3) := by decide +kernel
theorem dX9_bestFactor_104 : decode cX9_bestFactor 104 = .ok (.goto (-52), 3) := by decide +kernel
theorem dX9_bestFactor_107 : decode cX9_bestFactor 107 = .ok (.iload 4, 2) := by decide +kernel
theorem dX9_bestFactor_109 : decode cX9_bestFactor 109 = .ok (.ireturn, 1) := by decide +kernel
theorem dX9_more_0 : decode cX9_more 0 = .ok (.aload_n 0, 1) := by decide +kernel
theorem dX9_more_1 : decode cX9_more 1 = .ok (.iconst 0, 1) := by decide +kernel
theorem dX9_more_2 : decode cX9_more 2 = .ok (.putfield 73, 3) := by decide +kernel
theorem dX9_more_5 : decode cX9_more 5 = .ok (.aload_n 0, 1) := by decide +kernel
theorem dX9_more_6 : decode cX9_more 6 = .ok (.iload_n 1, 1) := by decide +kernel
theorem dX9_more_7 : decode cX9_more 7 = .ok (.invokevirtual 240, 3) := by decide +kernel
theorem dX9_more_10 : decode cX9_more 10 = .ok (.ifCond .ne 9, 3) := by decide +kernel
theorem dX9_more_13 : decode cX9_more 13 = .ok (.aload_n 0, 1) := by decide +kernel
theorem dX9_more_14 : decode cX9_more 14 = .ok (.iconst 1, 1) := by decide +kernel
theorem dX9_more_15 : decode cX9_more 15 = .ok (.invokevirtual 210, 3) := by decide +kernel
theorem dX9_more_18 : decode cX9_more 18 = .ok (.ireturn, 1) := by decide +kernel
theorem dX9_more_19 : decode cX9_more 19 = .ok (.aload_n 0, 1) := by decide +kernel
theorem dX9_more_20 : decode cX9_more 20 = .ok (.invokevirtual 213, 3) := by decide +kernel
theorem dX9_more_23 : decode cX9_more 23 = .ok (.aload_n 0, 1) := by decide +kernel
theorem dX9_more_24 : decode cX9_more 24 = .ok (.getfield 47, 3) := by decide +kernel
theorem dX9_more_27 : decode cX9_more 27 = .ok (.iload_n 1, 1) := by decide +kernel
theorem dX9_more_28 : decode cX9_more 28 = .ok (.iaload, 1) := by decide +kernel
theorem dX9_more_29 : decode cX9_more 29 = .ok (.iconst (-1), 1) := by decide +kernel
theorem dX9_more_30 : decode cX9_more 30 = .ok (.if_icmp .eq 5, 3) := by decide +kernel
theorem dX9_more_33 : decode cX9_more 33 = .ok (.iconst 0, 1) := by decide +kernel
theorem dX9_more_34 : decode cX9_more 34 = .ok (.ireturn, 1) := by decide +kernel
theorem dX9_more_35 : decode cX9_more 35 = .ok (.iconst 1, 1) := by decide +kernel
theorem dX9_more_36 : decode cX9_more 36 = .ok (.istore_n 2, 1) := by decide +kernel
theorem dX9_more_37 : decode cX9_more 37 = .ok (.iload_n 2, 1) := by decide +kernel
theorem dX9_more_38 : decode cX9_more 38 = .ok (.sipush 5000, 3) := by decide +kernel
theorem dX9_more_41 : decode cX9_more 41 = .ok (.if_icmp .gt 41, 3) := by decide +kernel
theorem dX9_more_44 : decode cX9_more 44 = .ok (.aload_n 0, 1) := by decide +kernel
theorem dX9_more_45 : decode cX9_more 45 = .ok (.iload_n 1, 1) := by decide +kernel
theorem dX9_more_46 : decode cX9_more 46 = .ok (.iconst 0, 1) := by decide +kernel
theorem dX9_more_47 : decode cX9_more 47 = .ok (.aload_n 0, 1) := by decide +kernel
theorem dX9_more_48 : decode cX9_more 48 = .ok (.getfield 31, 3) := by decide +kernel
theorem dX9_more_51 : decode cX9_more 51 = .ok (.iload_n 1, 1) := by decide +kernel
theorem dX9_more_52 : decode cX9_more 52 = .ok (.iaload, 1) := by decide +kernel
theorem dX9_more_53 : decode cX9_more 53 = .ok (.aload_n 0, 1) := by decide +kernel
theorem dX9_more_54 : decode cX9_more 54 = .ok (.getfield 9, 3) := by decide +kernel
theorem dX9_more_57 : decode cX9_more 57 = .ok (.iconst 3, 1) := by decide +kernel
theorem dX9_more_58 : decode cX9_more 58 = .ok (.iaload, 1) := by decide +kernel
theorem dX9_more_59 : decode cX9_more 59 = .ok (.invokevirtual 175, 3) := by decide +kernel
theorem dX9_more_62 : decode cX9_more 62 = .ok (.aload_n 0, 1) := by decide +kernel
theorem dX9_more_63 : decode cX9_more 63 = .ok (.aload_n 0, 1) := by decide +kernel
theorem dX9_more_64 : decode cX9_more 64 = .ok (.iload_n 1, 1) := by decide +kernel
theorem dX9_more_65 : decode cX9_more 65 = .ok (.invokevirtual 169, 3) := by decide +kernel
theorem dX9_more_68 : decode cX9_more 68 = .ok (.invokevirtual 179, 3) := by decide +kernel
theorem dX9_more_71 : decode cX9_more 71 = .ok (.ifCond .eq 5, 3) := by decide +kernel
theorem dX9_more_74 : decode cX9_more 74 = .ok (.iload_n 2, 1) := by decide +kernel
theorem dX9_more_75 : decode cX9_more 75 = .ok (.ireturn, 1) := by decide +kernel
theorem dX9_more_76 : decode cX9_more 76 = .ok (.iinc 2 1, 3) := by decide +kernel
theorem dX9_more_79 : decode cX9_more 79 = .ok (.goto (-42), 3) := by decide +kernel
theorem dX9_more_82 : decode cX9_more 82 = .ok (.iconst (-1), 1) := by decide +kernel
theorem dX9_more_83 : decode cX9_more 83 = .ok (.ireturn, 1) := by decide +kernel
theorem dX9_audit_0 : decode cX9_audit 0 = .ok (.aload_n 0, 1) := by decide +kernel
theorem dX9_audit_1 : decode cX9_audit 1 = .ok (.invokevirtual 193, 3) := by decide +kernel
theorem dX9_audit_4 : decode cX9_audit 4 = .ok (.aload_n 0, 1) := by decide +kernel
theorem dX9_audit_5 : decode cX9_audit 5 = .ok (.iload_n 1, 1) := by decide +kernel
theorem dX9_audit_6 : decode cX9_audit 6 = .ok (.putfield 203, 3) := by decide +kernel
theorem dX9_audit_9 : decode cX9_audit 9 = .ok (.aload_n 0, 1) := by decide +kernel
theorem dX9_audit_10 : decode cX9_audit 10 = .ok (.getfield 166, 3) := by decide +kernel
theorem dX9_audit_13 : decode cX9_audit 13 = .ok (.aload_n 0, 1) := by decide +kernel
theorem dX9_audit_14 : decode cX9_audit 14 = .ok (.getfield 9, 3) := by decide +kernel
