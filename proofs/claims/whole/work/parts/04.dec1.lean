theorem dX0_init_0 : decode cX0_init 0 = .ok (.aload_n 0, 1) := by decide +kernel
theorem dX0_init_1 : decode cX0_init 1 = .ok (.invokespecial 3, 3) := by decide +kernel
theorem dX0_init_4 : decode cX0_init 4 = .ok (.aload_n 0, 1) := by decide +kernel
theorem dX0_init_5 : decode cX0_init 5 = .ok (.bipush 12, 2) := by decide +kernel
theorem dX0_init_7 : decode cX0_init 7 = .ok (.newarray .int, 2) := by decide +kernel
theorem dX0_init_9 : decode cX0_init 9 = .ok (.putfield 9, 3) := by decide +kernel
theorem dX0_init_12 : decode cX0_init 12 = .ok (.aload_n 0, 1) := by decide +kernel
theorem dX0_init_13 : decode cX0_init 13 = .ok (.bipush 12, 2) := by decide +kernel
theorem dX0_init_15 : decode cX0_init 15 = .ok (.newarray .int, 2) := by decide +kernel
theorem dX0_init_17 : decode cX0_init 17 = .ok (.putfield 15, 3) := by decide +kernel
theorem dX0_init_20 : decode cX0_init 20 = .ok (.aload_n 0, 1) := by decide +kernel
theorem dX0_init_21 : decode cX0_init 21 = .ok (.bipush 12, 2) := by decide +kernel
theorem dX0_init_23 : decode cX0_init 23 = .ok (.newarray .int, 2) := by decide +kernel
theorem dX0_init_25 : decode cX0_init 25 = .ok (.putfield 18, 3) := by decide +kernel
theorem dX0_init_28 : decode cX0_init 28 = .ok (.aload_n 0, 1) := by decide +kernel
theorem dX0_init_29 : decode cX0_init 29 = .ok (.bipush 12, 2) := by decide +kernel
theorem dX0_init_31 : decode cX0_init 31 = .ok (.newarray .int, 2) := by decide +kernel
theorem dX0_init_33 : decode cX0_init 33 = .ok (.putfield 21, 3) := by decide +kernel
theorem dX0_init_36 : decode cX0_init 36 = .ok (.aload_n 0, 1) := by decide +kernel
theorem dX0_init_37 : decode cX0_init 37 = .ok (.iconst 0, 1) := by decide +kernel
theorem dX0_init_38 : decode cX0_init 38 = .ok (.putfield 24, 3) := by decide +kernel
theorem dX0_init_41 : decode cX0_init 41 = .ok (.aload_n 0, 1) := by decide +kernel
theorem dX0_init_42 : decode cX0_init 42 = .ok (.iconst 0, 1) := by decide +kernel
theorem dX0_init_43 : decode cX0_init 43 = .ok (.putfield 28, 3) := by decide +kernel
theorem dX0_init_46 : decode cX0_init 46 = .ok (.aload_n 0, 1) := by decide +kernel
theorem dX0_init_47 : decode cX0_init 47 = .ok (.iconst 0, 1) := by decide +kernel
theorem dX0_init_48 : decode cX0_init 48 = .ok (.putfield 31, 3) := by decide +kernel
theorem dX0_init_51 : decode cX0_init 51 = .ok (.aload_n 0, 1) := by decide +kernel
theorem dX0_init_52 : decode cX0_init 52 = .ok (.iconst 0, 1) := by decide +kernel
theorem dX0_init_53 : decode cX0_init 53 = .ok (.putfield 34, 3) := by decide +kernel
theorem dX0_init_56 : decode cX0_init 56 = .ok (.aload_n 0, 1) := by decide +kernel
theorem dX0_init_57 : decode cX0_init 57 = .ok (.iconst 0, 1) := by decide +kernel
theorem dX0_init_58 : decode cX0_init 58 = .ok (.putfield 37, 3) := by decide +kernel
theorem dX0_init_61 : decode cX0_init 61 = .ok (.return_, 1) := by decide +kernel
theorem dX0_forget_0 : decode cX0_forget 0 = .ok (.aload_n 0, 1) := by decide +kernel
theorem dX0_forget_1 : decode cX0_forget 1 = .ok (.iconst 0, 1) := by decide +kernel
theorem dX0_forget_2 : decode cX0_forget 2 = .ok (.putfield 24, 3) := by decide +kernel
theorem dX0_forget_5 : decode cX0_forget 5 = .ok (.return_, 1) := by decide +kernel
theorem dX0_add_0 : decode cX0_add 0 = .ok (.aload_n 0, 1) := by decide +kernel
theorem dX0_add_1 : decode cX0_add 1 = .ok (.getfield 24, 3) := by decide +kernel
theorem dX0_add_4 : decode cX0_add 4 = .ok (.bipush 12, 2) := by decide +kernel
theorem dX0_add_6 : decode cX0_add 6 = .ok (.if_icmp .lt 37, 3) := by decide +kernel
theorem dX0_add_9 : decode cX0_add 9 = .ok (.aload_n 0, 1) := by decide +kernel
theorem dX0_add_10 : decode cX0_add 10 = .ok (.getfield 9, 3) := by decide +kernel
theorem dX0_add_13 : decode cX0_add 13 = .ok (.invokestatic 40, 3) := by decide +kernel
theorem dX0_add_16 : decode cX0_add 16 = .ok (.aload_n 0, 1) := by decide +kernel
theorem dX0_add_17 : decode cX0_add 17 = .ok (.getfield 15, 3) := by decide +kernel
theorem dX0_add_20 : decode cX0_add 20 = .ok (.invokestatic 40, 3) := by decide +kernel
theorem dX0_add_23 : decode cX0_add 23 = .ok (.aload_n 0, 1) := by decide +kernel
theorem dX0_add_24 : decode cX0_add 24 = .ok (.getfield 18, 3) := by decide +kernel
theorem dX0_add_27 : decode cX0_add 27 = .ok (.invokestatic 40, 3) := by decide +kernel
theorem dX0_add_30 : decode cX0_add 30 = .ok (.aload_n 0, 1) := by decide +kernel
theorem dX0_add_31 : decode cX0_add 31 = .ok (.getfield 21, 3) := by decide +kernel
theorem dX0_add_34 : decode cX0_add 34 = .ok (.invokestatic 40, 3) := by decide +kernel
theorem dX0_add_37 : decode cX0_add 37 = .ok (.aload_n 0, 1) := by decide +kernel
theorem dX0_add_38 : decode cX0_add 38 = .ok (.bipush 11, 2) := by decide +kernel
theorem dX0_add_40 : decode cX0_add 40 = .ok (.putfield 24, 3) := by decide +kernel
theorem dX0_add_43 : decode cX0_add 43 = .ok (.aload_n 0, 1) := by decide +kernel
theorem dX0_add_44 : decode cX0_add 44 = .ok (.getfield 9, 3) := by decide +kernel
theorem dX0_add_47 : decode cX0_add 47 = .ok (.aload_n 0, 1) := by decide +kernel
theorem dX0_add_48 : decode cX0_add 48 = .ok (.getfield 24, 3) := by decide +kernel
theorem dX0_add_51 : decode cX0_add 51 = .ok (.iload_n 1, 1) := by decide +kernel
theorem dX0_add_52 : decode cX0_add 52 = .ok (.iastore, 1) := by decide +kernel
theorem dX0_add_53 : decode cX0_add 53 = .ok (.aload_n 0, 1) := by decide +kernel
theorem dX0_add_54 : decode cX0_add 54 = .ok (.getfield 15, 3) := by decide +kernel
theorem dX0_add_57 : decode cX0_add 57 = .ok (.aload_n 0, 1) := by decide +kernel
theorem dX0_add_58 : decode cX0_add 58 = .ok (.getfield 24, 3) := by decide +kernel
theorem dX0_add_61 : decode cX0_add 61 = .ok (.iload_n 2, 1) := by decide +kernel
theorem dX0_add_62 : decode cX0_add 62 = .ok (.iastore, 1) := by decide +kernel
theorem dX0_add_63 : decode cX0_add 63 = .ok (.aload_n 0, 1) := by decide +kernel
theorem dX0_add_64 : decode cX0_add 64 = .ok (.getfield 18, 3) := by decide +kernel
theorem dX0_add_67 : decode cX0_add 67 = .ok (.aload_n 0, 1) := by decide +kernel
theorem dX0_add_68 : decode cX0_add 68 = .ok (.getfield 24, 3) := by decide +kernel
theorem dX0_add_71 : decode cX0_add 71 = .ok (.iload_n 3, 1) := by decide +kernel
theorem dX0_add_72 : decode cX0_add 72 = .ok (.iastore, 1) := by decide +kernel
theorem dX0_add_73 : decode cX0_add 73 = .ok (.aload_n 0, 1) := by decide +kernel
theorem dX0_add_74 : decode cX0_add 74 = .ok (.getfield 21, 3) := by decide +kernel
theorem dX0_add_77 : decode cX0_add 77 = .ok (.aload_n 0, 1) := by decide +kernel
theorem dX0_add_78 : decode cX0_add 78 = .ok (.getfield 24, 3) := by decide +kernel
theorem dX0_add_81 : decode cX0_add 81 = .ok (.iload 4, 2) := by decide +kernel
theorem dX0_add_83 : decode cX0_add 83 = .ok (.iastore, 1) := by decide +kernel
theorem dX0_add_84 : decode cX0_add 84 = .ok (.aload_n 0, 1) := by decide +kernel
theorem dX0_add_85 : decode cX0_add 85 = .ok (.dup, 1) := by decide +kernel
theorem dX0_add_86 : decode cX0_add 86 = .ok (.getfield 24, 3) := by decide +kernel
theorem dX0_add_89 : decode cX0_add 89 = .ok (.iconst 1, 1) := by decide +kernel
theorem dX0_add_90 : decode cX0_add 90 = .ok (.iadd, 1) := by decide +kernel
theorem dX0_add_91 : decode cX0_add 91 = .ok (.putfield 24, 3) := by decide +kernel
theorem dX0_add_94 : decode cX0_add 94 = .ok (.return_, 1) := by decide +kernel
theorem dX0_dropOldest_0 : decode cX0_dropOldest 0 = .ok (.aload_n 0, 1) := by decide +kernel
theorem dX0_dropOldest_1 : decode cX0_dropOldest 1 = .ok (.iconst 1, 1) := by decide +kernel
theorem dX0_dropOldest_2 : decode cX0_dropOldest 2 = .ok (.aload_n 0, 1) := by decide +kernel
theorem dX0_dropOldest_3 : decode cX0_dropOldest 3 = .ok (.iconst 0, 1) := by decide +kernel
theorem dX0_dropOldest_4 : decode cX0_dropOldest 4 = .ok (.aload_n 0, 1) := by decide +kernel
theorem dX0_dropOldest_5 : decode cX0_dropOldest 5 = .ok (.arraylength, 1) := by decide +kernel
theorem dX0_dropOldest_6 : decode cX0_dropOldest 6 = .ok (.iconst 1, 1) := by decide +kernel
theorem dX0_dropOldest_7 : decode cX0_dropOldest 7 = .ok (.isub, 1) := by decide +kernel
theorem dX0_dropOldest_8 : decode cX0_dropOldest 8 = .ok (.invokestatic 44, 3) := by decide +kernel
theorem dX0_dropOldest_11 : decode cX0_dropOldest 11 = .ok (.return_, 1) := by decide +kernel
theorem dX0_takeLatest_0 : decode cX0_takeLatest 0 = .ok (.aload_n 0, 1) := by decide +kernel
theorem dX0_takeLatest_1 : decode cX0_takeLatest 1 = .ok (.getfield 24, 3) := by decide +kernel
theorem dX0_takeLatest_4 : decode cX0_takeLatest 4 = .ok (.ifCond .gt 5, 3) := by decide +kernel
theorem dX0_takeLatest_7 : decode cX0_takeLatest 7 = .ok (.iconst 0, 1) := by decide +kernel
theorem dX0_takeLatest_8 : decode cX0_takeLatest 8 = .ok (.ireturn, 1) := by decide +kernel
theorem dX0_takeLatest_9 : decode cX0_takeLatest 9 = .ok (.aload_n 0, 1) := by decide +kernel
theorem dX0_takeLatest_10 : decode cX0_takeLatest 10 = .ok (.dup, 1) := by decide +kernel
theorem dX0_takeLatest_11 : decode cX0_takeLatest 11 = .ok (.getfield 24, 3) := by decide +kernel
theorem dX0_takeLatest_14 : decode cX0_takeLatest 14 = .ok (.iconst 1, 1) := by decide +kernel
theorem dX0_takeLatest_15 : decode cX0_takeLatest 15 = .ok (.isub, 1) := by decide +kernel
theorem dX0_takeLatest_16 : decode cX0_takeLatest 16 = .ok (.putfield 24, 3) := by decide +kernel
theorem dX0_takeLatest_19 : decode cX0_takeLatest 19 = .ok (.aload_n 0, 1) := by decide +kernel
theorem dX0_takeLatest_20 : decode cX0_takeLatest 20 = .ok (.aload_n 0, 1) := by decide +kernel
theorem dX0_takeLatest_21 : decode cX0_takeLatest 21 = .ok (.getfield 9, 3) := by decide +kernel
theorem dX0_takeLatest_24 : decode cX0_takeLatest 24 = .ok (.aload_n 0, 1) := by decide +kernel
theorem dX0_takeLatest_25 : decode cX0_takeLatest 25 = .ok (.getfield 24, 3) := by decide +kernel
theorem dX0_takeLatest_28 : decode cX0_takeLatest 28 = .ok (.iaload, 1) := by decide +kernel
theorem dX0_takeLatest_29 : decode cX0_takeLatest 29 = .ok (.putfield 28, 3) := by decide +kernel
theorem dX0_takeLatest_32 : decode cX0_takeLatest 32 = .ok (.aload_n 0, 1) := by decide +kernel
theorem dX0_takeLatest_33 : decode cX0_takeLatest 33 = .ok (.aload_n 0, 1) := by decide +kernel
theorem dX0_takeLatest_34 : decode cX0_takeLatest 34 = .ok (.getfield 15, 3) := by decide +kernel
theorem dX0_takeLatest_37 : decode cX0_takeLatest 37 = .ok (.aload_n 0, 1) := by decide +kernel
theorem dX0_takeLatest_38 : decode cX0_takeLatest 38 = .ok (.getfield 24, 3) := by decide +kernel
theorem dX0_takeLatest_41 : decode cX0_takeLatest 41 = .ok (.iaload, 1) := by decide +kernel
theorem dX0_takeLatest_42 : decode cX0_takeLatest 42 = .ok (.putfield 31, 3) := by decide +kernel
theorem dX0_takeLatest_45 : decode cX0_takeLatest 45 = .ok (.aload_n 0, 1) := by decide +kernel
theorem dX0_takeLatest_46 : decode cX0_takeLatest 46 = .ok (.aload_n 0, 1) := by decide +kernel
theorem dX0_takeLatest_47 : decode cX0_takeLatest 47 = .ok (.getfield 18, 3) := by decide +kernel
theorem dX0_takeLatest_50 : decode cX0_takeLatest 50 = .ok (.aload_n 0, 1) := by decide +kernel
theorem dX0_takeLatest_51 : decode cX0_takeLatest 51 = .ok (.getfield 24, 3) := by decide +kernel
theorem dX0_takeLatest_54 : decode cX0_takeLatest 54 = .ok (.iaload, 1) := by decide +kernel
theorem dX0_takeLatest_55 : decode cX0_takeLatest 55 = .ok (.putfield 34, 3) := by decide +kernel
theorem dX0_takeLatest_58 : decode cX0_takeLatest 58 = .ok (.aload_n 0, 1) := by decide +kernel
theorem dX0_takeLatest_59 : decode cX0_takeLatest 59 = .ok (.aload_n 0, 1) := by decide +kernel
theorem dX0_takeLatest_60 : decode cX0_takeLatest 60 = .ok (.getfield 21, 3) := by decide +kernel
theorem dX0_takeLatest_63 : decode cX0_takeLatest 63 = .ok (.aload_n 0, 1) := by decide +kernel
theorem dX0_takeLatest_64 : decode cX0_takeLatest 64 = .ok (.getfield 24, 3) := by decide +kernel
theorem dX0_takeLatest_67 : decode cX0_takeLatest 67 = .ok (.iaload, 1) := by decide +kernel
theorem dX0_takeLatest_68 : decode cX0_takeLatest 68 = .ok (.putfield 37, 3) := by decide +kernel
theorem dX0_takeLatest_71 : decode cX0_takeLatest 71 = .ok (.iconst 1, 1) := by decide +kernel
theorem dX0_takeLatest_72 : decode cX0_takeLatest 72 = .ok (.ireturn, 1) := by decide +kernel
theorem dX1_init_0 : decode cX1_init 0 = .ok (.aload_n 0, 1) := by decide +kernel
theorem dX1_init_1 : decode cX1_init 1 = .ok (.invokespecial 3, 3) := by decide +kernel
theorem dX1_init_4 : decode cX1_init 4 = .ok (.aload_n 0, 1) := by decide +kernel
theorem dX1_init_5 : decode cX1_init 5 = .ok (.iconst 3, 1) := by decide +kernel
theorem dX1_init_6 : decode cX1_init 6 = .ok (.iconst 4, 1) := by decide +kernel
theorem dX1_init_7 : decode cX1_init 7 = .ok (.multianewarray 9 2, 4) := by decide +kernel
theorem dX1_init_11 : decode cX1_init 11 = .ok (.putfield 11, 3) := by decide +kernel
theorem dX1_init_14 : decode cX1_init 14 = .ok (.aload_n 0, 1) := by decide +kernel
theorem dX1_init_15 : decode cX1_init 15 = .ok (.iconst 3, 1) := by decide +kernel
theorem dX1_init_16 : decode cX1_init 16 = .ok (.sipush 301, 3) := by decide +kernel
theorem dX1_init_19 : decode cX1_init 19 = .ok (.multianewarray 9 2, 4) := by decide +kernel
theorem dX1_init_23 : decode cX1_init 23 = .ok (.putfield 16, 3) := by decide +kernel
theorem dX1_init_26 : decode cX1_init 26 = .ok (.aload_n 0, 1) := by decide +kernel
theorem dX1_init_27 : decode cX1_init 27 = .ok (.iconst 3, 1) := by decide +kernel
theorem dX1_init_28 : decode cX1_init 28 = .ok (.newarray .int, 2) := by decide +kernel
theorem dX1_init_30 : decode cX1_init 30 = .ok (.putfield 19, 3) := by decide +kernel
theorem dX1_init_33 : decode cX1_init 33 = .ok (.aload_n 0, 1) := by decide +kernel
theorem dX1_init_34 : decode cX1_init 34 = .ok (.sipush 300, 3) := by decide +kernel
theorem dX1_init_37 : decode cX1_init 37 = .ok (.newarray .int, 2) := by decide +kernel
theorem dX1_init_39 : decode cX1_init 39 = .ok (.putfield 23, 3) := by decide +kernel
theorem dX1_init_42 : decode cX1_init 42 = .ok (.aload_n 0, 1) := by decide +kernel
theorem dX1_init_43 : decode cX1_init 43 = .ok (.sipush 200, 3) := by decide +kernel
theorem dX1_init_46 : decode cX1_init 46 = .ok (.newarray .int, 2) := by decide +kernel
theorem dX1_init_48 : decode cX1_init 48 = .ok (.putfield 26, 3) := by decide +kernel
theorem dX1_init_51 : decode cX1_init 51 = .ok (.aload_n 0, 1) := by decide +kernel
theorem dX1_init_52 : decode cX1_init 52 = .ok (.iconst 0, 1) := by decide +kernel
theorem dX1_init_53 : decode cX1_init 53 = .ok (.putfield 29, 3) := by decide +kernel
theorem dX1_init_56 : decode cX1_init 56 = .ok (.aload_n 0, 1) := by decide +kernel
theorem dX1_init_57 : decode cX1_init 57 = .ok (.iconst 0, 1) := by decide +kernel
theorem dX1_init_58 : decode cX1_init 58 = .ok (.putfield 33, 3) := by decide +kernel
theorem dX1_init_61 : decode cX1_init 61 = .ok (.aload_n 0, 1) := by decide +kernel
theorem dX1_init_62 : decode cX1_init 62 = .ok (.iconst 0, 1) := by decide +kernel
theorem dX1_init_63 : decode cX1_init 63 = .ok (.putfield 36, 3) := by decide +kernel
theorem dX1_init_66 : decode cX1_init 66 = .ok (.aload_n 0, 1) := by decide +kernel
theorem dX1_init_67 : decode cX1_init 67 = .ok (.iconst 0, 1) := by decide +kernel
theorem dX1_init_68 : decode cX1_init 68 = .ok (.putfield 39, 3) := by decide +kernel
theorem dX1_init_71 : decode cX1_init 71 = .ok (.return_, 1) := by decide +kernel
theorem dX1_begin_0 : decode cX1_begin 0 = .ok (.aload_n 0, 1) := by decide +kernel
theorem dX1_begin_1 : decode cX1_begin 1 = .ok (.getfield 26, 3) := by decide +kernel
theorem dX1_begin_4 : decode cX1_begin 4 = .ok (.iconst 0, 1) := by decide +kernel
theorem dX1_begin_5 : decode cX1_begin 5 = .ok (.invokestatic 42, 3) := by decide +kernel
theorem dX1_begin_8 : decode cX1_begin 8 = .ok (.aload_n 0, 1) := by decide +kernel
theorem dX1_begin_9 : decode cX1_begin 9 = .ok (.iconst 0, 1) := by decide +kernel
theorem dX1_begin_10 : decode cX1_begin 10 = .ok (.putfield 29, 3) := by decide +kernel
theorem dX1_begin_13 : decode cX1_begin 13 = .ok (.aload_n 0, 1) := by decide +kernel
theorem dX1_begin_14 : decode cX1_begin 14 = .ok (.iconst 0, 1) := by decide +kernel
theorem dX1_begin_15 : decode cX1_begin 15 = .ok (.putfield 33, 3) := by decide +kernel
theorem dX1_begin_18 : decode cX1_begin 18 = .ok (.aload_n 0, 1) := by decide +kernel
theorem dX1_begin_19 : decode cX1_begin 19 = .ok (.aload_n 1, 1) := by decide +kernel
theorem dX1_begin_20 : decode cX1_begin 20 = .ok (.getfield 48, 3) := by decide +kernel
theorem dX1_begin_23 : decode cX1_begin 23 = .ok (.putfield 36, 3) := by decide +kernel
theorem dX1_begin_26 : decode cX1_begin 26 = .ok (.aload_n 0, 1) := by decide +kernel
theorem dX1_begin_27 : decode cX1_begin 27 = .ok (.iload_n 2, 1) := by decide +kernel
theorem dX1_begin_28 : decode cX1_begin 28 = .ok (.putfield 39, 3) := by decide +kernel
theorem dX1_begin_31 : decode cX1_begin 31 = .ok (.iconst 0, 1) := by decide +kernel
theorem dX1_begin_32 : decode cX1_begin 32 = .ok (.istore_n 3, 1) := by decide +kernel
theorem dX1_begin_33 : decode cX1_begin 33 = .ok (.iload_n 3, 1) := by decide +kernel
theorem dX1_begin_34 : decode cX1_begin 34 = .ok (.iconst 3, 1) := by decide +kernel
theorem dX1_begin_35 : decode cX1_begin 35 = .ok (.if_icmp .ge 39, 3) := by decide +kernel
theorem dX1_begin_38 : decode cX1_begin 38 = .ok (.aload_n 0, 1) := by decide +kernel
theorem dX1_begin_39 : decode cX1_begin 39 = .ok (.getfield 11, 3) := by decide +kernel
theorem dX1_begin_42 : decode cX1_begin 42 = .ok (.iload_n 3, 1) := by decide +kernel
theorem dX1_begin_43 : decode cX1_begin 43 = .ok (.aaload, 1) := by decide +kernel
theorem dX1_begin_44 : decode cX1_begin 44 = .ok (.ldc2_w 53, 3) := by decide +kernel
theorem dX1_begin_47 : decode cX1_begin 47 = .ok (.invokestatic 55, 3) := by decide +kernel
theorem dX1_begin_50 : decode cX1_begin 50 = .ok (.aload_n 0, 1) := by decide +kernel
theorem dX1_begin_51 : decode cX1_begin 51 = .ok (.getfield 16, 3) := by decide +kernel
theorem dX1_begin_54 : decode cX1_begin 54 = .ok (.iload_n 3, 1) := by decide +kernel
theorem dX1_begin_55 : decode cX1_begin 55 = .ok (.aaload, 1) := by decide +kernel
theorem dX1_begin_56 : decode cX1_begin 56 = .ok (.iconst 0, 1) := by decide +kernel
theorem dX1_begin_57 : decode cX1_begin 57 = .ok (.ldc2_w 53, 3) := by decide +kernel
theorem dX1_begin_60 : decode cX1_begin 60 = .ok (.lastore, 1) := by decide +kernel
theorem dX1_begin_61 : decode cX1_begin 61 = .ok (.aload_n 0, 1) := by decide +kernel
theorem dX1_begin_62 : decode cX1_begin 62 = .ok (.getfield 19, 3) := by decide +kernel
theorem dX1_begin_65 : decode cX1_begin 65 = .ok (.iload_n 3, 1) := by decide +kernel
theorem dX1_begin_66 : decode cX1_begin 66 = .ok (.iconst (-1), 1) := by decide +kernel
theorem dX1_begin_67 : decode cX1_begin 67 = .ok (.iastore, 1) := by decide +kernel
theorem dX1_begin_68 : decode cX1_begin 68 = .ok (.iinc 3 1, 3) := by decide +kernel
theorem dX1_begin_71 : decode cX1_begin 71 = .ok (.goto (-38), 3) := by decide +kernel
theorem dX1_begin_74 : decode cX1_begin 74 = .ok (.return_, 1) := by decide +kernel
theorem dX1_goOn_0 : decode cX1_goOn 0 = .ok (.aload_n 0, 1) := by decide +kernel
theorem dX1_goOn_1 : decode cX1_goOn 1 = .ok (.getfield 29, 3) := by decide +kernel
theorem dX1_goOn_4 : decode cX1_goOn 4 = .ok (.istore_n 3, 1) := by decide +kernel
theorem dX1_goOn_5 : decode cX1_goOn 5 = .ok (.iload_n 3, 1) := by decide +kernel
theorem dX1_goOn_6 : decode cX1_goOn 6 = .ok (.iload_n 2, 1) := by decide +kernel
theorem dX1_goOn_7 : decode cX1_goOn 7 = .ok (.if_icmp .ge 35, 3) := by decide +kernel
theorem dX1_goOn_10 : decode cX1_goOn 10 = .ok (.iload_n 3, 1) := by decide +kernel
theorem dX1_goOn_11 : decode cX1_goOn 11 = .ok (.sipush 300, 3) := by decide +kernel
theorem dX1_goOn_14 : decode cX1_goOn 14 = .ok (.if_icmp .ge 28, 3) := by decide +kernel
theorem dX1_goOn_17 : decode cX1_goOn 17 = .ok (.aload_n 0, 1) := by decide +kernel
theorem dX1_goOn_18 : decode cX1_goOn 18 = .ok (.invokevirtual 58, 3) := by decide +kernel
theorem dX1_goOn_21 : decode cX1_goOn 21 = .ok (.ifCond .ne 21, 3) := by decide +kernel
theorem dX1_goOn_24 : decode cX1_goOn 24 = .ok (.aload_n 1, 1) := by decide +kernel
theorem dX1_goOn_25 : decode cX1_goOn 25 = .ok (.getfield 62, 3) := by decide +kernel
theorem dX1_goOn_28 : decode cX1_goOn 28 = .ok (.ifCond .le 14, 3) := by decide +kernel
theorem dX1_goOn_31 : decode cX1_goOn 31 = .ok (.aload_n 0, 1) := by decide +kernel
theorem dX1_goOn_32 : decode cX1_goOn 32 = .ok (.aload_n 1, 1) := by decide +kernel
theorem dX1_goOn_33 : decode cX1_goOn 33 = .ok (.invokevirtual 65, 3) := by decide +kernel
theorem dX1_goOn_36 : decode cX1_goOn 36 = .ok (.iinc 3 1, 3) := by decide +kernel
theorem dX1_goOn_39 : decode cX1_goOn 39 = .ok (.goto (-34), 3) := by decide +kernel
theorem dX1_goOn_42 : decode cX1_goOn 42 = .ok (.return_, 1) := by decide +kernel
theorem dX1_isOver_0 : decode cX1_isOver 0 = .ok (.aload_n 0, 1) := by decide +kernel
theorem dX1_isOver_1 : decode cX1_isOver 1 = .ok (.getfield 36, 3) := by decide +kernel
theorem dX1_isOver_4 : decode cX1_isOver 4 = .ok (.ifCond .ne 7, 3) := by decide +kernel
theorem dX1_isOver_7 : decode cX1_isOver 7 = .ok (.iconst 1, 1) := by decide +kernel
theorem dX1_isOver_8 : decode cX1_isOver 8 = .ok (.goto 4, 3) := by decide +kernel
theorem dX1_isOver_11 : decode cX1_isOver 11 = .ok (.iconst 0, 1) := by decide +kernel
theorem dX1_isOver_12 : decode cX1_isOver 12 = .ok (.ireturn, 1) := by decide +kernel
theorem dX1_isByHand_0 : decode cX1_isByHand 0 = .ok (.aload_n 0, 1) := by decide +kernel
theorem dX1_isByHand_1 : decode cX1_isByHand 1 = .ok (.invokevirtual 58, 3) := by decide +kernel
theorem dX1_isByHand_4 : decode cX1_isByHand 4 = .ok (.ifCond .ne 20, 3) := by decide +kernel
theorem dX1_isByHand_7 : decode cX1_isByHand 7 = .ok (.aload_n 0, 1) := by decide +kernel
theorem dX1_isByHand_8 : decode cX1_isByHand 8 = .ok (.getfield 29, 3) := by decide +kernel
theorem dX1_isByHand_11 : decode cX1_isByHand 11 = .ok (.aload_n 1, 1) := by decide +kernel
theorem dX1_isByHand_12 : decode cX1_isByHand 12 = .ok (.getfield 69, 3) := by decide +kernel
theorem dX1_isByHand_15 : decode cX1_isByHand 15 = .ok (.iconst 2, 1) := by decide +kernel
theorem dX1_isByHand_16 : decode cX1_isByHand 16 = .ok (.iaload, 1) := by decide +kernel
theorem dX1_isByHand_17 : decode cX1_isByHand 17 = .ok (.if_icmp .lt 7, 3) := by decide +kernel
theorem dX1_isByHand_20 : decode cX1_isByHand 20 = .ok (.iconst 1, 1) := by decide +kernel
theorem dX1_isByHand_21 : decode cX1_isByHand 21 = .ok (.goto 4, 3) := by decide +kernel
theorem dX1_isByHand_24 : decode cX1_isByHand 24 = .ok (.iconst 0, 1) := by decide +kernel
theorem dX1_isByHand_25 : decode cX1_isByHand 25 = .ok (.ireturn, 1) := by decide +kernel
theorem dX1_isDone_0 : decode cX1_isDone 0 = .ok (.aload_n 0, 1) := by decide +kernel
theorem dX1_isDone_1 : decode cX1_isDone 1 = .ok (.getfield 19, 3) := by decide +kernel
theorem dX1_isDone_4 : decode cX1_isDone 4 = .ok (.iload_n 1, 1) := by decide +kernel
theorem dX1_isDone_5 : decode cX1_isDone 5 = .ok (.iaload, 1) := by decide +kernel
theorem dX1_isDone_6 : decode cX1_isDone 6 = .ok (.iconst (-1), 1) := by decide +kernel
theorem dX1_isDone_7 : decode cX1_isDone 7 = .ok (.if_icmp .eq 7, 3) := by decide +kernel
theorem dX1_isDone_10 : decode cX1_isDone 10 = .ok (.iconst 1, 1) := by decide +kernel
theorem dX1_isDone_11 : decode cX1_isDone 11 = .ok (.goto 4, 3) := by decide +kernel
theorem dX1_isDone_14 : decode cX1_isDone 14 = .ok (.iconst 0, 1) := by decide +kernel
theorem dX1_isDone_15 : decode cX1_isDone 15 = .ok (.ireturn, 1) := by decide +kernel
theorem dX1_latestRisk_0 : decode cX1_latestRisk 0 = .ok (.aload_n 0, 1) := by decide +kernel
theorem dX1_latestRisk_1 : decode cX1_latestRisk 1 = .ok (.getfield 16, 3) := by decide +kernel
theorem dX1_latestRisk_4 : decode cX1_latestRisk 4 = .ok (.iload_n 1, 1) := by decide +kernel
theorem dX1_latestRisk_5 : decode cX1_latestRisk 5 = .ok (.aaload, 1) := by decide +kernel
theorem dX1_latestRisk_6 : decode cX1_latestRisk 6 = .ok (.aload_n 0, 1) := by decide +kernel
theorem dX1_latestRisk_7 : decode cX1_latestRisk 7 = .ok (.getfield 29, 3) := by decide +kernel
theorem dX1_latestRisk_10 : decode cX1_latestRisk 10 = .ok (.laload, 1) := by decide +kernel
theorem dX1_latestRisk_11 : decode cX1_latestRisk 11 = .ok (.lreturn, 1) := by decide +kernel
theorem dX1_drawOne_0 : decode cX1_drawOne 0 = .ok (.aload_n 1, 1) := by decide +kernel
theorem dX1_drawOne_1 : decode cX1_drawOne 1 = .ok (.getfield 62, 3) := by decide +kernel
theorem dX1_drawOne_4 : decode cX1_drawOne 4 = .ok (.ifCond .le 23, 3) := by decide +kernel
theorem dX1_drawOne_7 : decode cX1_drawOne 7 = .ok (.aload_n 1, 1) := by decide +kernel
theorem dX1_drawOne_8 : decode cX1_drawOne 8 = .ok (.getfield 62, 3) := by decide +kernel
theorem dX1_drawOne_11 : decode cX1_drawOne 11 = .ok (.sipush 200, 3) := by decide +kernel
theorem dX1_drawOne_14 : decode cX1_drawOne 14 = .ok (.if_icmp .gt 13, 3) := by decide +kernel
theorem dX1_drawOne_17 : decode cX1_drawOne 17 = .ok (.aload_n 0, 1) := by decide +kernel
theorem dX1_drawOne_18 : decode cX1_drawOne 18 = .ok (.getfield 29, 3) := by decide +kernel
theorem dX1_drawOne_21 : decode cX1_drawOne 21 = .ok (.sipush 300, 3) := by decide +kernel
theorem dX1_drawOne_24 : decode cX1_drawOne 24 = .ok (.if_icmp .lt 4, 3) := by decide +kernel
theorem dX1_drawOne_27 : decode cX1_drawOne 27 = .ok (.return_, 1) := by decide +kernel
theorem dX1_drawOne_28 : decode cX1_drawOne 28 = .ok (.aload_n 0, 1) := by decide +kernel
theorem dX1_drawOne_29 : decode cX1_drawOne 29 = .ok (.aload_n 0, 1) := by decide +kernel
theorem dX1_drawOne_30 : decode cX1_drawOne 30 = .ok (.getfield 39, 3) := by decide +kernel
theorem dX1_drawOne_33 : decode cX1_drawOne 33 = .ok (.ldc 72, 2) := by decide +kernel
theorem dX1_drawOne_35 : decode cX1_drawOne 35 = .ok (.imul, 1) := by decide +kernel
theorem dX1_drawOne_36 : decode cX1_drawOne 36 = .ok (.sipush 12345, 3) := by decide +kernel
theorem dX1_drawOne_39 : decode cX1_drawOne 39 = .ok (.iadd, 1) := by decide +kernel
theorem dX1_drawOne_40 : decode cX1_drawOne 40 = .ok (.putfield 39, 3) := by decide +kernel
theorem dX1_drawOne_43 : decode cX1_drawOne 43 = .ok (.aload_n 0, 1) := by decide +kernel
theorem dX1_drawOne_44 : decode cX1_drawOne 44 = .ok (.getfield 39, 3) := by decide +kernel
theorem dX1_drawOne_47 : decode cX1_drawOne 47 = .ok (.bipush 16, 2) := by decide +kernel
theorem dX1_drawOne_49 : decode cX1_drawOne 49 = .ok (.iushr, 1) := by decide +kernel
theorem dX1_drawOne_50 : decode cX1_drawOne 50 = .ok (.sipush 32767, 3) := by decide +kernel
theorem dX1_drawOne_53 : decode cX1_drawOne 53 = .ok (.iand, 1) := by decide +kernel
theorem dX1_drawOne_54 : decode cX1_drawOne 54 = .ok (.aload_n 1, 1) := by decide +kernel
theorem dX1_drawOne_55 : decode cX1_drawOne 55 = .ok (.getfield 62, 3) := by decide +kernel
theorem dX1_drawOne_58 : decode cX1_drawOne 58 = .ok (.irem, 1) := by decide +kernel
theorem dX1_drawOne_59 : decode cX1_drawOne 59 = .ok (.istore_n 2, 1) := by decide +kernel
theorem dX1_drawOne_60 : decode cX1_drawOne 60 = .ok (.aload_n 0, 1) := by decide +kernel
theorem dX1_drawOne_61 : decode cX1_drawOne 61 = .ok (.getfield 26, 3) := by decide +kernel
theorem dX1_drawOne_64 : decode cX1_drawOne 64 = .ok (.iload_n 2, 1) := by decide +kernel
theorem dX1_drawOne_65 : decode cX1_drawOne 65 = .ok (.iaload, 1) := by decide +kernel
theorem dX1_drawOne_66 : decode cX1_drawOne 66 = .ok (.ifCond .ne 13, 3) := by decide +kernel
theorem dX1_drawOne_69 : decode cX1_drawOne 69 = .ok (.aload_n 0, 1) := by decide +kernel
theorem dX1_drawOne_70 : decode cX1_drawOne 70 = .ok (.dup, 1) := by decide +kernel
theorem dX1_drawOne_71 : decode cX1_drawOne 71 = .ok (.getfield 33, 3) := by decide +kernel
theorem dX1_drawOne_74 : decode cX1_drawOne 74 = .ok (.iconst 1, 1) := by decide +kernel
theorem dX1_drawOne_75 : decode cX1_drawOne 75 = .ok (.iadd, 1) := by decide +kernel
theorem dX1_drawOne_76 : decode cX1_drawOne 76 = .ok (.putfield 33, 3) := by decide +kernel
theorem dX1_drawOne_79 : decode cX1_drawOne 79 = .ok (.aload_n 0, 1) := by decide +kernel
theorem dX1_drawOne_80 : decode cX1_drawOne 80 = .ok (.getfield 26, 3) := by decide +kernel
theorem dX1_drawOne_83 : decode cX1_drawOne 83 = .ok (.iload_n 2, 1) := by decide +kernel
theorem dX1_drawOne_84 : decode cX1_drawOne 84 = .ok (.dup2, 1) := by decide +kernel
theorem dX1_drawOne_85 : decode cX1_drawOne 85 = .ok (.iaload, 1) := by decide +kernel
theorem dX1_drawOne_86 : decode cX1_drawOne 86 = .ok (.iconst 1, 1) := by decide +kernel
theorem dX1_drawOne_87 : decode cX1_drawOne 87 = .ok (.iadd, 1) := by decide +kernel
theorem dX1_drawOne_88 : decode cX1_drawOne 88 = .ok (.iastore, 1) := by decide +kernel
theorem dX1_drawOne_89 : decode cX1_drawOne 89 = .ok (.aload_n 0, 1) := by decide +kernel
theorem dX1_drawOne_90 : decode cX1_drawOne 90 = .ok (.getfield 23, 3) := by decide +kernel
theorem dX1_drawOne_93 : decode cX1_drawOne 93 = .ok (.aload_n 0, 1) := by decide +kernel
theorem dX1_drawOne_94 : decode cX1_drawOne 94 = .ok (.getfield 29, 3) := by decide +kernel
theorem dX1_drawOne_97 : decode cX1_drawOne 97 = .ok (.iload_n 2, 1) := by decide +kernel
theorem dX1_drawOne_98 : decode cX1_drawOne 98 = .ok (.iastore, 1) := by decide +kernel
theorem dX1_drawOne_99 : decode cX1_drawOne 99 = .ok (.iconst 0, 1) := by decide +kernel
theorem dX1_drawOne_100 : decode cX1_drawOne 100 = .ok (.istore_n 3, 1) := by decide +kernel
theorem dX1_drawOne_101 : decode cX1_drawOne 101 = .ok (.iload_n 3, 1) := by decide +kernel
theorem dX1_drawOne_102 : decode cX1_drawOne 102 = .ok (.aload_n 1, 1) := by decide +kernel
theorem dX1_drawOne_103 : decode cX1_drawOne 103 = .ok (.getfield 48, 3) := by decide +kernel
theorem dX1_drawOne_106 : decode cX1_drawOne 106 = .ok (.if_icmp .ge 51, 3) := by decide +kernel
theorem dX1_drawOne_109 : decode cX1_drawOne 109 = .ok (.iload_n 3, 1) := by decide +kernel
theorem dX1_drawOne_110 : decode cX1_drawOne 110 = .ok (.iconst 3, 1) := by decide +kernel
theorem dX1_drawOne_111 : decode cX1_drawOne 111 = .ok (.if_icmp .ge 46, 3) := by decide +kernel
theorem dX1_drawOne_114 : decode cX1_drawOne 114 = .ok (.aload_n 0, 1) := by decide +kernel
theorem dX1_drawOne_115 : decode cX1_drawOne 115 = .ok (.getfield 16, 3) := by decide +kernel
theorem dX1_drawOne_118 : decode cX1_drawOne 118 = .ok (.iload_n 3, 1) := by decide +kernel
theorem dX1_drawOne_119 : decode cX1_drawOne 119 = .ok (.aaload, 1) := by decide +kernel
theorem dX1_drawOne_120 : decode cX1_drawOne 120 = .ok (.aload_n 0, 1) := by decide +kernel
theorem dX1_drawOne_121 : decode cX1_drawOne 121 = .ok (.getfield 29, 3) := by decide +kernel
theorem dX1_drawOne_124 : decode cX1_drawOne 124 = .ok (.iconst 1, 1) := by decide +kernel
theorem dX1_drawOne_125 : decode cX1_drawOne 125 = .ok (.iadd, 1) := by decide +kernel
theorem dX1_drawOne_126 : decode cX1_drawOne 126 = .ok (.aload_n 0, 1) := by decide +kernel
theorem dX1_drawOne_127 : decode cX1_drawOne 127 = .ok (.iload_n 3, 1) := by decide +kernel
theorem dX1_drawOne_128 : decode cX1_drawOne 128 = .ok (.invokevirtual 73, 3) := by decide +kernel
theorem dX1_drawOne_131 : decode cX1_drawOne 131 = .ok (.ifCond .eq 11, 3) := by decide +kernel
theorem dX1_drawOne_134 : decode cX1_drawOne 134 = .ok (.aload_n 0, 1) := by decide +kernel
theorem dX1_drawOne_135 : decode cX1_drawOne 135 = .ok (.iload_n 3, 1) := by decide +kernel
theorem dX1_drawOne_136 : decode cX1_drawOne 136 = .ok (.invokevirtual 77, 3) := by decide +kernel
theorem dX1_drawOne_139 : decode cX1_drawOne 139 = .ok (.goto 11, 3) := by decide +kernel
theorem dX1_drawOne_142 : decode cX1_drawOne 142 = .ok (.aload_n 0, 1) := by decide +kernel
theorem dX1_drawOne_143 : decode cX1_drawOne 143 = .ok (.aload_n 1, 1) := by decide +kernel
theorem dX1_drawOne_144 : decode cX1_drawOne 144 = .ok (.iload_n 3, 1) := by decide +kernel
theorem dX1_drawOne_145 : decode cX1_drawOne 145 = .ok (.iload_n 2, 1) := by decide +kernel
theorem dX1_drawOne_146 : decode cX1_drawOne 146 = .ok (.iconst 1, 1) := by decide +kernel
theorem dX1_drawOne_147 : decode cX1_drawOne 147 = .ok (.invokevirtual 81, 3) := by decide +kernel
theorem dX1_drawOne_150 : decode cX1_drawOne 150 = .ok (.lastore, 1) := by decide +kernel
theorem dX1_drawOne_151 : decode cX1_drawOne 151 = .ok (.iinc 3 1, 3) := by decide +kernel
theorem dX1_drawOne_154 : decode cX1_drawOne 154 = .ok (.goto (-53), 3) := by decide +kernel
theorem dX1_drawOne_157 : decode cX1_drawOne 157 = .ok (.aload_n 0, 1) := by decide +kernel
theorem dX1_drawOne_158 : decode cX1_drawOne 158 = .ok (.dup, 1) := by decide +kernel
theorem dX1_drawOne_159 : decode cX1_drawOne 159 = .ok (.getfield 29, 3) := by decide +kernel
theorem dX1_drawOne_162 : decode cX1_drawOne 162 = .ok (.iconst 1, 1) := by decide +kernel
theorem dX1_drawOne_163 : decode cX1_drawOne 163 = .ok (.iadd, 1) := by decide +kernel
theorem dX1_drawOne_164 : decode cX1_drawOne 164 = .ok (.putfield 29, 3) := by decide +kernel
theorem dX1_drawOne_167 : decode cX1_drawOne 167 = .ok (.aload_n 0, 1) := by decide +kernel
theorem dX1_drawOne_168 : decode cX1_drawOne 168 = .ok (.aload_n 1, 1) := by decide +kernel
theorem dX1_drawOne_169 : decode cX1_drawOne 169 = .ok (.invokevirtual 85, 3) := by decide +kernel
theorem dX1_drawOne_172 : decode cX1_drawOne 172 = .ok (.return_, 1) := by decide +kernel
theorem dX1_closeRaces_0 : decode cX1_closeRaces 0 = .ok (.iconst 0, 1) := by decide +kernel
theorem dX1_closeRaces_1 : decode cX1_closeRaces 1 = .ok (.istore_n 2, 1) := by decide +kernel
theorem dX1_closeRaces_2 : decode cX1_closeRaces 2 = .ok (.iload_n 2, 1) := by decide +kernel
theorem dX1_closeRaces_3 : decode cX1_closeRaces 3 = .ok (.aload_n 1, 1) := by decide +kernel
theorem dX1_closeRaces_4 : decode cX1_closeRaces 4 = .ok (.getfield 48, 3) := by decide +kernel
theorem dX1_closeRaces_7 : decode cX1_closeRaces 7 = .ok (.if_icmp .ge 55, 3) := by decide +kernel
theorem dX1_closeRaces_10 : decode cX1_closeRaces 10 = .ok (.iload_n 2, 1) := by decide +kernel
theorem dX1_closeRaces_11 : decode cX1_closeRaces 11 = .ok (.iconst 3, 1) := by decide +kernel
theorem dX1_closeRaces_12 : decode cX1_closeRaces 12 = .ok (.if_icmp .ge 50, 3) := by decide +kernel
theorem dX1_closeRaces_15 : decode cX1_closeRaces 15 = .ok (.aload_n 0, 1) := by decide +kernel
theorem dX1_closeRaces_16 : decode cX1_closeRaces 16 = .ok (.iload_n 2, 1) := by decide +kernel
theorem dX1_closeRaces_17 : decode cX1_closeRaces 17 = .ok (.invokevirtual 73, 3) := by decide +kernel
theorem dX1_closeRaces_20 : decode cX1_closeRaces 20 = .ok (.ifCond .ne 36, 3) := by decide +kernel
theorem dX1_closeRaces_23 : decode cX1_closeRaces 23 = .ok (.aload_n 0, 1) := by decide +kernel
theorem dX1_closeRaces_24 : decode cX1_closeRaces 24 = .ok (.iload_n 2, 1) := by decide +kernel
theorem dX1_closeRaces_25 : decode cX1_closeRaces 25 = .ok (.invokevirtual 77, 3) := by decide +kernel
theorem dX1_closeRaces_28 : decode cX1_closeRaces 28 = .ok (.aload_n 1, 1) := by decide +kernel
theorem dX1_closeRaces_29 : decode cX1_closeRaces 29 = .ok (.invokevirtual 88, 3) := by decide +kernel
theorem dX1_closeRaces_32 : decode cX1_closeRaces 32 = .ok (.lcmp, 1) := by decide +kernel
theorem dX1_closeRaces_33 : decode cX1_closeRaces 33 = .ok (.ifCond .gt 23, 3) := by decide +kernel
theorem dX1_closeRaces_36 : decode cX1_closeRaces 36 = .ok (.aload_n 0, 1) := by decide +kernel
theorem dX1_closeRaces_37 : decode cX1_closeRaces 37 = .ok (.getfield 19, 3) := by decide +kernel
theorem dX1_closeRaces_40 : decode cX1_closeRaces 40 = .ok (.iload_n 2, 1) := by decide +kernel
theorem dX1_closeRaces_41 : decode cX1_closeRaces 41 = .ok (.aload_n 0, 1) := by decide +kernel
theorem dX1_closeRaces_42 : decode cX1_closeRaces 42 = .ok (.getfield 29, 3) := by decide +kernel
theorem dX1_closeRaces_45 : decode cX1_closeRaces 45 = .ok (.iastore, 1) := by decide +kernel
theorem dX1_closeRaces_46 : decode cX1_closeRaces 46 = .ok (.aload_n 0, 1) := by decide +kernel
theorem dX1_closeRaces_47 : decode cX1_closeRaces 47 = .ok (.dup, 1) := by decide +kernel
theorem dX1_closeRaces_48 : decode cX1_closeRaces 48 = .ok (.getfield 36, 3) := by decide +kernel
theorem dX1_closeRaces_51 : decode cX1_closeRaces 51 = .ok (.iconst 1, 1) := by decide +kernel
theorem dX1_closeRaces_52 : decode cX1_closeRaces 52 = .ok (.isub, 1) := by decide +kernel
theorem dX1_closeRaces_53 : decode cX1_closeRaces 53 = .ok (.putfield 36, 3) := by decide +kernel
theorem dX1_closeRaces_56 : decode cX1_closeRaces 56 = .ok (.iinc 2 1, 3) := by decide +kernel
theorem dX1_closeRaces_59 : decode cX1_closeRaces 59 = .ok (.goto (-57), 3) := by decide +kernel
theorem dX1_closeRaces_62 : decode cX1_closeRaces 62 = .ok (.return_, 1) := by decide +kernel
theorem dX1_riskWith_0 : decode cX1_riskWith 0 = .ok (.aload_n 0, 1) := by decide +kernel
theorem dX1_riskWith_1 : decode cX1_riskWith 1 = .ok (.iload_n 2, 1) := by decide +kernel
theorem dX1_riskWith_2 : decode cX1_riskWith 2 = .ok (.invokevirtual 73, 3) := by decide +kernel
theorem dX1_riskWith_5 : decode cX1_riskWith 5 = .ok (.ifCond .eq 11, 3) := by decide +kernel
theorem dX1_riskWith_8 : decode cX1_riskWith 8 = .ok (.aload_n 0, 1) := by decide +kernel
theorem dX1_riskWith_9 : decode cX1_riskWith 9 = .ok (.iload_n 2, 1) := by decide +kernel
theorem dX1_riskWith_10 : decode cX1_riskWith 10 = .ok (.invokevirtual 77, 3) := by decide +kernel
theorem dX1_riskWith_13 : decode cX1_riskWith 13 = .ok (.goto 11, 3) := by decide +kernel
theorem dX1_riskWith_16 : decode cX1_riskWith 16 = .ok (.aload_n 0, 1) := by decide +kernel
theorem dX1_riskWith_17 : decode cX1_riskWith 17 = .ok (.aload_n 1, 1) := by decide +kernel
theorem dX1_riskWith_18 : decode cX1_riskWith 18 = .ok (.iload_n 2, 1) := by decide +kernel
theorem dX1_riskWith_19 : decode cX1_riskWith 19 = .ok (.iload_n 3, 1) := by decide +kernel
theorem dX1_riskWith_20 : decode cX1_riskWith 20 = .ok (.iconst 0, 1) := by decide +kernel
theorem dX1_riskWith_21 : decode cX1_riskWith 21 = .ok (.invokevirtual 81, 3) := by decide +kernel
theorem dX1_riskWith_24 : decode cX1_riskWith 24 = .ok (.lreturn, 1) := by decide +kernel
theorem dX1_stepped_0 : decode cX1_stepped 0 = .ok (.aload_n 1, 1) := by decide +kernel
theorem dX1_stepped_1 : decode cX1_stepped 1 = .ok (.getfield 92, 3) := by decide +kernel
theorem dX1_stepped_4 : decode cX1_stepped 4 = .ok (.iload_n 2, 1) := by decide +kernel
theorem dX1_stepped_5 : decode cX1_stepped 5 = .ok (.aaload, 1) := by decide +kernel
theorem dX1_stepped_6 : decode cX1_stepped 6 = .ok (.astore 5, 2) := by decide +kernel
theorem dX1_stepped_8 : decode cX1_stepped 8 = .ok (.aload 5, 2) := by decide +kernel
theorem dX1_stepped_10 : decode cX1_stepped 10 = .ok (.getfield 96, 3) := by decide +kernel
theorem dX1_stepped_13 : decode cX1_stepped 13 = .ok (.ifCond .ne 55, 3) := by decide +kernel
theorem dX1_stepped_16 : decode cX1_stepped 16 = .ok (.aload 5, 2) := by decide +kernel
theorem dX1_stepped_18 : decode cX1_stepped 18 = .ok (.aload_n 1, 1) := by decide +kernel
theorem dX1_stepped_19 : decode cX1_stepped 19 = .ok (.getfield 62, 3) := by decide +kernel
theorem dX1_stepped_22 : decode cX1_stepped 22 = .ok (.aload_n 1, 1) := by decide +kernel
theorem dX1_stepped_23 : decode cX1_stepped 23 = .ok (.getfield 69, 3) := by decide +kernel
theorem dX1_stepped_26 : decode cX1_stepped 26 = .ok (.iconst 1, 1) := by decide +kernel
theorem dX1_stepped_27 : decode cX1_stepped 27 = .ok (.iaload, 1) := by decide +kernel
theorem dX1_stepped_28 : decode cX1_stepped 28 = .ok (.invokevirtual 101, 3) := by decide +kernel
theorem dX1_stepped_31 : decode cX1_stepped 31 = .ok (.lstore 6, 2) := by decide +kernel
theorem dX1_stepped_33 : decode cX1_stepped 33 = .ok (.aload_n 1, 1) := by decide +kernel
theorem dX1_stepped_34 : decode cX1_stepped 34 = .ok (.getfield 62, 3) := by decide +kernel
theorem dX1_stepped_37 : decode cX1_stepped 37 = .ok (.aload_n 1, 1) := by decide +kernel
theorem dX1_stepped_38 : decode cX1_stepped 38 = .ok (.getfield 69, 3) := by decide +kernel
theorem dX1_stepped_41 : decode cX1_stepped 41 = .ok (.iconst 1, 1) := by decide +kernel
theorem dX1_stepped_42 : decode cX1_stepped 42 = .ok (.iaload, 1) := by decide +kernel
theorem dX1_stepped_43 : decode cX1_stepped 43 = .ok (.aload 5, 2) := by decide +kernel
theorem dX1_stepped_45 : decode cX1_stepped 45 = .ok (.getfield 105, 3) := by decide +kernel
theorem dX1_stepped_48 : decode cX1_stepped 48 = .ok (.iload_n 3, 1) := by decide +kernel
theorem dX1_stepped_49 : decode cX1_stepped 49 = .ok (.iaload, 1) := by decide +kernel
theorem dX1_stepped_50 : decode cX1_stepped 50 = .ok (.invokestatic 108, 3) := by decide +kernel
theorem dX1_stepped_53 : decode cX1_stepped 53 = .ok (.lstore 8, 2) := by decide +kernel
theorem dX1_stepped_55 : decode cX1_stepped 55 = .ok (.aload_n 0, 1) := by decide +kernel
theorem dX1_stepped_56 : decode cX1_stepped 56 = .ok (.iload_n 2, 1) := by decide +kernel
theorem dX1_stepped_57 : decode cX1_stepped 57 = .ok (.invokevirtual 77, 3) := by decide +kernel
theorem dX1_stepped_60 : decode cX1_stepped 60 = .ok (.lload 6, 2) := by decide +kernel
theorem dX1_stepped_62 : decode cX1_stepped 62 = .ok (.lload 8, 2) := by decide +kernel
theorem dX1_stepped_64 : decode cX1_stepped 64 = .ok (.invokestatic 112, 3) := by decide +kernel
theorem dX1_stepped_67 : decode cX1_stepped 67 = .ok (.lreturn, 1) := by decide +kernel
theorem dX1_stepped_68 : decode cX1_stepped 68 = .ok (.lconst 1, 1) := by decide +kernel
theorem dX1_stepped_69 : decode cX1_stepped 69 = .ok (.lstore 6, 2) := by decide +kernel
theorem dX1_stepped_71 : decode cX1_stepped 71 = .ok (.iconst 0, 1) := by decide +kernel
theorem dX1_stepped_72 : decode cX1_stepped 72 = .ok (.istore 8, 2) := by decide +kernel
theorem dX1_stepped_74 : decode cX1_stepped 74 = .ok (.iload 8, 2) := by decide +kernel
theorem dX1_stepped_76 : decode cX1_stepped 76 = .ok (.aload 5, 2) := by decide +kernel
theorem dX1_stepped_78 : decode cX1_stepped 78 = .ok (.getfield 116, 3) := by decide +kernel
theorem dX1_stepped_81 : decode cX1_stepped 81 = .ok (.if_icmp .ge 75, 3) := by decide +kernel
theorem dX1_stepped_84 : decode cX1_stepped 84 = .ok (.iload 8, 2) := by decide +kernel
theorem dX1_stepped_86 : decode cX1_stepped 86 = .ok (.iconst 4, 1) := by decide +kernel
theorem dX1_stepped_87 : decode cX1_stepped 87 = .ok (.if_icmp .ge 69, 3) := by decide +kernel
theorem dX1_stepped_90 : decode cX1_stepped 90 = .ok (.iload 8, 2) := by decide +kernel
theorem dX1_stepped_92 : decode cX1_stepped 92 = .ok (.aload 5, 2) := by decide +kernel
theorem dX1_stepped_94 : decode cX1_stepped 94 = .ok (.getfield 119, 3) := by decide +kernel
theorem dX1_stepped_97 : decode cX1_stepped 97 = .ok (.if_icmp .eq 53, 3) := by decide +kernel
theorem dX1_stepped_100 : decode cX1_stepped 100 = .ok (.aload 5, 2) := by decide +kernel
theorem dX1_stepped_102 : decode cX1_stepped 102 = .ok (.aload_n 0, 1) := by decide +kernel
theorem dX1_stepped_103 : decode cX1_stepped 103 = .ok (.getfield 11, 3) := by decide +kernel
theorem dX1_stepped_106 : decode cX1_stepped 106 = .ok (.iload_n 2, 1) := by decide +kernel
theorem dX1_stepped_107 : decode cX1_stepped 107 = .ok (.aaload, 1) := by decide +kernel
theorem dX1_stepped_108 : decode cX1_stepped 108 = .ok (.iload 8, 2) := by decide +kernel
theorem dX1_stepped_110 : decode cX1_stepped 110 = .ok (.laload, 1) := by decide +kernel
theorem dX1_stepped_111 : decode cX1_stepped 111 = .ok (.iload 8, 2) := by decide +kernel
theorem dX1_stepped_113 : decode cX1_stepped 113 = .ok (.aload 5, 2) := by decide +kernel
theorem dX1_stepped_115 : decode cX1_stepped 115 = .ok (.getfield 122, 3) := by decide +kernel
theorem dX1_stepped_118 : decode cX1_stepped 118 = .ok (.iload_n 3, 1) := by decide +kernel
theorem dX1_stepped_119 : decode cX1_stepped 119 = .ok (.iaload, 1) := by decide +kernel
theorem dX1_stepped_120 : decode cX1_stepped 120 = .ok (.invokevirtual 125, 3) := by decide +kernel
theorem dX1_stepped_123 : decode cX1_stepped 123 = .ok (.lstore 9, 2) := by decide +kernel
theorem dX1_stepped_125 : decode cX1_stepped 125 = .ok (.iload 4, 2) := by decide +kernel
theorem dX1_stepped_127 : decode cX1_stepped 127 = .ok (.ifCond .eq 14, 3) := by decide +kernel
theorem dX1_stepped_130 : decode cX1_stepped 130 = .ok (.aload_n 0, 1) := by decide +kernel
theorem dX1_stepped_131 : decode cX1_stepped 131 = .ok (.getfield 11, 3) := by decide +kernel
theorem dX1_stepped_134 : decode cX1_stepped 134 = .ok (.iload_n 2, 1) := by decide +kernel
theorem dX1_stepped_135 : decode cX1_stepped 135 = .ok (.aaload, 1) := by decide +kernel
theorem dX1_stepped_136 : decode cX1_stepped 136 = .ok (.iload 8, 2) := by decide +kernel
theorem dX1_stepped_138 : decode cX1_stepped 138 = .ok (.lload 9, 2) := by decide +kernel
theorem dX1_stepped_140 : decode cX1_stepped 140 = .ok (.lastore, 1) := by decide +kernel
theorem dX1_stepped_141 : decode cX1_stepped 141 = .ok (.lload 6, 2) := by decide +kernel
theorem dX1_stepped_143 : decode cX1_stepped 143 = .ok (.lload 9, 2) := by decide +kernel
theorem dX1_stepped_145 : decode cX1_stepped 145 = .ok (.invokestatic 129, 3) := by decide +kernel
theorem dX1_stepped_148 : decode cX1_stepped 148 = .ok (.lstore 6, 2) := by decide +kernel
theorem dX1_stepped_150 : decode cX1_stepped 150 = .ok (.iinc 8 1, 3) := by decide +kernel
theorem dX1_stepped_153 : decode cX1_stepped 153 = .ok (.goto (-79), 3) := by decide +kernel
theorem dX1_stepped_156 : decode cX1_stepped 156 = .ok (.lload 6, 2) := by decide +kernel
theorem dX1_stepped_158 : decode cX1_stepped 158 = .ok (.lreturn, 1) := by decide +kernel
theorem dX2_init_0 : decode cX2_init 0 = .ok (.aload_n 0, 1) := by decide +kernel
theorem dX2_init_1 : decode cX2_init 1 = .ok (.invokespecial 3, 3) := by decide +kernel
theorem dX2_init_4 : decode cX2_init 4 = .ok (.aload_n 0, 1) := by decide +kernel
theorem dX2_init_5 : decode cX2_init 5 = .ok (.sipush 200, 3) := by decide +kernel
theorem dX2_init_8 : decode cX2_init 8 = .ok (.newarray .int, 2) := by decide +kernel
theorem dX2_init_10 : decode cX2_init 10 = .ok (.putfield 9, 3) := by decide +kernel
theorem dX2_init_13 : decode cX2_init 13 = .ok (.aload_n 0, 1) := by decide +kernel
theorem dX2_init_14 : decode cX2_init 14 = .ok (.sipush 200, 3) := by decide +kernel
theorem dX2_init_17 : decode cX2_init 17 = .ok (.newarray .int, 2) := by decide +kernel
theorem dX2_init_19 : decode cX2_init 19 = .ok (.putfield 15, 3) := by decide +kernel
theorem dX2_init_22 : decode cX2_init 22 = .ok (.aload_n 0, 1) := by decide +kernel
theorem dX2_init_23 : decode cX2_init 23 = .ok (.sipush 200, 3) := by decide +kernel
theorem dX2_init_26 : decode cX2_init 26 = .ok (.newarray .int, 2) := by decide +kernel
theorem dX2_init_28 : decode cX2_init 28 = .ok (.putfield 18, 3) := by decide +kernel
theorem dX2_init_31 : decode cX2_init 31 = .ok (.aload_n 0, 1) := by decide +kernel
theorem dX2_init_32 : decode cX2_init 32 = .ok (.iconst 4, 1) := by decide +kernel
theorem dX2_init_33 : decode cX2_init 33 = .ok (.newarray .int, 2) := by decide +kernel
theorem dX2_init_35 : decode cX2_init 35 = .ok (.putfield 21, 3) := by decide +kernel
theorem dX2_init_38 : decode cX2_init 38 = .ok (.aload_n 0, 1) := by decide +kernel
theorem dX2_init_39 : decode cX2_init 39 = .ok (.iconst 4, 1) := by decide +kernel
theorem dX2_init_40 : decode cX2_init 40 = .ok (.newarray .int, 2) := by decide +kernel
theorem dX2_init_42 : decode cX2_init 42 = .ok (.putfield 24, 3) := by decide +kernel
theorem dX2_init_45 : decode cX2_init 45 = .ok (.aload_n 0, 1) := by decide +kernel
theorem dX2_init_46 : decode cX2_init 46 = .ok (.iconst 0, 1) := by decide +kernel
theorem dX2_init_47 : decode cX2_init 47 = .ok (.putfield 27, 3) := by decide +kernel
theorem dX2_init_50 : decode cX2_init 50 = .ok (.aload_n 0, 1) := by decide +kernel
theorem dX2_init_51 : decode cX2_init 51 = .ok (.iconst 0, 1) := by decide +kernel
theorem dX2_init_52 : decode cX2_init 52 = .ok (.putfield 31, 3) := by decide +kernel
theorem dX2_init_55 : decode cX2_init 55 = .ok (.aload_n 0, 1) := by decide +kernel
theorem dX2_init_56 : decode cX2_init 56 = .ok (.iconst 0, 1) := by decide +kernel
theorem dX2_init_57 : decode cX2_init 57 = .ok (.putfield 34, 3) := by decide +kernel
theorem dX2_init_60 : decode cX2_init 60 = .ok (.aload_n 0, 1) := by decide +kernel
theorem dX2_init_61 : decode cX2_init 61 = .ok (.iconst 0, 1) := by decide +kernel
theorem dX2_init_62 : decode cX2_init 62 = .ok (.putfield 37, 3) := by decide +kernel
theorem dX2_init_65 : decode cX2_init 65 = .ok (.aload_n 0, 1) := by decide +kernel
theorem dX2_init_66 : decode cX2_init 66 = .ok (.iconst 0, 1) := by decide +kernel
theorem dX2_init_67 : decode cX2_init 67 = .ok (.putfield 40, 3) := by decide +kernel
theorem dX2_init_70 : decode cX2_init 70 = .ok (.return_, 1) := by decide +kernel
theorem dX2_copy_0 : decode cX2_copy 0 = .ok (.aload_n 1, 1) := by decide +kernel
theorem dX2_copy_1 : decode cX2_copy 1 = .ok (.getfield 9, 3) := by decide +kernel
theorem dX2_copy_4 : decode cX2_copy 4 = .ok (.iconst 0, 1) := by decide +kernel
theorem dX2_copy_5 : decode cX2_copy 5 = .ok (.aload_n 0, 1) := by decide +kernel
theorem dX2_copy_6 : decode cX2_copy 6 = .ok (.getfield 9, 3) := by decide +kernel
theorem dX2_copy_9 : decode cX2_copy 9 = .ok (.iconst 0, 1) := by decide +kernel
theorem dX2_copy_10 : decode cX2_copy 10 = .ok (.sipush 200, 3) := by decide +kernel
theorem dX2_copy_13 : decode cX2_copy 13 = .ok (.invokestatic 43, 3) := by decide +kernel
theorem dX2_copy_16 : decode cX2_copy 16 = .ok (.aload_n 1, 1) := by decide +kernel
theorem dX2_copy_17 : decode cX2_copy 17 = .ok (.getfield 15, 3) := by decide +kernel
theorem dX2_copy_20 : decode cX2_copy 20 = .ok (.iconst 0, 1) := by decide +kernel
theorem dX2_copy_21 : decode cX2_copy 21 = .ok (.aload_n 0, 1) := by decide +kernel
theorem dX2_copy_22 : decode cX2_copy 22 = .ok (.getfield 15, 3) := by decide +kernel
theorem dX2_copy_25 : decode cX2_copy 25 = .ok (.iconst 0, 1) := by decide +kernel
theorem dX2_copy_26 : decode cX2_copy 26 = .ok (.sipush 200, 3) := by decide +kernel
theorem dX2_copy_29 : decode cX2_copy 29 = .ok (.invokestatic 43, 3) := by decide +kernel
theorem dX2_copy_32 : decode cX2_copy 32 = .ok (.aload_n 0, 1) := by decide +kernel
theorem dX2_copy_33 : decode cX2_copy 33 = .ok (.aload_n 1, 1) := by decide +kernel
theorem dX2_copy_34 : decode cX2_copy 34 = .ok (.getfield 27, 3) := by decide +kernel
theorem dX2_copy_37 : decode cX2_copy 37 = .ok (.putfield 27, 3) := by decide +kernel
theorem dX2_copy_40 : decode cX2_copy 40 = .ok (.aload_n 0, 1) := by decide +kernel
theorem dX2_copy_41 : decode cX2_copy 41 = .ok (.aload_n 1, 1) := by decide +kernel
theorem dX2_copy_42 : decode cX2_copy 42 = .ok (.getfield 31, 3) := by decide +kernel
theorem dX2_copy_45 : decode cX2_copy 45 = .ok (.putfield 31, 3) := by decide +kernel
theorem dX2_copy_48 : decode cX2_copy 48 = .ok (.aload_n 0, 1) := by decide +kernel
theorem dX2_copy_49 : decode cX2_copy 49 = .ok (.iload_n 2, 1) := by decide +kernel
theorem dX2_copy_50 : decode cX2_copy 50 = .ok (.invokevirtual 49, 3) := by decide +kernel
theorem dX2_copy_53 : decode cX2_copy 53 = .ok (.return_, 1) := by decide +kernel
theorem dX2_reckon_0 : decode cX2_reckon 0 = .ok (.aload_n 0, 1) := by decide +kernel
theorem dX2_reckon_1 : decode cX2_reckon 1 = .ok (.aload_n 0, 1) := by decide +kernel
theorem dX2_reckon_2 : decode cX2_reckon 2 = .ok (.getfield 9, 3) := by decide +kernel
theorem dX2_reckon_5 : decode cX2_reckon 5 = .ok (.aload_n 0, 1) := by decide +kernel
theorem dX2_reckon_6 : decode cX2_reckon 6 = .ok (.getfield 21, 3) := by decide +kernel
theorem dX2_reckon_9 : decode cX2_reckon 9 = .ok (.iload_n 1, 1) := by decide +kernel
theorem dX2_reckon_10 : decode cX2_reckon 10 = .ok (.invokevirtual 53, 3) := by decide +kernel
theorem dX2_reckon_13 : decode cX2_reckon 13 = .ok (.aload_n 0, 1) := by decide +kernel
theorem dX2_reckon_14 : decode cX2_reckon 14 = .ok (.aload_n 0, 1) := by decide +kernel
theorem dX2_reckon_15 : decode cX2_reckon 15 = .ok (.getfield 15, 3) := by decide +kernel
theorem dX2_reckon_18 : decode cX2_reckon 18 = .ok (.aload_n 0, 1) := by decide +kernel
theorem dX2_reckon_19 : decode cX2_reckon 19 = .ok (.getfield 24, 3) := by decide +kernel
theorem dX2_reckon_22 : decode cX2_reckon 22 = .ok (.iload_n 1, 1) := by decide +kernel
theorem dX2_reckon_23 : decode cX2_reckon 23 = .ok (.invokevirtual 53, 3) := by decide +kernel
theorem dX2_reckon_26 : decode cX2_reckon 26 = .ok (.aload_n 0, 1) := by decide +kernel
theorem dX2_reckon_27 : decode cX2_reckon 27 = .ok (.aload_n 0, 1) := by decide +kernel
theorem dX2_reckon_28 : decode cX2_reckon 28 = .ok (.aload_n 0, 1) := by decide +kernel
theorem dX2_reckon_29 : decode cX2_reckon 29 = .ok (.getfield 21, 3) := by decide +kernel
theorem dX2_reckon_32 : decode cX2_reckon 32 = .ok (.iconst (-1), 1) := by decide +kernel
theorem dX2_reckon_33 : decode cX2_reckon 33 = .ok (.invokevirtual 57, 3) := by decide +kernel
theorem dX2_reckon_36 : decode cX2_reckon 36 = .ok (.putfield 34, 3) := by decide +kernel
theorem dX2_reckon_39 : decode cX2_reckon 39 = .ok (.aload_n 0, 1) := by decide +kernel
theorem dX2_reckon_40 : decode cX2_reckon 40 = .ok (.aload_n 0, 1) := by decide +kernel
theorem dX2_reckon_41 : decode cX2_reckon 41 = .ok (.aload_n 0, 1) := by decide +kernel
theorem dX2_reckon_42 : decode cX2_reckon 42 = .ok (.getfield 24, 3) := by decide +kernel
theorem dX2_reckon_45 : decode cX2_reckon 45 = .ok (.iconst (-1), 1) := by decide +kernel
theorem dX2_reckon_46 : decode cX2_reckon 46 = .ok (.invokevirtual 57, 3) := by decide +kernel
theorem dX2_reckon_49 : decode cX2_reckon 49 = .ok (.putfield 37, 3) := by decide +kernel
theorem dX2_reckon_52 : decode cX2_reckon 52 = .ok (.aload_n 0, 1) := by decide +kernel
theorem dX2_reckon_53 : decode cX2_reckon 53 = .ok (.aload_n 0, 1) := by decide +kernel
theorem dX2_reckon_54 : decode cX2_reckon 54 = .ok (.getfield 21, 3) := by decide +kernel
theorem dX2_reckon_57 : decode cX2_reckon 57 = .ok (.aload_n 0, 1) := by decide +kernel
theorem dX2_reckon_58 : decode cX2_reckon 58 = .ok (.getfield 34, 3) := by decide +kernel
theorem dX2_reckon_61 : decode cX2_reckon 61 = .ok (.iaload, 1) := by decide +kernel
theorem dX2_reckon_62 : decode cX2_reckon 62 = .ok (.aload_n 0, 1) := by decide +kernel
theorem dX2_reckon_63 : decode cX2_reckon 63 = .ok (.getfield 21, 3) := by decide +kernel
theorem dX2_reckon_66 : decode cX2_reckon 66 = .ok (.aload_n 0, 1) := by decide +kernel
theorem dX2_reckon_67 : decode cX2_reckon 67 = .ok (.aload_n 0, 1) := by decide +kernel
theorem dX2_reckon_68 : decode cX2_reckon 68 = .ok (.getfield 21, 3) := by decide +kernel
theorem dX2_reckon_71 : decode cX2_reckon 71 = .ok (.aload_n 0, 1) := by decide +kernel
theorem dX2_reckon_72 : decode cX2_reckon 72 = .ok (.getfield 34, 3) := by decide +kernel
theorem dX2_reckon_75 : decode cX2_reckon 75 = .ok (.invokevirtual 57, 3) := by decide +kernel
theorem dX2_reckon_78 : decode cX2_reckon 78 = .ok (.iaload, 1) := by decide +kernel
theorem dX2_reckon_79 : decode cX2_reckon 79 = .ok (.isub, 1) := by decide +kernel
theorem dX2_reckon_80 : decode cX2_reckon 80 = .ok (.putfield 40, 3) := by decide +kernel
theorem dX2_reckon_83 : decode cX2_reckon 83 = .ok (.iconst 0, 1) := by decide +kernel
theorem dX2_reckon_84 : decode cX2_reckon 84 = .ok (.istore_n 2, 1) := by decide +kernel
theorem dX2_reckon_85 : decode cX2_reckon 85 = .ok (.iload_n 2, 1) := by decide +kernel
theorem dX2_reckon_86 : decode cX2_reckon 86 = .ok (.iload_n 1, 1) := by decide +kernel
theorem dX2_reckon_87 : decode cX2_reckon 87 = .ok (.if_icmp .ge 38, 3) := by decide +kernel
theorem dX2_reckon_90 : decode cX2_reckon 90 = .ok (.iload_n 2, 1) := by decide +kernel
theorem dX2_reckon_91 : decode cX2_reckon 91 = .ok (.sipush 200, 3) := by decide +kernel
theorem dX2_reckon_94 : decode cX2_reckon 94 = .ok (.if_icmp .ge 31, 3) := by decide +kernel
theorem dX2_reckon_97 : decode cX2_reckon 97 = .ok (.aload_n 0, 1) := by decide +kernel
theorem dX2_reckon_98 : decode cX2_reckon 98 = .ok (.getfield 18, 3) := by decide +kernel
theorem dX2_reckon_101 : decode cX2_reckon 101 = .ok (.iload_n 2, 1) := by decide +kernel
theorem dX2_reckon_102 : decode cX2_reckon 102 = .ok (.aload_n 0, 1) := by decide +kernel
theorem dX2_reckon_103 : decode cX2_reckon 103 = .ok (.aload_n 0, 1) := by decide +kernel
theorem dX2_reckon_104 : decode cX2_reckon 104 = .ok (.getfield 9, 3) := by decide +kernel
theorem dX2_reckon_107 : decode cX2_reckon 107 = .ok (.iload_n 2, 1) := by decide +kernel
theorem dX2_reckon_108 : decode cX2_reckon 108 = .ok (.iaload, 1) := by decide +kernel
theorem dX2_reckon_109 : decode cX2_reckon 109 = .ok (.aload_n 0, 1) := by decide +kernel
theorem dX2_reckon_110 : decode cX2_reckon 110 = .ok (.getfield 15, 3) := by decide +kernel
theorem dX2_reckon_113 : decode cX2_reckon 113 = .ok (.iload_n 2, 1) := by decide +kernel
theorem dX2_reckon_114 : decode cX2_reckon 114 = .ok (.iaload, 1) := by decide +kernel
theorem dX2_reckon_115 : decode cX2_reckon 115 = .ok (.invokevirtual 61, 3) := by decide +kernel
theorem dX2_reckon_118 : decode cX2_reckon 118 = .ok (.iastore, 1) := by decide +kernel
theorem dX2_reckon_119 : decode cX2_reckon 119 = .ok (.iinc 2 1, 3) := by decide +kernel
theorem dX2_reckon_122 : decode cX2_reckon 122 = .ok (.goto (-37), 3) := by decide +kernel
theorem dX2_reckon_125 : decode cX2_reckon 125 = .ok (.return_, 1) := by decide +kernel
theorem dX2_tally_0 : decode cX2_tally 0 = .ok (.aload_n 2, 1) := by decide +kernel
theorem dX2_tally_1 : decode cX2_tally 1 = .ok (.iconst 0, 1) := by decide +kernel
theorem dX2_tally_2 : decode cX2_tally 2 = .ok (.invokestatic 65, 3) := by decide +kernel
theorem dX2_tally_5 : decode cX2_tally 5 = .ok (.iconst 0, 1) := by decide +kernel
theorem dX2_tally_6 : decode cX2_tally 6 = .ok (.istore 4, 2) := by decide +kernel
theorem dX2_tally_8 : decode cX2_tally 8 = .ok (.iload 4, 2) := by decide +kernel
theorem dX2_tally_10 : decode cX2_tally 10 = .ok (.iload_n 3, 1) := by decide +kernel
theorem dX2_tally_11 : decode cX2_tally 11 = .ok (.if_icmp .ge 42, 3) := by decide +kernel
theorem dX2_tally_14 : decode cX2_tally 14 = .ok (.iload 4, 2) := by decide +kernel
theorem dX2_tally_16 : decode cX2_tally 16 = .ok (.aload_n 1, 1) := by decide +kernel
theorem dX2_tally_17 : decode cX2_tally 17 = .ok (.arraylength, 1) := by decide +kernel
theorem dX2_tally_18 : decode cX2_tally 18 = .ok (.if_icmp .ge 35, 3) := by decide +kernel
theorem dX2_tally_21 : decode cX2_tally 21 = .ok (.aload_n 1, 1) := by decide +kernel
theorem dX2_tally_22 : decode cX2_tally 22 = .ok (.iload 4, 2) := by decide +kernel
theorem dX2_tally_24 : decode cX2_tally 24 = .ok (.iaload, 1) := by decide +kernel
theorem dX2_tally_25 : decode cX2_tally 25 = .ok (.istore 5, 2) := by decide +kernel
theorem dX2_tally_27 : decode cX2_tally 27 = .ok (.iload 5, 2) := by decide +kernel
theorem dX2_tally_29 : decode cX2_tally 29 = .ok (.ifCond .lt 18, 3) := by decide +kernel
theorem dX2_tally_32 : decode cX2_tally 32 = .ok (.iload 5, 2) := by decide +kernel
theorem dX2_tally_34 : decode cX2_tally 34 = .ok (.aload_n 2, 1) := by decide +kernel
theorem dX2_tally_35 : decode cX2_tally 35 = .ok (.arraylength, 1) := by decide +kernel
theorem dX2_tally_36 : decode cX2_tally 36 = .ok (.if_icmp .ge 11, 3) := by decide +kernel
theorem dX2_tally_39 : decode cX2_tally 39 = .ok (.aload_n 2, 1) := by decide +kernel
theorem dX2_tally_40 : decode cX2_tally 40 = .ok (.iload 5, 2) := by decide +kernel
theorem dX2_tally_42 : decode cX2_tally 42 = .ok (.dup2, 1) := by decide +kernel
theorem dX2_tally_43 : decode cX2_tally 43 = .ok (.iaload, 1) := by decide +kernel
theorem dX2_tally_44 : decode cX2_tally 44 = .ok (.iconst 1, 1) := by decide +kernel
theorem dX2_tally_45 : decode cX2_tally 45 = .ok (.iadd, 1) := by decide +kernel
theorem dX2_tally_46 : decode cX2_tally 46 = .ok (.iastore, 1) := by decide +kernel
theorem dX2_tally_47 : decode cX2_tally 47 = .ok (.iinc 4 1, 3) := by decide +kernel
theorem dX2_tally_50 : decode cX2_tally 50 = .ok (.goto (-42), 3) := by decide +kernel
theorem dX2_tally_53 : decode cX2_tally 53 = .ok (.return_, 1) := by decide +kernel
theorem dX2_leading_0 : decode cX2_leading 0 = .ok (.iload_n 2, 1) := by decide +kernel
theorem dX2_leading_1 : decode cX2_leading 1 = .ok (.ifCond .ne 7, 3) := by decide +kernel
theorem dX2_leading_4 : decode cX2_leading 4 = .ok (.iconst 1, 1) := by decide +kernel
theorem dX2_leading_5 : decode cX2_leading 5 = .ok (.goto 4, 3) := by decide +kernel
theorem dX2_leading_8 : decode cX2_leading 8 = .ok (.iconst 0, 1) := by decide +kernel
theorem dX2_leading_9 : decode cX2_leading 9 = .ok (.istore_n 3, 1) := by decide +kernel
theorem dX2_leading_10 : decode cX2_leading 10 = .ok (.iload_n 3, 1) := by decide +kernel
theorem dX2_leading_11 : decode cX2_leading 11 = .ok (.iconst 1, 1) := by decide +kernel
theorem dX2_leading_12 : decode cX2_leading 12 = .ok (.iadd, 1) := by decide +kernel
theorem dX2_leading_13 : decode cX2_leading 13 = .ok (.istore 4, 2) := by decide +kernel
theorem dX2_leading_15 : decode cX2_leading 15 = .ok (.iload 4, 2) := by decide +kernel
theorem dX2_leading_17 : decode cX2_leading 17 = .ok (.aload_n 0, 1) := by decide +kernel
theorem dX2_leading_18 : decode cX2_leading 18 = .ok (.getfield 27, 3) := by decide +kernel
theorem dX2_leading_21 : decode cX2_leading 21 = .ok (.if_icmp .ge 35, 3) := by decide +kernel
theorem dX2_leading_24 : decode cX2_leading 24 = .ok (.iload 4, 2) := by decide +kernel
theorem dX2_leading_26 : decode cX2_leading 26 = .ok (.aload_n 1, 1) := by decide +kernel
theorem dX2_leading_27 : decode cX2_leading 27 = .ok (.arraylength, 1) := by decide +kernel
theorem dX2_leading_28 : decode cX2_leading 28 = .ok (.if_icmp .ge 28, 3) := by decide +kernel
theorem dX2_leading_31 : decode cX2_leading 31 = .ok (.iload 4, 2) := by decide +kernel
theorem dX2_leading_33 : decode cX2_leading 33 = .ok (.iload_n 2, 1) := by decide +kernel
theorem dX2_leading_34 : decode cX2_leading 34 = .ok (.if_icmp .eq 16, 3) := by decide +kernel
theorem dX2_leading_37 : decode cX2_leading 37 = .ok (.aload_n 1, 1) := by decide +kernel
theorem dX2_leading_38 : decode cX2_leading 38 = .ok (.iload 4, 2) := by decide +kernel
theorem dX2_leading_40 : decode cX2_leading 40 = .ok (.iaload, 1) := by decide +kernel
theorem dX2_leading_41 : decode cX2_leading 41 = .ok (.aload_n 1, 1) := by decide +kernel
theorem dX2_leading_42 : decode cX2_leading 42 = .ok (.iload_n 3, 1) := by decide +kernel
theorem dX2_leading_43 : decode cX2_leading 43 = .ok (.iaload, 1) := by decide +kernel
theorem dX2_leading_44 : decode cX2_leading 44 = .ok (.if_icmp .le 6, 3) := by decide +kernel
theorem dX2_leading_47 : decode cX2_leading 47 = .ok (.iload 4, 2) := by decide +kernel
theorem dX2_leading_49 : decode cX2_leading 49 = .ok (.istore_n 3, 1) := by decide +kernel
theorem dX2_leading_50 : decode cX2_leading 50 = .ok (.iinc 4 1, 3) := by decide +kernel
theorem dX2_leading_53 : decode cX2_leading 53 = .ok (.goto (-38), 3) := by decide +kernel
theorem dX2_leading_56 : decode cX2_leading 56 = .ok (.iload_n 3, 1) := by decide +kernel
theorem dX2_leading_57 : decode cX2_leading 57 = .ok (.ireturn, 1) := by decide +kernel
theorem dX2_slip_0 : decode cX2_slip 0 = .ok (.bipush (-2), 2) := by decide +kernel
theorem dX2_slip_2 : decode cX2_slip 2 = .ok (.istore_n 3, 1) := by decide +kernel
theorem dX2_slip_3 : decode cX2_slip 3 = .ok (.iconst 0, 1) := by decide +kernel
theorem dX2_slip_4 : decode cX2_slip 4 = .ok (.istore 4, 2) := by decide +kernel
theorem dX2_slip_6 : decode cX2_slip 6 = .ok (.iload 4, 2) := by decide +kernel
theorem dX2_slip_8 : decode cX2_slip 8 = .ok (.aload_n 0, 1) := by decide +kernel
theorem dX2_slip_9 : decode cX2_slip 9 = .ok (.getfield 27, 3) := by decide +kernel
theorem dX2_slip_12 : decode cX2_slip 12 = .ok (.if_icmp .ge 38, 3) := by decide +kernel
theorem dX2_slip_15 : decode cX2_slip 15 = .ok (.iload 4, 2) := by decide +kernel
theorem dX2_slip_17 : decode cX2_slip 17 = .ok (.aload_n 0, 1) := by decide +kernel
theorem dX2_slip_18 : decode cX2_slip 18 = .ok (.getfield 34, 3) := by decide +kernel
theorem dX2_slip_21 : decode cX2_slip 21 = .ok (.if_icmp .eq 23, 3) := by decide +kernel
theorem dX2_slip_24 : decode cX2_slip 24 = .ok (.iload_n 3, 1) := by decide +kernel
theorem dX2_slip_25 : decode cX2_slip 25 = .ok (.aload_n 0, 1) := by decide +kernel
theorem dX2_slip_26 : decode cX2_slip 26 = .ok (.iload_n 1, 1) := by decide +kernel
theorem dX2_slip_27 : decode cX2_slip 27 = .ok (.iload 4, 2) := by decide +kernel
theorem dX2_slip_29 : decode cX2_slip 29 = .ok (.invokevirtual 71, 3) := by decide +kernel
theorem dX2_slip_32 : decode cX2_slip 32 = .ok (.aload_n 0, 1) := by decide +kernel
theorem dX2_slip_33 : decode cX2_slip 33 = .ok (.iload_n 2, 1) := by decide +kernel
theorem dX2_slip_34 : decode cX2_slip 34 = .ok (.iload 4, 2) := by decide +kernel
theorem dX2_slip_36 : decode cX2_slip 36 = .ok (.invokevirtual 71, 3) := by decide +kernel
theorem dX2_slip_39 : decode cX2_slip 39 = .ok (.isub, 1) := by decide +kernel
theorem dX2_slip_40 : decode cX2_slip 40 = .ok (.invokestatic 74, 3) := by decide +kernel
theorem dX2_slip_43 : decode cX2_slip 43 = .ok (.istore_n 3, 1) := by decide +kernel
theorem dX2_slip_44 : decode cX2_slip 44 = .ok (.iinc 4 1, 3) := by decide +kernel
theorem dX2_slip_47 : decode cX2_slip 47 = .ok (.goto (-41), 3) := by decide +kernel
theorem dX2_slip_50 : decode cX2_slip 50 = .ok (.iload_n 3, 1) := by decide +kernel
theorem dX2_slip_51 : decode cX2_slip 51 = .ok (.ireturn, 1) := by decide +kernel
theorem dX2_lead_0 : decode cX2_lead 0 = .ok (.iload_n 1, 1) := by decide +kernel
theorem dX2_lead_1 : decode cX2_lead 1 = .ok (.aload_n 0, 1) := by decide +kernel
theorem dX2_lead_2 : decode cX2_lead 2 = .ok (.getfield 34, 3) := by decide +kernel
theorem dX2_lead_5 : decode cX2_lead 5 = .ok (.if_icmp .ne 5, 3) := by decide +kernel
theorem dX2_lead_8 : decode cX2_lead 8 = .ok (.iconst 1, 1) := by decide +kernel
theorem dX2_lead_9 : decode cX2_lead 9 = .ok (.ireturn, 1) := by decide +kernel
theorem dX2_lead_10 : decode cX2_lead 10 = .ok (.iload_n 1, 1) := by decide +kernel
theorem dX2_lead_11 : decode cX2_lead 11 = .ok (.iload_n 2, 1) := by decide +kernel
theorem dX2_lead_12 : decode cX2_lead 12 = .ok (.if_icmp .ne 7, 3) := by decide +kernel
theorem dX2_lead_15 : decode cX2_lead 15 = .ok (.iconst (-1), 1) := by decide +kernel
theorem dX2_lead_16 : decode cX2_lead 16 = .ok (.goto 4, 3) := by decide +kernel
theorem dX2_lead_19 : decode cX2_lead 19 = .ok (.iconst 0, 1) := by decide +kernel
theorem dX2_lead_20 : decode cX2_lead 20 = .ok (.ireturn, 1) := by decide +kernel
theorem dX2_mistaken_0 : decode cX2_mistaken 0 = .ok (.iconst 0, 1) := by decide +kernel
theorem dX2_mistaken_1 : decode cX2_mistaken 1 = .ok (.istore_n 2, 1) := by decide +kernel
theorem dX2_mistaken_2 : decode cX2_mistaken 2 = .ok (.iconst 0, 1) := by decide +kernel
theorem dX2_mistaken_3 : decode cX2_mistaken 3 = .ok (.istore_n 3, 1) := by decide +kernel
theorem dX2_mistaken_4 : decode cX2_mistaken 4 = .ok (.iload_n 3, 1) := by decide +kernel
theorem dX2_mistaken_5 : decode cX2_mistaken 5 = .ok (.iload_n 1, 1) := by decide +kernel
theorem dX2_mistaken_6 : decode cX2_mistaken 6 = .ok (.if_icmp .ge 28, 3) := by decide +kernel
theorem dX2_mistaken_9 : decode cX2_mistaken 9 = .ok (.iload_n 3, 1) := by decide +kernel
theorem dX2_mistaken_10 : decode cX2_mistaken 10 = .ok (.sipush 200, 3) := by decide +kernel
theorem dX2_mistaken_13 : decode cX2_mistaken 13 = .ok (.if_icmp .ge 21, 3) := by decide +kernel
theorem dX2_mistaken_16 : decode cX2_mistaken 16 = .ok (.aload_n 0, 1) := by decide +kernel
theorem dX2_mistaken_17 : decode cX2_mistaken 17 = .ok (.getfield 18, 3) := by decide +kernel
theorem dX2_mistaken_20 : decode cX2_mistaken 20 = .ok (.iload_n 3, 1) := by decide +kernel
theorem dX2_mistaken_21 : decode cX2_mistaken 21 = .ok (.iaload, 1) := by decide +kernel
theorem dX2_mistaken_22 : decode cX2_mistaken 22 = .ok (.ifCond .le 6, 3) := by decide +kernel
theorem dX2_mistaken_25 : decode cX2_mistaken 25 = .ok (.iinc 2 1, 3) := by decide +kernel
theorem dX2_mistaken_28 : decode cX2_mistaken 28 = .ok (.iinc 3 1, 3) := by decide +kernel
theorem dX2_mistaken_31 : decode cX2_mistaken 31 = .ok (.goto (-27), 3) := by decide +kernel
theorem dX2_mistaken_34 : decode cX2_mistaken 34 = .ok (.iload_n 2, 1) := by decide +kernel
theorem dX2_mistaken_35 : decode cX2_mistaken 35 = .ok (.ireturn, 1) := by decide +kernel
theorem dX2_flipsFor_0 : decode cX2_flipsFor 0 = .ok (.aload_n 0, 1) := by decide +kernel
theorem dX2_flipsFor_1 : decode cX2_flipsFor 1 = .ok (.getfield 24, 3) := by decide +kernel
theorem dX2_flipsFor_4 : decode cX2_flipsFor 4 = .ok (.aload_n 0, 1) := by decide +kernel
theorem dX2_flipsFor_5 : decode cX2_flipsFor 5 = .ok (.getfield 37, 3) := by decide +kernel
theorem dX2_flipsFor_8 : decode cX2_flipsFor 8 = .ok (.iaload, 1) := by decide +kernel
theorem dX2_flipsFor_9 : decode cX2_flipsFor 9 = .ok (.aload_n 0, 1) := by decide +kernel
theorem dX2_flipsFor_10 : decode cX2_flipsFor 10 = .ok (.getfield 24, 3) := by decide +kernel
theorem dX2_flipsFor_13 : decode cX2_flipsFor 13 = .ok (.iload_n 1, 1) := by decide +kernel
theorem dX2_flipsFor_14 : decode cX2_flipsFor 14 = .ok (.iaload, 1) := by decide +kernel
theorem dX2_flipsFor_15 : decode cX2_flipsFor 15 = .ok (.isub, 1) := by decide +kernel
theorem dX2_flipsFor_16 : decode cX2_flipsFor 16 = .ok (.istore_n 2, 1) := by decide +kernel
theorem dX2_flipsFor_17 : decode cX2_flipsFor 17 = .ok (.iload_n 1, 1) := by decide +kernel
theorem dX2_flipsFor_18 : decode cX2_flipsFor 18 = .ok (.aload_n 0, 1) := by decide +kernel
theorem dX2_flipsFor_19 : decode cX2_flipsFor 19 = .ok (.getfield 37, 3) := by decide +kernel
theorem dX2_flipsFor_22 : decode cX2_flipsFor 22 = .ok (.if_icmp .ge 11, 3) := by decide +kernel
theorem dX2_flipsFor_25 : decode cX2_flipsFor 25 = .ok (.iload_n 2, 1) := by decide +kernel
theorem dX2_flipsFor_26 : decode cX2_flipsFor 26 = .ok (.iconst 1, 1) := by decide +kernel
theorem dX2_flipsFor_27 : decode cX2_flipsFor 27 = .ok (.iadd, 1) := by decide +kernel
theorem dX2_flipsFor_28 : decode cX2_flipsFor 28 = .ok (.iconst 2, 1) := by decide +kernel
theorem dX2_flipsFor_29 : decode cX2_flipsFor 29 = .ok (.idiv, 1) := by decide +kernel
theorem dX2_flipsFor_30 : decode cX2_flipsFor 30 = .ok (.goto 8, 3) := by decide +kernel
theorem dX2_flipsFor_33 : decode cX2_flipsFor 33 = .ok (.iload_n 2, 1) := by decide +kernel
theorem dX2_flipsFor_34 : decode cX2_flipsFor 34 = .ok (.iconst 2, 1) := by decide +kernel
theorem dX2_flipsFor_35 : decode cX2_flipsFor 35 = .ok (.idiv, 1) := by decide +kernel
theorem dX2_flipsFor_36 : decode cX2_flipsFor 36 = .ok (.iconst 1, 1) := by decide +kernel
theorem dX2_flipsFor_37 : decode cX2_flipsFor 37 = .ok (.iadd, 1) := by decide +kernel
theorem dX2_flipsFor_38 : decode cX2_flipsFor 38 = .ok (.ireturn, 1) := by decide +kernel
theorem dX2_comparedTimes_0 : decode cX2_comparedTimes 0 = .ok (.iload_n 2, 1) := by decide +kernel
theorem dX2_comparedTimes_1 : decode cX2_comparedTimes 1 = .ok (.i2l, 1) := by decide +kernel
theorem dX2_comparedTimes_2 : decode cX2_comparedTimes 2 = .ok (.iload_n 1, 1) := by decide +kernel
theorem dX2_comparedTimes_3 : decode cX2_comparedTimes 3 = .ok (.i2l, 1) := by decide +kernel
theorem dX2_comparedTimes_4 : decode cX2_comparedTimes 4 = .ok (.lmul, 1) := by decide +kernel
theorem dX2_comparedTimes_5 : decode cX2_comparedTimes 5 = .ok (.ldc2_w 79, 3) := by decide +kernel
theorem dX2_comparedTimes_8 : decode cX2_comparedTimes 8 = .ok (.aload_n 0, 1) := by decide +kernel
theorem dX2_comparedTimes_9 : decode cX2_comparedTimes 9 = .ok (.getfield 40, 3) := by decide +kernel
theorem dX2_comparedTimes_12 : decode cX2_comparedTimes 12 = .ok (.i2l, 1) := by decide +kernel
theorem dX2_comparedTimes_13 : decode cX2_comparedTimes 13 = .ok (.lmul, 1) := by decide +kernel
theorem dX2_comparedTimes_14 : decode cX2_comparedTimes 14 = .ok (.lsub, 1) := by decide +kernel
theorem dX2_comparedTimes_15 : decode cX2_comparedTimes 15 = .ok (.lreturn, 1) := by decide +kernel
theorem dX2_comparedBy_0 : decode cX2_comparedBy 0 = .ok (.iload_n 0, 1) := by decide +kernel
theorem dX2_comparedBy_1 : decode cX2_comparedBy 1 = .ok (.i2l, 1) := by decide +kernel
theorem dX2_comparedBy_2 : decode cX2_comparedBy 2 = .ok (.iload_n 1, 1) := by decide +kernel
theorem dX2_comparedBy_3 : decode cX2_comparedBy 3 = .ok (.bipush 50, 2) := by decide +kernel
theorem dX2_comparedBy_5 : decode cX2_comparedBy 5 = .ok (.iload_n 2, 1) := by decide +kernel
theorem dX2_comparedBy_6 : decode cX2_comparedBy 6 = .ok (.imul, 1) := by decide +kernel
theorem dX2_comparedBy_7 : decode cX2_comparedBy 7 = .ok (.isub, 1) := by decide +kernel
theorem dX2_comparedBy_8 : decode cX2_comparedBy 8 = .ok (.i2l, 1) := by decide +kernel
theorem dX2_comparedBy_9 : decode cX2_comparedBy 9 = .ok (.lmul, 1) := by decide +kernel
theorem dX2_comparedBy_10 : decode cX2_comparedBy 10 = .ok (.lreturn, 1) := by decide +kernel
theorem dX2_votesOfBoth_0 : decode cX2_votesOfBoth 0 = .ok (.aload_n 0, 1) := by decide +kernel
theorem dX2_votesOfBoth_1 : decode cX2_votesOfBoth 1 = .ok (.getfield 21, 3) := by decide +kernel
theorem dX2_votesOfBoth_4 : decode cX2_votesOfBoth 4 = .ok (.aload_n 0, 1) := by decide +kernel
theorem dX2_votesOfBoth_5 : decode cX2_votesOfBoth 5 = .ok (.getfield 34, 3) := by decide +kernel
theorem dX2_votesOfBoth_8 : decode cX2_votesOfBoth 8 = .ok (.iaload, 1) := by decide +kernel
theorem dX2_votesOfBoth_9 : decode cX2_votesOfBoth 9 = .ok (.i2l, 1) := by decide +kernel
theorem dX2_votesOfBoth_10 : decode cX2_votesOfBoth 10 = .ok (.aload_n 0, 1) := by decide +kernel
theorem dX2_votesOfBoth_11 : decode cX2_votesOfBoth 11 = .ok (.getfield 21, 3) := by decide +kernel
theorem dX2_votesOfBoth_14 : decode cX2_votesOfBoth 14 = .ok (.iload_n 1, 1) := by decide +kernel
theorem dX2_votesOfBoth_15 : decode cX2_votesOfBoth 15 = .ok (.iaload, 1) := by decide +kernel
theorem dX2_votesOfBoth_16 : decode cX2_votesOfBoth 16 = .ok (.i2l, 1) := by decide +kernel
theorem dX2_votesOfBoth_17 : decode cX2_votesOfBoth 17 = .ok (.ladd, 1) := by decide +kernel
theorem dX2_votesOfBoth_18 : decode cX2_votesOfBoth 18 = .ok (.lreturn, 1) := by decide +kernel
theorem dX2_polled_0 : decode cX2_polled 0 = .ok (.iload 4, 2) := by decide +kernel
theorem dX2_polled_2 : decode cX2_polled 2 = .ok (.aload_n 0, 1) := by decide +kernel
theorem dX2_polled_3 : decode cX2_polled 3 = .ok (.getfield 34, 3) := by decide +kernel
theorem dX2_polled_6 : decode cX2_polled 6 = .ok (.if_icmp .eq 9, 3) := by decide +kernel
theorem dX2_polled_9 : decode cX2_polled 9 = .ok (.iload 4, 2) := by decide +kernel
theorem dX2_polled_11 : decode cX2_polled 11 = .ok (.iload_n 3, 1) := by decide +kernel
theorem dX2_polled_12 : decode cX2_polled 12 = .ok (.if_icmp .ne 25, 3) := by decide +kernel
theorem dX2_polled_15 : decode cX2_polled 15 = .ok (.lload_n 1, 1) := by decide +kernel
theorem dX2_polled_16 : decode cX2_polled 16 = .ok (.aload_n 0, 1) := by decide +kernel
theorem dX2_polled_17 : decode cX2_polled 17 = .ok (.iload_n 3, 1) := by decide +kernel
theorem dX2_polled_18 : decode cX2_polled 18 = .ok (.invokevirtual 81, 3) := by decide +kernel
theorem dX2_polled_21 : decode cX2_polled 21 = .ok (.ldc2_w 85, 3) := by decide +kernel
theorem dX2_polled_24 : decode cX2_polled 24 = .ok (.aload_n 0, 1) := by decide +kernel
theorem dX2_polled_25 : decode cX2_polled 25 = .ok (.getfield 21, 3) := by decide +kernel
theorem dX2_polled_28 : decode cX2_polled 28 = .ok (.iload 4, 2) := by decide +kernel
theorem dX2_polled_30 : decode cX2_polled 30 = .ok (.iaload, 1) := by decide +kernel
theorem dX2_polled_31 : decode cX2_polled 31 = .ok (.i2l, 1) := by decide +kernel
theorem dX2_polled_32 : decode cX2_polled 32 = .ok (.lmul, 1) := by decide +kernel
theorem dX2_polled_33 : decode cX2_polled 33 = .ok (.invokestatic 87, 3) := by decide +kernel
theorem dX2_polled_36 : decode cX2_polled 36 = .ok (.lreturn, 1) := by decide +kernel
theorem dX2_polled_37 : decode cX2_polled 37 = .ok (.lload_n 1, 1) := by decide +kernel
theorem dX2_polled_38 : decode cX2_polled 38 = .ok (.lreturn, 1) := by decide +kernel
theorem dX3_init_0 : decode cX3_init 0 = .ok (.aload_n 0, 1) := by decide +kernel
theorem dX3_init_1 : decode cX3_init 1 = .ok (.invokespecial 3, 3) := by decide +kernel
theorem dX3_init_4 : decode cX3_init 4 = .ok (.aload_n 0, 1) := by decide +kernel
theorem dX3_init_5 : decode cX3_init 5 = .ok (.iconst 3, 1) := by decide +kernel
theorem dX3_init_6 : decode cX3_init 6 = .ok (.anewarray 9, 3) := by decide +kernel
theorem dX3_init_9 : decode cX3_init 9 = .ok (.putfield 11, 3) := by decide +kernel
theorem dX3_init_12 : decode cX3_init 12 = .ok (.aload_n 0, 1) := by decide +kernel
theorem dX3_init_13 : decode cX3_init 13 = .ok (.iconst 3, 1) := by decide +kernel
theorem dX3_init_14 : decode cX3_init 14 = .ok (.newarray .int, 2) := by decide +kernel
theorem dX3_init_16 : decode cX3_init 16 = .ok (.putfield 17, 3) := by decide +kernel
theorem dX3_init_19 : decode cX3_init 19 = .ok (.aload_n 0, 1) := by decide +kernel
theorem dX3_init_20 : decode cX3_init 20 = .ok (.iconst 0, 1) := by decide +kernel
theorem dX3_init_21 : decode cX3_init 21 = .ok (.putfield 21, 3) := by decide +kernel
theorem dX3_init_24 : decode cX3_init 24 = .ok (.aload_n 0, 1) := by decide +kernel
theorem dX3_init_25 : decode cX3_init 25 = .ok (.iconst 0, 1) := by decide +kernel
theorem dX3_init_26 : decode cX3_init 26 = .ok (.putfield 25, 3) := by decide +kernel
theorem dX3_init_29 : decode cX3_init 29 = .ok (.aload_n 0, 1) := by decide +kernel
theorem dX3_init_30 : decode cX3_init 30 = .ok (.iconst 0, 1) := by decide +kernel
theorem dX3_init_31 : decode cX3_init 31 = .ok (.putfield 28, 3) := by decide +kernel
theorem dX3_init_34 : decode cX3_init 34 = .ok (.aload_n 0, 1) := by decide +kernel
theorem dX3_init_35 : decode cX3_init 35 = .ok (.iconst 0, 1) := by decide +kernel
theorem dX3_init_36 : decode cX3_init 36 = .ok (.putfield 31, 3) := by decide +kernel
theorem dX3_init_39 : decode cX3_init 39 = .ok (.iconst 0, 1) := by decide +kernel
theorem dX3_init_40 : decode cX3_init 40 = .ok (.istore_n 1, 1) := by decide +kernel
theorem dX3_init_41 : decode cX3_init 41 = .ok (.iload_n 1, 1) := by decide +kernel
theorem dX3_init_42 : decode cX3_init 42 = .ok (.iconst 3, 1) := by decide +kernel
theorem dX3_init_43 : decode cX3_init 43 = .ok (.if_icmp .ge 22, 3) := by decide +kernel
theorem dX3_init_46 : decode cX3_init 46 = .ok (.aload_n 0, 1) := by decide +kernel
theorem dX3_init_47 : decode cX3_init 47 = .ok (.getfield 11, 3) := by decide +kernel
theorem dX3_init_50 : decode cX3_init 50 = .ok (.iload_n 1, 1) := by decide +kernel
theorem dX3_init_51 : decode cX3_init 51 = .ok (.new 9, 3) := by decide +kernel
theorem dX3_init_54 : decode cX3_init 54 = .ok (.dup, 1) := by decide +kernel
theorem dX3_init_55 : decode cX3_init 55 = .ok (.invokespecial 34, 3) := by decide +kernel
theorem dX3_init_58 : decode cX3_init 58 = .ok (.aastore, 1) := by decide +kernel
theorem dX3_init_59 : decode cX3_init 59 = .ok (.iinc 1 1, 3) := by decide +kernel
theorem dX3_init_62 : decode cX3_init 62 = .ok (.goto (-21), 3) := by decide +kernel
theorem dX3_init_65 : decode cX3_init 65 = .ok (.aload_n 0, 1) := by decide +kernel
theorem dX3_init_66 : decode cX3_init 66 = .ok (.invokevirtual 35, 3) := by decide +kernel
theorem dX3_init_69 : decode cX3_init 69 = .ok (.return_, 1) := by decide +kernel
theorem dX3_empty_0 : decode cX3_empty 0 = .ok (.aload_n 0, 1) := by decide +kernel
theorem dX3_empty_1 : decode cX3_empty 1 = .ok (.iconst 0, 1) := by decide +kernel
theorem dX3_empty_2 : decode cX3_empty 2 = .ok (.putfield 21, 3) := by decide +kernel
theorem dX3_empty_5 : decode cX3_empty 5 = .ok (.aload_n 0, 1) := by decide +kernel
theorem dX3_empty_6 : decode cX3_empty 6 = .ok (.iconst 0, 1) := by decide +kernel
theorem dX3_empty_7 : decode cX3_empty 7 = .ok (.putfield 25, 3) := by decide +kernel
theorem dX3_empty_10 : decode cX3_empty 10 = .ok (.aload_n 0, 1) := by decide +kernel
theorem dX3_empty_11 : decode cX3_empty 11 = .ok (.iconst 0, 1) := by decide +kernel
theorem dX3_empty_12 : decode cX3_empty 12 = .ok (.putfield 28, 3) := by decide +kernel
theorem dX3_empty_15 : decode cX3_empty 15 = .ok (.aload_n 0, 1) := by decide +kernel
theorem dX3_empty_16 : decode cX3_empty 16 = .ok (.iconst 0, 1) := by decide +kernel
theorem dX3_empty_17 : decode cX3_empty 17 = .ok (.putfield 31, 3) := by decide +kernel
theorem dX3_empty_20 : decode cX3_empty 20 = .ok (.aload_n 0, 1) := by decide +kernel
theorem dX3_empty_21 : decode cX3_empty 21 = .ok (.getfield 17, 3) := by decide +kernel
theorem dX3_empty_24 : decode cX3_empty 24 = .ok (.iconst 0, 1) := by decide +kernel
theorem dX3_empty_25 : decode cX3_empty 25 = .ok (.bipush 50, 2) := by decide +kernel
theorem dX3_empty_27 : decode cX3_empty 27 = .ok (.iastore, 1) := by decide +kernel
theorem dX3_empty_28 : decode cX3_empty 28 = .ok (.aload_n 0, 1) := by decide +kernel
theorem dX3_empty_29 : decode cX3_empty 29 = .ok (.getfield 17, 3) := by decide +kernel
theorem dX3_empty_32 : decode cX3_empty 32 = .ok (.iconst 1, 1) := by decide +kernel
theorem dX3_empty_33 : decode cX3_empty 33 = .ok (.bipush 110, 2) := by decide +kernel
theorem dX3_empty_35 : decode cX3_empty 35 = .ok (.iastore, 1) := by decide +kernel
theorem dX3_empty_36 : decode cX3_empty 36 = .ok (.aload_n 0, 1) := by decide +kernel
theorem dX3_empty_37 : decode cX3_empty 37 = .ok (.getfield 17, 3) := by decide +kernel
theorem dX3_empty_40 : decode cX3_empty 40 = .ok (.iconst 2, 1) := by decide +kernel
theorem dX3_empty_41 : decode cX3_empty 41 = .ok (.bipush 100, 2) := by decide +kernel
theorem dX3_empty_43 : decode cX3_empty 43 = .ok (.iastore, 1) := by decide +kernel
theorem dX3_empty_44 : decode cX3_empty 44 = .ok (.return_, 1) := by decide +kernel
theorem dX3_copy_0 : decode cX3_copy 0 = .ok (.aload_n 0, 1) := by decide +kernel
theorem dX3_copy_1 : decode cX3_copy 1 = .ok (.aload_n 1, 1) := by decide +kernel
theorem dX3_copy_2 : decode cX3_copy 2 = .ok (.getfield 21, 3) := by decide +kernel
theorem dX3_copy_5 : decode cX3_copy 5 = .ok (.putfield 21, 3) := by decide +kernel
theorem dX3_copy_8 : decode cX3_copy 8 = .ok (.aload_n 0, 1) := by decide +kernel
theorem dX3_copy_9 : decode cX3_copy 9 = .ok (.aload_n 1, 1) := by decide +kernel
theorem dX3_copy_10 : decode cX3_copy 10 = .ok (.getfield 25, 3) := by decide +kernel
theorem dX3_copy_13 : decode cX3_copy 13 = .ok (.putfield 25, 3) := by decide +kernel
theorem dX3_copy_16 : decode cX3_copy 16 = .ok (.aload_n 0, 1) := by decide +kernel
theorem dX3_copy_17 : decode cX3_copy 17 = .ok (.aload_n 1, 1) := by decide +kernel
theorem dX3_copy_18 : decode cX3_copy 18 = .ok (.getfield 28, 3) := by decide +kernel
theorem dX3_copy_21 : decode cX3_copy 21 = .ok (.putfield 28, 3) := by decide +kernel
theorem dX3_copy_24 : decode cX3_copy 24 = .ok (.aload_n 0, 1) := by decide +kernel
theorem dX3_copy_25 : decode cX3_copy 25 = .ok (.aload_n 1, 1) := by decide +kernel
theorem dX3_copy_26 : decode cX3_copy 26 = .ok (.getfield 31, 3) := by decide +kernel
theorem dX3_copy_29 : decode cX3_copy 29 = .ok (.putfield 31, 3) := by decide +kernel
theorem dX3_copy_32 : decode cX3_copy 32 = .ok (.aload_n 1, 1) := by decide +kernel
theorem dX3_copy_33 : decode cX3_copy 33 = .ok (.getfield 17, 3) := by decide +kernel
theorem dX3_copy_36 : decode cX3_copy 36 = .ok (.iconst 0, 1) := by decide +kernel
theorem dX3_copy_37 : decode cX3_copy 37 = .ok (.aload_n 0, 1) := by decide +kernel
theorem dX3_copy_38 : decode cX3_copy 38 = .ok (.getfield 17, 3) := by decide +kernel
theorem dX3_copy_41 : decode cX3_copy 41 = .ok (.iconst 0, 1) := by decide +kernel
theorem dX3_copy_42 : decode cX3_copy 42 = .ok (.aload_n 0, 1) := by decide +kernel
theorem dX3_copy_43 : decode cX3_copy 43 = .ok (.getfield 17, 3) := by decide +kernel
theorem dX3_copy_46 : decode cX3_copy 46 = .ok (.arraylength, 1) := by decide +kernel
theorem dX3_copy_47 : decode cX3_copy 47 = .ok (.invokestatic 38, 3) := by decide +kernel
theorem dX3_copy_50 : decode cX3_copy 50 = .ok (.iconst 0, 1) := by decide +kernel
theorem dX3_copy_51 : decode cX3_copy 51 = .ok (.istore_n 2, 1) := by decide +kernel
theorem dX3_copy_52 : decode cX3_copy 52 = .ok (.iload_n 2, 1) := by decide +kernel
theorem dX3_copy_53 : decode cX3_copy 53 = .ok (.aload_n 0, 1) := by decide +kernel
theorem dX3_copy_54 : decode cX3_copy 54 = .ok (.getfield 21, 3) := by decide +kernel
theorem dX3_copy_57 : decode cX3_copy 57 = .ok (.if_icmp .ge 33, 3) := by decide +kernel
theorem dX3_copy_60 : decode cX3_copy 60 = .ok (.iload_n 2, 1) := by decide +kernel
theorem dX3_copy_61 : decode cX3_copy 61 = .ok (.iconst 3, 1) := by decide +kernel
theorem dX3_copy_62 : decode cX3_copy 62 = .ok (.if_icmp .ge 28, 3) := by decide +kernel
theorem dX3_copy_65 : decode cX3_copy 65 = .ok (.aload_n 0, 1) := by decide +kernel
theorem dX3_copy_66 : decode cX3_copy 66 = .ok (.getfield 11, 3) := by decide +kernel
theorem dX3_copy_69 : decode cX3_copy 69 = .ok (.iload_n 2, 1) := by decide +kernel
theorem dX3_copy_70 : decode cX3_copy 70 = .ok (.aaload, 1) := by decide +kernel
theorem dX3_copy_71 : decode cX3_copy 71 = .ok (.aload_n 1, 1) := by decide +kernel
theorem dX3_copy_72 : decode cX3_copy 72 = .ok (.getfield 11, 3) := by decide +kernel
theorem dX3_copy_75 : decode cX3_copy 75 = .ok (.iload_n 2, 1) := by decide +kernel
theorem dX3_copy_76 : decode cX3_copy 76 = .ok (.aaload, 1) := by decide +kernel
theorem dX3_copy_77 : decode cX3_copy 77 = .ok (.aload_n 0, 1) := by decide +kernel
theorem dX3_copy_78 : decode cX3_copy 78 = .ok (.getfield 25, 3) := by decide +kernel
theorem dX3_copy_81 : decode cX3_copy 81 = .ok (.invokevirtual 44, 3) := by decide +kernel
theorem dX3_copy_84 : decode cX3_copy 84 = .ok (.iinc 2 1, 3) := by decide +kernel
theorem dX3_copy_87 : decode cX3_copy 87 = .ok (.goto (-35), 3) := by decide +kernel
theorem dX3_copy_90 : decode cX3_copy 90 = .ok (.return_, 1) := by decide +kernel
theorem dX3_reckonAll_0 : decode cX3_reckonAll 0 = .ok (.iconst 0, 1) := by decide +kernel
theorem dX3_reckonAll_1 : decode cX3_reckonAll 1 = .ok (.istore_n 1, 1) := by decide +kernel
theorem dX3_reckonAll_2 : decode cX3_reckonAll 2 = .ok (.iload_n 1, 1) := by decide +kernel
theorem dX3_reckonAll_3 : decode cX3_reckonAll 3 = .ok (.aload_n 0, 1) := by decide +kernel
theorem dX3_reckonAll_4 : decode cX3_reckonAll 4 = .ok (.getfield 21, 3) := by decide +kernel
theorem dX3_reckonAll_7 : decode cX3_reckonAll 7 = .ok (.if_icmp .ge 27, 3) := by decide +kernel
theorem dX3_reckonAll_10 : decode cX3_reckonAll 10 = .ok (.iload_n 1, 1) := by decide +kernel
theorem dX3_reckonAll_11 : decode cX3_reckonAll 11 = .ok (.iconst 3, 1) := by decide +kernel
theorem dX3_reckonAll_12 : decode cX3_reckonAll 12 = .ok (.if_icmp .ge 22, 3) := by decide +kernel
theorem dX3_reckonAll_15 : decode cX3_reckonAll 15 = .ok (.aload_n 0, 1) := by decide +kernel
theorem dX3_reckonAll_16 : decode cX3_reckonAll 16 = .ok (.getfield 11, 3) := by decide +kernel
theorem dX3_reckonAll_19 : decode cX3_reckonAll 19 = .ok (.iload_n 1, 1) := by decide +kernel
theorem dX3_reckonAll_20 : decode cX3_reckonAll 20 = .ok (.aaload, 1) := by decide +kernel
theorem dX3_reckonAll_21 : decode cX3_reckonAll 21 = .ok (.aload_n 0, 1) := by decide +kernel
theorem dX3_reckonAll_22 : decode cX3_reckonAll 22 = .ok (.getfield 25, 3) := by decide +kernel
theorem dX3_reckonAll_25 : decode cX3_reckonAll 25 = .ok (.invokevirtual 48, 3) := by decide +kernel
theorem dX3_reckonAll_28 : decode cX3_reckonAll 28 = .ok (.iinc 1 1, 3) := by decide +kernel
theorem dX3_reckonAll_31 : decode cX3_reckonAll 31 = .ok (.goto (-29), 3) := by decide +kernel
theorem dX3_reckonAll_34 : decode cX3_reckonAll 34 = .ok (.return_, 1) := by decide +kernel
theorem dX3_goal_0 : decode cX3_goal 0 = .ok (.aload_n 0, 1) := by decide +kernel
theorem dX3_goal_1 : decode cX3_goal 1 = .ok (.getfield 17, 3) := by decide +kernel
theorem dX3_goal_4 : decode cX3_goal 4 = .ok (.iconst 0, 1) := by decide +kernel
theorem dX3_goal_5 : decode cX3_goal 5 = .ok (.iaload, 1) := by decide +kernel
theorem dX3_goal_6 : decode cX3_goal 6 = .ok (.i2l, 1) := by decide +kernel
theorem dX3_goal_7 : decode cX3_goal 7 = .ok (.ldc2_w 52, 3) := by decide +kernel
theorem dX3_goal_10 : decode cX3_goal 10 = .ok (.lmul, 1) := by decide +kernel
theorem dX3_goal_11 : decode cX3_goal 11 = .ok (.lreturn, 1) := by decide +kernel
theorem dX3_show_0 : decode cX3_show 0 = .ok (.iload_n 1, 1) := by decide +kernel
theorem dX3_show_1 : decode cX3_show 1 = .ok (.ifCond .lt 48, 3) := by decide +kernel
theorem dX3_show_4 : decode cX3_show 4 = .ok (.iload_n 1, 1) := by decide +kernel
theorem dX3_show_5 : decode cX3_show 5 = .ok (.aload_n 0, 1) := by decide +kernel
theorem dX3_show_6 : decode cX3_show 6 = .ok (.getfield 21, 3) := by decide +kernel
theorem dX3_show_9 : decode cX3_show 9 = .ok (.if_icmp .ge 40, 3) := by decide +kernel
theorem dX3_show_12 : decode cX3_show 12 = .ok (.iload_n 2, 1) := by decide +kernel
theorem dX3_show_13 : decode cX3_show 13 = .ok (.ifCond .lt 36, 3) := by decide +kernel
theorem dX3_show_16 : decode cX3_show 16 = .ok (.iload_n 2, 1) := by decide +kernel
theorem dX3_show_17 : decode cX3_show 17 = .ok (.aload_n 0, 1) := by decide +kernel
theorem dX3_show_18 : decode cX3_show 18 = .ok (.getfield 25, 3) := by decide +kernel
theorem dX3_show_21 : decode cX3_show 21 = .ok (.if_icmp .ge 28, 3) := by decide +kernel
theorem dX3_show_24 : decode cX3_show 24 = .ok (.aload_n 0, 1) := by decide +kernel
theorem dX3_show_25 : decode cX3_show 25 = .ok (.getfield 11, 3) := by decide +kernel
theorem dX3_show_28 : decode cX3_show 28 = .ok (.iload_n 1, 1) := by decide +kernel
theorem dX3_show_29 : decode cX3_show 29 = .ok (.aaload, 1) := by decide +kernel
theorem dX3_show_30 : decode cX3_show 30 = .ok (.getfield 54, 3) := by decide +kernel
theorem dX3_show_33 : decode cX3_show 33 = .ok (.iload_n 2, 1) := by decide +kernel
theorem dX3_show_34 : decode cX3_show 34 = .ok (.iload_n 3, 1) := by decide +kernel
theorem dX3_show_35 : decode cX3_show 35 = .ok (.iastore, 1) := by decide +kernel
theorem dX3_show_36 : decode cX3_show 36 = .ok (.aload_n 0, 1) := by decide +kernel
theorem dX3_show_37 : decode cX3_show 37 = .ok (.getfield 11, 3) := by decide +kernel
theorem dX3_show_40 : decode cX3_show 40 = .ok (.iload_n 1, 1) := by decide +kernel
theorem dX3_show_41 : decode cX3_show 41 = .ok (.aaload, 1) := by decide +kernel
theorem dX3_show_42 : decode cX3_show 42 = .ok (.aload_n 0, 1) := by decide +kernel
theorem dX3_show_43 : decode cX3_show 43 = .ok (.getfield 25, 3) := by decide +kernel
theorem dX3_show_46 : decode cX3_show 46 = .ok (.invokevirtual 48, 3) := by decide +kernel
theorem dX3_show_49 : decode cX3_show 49 = .ok (.return_, 1) := by decide +kernel
theorem dX3_setMethod_0 : decode cX3_setMethod 0 = .ok (.iload_n 1, 1) := by decide +kernel
theorem dX3_setMethod_1 : decode cX3_setMethod 1 = .ok (.ifCond .lt 21, 3) := by decide +kernel
theorem dX3_setMethod_4 : decode cX3_setMethod 4 = .ok (.iload_n 1, 1) := by decide +kernel
theorem dX3_setMethod_5 : decode cX3_setMethod 5 = .ok (.aload_n 0, 1) := by decide +kernel
theorem dX3_setMethod_6 : decode cX3_setMethod 6 = .ok (.getfield 21, 3) := by decide +kernel
theorem dX3_setMethod_9 : decode cX3_setMethod 9 = .ok (.if_icmp .ge 13, 3) := by decide +kernel
theorem dX3_setMethod_12 : decode cX3_setMethod 12 = .ok (.aload_n 0, 1) := by decide +kernel
theorem dX3_setMethod_13 : decode cX3_setMethod 13 = .ok (.getfield 11, 3) := by decide +kernel
theorem dX3_setMethod_16 : decode cX3_setMethod 16 = .ok (.iload_n 1, 1) := by decide +kernel
theorem dX3_setMethod_17 : decode cX3_setMethod 17 = .ok (.aaload, 1) := by decide +kernel
theorem dX3_setMethod_18 : decode cX3_setMethod 18 = .ok (.iload_n 2, 1) := by decide +kernel
theorem dX3_setMethod_19 : decode cX3_setMethod 19 = .ok (.putfield 57, 3) := by decide +kernel
theorem dX3_setMethod_22 : decode cX3_setMethod 22 = .ok (.return_, 1) := by decide +kernel
theorem dX3_setRule_0 : decode cX3_setRule 0 = .ok (.iload_n 1, 1) := by decide +kernel
theorem dX3_setRule_1 : decode cX3_setRule 1 = .ok (.ifCond .lt 19, 3) := by decide +kernel
theorem dX3_setRule_4 : decode cX3_setRule 4 = .ok (.iload_n 1, 1) := by decide +kernel
theorem dX3_setRule_5 : decode cX3_setRule 5 = .ok (.aload_n 0, 1) := by decide +kernel
theorem dX3_setRule_6 : decode cX3_setRule 6 = .ok (.getfield 17, 3) := by decide +kernel
theorem dX3_setRule_9 : decode cX3_setRule 9 = .ok (.arraylength, 1) := by decide +kernel
theorem dX3_setRule_10 : decode cX3_setRule 10 = .ok (.if_icmp .ge 10, 3) := by decide +kernel
theorem dX3_setRule_13 : decode cX3_setRule 13 = .ok (.aload_n 0, 1) := by decide +kernel
theorem dX3_setRule_14 : decode cX3_setRule 14 = .ok (.getfield 17, 3) := by decide +kernel
theorem dX3_setRule_17 : decode cX3_setRule 17 = .ok (.iload_n 1, 1) := by decide +kernel
theorem dX3_setRule_18 : decode cX3_setRule 18 = .ok (.iload_n 2, 1) := by decide +kernel
theorem dX3_setRule_19 : decode cX3_setRule 19 = .ok (.iastore, 1) := by decide +kernel
theorem dX3_setRule_20 : decode cX3_setRule 20 = .ok (.return_, 1) := by decide +kernel
theorem dX4_tell_0 : decode cX4_tell 0 = .ok (.aload_n 1, 1) := by decide +kernel
theorem dX4_tell_1 : decode cX4_tell 1 = .ok (.invokevirtual 9, 3) := by decide +kernel
theorem dX4_tell_4 : decode cX4_tell 4 = .ok (.aload_n 0, 1) := by decide +kernel
theorem dX4_tell_5 : decode cX4_tell 5 = .ok (.aload_n 1, 1) := by decide +kernel
theorem dX4_tell_6 : decode cX4_tell 6 = .ok (.invokestatic 14, 3) := by decide +kernel
theorem dX4_tell_9 : decode cX4_tell 9 = .ok (.iconst 0, 1) := by decide +kernel
theorem dX4_tell_10 : decode cX4_tell 10 = .ok (.istore_n 2, 1) := by decide +kernel
theorem dX4_tell_11 : decode cX4_tell 11 = .ok (.iload_n 2, 1) := by decide +kernel
theorem dX4_tell_12 : decode cX4_tell 12 = .ok (.sipush 600, 3) := by decide +kernel
theorem dX4_tell_15 : decode cX4_tell 15 = .ok (.if_icmp .ge 23, 3) := by decide +kernel
theorem dX4_tell_18 : decode cX4_tell 18 = .ok (.aload_n 0, 1) := by decide +kernel
theorem dX4_tell_19 : decode cX4_tell 19 = .ok (.ldc 20, 2) := by decide +kernel
theorem dX4_tell_21 : decode cX4_tell 21 = .ok (.invokevirtual 22, 3) := by decide +kernel
theorem dX4_tell_24 : decode cX4_tell 24 = .ok (.ifCond .eq 14, 3) := by decide +kernel
theorem dX4_tell_27 : decode cX4_tell 27 = .ok (.aload_n 0, 1) := by decide +kernel
theorem dX4_tell_28 : decode cX4_tell 28 = .ok (.aload_n 1, 1) := by decide +kernel
theorem dX4_tell_29 : decode cX4_tell 29 = .ok (.invokestatic 14, 3) := by decide +kernel
theorem dX4_tell_32 : decode cX4_tell 32 = .ok (.iinc 2 1, 3) := by decide +kernel
theorem dX4_tell_35 : decode cX4_tell 35 = .ok (.goto (-24), 3) := by decide +kernel
theorem dX4_tell_38 : decode cX4_tell 38 = .ok (.iconst 0, 1) := by decide +kernel
theorem dX4_tell_39 : decode cX4_tell 39 = .ok (.istore_n 2, 1) := by decide +kernel
theorem dX4_tell_40 : decode cX4_tell 40 = .ok (.iload_n 2, 1) := by decide +kernel
theorem dX4_tell_41 : decode cX4_tell 41 = .ok (.sipush 600, 3) := by decide +kernel
theorem dX4_tell_44 : decode cX4_tell 44 = .ok (.if_icmp .ge 28, 3) := by decide +kernel
theorem dX4_tell_47 : decode cX4_tell 47 = .ok (.aload_n 0, 1) := by decide +kernel
theorem dX4_tell_48 : decode cX4_tell 48 = .ok (.invokevirtual 28, 3) := by decide +kernel
theorem dX4_tell_51 : decode cX4_tell 51 = .ok (.ifCond .eq 21, 3) := by decide +kernel
theorem dX4_tell_54 : decode cX4_tell 54 = .ok (.aload_n 0, 1) := by decide +kernel
theorem dX4_tell_55 : decode cX4_tell 55 = .ok (.invokevirtual 32, 3) := by decide +kernel
theorem dX4_tell_58 : decode cX4_tell 58 = .ok (.ifCond .ne 14, 3) := by decide +kernel
theorem dX4_tell_61 : decode cX4_tell 61 = .ok (.aload_n 0, 1) := by decide +kernel
theorem dX4_tell_62 : decode cX4_tell 62 = .ok (.aload_n 1, 1) := by decide +kernel
theorem dX4_tell_63 : decode cX4_tell 63 = .ok (.invokestatic 35, 3) := by decide +kernel
theorem dX4_tell_66 : decode cX4_tell 66 = .ok (.iinc 2 1, 3) := by decide +kernel
theorem dX4_tell_69 : decode cX4_tell 69 = .ok (.goto (-29), 3) := by decide +kernel
theorem dX4_tell_72 : decode cX4_tell 72 = .ok (.aload_n 0, 1) := by decide +kernel
theorem dX4_tell_73 : decode cX4_tell 73 = .ok (.invokevirtual 28, 3) := by decide +kernel
theorem dX4_tell_76 : decode cX4_tell 76 = .ok (.ifCond .eq 7, 3) := by decide +kernel
theorem dX4_tell_79 : decode cX4_tell 79 = .ok (.aload_n 1, 1) := by decide +kernel
theorem dX4_tell_80 : decode cX4_tell 80 = .ok (.invokevirtual 38, 3) := by decide +kernel
theorem dX4_tell_83 : decode cX4_tell 83 = .ok (.return_, 1) := by decide +kernel
theorem dX4_readRace_0 : decode cX4_readRace 0 = .ok (.aload_n 0, 1) := by decide +kernel
theorem dX4_readRace_1 : decode cX4_readRace 1 = .ok (.ldc 20, 2) := by decide +kernel
theorem dX4_readRace_3 : decode cX4_readRace 3 = .ok (.invokevirtual 22, 3) := by decide +kernel
theorem dX4_readRace_6 : decode cX4_readRace 6 = .ok (.ifCond .ne 9, 3) := by decide +kernel
theorem dX4_readRace_9 : decode cX4_readRace 9 = .ok (.aload_n 0, 1) := by decide +kernel
theorem dX4_readRace_10 : decode cX4_readRace 10 = .ok (.iconst 1, 1) := by decide +kernel
theorem dX4_readRace_11 : decode cX4_readRace 11 = .ok (.invokevirtual 41, 3) := by decide +kernel
theorem dX4_readRace_14 : decode cX4_readRace 14 = .ok (.return_, 1) := by decide +kernel
theorem dX4_readRace_15 : decode cX4_readRace 15 = .ok (.aload_n 1, 1) := by decide +kernel
theorem dX4_readRace_16 : decode cX4_readRace 16 = .ok (.getfield 45, 3) := by decide +kernel
theorem dX4_readRace_19 : decode cX4_readRace 19 = .ok (.iconst 3, 1) := by decide +kernel
theorem dX4_readRace_20 : decode cX4_readRace 20 = .ok (.if_icmp .lt 9, 3) := by decide +kernel
theorem dX4_readRace_23 : decode cX4_readRace 23 = .ok (.aload_n 0, 1) := by decide +kernel
theorem dX4_readRace_24 : decode cX4_readRace 24 = .ok (.iconst 3, 1) := by decide +kernel
theorem dX4_readRace_25 : decode cX4_readRace 25 = .ok (.invokevirtual 41, 3) := by decide +kernel
theorem dX4_readRace_28 : decode cX4_readRace 28 = .ok (.return_, 1) := by decide +kernel
theorem dX4_readRace_29 : decode cX4_readRace 29 = .ok (.aload_n 0, 1) := by decide +kernel
theorem dX4_readRace_30 : decode cX4_readRace 30 = .ok (.invokevirtual 49, 3) := by decide +kernel
theorem dX4_readRace_33 : decode cX4_readRace 33 = .ok (.aload_n 0, 1) := by decide +kernel
theorem dX4_readRace_34 : decode cX4_readRace 34 = .ok (.iconst 2, 1) := by decide +kernel
theorem dX4_readRace_35 : decode cX4_readRace 35 = .ok (.iconst 4, 1) := by decide +kernel
theorem dX4_readRace_36 : decode cX4_readRace 36 = .ok (.ldc 52, 2) := by decide +kernel
theorem dX4_readRace_38 : decode cX4_readRace 38 = .ok (.invokevirtual 53, 3) := by decide +kernel
theorem dX4_readRace_41 : decode cX4_readRace 41 = .ok (.istore_n 2, 1) := by decide +kernel
theorem dX4_readRace_42 : decode cX4_readRace 42 = .ok (.aload_n 0, 1) := by decide +kernel
theorem dX4_readRace_43 : decode cX4_readRace 43 = .ok (.invokestatic 57, 3) := by decide +kernel
theorem dX4_readRace_46 : decode cX4_readRace 46 = .ok (.istore_n 3, 1) := by decide +kernel
theorem dX4_readRace_47 : decode cX4_readRace 47 = .ok (.aload_n 0, 1) := by decide +kernel
theorem dX4_readRace_48 : decode cX4_readRace 48 = .ok (.bipush 59, 2) := by decide +kernel
theorem dX4_readRace_50 : decode cX4_readRace 50 = .ok (.invokevirtual 61, 3) := by decide +kernel
theorem dX4_readRace_53 : decode cX4_readRace 53 = .ok (.aload_n 1, 1) := by decide +kernel
theorem dX4_readRace_54 : decode cX4_readRace 54 = .ok (.getfield 65, 3) := by decide +kernel
theorem dX4_readRace_57 : decode cX4_readRace 57 = .ok (.aload_n 1, 1) := by decide +kernel
theorem dX4_readRace_58 : decode cX4_readRace 58 = .ok (.getfield 45, 3) := by decide +kernel
theorem dX4_readRace_61 : decode cX4_readRace 61 = .ok (.aaload, 1) := by decide +kernel
theorem dX4_readRace_62 : decode cX4_readRace 62 = .ok (.iload_n 2, 1) := by decide +kernel
theorem dX4_readRace_63 : decode cX4_readRace 63 = .ok (.putfield 69, 3) := by decide +kernel
theorem dX4_readRace_66 : decode cX4_readRace 66 = .ok (.aload_n 1, 1) := by decide +kernel
theorem dX4_readRace_67 : decode cX4_readRace 67 = .ok (.getfield 65, 3) := by decide +kernel
theorem dX4_readRace_70 : decode cX4_readRace 70 = .ok (.aload_n 1, 1) := by decide +kernel
theorem dX4_readRace_71 : decode cX4_readRace 71 = .ok (.getfield 45, 3) := by decide +kernel
theorem dX4_readRace_74 : decode cX4_readRace 74 = .ok (.aaload, 1) := by decide +kernel
theorem dX4_readRace_75 : decode cX4_readRace 75 = .ok (.iload_n 3, 1) := by decide +kernel
theorem dX4_readRace_76 : decode cX4_readRace 76 = .ok (.putfield 74, 3) := by decide +kernel
theorem dX4_readRace_79 : decode cX4_readRace 79 = .ok (.aload_n 1, 1) := by decide +kernel
theorem dX4_readRace_80 : decode cX4_readRace 80 = .ok (.dup, 1) := by decide +kernel
theorem dX4_readRace_81 : decode cX4_readRace 81 = .ok (.getfield 45, 3) := by decide +kernel
theorem dX4_readRace_84 : decode cX4_readRace 84 = .ok (.iconst 1, 1) := by decide +kernel
theorem dX4_readRace_85 : decode cX4_readRace 85 = .ok (.iadd, 1) := by decide +kernel
theorem dX4_readRace_86 : decode cX4_readRace 86 = .ok (.putfield 45, 3) := by decide +kernel
theorem dX4_readRace_89 : decode cX4_readRace 89 = .ok (.return_, 1) := by decide +kernel
theorem dX4_readWay_0 : decode cX4_readWay 0 = .ok (.aload_n 0, 1) := by decide +kernel
theorem dX4_readWay_1 : decode cX4_readWay 1 = .ok (.ldc 77, 2) := by decide +kernel
theorem dX4_readWay_3 : decode cX4_readWay 3 = .ok (.invokevirtual 79, 3) := by decide +kernel
theorem dX4_readWay_6 : decode cX4_readWay 6 = .ok (.ifCond .eq 5, 3) := by decide +kernel
theorem dX4_readWay_9 : decode cX4_readWay 9 = .ok (.iconst 1, 1) := by decide +kernel
theorem dX4_readWay_10 : decode cX4_readWay 10 = .ok (.ireturn, 1) := by decide +kernel
theorem dX4_readWay_11 : decode cX4_readWay 11 = .ok (.aload_n 0, 1) := by decide +kernel
theorem dX4_readWay_12 : decode cX4_readWay 12 = .ok (.ldc 82, 2) := by decide +kernel
theorem dX4_readWay_14 : decode cX4_readWay 14 = .ok (.invokevirtual 79, 3) := by decide +kernel
theorem dX4_readWay_17 : decode cX4_readWay 17 = .ok (.ifCond .ne 8, 3) := by decide +kernel
theorem dX4_readWay_20 : decode cX4_readWay 20 = .ok (.aload_n 0, 1) := by decide +kernel
theorem dX4_readWay_21 : decode cX4_readWay 21 = .ok (.iconst 1, 1) := by decide +kernel
theorem dX4_readWay_22 : decode cX4_readWay 22 = .ok (.invokevirtual 41, 3) := by decide +kernel
theorem dX4_readWay_25 : decode cX4_readWay 25 = .ok (.iconst 0, 1) := by decide +kernel
theorem dX4_readWay_26 : decode cX4_readWay 26 = .ok (.ireturn, 1) := by decide +kernel
theorem dX4_readLine_0 : decode cX4_readLine 0 = .ok (.aload_n 0, 1) := by decide +kernel
theorem dX4_readLine_1 : decode cX4_readLine 1 = .ok (.ldc 84, 2) := by decide +kernel
theorem dX4_readLine_3 : decode cX4_readLine 3 = .ok (.invokevirtual 79, 3) := by decide +kernel
theorem dX4_readLine_6 : decode cX4_readLine 6 = .ok (.ifCond .eq 11, 3) := by decide +kernel
theorem dX4_readLine_9 : decode cX4_readLine 9 = .ok (.aload_n 0, 1) := by decide +kernel
theorem dX4_readLine_10 : decode cX4_readLine 10 = .ok (.aload_n 1, 1) := by decide +kernel
theorem dX4_readLine_11 : decode cX4_readLine 11 = .ok (.invokestatic 86, 3) := by decide +kernel
theorem dX4_readLine_14 : decode cX4_readLine 14 = .ok (.goto 104, 3) := by decide +kernel
theorem dX4_readLine_17 : decode cX4_readLine 17 = .ok (.aload_n 0, 1) := by decide +kernel
theorem dX4_readLine_18 : decode cX4_readLine 18 = .ok (.ldc 89, 2) := by decide +kernel
theorem dX4_readLine_20 : decode cX4_readLine 20 = .ok (.invokevirtual 79, 3) := by decide +kernel
theorem dX4_readLine_23 : decode cX4_readLine 23 = .ok (.ifCond .eq 11, 3) := by decide +kernel
theorem dX4_readLine_26 : decode cX4_readLine 26 = .ok (.aload_n 0, 1) := by decide +kernel
theorem dX4_readLine_27 : decode cX4_readLine 27 = .ok (.aload_n 1, 1) := by decide +kernel
theorem dX4_readLine_28 : decode cX4_readLine 28 = .ok (.invokestatic 91, 3) := by decide +kernel
theorem dX4_readLine_31 : decode cX4_readLine 31 = .ok (.goto 87, 3) := by decide +kernel
theorem dX4_readLine_34 : decode cX4_readLine 34 = .ok (.aload_n 0, 1) := by decide +kernel
theorem dX4_readLine_35 : decode cX4_readLine 35 = .ok (.ldc 94, 2) := by decide +kernel
theorem dX4_readLine_37 : decode cX4_readLine 37 = .ok (.invokevirtual 79, 3) := by decide +kernel
theorem dX4_readLine_40 : decode cX4_readLine 40 = .ok (.ifCond .eq 12, 3) := by decide +kernel
theorem dX4_readLine_43 : decode cX4_readLine 43 = .ok (.aload_n 0, 1) := by decide +kernel
theorem dX4_readLine_44 : decode cX4_readLine 44 = .ok (.aload_n 1, 1) := by decide +kernel
theorem dX4_readLine_45 : decode cX4_readLine 45 = .ok (.iconst 0, 1) := by decide +kernel
theorem dX4_readLine_46 : decode cX4_readLine 46 = .ok (.invokestatic 96, 3) := by decide +kernel
theorem dX4_readLine_49 : decode cX4_readLine 49 = .ok (.goto 69, 3) := by decide +kernel
theorem dX4_readLine_52 : decode cX4_readLine 52 = .ok (.aload_n 0, 1) := by decide +kernel
theorem dX4_readLine_53 : decode cX4_readLine 53 = .ok (.ldc 100, 2) := by decide +kernel
theorem dX4_readLine_55 : decode cX4_readLine 55 = .ok (.invokevirtual 79, 3) := by decide +kernel
theorem dX4_readLine_58 : decode cX4_readLine 58 = .ok (.ifCond .eq 12, 3) := by decide +kernel
theorem dX4_readLine_61 : decode cX4_readLine 61 = .ok (.aload_n 0, 1) := by decide +kernel
theorem dX4_readLine_62 : decode cX4_readLine 62 = .ok (.aload_n 1, 1) := by decide +kernel
theorem dX4_readLine_63 : decode cX4_readLine 63 = .ok (.iconst 1, 1) := by decide +kernel
theorem dX4_readLine_64 : decode cX4_readLine 64 = .ok (.invokestatic 96, 3) := by decide +kernel
theorem dX4_readLine_67 : decode cX4_readLine 67 = .ok (.goto 51, 3) := by decide +kernel
theorem dX4_readLine_70 : decode cX4_readLine 70 = .ok (.aload_n 0, 1) := by decide +kernel
theorem dX4_readLine_71 : decode cX4_readLine 71 = .ok (.ldc 102, 2) := by decide +kernel
theorem dX4_readLine_73 : decode cX4_readLine 73 = .ok (.invokevirtual 79, 3) := by decide +kernel
theorem dX4_readLine_76 : decode cX4_readLine 76 = .ok (.ifCond .eq 12, 3) := by decide +kernel
theorem dX4_readLine_79 : decode cX4_readLine 79 = .ok (.aload_n 0, 1) := by decide +kernel
theorem dX4_readLine_80 : decode cX4_readLine 80 = .ok (.aload_n 1, 1) := by decide +kernel
theorem dX4_readLine_81 : decode cX4_readLine 81 = .ok (.iconst 2, 1) := by decide +kernel
theorem dX4_readLine_82 : decode cX4_readLine 82 = .ok (.invokestatic 96, 3) := by decide +kernel
theorem dX4_readLine_85 : decode cX4_readLine 85 = .ok (.goto 33, 3) := by decide +kernel
theorem dX4_readLine_88 : decode cX4_readLine 88 = .ok (.aload_n 0, 1) := by decide +kernel
theorem dX4_readLine_89 : decode cX4_readLine 89 = .ok (.ldc 104, 2) := by decide +kernel
theorem dX4_readLine_91 : decode cX4_readLine 91 = .ok (.invokevirtual 79, 3) := by decide +kernel
theorem dX4_readLine_94 : decode cX4_readLine 94 = .ok (.ifCond .eq 19, 3) := by decide +kernel
theorem dX4_readLine_97 : decode cX4_readLine 97 = .ok (.aload_n 1, 1) := by decide +kernel
theorem dX4_readLine_98 : decode cX4_readLine 98 = .ok (.aload_n 0, 1) := by decide +kernel
theorem dX4_readLine_99 : decode cX4_readLine 99 = .ok (.iconst 0, 1) := by decide +kernel
theorem dX4_readLine_100 : decode cX4_readLine 100 = .ok (.ldc 106, 2) := by decide +kernel
theorem dX4_readLine_102 : decode cX4_readLine 102 = .ok (.ldc 52, 2) := by decide +kernel
theorem dX4_readLine_104 : decode cX4_readLine 104 = .ok (.invokevirtual 53, 3) := by decide +kernel
theorem dX4_readLine_107 : decode cX4_readLine 107 = .ok (.putfield 107, 3) := by decide +kernel
theorem dX4_readLine_110 : decode cX4_readLine 110 = .ok (.goto 8, 3) := by decide +kernel
theorem dX4_readLine_113 : decode cX4_readLine 113 = .ok (.aload_n 0, 1) := by decide +kernel
theorem dX4_readLine_114 : decode cX4_readLine 114 = .ok (.iconst 1, 1) := by decide +kernel
theorem dX4_readLine_115 : decode cX4_readLine 115 = .ok (.invokevirtual 41, 3) := by decide +kernel
theorem dX4_readLine_118 : decode cX4_readLine 118 = .ok (.aload_n 0, 1) := by decide +kernel
theorem dX4_readLine_119 : decode cX4_readLine 119 = .ok (.bipush 59, 2) := by decide +kernel
theorem dX4_readLine_121 : decode cX4_readLine 121 = .ok (.invokevirtual 61, 3) := by decide +kernel
theorem dX4_readLine_124 : decode cX4_readLine 124 = .ok (.return_, 1) := by decide +kernel
theorem dX4_readBallots_0 : decode cX4_readBallots 0 = .ok (.aload_n 0, 1) := by decide +kernel
theorem dX4_readBallots_1 : decode cX4_readBallots 1 = .ok (.iconst 1, 1) := by decide +kernel
theorem dX4_readBallots_2 : decode cX4_readBallots 2 = .ok (.bipush 99, 2) := by decide +kernel
theorem dX4_readBallots_4 : decode cX4_readBallots 4 = .ok (.sipush 200, 3) := by decide +kernel
theorem dX4_readBallots_7 : decode cX4_readBallots 7 = .ok (.aload_n 1, 1) := by decide +kernel
theorem dX4_readBallots_8 : decode cX4_readBallots 8 = .ok (.getfield 109, 3) := by decide +kernel
theorem dX4_readBallots_11 : decode cX4_readBallots 11 = .ok (.isub, 1) := by decide +kernel
theorem dX4_readBallots_12 : decode cX4_readBallots 12 = .ok (.invokevirtual 53, 3) := by decide +kernel
theorem dX4_readBallots_15 : decode cX4_readBallots 15 = .ok (.istore_n 2, 1) := by decide +kernel
theorem dX4_readBallots_16 : decode cX4_readBallots 16 = .ok (.aload_n 1, 1) := by decide +kernel
theorem dX4_readBallots_17 : decode cX4_readBallots 17 = .ok (.getfield 109, 3) := by decide +kernel
theorem dX4_readBallots_20 : decode cX4_readBallots 20 = .ok (.istore_n 3, 1) := by decide +kernel
theorem dX4_readBallots_21 : decode cX4_readBallots 21 = .ok (.iload_n 3, 1) := by decide +kernel
theorem dX4_readBallots_22 : decode cX4_readBallots 22 = .ok (.iload_n 2, 1) := by decide +kernel
theorem dX4_readBallots_23 : decode cX4_readBallots 23 = .ok (.iadd, 1) := by decide +kernel
theorem dX4_readBallots_24 : decode cX4_readBallots 24 = .ok (.sipush 200, 3) := by decide +kernel
theorem dX4_readBallots_27 : decode cX4_readBallots 27 = .ok (.invokestatic 111, 3) := by decide +kernel
theorem dX4_readBallots_30 : decode cX4_readBallots 30 = .ok (.istore 4, 2) := by decide +kernel
theorem dX4_readBallots_32 : decode cX4_readBallots 32 = .ok (.iconst 0, 1) := by decide +kernel
theorem dX4_readBallots_33 : decode cX4_readBallots 33 = .ok (.istore 5, 2) := by decide +kernel
theorem dX4_readBallots_35 : decode cX4_readBallots 35 = .ok (.iload 5, 2) := by decide +kernel
theorem dX4_readBallots_37 : decode cX4_readBallots 37 = .ok (.aload_n 1, 1) := by decide +kernel
theorem dX4_readBallots_38 : decode cX4_readBallots 38 = .ok (.getfield 45, 3) := by decide +kernel
theorem dX4_readBallots_41 : decode cX4_readBallots 41 = .ok (.if_icmp .ge 68, 3) := by decide +kernel
theorem dX4_readBallots_44 : decode cX4_readBallots 44 = .ok (.iload 5, 2) := by decide +kernel
theorem dX4_readBallots_46 : decode cX4_readBallots 46 = .ok (.iconst 3, 1) := by decide +kernel
theorem dX4_readBallots_47 : decode cX4_readBallots 47 = .ok (.if_icmp .ge 62, 3) := by decide +kernel
theorem dX4_readBallots_50 : decode cX4_readBallots 50 = .ok (.aload_n 1, 1) := by decide +kernel
theorem dX4_readBallots_51 : decode cX4_readBallots 51 = .ok (.getfield 65, 3) := by decide +kernel
theorem dX4_readBallots_54 : decode cX4_readBallots 54 = .ok (.iload 5, 2) := by decide +kernel
theorem dX4_readBallots_56 : decode cX4_readBallots 56 = .ok (.aaload, 1) := by decide +kernel
theorem dX4_readBallots_57 : decode cX4_readBallots 57 = .ok (.astore 6, 2) := by decide +kernel
theorem dX4_readBallots_59 : decode cX4_readBallots 59 = .ok (.aload_n 0, 1) := by decide +kernel
theorem dX4_readBallots_60 : decode cX4_readBallots 60 = .ok (.aload 6, 2) := by decide +kernel
theorem dX4_readBallots_62 : decode cX4_readBallots 62 = .ok (.invokestatic 117, 3) := by decide +kernel
theorem dX4_readBallots_65 : decode cX4_readBallots 65 = .ok (.istore 7, 2) := by decide +kernel
theorem dX4_readBallots_67 : decode cX4_readBallots 67 = .ok (.iload_n 3, 1) := by decide +kernel
theorem dX4_readBallots_68 : decode cX4_readBallots 68 = .ok (.istore 8, 2) := by decide +kernel
theorem dX4_readBallots_70 : decode cX4_readBallots 70 = .ok (.iload 8, 2) := by decide +kernel
theorem dX4_readBallots_72 : decode cX4_readBallots 72 = .ok (.iload 4, 2) := by decide +kernel
theorem dX4_readBallots_74 : decode cX4_readBallots 74 = .ok (.if_icmp .ge 29, 3) := by decide +kernel
theorem dX4_readBallots_77 : decode cX4_readBallots 77 = .ok (.aload 6, 2) := by decide +kernel
theorem dX4_readBallots_79 : decode cX4_readBallots 79 = .ok (.getfield 121, 3) := by decide +kernel
theorem dX4_readBallots_82 : decode cX4_readBallots 82 = .ok (.iload 8, 2) := by decide +kernel
theorem dX4_readBallots_84 : decode cX4_readBallots 84 = .ok (.iload 7, 2) := by decide +kernel
theorem dX4_readBallots_86 : decode cX4_readBallots 86 = .ok (.iastore, 1) := by decide +kernel
theorem dX4_readBallots_87 : decode cX4_readBallots 87 = .ok (.aload 6, 2) := by decide +kernel
theorem dX4_readBallots_89 : decode cX4_readBallots 89 = .ok (.getfield 125, 3) := by decide +kernel
theorem dX4_readBallots_92 : decode cX4_readBallots 92 = .ok (.iload 8, 2) := by decide +kernel
theorem dX4_readBallots_94 : decode cX4_readBallots 94 = .ok (.iload 7, 2) := by decide +kernel
theorem dX4_readBallots_96 : decode cX4_readBallots 96 = .ok (.iastore, 1) := by decide +kernel
theorem dX4_readBallots_97 : decode cX4_readBallots 97 = .ok (.iinc 8 1, 3) := by decide +kernel
theorem dX4_readBallots_100 : decode cX4_readBallots 100 = .ok (.goto (-30), 3) := by decide +kernel
theorem dX4_readBallots_103 : decode cX4_readBallots 103 = .ok (.iinc 5 1, 3) := by decide +kernel
theorem dX4_readBallots_106 : decode cX4_readBallots 106 = .ok (.goto (-71), 3) := by decide +kernel
theorem dX4_readBallots_109 : decode cX4_readBallots 109 = .ok (.aload_n 1, 1) := by decide +kernel
theorem dX4_readBallots_110 : decode cX4_readBallots 110 = .ok (.iload 4, 2) := by decide +kernel
theorem dX4_readBallots_112 : decode cX4_readBallots 112 = .ok (.putfield 109, 3) := by decide +kernel
theorem dX4_readBallots_115 : decode cX4_readBallots 115 = .ok (.return_, 1) := by decide +kernel
theorem dX4_readPaper_0 : decode cX4_readPaper 0 = .ok (.aload_n 0, 1) := by decide +kernel
theorem dX4_readPaper_1 : decode cX4_readPaper 1 = .ok (.iconst 0, 1) := by decide +kernel
theorem dX4_readPaper_2 : decode cX4_readPaper 2 = .ok (.aload_n 1, 1) := by decide +kernel
theorem dX4_readPaper_3 : decode cX4_readPaper 3 = .ok (.getfield 109, 3) := by decide +kernel
theorem dX4_readPaper_6 : decode cX4_readPaper 6 = .ok (.iconst 1, 1) := by decide +kernel
theorem dX4_readPaper_7 : decode cX4_readPaper 7 = .ok (.isub, 1) := by decide +kernel
theorem dX4_readPaper_8 : decode cX4_readPaper 8 = .ok (.ldc 52, 2) := by decide +kernel
theorem dX4_readPaper_10 : decode cX4_readPaper 10 = .ok (.invokevirtual 53, 3) := by decide +kernel
theorem dX4_readPaper_13 : decode cX4_readPaper 13 = .ok (.istore_n 2, 1) := by decide +kernel
theorem dX4_readPaper_14 : decode cX4_readPaper 14 = .ok (.aload_n 0, 1) := by decide +kernel
theorem dX4_readPaper_15 : decode cX4_readPaper 15 = .ok (.iconst 0, 1) := by decide +kernel
theorem dX4_readPaper_16 : decode cX4_readPaper 16 = .ok (.aload_n 1, 1) := by decide +kernel
theorem dX4_readPaper_17 : decode cX4_readPaper 17 = .ok (.getfield 45, 3) := by decide +kernel
theorem dX4_readPaper_20 : decode cX4_readPaper 20 = .ok (.iconst 1, 1) := by decide +kernel
theorem dX4_readPaper_21 : decode cX4_readPaper 21 = .ok (.isub, 1) := by decide +kernel
theorem dX4_readPaper_22 : decode cX4_readPaper 22 = .ok (.ldc 52, 2) := by decide +kernel
theorem dX4_readPaper_24 : decode cX4_readPaper 24 = .ok (.invokevirtual 53, 3) := by decide +kernel
theorem dX4_readPaper_27 : decode cX4_readPaper 27 = .ok (.istore_n 3, 1) := by decide +kernel
theorem dX4_readPaper_28 : decode cX4_readPaper 28 = .ok (.iload_n 3, 1) := by decide +kernel
theorem dX4_readPaper_29 : decode cX4_readPaper 29 = .ok (.aload_n 1, 1) := by decide +kernel
theorem dX4_readPaper_30 : decode cX4_readPaper 30 = .ok (.getfield 45, 3) := by decide +kernel
theorem dX4_readPaper_33 : decode cX4_readPaper 33 = .ok (.if_icmp .ge 8, 3) := by decide +kernel
theorem dX4_readPaper_36 : decode cX4_readPaper 36 = .ok (.iload_n 3, 1) := by decide +kernel
theorem dX4_readPaper_37 : decode cX4_readPaper 37 = .ok (.iconst 3, 1) := by decide +kernel
theorem dX4_readPaper_38 : decode cX4_readPaper 38 = .ok (.if_icmp .lt 4, 3) := by decide +kernel
theorem dX4_readPaper_41 : decode cX4_readPaper 41 = .ok (.return_, 1) := by decide +kernel
theorem dX4_readPaper_42 : decode cX4_readPaper 42 = .ok (.aload_n 0, 1) := by decide +kernel
theorem dX4_readPaper_43 : decode cX4_readPaper 43 = .ok (.aload_n 1, 1) := by decide +kernel
theorem dX4_readPaper_44 : decode cX4_readPaper 44 = .ok (.getfield 65, 3) := by decide +kernel
theorem dX4_readPaper_47 : decode cX4_readPaper 47 = .ok (.iload_n 3, 1) := by decide +kernel
theorem dX4_readPaper_48 : decode cX4_readPaper 48 = .ok (.aaload, 1) := by decide +kernel
theorem dX4_readPaper_49 : decode cX4_readPaper 49 = .ok (.invokestatic 117, 3) := by decide +kernel
theorem dX4_readPaper_52 : decode cX4_readPaper 52 = .ok (.istore 4, 2) := by decide +kernel
theorem dX4_readPaper_54 : decode cX4_readPaper 54 = .ok (.aload_n 0, 1) := by decide +kernel
theorem dX4_readPaper_55 : decode cX4_readPaper 55 = .ok (.invokevirtual 28, 3) := by decide +kernel
theorem dX4_readPaper_58 : decode cX4_readPaper 58 = .ok (.ifCond .eq 24, 3) := by decide +kernel
theorem dX4_readPaper_61 : decode cX4_readPaper 61 = .ok (.iload_n 2, 1) := by decide +kernel
theorem dX4_readPaper_62 : decode cX4_readPaper 62 = .ok (.aload_n 1, 1) := by decide +kernel
theorem dX4_readPaper_63 : decode cX4_readPaper 63 = .ok (.getfield 109, 3) := by decide +kernel
theorem dX4_readPaper_66 : decode cX4_readPaper 66 = .ok (.if_icmp .ge 16, 3) := by decide +kernel
theorem dX4_readPaper_69 : decode cX4_readPaper 69 = .ok (.aload_n 1, 1) := by decide +kernel
theorem dX4_readPaper_70 : decode cX4_readPaper 70 = .ok (.getfield 65, 3) := by decide +kernel
theorem dX4_readPaper_73 : decode cX4_readPaper 73 = .ok (.iload_n 3, 1) := by decide +kernel
theorem dX4_readPaper_74 : decode cX4_readPaper 74 = .ok (.aaload, 1) := by decide +kernel
theorem dX4_readPaper_75 : decode cX4_readPaper 75 = .ok (.getfield 125, 3) := by decide +kernel
theorem dX4_readPaper_78 : decode cX4_readPaper 78 = .ok (.iload_n 2, 1) := by decide +kernel
theorem dX4_readPaper_79 : decode cX4_readPaper 79 = .ok (.iload 4, 2) := by decide +kernel
theorem dX4_readPaper_81 : decode cX4_readPaper 81 = .ok (.iastore, 1) := by decide +kernel
theorem dX4_readPaper_82 : decode cX4_readPaper 82 = .ok (.return_, 1) := by decide +kernel
theorem dX4_readRule_0 : decode cX4_readRule 0 = .ok (.aload_n 1, 1) := by decide +kernel
theorem dX4_readRule_1 : decode cX4_readRule 1 = .ok (.iload_n 2, 1) := by decide +kernel
theorem dX4_readRule_2 : decode cX4_readRule 2 = .ok (.aload_n 0, 1) := by decide +kernel
theorem dX4_readRule_3 : decode cX4_readRule 3 = .ok (.iload_n 2, 1) := by decide +kernel
theorem dX4_readRule_4 : decode cX4_readRule 4 = .ok (.invokestatic 128, 3) := by decide +kernel
theorem dX4_readRule_7 : decode cX4_readRule 7 = .ok (.iload_n 2, 1) := by decide +kernel
theorem dX4_readRule_8 : decode cX4_readRule 8 = .ok (.invokestatic 132, 3) := by decide +kernel
theorem dX4_readRule_11 : decode cX4_readRule 11 = .ok (.ldc 52, 2) := by decide +kernel
theorem dX4_readRule_13 : decode cX4_readRule 13 = .ok (.invokevirtual 53, 3) := by decide +kernel
theorem dX4_readRule_16 : decode cX4_readRule 16 = .ok (.invokevirtual 135, 3) := by decide +kernel
theorem dX4_readRule_19 : decode cX4_readRule 19 = .ok (.return_, 1) := by decide +kernel
theorem dX4_readChoice_0 : decode cX4_readChoice 0 = .ok (.aload_n 0, 1) := by decide +kernel
theorem dX4_readChoice_1 : decode cX4_readChoice 1 = .ok (.ldc 139, 2) := by decide +kernel
theorem dX4_readChoice_3 : decode cX4_readChoice 3 = .ok (.invokevirtual 79, 3) := by decide +kernel
theorem dX4_readChoice_6 : decode cX4_readChoice 6 = .ok (.ifCond .eq 5, 3) := by decide +kernel
theorem dX4_readChoice_9 : decode cX4_readChoice 9 = .ok (.iconst (-1), 1) := by decide +kernel
theorem dX4_readChoice_10 : decode cX4_readChoice 10 = .ok (.ireturn, 1) := by decide +kernel
theorem dX4_readChoice_11 : decode cX4_readChoice 11 = .ok (.aload_n 0, 1) := by decide +kernel
theorem dX4_readChoice_12 : decode cX4_readChoice 12 = .ok (.ldc 141, 2) := by decide +kernel
theorem dX4_readChoice_14 : decode cX4_readChoice 14 = .ok (.invokevirtual 79, 3) := by decide +kernel
theorem dX4_readChoice_17 : decode cX4_readChoice 17 = .ok (.ifCond .eq 6, 3) := by decide +kernel
theorem dX4_readChoice_20 : decode cX4_readChoice 20 = .ok (.bipush (-2), 2) := by decide +kernel
theorem dX4_readChoice_22 : decode cX4_readChoice 22 = .ok (.ireturn, 1) := by decide +kernel
theorem dX4_readChoice_23 : decode cX4_readChoice 23 = .ok (.aload_n 0, 1) := by decide +kernel
theorem dX4_readChoice_24 : decode cX4_readChoice 24 = .ok (.iconst 0, 1) := by decide +kernel
theorem dX4_readChoice_25 : decode cX4_readChoice 25 = .ok (.aload_n 1, 1) := by decide +kernel
theorem dX4_readChoice_26 : decode cX4_readChoice 26 = .ok (.getfield 69, 3) := by decide +kernel
theorem dX4_readChoice_29 : decode cX4_readChoice 29 = .ok (.iconst 1, 1) := by decide +kernel
theorem dX4_readChoice_30 : decode cX4_readChoice 30 = .ok (.isub, 1) := by decide +kernel
theorem dX4_readChoice_31 : decode cX4_readChoice 31 = .ok (.ldc 52, 2) := by decide +kernel
theorem dX4_readChoice_33 : decode cX4_readChoice 33 = .ok (.invokevirtual 53, 3) := by decide +kernel
theorem dX4_readChoice_36 : decode cX4_readChoice 36 = .ok (.ireturn, 1) := by decide +kernel
theorem dX5_init_0 : decode cX5_init 0 = .ok (.aload_n 0, 1) := by decide +kernel
theorem dX5_init_1 : decode cX5_init 1 = .ok (.invokespecial 3, 3) := by decide +kernel
theorem dX5_init_4 : decode cX5_init 4 = .ok (.aload_n 0, 1) := by decide +kernel
theorem dX5_init_5 : decode cX5_init 5 = .ok (.sipush 200, 3) := by decide +kernel
theorem dX5_init_8 : decode cX5_init 8 = .ok (.newarray .int, 2) := by decide +kernel
theorem dX5_init_10 : decode cX5_init 10 = .ok (.putfield 9, 3) := by decide +kernel
theorem dX5_init_13 : decode cX5_init 13 = .ok (.aload_n 0, 1) := by decide +kernel
theorem dX5_init_14 : decode cX5_init 14 = .ok (.sipush 200, 3) := by decide +kernel
theorem dX5_init_17 : decode cX5_init 17 = .ok (.newarray .int, 2) := by decide +kernel
theorem dX5_init_19 : decode cX5_init 19 = .ok (.putfield 15, 3) := by decide +kernel
theorem dX5_init_22 : decode cX5_init 22 = .ok (.aload_n 0, 1) := by decide +kernel
theorem dX5_init_23 : decode cX5_init 23 = .ok (.bipush 64, 2) := by decide +kernel
theorem dX5_init_25 : decode cX5_init 25 = .ok (.newarray .int, 2) := by decide +kernel
theorem dX5_init_27 : decode cX5_init 27 = .ok (.putfield 18, 3) := by decide +kernel
theorem dX5_init_30 : decode cX5_init 30 = .ok (.aload_n 0, 1) := by decide +kernel
theorem dX5_init_31 : decode cX5_init 31 = .ok (.iconst 0, 1) := by decide +kernel
theorem dX5_init_32 : decode cX5_init 32 = .ok (.putfield 21, 3) := by decide +kernel
theorem dX5_init_35 : decode cX5_init 35 = .ok (.aload_n 0, 1) := by decide +kernel
theorem dX5_init_36 : decode cX5_init 36 = .ok (.iconst 0, 1) := by decide +kernel
theorem dX5_init_37 : decode cX5_init 37 = .ok (.putfield 25, 3) := by decide +kernel
theorem dX5_init_40 : decode cX5_init 40 = .ok (.aload_n 0, 1) := by decide +kernel
theorem dX5_init_41 : decode cX5_init 41 = .ok (.iconst 0, 1) := by decide +kernel
theorem dX5_init_42 : decode cX5_init 42 = .ok (.putfield 28, 3) := by decide +kernel
theorem dX5_init_45 : decode cX5_init 45 = .ok (.return_, 1) := by decide +kernel
theorem dX5_hear_0 : decode cX5_hear 0 = .ok (.aload_n 0, 1) := by decide +kernel
theorem dX5_hear_1 : decode cX5_hear 1 = .ok (.iconst 0, 1) := by decide +kernel
theorem dX5_hear_2 : decode cX5_hear 2 = .ok (.putfield 21, 3) := by decide +kernel
theorem dX5_hear_5 : decode cX5_hear 5 = .ok (.aload_n 1, 1) := by decide +kernel
theorem dX5_hear_6 : decode cX5_hear 6 = .ok (.ldc 31, 2) := by decide +kernel
theorem dX5_hear_8 : decode cX5_hear 8 = .ok (.invokevirtual 33, 3) := by decide +kernel
theorem dX5_hear_11 : decode cX5_hear 11 = .ok (.ifCond .eq 11, 3) := by decide +kernel
theorem dX5_hear_14 : decode cX5_hear 14 = .ok (.aload_n 0, 1) := by decide +kernel
theorem dX5_hear_15 : decode cX5_hear 15 = .ok (.iconst 0, 1) := by decide +kernel
theorem dX5_hear_16 : decode cX5_hear 16 = .ok (.putfield 28, 3) := by decide +kernel
theorem dX5_hear_19 : decode cX5_hear 19 = .ok (.goto 42, 3) := by decide +kernel
theorem dX5_hear_22 : decode cX5_hear 22 = .ok (.aload_n 1, 1) := by decide +kernel
theorem dX5_hear_23 : decode cX5_hear 23 = .ok (.ldc 39, 2) := by decide +kernel
theorem dX5_hear_25 : decode cX5_hear 25 = .ok (.invokevirtual 33, 3) := by decide +kernel
theorem dX5_hear_28 : decode cX5_hear 28 = .ok (.ifCond .eq 11, 3) := by decide +kernel
theorem dX5_hear_31 : decode cX5_hear 31 = .ok (.aload_n 0, 1) := by decide +kernel
theorem dX5_hear_32 : decode cX5_hear 32 = .ok (.iconst 1, 1) := by decide +kernel
theorem dX5_hear_33 : decode cX5_hear 33 = .ok (.putfield 28, 3) := by decide +kernel
theorem dX5_hear_36 : decode cX5_hear 36 = .ok (.goto 25, 3) := by decide +kernel
theorem dX5_hear_39 : decode cX5_hear 39 = .ok (.aload_n 1, 1) := by decide +kernel
theorem dX5_hear_40 : decode cX5_hear 40 = .ok (.ldc 41, 2) := by decide +kernel
theorem dX5_hear_42 : decode cX5_hear 42 = .ok (.invokevirtual 33, 3) := by decide +kernel
theorem dX5_hear_45 : decode cX5_hear 45 = .ok (.ifCond .eq 11, 3) := by decide +kernel
theorem dX5_hear_48 : decode cX5_hear 48 = .ok (.aload_n 0, 1) := by decide +kernel
theorem dX5_hear_49 : decode cX5_hear 49 = .ok (.iconst 2, 1) := by decide +kernel
theorem dX5_hear_50 : decode cX5_hear 50 = .ok (.putfield 28, 3) := by decide +kernel
theorem dX5_hear_53 : decode cX5_hear 53 = .ok (.goto 8, 3) := by decide +kernel
theorem dX5_hear_56 : decode cX5_hear 56 = .ok (.aload_n 1, 1) := by decide +kernel
theorem dX5_hear_57 : decode cX5_hear 57 = .ok (.iconst 1, 1) := by decide +kernel
theorem dX5_hear_58 : decode cX5_hear 58 = .ok (.invokevirtual 43, 3) := by decide +kernel
theorem dX5_hear_61 : decode cX5_hear 61 = .ok (.aload_n 0, 1) := by decide +kernel
theorem dX5_hear_62 : decode cX5_hear 62 = .ok (.aload_n 1, 1) := by decide +kernel
theorem dX5_hear_63 : decode cX5_hear 63 = .ok (.iload_n 2, 1) := by decide +kernel
theorem dX5_hear_64 : decode cX5_hear 64 = .ok (.iconst 0, 1) := by decide +kernel
theorem dX5_hear_65 : decode cX5_hear 65 = .ok (.invokevirtual 47, 3) := by decide +kernel
theorem dX5_hear_68 : decode cX5_hear 68 = .ok (.aload_n 1, 1) := by decide +kernel
theorem dX5_hear_69 : decode cX5_hear 69 = .ok (.invokevirtual 51, 3) := by decide +kernel
theorem dX5_hear_72 : decode cX5_hear 72 = .ok (.ifCond .ne 8, 3) := by decide +kernel
theorem dX5_hear_75 : decode cX5_hear 75 = .ok (.aload_n 1, 1) := by decide +kernel
theorem dX5_hear_76 : decode cX5_hear 76 = .ok (.iconst 1, 1) := by decide +kernel
theorem dX5_hear_77 : decode cX5_hear 77 = .ok (.invokevirtual 43, 3) := by decide +kernel
theorem dX5_hear_80 : decode cX5_hear 80 = .ok (.return_, 1) := by decide +kernel
theorem dX5_readTest_0 : decode cX5_readTest 0 = .ok (.aload_n 0, 1) := by decide +kernel
theorem dX5_readTest_1 : decode cX5_readTest 1 = .ok (.aload_n 1, 1) := by decide +kernel
theorem dX5_readTest_2 : decode cX5_readTest 2 = .ok (.iload_n 2, 1) := by decide +kernel
theorem dX5_readTest_3 : decode cX5_readTest 3 = .ok (.iload_n 3, 1) := by decide +kernel
theorem dX5_readTest_4 : decode cX5_readTest 4 = .ok (.invokevirtual 55, 3) := by decide +kernel
theorem dX5_readTest_7 : decode cX5_readTest 7 = .ok (.iconst 0, 1) := by decide +kernel
theorem dX5_readTest_8 : decode cX5_readTest 8 = .ok (.istore 4, 2) := by decide +kernel
theorem dX5_readTest_10 : decode cX5_readTest 10 = .ok (.iload 4, 2) := by decide +kernel
theorem dX5_readTest_12 : decode cX5_readTest 12 = .ok (.sipush 200, 3) := by decide +kernel
theorem dX5_readTest_15 : decode cX5_readTest 15 = .ok (.if_icmp .ge 32, 3) := by decide +kernel
theorem dX5_readTest_18 : decode cX5_readTest 18 = .ok (.aload_n 1, 1) := by decide +kernel
theorem dX5_readTest_19 : decode cX5_readTest 19 = .ok (.ldc 58, 2) := by decide +kernel
theorem dX5_readTest_21 : decode cX5_readTest 21 = .ok (.invokevirtual 33, 3) := by decide +kernel
theorem dX5_readTest_24 : decode cX5_readTest 24 = .ok (.ifCond .eq 23, 3) := by decide +kernel
theorem dX5_readTest_27 : decode cX5_readTest 27 = .ok (.aload_n 0, 1) := by decide +kernel
theorem dX5_readTest_28 : decode cX5_readTest 28 = .ok (.aload_n 1, 1) := by decide +kernel
theorem dX5_readTest_29 : decode cX5_readTest 29 = .ok (.iload_n 2, 1) := by decide +kernel
theorem dX5_readTest_30 : decode cX5_readTest 30 = .ok (.iload_n 3, 1) := by decide +kernel
theorem dX5_readTest_31 : decode cX5_readTest 31 = .ok (.invokevirtual 55, 3) := by decide +kernel
theorem dX5_readTest_34 : decode cX5_readTest 34 = .ok (.aload_n 0, 1) := by decide +kernel
theorem dX5_readTest_35 : decode cX5_readTest 35 = .ok (.bipush 11, 2) := by decide +kernel
theorem dX5_readTest_37 : decode cX5_readTest 37 = .ok (.iconst 0, 1) := by decide +kernel
theorem dX5_readTest_38 : decode cX5_readTest 38 = .ok (.invokevirtual 60, 3) := by decide +kernel
theorem dX5_readTest_41 : decode cX5_readTest 41 = .ok (.iinc 4 1, 3) := by decide +kernel
theorem dX5_readTest_44 : decode cX5_readTest 44 = .ok (.goto (-34), 3) := by decide +kernel
theorem dX5_readTest_47 : decode cX5_readTest 47 = .ok (.return_, 1) := by decide +kernel
theorem dX5_readBoth_0 : decode cX5_readBoth 0 = .ok (.aload_n 0, 1) := by decide +kernel
theorem dX5_readBoth_1 : decode cX5_readBoth 1 = .ok (.aload_n 1, 1) := by decide +kernel
theorem dX5_readBoth_2 : decode cX5_readBoth 2 = .ok (.iload_n 2, 1) := by decide +kernel
theorem dX5_readBoth_3 : decode cX5_readBoth 3 = .ok (.iload_n 3, 1) := by decide +kernel
theorem dX5_readBoth_4 : decode cX5_readBoth 4 = .ok (.invokevirtual 64, 3) := by decide +kernel
theorem dX5_readBoth_7 : decode cX5_readBoth 7 = .ok (.iconst 0, 1) := by decide +kernel
theorem dX5_readBoth_8 : decode cX5_readBoth 8 = .ok (.istore 4, 2) := by decide +kernel
theorem dX5_readBoth_10 : decode cX5_readBoth 10 = .ok (.iload 4, 2) := by decide +kernel
theorem dX5_readBoth_12 : decode cX5_readBoth 12 = .ok (.sipush 200, 3) := by decide +kernel
theorem dX5_readBoth_15 : decode cX5_readBoth 15 = .ok (.if_icmp .ge 32, 3) := by decide +kernel
theorem dX5_readBoth_18 : decode cX5_readBoth 18 = .ok (.aload_n 1, 1) := by decide +kernel
theorem dX5_readBoth_19 : decode cX5_readBoth 19 = .ok (.ldc 67, 2) := by decide +kernel
theorem dX5_readBoth_21 : decode cX5_readBoth 21 = .ok (.invokevirtual 33, 3) := by decide +kernel
theorem dX5_readBoth_24 : decode cX5_readBoth 24 = .ok (.ifCond .eq 23, 3) := by decide +kernel
theorem dX5_readBoth_27 : decode cX5_readBoth 27 = .ok (.aload_n 0, 1) := by decide +kernel
theorem dX5_readBoth_28 : decode cX5_readBoth 28 = .ok (.aload_n 1, 1) := by decide +kernel
theorem dX5_readBoth_29 : decode cX5_readBoth 29 = .ok (.iload_n 2, 1) := by decide +kernel
theorem dX5_readBoth_30 : decode cX5_readBoth 30 = .ok (.iload_n 3, 1) := by decide +kernel
theorem dX5_readBoth_31 : decode cX5_readBoth 31 = .ok (.invokevirtual 64, 3) := by decide +kernel
theorem dX5_readBoth_34 : decode cX5_readBoth 34 = .ok (.aload_n 0, 1) := by decide +kernel
theorem dX5_readBoth_35 : decode cX5_readBoth 35 = .ok (.bipush 10, 2) := by decide +kernel
theorem dX5_readBoth_37 : decode cX5_readBoth 37 = .ok (.iconst 0, 1) := by decide +kernel
theorem dX5_readBoth_38 : decode cX5_readBoth 38 = .ok (.invokevirtual 60, 3) := by decide +kernel
theorem dX5_readBoth_41 : decode cX5_readBoth 41 = .ok (.iinc 4 1, 3) := by decide +kernel
theorem dX5_readBoth_44 : decode cX5_readBoth 44 = .ok (.goto (-34), 3) := by decide +kernel
theorem dX5_readBoth_47 : decode cX5_readBoth 47 = .ok (.return_, 1) := by decide +kernel
theorem dX5_readFact_0 : decode cX5_readFact 0 = .ok (.aload_n 1, 1) := by decide +kernel
theorem dX5_readFact_1 : decode cX5_readFact 1 = .ok (.ldc 69, 2) := by decide +kernel
theorem dX5_readFact_3 : decode cX5_readFact 3 = .ok (.invokevirtual 71, 3) := by decide +kernel
theorem dX5_readFact_6 : decode cX5_readFact 6 = .ok (.istore 4, 2) := by decide +kernel
theorem dX5_readFact_8 : decode cX5_readFact 8 = .ok (.iload 4, 2) := by decide +kernel
theorem dX5_readFact_10 : decode cX5_readFact 10 = .ok (.ifCond .ne 19, 3) := by decide +kernel
theorem dX5_readFact_13 : decode cX5_readFact 13 = .ok (.aload_n 1, 1) := by decide +kernel
theorem dX5_readFact_14 : decode cX5_readFact 14 = .ok (.bipush 123, 2) := by decide +kernel
theorem dX5_readFact_16 : decode cX5_readFact 16 = .ok (.invokevirtual 74, 3) := by decide +kernel
theorem dX5_readFact_19 : decode cX5_readFact 19 = .ok (.ifCond .ne 10, 3) := by decide +kernel
theorem dX5_readFact_22 : decode cX5_readFact 22 = .ok (.aload_n 0, 1) := by decide +kernel
theorem dX5_readFact_23 : decode cX5_readFact 23 = .ok (.aload_n 1, 1) := by decide +kernel
theorem dX5_readFact_24 : decode cX5_readFact 24 = .ok (.iload_n 2, 1) := by decide +kernel
theorem dX5_readFact_25 : decode cX5_readFact 25 = .ok (.invokevirtual 78, 3) := by decide +kernel
theorem dX5_readFact_28 : decode cX5_readFact 28 = .ok (.return_, 1) := by decide +kernel
theorem dX5_readFact_29 : decode cX5_readFact 29 = .ok (.iload_n 3, 1) := by decide +kernel
theorem dX5_readFact_30 : decode cX5_readFact 30 = .ok (.bipush 6, 2) := by decide +kernel
theorem dX5_readFact_32 : decode cX5_readFact 32 = .ok (.if_icmp .lt 9, 3) := by decide +kernel
theorem dX5_readFact_35 : decode cX5_readFact 35 = .ok (.aload_n 1, 1) := by decide +kernel
theorem dX5_readFact_36 : decode cX5_readFact 36 = .ok (.iconst 3, 1) := by decide +kernel
theorem dX5_readFact_37 : decode cX5_readFact 37 = .ok (.invokevirtual 43, 3) := by decide +kernel
theorem dX5_readFact_40 : decode cX5_readFact 40 = .ok (.return_, 1) := by decide +kernel
theorem dX5_readFact_41 : decode cX5_readFact 41 = .ok (.aload_n 1, 1) := by decide +kernel
theorem dX5_readFact_42 : decode cX5_readFact 42 = .ok (.invokevirtual 82, 3) := by decide +kernel
theorem dX5_readFact_45 : decode cX5_readFact 45 = .ok (.iload 4, 2) := by decide +kernel
theorem dX5_readFact_47 : decode cX5_readFact 47 = .ok (.ifCond .eq 22, 3) := by decide +kernel
theorem dX5_readFact_50 : decode cX5_readFact 50 = .ok (.aload_n 0, 1) := by decide +kernel
theorem dX5_readFact_51 : decode cX5_readFact 51 = .ok (.aload_n 1, 1) := by decide +kernel
theorem dX5_readFact_52 : decode cX5_readFact 52 = .ok (.iload_n 2, 1) := by decide +kernel
theorem dX5_readFact_53 : decode cX5_readFact 53 = .ok (.iload_n 3, 1) := by decide +kernel
theorem dX5_readFact_54 : decode cX5_readFact 54 = .ok (.iconst 1, 1) := by decide +kernel
theorem dX5_readFact_55 : decode cX5_readFact 55 = .ok (.iadd, 1) := by decide +kernel
theorem dX5_readFact_56 : decode cX5_readFact 56 = .ok (.invokevirtual 64, 3) := by decide +kernel
theorem dX5_readFact_59 : decode cX5_readFact 59 = .ok (.aload_n 0, 1) := by decide +kernel
theorem dX5_readFact_60 : decode cX5_readFact 60 = .ok (.bipush 9, 2) := by decide +kernel
theorem dX5_readFact_62 : decode cX5_readFact 62 = .ok (.iconst 0, 1) := by decide +kernel
theorem dX5_readFact_63 : decode cX5_readFact 63 = .ok (.invokevirtual 60, 3) := by decide +kernel
theorem dX5_readFact_66 : decode cX5_readFact 66 = .ok (.goto 18, 3) := by decide +kernel
theorem dX5_readFact_69 : decode cX5_readFact 69 = .ok (.aload_n 0, 1) := by decide +kernel
theorem dX5_readFact_70 : decode cX5_readFact 70 = .ok (.aload_n 1, 1) := by decide +kernel
theorem dX5_readFact_71 : decode cX5_readFact 71 = .ok (.iload_n 2, 1) := by decide +kernel
theorem dX5_readFact_72 : decode cX5_readFact 72 = .ok (.iload_n 3, 1) := by decide +kernel
theorem dX5_readFact_73 : decode cX5_readFact 73 = .ok (.iconst 1, 1) := by decide +kernel
theorem dX5_readFact_74 : decode cX5_readFact 74 = .ok (.iadd, 1) := by decide +kernel
theorem dX5_readFact_75 : decode cX5_readFact 75 = .ok (.invokevirtual 47, 3) := by decide +kernel
theorem dX5_readFact_78 : decode cX5_readFact 78 = .ok (.aload_n 1, 1) := by decide +kernel
theorem dX5_readFact_79 : decode cX5_readFact 79 = .ok (.bipush 125, 2) := by decide +kernel
theorem dX5_readFact_81 : decode cX5_readFact 81 = .ok (.invokevirtual 85, 3) := by decide +kernel
theorem dX5_readFact_84 : decode cX5_readFact 84 = .ok (.return_, 1) := by decide +kernel
theorem dX5_readComparison_0 : decode cX5_readComparison 0 = .ok (.aload_n 0, 1) := by decide +kernel
theorem dX5_readComparison_1 : decode cX5_readComparison 1 = .ok (.aload_n 1, 1) := by decide +kernel
theorem dX5_readComparison_2 : decode cX5_readComparison 2 = .ok (.iload_n 2, 1) := by decide +kernel
theorem dX5_readComparison_3 : decode cX5_readComparison 3 = .ok (.invokevirtual 89, 3) := by decide +kernel
theorem dX5_readComparison_6 : decode cX5_readComparison 6 = .ok (.bipush 7, 2) := by decide +kernel
theorem dX5_readComparison_8 : decode cX5_readComparison 8 = .ok (.istore_n 3, 1) := by decide +kernel
theorem dX5_readComparison_9 : decode cX5_readComparison 9 = .ok (.aload_n 1, 1) := by decide +kernel
theorem dX5_readComparison_10 : decode cX5_readComparison 10 = .ok (.bipush 60, 2) := by decide +kernel
theorem dX5_readComparison_12 : decode cX5_readComparison 12 = .ok (.invokevirtual 92, 3) := by decide +kernel
theorem dX5_readComparison_15 : decode cX5_readComparison 15 = .ok (.ifCond .eq 9, 3) := by decide +kernel
theorem dX5_readComparison_18 : decode cX5_readComparison 18 = .ok (.bipush 6, 2) := by decide +kernel
theorem dX5_readComparison_20 : decode cX5_readComparison 20 = .ok (.istore_n 3, 1) := by decide +kernel
theorem dX5_readComparison_21 : decode cX5_readComparison 21 = .ok (.goto 24, 3) := by decide +kernel
theorem dX5_readComparison_24 : decode cX5_readComparison 24 = .ok (.aload_n 1, 1) := by decide +kernel
theorem dX5_readComparison_25 : decode cX5_readComparison 25 = .ok (.bipush 62, 2) := by decide +kernel
theorem dX5_readComparison_27 : decode cX5_readComparison 27 = .ok (.invokevirtual 92, 3) := by decide +kernel
theorem dX5_readComparison_30 : decode cX5_readComparison 30 = .ok (.ifCond .eq 9, 3) := by decide +kernel
theorem dX5_readComparison_33 : decode cX5_readComparison 33 = .ok (.bipush 8, 2) := by decide +kernel
theorem dX5_readComparison_35 : decode cX5_readComparison 35 = .ok (.istore_n 3, 1) := by decide +kernel
theorem dX5_readComparison_36 : decode cX5_readComparison 36 = .ok (.goto 9, 3) := by decide +kernel
theorem dX5_readComparison_39 : decode cX5_readComparison 39 = .ok (.aload_n 1, 1) := by decide +kernel
theorem dX5_readComparison_40 : decode cX5_readComparison 40 = .ok (.bipush 61, 2) := by decide +kernel
theorem dX5_readComparison_42 : decode cX5_readComparison 42 = .ok (.invokevirtual 85, 3) := by decide +kernel
theorem dX5_readComparison_45 : decode cX5_readComparison 45 = .ok (.aload_n 0, 1) := by decide +kernel
theorem dX5_readComparison_46 : decode cX5_readComparison 46 = .ok (.aload_n 1, 1) := by decide +kernel
theorem dX5_readComparison_47 : decode cX5_readComparison 47 = .ok (.iload_n 2, 1) := by decide +kernel
theorem dX5_readComparison_48 : decode cX5_readComparison 48 = .ok (.invokevirtual 89, 3) := by decide +kernel
theorem dX5_readComparison_51 : decode cX5_readComparison 51 = .ok (.aload_n 0, 1) := by decide +kernel
theorem dX5_readComparison_52 : decode cX5_readComparison 52 = .ok (.iload_n 3, 1) := by decide +kernel
theorem dX5_readComparison_53 : decode cX5_readComparison 53 = .ok (.iconst 0, 1) := by decide +kernel
theorem dX5_readComparison_54 : decode cX5_readComparison 54 = .ok (.invokevirtual 60, 3) := by decide +kernel
theorem dX5_readComparison_57 : decode cX5_readComparison 57 = .ok (.return_, 1) := by decide +kernel
theorem dX5_readValue_0 : decode cX5_readValue 0 = .ok (.aload_n 1, 1) := by decide +kernel
theorem dX5_readValue_1 : decode cX5_readValue 1 = .ok (.ldc 95, 2) := by decide +kernel
theorem dX5_readValue_3 : decode cX5_readValue 3 = .ok (.invokevirtual 33, 3) := by decide +kernel
theorem dX5_readValue_6 : decode cX5_readValue 6 = .ok (.ifCond .eq 12, 3) := by decide +kernel
theorem dX5_readValue_9 : decode cX5_readValue 9 = .ok (.aload_n 0, 1) := by decide +kernel
theorem dX5_readValue_10 : decode cX5_readValue 10 = .ok (.iconst 0, 1) := by decide +kernel
theorem dX5_readValue_11 : decode cX5_readValue 11 = .ok (.iconst (-1), 1) := by decide +kernel
theorem dX5_readValue_12 : decode cX5_readValue 12 = .ok (.invokevirtual 60, 3) := by decide +kernel
theorem dX5_readValue_15 : decode cX5_readValue 15 = .ok (.goto 154, 3) := by decide +kernel
theorem dX5_readValue_18 : decode cX5_readValue 18 = .ok (.aload_n 1, 1) := by decide +kernel
theorem dX5_readValue_19 : decode cX5_readValue 19 = .ok (.ldc 97, 2) := by decide +kernel
theorem dX5_readValue_21 : decode cX5_readValue 21 = .ok (.invokevirtual 33, 3) := by decide +kernel
theorem dX5_readValue_24 : decode cX5_readValue 24 = .ok (.ifCond .eq 13, 3) := by decide +kernel
theorem dX5_readValue_27 : decode cX5_readValue 27 = .ok (.aload_n 0, 1) := by decide +kernel
theorem dX5_readValue_28 : decode cX5_readValue 28 = .ok (.iconst 0, 1) := by decide +kernel
theorem dX5_readValue_29 : decode cX5_readValue 29 = .ok (.bipush (-2), 2) := by decide +kernel
theorem dX5_readValue_31 : decode cX5_readValue 31 = .ok (.invokevirtual 60, 3) := by decide +kernel
theorem dX5_readValue_34 : decode cX5_readValue 34 = .ok (.goto 135, 3) := by decide +kernel
theorem dX5_readValue_37 : decode cX5_readValue 37 = .ok (.aload_n 1, 1) := by decide +kernel
theorem dX5_readValue_38 : decode cX5_readValue 38 = .ok (.ldc 99, 2) := by decide +kernel
theorem dX5_readValue_40 : decode cX5_readValue 40 = .ok (.invokevirtual 33, 3) := by decide +kernel
theorem dX5_readValue_43 : decode cX5_readValue 43 = .ok (.ifCond .eq 12, 3) := by decide +kernel
theorem dX5_readValue_46 : decode cX5_readValue 46 = .ok (.aload_n 0, 1) := by decide +kernel
theorem dX5_readValue_47 : decode cX5_readValue 47 = .ok (.iconst 1, 1) := by decide +kernel
theorem dX5_readValue_48 : decode cX5_readValue 48 = .ok (.iconst 0, 1) := by decide +kernel
theorem dX5_readValue_49 : decode cX5_readValue 49 = .ok (.invokevirtual 60, 3) := by decide +kernel
theorem dX5_readValue_52 : decode cX5_readValue 52 = .ok (.goto 117, 3) := by decide +kernel
theorem dX5_readValue_55 : decode cX5_readValue 55 = .ok (.aload_n 1, 1) := by decide +kernel
theorem dX5_readValue_56 : decode cX5_readValue 56 = .ok (.ldc 101, 2) := by decide +kernel
theorem dX5_readValue_58 : decode cX5_readValue 58 = .ok (.invokevirtual 33, 3) := by decide +kernel
theorem dX5_readValue_61 : decode cX5_readValue 61 = .ok (.ifCond .eq 12, 3) := by decide +kernel
theorem dX5_readValue_64 : decode cX5_readValue 64 = .ok (.aload_n 0, 1) := by decide +kernel
theorem dX5_readValue_65 : decode cX5_readValue 65 = .ok (.iconst 2, 1) := by decide +kernel
theorem dX5_readValue_66 : decode cX5_readValue 66 = .ok (.iconst 0, 1) := by decide +kernel
theorem dX5_readValue_67 : decode cX5_readValue 67 = .ok (.invokevirtual 60, 3) := by decide +kernel
theorem dX5_readValue_70 : decode cX5_readValue 70 = .ok (.goto 99, 3) := by decide +kernel
theorem dX5_readValue_73 : decode cX5_readValue 73 = .ok (.aload_n 1, 1) := by decide +kernel
theorem dX5_readValue_74 : decode cX5_readValue 74 = .ok (.ldc 103, 2) := by decide +kernel
theorem dX5_readValue_76 : decode cX5_readValue 76 = .ok (.invokevirtual 33, 3) := by decide +kernel
theorem dX5_readValue_79 : decode cX5_readValue 79 = .ok (.ifCond .eq 21, 3) := by decide +kernel
theorem dX5_readValue_82 : decode cX5_readValue 82 = .ok (.aload_n 0, 1) := by decide +kernel
theorem dX5_readValue_83 : decode cX5_readValue 83 = .ok (.iconst 3, 1) := by decide +kernel
theorem dX5_readValue_84 : decode cX5_readValue 84 = .ok (.aload_n 1, 1) := by decide +kernel
theorem dX5_readValue_85 : decode cX5_readValue 85 = .ok (.iconst 0, 1) := by decide +kernel
theorem dX5_readValue_86 : decode cX5_readValue 86 = .ok (.iload_n 2, 1) := by decide +kernel
theorem dX5_readValue_87 : decode cX5_readValue 87 = .ok (.iconst 1, 1) := by decide +kernel
theorem dX5_readValue_88 : decode cX5_readValue 88 = .ok (.isub, 1) := by decide +kernel
theorem dX5_readValue_89 : decode cX5_readValue 89 = .ok (.ldc 105, 2) := by decide +kernel
theorem dX5_readValue_91 : decode cX5_readValue 91 = .ok (.invokevirtual 106, 3) := by decide +kernel
theorem dX5_readValue_94 : decode cX5_readValue 94 = .ok (.invokevirtual 60, 3) := by decide +kernel
theorem dX5_readValue_97 : decode cX5_readValue 97 = .ok (.goto 72, 3) := by decide +kernel
theorem dX5_readValue_100 : decode cX5_readValue 100 = .ok (.aload_n 1, 1) := by decide +kernel
theorem dX5_readValue_101 : decode cX5_readValue 101 = .ok (.ldc 110, 2) := by decide +kernel
theorem dX5_readValue_103 : decode cX5_readValue 103 = .ok (.invokevirtual 33, 3) := by decide +kernel
theorem dX5_readValue_106 : decode cX5_readValue 106 = .ok (.ifCond .eq 21, 3) := by decide +kernel
theorem dX5_readValue_109 : decode cX5_readValue 109 = .ok (.aload_n 0, 1) := by decide +kernel
theorem dX5_readValue_110 : decode cX5_readValue 110 = .ok (.iconst 4, 1) := by decide +kernel
theorem dX5_readValue_111 : decode cX5_readValue 111 = .ok (.aload_n 1, 1) := by decide +kernel
theorem dX5_readValue_112 : decode cX5_readValue 112 = .ok (.iconst 0, 1) := by decide +kernel
theorem dX5_readValue_113 : decode cX5_readValue 113 = .ok (.iload_n 2, 1) := by decide +kernel
theorem dX5_readValue_114 : decode cX5_readValue 114 = .ok (.iconst 1, 1) := by decide +kernel
theorem dX5_readValue_115 : decode cX5_readValue 115 = .ok (.isub, 1) := by decide +kernel
theorem dX5_readValue_116 : decode cX5_readValue 116 = .ok (.ldc 105, 2) := by decide +kernel
theorem dX5_readValue_118 : decode cX5_readValue 118 = .ok (.invokevirtual 106, 3) := by decide +kernel
theorem dX5_readValue_121 : decode cX5_readValue 121 = .ok (.invokevirtual 60, 3) := by decide +kernel
theorem dX5_readValue_124 : decode cX5_readValue 124 = .ok (.goto 45, 3) := by decide +kernel
theorem dX5_readValue_127 : decode cX5_readValue 127 = .ok (.aload_n 1, 1) := by decide +kernel
theorem dX5_readValue_128 : decode cX5_readValue 128 = .ok (.ldc 112, 2) := by decide +kernel
theorem dX5_readValue_130 : decode cX5_readValue 130 = .ok (.invokevirtual 33, 3) := by decide +kernel
theorem dX5_readValue_133 : decode cX5_readValue 133 = .ok (.ifCond .eq 21, 3) := by decide +kernel
theorem dX5_readValue_136 : decode cX5_readValue 136 = .ok (.aload_n 0, 1) := by decide +kernel
theorem dX5_readValue_137 : decode cX5_readValue 137 = .ok (.iconst 5, 1) := by decide +kernel
theorem dX5_readValue_138 : decode cX5_readValue 138 = .ok (.aload_n 1, 1) := by decide +kernel
theorem dX5_readValue_139 : decode cX5_readValue 139 = .ok (.iconst 0, 1) := by decide +kernel
theorem dX5_readValue_140 : decode cX5_readValue 140 = .ok (.iload_n 2, 1) := by decide +kernel
theorem dX5_readValue_141 : decode cX5_readValue 141 = .ok (.iconst 1, 1) := by decide +kernel
theorem dX5_readValue_142 : decode cX5_readValue 142 = .ok (.isub, 1) := by decide +kernel
theorem dX5_readValue_143 : decode cX5_readValue 143 = .ok (.ldc 105, 2) := by decide +kernel
theorem dX5_readValue_145 : decode cX5_readValue 145 = .ok (.invokevirtual 106, 3) := by decide +kernel
theorem dX5_readValue_148 : decode cX5_readValue 148 = .ok (.invokevirtual 60, 3) := by decide +kernel
theorem dX5_readValue_151 : decode cX5_readValue 151 = .ok (.goto 18, 3) := by decide +kernel
theorem dX5_readValue_154 : decode cX5_readValue 154 = .ok (.aload_n 0, 1) := by decide +kernel
theorem dX5_readValue_155 : decode cX5_readValue 155 = .ok (.iconst 0, 1) := by decide +kernel
theorem dX5_readValue_156 : decode cX5_readValue 156 = .ok (.aload_n 1, 1) := by decide +kernel
theorem dX5_readValue_157 : decode cX5_readValue 157 = .ok (.iconst 0, 1) := by decide +kernel
theorem dX5_readValue_158 : decode cX5_readValue 158 = .ok (.sipush 9999, 3) := by decide +kernel
theorem dX5_readValue_161 : decode cX5_readValue 161 = .ok (.ldc 105, 2) := by decide +kernel
theorem dX5_readValue_163 : decode cX5_readValue 163 = .ok (.invokevirtual 106, 3) := by decide +kernel
theorem dX5_readValue_166 : decode cX5_readValue 166 = .ok (.invokevirtual 60, 3) := by decide +kernel
theorem dX5_readValue_169 : decode cX5_readValue 169 = .ok (.return_, 1) := by decide +kernel
theorem dX5_add_0 : decode cX5_add 0 = .ok (.aload_n 0, 1) := by decide +kernel
theorem dX5_add_1 : decode cX5_add 1 = .ok (.getfield 21, 3) := by decide +kernel
theorem dX5_add_4 : decode cX5_add 4 = .ok (.sipush 200, 3) := by decide +kernel
theorem dX5_add_7 : decode cX5_add 7 = .ok (.if_icmp .ge 33, 3) := by decide +kernel
theorem dX5_add_10 : decode cX5_add 10 = .ok (.aload_n 0, 1) := by decide +kernel
theorem dX5_add_11 : decode cX5_add 11 = .ok (.getfield 9, 3) := by decide +kernel
theorem dX5_add_14 : decode cX5_add 14 = .ok (.aload_n 0, 1) := by decide +kernel
theorem dX5_add_15 : decode cX5_add 15 = .ok (.getfield 21, 3) := by decide +kernel
theorem dX5_add_18 : decode cX5_add 18 = .ok (.iload_n 1, 1) := by decide +kernel
theorem dX5_add_19 : decode cX5_add 19 = .ok (.iastore, 1) := by decide +kernel
theorem dX5_add_20 : decode cX5_add 20 = .ok (.aload_n 0, 1) := by decide +kernel
theorem dX5_add_21 : decode cX5_add 21 = .ok (.getfield 15, 3) := by decide +kernel
theorem dX5_add_24 : decode cX5_add 24 = .ok (.aload_n 0, 1) := by decide +kernel
theorem dX5_add_25 : decode cX5_add 25 = .ok (.getfield 21, 3) := by decide +kernel
theorem dX5_add_28 : decode cX5_add 28 = .ok (.iload_n 2, 1) := by decide +kernel
theorem dX5_add_29 : decode cX5_add 29 = .ok (.iastore, 1) := by decide +kernel
theorem dX5_add_30 : decode cX5_add 30 = .ok (.aload_n 0, 1) := by decide +kernel
theorem dX5_add_31 : decode cX5_add 31 = .ok (.dup, 1) := by decide +kernel
theorem dX5_add_32 : decode cX5_add 32 = .ok (.getfield 21, 3) := by decide +kernel
theorem dX5_add_35 : decode cX5_add 35 = .ok (.iconst 1, 1) := by decide +kernel
theorem dX5_add_36 : decode cX5_add 36 = .ok (.iadd, 1) := by decide +kernel
theorem dX5_add_37 : decode cX5_add 37 = .ok (.putfield 21, 3) := by decide +kernel
theorem dX5_add_40 : decode cX5_add 40 = .ok (.return_, 1) := by decide +kernel
theorem dX5_answer_0 : decode cX5_answer 0 = .ok (.iconst 0, 1) := by decide +kernel
theorem dX5_answer_1 : decode cX5_answer 1 = .ok (.istore_n 3, 1) := by decide +kernel
theorem dX5_answer_2 : decode cX5_answer 2 = .ok (.iconst 0, 1) := by decide +kernel
theorem dX5_answer_3 : decode cX5_answer 3 = .ok (.istore 4, 2) := by decide +kernel
theorem dX5_answer_5 : decode cX5_answer 5 = .ok (.iload 4, 2) := by decide +kernel
theorem dX5_answer_7 : decode cX5_answer 7 = .ok (.aload_n 1, 1) := by decide +kernel
theorem dX5_answer_8 : decode cX5_answer 8 = .ok (.getfield 114, 3) := by decide +kernel
theorem dX5_answer_11 : decode cX5_answer 11 = .ok (.if_icmp .ge 60, 3) := by decide +kernel
theorem dX5_answer_14 : decode cX5_answer 14 = .ok (.iload 4, 2) := by decide +kernel
theorem dX5_answer_16 : decode cX5_answer 16 = .ok (.sipush 200, 3) := by decide +kernel
theorem dX5_answer_19 : decode cX5_answer 19 = .ok (.if_icmp .ge 52, 3) := by decide +kernel
theorem dX5_answer_22 : decode cX5_answer 22 = .ok (.aload_n 0, 1) := by decide +kernel
theorem dX5_answer_23 : decode cX5_answer 23 = .ok (.aload_n 1, 1) := by decide +kernel
theorem dX5_answer_24 : decode cX5_answer 24 = .ok (.aload_n 2, 1) := by decide +kernel
theorem dX5_answer_25 : decode cX5_answer 25 = .ok (.iload 4, 2) := by decide +kernel
theorem dX5_answer_27 : decode cX5_answer 27 = .ok (.invokevirtual 119, 3) := by decide +kernel
theorem dX5_answer_30 : decode cX5_answer 30 = .ok (.ifCond .eq 35, 3) := by decide +kernel
theorem dX5_answer_33 : decode cX5_answer 33 = .ok (.aload_n 0, 1) := by decide +kernel
theorem dX5_answer_34 : decode cX5_answer 34 = .ok (.getfield 28, 3) := by decide +kernel
theorem dX5_answer_37 : decode cX5_answer 37 = .ok (.iconst 1, 1) := by decide +kernel
theorem dX5_answer_38 : decode cX5_answer 38 = .ok (.if_icmp .ne 6, 3) := by decide +kernel
theorem dX5_answer_41 : decode cX5_answer 41 = .ok (.iload 4, 2) := by decide +kernel
theorem dX5_answer_43 : decode cX5_answer 43 = .ok (.ireturn, 1) := by decide +kernel
theorem dX5_answer_44 : decode cX5_answer 44 = .ok (.iload_n 3, 1) := by decide +kernel
theorem dX5_answer_45 : decode cX5_answer 45 = .ok (.aload_n 0, 1) := by decide +kernel
theorem dX5_answer_46 : decode cX5_answer 46 = .ok (.getfield 28, 3) := by decide +kernel
theorem dX5_answer_49 : decode cX5_answer 49 = .ok (.ifCond .ne 7, 3) := by decide +kernel
theorem dX5_answer_52 : decode cX5_answer 52 = .ok (.iconst 1, 1) := by decide +kernel
theorem dX5_answer_53 : decode cX5_answer 53 = .ok (.goto 10, 3) := by decide +kernel
theorem dX5_answer_56 : decode cX5_answer 56 = .ok (.aload_n 2, 1) := by decide +kernel
theorem dX5_answer_57 : decode cX5_answer 57 = .ok (.getfield 123, 3) := by decide +kernel
theorem dX5_answer_60 : decode cX5_answer 60 = .ok (.iload 4, 2) := by decide +kernel
theorem dX5_answer_62 : decode cX5_answer 62 = .ok (.iaload, 1) := by decide +kernel
theorem dX5_answer_63 : decode cX5_answer 63 = .ok (.iadd, 1) := by decide +kernel
theorem dX5_answer_64 : decode cX5_answer 64 = .ok (.istore_n 3, 1) := by decide +kernel
theorem dX5_answer_65 : decode cX5_answer 65 = .ok (.iinc 4 1, 3) := by decide +kernel
theorem dX5_answer_68 : decode cX5_answer 68 = .ok (.goto (-63), 3) := by decide +kernel
theorem dX5_answer_71 : decode cX5_answer 71 = .ok (.aload_n 0, 1) := by decide +kernel
theorem dX5_answer_72 : decode cX5_answer 72 = .ok (.getfield 28, 3) := by decide +kernel
theorem dX5_answer_75 : decode cX5_answer 75 = .ok (.iconst 1, 1) := by decide +kernel
theorem dX5_answer_76 : decode cX5_answer 76 = .ok (.if_icmp .ne 7, 3) := by decide +kernel
theorem dX5_answer_79 : decode cX5_answer 79 = .ok (.iconst (-1), 1) := by decide +kernel
theorem dX5_answer_80 : decode cX5_answer 80 = .ok (.goto 4, 3) := by decide +kernel
theorem dX5_answer_83 : decode cX5_answer 83 = .ok (.iload_n 3, 1) := by decide +kernel
theorem dX5_answer_84 : decode cX5_answer 84 = .ok (.ireturn, 1) := by decide +kernel
theorem dX5_holds_0 : decode cX5_holds 0 = .ok (.aload_n 0, 1) := by decide +kernel
theorem dX5_holds_1 : decode cX5_holds 1 = .ok (.iconst 0, 1) := by decide +kernel
theorem dX5_holds_2 : decode cX5_holds 2 = .ok (.putfield 25, 3) := by decide +kernel
theorem dX5_holds_5 : decode cX5_holds 5 = .ok (.iconst 0, 1) := by decide +kernel
theorem dX5_holds_6 : decode cX5_holds 6 = .ok (.istore 4, 2) := by decide +kernel
theorem dX5_holds_8 : decode cX5_holds 8 = .ok (.iload 4, 2) := by decide +kernel
theorem dX5_holds_10 : decode cX5_holds 10 = .ok (.aload_n 0, 1) := by decide +kernel
theorem dX5_holds_11 : decode cX5_holds 11 = .ok (.getfield 21, 3) := by decide +kernel
theorem dX5_holds_14 : decode cX5_holds 14 = .ok (.if_icmp .ge 129, 3) := by decide +kernel
theorem dX5_holds_17 : decode cX5_holds 17 = .ok (.iload 4, 2) := by decide +kernel
theorem dX5_holds_19 : decode cX5_holds 19 = .ok (.sipush 200, 3) := by decide +kernel
theorem dX5_holds_22 : decode cX5_holds 22 = .ok (.if_icmp .ge 121, 3) := by decide +kernel
theorem dX5_holds_25 : decode cX5_holds 25 = .ok (.aload_n 0, 1) := by decide +kernel
theorem dX5_holds_26 : decode cX5_holds 26 = .ok (.getfield 9, 3) := by decide +kernel
theorem dX5_holds_29 : decode cX5_holds 29 = .ok (.iload 4, 2) := by decide +kernel
theorem dX5_holds_31 : decode cX5_holds 31 = .ok (.iaload, 1) := by decide +kernel
theorem dX5_holds_32 : decode cX5_holds 32 = .ok (.istore 5, 2) := by decide +kernel
theorem dX5_holds_34 : decode cX5_holds 34 = .ok (.iload 5, 2) := by decide +kernel
theorem dX5_holds_36 : decode cX5_holds 36 = .ok (.iconst 2, 1) := by decide +kernel
theorem dX5_holds_37 : decode cX5_holds 37 = .ok (.if_icmp .gt 24, 3) := by decide +kernel
theorem dX5_holds_40 : decode cX5_holds 40 = .ok (.aload_n 0, 1) := by decide +kernel
theorem dX5_holds_41 : decode cX5_holds 41 = .ok (.iload 5, 2) := by decide +kernel
theorem dX5_holds_43 : decode cX5_holds 43 = .ok (.aload_n 0, 1) := by decide +kernel
theorem dX5_holds_44 : decode cX5_holds 44 = .ok (.getfield 15, 3) := by decide +kernel
theorem dX5_holds_47 : decode cX5_holds 47 = .ok (.iload 4, 2) := by decide +kernel
theorem dX5_holds_49 : decode cX5_holds 49 = .ok (.iaload, 1) := by decide +kernel
theorem dX5_holds_50 : decode cX5_holds 50 = .ok (.aload_n 2, 1) := by decide +kernel
theorem dX5_holds_51 : decode cX5_holds 51 = .ok (.iload_n 3, 1) := by decide +kernel
theorem dX5_holds_52 : decode cX5_holds 52 = .ok (.invokestatic 128, 3) := by decide +kernel
theorem dX5_holds_55 : decode cX5_holds 55 = .ok (.invokevirtual 132, 3) := by decide +kernel
theorem dX5_holds_58 : decode cX5_holds 58 = .ok (.goto 79, 3) := by decide +kernel
theorem dX5_holds_61 : decode cX5_holds 61 = .ok (.iload 5, 2) := by decide +kernel
theorem dX5_holds_63 : decode cX5_holds 63 = .ok (.iconst 5, 1) := by decide +kernel
theorem dX5_holds_64 : decode cX5_holds 64 = .ok (.if_icmp .gt 24, 3) := by decide +kernel
theorem dX5_holds_67 : decode cX5_holds 67 = .ok (.aload_n 0, 1) := by decide +kernel
theorem dX5_holds_68 : decode cX5_holds 68 = .ok (.iload 5, 2) := by decide +kernel
theorem dX5_holds_70 : decode cX5_holds 70 = .ok (.aload_n 0, 1) := by decide +kernel
theorem dX5_holds_71 : decode cX5_holds 71 = .ok (.getfield 15, 3) := by decide +kernel
theorem dX5_holds_74 : decode cX5_holds 74 = .ok (.iload 4, 2) := by decide +kernel
theorem dX5_holds_76 : decode cX5_holds 76 = .ok (.iaload, 1) := by decide +kernel
theorem dX5_holds_77 : decode cX5_holds 77 = .ok (.aload_n 1, 1) := by decide +kernel
theorem dX5_holds_78 : decode cX5_holds 78 = .ok (.iload_n 3, 1) := by decide +kernel
theorem dX5_holds_79 : decode cX5_holds 79 = .ok (.invokestatic 135, 3) := by decide +kernel
theorem dX5_holds_82 : decode cX5_holds 82 = .ok (.invokevirtual 132, 3) := by decide +kernel
theorem dX5_holds_85 : decode cX5_holds 85 = .ok (.goto 52, 3) := by decide +kernel
theorem dX5_holds_88 : decode cX5_holds 88 = .ok (.iload 5, 2) := by decide +kernel
theorem dX5_holds_90 : decode cX5_holds 90 = .ok (.bipush 9, 2) := by decide +kernel
theorem dX5_holds_92 : decode cX5_holds 92 = .ok (.if_icmp .ne 16, 3) := by decide +kernel
theorem dX5_holds_95 : decode cX5_holds 95 = .ok (.aload_n 0, 1) := by decide +kernel
theorem dX5_holds_96 : decode cX5_holds 96 = .ok (.iconst 1, 1) := by decide +kernel
theorem dX5_holds_97 : decode cX5_holds 97 = .ok (.aload_n 0, 1) := by decide +kernel
theorem dX5_holds_98 : decode cX5_holds 98 = .ok (.invokevirtual 139, 3) := by decide +kernel
theorem dX5_holds_101 : decode cX5_holds 101 = .ok (.isub, 1) := by decide +kernel
theorem dX5_holds_102 : decode cX5_holds 102 = .ok (.invokevirtual 132, 3) := by decide +kernel
theorem dX5_holds_105 : decode cX5_holds 105 = .ok (.goto 32, 3) := by decide +kernel
theorem dX5_holds_108 : decode cX5_holds 108 = .ok (.aload_n 0, 1) := by decide +kernel
theorem dX5_holds_109 : decode cX5_holds 109 = .ok (.invokevirtual 139, 3) := by decide +kernel
theorem dX5_holds_112 : decode cX5_holds 112 = .ok (.istore 6, 2) := by decide +kernel
theorem dX5_holds_114 : decode cX5_holds 114 = .ok (.aload_n 0, 1) := by decide +kernel
theorem dX5_holds_115 : decode cX5_holds 115 = .ok (.iload 5, 2) := by decide +kernel
theorem dX5_holds_117 : decode cX5_holds 117 = .ok (.aload_n 0, 1) := by decide +kernel
theorem dX5_holds_118 : decode cX5_holds 118 = .ok (.invokevirtual 139, 3) := by decide +kernel
theorem dX5_holds_121 : decode cX5_holds 121 = .ok (.iload 6, 2) := by decide +kernel
theorem dX5_holds_123 : decode cX5_holds 123 = .ok (.invokestatic 143, 3) := by decide +kernel
theorem dX5_holds_126 : decode cX5_holds 126 = .ok (.ifCond .eq 7, 3) := by decide +kernel
theorem dX5_holds_129 : decode cX5_holds 129 = .ok (.iconst 1, 1) := by decide +kernel
theorem dX5_holds_130 : decode cX5_holds 130 = .ok (.goto 4, 3) := by decide +kernel
theorem dX5_holds_133 : decode cX5_holds 133 = .ok (.iconst 0, 1) := by decide +kernel
theorem dX5_holds_134 : decode cX5_holds 134 = .ok (.invokevirtual 132, 3) := by decide +kernel
theorem dX5_holds_137 : decode cX5_holds 137 = .ok (.iinc 4 1, 3) := by decide +kernel
theorem dX5_holds_140 : decode cX5_holds 140 = .ok (.goto (-132), 3) := by decide +kernel
theorem dX5_holds_143 : decode cX5_holds 143 = .ok (.aload_n 0, 1) := by decide +kernel
theorem dX5_holds_144 : decode cX5_holds 144 = .ok (.invokevirtual 139, 3) := by decide +kernel
theorem dX5_holds_147 : decode cX5_holds 147 = .ok (.ifCond .eq 7, 3) := by decide +kernel
theorem dX5_holds_150 : decode cX5_holds 150 = .ok (.iconst 1, 1) := by decide +kernel
theorem dX5_holds_151 : decode cX5_holds 151 = .ok (.goto 4, 3) := by decide +kernel
theorem dX5_holds_154 : decode cX5_holds 154 = .ok (.iconst 0, 1) := by decide +kernel
theorem dX5_holds_155 : decode cX5_holds 155 = .ok (.ireturn, 1) := by decide +kernel
theorem dX5_ballotValue_0 : decode cX5_ballotValue 0 = .ok (.iload_n 0, 1) := by decide +kernel
theorem dX5_ballotValue_1 : decode cX5_ballotValue 1 = .ok (.ifCond .ne 5, 3) := by decide +kernel
theorem dX5_ballotValue_4 : decode cX5_ballotValue 4 = .ok (.iload_n 1, 1) := by decide +kernel
theorem dX5_ballotValue_5 : decode cX5_ballotValue 5 = .ok (.ireturn, 1) := by decide +kernel
theorem dX5_ballotValue_6 : decode cX5_ballotValue 6 = .ok (.iload_n 0, 1) := by decide +kernel
theorem dX5_ballotValue_7 : decode cX5_ballotValue 7 = .ok (.iconst 1, 1) := by decide +kernel
theorem dX5_ballotValue_8 : decode cX5_ballotValue 8 = .ok (.if_icmp .ne 7, 3) := by decide +kernel
theorem dX5_ballotValue_11 : decode cX5_ballotValue 11 = .ok (.iload_n 3, 1) := by decide +kernel
theorem dX5_ballotValue_12 : decode cX5_ballotValue 12 = .ok (.goto 9, 3) := by decide +kernel
theorem dX5_ballotValue_15 : decode cX5_ballotValue 15 = .ok (.aload_n 2, 1) := by decide +kernel
theorem dX5_ballotValue_16 : decode cX5_ballotValue 16 = .ok (.getfield 123, 3) := by decide +kernel
theorem dX5_ballotValue_19 : decode cX5_ballotValue 19 = .ok (.iload_n 3, 1) := by decide +kernel
theorem dX5_ballotValue_20 : decode cX5_ballotValue 20 = .ok (.iaload, 1) := by decide +kernel
theorem dX5_ballotValue_21 : decode cX5_ballotValue 21 = .ok (.ireturn, 1) := by decide +kernel
theorem dX5_raceValue_0 : decode cX5_raceValue 0 = .ok (.iload_n 1, 1) := by decide +kernel
theorem dX5_raceValue_1 : decode cX5_raceValue 1 = .ok (.ifCond .lt 8, 3) := by decide +kernel
theorem dX5_raceValue_4 : decode cX5_raceValue 4 = .ok (.iload_n 1, 1) := by decide +kernel
theorem dX5_raceValue_5 : decode cX5_raceValue 5 = .ok (.iconst 3, 1) := by decide +kernel
theorem dX5_raceValue_6 : decode cX5_raceValue 6 = .ok (.if_icmp .lt 5, 3) := by decide +kernel
theorem dX5_raceValue_9 : decode cX5_raceValue 9 = .ok (.iconst 0, 1) := by decide +kernel
theorem dX5_raceValue_10 : decode cX5_raceValue 10 = .ok (.ireturn, 1) := by decide +kernel
theorem dX5_raceValue_11 : decode cX5_raceValue 11 = .ok (.aload_n 2, 1) := by decide +kernel
theorem dX5_raceValue_12 : decode cX5_raceValue 12 = .ok (.getfield 147, 3) := by decide +kernel
theorem dX5_raceValue_15 : decode cX5_raceValue 15 = .ok (.iload_n 1, 1) := by decide +kernel
theorem dX5_raceValue_16 : decode cX5_raceValue 16 = .ok (.aaload, 1) := by decide +kernel
theorem dX5_raceValue_17 : decode cX5_raceValue 17 = .ok (.astore 4, 2) := by decide +kernel
theorem dX5_raceValue_19 : decode cX5_raceValue 19 = .ok (.iload_n 0, 1) := by decide +kernel
theorem dX5_raceValue_20 : decode cX5_raceValue 20 = .ok (.iconst 5, 1) := by decide +kernel
theorem dX5_raceValue_21 : decode cX5_raceValue 21 = .ok (.if_icmp .ne 11, 3) := by decide +kernel
theorem dX5_raceValue_24 : decode cX5_raceValue 24 = .ok (.aload 4, 2) := by decide +kernel
theorem dX5_raceValue_26 : decode cX5_raceValue 26 = .ok (.getfield 151, 3) := by decide +kernel
theorem dX5_raceValue_29 : decode cX5_raceValue 29 = .ok (.iload_n 3, 1) := by decide +kernel
theorem dX5_raceValue_30 : decode cX5_raceValue 30 = .ok (.iaload, 1) := by decide +kernel
theorem dX5_raceValue_31 : decode cX5_raceValue 31 = .ok (.ireturn, 1) := by decide +kernel
theorem dX5_raceValue_32 : decode cX5_raceValue 32 = .ok (.iload_n 0, 1) := by decide +kernel
theorem dX5_raceValue_33 : decode cX5_raceValue 33 = .ok (.iconst 3, 1) := by decide +kernel
theorem dX5_raceValue_34 : decode cX5_raceValue 34 = .ok (.if_icmp .ne 13, 3) := by decide +kernel
theorem dX5_raceValue_37 : decode cX5_raceValue 37 = .ok (.aload 4, 2) := by decide +kernel
theorem dX5_raceValue_39 : decode cX5_raceValue 39 = .ok (.getfield 156, 3) := by decide +kernel
theorem dX5_raceValue_42 : decode cX5_raceValue 42 = .ok (.iload_n 3, 1) := by decide +kernel
theorem dX5_raceValue_43 : decode cX5_raceValue 43 = .ok (.iaload, 1) := by decide +kernel
theorem dX5_raceValue_44 : decode cX5_raceValue 44 = .ok (.goto 10, 3) := by decide +kernel
theorem dX5_raceValue_47 : decode cX5_raceValue 47 = .ok (.aload 4, 2) := by decide +kernel
theorem dX5_raceValue_49 : decode cX5_raceValue 49 = .ok (.getfield 159, 3) := by decide +kernel
theorem dX5_raceValue_52 : decode cX5_raceValue 52 = .ok (.iload_n 3, 1) := by decide +kernel
theorem dX5_raceValue_53 : decode cX5_raceValue 53 = .ok (.iaload, 1) := by decide +kernel
theorem dX5_raceValue_54 : decode cX5_raceValue 54 = .ok (.ireturn, 1) := by decide +kernel
theorem dX5_isSo_0 : decode cX5_isSo 0 = .ok (.iload_n 0, 1) := by decide +kernel
theorem dX5_isSo_1 : decode cX5_isSo 1 = .ok (.tableswitch 82 6 10 #[35, 46, 57, 82, 68], 35) := by decide +kernel
theorem dX5_isSo_36 : decode cX5_isSo 36 = .ok (.iload_n 1, 1) := by decide +kernel
theorem dX5_isSo_37 : decode cX5_isSo 37 = .ok (.iload_n 2, 1) := by decide +kernel
theorem dX5_isSo_38 : decode cX5_isSo 38 = .ok (.if_icmp .ge 7, 3) := by decide +kernel
theorem dX5_isSo_41 : decode cX5_isSo 41 = .ok (.iconst 1, 1) := by decide +kernel
theorem dX5_isSo_42 : decode cX5_isSo 42 = .ok (.goto 4, 3) := by decide +kernel
theorem dX5_isSo_45 : decode cX5_isSo 45 = .ok (.iconst 0, 1) := by decide +kernel
theorem dX5_isSo_46 : decode cX5_isSo 46 = .ok (.ireturn, 1) := by decide +kernel
theorem dX5_isSo_47 : decode cX5_isSo 47 = .ok (.iload_n 1, 1) := by decide +kernel
theorem dX5_isSo_48 : decode cX5_isSo 48 = .ok (.iload_n 2, 1) := by decide +kernel
theorem dX5_isSo_49 : decode cX5_isSo 49 = .ok (.if_icmp .ne 7, 3) := by decide +kernel
theorem dX5_isSo_52 : decode cX5_isSo 52 = .ok (.iconst 1, 1) := by decide +kernel
theorem dX5_isSo_53 : decode cX5_isSo 53 = .ok (.goto 4, 3) := by decide +kernel
theorem dX5_isSo_56 : decode cX5_isSo 56 = .ok (.iconst 0, 1) := by decide +kernel
theorem dX5_isSo_57 : decode cX5_isSo 57 = .ok (.ireturn, 1) := by decide +kernel
theorem dX5_isSo_58 : decode cX5_isSo 58 = .ok (.iload_n 1, 1) := by decide +kernel
theorem dX5_isSo_59 : decode cX5_isSo 59 = .ok (.iload_n 2, 1) := by decide +kernel
theorem dX5_isSo_60 : decode cX5_isSo 60 = .ok (.if_icmp .le 7, 3) := by decide +kernel
theorem dX5_isSo_63 : decode cX5_isSo 63 = .ok (.iconst 1, 1) := by decide +kernel
theorem dX5_isSo_64 : decode cX5_isSo 64 = .ok (.goto 4, 3) := by decide +kernel
theorem dX5_isSo_67 : decode cX5_isSo 67 = .ok (.iconst 0, 1) := by decide +kernel
theorem dX5_isSo_68 : decode cX5_isSo 68 = .ok (.ireturn, 1) := by decide +kernel
theorem dX5_isSo_69 : decode cX5_isSo 69 = .ok (.iload_n 1, 1) := by decide +kernel
theorem dX5_isSo_70 : decode cX5_isSo 70 = .ok (.ifCond .eq 11, 3) := by decide +kernel
theorem dX5_isSo_73 : decode cX5_isSo 73 = .ok (.iload_n 2, 1) := by decide +kernel
theorem dX5_isSo_74 : decode cX5_isSo 74 = .ok (.ifCond .eq 7, 3) := by decide +kernel
theorem dX5_isSo_77 : decode cX5_isSo 77 = .ok (.iconst 1, 1) := by decide +kernel
theorem dX5_isSo_78 : decode cX5_isSo 78 = .ok (.goto 4, 3) := by decide +kernel
theorem dX5_isSo_81 : decode cX5_isSo 81 = .ok (.iconst 0, 1) := by decide +kernel
theorem dX5_isSo_82 : decode cX5_isSo 82 = .ok (.ireturn, 1) := by decide +kernel
theorem dX5_isSo_83 : decode cX5_isSo 83 = .ok (.iload_n 1, 1) := by decide +kernel
theorem dX5_isSo_84 : decode cX5_isSo 84 = .ok (.ifCond .ne 7, 3) := by decide +kernel
theorem dX5_isSo_87 : decode cX5_isSo 87 = .ok (.iload_n 2, 1) := by decide +kernel
theorem dX5_isSo_88 : decode cX5_isSo 88 = .ok (.ifCond .eq 7, 3) := by decide +kernel
theorem dX5_isSo_91 : decode cX5_isSo 91 = .ok (.iconst 1, 1) := by decide +kernel
theorem dX5_isSo_92 : decode cX5_isSo 92 = .ok (.goto 4, 3) := by decide +kernel
theorem dX5_isSo_95 : decode cX5_isSo 95 = .ok (.iconst 0, 1) := by decide +kernel
theorem dX5_isSo_96 : decode cX5_isSo 96 = .ok (.ireturn, 1) := by decide +kernel
theorem dX5_push_0 : decode cX5_push 0 = .ok (.aload_n 0, 1) := by decide +kernel
theorem dX5_push_1 : decode cX5_push 1 = .ok (.getfield 25, 3) := by decide +kernel
theorem dX5_push_4 : decode cX5_push 4 = .ok (.aload_n 0, 1) := by decide +kernel
theorem dX5_push_5 : decode cX5_push 5 = .ok (.getfield 18, 3) := by decide +kernel
theorem dX5_push_8 : decode cX5_push 8 = .ok (.arraylength, 1) := by decide +kernel
theorem dX5_push_9 : decode cX5_push 9 = .ok (.if_icmp .ge 23, 3) := by decide +kernel
theorem dX5_push_12 : decode cX5_push 12 = .ok (.aload_n 0, 1) := by decide +kernel
theorem dX5_push_13 : decode cX5_push 13 = .ok (.getfield 18, 3) := by decide +kernel
theorem dX5_push_16 : decode cX5_push 16 = .ok (.aload_n 0, 1) := by decide +kernel
theorem dX5_push_17 : decode cX5_push 17 = .ok (.getfield 25, 3) := by decide +kernel
theorem dX5_push_20 : decode cX5_push 20 = .ok (.iload_n 1, 1) := by decide +kernel
theorem dX5_push_21 : decode cX5_push 21 = .ok (.iastore, 1) := by decide +kernel
theorem dX5_push_22 : decode cX5_push 22 = .ok (.aload_n 0, 1) := by decide +kernel
theorem dX5_push_23 : decode cX5_push 23 = .ok (.dup, 1) := by decide +kernel
theorem dX5_push_24 : decode cX5_push 24 = .ok (.getfield 25, 3) := by decide +kernel
theorem dX5_push_27 : decode cX5_push 27 = .ok (.iconst 1, 1) := by decide +kernel
theorem dX5_push_28 : decode cX5_push 28 = .ok (.iadd, 1) := by decide +kernel
theorem dX5_push_29 : decode cX5_push 29 = .ok (.putfield 25, 3) := by decide +kernel
theorem dX5_push_32 : decode cX5_push 32 = .ok (.return_, 1) := by decide +kernel
theorem dX5_pop_0 : decode cX5_pop 0 = .ok (.aload_n 0, 1) := by decide +kernel
theorem dX5_pop_1 : decode cX5_pop 1 = .ok (.getfield 25, 3) := by decide +kernel
theorem dX5_pop_4 : decode cX5_pop 4 = .ok (.ifCond .gt 5, 3) := by decide +kernel
theorem dX5_pop_7 : decode cX5_pop 7 = .ok (.iconst 0, 1) := by decide +kernel
theorem dX5_pop_8 : decode cX5_pop 8 = .ok (.ireturn, 1) := by decide +kernel
theorem dX5_pop_9 : decode cX5_pop 9 = .ok (.aload_n 0, 1) := by decide +kernel
theorem dX5_pop_10 : decode cX5_pop 10 = .ok (.dup, 1) := by decide +kernel
theorem dX5_pop_11 : decode cX5_pop 11 = .ok (.getfield 25, 3) := by decide +kernel
theorem dX5_pop_14 : decode cX5_pop 14 = .ok (.iconst 1, 1) := by decide +kernel
theorem dX5_pop_15 : decode cX5_pop 15 = .ok (.isub, 1) := by decide +kernel
theorem dX5_pop_16 : decode cX5_pop 16 = .ok (.putfield 25, 3) := by decide +kernel
theorem dX5_pop_19 : decode cX5_pop 19 = .ok (.aload_n 0, 1) := by decide +kernel
theorem dX5_pop_20 : decode cX5_pop 20 = .ok (.getfield 18, 3) := by decide +kernel
theorem dX5_pop_23 : decode cX5_pop 23 = .ok (.aload_n 0, 1) := by decide +kernel
theorem dX5_pop_24 : decode cX5_pop 24 = .ok (.getfield 25, 3) := by decide +kernel
theorem dX5_pop_27 : decode cX5_pop 27 = .ok (.iaload, 1) := by decide +kernel
theorem dX5_pop_28 : decode cX5_pop 28 = .ok (.ireturn, 1) := by decide +kernel
theorem dX6_init_0 : decode cX6_init 0 = .ok (.aload_n 0, 1) := by decide +kernel
theorem dX6_init_1 : decode cX6_init 1 = .ok (.invokespecial 3, 3) := by decide +kernel
theorem dX6_init_4 : decode cX6_init 4 = .ok (.aload_n 0, 1) := by decide +kernel
theorem dX6_init_5 : decode cX6_init 5 = .ok (.iconst 0, 1) := by decide +kernel
theorem dX6_init_6 : decode cX6_init 6 = .ok (.newarray .byte, 2) := by decide +kernel
theorem dX6_init_8 : decode cX6_init 8 = .ok (.putfield 9, 3) := by decide +kernel
theorem dX6_init_11 : decode cX6_init 11 = .ok (.aload_n 0, 1) := by decide +kernel
theorem dX6_init_12 : decode cX6_init 12 = .ok (.iconst 0, 1) := by decide +kernel
theorem dX6_init_13 : decode cX6_init 13 = .ok (.putfield 15, 3) := by decide +kernel
theorem dX6_init_16 : decode cX6_init 16 = .ok (.aload_n 0, 1) := by decide +kernel
theorem dX6_init_17 : decode cX6_init 17 = .ok (.iconst 0, 1) := by decide +kernel
theorem dX6_init_18 : decode cX6_init 18 = .ok (.putfield 19, 3) := by decide +kernel
theorem dX6_init_21 : decode cX6_init 21 = .ok (.aload_n 0, 1) := by decide +kernel
theorem dX6_init_22 : decode cX6_init 22 = .ok (.iconst 0, 1) := by decide +kernel
theorem dX6_init_23 : decode cX6_init 23 = .ok (.putfield 22, 3) := by decide +kernel
theorem dX6_init_26 : decode cX6_init 26 = .ok (.aload_n 0, 1) := by decide +kernel
theorem dX6_init_27 : decode cX6_init 27 = .ok (.iconst 0, 1) := by decide +kernel
theorem dX6_init_28 : decode cX6_init 28 = .ok (.putfield 25, 3) := by decide +kernel
theorem dX6_init_31 : decode cX6_init 31 = .ok (.aload_n 0, 1) := by decide +kernel
theorem dX6_init_32 : decode cX6_init 32 = .ok (.iconst 0, 1) := by decide +kernel
theorem dX6_init_33 : decode cX6_init 33 = .ok (.putfield 28, 3) := by decide +kernel
theorem dX6_init_36 : decode cX6_init 36 = .ok (.aload_n 0, 1) := by decide +kernel
theorem dX6_init_37 : decode cX6_init 37 = .ok (.iconst 0, 1) := by decide +kernel
theorem dX6_init_38 : decode cX6_init 38 = .ok (.putfield 31, 3) := by decide +kernel
theorem dX6_init_41 : decode cX6_init 41 = .ok (.aload_n 0, 1) := by decide +kernel
theorem dX6_init_42 : decode cX6_init 42 = .ok (.iconst (-1), 1) := by decide +kernel
theorem dX6_init_43 : decode cX6_init 43 = .ok (.putfield 34, 3) := by decide +kernel
theorem dX6_init_46 : decode cX6_init 46 = .ok (.return_, 1) := by decide +kernel
theorem dX6_open_0 : decode cX6_open 0 = .ok (.aload_n 0, 1) := by decide +kernel
theorem dX6_open_1 : decode cX6_open 1 = .ok (.aload_n 1, 1) := by decide +kernel
theorem dX6_open_2 : decode cX6_open 2 = .ok (.putfield 9, 3) := by decide +kernel
theorem dX6_open_5 : decode cX6_open 5 = .ok (.aload_n 0, 1) := by decide +kernel
theorem dX6_open_6 : decode cX6_open 6 = .ok (.iconst 0, 1) := by decide +kernel
theorem dX6_open_7 : decode cX6_open 7 = .ok (.iload_n 2, 1) := by decide +kernel
theorem dX6_open_8 : decode cX6_open 8 = .ok (.aload_n 1, 1) := by decide +kernel
theorem dX6_open_9 : decode cX6_open 9 = .ok (.arraylength, 1) := by decide +kernel
theorem dX6_open_10 : decode cX6_open 10 = .ok (.invokestatic 37, 3) := by decide +kernel
theorem dX6_open_13 : decode cX6_open 13 = .ok (.invokestatic 43, 3) := by decide +kernel
theorem dX6_open_16 : decode cX6_open 16 = .ok (.putfield 15, 3) := by decide +kernel
theorem dX6_open_19 : decode cX6_open 19 = .ok (.aload_n 0, 1) := by decide +kernel
theorem dX6_open_20 : decode cX6_open 20 = .ok (.iconst 0, 1) := by decide +kernel
theorem dX6_open_21 : decode cX6_open 21 = .ok (.putfield 22, 3) := by decide +kernel
theorem dX6_open_24 : decode cX6_open 24 = .ok (.aload_n 0, 1) := by decide +kernel
theorem dX6_open_25 : decode cX6_open 25 = .ok (.iconst 0, 1) := by decide +kernel
theorem dX6_open_26 : decode cX6_open 26 = .ok (.putfield 31, 3) := by decide +kernel
theorem dX6_open_29 : decode cX6_open 29 = .ok (.aload_n 0, 1) := by decide +kernel
theorem dX6_open_30 : decode cX6_open 30 = .ok (.iconst (-1), 1) := by decide +kernel
theorem dX6_open_31 : decode cX6_open 31 = .ok (.putfield 34, 3) := by decide +kernel
theorem dX6_open_34 : decode cX6_open 34 = .ok (.aload_n 0, 1) := by decide +kernel
theorem dX6_open_35 : decode cX6_open 35 = .ok (.invokevirtual 46, 3) := by decide +kernel
theorem dX6_open_38 : decode cX6_open 38 = .ok (.return_, 1) := by decide +kernel
theorem dX6_isFine_0 : decode cX6_isFine 0 = .ok (.aload_n 0, 1) := by decide +kernel
theorem dX6_isFine_1 : decode cX6_isFine 1 = .ok (.getfield 31, 3) := by decide +kernel
theorem dX6_isFine_4 : decode cX6_isFine 4 = .ok (.ifCond .ne 7, 3) := by decide +kernel
theorem dX6_isFine_7 : decode cX6_isFine 7 = .ok (.iconst 1, 1) := by decide +kernel
theorem dX6_isFine_8 : decode cX6_isFine 8 = .ok (.goto 4, 3) := by decide +kernel
theorem dX6_isFine_11 : decode cX6_isFine 11 = .ok (.iconst 0, 1) := by decide +kernel
theorem dX6_isFine_12 : decode cX6_isFine 12 = .ok (.ireturn, 1) := by decide +kernel
theorem dX6_isEnd_0 : decode cX6_isEnd 0 = .ok (.aload_n 0, 1) := by decide +kernel
theorem dX6_isEnd_1 : decode cX6_isEnd 1 = .ok (.getfield 25, 3) := by decide +kernel
theorem dX6_isEnd_4 : decode cX6_isEnd 4 = .ok (.ifCond .ne 7, 3) := by decide +kernel
theorem dX6_isEnd_7 : decode cX6_isEnd 7 = .ok (.iconst 1, 1) := by decide +kernel
theorem dX6_isEnd_8 : decode cX6_isEnd 8 = .ok (.goto 4, 3) := by decide +kernel
theorem dX6_isEnd_11 : decode cX6_isEnd 11 = .ok (.iconst 0, 1) := by decide +kernel
theorem dX6_isEnd_12 : decode cX6_isEnd 12 = .ok (.ireturn, 1) := by decide +kernel
theorem dX6_fail_0 : decode cX6_fail 0 = .ok (.aload_n 0, 1) := by decide +kernel
theorem dX6_fail_1 : decode cX6_fail 1 = .ok (.getfield 31, 3) := by decide +kernel
theorem dX6_fail_4 : decode cX6_fail 4 = .ok (.ifCond .ne 16, 3) := by decide +kernel
theorem dX6_fail_7 : decode cX6_fail 7 = .ok (.aload_n 0, 1) := by decide +kernel
theorem dX6_fail_8 : decode cX6_fail 8 = .ok (.iload_n 1, 1) := by decide +kernel
theorem dX6_fail_9 : decode cX6_fail 9 = .ok (.putfield 31, 3) := by decide +kernel
theorem dX6_fail_12 : decode cX6_fail 12 = .ok (.aload_n 0, 1) := by decide +kernel
theorem dX6_fail_13 : decode cX6_fail 13 = .ok (.aload_n 0, 1) := by decide +kernel
theorem dX6_fail_14 : decode cX6_fail 14 = .ok (.getfield 19, 3) := by decide +kernel
theorem dX6_fail_17 : decode cX6_fail 17 = .ok (.putfield 34, 3) := by decide +kernel
theorem dX6_fail_20 : decode cX6_fail 20 = .ok (.return_, 1) := by decide +kernel
theorem dX6_step_0 : decode cX6_step 0 = .ok (.aload_n 0, 1) := by decide +kernel
theorem dX6_step_1 : decode cX6_step 1 = .ok (.aload_n 0, 1) := by decide +kernel
theorem dX6_step_2 : decode cX6_step 2 = .ok (.getfield 22, 3) := by decide +kernel
theorem dX6_step_5 : decode cX6_step 5 = .ok (.putfield 19, 3) := by decide +kernel
theorem dX6_step_8 : decode cX6_step 8 = .ok (.aload_n 0, 1) := by decide +kernel
theorem dX6_step_9 : decode cX6_step 9 = .ok (.getfield 19, 3) := by decide +kernel
theorem dX6_step_12 : decode cX6_step 12 = .ok (.aload_n 0, 1) := by decide +kernel
theorem dX6_step_13 : decode cX6_step 13 = .ok (.getfield 15, 3) := by decide +kernel
theorem dX6_step_16 : decode cX6_step 16 = .ok (.if_icmp .ge 44, 3) := by decide +kernel
theorem dX6_step_19 : decode cX6_step 19 = .ok (.aload_n 0, 1) := by decide +kernel
theorem dX6_step_20 : decode cX6_step 20 = .ok (.getfield 9, 3) := by decide +kernel
theorem dX6_step_23 : decode cX6_step 23 = .ok (.aload_n 0, 1) := by decide +kernel
theorem dX6_step_24 : decode cX6_step 24 = .ok (.getfield 19, 3) := by decide +kernel
theorem dX6_step_27 : decode cX6_step 27 = .ok (.baload, 1) := by decide +kernel
theorem dX6_step_28 : decode cX6_step 28 = .ok (.bipush 32, 2) := by decide +kernel
theorem dX6_step_30 : decode cX6_step 30 = .ok (.if_icmp .eq 17, 3) := by decide +kernel
theorem dX6_step_33 : decode cX6_step 33 = .ok (.aload_n 0, 1) := by decide +kernel
theorem dX6_step_34 : decode cX6_step 34 = .ok (.getfield 9, 3) := by decide +kernel
theorem dX6_step_37 : decode cX6_step 37 = .ok (.aload_n 0, 1) := by decide +kernel
theorem dX6_step_38 : decode cX6_step 38 = .ok (.getfield 19, 3) := by decide +kernel
theorem dX6_step_41 : decode cX6_step 41 = .ok (.baload, 1) := by decide +kernel
theorem dX6_step_42 : decode cX6_step 42 = .ok (.bipush 10, 2) := by decide +kernel
theorem dX6_step_44 : decode cX6_step 44 = .ok (.if_icmp .ne 16, 3) := by decide +kernel
theorem dX6_step_47 : decode cX6_step 47 = .ok (.aload_n 0, 1) := by decide +kernel
theorem dX6_step_48 : decode cX6_step 48 = .ok (.dup, 1) := by decide +kernel
theorem dX6_step_49 : decode cX6_step 49 = .ok (.getfield 19, 3) := by decide +kernel
theorem dX6_step_52 : decode cX6_step 52 = .ok (.iconst 1, 1) := by decide +kernel
theorem dX6_step_53 : decode cX6_step 53 = .ok (.iadd, 1) := by decide +kernel
theorem dX6_step_54 : decode cX6_step 54 = .ok (.putfield 19, 3) := by decide +kernel
theorem dX6_step_57 : decode cX6_step 57 = .ok (.goto (-49), 3) := by decide +kernel
theorem dX6_step_60 : decode cX6_step 60 = .ok (.aload_n 0, 1) := by decide +kernel
theorem dX6_step_61 : decode cX6_step 61 = .ok (.aload_n 0, 1) := by decide +kernel
theorem dX6_step_62 : decode cX6_step 62 = .ok (.getfield 19, 3) := by decide +kernel
theorem dX6_step_65 : decode cX6_step 65 = .ok (.putfield 22, 3) := by decide +kernel
theorem dX6_step_68 : decode cX6_step 68 = .ok (.aload_n 0, 1) := by decide +kernel
theorem dX6_step_69 : decode cX6_step 69 = .ok (.iconst 0, 1) := by decide +kernel
theorem dX6_step_70 : decode cX6_step 70 = .ok (.putfield 25, 3) := by decide +kernel
theorem dX6_step_73 : decode cX6_step 73 = .ok (.aload_n 0, 1) := by decide +kernel
theorem dX6_step_74 : decode cX6_step 74 = .ok (.getfield 22, 3) := by decide +kernel
theorem dX6_step_77 : decode cX6_step 77 = .ok (.aload_n 0, 1) := by decide +kernel
theorem dX6_step_78 : decode cX6_step 78 = .ok (.getfield 15, 3) := by decide +kernel
theorem dX6_step_81 : decode cX6_step 81 = .ok (.if_icmp .ge 49, 3) := by decide +kernel
theorem dX6_step_84 : decode cX6_step 84 = .ok (.aload_n 0, 1) := by decide +kernel
theorem dX6_step_85 : decode cX6_step 85 = .ok (.getfield 9, 3) := by decide +kernel
theorem dX6_step_88 : decode cX6_step 88 = .ok (.aload_n 0, 1) := by decide +kernel
theorem dX6_step_89 : decode cX6_step 89 = .ok (.getfield 22, 3) := by decide +kernel
theorem dX6_step_92 : decode cX6_step 92 = .ok (.baload, 1) := by decide +kernel
theorem dX6_step_93 : decode cX6_step 93 = .ok (.bipush 97, 2) := by decide +kernel
theorem dX6_step_95 : decode cX6_step 95 = .ok (.if_icmp .lt 35, 3) := by decide +kernel
theorem dX6_step_98 : decode cX6_step 98 = .ok (.aload_n 0, 1) := by decide +kernel
theorem dX6_step_99 : decode cX6_step 99 = .ok (.getfield 9, 3) := by decide +kernel
theorem dX6_step_102 : decode cX6_step 102 = .ok (.aload_n 0, 1) := by decide +kernel
theorem dX6_step_103 : decode cX6_step 103 = .ok (.getfield 22, 3) := by decide +kernel
theorem dX6_step_106 : decode cX6_step 106 = .ok (.baload, 1) := by decide +kernel
theorem dX6_step_107 : decode cX6_step 107 = .ok (.bipush 122, 2) := by decide +kernel
theorem dX6_step_109 : decode cX6_step 109 = .ok (.if_icmp .gt 21, 3) := by decide +kernel
theorem dX6_step_112 : decode cX6_step 112 = .ok (.aload_n 0, 1) := by decide +kernel
theorem dX6_step_113 : decode cX6_step 113 = .ok (.iconst 1, 1) := by decide +kernel
theorem dX6_step_114 : decode cX6_step 114 = .ok (.putfield 25, 3) := by decide +kernel
theorem dX6_step_117 : decode cX6_step 117 = .ok (.aload_n 0, 1) := by decide +kernel
theorem dX6_step_118 : decode cX6_step 118 = .ok (.dup, 1) := by decide +kernel
theorem dX6_step_119 : decode cX6_step 119 = .ok (.getfield 22, 3) := by decide +kernel
theorem dX6_step_122 : decode cX6_step 122 = .ok (.iconst 1, 1) := by decide +kernel
theorem dX6_step_123 : decode cX6_step 123 = .ok (.iadd, 1) := by decide +kernel
theorem dX6_step_124 : decode cX6_step 124 = .ok (.putfield 22, 3) := by decide +kernel
theorem dX6_step_127 : decode cX6_step 127 = .ok (.goto (-54), 3) := by decide +kernel
theorem dX6_step_130 : decode cX6_step 130 = .ok (.aload_n 0, 1) := by decide +kernel
theorem dX6_step_131 : decode cX6_step 131 = .ok (.getfield 25, 3) := by decide +kernel
theorem dX6_step_134 : decode cX6_step 134 = .ok (.iconst 1, 1) := by decide +kernel
theorem dX6_step_135 : decode cX6_step 135 = .ok (.if_icmp .ne 4, 3) := by decide +kernel
theorem dX6_step_138 : decode cX6_step 138 = .ok (.return_, 1) := by decide +kernel
theorem dX6_step_139 : decode cX6_step 139 = .ok (.aload_n 0, 1) := by decide +kernel
theorem dX6_step_140 : decode cX6_step 140 = .ok (.iconst 0, 1) := by decide +kernel
theorem dX6_step_141 : decode cX6_step 141 = .ok (.putfield 28, 3) := by decide +kernel
theorem dX6_step_144 : decode cX6_step 144 = .ok (.aload_n 0, 1) := by decide +kernel
theorem dX6_step_145 : decode cX6_step 145 = .ok (.getfield 22, 3) := by decide +kernel
theorem dX6_step_148 : decode cX6_step 148 = .ok (.aload_n 0, 1) := by decide +kernel
theorem dX6_step_149 : decode cX6_step 149 = .ok (.getfield 15, 3) := by decide +kernel
theorem dX6_step_152 : decode cX6_step 152 = .ok (.if_icmp .ge 78, 3) := by decide +kernel
theorem dX6_step_155 : decode cX6_step 155 = .ok (.aload_n 0, 1) := by decide +kernel
theorem dX6_step_156 : decode cX6_step 156 = .ok (.getfield 9, 3) := by decide +kernel
theorem dX6_step_159 : decode cX6_step 159 = .ok (.aload_n 0, 1) := by decide +kernel
theorem dX6_step_160 : decode cX6_step 160 = .ok (.getfield 22, 3) := by decide +kernel
theorem dX6_step_163 : decode cX6_step 163 = .ok (.baload, 1) := by decide +kernel
theorem dX6_step_164 : decode cX6_step 164 = .ok (.bipush 48, 2) := by decide +kernel
theorem dX6_step_166 : decode cX6_step 166 = .ok (.if_icmp .lt 64, 3) := by decide +kernel
theorem dX6_step_169 : decode cX6_step 169 = .ok (.aload_n 0, 1) := by decide +kernel
theorem dX6_step_170 : decode cX6_step 170 = .ok (.getfield 9, 3) := by decide +kernel
theorem dX6_step_173 : decode cX6_step 173 = .ok (.aload_n 0, 1) := by decide +kernel
theorem dX6_step_174 : decode cX6_step 174 = .ok (.getfield 22, 3) := by decide +kernel
theorem dX6_step_177 : decode cX6_step 177 = .ok (.baload, 1) := by decide +kernel
theorem dX6_step_178 : decode cX6_step 178 = .ok (.bipush 57, 2) := by decide +kernel
theorem dX6_step_180 : decode cX6_step 180 = .ok (.if_icmp .gt 50, 3) := by decide +kernel
theorem dX6_step_183 : decode cX6_step 183 = .ok (.aload_n 0, 1) := by decide +kernel
theorem dX6_step_184 : decode cX6_step 184 = .ok (.iconst 2, 1) := by decide +kernel
theorem dX6_step_185 : decode cX6_step 185 = .ok (.putfield 25, 3) := by decide +kernel
theorem dX6_step_188 : decode cX6_step 188 = .ok (.aload_n 0, 1) := by decide +kernel
theorem dX6_step_189 : decode cX6_step 189 = .ok (.ldc 49, 2) := by decide +kernel
theorem dX6_step_191 : decode cX6_step 191 = .ok (.aload_n 0, 1) := by decide +kernel
theorem dX6_step_192 : decode cX6_step 192 = .ok (.getfield 28, 3) := by decide +kernel
theorem dX6_step_195 : decode cX6_step 195 = .ok (.bipush 10, 2) := by decide +kernel
theorem dX6_step_197 : decode cX6_step 197 = .ok (.imul, 1) := by decide +kernel
theorem dX6_step_198 : decode cX6_step 198 = .ok (.aload_n 0, 1) := by decide +kernel
theorem dX6_step_199 : decode cX6_step 199 = .ok (.getfield 9, 3) := by decide +kernel
theorem dX6_step_202 : decode cX6_step 202 = .ok (.aload_n 0, 1) := by decide +kernel
theorem dX6_step_203 : decode cX6_step 203 = .ok (.getfield 22, 3) := by decide +kernel
theorem dX6_step_206 : decode cX6_step 206 = .ok (.baload, 1) := by decide +kernel
theorem dX6_step_207 : decode cX6_step 207 = .ok (.iadd, 1) := by decide +kernel
theorem dX6_step_208 : decode cX6_step 208 = .ok (.bipush 48, 2) := by decide +kernel
theorem dX6_step_210 : decode cX6_step 210 = .ok (.isub, 1) := by decide +kernel
theorem dX6_step_211 : decode cX6_step 211 = .ok (.invokestatic 37, 3) := by decide +kernel
theorem dX6_step_214 : decode cX6_step 214 = .ok (.putfield 28, 3) := by decide +kernel
theorem dX6_step_217 : decode cX6_step 217 = .ok (.aload_n 0, 1) := by decide +kernel
theorem dX6_step_218 : decode cX6_step 218 = .ok (.dup, 1) := by decide +kernel
theorem dX6_step_219 : decode cX6_step 219 = .ok (.getfield 22, 3) := by decide +kernel
theorem dX6_step_222 : decode cX6_step 222 = .ok (.iconst 1, 1) := by decide +kernel
theorem dX6_step_223 : decode cX6_step 223 = .ok (.iadd, 1) := by decide +kernel
theorem dX6_step_224 : decode cX6_step 224 = .ok (.putfield 22, 3) := by decide +kernel
theorem dX6_step_227 : decode cX6_step 227 = .ok (.goto (-83), 3) := by decide +kernel
theorem dX6_step_230 : decode cX6_step 230 = .ok (.aload_n 0, 1) := by decide +kernel
theorem dX6_step_231 : decode cX6_step 231 = .ok (.getfield 25, 3) := by decide +kernel
theorem dX6_step_234 : decode cX6_step 234 = .ok (.ifCond .ne 29, 3) := by decide +kernel
theorem dX6_step_237 : decode cX6_step 237 = .ok (.aload_n 0, 1) := by decide +kernel
theorem dX6_step_238 : decode cX6_step 238 = .ok (.getfield 22, 3) := by decide +kernel
theorem dX6_step_241 : decode cX6_step 241 = .ok (.aload_n 0, 1) := by decide +kernel
theorem dX6_step_242 : decode cX6_step 242 = .ok (.getfield 15, 3) := by decide +kernel
theorem dX6_step_245 : decode cX6_step 245 = .ok (.if_icmp .ge 18, 3) := by decide +kernel
theorem dX6_step_248 : decode cX6_step 248 = .ok (.aload_n 0, 1) := by decide +kernel
theorem dX6_step_249 : decode cX6_step 249 = .ok (.iconst 3, 1) := by decide +kernel
theorem dX6_step_250 : decode cX6_step 250 = .ok (.putfield 25, 3) := by decide +kernel
theorem dX6_step_253 : decode cX6_step 253 = .ok (.aload_n 0, 1) := by decide +kernel
theorem dX6_step_254 : decode cX6_step 254 = .ok (.dup, 1) := by decide +kernel
theorem dX6_step_255 : decode cX6_step 255 = .ok (.getfield 22, 3) := by decide +kernel
theorem dX6_step_258 : decode cX6_step 258 = .ok (.iconst 1, 1) := by decide +kernel
theorem dX6_step_259 : decode cX6_step 259 = .ok (.iadd, 1) := by decide +kernel
theorem dX6_step_260 : decode cX6_step 260 = .ok (.putfield 22, 3) := by decide +kernel
theorem dX6_step_263 : decode cX6_step 263 = .ok (.return_, 1) := by decide +kernel
theorem dX6_isWord_0 : decode cX6_isWord 0 = .ok (.aload_n 0, 1) := by decide +kernel
theorem dX6_isWord_1 : decode cX6_isWord 1 = .ok (.getfield 31, 3) := by decide +kernel
theorem dX6_isWord_4 : decode cX6_isWord 4 = .ok (.ifCond .ne 27, 3) := by decide +kernel
theorem dX6_isWord_7 : decode cX6_isWord 7 = .ok (.aload_n 0, 1) := by decide +kernel
theorem dX6_isWord_8 : decode cX6_isWord 8 = .ok (.getfield 25, 3) := by decide +kernel
theorem dX6_isWord_11 : decode cX6_isWord 11 = .ok (.iconst 1, 1) := by decide +kernel
theorem dX6_isWord_12 : decode cX6_isWord 12 = .ok (.if_icmp .ne 19, 3) := by decide +kernel
theorem dX6_isWord_15 : decode cX6_isWord 15 = .ok (.aload_n 0, 1) := by decide +kernel
theorem dX6_isWord_16 : decode cX6_isWord 16 = .ok (.getfield 22, 3) := by decide +kernel
theorem dX6_isWord_19 : decode cX6_isWord 19 = .ok (.aload_n 0, 1) := by decide +kernel
theorem dX6_isWord_20 : decode cX6_isWord 20 = .ok (.getfield 19, 3) := by decide +kernel
theorem dX6_isWord_23 : decode cX6_isWord 23 = .ok (.isub, 1) := by decide +kernel
theorem dX6_isWord_24 : decode cX6_isWord 24 = .ok (.aload_n 1, 1) := by decide +kernel
theorem dX6_isWord_25 : decode cX6_isWord 25 = .ok (.invokevirtual 50, 3) := by decide +kernel
theorem dX6_isWord_28 : decode cX6_isWord 28 = .ok (.if_icmp .eq 5, 3) := by decide +kernel
theorem dX6_isWord_31 : decode cX6_isWord 31 = .ok (.iconst 0, 1) := by decide +kernel
theorem dX6_isWord_32 : decode cX6_isWord 32 = .ok (.ireturn, 1) := by decide +kernel
theorem dX6_isWord_33 : decode cX6_isWord 33 = .ok (.iconst 0, 1) := by decide +kernel
theorem dX6_isWord_34 : decode cX6_isWord 34 = .ok (.istore_n 2, 1) := by decide +kernel
theorem dX6_isWord_35 : decode cX6_isWord 35 = .ok (.iload_n 2, 1) := by decide +kernel
theorem dX6_isWord_36 : decode cX6_isWord 36 = .ok (.aload_n 1, 1) := by decide +kernel
theorem dX6_isWord_37 : decode cX6_isWord 37 = .ok (.invokevirtual 50, 3) := by decide +kernel
theorem dX6_isWord_40 : decode cX6_isWord 40 = .ok (.if_icmp .ge 43, 3) := by decide +kernel
theorem dX6_isWord_43 : decode cX6_isWord 43 = .ok (.aload_n 0, 1) := by decide +kernel
theorem dX6_isWord_44 : decode cX6_isWord 44 = .ok (.getfield 19, 3) := by decide +kernel
theorem dX6_isWord_47 : decode cX6_isWord 47 = .ok (.iload_n 2, 1) := by decide +kernel
theorem dX6_isWord_48 : decode cX6_isWord 48 = .ok (.iadd, 1) := by decide +kernel
theorem dX6_isWord_49 : decode cX6_isWord 49 = .ok (.aload_n 0, 1) := by decide +kernel
theorem dX6_isWord_50 : decode cX6_isWord 50 = .ok (.getfield 15, 3) := by decide +kernel
theorem dX6_isWord_53 : decode cX6_isWord 53 = .ok (.if_icmp .ge 30, 3) := by decide +kernel
theorem dX6_isWord_56 : decode cX6_isWord 56 = .ok (.aload_n 0, 1) := by decide +kernel
theorem dX6_isWord_57 : decode cX6_isWord 57 = .ok (.getfield 9, 3) := by decide +kernel
theorem dX6_isWord_60 : decode cX6_isWord 60 = .ok (.aload_n 0, 1) := by decide +kernel
theorem dX6_isWord_61 : decode cX6_isWord 61 = .ok (.getfield 19, 3) := by decide +kernel
theorem dX6_isWord_64 : decode cX6_isWord 64 = .ok (.iload_n 2, 1) := by decide +kernel
theorem dX6_isWord_65 : decode cX6_isWord 65 = .ok (.iadd, 1) := by decide +kernel
theorem dX6_isWord_66 : decode cX6_isWord 66 = .ok (.baload, 1) := by decide +kernel
theorem dX6_isWord_67 : decode cX6_isWord 67 = .ok (.aload_n 1, 1) := by decide +kernel
theorem dX6_isWord_68 : decode cX6_isWord 68 = .ok (.iload_n 2, 1) := by decide +kernel
theorem dX6_isWord_69 : decode cX6_isWord 69 = .ok (.invokevirtual 55, 3) := by decide +kernel
theorem dX6_isWord_72 : decode cX6_isWord 72 = .ok (.if_icmp .eq 5, 3) := by decide +kernel
theorem dX6_isWord_75 : decode cX6_isWord 75 = .ok (.iconst 0, 1) := by decide +kernel
theorem dX6_isWord_76 : decode cX6_isWord 76 = .ok (.ireturn, 1) := by decide +kernel
theorem dX6_isWord_77 : decode cX6_isWord 77 = .ok (.iinc 2 1, 3) := by decide +kernel
theorem dX6_isWord_80 : decode cX6_isWord 80 = .ok (.goto (-45), 3) := by decide +kernel
theorem dX6_isWord_83 : decode cX6_isWord 83 = .ok (.iconst 1, 1) := by decide +kernel
theorem dX6_isWord_84 : decode cX6_isWord 84 = .ok (.ireturn, 1) := by decide +kernel
theorem dX6_isSign_0 : decode cX6_isSign 0 = .ok (.aload_n 0, 1) := by decide +kernel
theorem dX6_isSign_1 : decode cX6_isSign 1 = .ok (.getfield 31, 3) := by decide +kernel
theorem dX6_isSign_4 : decode cX6_isSign 4 = .ok (.ifCond .ne 39, 3) := by decide +kernel
theorem dX6_isSign_7 : decode cX6_isSign 7 = .ok (.aload_n 0, 1) := by decide +kernel
theorem dX6_isSign_8 : decode cX6_isSign 8 = .ok (.getfield 25, 3) := by decide +kernel
theorem dX6_isSign_11 : decode cX6_isSign 11 = .ok (.iconst 3, 1) := by decide +kernel
theorem dX6_isSign_12 : decode cX6_isSign 12 = .ok (.if_icmp .ne 31, 3) := by decide +kernel
theorem dX6_isSign_15 : decode cX6_isSign 15 = .ok (.aload_n 0, 1) := by decide +kernel
theorem dX6_isSign_16 : decode cX6_isSign 16 = .ok (.getfield 19, 3) := by decide +kernel
theorem dX6_isSign_19 : decode cX6_isSign 19 = .ok (.aload_n 0, 1) := by decide +kernel
theorem dX6_isSign_20 : decode cX6_isSign 20 = .ok (.getfield 15, 3) := by decide +kernel
theorem dX6_isSign_23 : decode cX6_isSign 23 = .ok (.if_icmp .ge 20, 3) := by decide +kernel
theorem dX6_isSign_26 : decode cX6_isSign 26 = .ok (.aload_n 0, 1) := by decide +kernel
theorem dX6_isSign_27 : decode cX6_isSign 27 = .ok (.getfield 9, 3) := by decide +kernel
theorem dX6_isSign_30 : decode cX6_isSign 30 = .ok (.aload_n 0, 1) := by decide +kernel
theorem dX6_isSign_31 : decode cX6_isSign 31 = .ok (.getfield 19, 3) := by decide +kernel
theorem dX6_isSign_34 : decode cX6_isSign 34 = .ok (.baload, 1) := by decide +kernel
theorem dX6_isSign_35 : decode cX6_isSign 35 = .ok (.iload_n 1, 1) := by decide +kernel
theorem dX6_isSign_36 : decode cX6_isSign 36 = .ok (.if_icmp .ne 7, 3) := by decide +kernel
theorem dX6_isSign_39 : decode cX6_isSign 39 = .ok (.iconst 1, 1) := by decide +kernel
theorem dX6_isSign_40 : decode cX6_isSign 40 = .ok (.goto 4, 3) := by decide +kernel
theorem dX6_isSign_43 : decode cX6_isSign 43 = .ok (.iconst 0, 1) := by decide +kernel
theorem dX6_isSign_44 : decode cX6_isSign 44 = .ok (.ireturn, 1) := by decide +kernel
theorem dX6_isNumber_0 : decode cX6_isNumber 0 = .ok (.aload_n 0, 1) := by decide +kernel
theorem dX6_isNumber_1 : decode cX6_isNumber 1 = .ok (.getfield 31, 3) := by decide +kernel
theorem dX6_isNumber_4 : decode cX6_isNumber 4 = .ok (.ifCond .ne 15, 3) := by decide +kernel
theorem dX6_isNumber_7 : decode cX6_isNumber 7 = .ok (.aload_n 0, 1) := by decide +kernel
theorem dX6_isNumber_8 : decode cX6_isNumber 8 = .ok (.getfield 25, 3) := by decide +kernel
theorem dX6_isNumber_11 : decode cX6_isNumber 11 = .ok (.iconst 2, 1) := by decide +kernel
theorem dX6_isNumber_12 : decode cX6_isNumber 12 = .ok (.if_icmp .ne 7, 3) := by decide +kernel
theorem dX6_isNumber_15 : decode cX6_isNumber 15 = .ok (.iconst 1, 1) := by decide +kernel
theorem dX6_isNumber_16 : decode cX6_isNumber 16 = .ok (.goto 4, 3) := by decide +kernel
theorem dX6_isNumber_19 : decode cX6_isNumber 19 = .ok (.iconst 0, 1) := by decide +kernel
theorem dX6_isNumber_20 : decode cX6_isNumber 20 = .ok (.ireturn, 1) := by decide +kernel
theorem dX6_skipWord_0 : decode cX6_skipWord 0 = .ok (.aload_n 0, 1) := by decide +kernel
theorem dX6_skipWord_1 : decode cX6_skipWord 1 = .ok (.aload_n 1, 1) := by decide +kernel
theorem dX6_skipWord_2 : decode cX6_skipWord 2 = .ok (.invokevirtual 59, 3) := by decide +kernel
theorem dX6_skipWord_5 : decode cX6_skipWord 5 = .ok (.istore_n 2, 1) := by decide +kernel
theorem dX6_skipWord_6 : decode cX6_skipWord 6 = .ok (.iload_n 2, 1) := by decide +kernel
theorem dX6_skipWord_7 : decode cX6_skipWord 7 = .ok (.ifCond .eq 7, 3) := by decide +kernel
theorem dX6_skipWord_10 : decode cX6_skipWord 10 = .ok (.aload_n 0, 1) := by decide +kernel
theorem dX6_skipWord_11 : decode cX6_skipWord 11 = .ok (.invokevirtual 46, 3) := by decide +kernel
theorem dX6_skipWord_14 : decode cX6_skipWord 14 = .ok (.iload_n 2, 1) := by decide +kernel
theorem dX6_skipWord_15 : decode cX6_skipWord 15 = .ok (.ireturn, 1) := by decide +kernel
theorem dX6_skipSign_0 : decode cX6_skipSign 0 = .ok (.aload_n 0, 1) := by decide +kernel
theorem dX6_skipSign_1 : decode cX6_skipSign 1 = .ok (.iload_n 1, 1) := by decide +kernel
theorem dX6_skipSign_2 : decode cX6_skipSign 2 = .ok (.invokevirtual 63, 3) := by decide +kernel
theorem dX6_skipSign_5 : decode cX6_skipSign 5 = .ok (.istore_n 2, 1) := by decide +kernel
theorem dX6_skipSign_6 : decode cX6_skipSign 6 = .ok (.iload_n 2, 1) := by decide +kernel
theorem dX6_skipSign_7 : decode cX6_skipSign 7 = .ok (.ifCond .eq 7, 3) := by decide +kernel
theorem dX6_skipSign_10 : decode cX6_skipSign 10 = .ok (.aload_n 0, 1) := by decide +kernel
theorem dX6_skipSign_11 : decode cX6_skipSign 11 = .ok (.invokevirtual 46, 3) := by decide +kernel
theorem dX6_skipSign_14 : decode cX6_skipSign 14 = .ok (.iload_n 2, 1) := by decide +kernel
theorem dX6_skipSign_15 : decode cX6_skipSign 15 = .ok (.ireturn, 1) := by decide +kernel
theorem dX6_needSign_0 : decode cX6_needSign 0 = .ok (.aload_n 0, 1) := by decide +kernel
theorem dX6_needSign_1 : decode cX6_needSign 1 = .ok (.iload_n 1, 1) := by decide +kernel
theorem dX6_needSign_2 : decode cX6_needSign 2 = .ok (.invokevirtual 67, 3) := by decide +kernel
theorem dX6_needSign_5 : decode cX6_needSign 5 = .ok (.ifCond .ne 8, 3) := by decide +kernel
theorem dX6_needSign_8 : decode cX6_needSign 8 = .ok (.aload_n 0, 1) := by decide +kernel
theorem dX6_needSign_9 : decode cX6_needSign 9 = .ok (.iconst 1, 1) := by decide +kernel
theorem dX6_needSign_10 : decode cX6_needSign 10 = .ok (.invokevirtual 70, 3) := by decide +kernel
theorem dX6_needSign_13 : decode cX6_needSign 13 = .ok (.return_, 1) := by decide +kernel
theorem dX6_needNumber_0 : decode cX6_needNumber 0 = .ok (.aload_n 0, 1) := by decide +kernel
theorem dX6_needNumber_1 : decode cX6_needNumber 1 = .ok (.invokevirtual 74, 3) := by decide +kernel
theorem dX6_needNumber_4 : decode cX6_needNumber 4 = .ok (.ifCond .ne 11, 3) := by decide +kernel
theorem dX6_needNumber_7 : decode cX6_needNumber 7 = .ok (.aload_n 0, 1) := by decide +kernel
theorem dX6_needNumber_8 : decode cX6_needNumber 8 = .ok (.iconst 1, 1) := by decide +kernel
theorem dX6_needNumber_9 : decode cX6_needNumber 9 = .ok (.invokevirtual 70, 3) := by decide +kernel
theorem dX6_needNumber_12 : decode cX6_needNumber 12 = .ok (.goto 56, 3) := by decide +kernel
theorem dX6_needNumber_15 : decode cX6_needNumber 15 = .ok (.aload_n 0, 1) := by decide +kernel
theorem dX6_needNumber_16 : decode cX6_needNumber 16 = .ok (.getfield 28, 3) := by decide +kernel
theorem dX6_needNumber_19 : decode cX6_needNumber 19 = .ok (.iload_n 1, 1) := by decide +kernel
theorem dX6_needNumber_20 : decode cX6_needNumber 20 = .ok (.if_icmp .lt 11, 3) := by decide +kernel
theorem dX6_needNumber_23 : decode cX6_needNumber 23 = .ok (.aload_n 0, 1) := by decide +kernel
theorem dX6_needNumber_24 : decode cX6_needNumber 24 = .ok (.getfield 28, 3) := by decide +kernel
theorem dX6_needNumber_27 : decode cX6_needNumber 27 = .ok (.iload_n 2, 1) := by decide +kernel
theorem dX6_needNumber_28 : decode cX6_needNumber 28 = .ok (.if_icmp .le 11, 3) := by decide +kernel
theorem dX6_needNumber_31 : decode cX6_needNumber 31 = .ok (.aload_n 0, 1) := by decide +kernel
theorem dX6_needNumber_32 : decode cX6_needNumber 32 = .ok (.iconst 2, 1) := by decide +kernel
theorem dX6_needNumber_33 : decode cX6_needNumber 33 = .ok (.invokevirtual 70, 3) := by decide +kernel
theorem dX6_needNumber_36 : decode cX6_needNumber 36 = .ok (.goto 32, 3) := by decide +kernel
theorem dX6_needNumber_39 : decode cX6_needNumber 39 = .ok (.aload_n 0, 1) := by decide +kernel
theorem dX6_needNumber_40 : decode cX6_needNumber 40 = .ok (.getfield 28, 3) := by decide +kernel
theorem dX6_needNumber_43 : decode cX6_needNumber 43 = .ok (.iload_n 3, 1) := by decide +kernel
theorem dX6_needNumber_44 : decode cX6_needNumber 44 = .ok (.if_icmp .le 11, 3) := by decide +kernel
theorem dX6_needNumber_47 : decode cX6_needNumber 47 = .ok (.aload_n 0, 1) := by decide +kernel
theorem dX6_needNumber_48 : decode cX6_needNumber 48 = .ok (.iconst 3, 1) := by decide +kernel
theorem dX6_needNumber_49 : decode cX6_needNumber 49 = .ok (.invokevirtual 70, 3) := by decide +kernel
theorem dX6_needNumber_52 : decode cX6_needNumber 52 = .ok (.goto 16, 3) := by decide +kernel
theorem dX6_needNumber_55 : decode cX6_needNumber 55 = .ok (.aload_n 0, 1) := by decide +kernel
theorem dX6_needNumber_56 : decode cX6_needNumber 56 = .ok (.getfield 28, 3) := by decide +kernel
theorem dX6_needNumber_59 : decode cX6_needNumber 59 = .ok (.istore 4, 2) := by decide +kernel
theorem dX6_needNumber_61 : decode cX6_needNumber 61 = .ok (.aload_n 0, 1) := by decide +kernel
theorem dX6_needNumber_62 : decode cX6_needNumber 62 = .ok (.invokevirtual 46, 3) := by decide +kernel
theorem dX6_needNumber_65 : decode cX6_needNumber 65 = .ok (.iload 4, 2) := by decide +kernel
theorem dX6_needNumber_67 : decode cX6_needNumber 67 = .ok (.ireturn, 1) := by decide +kernel
theorem dX6_needNumber_68 : decode cX6_needNumber 68 = .ok (.iload_n 1, 1) := by decide +kernel
theorem dX6_needNumber_69 : decode cX6_needNumber 69 = .ok (.ireturn, 1) := by decide +kernel
theorem dX7_init_0 : decode cX7_init 0 = .ok (.aload_n 0, 1) := by decide +kernel
theorem dX7_init_1 : decode cX7_init 1 = .ok (.invokespecial 1, 3) := by decide +kernel
theorem dX7_init_4 : decode cX7_init 4 = .ok (.aload_n 0, 1) := by decide +kernel
theorem dX7_init_5 : decode cX7_init 5 = .ok (.bipush 64, 2) := by decide +kernel
theorem dX7_init_7 : decode cX7_init 7 = .ok (.newarray .int, 2) := by decide +kernel
theorem dX7_init_9 : decode cX7_init 9 = .ok (.putfield 7, 3) := by decide +kernel
theorem dX7_init_12 : decode cX7_init 12 = .ok (.aload_n 0, 1) := by decide +kernel
theorem dX7_init_13 : decode cX7_init 13 = .ok (.iconst 0, 1) := by decide +kernel
theorem dX7_init_14 : decode cX7_init 14 = .ok (.putfield 13, 3) := by decide +kernel
theorem dX7_init_17 : decode cX7_init 17 = .ok (.return_, 1) := by decide +kernel
theorem dX7_fallSilent_0 : decode cX7_fallSilent 0 = .ok (.aload_n 0, 1) := by decide +kernel
theorem dX7_fallSilent_1 : decode cX7_fallSilent 1 = .ok (.iconst 0, 1) := by decide +kernel
theorem dX7_fallSilent_2 : decode cX7_fallSilent 2 = .ok (.putfield 13, 3) := by decide +kernel
theorem dX7_fallSilent_5 : decode cX7_fallSilent 5 = .ok (.return_, 1) := by decide +kernel
theorem dX7_put_0 : decode cX7_put 0 = .ok (.aload_n 0, 1) := by decide +kernel
theorem dX7_put_1 : decode cX7_put 1 = .ok (.getfield 13, 3) := by decide +kernel
theorem dX7_put_4 : decode cX7_put 4 = .ok (.aload_n 0, 1) := by decide +kernel
theorem dX7_put_5 : decode cX7_put 5 = .ok (.getfield 7, 3) := by decide +kernel
theorem dX7_put_8 : decode cX7_put 8 = .ok (.arraylength, 1) := by decide +kernel
theorem dX7_put_9 : decode cX7_put 9 = .ok (.if_icmp .ge 23, 3) := by decide +kernel
theorem dX7_put_12 : decode cX7_put 12 = .ok (.aload_n 0, 1) := by decide +kernel
theorem dX7_put_13 : decode cX7_put 13 = .ok (.getfield 7, 3) := by decide +kernel
theorem dX7_put_16 : decode cX7_put 16 = .ok (.aload_n 0, 1) := by decide +kernel
theorem dX7_put_17 : decode cX7_put 17 = .ok (.getfield 13, 3) := by decide +kernel
theorem dX7_put_20 : decode cX7_put 20 = .ok (.iload_n 1, 1) := by decide +kernel
theorem dX7_put_21 : decode cX7_put 21 = .ok (.iastore, 1) := by decide +kernel
theorem dX7_put_22 : decode cX7_put 22 = .ok (.aload_n 0, 1) := by decide +kernel
theorem dX7_put_23 : decode cX7_put 23 = .ok (.dup, 1) := by decide +kernel
theorem dX7_put_24 : decode cX7_put 24 = .ok (.getfield 13, 3) := by decide +kernel
theorem dX7_put_27 : decode cX7_put 27 = .ok (.iconst 1, 1) := by decide +kernel
theorem dX7_put_28 : decode cX7_put 28 = .ok (.iadd, 1) := by decide +kernel
theorem dX7_put_29 : decode cX7_put 29 = .ok (.putfield 13, 3) := by decide +kernel
theorem dX7_put_32 : decode cX7_put 32 = .ok (.return_, 1) := by decide +kernel
theorem dX7_putNumber_0 : decode cX7_putNumber 0 = .ok (.lconst 1, 1) := by decide +kernel
theorem dX7_putNumber_1 : decode cX7_putNumber 1 = .ok (.lstore_n 3, 1) := by decide +kernel
theorem dX7_putNumber_2 : decode cX7_putNumber 2 = .ok (.iconst 0, 1) := by decide +kernel
theorem dX7_putNumber_3 : decode cX7_putNumber 3 = .ok (.istore 5, 2) := by decide +kernel
theorem dX7_putNumber_5 : decode cX7_putNumber 5 = .ok (.iload 5, 2) := by decide +kernel
theorem dX7_putNumber_7 : decode cX7_putNumber 7 = .ok (.bipush 17, 2) := by decide +kernel
theorem dX7_putNumber_9 : decode cX7_putNumber 9 = .ok (.if_icmp .ge 25, 3) := by decide +kernel
theorem dX7_putNumber_12 : decode cX7_putNumber 12 = .ok (.lload_n 1, 1) := by decide +kernel
theorem dX7_putNumber_13 : decode cX7_putNumber 13 = .ok (.ldc2_w 17, 3) := by decide +kernel
theorem dX7_putNumber_16 : decode cX7_putNumber 16 = .ok (.ldiv, 1) := by decide +kernel
theorem dX7_putNumber_17 : decode cX7_putNumber 17 = .ok (.lload_n 3, 1) := by decide +kernel
theorem dX7_putNumber_18 : decode cX7_putNumber 18 = .ok (.lcmp, 1) := by decide +kernel
theorem dX7_putNumber_19 : decode cX7_putNumber 19 = .ok (.ifCond .lt 15, 3) := by decide +kernel
theorem dX7_putNumber_22 : decode cX7_putNumber 22 = .ok (.lload_n 3, 1) := by decide +kernel
theorem dX7_putNumber_23 : decode cX7_putNumber 23 = .ok (.ldc2_w 17, 3) := by decide +kernel
theorem dX7_putNumber_26 : decode cX7_putNumber 26 = .ok (.lmul, 1) := by decide +kernel
theorem dX7_putNumber_27 : decode cX7_putNumber 27 = .ok (.lstore_n 3, 1) := by decide +kernel
theorem dX7_putNumber_28 : decode cX7_putNumber 28 = .ok (.iinc 5 1, 3) := by decide +kernel
theorem dX7_putNumber_31 : decode cX7_putNumber 31 = .ok (.goto (-26), 3) := by decide +kernel
theorem dX7_putNumber_34 : decode cX7_putNumber 34 = .ok (.lload_n 3, 1) := by decide +kernel
theorem dX7_putNumber_35 : decode cX7_putNumber 35 = .ok (.lstore 5, 2) := by decide +kernel
theorem dX7_putNumber_37 : decode cX7_putNumber 37 = .ok (.lload 5, 2) := by decide +kernel
theorem dX7_putNumber_39 : decode cX7_putNumber 39 = .ok (.lconst 0, 1) := by decide +kernel
theorem dX7_putNumber_40 : decode cX7_putNumber 40 = .ok (.lcmp, 1) := by decide +kernel
theorem dX7_putNumber_41 : decode cX7_putNumber 41 = .ok (.ifCond .le 30, 3) := by decide +kernel
theorem dX7_putNumber_44 : decode cX7_putNumber 44 = .ok (.aload_n 0, 1) := by decide +kernel
theorem dX7_putNumber_45 : decode cX7_putNumber 45 = .ok (.bipush 48, 2) := by decide +kernel
theorem dX7_putNumber_47 : decode cX7_putNumber 47 = .ok (.lload_n 1, 1) := by decide +kernel
theorem dX7_putNumber_48 : decode cX7_putNumber 48 = .ok (.lload 5, 2) := by decide +kernel
theorem dX7_putNumber_50 : decode cX7_putNumber 50 = .ok (.ldiv, 1) := by decide +kernel
theorem dX7_putNumber_51 : decode cX7_putNumber 51 = .ok (.ldc2_w 17, 3) := by decide +kernel
theorem dX7_putNumber_54 : decode cX7_putNumber 54 = .ok (.lrem, 1) := by decide +kernel
theorem dX7_putNumber_55 : decode cX7_putNumber 55 = .ok (.l2i, 1) := by decide +kernel
theorem dX7_putNumber_56 : decode cX7_putNumber 56 = .ok (.iadd, 1) := by decide +kernel
theorem dX7_putNumber_57 : decode cX7_putNumber 57 = .ok (.invokevirtual 19, 3) := by decide +kernel
theorem dX7_putNumber_60 : decode cX7_putNumber 60 = .ok (.lload 5, 2) := by decide +kernel
theorem dX7_putNumber_62 : decode cX7_putNumber 62 = .ok (.ldc2_w 17, 3) := by decide +kernel
theorem dX7_putNumber_65 : decode cX7_putNumber 65 = .ok (.ldiv, 1) := by decide +kernel
theorem dX7_putNumber_66 : decode cX7_putNumber 66 = .ok (.lstore 5, 2) := by decide +kernel
theorem dX7_putNumber_68 : decode cX7_putNumber 68 = .ok (.goto (-31), 3) := by decide +kernel
theorem dX7_putNumber_71 : decode cX7_putNumber 71 = .ok (.return_, 1) := by decide +kernel
theorem dX8_init_0 : decode cX8_init 0 = .ok (.aload_n 0, 1) := by decide +kernel
theorem dX8_init_1 : decode cX8_init 1 = .ok (.invokespecial 1, 3) := by decide +kernel
theorem dX8_init_4 : decode cX8_init 4 = .ok (.aload_n 0, 1) := by decide +kernel
theorem dX8_init_5 : decode cX8_init 5 = .ok (.sipush 600, 3) := by decide +kernel
theorem dX8_init_8 : decode cX8_init 8 = .ok (.newarray .byte, 2) := by decide +kernel
theorem dX8_init_10 : decode cX8_init 10 = .ok (.putfield 9, 3) := by decide +kernel
theorem dX8_init_13 : decode cX8_init 13 = .ok (.aload_n 0, 1) := by decide +kernel
theorem dX8_init_14 : decode cX8_init 14 = .ok (.iconst 0, 1) := by decide +kernel
theorem dX8_init_15 : decode cX8_init 15 = .ok (.putfield 13, 3) := by decide +kernel
theorem dX8_init_18 : decode cX8_init 18 = .ok (.aload_n 0, 1) := by decide +kernel
theorem dX8_init_19 : decode cX8_init 19 = .ok (.iconst (-1), 1) := by decide +kernel
theorem dX8_init_20 : decode cX8_init 20 = .ok (.putfield 17, 3) := by decide +kernel
theorem dX8_init_23 : decode cX8_init 23 = .ok (.aload_n 0, 1) := by decide +kernel
theorem dX8_init_24 : decode cX8_init 24 = .ok (.new 20, 3) := by decide +kernel
theorem dX8_init_27 : decode cX8_init 27 = .ok (.dup, 1) := by decide +kernel
theorem dX8_init_28 : decode cX8_init 28 = .ok (.invokespecial 22, 3) := by decide +kernel
theorem dX8_init_31 : decode cX8_init 31 = .ok (.putfield 23, 3) := by decide +kernel
theorem dX8_init_34 : decode cX8_init 34 = .ok (.aload_n 0, 1) := by decide +kernel
theorem dX8_init_35 : decode cX8_init 35 = .ok (.new 27, 3) := by decide +kernel
theorem dX8_init_38 : decode cX8_init 38 = .ok (.dup, 1) := by decide +kernel
theorem dX8_init_39 : decode cX8_init 39 = .ok (.invokespecial 29, 3) := by decide +kernel
theorem dX8_init_42 : decode cX8_init 42 = .ok (.putfield 30, 3) := by decide +kernel
theorem dX8_init_45 : decode cX8_init 45 = .ok (.aload_n 0, 1) := by decide +kernel
theorem dX8_init_46 : decode cX8_init 46 = .ok (.new 27, 3) := by decide +kernel
theorem dX8_init_49 : decode cX8_init 49 = .ok (.dup, 1) := by decide +kernel
theorem dX8_init_50 : decode cX8_init 50 = .ok (.invokespecial 29, 3) := by decide +kernel
theorem dX8_init_53 : decode cX8_init 53 = .ok (.putfield 34, 3) := by decide +kernel
theorem dX8_init_56 : decode cX8_init 56 = .ok (.aload_n 0, 1) := by decide +kernel
theorem dX8_init_57 : decode cX8_init 57 = .ok (.new 37, 3) := by decide +kernel
theorem dX8_init_60 : decode cX8_init 60 = .ok (.dup, 1) := by decide +kernel
theorem dX8_init_61 : decode cX8_init 61 = .ok (.invokespecial 39, 3) := by decide +kernel
theorem dX8_init_64 : decode cX8_init 64 = .ok (.putfield 40, 3) := by decide +kernel
theorem dX8_init_67 : decode cX8_init 67 = .ok (.aload_n 0, 1) := by decide +kernel
theorem dX8_init_68 : decode cX8_init 68 = .ok (.new 37, 3) := by decide +kernel
theorem dX8_init_71 : decode cX8_init 71 = .ok (.dup, 1) := by decide +kernel
theorem dX8_init_72 : decode cX8_init 72 = .ok (.invokespecial 39, 3) := by decide +kernel
theorem dX8_init_75 : decode cX8_init 75 = .ok (.putfield 44, 3) := by decide +kernel
theorem dX8_init_78 : decode cX8_init 78 = .ok (.aload_n 0, 1) := by decide +kernel
theorem dX8_init_79 : decode cX8_init 79 = .ok (.new 47, 3) := by decide +kernel
theorem dX8_init_82 : decode cX8_init 82 = .ok (.dup, 1) := by decide +kernel
theorem dX8_init_83 : decode cX8_init 83 = .ok (.invokespecial 49, 3) := by decide +kernel
theorem dX8_init_86 : decode cX8_init 86 = .ok (.putfield 50, 3) := by decide +kernel
theorem dX8_init_89 : decode cX8_init 89 = .ok (.aload_n 0, 1) := by decide +kernel
theorem dX8_init_90 : decode cX8_init 90 = .ok (.new 54, 3) := by decide +kernel
theorem dX8_init_93 : decode cX8_init 93 = .ok (.dup, 1) := by decide +kernel
theorem dX8_init_94 : decode cX8_init 94 = .ok (.invokespecial 56, 3) := by decide +kernel
theorem dX8_init_97 : decode cX8_init 97 = .ok (.putfield 57, 3) := by decide +kernel
theorem dX8_init_100 : decode cX8_init 100 = .ok (.aload_n 0, 1) := by decide +kernel
theorem dX8_init_101 : decode cX8_init 101 = .ok (.new 61, 3) := by decide +kernel
theorem dX8_init_104 : decode cX8_init 104 = .ok (.dup, 1) := by decide +kernel
theorem dX8_init_105 : decode cX8_init 105 = .ok (.invokespecial 63, 3) := by decide +kernel
theorem dX8_init_108 : decode cX8_init 108 = .ok (.putfield 64, 3) := by decide +kernel
theorem dX8_init_111 : decode cX8_init 111 = .ok (.aload_n 0, 1) := by decide +kernel
theorem dX8_init_112 : decode cX8_init 112 = .ok (.iconst 0, 1) := by decide +kernel
theorem dX8_init_113 : decode cX8_init 113 = .ok (.putfield 68, 3) := by decide +kernel
theorem dX8_init_116 : decode cX8_init 116 = .ok (.aload_n 0, 1) := by decide +kernel
theorem dX8_init_117 : decode cX8_init 117 = .ok (.new 27, 3) := by decide +kernel
theorem dX8_init_120 : decode cX8_init 120 = .ok (.dup, 1) := by decide +kernel
theorem dX8_init_121 : decode cX8_init 121 = .ok (.invokespecial 29, 3) := by decide +kernel
theorem dX8_init_124 : decode cX8_init 124 = .ok (.putfield 72, 3) := by decide +kernel
theorem dX8_init_127 : decode cX8_init 127 = .ok (.return_, 1) := by decide +kernel
theorem dX8_feed_0 : decode cX8_feed 0 = .ok (.aload_n 0, 1) := by decide +kernel
theorem dX8_feed_1 : decode cX8_feed 1 = .ok (.getfield 13, 3) := by decide +kernel
theorem dX8_feed_4 : decode cX8_feed 4 = .ok (.bipush 20, 2) := by decide +kernel
theorem dX8_feed_6 : decode cX8_feed 6 = .ok (.iadd, 1) := by decide +kernel
theorem dX8_feed_7 : decode cX8_feed 7 = .ok (.sipush 600, 3) := by decide +kernel
theorem dX8_feed_10 : decode cX8_feed 10 = .ok (.if_icmp .le 5, 3) := by decide +kernel
theorem dX8_feed_13 : decode cX8_feed 13 = .ok (.iconst (-1), 1) := by decide +kernel
theorem dX8_feed_14 : decode cX8_feed 14 = .ok (.ireturn, 1) := by decide +kernel
theorem dX8_feed_15 : decode cX8_feed 15 = .ok (.aload_n 0, 1) := by decide +kernel
theorem dX8_feed_16 : decode cX8_feed 16 = .ok (.iload_n 1, 1) := by decide +kernel
theorem dX8_feed_17 : decode cX8_feed 17 = .ok (.invokevirtual 75, 3) := by decide +kernel
theorem dX8_feed_20 : decode cX8_feed 20 = .ok (.aload_n 0, 1) := by decide +kernel
theorem dX8_feed_21 : decode cX8_feed 21 = .ok (.iload_n 2, 1) := by decide +kernel
theorem dX8_feed_22 : decode cX8_feed 22 = .ok (.invokevirtual 75, 3) := by decide +kernel
theorem dX8_feed_25 : decode cX8_feed 25 = .ok (.aload_n 0, 1) := by decide +kernel
theorem dX8_feed_26 : decode cX8_feed 26 = .ok (.iload_n 3, 1) := by decide +kernel
theorem dX8_feed_27 : decode cX8_feed 27 = .ok (.invokevirtual 75, 3) := by decide +kernel
theorem dX8_feed_30 : decode cX8_feed 30 = .ok (.aload_n 0, 1) := by decide +kernel
theorem dX8_feed_31 : decode cX8_feed 31 = .ok (.iload 4, 2) := by decide +kernel
theorem dX8_feed_33 : decode cX8_feed 33 = .ok (.invokevirtual 75, 3) := by decide +kernel
theorem dX8_feed_36 : decode cX8_feed 36 = .ok (.aload_n 0, 1) := by decide +kernel
theorem dX8_feed_37 : decode cX8_feed 37 = .ok (.iload 5, 2) := by decide +kernel
theorem dX8_feed_39 : decode cX8_feed 39 = .ok (.invokevirtual 75, 3) := by decide +kernel
theorem dX8_feed_42 : decode cX8_feed 42 = .ok (.aload_n 0, 1) := by decide +kernel
theorem dX8_feed_43 : decode cX8_feed 43 = .ok (.getfield 13, 3) := by decide +kernel
theorem dX8_feed_46 : decode cX8_feed 46 = .ok (.ireturn, 1) := by decide +kernel
theorem dX8_putOnTape_0 : decode cX8_putOnTape 0 = .ok (.bipush 24, 2) := by decide +kernel
theorem dX8_putOnTape_2 : decode cX8_putOnTape 2 = .ok (.istore_n 2, 1) := by decide +kernel
theorem dX8_putOnTape_3 : decode cX8_putOnTape 3 = .ok (.iload_n 2, 1) := by decide +kernel
theorem dX8_putOnTape_4 : decode cX8_putOnTape 4 = .ok (.ifCond .lt 42, 3) := by decide +kernel
theorem dX8_putOnTape_7 : decode cX8_putOnTape 7 = .ok (.aload_n 0, 1) := by decide +kernel
theorem dX8_putOnTape_8 : decode cX8_putOnTape 8 = .ok (.getfield 13, 3) := by decide +kernel
theorem dX8_putOnTape_11 : decode cX8_putOnTape 11 = .ok (.sipush 600, 3) := by decide +kernel
theorem dX8_putOnTape_14 : decode cX8_putOnTape 14 = .ok (.if_icmp .ge 32, 3) := by decide +kernel
theorem dX8_putOnTape_17 : decode cX8_putOnTape 17 = .ok (.aload_n 0, 1) := by decide +kernel
theorem dX8_putOnTape_18 : decode cX8_putOnTape 18 = .ok (.getfield 9, 3) := by decide +kernel
theorem dX8_putOnTape_21 : decode cX8_putOnTape 21 = .ok (.aload_n 0, 1) := by decide +kernel
theorem dX8_putOnTape_22 : decode cX8_putOnTape 22 = .ok (.getfield 13, 3) := by decide +kernel
theorem dX8_putOnTape_25 : decode cX8_putOnTape 25 = .ok (.iload_n 1, 1) := by decide +kernel
theorem dX8_putOnTape_26 : decode cX8_putOnTape 26 = .ok (.iload_n 2, 1) := by decide +kernel
theorem dX8_putOnTape_27 : decode cX8_putOnTape 27 = .ok (.iushr, 1) := by decide +kernel
theorem dX8_putOnTape_28 : decode cX8_putOnTape 28 = .ok (.i2b, 1) := by decide +kernel
theorem dX8_putOnTape_29 : decode cX8_putOnTape 29 = .ok (.bastore, 1) := by decide +kernel
theorem dX8_putOnTape_30 : decode cX8_putOnTape 30 = .ok (.aload_n 0, 1) := by decide +kernel
theorem dX8_putOnTape_31 : decode cX8_putOnTape 31 = .ok (.dup, 1) := by decide +kernel
theorem dX8_putOnTape_32 : decode cX8_putOnTape 32 = .ok (.getfield 13, 3) := by decide +kernel
theorem dX8_putOnTape_35 : decode cX8_putOnTape 35 = .ok (.iconst 1, 1) := by decide +kernel
theorem dX8_putOnTape_36 : decode cX8_putOnTape 36 = .ok (.iadd, 1) := by decide +kernel
theorem dX8_putOnTape_37 : decode cX8_putOnTape 37 = .ok (.putfield 13, 3) := by decide +kernel
theorem dX8_putOnTape_40 : decode cX8_putOnTape 40 = .ok (.iinc 2 (-8), 3) := by decide +kernel
theorem dX8_putOnTape_43 : decode cX8_putOnTape 43 = .ok (.goto (-40), 3) := by decide +kernel
theorem dX8_putOnTape_46 : decode cX8_putOnTape 46 = .ok (.return_, 1) := by decide +kernel
theorem dX8_election_0 : decode cX8_election 0 = .ok (.iload_n 1, 1) := by decide +kernel
theorem dX8_election_1 : decode cX8_election 1 = .ok (.ifCond .lt 11, 3) := by decide +kernel
theorem dX8_election_4 : decode cX8_election 4 = .ok (.iload_n 1, 1) := by decide +kernel
theorem dX8_election_5 : decode cX8_election 5 = .ok (.aload_n 0, 1) := by decide +kernel
theorem dX8_election_6 : decode cX8_election 6 = .ok (.getfield 13, 3) := by decide +kernel
theorem dX8_election_9 : decode cX8_election 9 = .ok (.if_icmp .le 13, 3) := by decide +kernel
theorem dX8_election_12 : decode cX8_election 12 = .ok (.new 79, 3) := by decide +kernel
theorem dX8_election_15 : decode cX8_election 15 = .ok (.dup, 1) := by decide +kernel
theorem dX8_election_16 : decode cX8_election 16 = .ok (.ldc 81, 2) := by decide +kernel
theorem dX8_election_18 : decode cX8_election 18 = .ok (.invokespecial 83, 3) := by decide +kernel
theorem dX8_election_21 : decode cX8_election 21 = .ok (.athrow, 1) := by decide +kernel
theorem dX8_election_22 : decode cX8_election 22 = .ok (.aload_n 0, 1) := by decide +kernel
theorem dX8_election_23 : decode cX8_election 23 = .ok (.iload_n 1, 1) := by decide +kernel
theorem dX8_election_24 : decode cX8_election 24 = .ok (.invokevirtual 86, 3) := by decide +kernel
theorem dX8_election_27 : decode cX8_election 27 = .ok (.aload_n 0, 1) := by decide +kernel
theorem dX8_election_28 : decode cX8_election 28 = .ok (.getfield 57, 3) := by decide +kernel
theorem dX8_election_31 : decode cX8_election 31 = .ok (.aload_n 0, 1) := by decide +kernel
theorem dX8_election_32 : decode cX8_election 32 = .ok (.getfield 34, 3) := by decide +kernel
theorem dX8_election_35 : decode cX8_election 35 = .ok (.invokestatic 89, 3) := by decide +kernel
theorem dX8_election_38 : decode cX8_election 38 = .ok (.aload_n 0, 1) := by decide +kernel
theorem dX8_election_39 : decode cX8_election 39 = .ok (.aload_n 0, 1) := by decide +kernel
theorem dX8_election_40 : decode cX8_election 40 = .ok (.getfield 57, 3) := by decide +kernel
theorem dX8_election_43 : decode cX8_election 43 = .ok (.getfield 95, 3) := by decide +kernel
theorem dX8_election_46 : decode cX8_election 46 = .ok (.putfield 17, 3) := by decide +kernel
theorem dX8_election_49 : decode cX8_election 49 = .ok (.aload_n 0, 1) := by decide +kernel
theorem dX8_election_50 : decode cX8_election 50 = .ok (.getfield 57, 3) := by decide +kernel
theorem dX8_election_53 : decode cX8_election 53 = .ok (.getfield 98, 3) := by decide +kernel
theorem dX8_election_56 : decode cX8_election 56 = .ok (.ifCond .eq 14, 3) := by decide +kernel
theorem dX8_election_59 : decode cX8_election 59 = .ok (.bipush (-10), 2) := by decide +kernel
theorem dX8_election_61 : decode cX8_election 61 = .ok (.aload_n 0, 1) := by decide +kernel
theorem dX8_election_62 : decode cX8_election 62 = .ok (.getfield 57, 3) := by decide +kernel
theorem dX8_election_65 : decode cX8_election 65 = .ok (.getfield 98, 3) := by decide +kernel
theorem dX8_election_68 : decode cX8_election 68 = .ok (.isub, 1) := by decide +kernel
theorem dX8_election_69 : decode cX8_election 69 = .ok (.ireturn, 1) := by decide +kernel
theorem dX8_election_70 : decode cX8_election 70 = .ok (.aload_n 0, 1) := by decide +kernel
theorem dX8_election_71 : decode cX8_election 71 = .ok (.getfield 34, 3) := by decide +kernel
theorem dX8_election_74 : decode cX8_election 74 = .ok (.astore_n 2, 1) := by decide +kernel
theorem dX8_election_75 : decode cX8_election 75 = .ok (.aload_n 0, 1) := by decide +kernel
theorem dX8_election_76 : decode cX8_election 76 = .ok (.aload_n 0, 1) := by decide +kernel
theorem dX8_election_77 : decode cX8_election 77 = .ok (.getfield 30, 3) := by decide +kernel
theorem dX8_election_80 : decode cX8_election 80 = .ok (.putfield 34, 3) := by decide +kernel
theorem dX8_election_83 : decode cX8_election 83 = .ok (.aload_n 0, 1) := by decide +kernel
theorem dX8_election_84 : decode cX8_election 84 = .ok (.aload_n 2, 1) := by decide +kernel
theorem dX8_election_85 : decode cX8_election 85 = .ok (.putfield 30, 3) := by decide +kernel
theorem dX8_election_88 : decode cX8_election 88 = .ok (.aload_n 0, 1) := by decide +kernel
theorem dX8_election_89 : decode cX8_election 89 = .ok (.getfield 50, 3) := by decide +kernel
theorem dX8_election_92 : decode cX8_election 92 = .ok (.invokevirtual 101, 3) := by decide +kernel
theorem dX8_election_95 : decode cX8_election 95 = .ok (.aload_n 0, 1) := by decide +kernel
theorem dX8_election_96 : decode cX8_election 96 = .ok (.invokevirtual 104, 3) := by decide +kernel
theorem dX8_election_99 : decode cX8_election 99 = .ok (.aload_n 0, 1) := by decide +kernel
theorem dX8_election_100 : decode cX8_election 100 = .ok (.getfield 30, 3) := by decide +kernel
theorem dX8_election_103 : decode cX8_election 103 = .ok (.getfield 107, 3) := by decide +kernel
theorem dX8_election_106 : decode cX8_election 106 = .ok (.ireturn, 1) := by decide +kernel
theorem dX8_takeTape_0 : decode cX8_takeTape 0 = .ok (.aload_n 0, 1) := by decide +kernel
theorem dX8_takeTape_1 : decode cX8_takeTape 1 = .ok (.getfield 57, 3) := by decide +kernel
theorem dX8_takeTape_4 : decode cX8_takeTape 4 = .ok (.aload_n 0, 1) := by decide +kernel
theorem dX8_takeTape_5 : decode cX8_takeTape 5 = .ok (.getfield 9, 3) := by decide +kernel
theorem dX8_takeTape_8 : decode cX8_takeTape 8 = .ok (.iload_n 1, 1) := by decide +kernel
theorem dX8_takeTape_9 : decode cX8_takeTape 9 = .ok (.invokevirtual 110, 3) := by decide +kernel
theorem dX8_takeTape_12 : decode cX8_takeTape 12 = .ok (.aload_n 0, 1) := by decide +kernel
theorem dX8_takeTape_13 : decode cX8_takeTape 13 = .ok (.iconst 0, 1) := by decide +kernel
theorem dX8_takeTape_14 : decode cX8_takeTape 14 = .ok (.putfield 13, 3) := by decide +kernel
theorem dX8_takeTape_17 : decode cX8_takeTape 17 = .ok (.return_, 1) := by decide +kernel
theorem dX8_fault_0 : decode cX8_fault 0 = .ok (.aload_n 0, 1) := by decide +kernel
theorem dX8_fault_1 : decode cX8_fault 1 = .ok (.getfield 17, 3) := by decide +kernel
theorem dX8_fault_4 : decode cX8_fault 4 = .ok (.ireturn, 1) := by decide +kernel
theorem dX8_count_0 : decode cX8_count 0 = .ok (.iload_n 1, 1) := by decide +kernel
theorem dX8_count_1 : decode cX8_count 1 = .ok (.tableswitch 190 0 11 #[63, 71, 79, 89, 99, 109, 117, 125, 141, 157, 177, 185], 63) := by decide +kernel
theorem dX8_count_64 : decode cX8_count 64 = .ok (.aload_n 0, 1) := by decide +kernel
theorem dX8_count_65 : decode cX8_count 65 = .ok (.getfield 30, 3) := by decide +kernel
theorem dX8_count_68 : decode cX8_count 68 = .ok (.getfield 114, 3) := by decide +kernel
theorem dX8_count_71 : decode cX8_count 71 = .ok (.ireturn, 1) := by decide +kernel
theorem dX8_count_72 : decode cX8_count 72 = .ok (.aload_n 0, 1) := by decide +kernel
theorem dX8_count_73 : decode cX8_count 73 = .ok (.getfield 30, 3) := by decide +kernel
theorem dX8_count_76 : decode cX8_count 76 = .ok (.getfield 107, 3) := by decide +kernel
theorem dX8_count_79 : decode cX8_count 79 = .ok (.ireturn, 1) := by decide +kernel
theorem dX8_count_80 : decode cX8_count 80 = .ok (.aload_n 0, 1) := by decide +kernel
theorem dX8_count_81 : decode cX8_count 81 = .ok (.getfield 30, 3) := by decide +kernel
theorem dX8_count_84 : decode cX8_count 84 = .ok (.getfield 117, 3) := by decide +kernel
theorem dX8_count_87 : decode cX8_count 87 = .ok (.iconst 0, 1) := by decide +kernel
theorem dX8_count_88 : decode cX8_count 88 = .ok (.iaload, 1) := by decide +kernel
theorem dX8_count_89 : decode cX8_count 89 = .ok (.ireturn, 1) := by decide +kernel
theorem dX8_count_90 : decode cX8_count 90 = .ok (.aload_n 0, 1) := by decide +kernel
theorem dX8_count_91 : decode cX8_count 91 = .ok (.getfield 30, 3) := by decide +kernel
theorem dX8_count_94 : decode cX8_count 94 = .ok (.getfield 117, 3) := by decide +kernel
theorem dX8_count_97 : decode cX8_count 97 = .ok (.iconst 1, 1) := by decide +kernel
theorem dX8_count_98 : decode cX8_count 98 = .ok (.iaload, 1) := by decide +kernel
theorem dX8_count_99 : decode cX8_count 99 = .ok (.ireturn, 1) := by decide +kernel
theorem dX8_count_100 : decode cX8_count 100 = .ok (.aload_n 0, 1) := by decide +kernel
theorem dX8_count_101 : decode cX8_count 101 = .ok (.getfield 30, 3) := by decide +kernel
theorem dX8_count_104 : decode cX8_count 104 = .ok (.getfield 117, 3) := by decide +kernel
theorem dX8_count_107 : decode cX8_count 107 = .ok (.iconst 2, 1) := by decide +kernel
theorem dX8_count_108 : decode cX8_count 108 = .ok (.iaload, 1) := by decide +kernel
theorem dX8_count_109 : decode cX8_count 109 = .ok (.ireturn, 1) := by decide +kernel
theorem dX8_count_110 : decode cX8_count 110 = .ok (.aload_n 0, 1) := by decide +kernel
theorem dX8_count_111 : decode cX8_count 111 = .ok (.getfield 40, 3) := by decide +kernel
theorem dX8_count_114 : decode cX8_count 114 = .ok (.getfield 121, 3) := by decide +kernel
theorem dX8_count_117 : decode cX8_count 117 = .ok (.ireturn, 1) := by decide +kernel
theorem dX8_count_118 : decode cX8_count 118 = .ok (.aload_n 0, 1) := by decide +kernel
theorem dX8_count_119 : decode cX8_count 119 = .ok (.getfield 40, 3) := by decide +kernel
theorem dX8_count_122 : decode cX8_count 122 = .ok (.getfield 124, 3) := by decide +kernel
theorem dX8_count_125 : decode cX8_count 125 = .ok (.ireturn, 1) := by decide +kernel
theorem dX8_count_126 : decode cX8_count 126 = .ok (.aload_n 0, 1) := by decide +kernel
theorem dX8_count_127 : decode cX8_count 127 = .ok (.getfield 30, 3) := by decide +kernel
theorem dX8_count_130 : decode cX8_count 130 = .ok (.getfield 114, 3) := by decide +kernel
theorem dX8_count_133 : decode cX8_count 133 = .ok (.aload_n 0, 1) := by decide +kernel
theorem dX8_count_134 : decode cX8_count 134 = .ok (.getfield 40, 3) := by decide +kernel
theorem dX8_count_137 : decode cX8_count 137 = .ok (.getfield 127, 3) := by decide +kernel
theorem dX8_count_140 : decode cX8_count 140 = .ok (.isub, 1) := by decide +kernel
theorem dX8_count_141 : decode cX8_count 141 = .ok (.ireturn, 1) := by decide +kernel
theorem dX8_count_142 : decode cX8_count 142 = .ok (.aload_n 0, 1) := by decide +kernel
theorem dX8_count_143 : decode cX8_count 143 = .ok (.getfield 40, 3) := by decide +kernel
theorem dX8_count_146 : decode cX8_count 146 = .ok (.invokevirtual 130, 3) := by decide +kernel
theorem dX8_count_149 : decode cX8_count 149 = .ok (.ifCond .eq 7, 3) := by decide +kernel
theorem dX8_count_152 : decode cX8_count 152 = .ok (.iconst 1, 1) := by decide +kernel
theorem dX8_count_153 : decode cX8_count 153 = .ok (.goto 4, 3) := by decide +kernel
theorem dX8_count_156 : decode cX8_count 156 = .ok (.iconst 0, 1) := by decide +kernel
theorem dX8_count_157 : decode cX8_count 157 = .ok (.ireturn, 1) := by decide +kernel
theorem dX8_count_158 : decode cX8_count 158 = .ok (.aload_n 0, 1) := by decide +kernel
theorem dX8_count_159 : decode cX8_count 159 = .ok (.getfield 40, 3) := by decide +kernel
theorem dX8_count_162 : decode cX8_count 162 = .ok (.aload_n 0, 1) := by decide +kernel
theorem dX8_count_163 : decode cX8_count 163 = .ok (.getfield 30, 3) := by decide +kernel
theorem dX8_count_166 : decode cX8_count 166 = .ok (.invokevirtual 134, 3) := by decide +kernel
theorem dX8_count_169 : decode cX8_count 169 = .ok (.ifCond .eq 7, 3) := by decide +kernel
theorem dX8_count_172 : decode cX8_count 172 = .ok (.iconst 1, 1) := by decide +kernel
theorem dX8_count_173 : decode cX8_count 173 = .ok (.goto 4, 3) := by decide +kernel
theorem dX8_count_176 : decode cX8_count 176 = .ok (.iconst 0, 1) := by decide +kernel
theorem dX8_count_177 : decode cX8_count 177 = .ok (.ireturn, 1) := by decide +kernel
theorem dX8_count_178 : decode cX8_count 178 = .ok (.aload_n 0, 1) := by decide +kernel
theorem dX8_count_179 : decode cX8_count 179 = .ok (.getfield 50, 3) := by decide +kernel
theorem dX8_count_182 : decode cX8_count 182 = .ok (.getfield 138, 3) := by decide +kernel
theorem dX8_count_185 : decode cX8_count 185 = .ok (.ireturn, 1) := by decide +kernel
theorem dX8_count_186 : decode cX8_count 186 = .ok (.aload_n 0, 1) := by decide +kernel
theorem dX8_count_187 : decode cX8_count 187 = .ok (.getfield 13, 3) := by decide +kernel
theorem dX8_count_190 : decode cX8_count 190 = .ok (.ireturn, 1) := by decide +kernel
theorem dX8_count_191 : decode cX8_count 191 = .ok (.new 141, 3) := by decide +kernel
theorem dX8_count_194 : decode cX8_count 194 = .ok (.dup, 1) := by decide +kernel
theorem dX8_count_195 : decode cX8_count 195 = .ok (.ldc 143, 2) := by decide +kernel
theorem dX8_count_197 : decode cX8_count 197 = .ok (.invokespecial 145, 3) := by decide +kernel
theorem dX8_count_200 : decode cX8_count 200 = .ok (.athrow, 1) := by decide +kernel
theorem dX8_race_0 : decode cX8_race 0 = .ok (.aload_n 0, 1) := by decide +kernel
theorem dX8_race_1 : decode cX8_race 1 = .ok (.iload_n 1, 1) := by decide +kernel
theorem dX8_race_2 : decode cX8_race 2 = .ok (.invokevirtual 146, 3) := by decide +kernel
theorem dX8_race_5 : decode cX8_race 5 = .ok (.astore_n 3, 1) := by decide +kernel
theorem dX8_race_6 : decode cX8_race 6 = .ok (.iload_n 2, 1) := by decide +kernel
theorem dX8_race_7 : decode cX8_race 7 = .ok (.tableswitch 104 0 7 #[45, 50, 55, 60, 65, 70, 87, 97], 45) := by decide +kernel
theorem dX8_race_52 : decode cX8_race 52 = .ok (.aload_n 3, 1) := by decide +kernel
theorem dX8_race_53 : decode cX8_race 53 = .ok (.getfield 150, 3) := by decide +kernel
theorem dX8_race_56 : decode cX8_race 56 = .ok (.ireturn, 1) := by decide +kernel
theorem dX8_race_57 : decode cX8_race 57 = .ok (.aload_n 3, 1) := by decide +kernel
theorem dX8_race_58 : decode cX8_race 58 = .ok (.getfield 155, 3) := by decide +kernel
theorem dX8_race_61 : decode cX8_race 61 = .ok (.ireturn, 1) := by decide +kernel
theorem dX8_race_62 : decode cX8_race 62 = .ok (.aload_n 3, 1) := by decide +kernel
theorem dX8_race_63 : decode cX8_race 63 = .ok (.getfield 158, 3) := by decide +kernel
theorem dX8_race_66 : decode cX8_race 66 = .ok (.ireturn, 1) := by decide +kernel
theorem dX8_race_67 : decode cX8_race 67 = .ok (.aload_n 3, 1) := by decide +kernel
theorem dX8_race_68 : decode cX8_race 68 = .ok (.getfield 161, 3) := by decide +kernel
theorem dX8_race_71 : decode cX8_race 71 = .ok (.ireturn, 1) := by decide +kernel
theorem dX8_race_72 : decode cX8_race 72 = .ok (.aload_n 3, 1) := by decide +kernel
theorem dX8_race_73 : decode cX8_race 73 = .ok (.getfield 164, 3) := by decide +kernel
theorem dX8_race_76 : decode cX8_race 76 = .ok (.ireturn, 1) := by decide +kernel
theorem dX8_race_77 : decode cX8_race 77 = .ok (.aload_n 0, 1) := by decide +kernel
theorem dX8_race_78 : decode cX8_race 78 = .ok (.getfield 40, 3) := by decide +kernel
theorem dX8_race_81 : decode cX8_race 81 = .ok (.iload_n 1, 1) := by decide +kernel
theorem dX8_race_82 : decode cX8_race 82 = .ok (.invokevirtual 167, 3) := by decide +kernel
theorem dX8_race_85 : decode cX8_race 85 = .ok (.ifCond .eq 7, 3) := by decide +kernel
theorem dX8_race_88 : decode cX8_race 88 = .ok (.iconst 1, 1) := by decide +kernel
theorem dX8_race_89 : decode cX8_race 89 = .ok (.goto 4, 3) := by decide +kernel
theorem dX8_race_92 : decode cX8_race 92 = .ok (.iconst 0, 1) := by decide +kernel
theorem dX8_race_93 : decode cX8_race 93 = .ok (.ireturn, 1) := by decide +kernel
theorem dX8_race_94 : decode cX8_race 94 = .ok (.aload_n 0, 1) := by decide +kernel
theorem dX8_race_95 : decode cX8_race 95 = .ok (.getfield 40, 3) := by decide +kernel
theorem dX8_race_98 : decode cX8_race 98 = .ok (.getfield 171, 3) := by decide +kernel
theorem dX8_race_101 : decode cX8_race 101 = .ok (.iload_n 1, 1) := by decide +kernel
theorem dX8_race_102 : decode cX8_race 102 = .ok (.iaload, 1) := by decide +kernel
theorem dX8_race_103 : decode cX8_race 103 = .ok (.ireturn, 1) := by decide +kernel
theorem dX8_race_104 : decode cX8_race 104 = .ok (.aload_n 0, 1) := by decide +kernel
theorem dX8_race_105 : decode cX8_race 105 = .ok (.iload_n 1, 1) := by decide +kernel
theorem dX8_race_106 : decode cX8_race 106 = .ok (.aload_n 3, 1) := by decide +kernel
theorem dX8_race_107 : decode cX8_race 107 = .ok (.invokevirtual 174, 3) := by decide +kernel
theorem dX8_race_110 : decode cX8_race 110 = .ok (.ireturn, 1) := by decide +kernel
theorem dX8_race_111 : decode cX8_race 111 = .ok (.new 141, 3) := by decide +kernel
theorem dX8_race_114 : decode cX8_race 114 = .ok (.dup, 1) := by decide +kernel
theorem dX8_race_115 : decode cX8_race 115 = .ok (.ldc 178, 2) := by decide +kernel
theorem dX8_race_117 : decode cX8_race 117 = .ok (.invokespecial 145, 3) := by decide +kernel
theorem dX8_race_120 : decode cX8_race 120 = .ok (.athrow, 1) := by decide +kernel
theorem dX8_wins_0 : decode cX8_wins 0 = .ok (.aload_n 0, 1) := by decide +kernel
theorem dX8_wins_1 : decode cX8_wins 1 = .ok (.getfield 40, 3) := by decide +kernel
theorem dX8_wins_4 : decode cX8_wins 4 = .ok (.iload_n 1, 1) := by decide +kernel
theorem dX8_wins_5 : decode cX8_wins 5 = .ok (.invokevirtual 167, 3) := by decide +kernel
theorem dX8_wins_8 : decode cX8_wins 8 = .ok (.ifCond .eq 8, 3) := by decide +kernel
theorem dX8_wins_11 : decode cX8_wins 11 = .ok (.aload_n 2, 1) := by decide +kernel
theorem dX8_wins_12 : decode cX8_wins 12 = .ok (.getfield 158, 3) := by decide +kernel
theorem dX8_wins_15 : decode cX8_wins 15 = .ok (.ireturn, 1) := by decide +kernel
theorem dX8_wins_16 : decode cX8_wins 16 = .ok (.aload_n 0, 1) := by decide +kernel
theorem dX8_wins_17 : decode cX8_wins 17 = .ok (.getfield 40, 3) := by decide +kernel
theorem dX8_wins_20 : decode cX8_wins 20 = .ok (.aload_n 0, 1) := by decide +kernel
theorem dX8_wins_21 : decode cX8_wins 21 = .ok (.getfield 30, 3) := by decide +kernel
theorem dX8_wins_24 : decode cX8_wins 24 = .ok (.invokevirtual 134, 3) := by decide +kernel
theorem dX8_wins_27 : decode cX8_wins 27 = .ok (.ifCond .eq 10, 3) := by decide +kernel
theorem dX8_wins_30 : decode cX8_wins 30 = .ok (.aload_n 2, 1) := by decide +kernel
theorem dX8_wins_31 : decode cX8_wins 31 = .ok (.getfield 161, 3) := by decide +kernel
theorem dX8_wins_34 : decode cX8_wins 34 = .ok (.goto 4, 3) := by decide +kernel
theorem dX8_wins_37 : decode cX8_wins 37 = .ok (.iconst (-1), 1) := by decide +kernel
theorem dX8_wins_38 : decode cX8_wins 38 = .ok (.ireturn, 1) := by decide +kernel
theorem dX8_contestOf_0 : decode cX8_contestOf 0 = .ok (.iload_n 1, 1) := by decide +kernel
theorem dX8_contestOf_1 : decode cX8_contestOf 1 = .ok (.ifCond .lt 19, 3) := by decide +kernel
theorem dX8_contestOf_4 : decode cX8_contestOf 4 = .ok (.iload_n 1, 1) := by decide +kernel
theorem dX8_contestOf_5 : decode cX8_contestOf 5 = .ok (.aload_n 0, 1) := by decide +kernel
theorem dX8_contestOf_6 : decode cX8_contestOf 6 = .ok (.getfield 30, 3) := by decide +kernel
theorem dX8_contestOf_9 : decode cX8_contestOf 9 = .ok (.getfield 114, 3) := by decide +kernel
theorem dX8_contestOf_12 : decode cX8_contestOf 12 = .ok (.if_icmp .ge 8, 3) := by decide +kernel
theorem dX8_contestOf_15 : decode cX8_contestOf 15 = .ok (.iload_n 1, 1) := by decide +kernel
theorem dX8_contestOf_16 : decode cX8_contestOf 16 = .ok (.iconst 3, 1) := by decide +kernel
theorem dX8_contestOf_17 : decode cX8_contestOf 17 = .ok (.if_icmp .lt 13, 3) := by decide +kernel
theorem dX8_contestOf_20 : decode cX8_contestOf 20 = .ok (.new 141, 3) := by decide +kernel
theorem dX8_contestOf_23 : decode cX8_contestOf 23 = .ok (.dup, 1) := by decide +kernel
theorem dX8_contestOf_24 : decode cX8_contestOf 24 = .ok (.ldc 180, 2) := by decide +kernel
theorem dX8_contestOf_26 : decode cX8_contestOf 26 = .ok (.invokespecial 145, 3) := by decide +kernel
theorem dX8_contestOf_29 : decode cX8_contestOf 29 = .ok (.athrow, 1) := by decide +kernel
theorem dX8_contestOf_30 : decode cX8_contestOf 30 = .ok (.aload_n 0, 1) := by decide +kernel
theorem dX8_contestOf_31 : decode cX8_contestOf 31 = .ok (.getfield 30, 3) := by decide +kernel
theorem dX8_contestOf_34 : decode cX8_contestOf 34 = .ok (.getfield 182, 3) := by decide +kernel
theorem dX8_contestOf_37 : decode cX8_contestOf 37 = .ok (.iload_n 1, 1) := by decide +kernel
theorem dX8_contestOf_38 : decode cX8_contestOf 38 = .ok (.aaload, 1) := by decide +kernel
theorem dX8_contestOf_39 : decode cX8_contestOf 39 = .ok (.areturn, 1) := by decide +kernel
theorem dX8_seekCandidate_0 : decode cX8_seekCandidate 0 = .ok (.iload_n 2, 1) := by decide +kernel
theorem dX8_seekCandidate_1 : decode cX8_seekCandidate 1 = .ok (.ifCond .lt 16, 3) := by decide +kernel
theorem dX8_seekCandidate_4 : decode cX8_seekCandidate 4 = .ok (.iload_n 2, 1) := by decide +kernel
theorem dX8_seekCandidate_5 : decode cX8_seekCandidate 5 = .ok (.aload_n 1, 1) := by decide +kernel
theorem dX8_seekCandidate_6 : decode cX8_seekCandidate 6 = .ok (.getfield 150, 3) := by decide +kernel
theorem dX8_seekCandidate_9 : decode cX8_seekCandidate 9 = .ok (.if_icmp .ge 8, 3) := by decide +kernel
theorem dX8_seekCandidate_12 : decode cX8_seekCandidate 12 = .ok (.iload_n 2, 1) := by decide +kernel
theorem dX8_seekCandidate_13 : decode cX8_seekCandidate 13 = .ok (.iconst 4, 1) := by decide +kernel
theorem dX8_seekCandidate_14 : decode cX8_seekCandidate 14 = .ok (.if_icmp .lt 13, 3) := by decide +kernel
theorem dX8_seekCandidate_17 : decode cX8_seekCandidate 17 = .ok (.new 141, 3) := by decide +kernel
theorem dX8_seekCandidate_20 : decode cX8_seekCandidate 20 = .ok (.dup, 1) := by decide +kernel
theorem dX8_seekCandidate_21 : decode cX8_seekCandidate 21 = .ok (.ldc 186, 2) := by decide +kernel
theorem dX8_seekCandidate_23 : decode cX8_seekCandidate 23 = .ok (.invokespecial 145, 3) := by decide +kernel
theorem dX8_seekCandidate_26 : decode cX8_seekCandidate 26 = .ok (.athrow, 1) := by decide +kernel
theorem dX8_seekCandidate_27 : decode cX8_seekCandidate 27 = .ok (.return_, 1) := by decide +kernel
theorem dX8_seekBallot_0 : decode cX8_seekBallot 0 = .ok (.iload_n 1, 1) := by decide +kernel
theorem dX8_seekBallot_1 : decode cX8_seekBallot 1 = .ok (.ifCond .lt 21, 3) := by decide +kernel
theorem dX8_seekBallot_4 : decode cX8_seekBallot 4 = .ok (.iload_n 1, 1) := by decide +kernel
theorem dX8_seekBallot_5 : decode cX8_seekBallot 5 = .ok (.aload_n 0, 1) := by decide +kernel
theorem dX8_seekBallot_6 : decode cX8_seekBallot 6 = .ok (.getfield 30, 3) := by decide +kernel
theorem dX8_seekBallot_9 : decode cX8_seekBallot 9 = .ok (.getfield 107, 3) := by decide +kernel
theorem dX8_seekBallot_12 : decode cX8_seekBallot 12 = .ok (.if_icmp .ge 10, 3) := by decide +kernel
theorem dX8_seekBallot_15 : decode cX8_seekBallot 15 = .ok (.iload_n 1, 1) := by decide +kernel
theorem dX8_seekBallot_16 : decode cX8_seekBallot 16 = .ok (.sipush 200, 3) := by decide +kernel
theorem dX8_seekBallot_19 : decode cX8_seekBallot 19 = .ok (.if_icmp .lt 13, 3) := by decide +kernel
theorem dX8_seekBallot_22 : decode cX8_seekBallot 22 = .ok (.new 141, 3) := by decide +kernel
theorem dX8_seekBallot_25 : decode cX8_seekBallot 25 = .ok (.dup, 1) := by decide +kernel
theorem dX8_seekBallot_26 : decode cX8_seekBallot 26 = .ok (.ldc 188, 2) := by decide +kernel
theorem dX8_seekBallot_28 : decode cX8_seekBallot 28 = .ok (.invokespecial 145, 3) := by decide +kernel
theorem dX8_seekBallot_31 : decode cX8_seekBallot 31 = .ok (.athrow, 1) := by decide +kernel
theorem dX8_seekBallot_32 : decode cX8_seekBallot 32 = .ok (.return_, 1) := by decide +kernel
theorem dX8_risk_0 : decode cX8_risk 0 = .ok (.aload_n 0, 1) := by decide +kernel
theorem dX8_risk_1 : decode cX8_risk 1 = .ok (.iload_n 1, 1) := by decide +kernel
theorem dX8_risk_2 : decode cX8_risk 2 = .ok (.invokevirtual 146, 3) := by decide +kernel
theorem dX8_risk_5 : decode cX8_risk 5 = .ok (.pop, 1) := by decide +kernel
theorem dX8_risk_6 : decode cX8_risk 6 = .ok (.aload_n 0, 1) := by decide +kernel
theorem dX8_risk_7 : decode cX8_risk 7 = .ok (.getfield 40, 3) := by decide +kernel
theorem dX8_risk_10 : decode cX8_risk 10 = .ok (.iload_n 1, 1) := by decide +kernel
theorem dX8_risk_11 : decode cX8_risk 11 = .ok (.invokevirtual 190, 3) := by decide +kernel
theorem dX8_risk_14 : decode cX8_risk 14 = .ok (.lreturn, 1) := by decide +kernel
theorem dX8_riskOf_0 : decode cX8_riskOf 0 = .ok (.aload_n 0, 1) := by decide +kernel
theorem dX8_riskOf_1 : decode cX8_riskOf 1 = .ok (.iload_n 1, 1) := by decide +kernel
theorem dX8_riskOf_2 : decode cX8_riskOf 2 = .ok (.invokevirtual 146, 3) := by decide +kernel
theorem dX8_riskOf_5 : decode cX8_riskOf 5 = .ok (.astore_n 3, 1) := by decide +kernel
theorem dX8_riskOf_6 : decode cX8_riskOf 6 = .ok (.aload_n 0, 1) := by decide +kernel
theorem dX8_riskOf_7 : decode cX8_riskOf 7 = .ok (.aload_n 3, 1) := by decide +kernel
theorem dX8_riskOf_8 : decode cX8_riskOf 8 = .ok (.iload_n 2, 1) := by decide +kernel
theorem dX8_riskOf_9 : decode cX8_riskOf 9 = .ok (.invokevirtual 194, 3) := by decide +kernel
theorem dX8_riskOf_12 : decode cX8_riskOf 12 = .ok (.iload_n 2, 1) := by decide +kernel
theorem dX8_riskOf_13 : decode cX8_riskOf 13 = .ok (.aload_n 3, 1) := by decide +kernel
theorem dX8_riskOf_14 : decode cX8_riskOf 14 = .ok (.getfield 158, 3) := by decide +kernel
theorem dX8_riskOf_17 : decode cX8_riskOf 17 = .ok (.if_icmp .ne 5, 3) := by decide +kernel
theorem dX8_riskOf_20 : decode cX8_riskOf 20 = .ok (.lconst 0, 1) := by decide +kernel
theorem dX8_riskOf_21 : decode cX8_riskOf 21 = .ok (.lreturn, 1) := by decide +kernel
theorem dX8_riskOf_22 : decode cX8_riskOf 22 = .ok (.aload_n 3, 1) := by decide +kernel
theorem dX8_riskOf_23 : decode cX8_riskOf 23 = .ok (.getfield 155, 3) := by decide +kernel
theorem dX8_riskOf_26 : decode cX8_riskOf 26 = .ok (.ifCond .ne 14, 3) := by decide +kernel
theorem dX8_riskOf_29 : decode cX8_riskOf 29 = .ok (.aload_n 0, 1) := by decide +kernel
theorem dX8_riskOf_30 : decode cX8_riskOf 30 = .ok (.getfield 40, 3) := by decide +kernel
theorem dX8_riskOf_33 : decode cX8_riskOf 33 = .ok (.iload_n 1, 1) := by decide +kernel
theorem dX8_riskOf_34 : decode cX8_riskOf 34 = .ok (.invokevirtual 190, 3) := by decide +kernel
theorem dX8_riskOf_37 : decode cX8_riskOf 37 = .ok (.goto 14, 3) := by decide +kernel
theorem dX8_riskOf_40 : decode cX8_riskOf 40 = .ok (.aload_n 0, 1) := by decide +kernel
theorem dX8_riskOf_41 : decode cX8_riskOf 41 = .ok (.getfield 40, 3) := by decide +kernel
theorem dX8_riskOf_44 : decode cX8_riskOf 44 = .ok (.getfield 198, 3) := by decide +kernel
theorem dX8_riskOf_47 : decode cX8_riskOf 47 = .ok (.iload_n 1, 1) := by decide +kernel
theorem dX8_riskOf_48 : decode cX8_riskOf 48 = .ok (.aaload, 1) := by decide +kernel
theorem dX8_riskOf_49 : decode cX8_riskOf 49 = .ok (.iload_n 2, 1) := by decide +kernel
theorem dX8_riskOf_50 : decode cX8_riskOf 50 = .ok (.laload, 1) := by decide +kernel
theorem dX8_riskOf_51 : decode cX8_riskOf 51 = .ok (.lreturn, 1) := by decide +kernel
theorem dX8_worst_0 : decode cX8_worst 0 = .ok (.aload_n 0, 1) := by decide +kernel
theorem dX8_worst_1 : decode cX8_worst 1 = .ok (.iload_n 1, 1) := by decide +kernel
theorem dX8_worst_2 : decode cX8_worst 2 = .ok (.invokevirtual 146, 3) := by decide +kernel
theorem dX8_worst_5 : decode cX8_worst 5 = .ok (.pop, 1) := by decide +kernel
theorem dX8_worst_6 : decode cX8_worst 6 = .ok (.iconst (-1), 1) := by decide +kernel
theorem dX8_worst_7 : decode cX8_worst 7 = .ok (.istore_n 2, 1) := by decide +kernel
theorem dX8_worst_8 : decode cX8_worst 8 = .ok (.lconst 0, 1) := by decide +kernel
theorem dX8_worst_9 : decode cX8_worst 9 = .ok (.lstore_n 3, 1) := by decide +kernel
theorem dX8_worst_10 : decode cX8_worst 10 = .ok (.iconst 0, 1) := by decide +kernel
theorem dX8_worst_11 : decode cX8_worst 11 = .ok (.istore 5, 2) := by decide +kernel
theorem dX8_worst_13 : decode cX8_worst 13 = .ok (.iload 5, 2) := by decide +kernel
theorem dX8_worst_15 : decode cX8_worst 15 = .ok (.aload_n 0, 1) := by decide +kernel
theorem dX8_worst_16 : decode cX8_worst 16 = .ok (.getfield 30, 3) := by decide +kernel
theorem dX8_worst_19 : decode cX8_worst 19 = .ok (.getfield 107, 3) := by decide +kernel
theorem dX8_worst_22 : decode cX8_worst 22 = .ok (.if_icmp .ge 46, 3) := by decide +kernel
theorem dX8_worst_25 : decode cX8_worst 25 = .ok (.iload 5, 2) := by decide +kernel
theorem dX8_worst_27 : decode cX8_worst 27 = .ok (.sipush 200, 3) := by decide +kernel
theorem dX8_worst_30 : decode cX8_worst 30 = .ok (.if_icmp .ge 38, 3) := by decide +kernel
theorem dX8_worst_33 : decode cX8_worst 33 = .ok (.aload_n 0, 1) := by decide +kernel
theorem dX8_worst_34 : decode cX8_worst 34 = .ok (.getfield 40, 3) := by decide +kernel
theorem dX8_worst_37 : decode cX8_worst 37 = .ok (.aload_n 0, 1) := by decide +kernel
theorem dX8_worst_38 : decode cX8_worst 38 = .ok (.getfield 30, 3) := by decide +kernel
theorem dX8_worst_41 : decode cX8_worst 41 = .ok (.iload_n 1, 1) := by decide +kernel
theorem dX8_worst_42 : decode cX8_worst 42 = .ok (.iload 5, 2) := by decide +kernel
theorem dX8_worst_44 : decode cX8_worst 44 = .ok (.invokevirtual 202, 3) := by decide +kernel
theorem dX8_worst_47 : decode cX8_worst 47 = .ok (.lstore 6, 2) := by decide +kernel
theorem dX8_worst_49 : decode cX8_worst 49 = .ok (.lload 6, 2) := by decide +kernel
theorem dX8_worst_51 : decode cX8_worst 51 = .ok (.lload_n 3, 1) := by decide +kernel
theorem dX8_worst_52 : decode cX8_worst 52 = .ok (.lcmp, 1) := by decide +kernel
theorem dX8_worst_53 : decode cX8_worst 53 = .ok (.ifCond .le 9, 3) := by decide +kernel
theorem dX8_worst_56 : decode cX8_worst 56 = .ok (.lload 6, 2) := by decide +kernel
theorem dX8_worst_58 : decode cX8_worst 58 = .ok (.lstore_n 3, 1) := by decide +kernel
theorem dX8_worst_59 : decode cX8_worst 59 = .ok (.iload 5, 2) := by decide +kernel
theorem dX8_worst_61 : decode cX8_worst 61 = .ok (.istore_n 2, 1) := by decide +kernel
theorem dX8_worst_62 : decode cX8_worst 62 = .ok (.iinc 5 1, 3) := by decide +kernel
theorem dX8_worst_65 : decode cX8_worst 65 = .ok (.goto (-52), 3) := by decide +kernel
theorem dX8_worst_68 : decode cX8_worst 68 = .ok (.iload_n 2, 1) := by decide +kernel
theorem dX8_worst_69 : decode cX8_worst 69 = .ok (.ireturn, 1) := by decide +kernel
theorem dX8_chance_0 : decode cX8_chance 0 = .ok (.aload_n 0, 1) := by decide +kernel
theorem dX8_chance_1 : decode cX8_chance 1 = .ok (.iload_n 1, 1) := by decide +kernel
theorem dX8_chance_2 : decode cX8_chance 2 = .ok (.invokevirtual 146, 3) := by decide +kernel
theorem dX8_chance_5 : decode cX8_chance 5 = .ok (.astore_n 3, 1) := by decide +kernel
theorem dX8_chance_6 : decode cX8_chance 6 = .ok (.iload_n 2, 1) := by decide +kernel
theorem dX8_chance_7 : decode cX8_chance 7 = .ok (.ifCond .lt 10, 3) := by decide +kernel
theorem dX8_chance_10 : decode cX8_chance 10 = .ok (.iload_n 2, 1) := by decide +kernel
theorem dX8_chance_11 : decode cX8_chance 11 = .ok (.sipush 300, 3) := by decide +kernel
theorem dX8_chance_14 : decode cX8_chance 14 = .ok (.if_icmp .le 13, 3) := by decide +kernel
theorem dX8_chance_17 : decode cX8_chance 17 = .ok (.new 79, 3) := by decide +kernel
theorem dX8_chance_20 : decode cX8_chance 20 = .ok (.dup, 1) := by decide +kernel
theorem dX8_chance_21 : decode cX8_chance 21 = .ok (.ldc 206, 2) := by decide +kernel
theorem dX8_chance_23 : decode cX8_chance 23 = .ok (.invokespecial 83, 3) := by decide +kernel
theorem dX8_chance_26 : decode cX8_chance 26 = .ok (.athrow, 1) := by decide +kernel
theorem dX8_chance_27 : decode cX8_chance 27 = .ok (.aload_n 0, 1) := by decide +kernel
theorem dX8_chance_28 : decode cX8_chance 28 = .ok (.getfield 30, 3) := by decide +kernel
theorem dX8_chance_31 : decode cX8_chance 31 = .ok (.getfield 107, 3) := by decide +kernel
theorem dX8_chance_34 : decode cX8_chance 34 = .ok (.aload_n 3, 1) := by decide +kernel
theorem dX8_chance_35 : decode cX8_chance 35 = .ok (.aload_n 0, 1) := by decide +kernel
theorem dX8_chance_36 : decode cX8_chance 36 = .ok (.getfield 30, 3) := by decide +kernel
theorem dX8_chance_39 : decode cX8_chance 39 = .ok (.getfield 107, 3) := by decide +kernel
theorem dX8_chance_42 : decode cX8_chance 42 = .ok (.invokevirtual 208, 3) := by decide +kernel
theorem dX8_chance_45 : decode cX8_chance 45 = .ok (.isub, 1) := by decide +kernel
theorem dX8_chance_46 : decode cX8_chance 46 = .ok (.istore 4, 2) := by decide +kernel
theorem dX8_chance_48 : decode cX8_chance 48 = .ok (.ldc2_w 212, 3) := by decide +kernel
theorem dX8_chance_51 : decode cX8_chance 51 = .ok (.lstore 5, 2) := by decide +kernel
theorem dX8_chance_53 : decode cX8_chance 53 = .ok (.iconst 0, 1) := by decide +kernel
theorem dX8_chance_54 : decode cX8_chance 54 = .ok (.istore 7, 2) := by decide +kernel
theorem dX8_chance_56 : decode cX8_chance 56 = .ok (.iload 7, 2) := by decide +kernel
theorem dX8_chance_58 : decode cX8_chance 58 = .ok (.iload_n 2, 1) := by decide +kernel
theorem dX8_chance_59 : decode cX8_chance 59 = .ok (.if_icmp .ge 19, 3) := by decide +kernel
theorem dX8_chance_62 : decode cX8_chance 62 = .ok (.aload_n 0, 1) := by decide +kernel
theorem dX8_chance_63 : decode cX8_chance 63 = .ok (.lload 5, 2) := by decide +kernel
theorem dX8_chance_65 : decode cX8_chance 65 = .ok (.iload 4, 2) := by decide +kernel
theorem dX8_chance_67 : decode cX8_chance 67 = .ok (.invokevirtual 214, 3) := by decide +kernel
theorem dX8_chance_70 : decode cX8_chance 70 = .ok (.lstore 5, 2) := by decide +kernel
theorem dX8_chance_72 : decode cX8_chance 72 = .ok (.iinc 7 1, 3) := by decide +kernel
theorem dX8_chance_75 : decode cX8_chance 75 = .ok (.goto (-19), 3) := by decide +kernel
theorem dX8_chance_78 : decode cX8_chance 78 = .ok (.lload 5, 2) := by decide +kernel
theorem dX8_chance_80 : decode cX8_chance 80 = .ok (.lreturn, 1) := by decide +kernel
theorem dX8_enough_0 : decode cX8_enough 0 = .ok (.aload_n 0, 1) := by decide +kernel
theorem dX8_enough_1 : decode cX8_enough 1 = .ok (.iload_n 1, 1) := by decide +kernel
theorem dX8_enough_2 : decode cX8_enough 2 = .ok (.invokevirtual 146, 3) := by decide +kernel
theorem dX8_enough_5 : decode cX8_enough 5 = .ok (.astore_n 2, 1) := by decide +kernel
theorem dX8_enough_6 : decode cX8_enough 6 = .ok (.aload_n 0, 1) := by decide +kernel
theorem dX8_enough_7 : decode cX8_enough 7 = .ok (.getfield 30, 3) := by decide +kernel
theorem dX8_enough_10 : decode cX8_enough 10 = .ok (.getfield 107, 3) := by decide +kernel
theorem dX8_enough_13 : decode cX8_enough 13 = .ok (.aload_n 2, 1) := by decide +kernel
theorem dX8_enough_14 : decode cX8_enough 14 = .ok (.aload_n 0, 1) := by decide +kernel
theorem dX8_enough_15 : decode cX8_enough 15 = .ok (.getfield 30, 3) := by decide +kernel
theorem dX8_enough_18 : decode cX8_enough 18 = .ok (.getfield 107, 3) := by decide +kernel
theorem dX8_enough_21 : decode cX8_enough 21 = .ok (.invokevirtual 208, 3) := by decide +kernel
theorem dX8_enough_24 : decode cX8_enough 24 = .ok (.isub, 1) := by decide +kernel
theorem dX8_enough_25 : decode cX8_enough 25 = .ok (.istore_n 3, 1) := by decide +kernel
theorem dX8_enough_26 : decode cX8_enough 26 = .ok (.aload_n 0, 1) := by decide +kernel
theorem dX8_enough_27 : decode cX8_enough 27 = .ok (.getfield 30, 3) := by decide +kernel
theorem dX8_enough_30 : decode cX8_enough 30 = .ok (.invokevirtual 218, 3) := by decide +kernel
theorem dX8_enough_33 : decode cX8_enough 33 = .ok (.lstore 4, 2) := by decide +kernel
theorem dX8_enough_35 : decode cX8_enough 35 = .ok (.ldc2_w 212, 3) := by decide +kernel
theorem dX8_enough_38 : decode cX8_enough 38 = .ok (.lstore 6, 2) := by decide +kernel
theorem dX8_enough_40 : decode cX8_enough 40 = .ok (.iconst 1, 1) := by decide +kernel
theorem dX8_enough_41 : decode cX8_enough 41 = .ok (.istore 8, 2) := by decide +kernel
theorem dX8_enough_43 : decode cX8_enough 43 = .ok (.iload 8, 2) := by decide +kernel
theorem dX8_enough_45 : decode cX8_enough 45 = .ok (.sipush 5000, 3) := by decide +kernel
theorem dX8_enough_48 : decode cX8_enough 48 = .ok (.if_icmp .gt 43, 3) := by decide +kernel
theorem dX8_enough_51 : decode cX8_enough 51 = .ok (.aload_n 0, 1) := by decide +kernel
theorem dX8_enough_52 : decode cX8_enough 52 = .ok (.lload 6, 2) := by decide +kernel
theorem dX8_enough_54 : decode cX8_enough 54 = .ok (.iload_n 3, 1) := by decide +kernel
theorem dX8_enough_55 : decode cX8_enough 55 = .ok (.invokevirtual 214, 3) := by decide +kernel
theorem dX8_enough_58 : decode cX8_enough 58 = .ok (.lstore 9, 2) := by decide +kernel
theorem dX8_enough_60 : decode cX8_enough 60 = .ok (.lload 9, 2) := by decide +kernel
theorem dX8_enough_62 : decode cX8_enough 62 = .ok (.lload 4, 2) := by decide +kernel
theorem dX8_enough_64 : decode cX8_enough 64 = .ok (.lcmp, 1) := by decide +kernel
theorem dX8_enough_65 : decode cX8_enough 65 = .ok (.ifCond .gt 6, 3) := by decide +kernel
theorem dX8_enough_68 : decode cX8_enough 68 = .ok (.iload 8, 2) := by decide +kernel
theorem dX8_enough_70 : decode cX8_enough 70 = .ok (.ireturn, 1) := by decide +kernel
theorem dX8_enough_71 : decode cX8_enough 71 = .ok (.lload 9, 2) := by decide +kernel
theorem dX8_enough_73 : decode cX8_enough 73 = .ok (.lload 6, 2) := by decide +kernel
theorem dX8_enough_75 : decode cX8_enough 75 = .ok (.lcmp, 1) := by decide +kernel
theorem dX8_enough_76 : decode cX8_enough 76 = .ok (.ifCond .ne 5, 3) := by decide +kernel
theorem dX8_enough_79 : decode cX8_enough 79 = .ok (.iconst (-1), 1) := by decide +kernel
theorem dX8_enough_80 : decode cX8_enough 80 = .ok (.ireturn, 1) := by decide +kernel
theorem dX8_enough_81 : decode cX8_enough 81 = .ok (.lload 9, 2) := by decide +kernel
theorem dX8_enough_83 : decode cX8_enough 83 = .ok (.lstore 6, 2) := by decide +kernel
theorem dX8_enough_85 : decode cX8_enough 85 = .ok (.iinc 8 1, 3) := by decide +kernel
theorem dX8_enough_88 : decode cX8_enough 88 = .ok (.goto (-45), 3) := by decide +kernel
theorem dX8_enough_91 : decode cX8_enough 91 = .ok (.iconst (-1), 1) := by decide +kernel
theorem dX8_enough_92 : decode cX8_enough 92 = .ok (.ireturn, 1) := by decide +kernel
theorem dX8_rarer_0 : decode cX8_rarer 0 = .ok (.aload_n 0, 1) := by decide +kernel
theorem dX8_rarer_1 : decode cX8_rarer 1 = .ok (.getfield 30, 3) := by decide +kernel
theorem dX8_rarer_4 : decode cX8_rarer 4 = .ok (.getfield 107, 3) := by decide +kernel
theorem dX8_rarer_7 : decode cX8_rarer 7 = .ok (.istore 4, 2) := by decide +kernel
theorem dX8_rarer_9 : decode cX8_rarer 9 = .ok (.iload 4, 2) := by decide +kernel
theorem dX8_rarer_11 : decode cX8_rarer 11 = .ok (.ifCond .gt 7, 3) := by decide +kernel
theorem dX8_rarer_14 : decode cX8_rarer 14 = .ok (.lload_n 1, 1) := by decide +kernel
theorem dX8_rarer_15 : decode cX8_rarer 15 = .ok (.goto 17, 3) := by decide +kernel
theorem dX8_rarer_18 : decode cX8_rarer 18 = .ok (.lload_n 1, 1) := by decide +kernel
theorem dX8_rarer_19 : decode cX8_rarer 19 = .ok (.iload_n 3, 1) := by decide +kernel
theorem dX8_rarer_20 : decode cX8_rarer 20 = .ok (.i2l, 1) := by decide +kernel
theorem dX8_rarer_21 : decode cX8_rarer 21 = .ok (.lmul, 1) := by decide +kernel
theorem dX8_rarer_22 : decode cX8_rarer 22 = .ok (.iload 4, 2) := by decide +kernel
theorem dX8_rarer_24 : decode cX8_rarer 24 = .ok (.i2l, 1) := by decide +kernel
theorem dX8_rarer_25 : decode cX8_rarer 25 = .ok (.ladd, 1) := by decide +kernel
theorem dX8_rarer_26 : decode cX8_rarer 26 = .ok (.lconst 1, 1) := by decide +kernel
theorem dX8_rarer_27 : decode cX8_rarer 27 = .ok (.lsub, 1) := by decide +kernel
theorem dX8_rarer_28 : decode cX8_rarer 28 = .ok (.iload 4, 2) := by decide +kernel
theorem dX8_rarer_30 : decode cX8_rarer 30 = .ok (.i2l, 1) := by decide +kernel
theorem dX8_rarer_31 : decode cX8_rarer 31 = .ok (.ldiv, 1) := by decide +kernel
theorem dX8_rarer_32 : decode cX8_rarer 32 = .ok (.lreturn, 1) := by decide +kernel
theorem dX8_flips_0 : decode cX8_flips 0 = .ok (.aload_n 0, 1) := by decide +kernel
theorem dX8_flips_1 : decode cX8_flips 1 = .ok (.iload_n 1, 1) := by decide +kernel
theorem dX8_flips_2 : decode cX8_flips 2 = .ok (.invokevirtual 146, 3) := by decide +kernel
theorem dX8_flips_5 : decode cX8_flips 5 = .ok (.astore_n 3, 1) := by decide +kernel
theorem dX8_flips_6 : decode cX8_flips 6 = .ok (.iload_n 2, 1) := by decide +kernel
theorem dX8_flips_7 : decode cX8_flips 7 = .ok (.ifCond .lt 8, 3) := by decide +kernel
theorem dX8_flips_10 : decode cX8_flips 10 = .ok (.iload_n 2, 1) := by decide +kernel
theorem dX8_flips_11 : decode cX8_flips 11 = .ok (.iconst 1, 1) := by decide +kernel
theorem dX8_flips_12 : decode cX8_flips 12 = .ok (.if_icmp .le 13, 3) := by decide +kernel
theorem dX8_flips_15 : decode cX8_flips 15 = .ok (.new 141, 3) := by decide +kernel
theorem dX8_flips_18 : decode cX8_flips 18 = .ok (.dup, 1) := by decide +kernel
theorem dX8_flips_19 : decode cX8_flips 19 = .ok (.ldc 222, 2) := by decide +kernel
theorem dX8_flips_21 : decode cX8_flips 21 = .ok (.invokespecial 145, 3) := by decide +kernel
theorem dX8_flips_24 : decode cX8_flips 24 = .ok (.athrow, 1) := by decide +kernel
theorem dX8_flips_25 : decode cX8_flips 25 = .ok (.iconst (-1), 1) := by decide +kernel
theorem dX8_flips_26 : decode cX8_flips 26 = .ok (.istore 4, 2) := by decide +kernel
theorem dX8_flips_28 : decode cX8_flips 28 = .ok (.iconst (-1), 1) := by decide +kernel
theorem dX8_flips_29 : decode cX8_flips 29 = .ok (.istore 5, 2) := by decide +kernel
theorem dX8_flips_31 : decode cX8_flips 31 = .ok (.iconst 0, 1) := by decide +kernel
theorem dX8_flips_32 : decode cX8_flips 32 = .ok (.istore 6, 2) := by decide +kernel
theorem dX8_flips_34 : decode cX8_flips 34 = .ok (.iload 6, 2) := by decide +kernel
theorem dX8_flips_36 : decode cX8_flips 36 = .ok (.aload_n 3, 1) := by decide +kernel
theorem dX8_flips_37 : decode cX8_flips 37 = .ok (.getfield 150, 3) := by decide +kernel
theorem dX8_flips_40 : decode cX8_flips 40 = .ok (.if_icmp .ge 56, 3) := by decide +kernel
theorem dX8_flips_43 : decode cX8_flips 43 = .ok (.iload 6, 2) := by decide +kernel
theorem dX8_flips_45 : decode cX8_flips 45 = .ok (.iconst 4, 1) := by decide +kernel
theorem dX8_flips_46 : decode cX8_flips 46 = .ok (.if_icmp .ge 50, 3) := by decide +kernel
theorem dX8_flips_49 : decode cX8_flips 49 = .ok (.iload 6, 2) := by decide +kernel
theorem dX8_flips_51 : decode cX8_flips 51 = .ok (.aload_n 3, 1) := by decide +kernel
theorem dX8_flips_52 : decode cX8_flips 52 = .ok (.getfield 161, 3) := by decide +kernel
theorem dX8_flips_55 : decode cX8_flips 55 = .ok (.if_icmp .ne 6, 3) := by decide +kernel
theorem dX8_flips_58 : decode cX8_flips 58 = .ok (.goto 32, 3) := by decide +kernel
theorem dX8_flips_61 : decode cX8_flips 61 = .ok (.aload_n 3, 1) := by decide +kernel
theorem dX8_flips_62 : decode cX8_flips 62 = .ok (.iload 6, 2) := by decide +kernel
theorem dX8_flips_64 : decode cX8_flips 64 = .ok (.invokevirtual 224, 3) := by decide +kernel
theorem dX8_flips_67 : decode cX8_flips 67 = .ok (.istore 7, 2) := by decide +kernel
theorem dX8_flips_69 : decode cX8_flips 69 = .ok (.iload 5, 2) := by decide +kernel
theorem dX8_flips_71 : decode cX8_flips 71 = .ok (.iconst (-1), 1) := by decide +kernel
theorem dX8_flips_72 : decode cX8_flips 72 = .ok (.if_icmp .eq 10, 3) := by decide +kernel
theorem dX8_flips_75 : decode cX8_flips 75 = .ok (.iload 7, 2) := by decide +kernel
theorem dX8_flips_77 : decode cX8_flips 77 = .ok (.iload 4, 2) := by decide +kernel
theorem dX8_flips_79 : decode cX8_flips 79 = .ok (.if_icmp .ge 11, 3) := by decide +kernel
theorem dX8_flips_82 : decode cX8_flips 82 = .ok (.iload 7, 2) := by decide +kernel
theorem dX8_flips_84 : decode cX8_flips 84 = .ok (.istore 4, 2) := by decide +kernel
theorem dX8_flips_86 : decode cX8_flips 86 = .ok (.iload 6, 2) := by decide +kernel
theorem dX8_flips_88 : decode cX8_flips 88 = .ok (.istore 5, 2) := by decide +kernel
theorem dX8_flips_90 : decode cX8_flips 90 = .ok (.iinc 6 1, 3) := by decide +kernel
theorem dX8_flips_93 : decode cX8_flips 93 = .ok (.goto (-59), 3) := by decide +kernel
theorem dX8_flips_96 : decode cX8_flips 96 = .ok (.iload_n 2, 1) := by decide +kernel
theorem dX8_flips_97 : decode cX8_flips 97 = .ok (.ifCond .ne 8, 3) := by decide +kernel
theorem dX8_flips_100 : decode cX8_flips 100 = .ok (.iload 4, 2) := by decide +kernel
theorem dX8_flips_102 : decode cX8_flips 102 = .ok (.goto 5, 3) := by decide +kernel
theorem dX8_flips_105 : decode cX8_flips 105 = .ok (.iload 5, 2) := by decide +kernel
theorem dX8_flips_107 : decode cX8_flips 107 = .ok (.ireturn, 1) := by decide +kernel
theorem dX8_say_0 : decode cX8_say 0 = .ok (.aload_n 0, 1) := by decide +kernel
theorem dX8_say_1 : decode cX8_say 1 = .ok (.getfield 23, 3) := by decide +kernel
theorem dX8_say_4 : decode cX8_say 4 = .ok (.invokevirtual 227, 3) := by decide +kernel
theorem dX8_say_7 : decode cX8_say 7 = .ok (.iconst 0, 1) := by decide +kernel
theorem dX8_say_8 : decode cX8_say 8 = .ok (.istore_n 1, 1) := by decide +kernel
theorem dX8_say_9 : decode cX8_say 9 = .ok (.iload_n 1, 1) := by decide +kernel
theorem dX8_say_10 : decode cX8_say 10 = .ok (.aload_n 0, 1) := by decide +kernel
theorem dX8_say_11 : decode cX8_say 11 = .ok (.getfield 30, 3) := by decide +kernel
theorem dX8_say_14 : decode cX8_say 14 = .ok (.getfield 114, 3) := by decide +kernel
theorem dX8_say_17 : decode cX8_say 17 = .ok (.if_icmp .ge 32, 3) := by decide +kernel
theorem dX8_say_20 : decode cX8_say 20 = .ok (.iload_n 1, 1) := by decide +kernel
theorem dX8_say_21 : decode cX8_say 21 = .ok (.iconst 3, 1) := by decide +kernel
theorem dX8_say_22 : decode cX8_say 22 = .ok (.if_icmp .ge 27, 3) := by decide +kernel
theorem dX8_say_25 : decode cX8_say 25 = .ok (.iload_n 1, 1) := by decide +kernel
theorem dX8_say_26 : decode cX8_say 26 = .ok (.ifCond .le 12, 3) := by decide +kernel
theorem dX8_say_29 : decode cX8_say 29 = .ok (.aload_n 0, 1) := by decide +kernel
theorem dX8_say_30 : decode cX8_say 30 = .ok (.getfield 23, 3) := by decide +kernel
theorem dX8_say_33 : decode cX8_say 33 = .ok (.bipush 44, 2) := by decide +kernel
theorem dX8_say_35 : decode cX8_say 35 = .ok (.invokevirtual 230, 3) := by decide +kernel
theorem dX8_say_38 : decode cX8_say 38 = .ok (.aload_n 0, 1) := by decide +kernel
theorem dX8_say_39 : decode cX8_say 39 = .ok (.iload_n 1, 1) := by decide +kernel
theorem dX8_say_40 : decode cX8_say 40 = .ok (.invokevirtual 233, 3) := by decide +kernel
theorem dX8_say_43 : decode cX8_say 43 = .ok (.iinc 1 1, 3) := by decide +kernel
theorem dX8_say_46 : decode cX8_say 46 = .ok (.goto (-37), 3) := by decide +kernel
theorem dX8_say_49 : decode cX8_say 49 = .ok (.aload_n 0, 1) := by decide +kernel
theorem dX8_say_50 : decode cX8_say 50 = .ok (.getfield 40, 3) := by decide +kernel
theorem dX8_say_53 : decode cX8_say 53 = .ok (.aload_n 0, 1) := by decide +kernel
theorem dX8_say_54 : decode cX8_say 54 = .ok (.getfield 30, 3) := by decide +kernel
theorem dX8_say_57 : decode cX8_say 57 = .ok (.invokevirtual 134, 3) := by decide +kernel
theorem dX8_say_60 : decode cX8_say 60 = .ok (.ifCond .eq 15, 3) := by decide +kernel
theorem dX8_say_63 : decode cX8_say 63 = .ok (.aload_n 0, 1) := by decide +kernel
theorem dX8_say_64 : decode cX8_say 64 = .ok (.getfield 23, 3) := by decide +kernel
theorem dX8_say_67 : decode cX8_say 67 = .ok (.bipush 59, 2) := by decide +kernel
theorem dX8_say_69 : decode cX8_say 69 = .ok (.invokevirtual 230, 3) := by decide +kernel
theorem dX8_say_72 : decode cX8_say 72 = .ok (.goto 22, 3) := by decide +kernel
theorem dX8_say_75 : decode cX8_say 75 = .ok (.aload_n 0, 1) := by decide +kernel
theorem dX8_say_76 : decode cX8_say 76 = .ok (.getfield 40, 3) := by decide +kernel
theorem dX8_say_79 : decode cX8_say 79 = .ok (.invokevirtual 130, 3) := by decide +kernel
theorem dX8_say_82 : decode cX8_say 82 = .ok (.ifCond .ne 12, 3) := by decide +kernel
theorem dX8_say_85 : decode cX8_say 85 = .ok (.aload_n 0, 1) := by decide +kernel
theorem dX8_say_86 : decode cX8_say 86 = .ok (.getfield 23, 3) := by decide +kernel
theorem dX8_say_89 : decode cX8_say 89 = .ok (.bipush 63, 2) := by decide +kernel
theorem dX8_say_91 : decode cX8_say 91 = .ok (.invokevirtual 230, 3) := by decide +kernel
theorem dX8_say_94 : decode cX8_say 94 = .ok (.aload_n 0, 1) := by decide +kernel
theorem dX8_say_95 : decode cX8_say 95 = .ok (.getfield 23, 3) := by decide +kernel
theorem dX8_say_98 : decode cX8_say 98 = .ok (.getfield 236, 3) := by decide +kernel
theorem dX8_say_101 : decode cX8_say 101 = .ok (.ireturn, 1) := by decide +kernel
theorem dX8_sayRace_0 : decode cX8_sayRace 0 = .ok (.aload_n 0, 1) := by decide +kernel
theorem dX8_sayRace_1 : decode cX8_sayRace 1 = .ok (.getfield 30, 3) := by decide +kernel
theorem dX8_sayRace_4 : decode cX8_sayRace 4 = .ok (.getfield 182, 3) := by decide +kernel
theorem dX8_sayRace_7 : decode cX8_sayRace 7 = .ok (.iload_n 1, 1) := by decide +kernel
theorem dX8_sayRace_8 : decode cX8_sayRace 8 = .ok (.aaload, 1) := by decide +kernel
theorem dX8_sayRace_9 : decode cX8_sayRace 9 = .ok (.astore_n 2, 1) := by decide +kernel
theorem dX8_sayRace_10 : decode cX8_sayRace 10 = .ok (.aload_n 0, 1) := by decide +kernel
theorem dX8_sayRace_11 : decode cX8_sayRace 11 = .ok (.getfield 23, 3) := by decide +kernel
theorem dX8_sayRace_14 : decode cX8_sayRace 14 = .ok (.aload_n 2, 1) := by decide +kernel
theorem dX8_sayRace_15 : decode cX8_sayRace 15 = .ok (.getfield 155, 3) := by decide +kernel
theorem dX8_sayRace_18 : decode cX8_sayRace 18 = .ok (.ifCond .ne 8, 3) := by decide +kernel
theorem dX8_sayRace_21 : decode cX8_sayRace 21 = .ok (.bipush 99, 2) := by decide +kernel
theorem dX8_sayRace_23 : decode cX8_sayRace 23 = .ok (.goto 5, 3) := by decide +kernel
theorem dX8_sayRace_26 : decode cX8_sayRace 26 = .ok (.bipush 112, 2) := by decide +kernel
theorem dX8_sayRace_28 : decode cX8_sayRace 28 = .ok (.invokevirtual 230, 3) := by decide +kernel
theorem dX8_sayRace_31 : decode cX8_sayRace 31 = .ok (.aload_n 0, 1) := by decide +kernel
theorem dX8_sayRace_32 : decode cX8_sayRace 32 = .ok (.getfield 23, 3) := by decide +kernel
theorem dX8_sayRace_35 : decode cX8_sayRace 35 = .ok (.bipush 97, 2) := by decide +kernel
theorem dX8_sayRace_37 : decode cX8_sayRace 37 = .ok (.aload_n 2, 1) := by decide +kernel
theorem dX8_sayRace_38 : decode cX8_sayRace 38 = .ok (.getfield 158, 3) := by decide +kernel
theorem dX8_sayRace_41 : decode cX8_sayRace 41 = .ok (.iadd, 1) := by decide +kernel
theorem dX8_sayRace_42 : decode cX8_sayRace 42 = .ok (.invokevirtual 230, 3) := by decide +kernel
theorem dX8_sayRace_45 : decode cX8_sayRace 45 = .ok (.aload_n 0, 1) := by decide +kernel
theorem dX8_sayRace_46 : decode cX8_sayRace 46 = .ok (.getfield 40, 3) := by decide +kernel
theorem dX8_sayRace_49 : decode cX8_sayRace 49 = .ok (.iload_n 1, 1) := by decide +kernel
theorem dX8_sayRace_50 : decode cX8_sayRace 50 = .ok (.invokevirtual 167, 3) := by decide +kernel
theorem dX8_sayRace_53 : decode cX8_sayRace 53 = .ok (.ifCond .eq 32, 3) := by decide +kernel
theorem dX8_sayRace_56 : decode cX8_sayRace 56 = .ok (.aload_n 0, 1) := by decide +kernel
theorem dX8_sayRace_57 : decode cX8_sayRace 57 = .ok (.getfield 23, 3) := by decide +kernel
theorem dX8_sayRace_60 : decode cX8_sayRace 60 = .ok (.bipush 33, 2) := by decide +kernel
theorem dX8_sayRace_62 : decode cX8_sayRace 62 = .ok (.invokevirtual 230, 3) := by decide +kernel
theorem dX8_sayRace_65 : decode cX8_sayRace 65 = .ok (.aload_n 0, 1) := by decide +kernel
theorem dX8_sayRace_66 : decode cX8_sayRace 66 = .ok (.getfield 23, 3) := by decide +kernel
theorem dX8_sayRace_69 : decode cX8_sayRace 69 = .ok (.aload_n 0, 1) := by decide +kernel
theorem dX8_sayRace_70 : decode cX8_sayRace 70 = .ok (.getfield 40, 3) := by decide +kernel
theorem dX8_sayRace_73 : decode cX8_sayRace 73 = .ok (.getfield 171, 3) := by decide +kernel
theorem dX8_sayRace_76 : decode cX8_sayRace 76 = .ok (.iload_n 1, 1) := by decide +kernel
theorem dX8_sayRace_77 : decode cX8_sayRace 77 = .ok (.iaload, 1) := by decide +kernel
theorem dX8_sayRace_78 : decode cX8_sayRace 78 = .ok (.i2l, 1) := by decide +kernel
theorem dX8_sayRace_79 : decode cX8_sayRace 79 = .ok (.invokevirtual 239, 3) := by decide +kernel
theorem dX8_sayRace_82 : decode cX8_sayRace 82 = .ok (.goto 31, 3) := by decide +kernel
theorem dX8_sayRace_85 : decode cX8_sayRace 85 = .ok (.aload_n 0, 1) := by decide +kernel
theorem dX8_sayRace_86 : decode cX8_sayRace 86 = .ok (.getfield 23, 3) := by decide +kernel
theorem dX8_sayRace_89 : decode cX8_sayRace 89 = .ok (.bipush 58, 2) := by decide +kernel
theorem dX8_sayRace_91 : decode cX8_sayRace 91 = .ok (.invokevirtual 230, 3) := by decide +kernel
theorem dX8_sayRace_94 : decode cX8_sayRace 94 = .ok (.aload_n 0, 1) := by decide +kernel
theorem dX8_sayRace_95 : decode cX8_sayRace 95 = .ok (.getfield 23, 3) := by decide +kernel
theorem dX8_sayRace_98 : decode cX8_sayRace 98 = .ok (.aload_n 0, 1) := by decide +kernel
theorem dX8_sayRace_99 : decode cX8_sayRace 99 = .ok (.getfield 40, 3) := by decide +kernel
theorem dX8_sayRace_102 : decode cX8_sayRace 102 = .ok (.iload_n 1, 1) := by decide +kernel
theorem dX8_sayRace_103 : decode cX8_sayRace 103 = .ok (.invokevirtual 190, 3) := by decide +kernel
theorem dX8_sayRace_106 : decode cX8_sayRace 106 = .ok (.ldc2_w 243, 3) := by decide +kernel
theorem dX8_sayRace_109 : decode cX8_sayRace 109 = .ok (.ldiv, 1) := by decide +kernel
theorem dX8_sayRace_110 : decode cX8_sayRace 110 = .ok (.invokevirtual 239, 3) := by decide +kernel
theorem dX8_sayRace_113 : decode cX8_sayRace 113 = .ok (.return_, 1) := by decide +kernel
theorem dX8_said_0 : decode cX8_said 0 = .ok (.iload_n 1, 1) := by decide +kernel
theorem dX8_said_1 : decode cX8_said 1 = .ok (.ifCond .lt 14, 3) := by decide +kernel
theorem dX8_said_4 : decode cX8_said 4 = .ok (.iload_n 1, 1) := by decide +kernel
theorem dX8_said_5 : decode cX8_said 5 = .ok (.aload_n 0, 1) := by decide +kernel
theorem dX8_said_6 : decode cX8_said 6 = .ok (.getfield 23, 3) := by decide +kernel
theorem dX8_said_9 : decode cX8_said 9 = .ok (.getfield 236, 3) := by decide +kernel
theorem dX8_said_12 : decode cX8_said 12 = .ok (.if_icmp .lt 7, 3) := by decide +kernel
theorem dX8_said_15 : decode cX8_said 15 = .ok (.iconst (-1), 1) := by decide +kernel
theorem dX8_said_16 : decode cX8_said 16 = .ok (.goto 12, 3) := by decide +kernel
theorem dX8_said_19 : decode cX8_said 19 = .ok (.aload_n 0, 1) := by decide +kernel
theorem dX8_said_20 : decode cX8_said 20 = .ok (.getfield 23, 3) := by decide +kernel
theorem dX8_said_23 : decode cX8_said 23 = .ok (.getfield 245, 3) := by decide +kernel
theorem dX8_said_26 : decode cX8_said 26 = .ok (.iload_n 1, 1) := by decide +kernel
theorem dX8_said_27 : decode cX8_said 27 = .ok (.iaload, 1) := by decide +kernel
theorem dX8_said_28 : decode cX8_said 28 = .ok (.ireturn, 1) := by decide +kernel
theorem dX8_votes_0 : decode cX8_votes 0 = .ok (.aload_n 0, 1) := by decide +kernel
theorem dX8_votes_1 : decode cX8_votes 1 = .ok (.iload_n 1, 1) := by decide +kernel
theorem dX8_votes_2 : decode cX8_votes 2 = .ok (.invokevirtual 146, 3) := by decide +kernel
theorem dX8_votes_5 : decode cX8_votes 5 = .ok (.astore 4, 2) := by decide +kernel
theorem dX8_votes_7 : decode cX8_votes 7 = .ok (.aload_n 0, 1) := by decide +kernel
theorem dX8_votes_8 : decode cX8_votes 8 = .ok (.aload 4, 2) := by decide +kernel
theorem dX8_votes_10 : decode cX8_votes 10 = .ok (.iload_n 2, 1) := by decide +kernel
theorem dX8_votes_11 : decode cX8_votes 11 = .ok (.invokevirtual 194, 3) := by decide +kernel
theorem dX8_votes_14 : decode cX8_votes 14 = .ok (.iload_n 3, 1) := by decide +kernel
theorem dX8_votes_15 : decode cX8_votes 15 = .ok (.ifCond .eq 13, 3) := by decide +kernel
theorem dX8_votes_18 : decode cX8_votes 18 = .ok (.aload 4, 2) := by decide +kernel
theorem dX8_votes_20 : decode cX8_votes 20 = .ok (.getfield 248, 3) := by decide +kernel
theorem dX8_votes_23 : decode cX8_votes 23 = .ok (.iload_n 2, 1) := by decide +kernel
theorem dX8_votes_24 : decode cX8_votes 24 = .ok (.iaload, 1) := by decide +kernel
theorem dX8_votes_25 : decode cX8_votes 25 = .ok (.goto 10, 3) := by decide +kernel
theorem dX8_votes_28 : decode cX8_votes 28 = .ok (.aload 4, 2) := by decide +kernel
theorem dX8_votes_30 : decode cX8_votes 30 = .ok (.getfield 251, 3) := by decide +kernel
theorem dX8_votes_33 : decode cX8_votes 33 = .ok (.iload_n 2, 1) := by decide +kernel
theorem dX8_votes_34 : decode cX8_votes 34 = .ok (.iaload, 1) := by decide +kernel
theorem dX8_votes_35 : decode cX8_votes 35 = .ok (.ireturn, 1) := by decide +kernel
theorem dX8_ballot_0 : decode cX8_ballot 0 = .ok (.aload_n 0, 1) := by decide +kernel
theorem dX8_ballot_1 : decode cX8_ballot 1 = .ok (.iload_n 2, 1) := by decide +kernel
theorem dX8_ballot_2 : decode cX8_ballot 2 = .ok (.invokevirtual 146, 3) := by decide +kernel
theorem dX8_ballot_5 : decode cX8_ballot 5 = .ok (.astore 4, 2) := by decide +kernel
theorem dX8_ballot_7 : decode cX8_ballot 7 = .ok (.aload_n 0, 1) := by decide +kernel
theorem dX8_ballot_8 : decode cX8_ballot 8 = .ok (.iload_n 1, 1) := by decide +kernel
theorem dX8_ballot_9 : decode cX8_ballot 9 = .ok (.invokevirtual 254, 3) := by decide +kernel
theorem dX8_ballot_12 : decode cX8_ballot 12 = .ok (.iload_n 3, 1) := by decide +kernel
theorem dX8_ballot_13 : decode cX8_ballot 13 = .ok (.tableswitch 51 0 2 #[27, 35, 43], 27) := by decide +kernel
theorem dX8_ballot_40 : decode cX8_ballot 40 = .ok (.aload 4, 2) := by decide +kernel
theorem dX8_ballot_42 : decode cX8_ballot 42 = .ok (.getfield 257, 3) := by decide +kernel
theorem dX8_ballot_45 : decode cX8_ballot 45 = .ok (.iload_n 1, 1) := by decide +kernel
theorem dX8_ballot_46 : decode cX8_ballot 46 = .ok (.iaload, 1) := by decide +kernel
theorem dX8_ballot_47 : decode cX8_ballot 47 = .ok (.ireturn, 1) := by decide +kernel
theorem dX8_ballot_48 : decode cX8_ballot 48 = .ok (.aload 4, 2) := by decide +kernel
theorem dX8_ballot_50 : decode cX8_ballot 50 = .ok (.getfield 260, 3) := by decide +kernel
theorem dX8_ballot_53 : decode cX8_ballot 53 = .ok (.iload_n 1, 1) := by decide +kernel
theorem dX8_ballot_54 : decode cX8_ballot 54 = .ok (.iaload, 1) := by decide +kernel
theorem dX8_ballot_55 : decode cX8_ballot 55 = .ok (.ireturn, 1) := by decide +kernel
theorem dX8_ballot_56 : decode cX8_ballot 56 = .ok (.aload 4, 2) := by decide +kernel
theorem dX8_ballot_58 : decode cX8_ballot 58 = .ok (.getfield 263, 3) := by decide +kernel
theorem dX8_ballot_61 : decode cX8_ballot 61 = .ok (.iload_n 1, 1) := by decide +kernel
theorem dX8_ballot_62 : decode cX8_ballot 62 = .ok (.iaload, 1) := by decide +kernel
theorem dX8_ballot_63 : decode cX8_ballot 63 = .ok (.ireturn, 1) := by decide +kernel
theorem dX8_ballot_64 : decode cX8_ballot 64 = .ok (.new 141, 3) := by decide +kernel
theorem dX8_ballot_67 : decode cX8_ballot 67 = .ok (.dup, 1) := by decide +kernel
theorem dX8_ballot_68 : decode cX8_ballot 68 = .ok (.ldc_w 266, 3) := by decide +kernel
theorem dX8_ballot_71 : decode cX8_ballot 71 = .ok (.invokespecial 145, 3) := by decide +kernel
theorem dX8_ballot_74 : decode cX8_ballot 74 = .ok (.athrow, 1) := by decide +kernel
theorem dX8_drawn_0 : decode cX8_drawn 0 = .ok (.iload_n 1, 1) := by decide +kernel
theorem dX8_drawn_1 : decode cX8_drawn 1 = .ok (.ifCond .lt 21, 3) := by decide +kernel
theorem dX8_drawn_4 : decode cX8_drawn 4 = .ok (.iload_n 1, 1) := by decide +kernel
theorem dX8_drawn_5 : decode cX8_drawn 5 = .ok (.aload_n 0, 1) := by decide +kernel
theorem dX8_drawn_6 : decode cX8_drawn 6 = .ok (.getfield 40, 3) := by decide +kernel
theorem dX8_drawn_9 : decode cX8_drawn 9 = .ok (.getfield 121, 3) := by decide +kernel
theorem dX8_drawn_12 : decode cX8_drawn 12 = .ok (.if_icmp .ge 10, 3) := by decide +kernel
theorem dX8_drawn_15 : decode cX8_drawn 15 = .ok (.iload_n 1, 1) := by decide +kernel
theorem dX8_drawn_16 : decode cX8_drawn 16 = .ok (.sipush 300, 3) := by decide +kernel
theorem dX8_drawn_19 : decode cX8_drawn 19 = .ok (.if_icmp .lt 14, 3) := by decide +kernel
theorem dX8_drawn_22 : decode cX8_drawn 22 = .ok (.new 141, 3) := by decide +kernel
theorem dX8_drawn_25 : decode cX8_drawn 25 = .ok (.dup, 1) := by decide +kernel
theorem dX8_drawn_26 : decode cX8_drawn 26 = .ok (.ldc_w 268, 3) := by decide +kernel
theorem dX8_drawn_29 : decode cX8_drawn 29 = .ok (.invokespecial 145, 3) := by decide +kernel
theorem dX8_drawn_32 : decode cX8_drawn 32 = .ok (.athrow, 1) := by decide +kernel
theorem dX8_drawn_33 : decode cX8_drawn 33 = .ok (.aload_n 0, 1) := by decide +kernel
theorem dX8_drawn_34 : decode cX8_drawn 34 = .ok (.getfield 40, 3) := by decide +kernel
theorem dX8_drawn_37 : decode cX8_drawn 37 = .ok (.getfield 270, 3) := by decide +kernel
theorem dX8_drawn_40 : decode cX8_drawn 40 = .ok (.iload_n 1, 1) := by decide +kernel
theorem dX8_drawn_41 : decode cX8_drawn 41 = .ok (.iaload, 1) := by decide +kernel
theorem dX8_drawn_42 : decode cX8_drawn 42 = .ok (.ireturn, 1) := by decide +kernel
theorem dX8_times_0 : decode cX8_times 0 = .ok (.aload_n 0, 1) := by decide +kernel
theorem dX8_times_1 : decode cX8_times 1 = .ok (.iload_n 1, 1) := by decide +kernel
theorem dX8_times_2 : decode cX8_times 2 = .ok (.invokevirtual 254, 3) := by decide +kernel
theorem dX8_times_5 : decode cX8_times 5 = .ok (.aload_n 0, 1) := by decide +kernel
theorem dX8_times_6 : decode cX8_times 6 = .ok (.getfield 40, 3) := by decide +kernel
theorem dX8_times_9 : decode cX8_times 9 = .ok (.getfield 273, 3) := by decide +kernel
theorem dX8_times_12 : decode cX8_times 12 = .ok (.iload_n 1, 1) := by decide +kernel
theorem dX8_times_13 : decode cX8_times 13 = .ok (.iaload, 1) := by decide +kernel
theorem dX8_times_14 : decode cX8_times 14 = .ok (.ireturn, 1) := by decide +kernel
theorem dX8_mistakes_0 : decode cX8_mistakes 0 = .ok (.aload_n 0, 1) := by decide +kernel
theorem dX8_mistakes_1 : decode cX8_mistakes 1 = .ok (.iload_n 1, 1) := by decide +kernel
theorem dX8_mistakes_2 : decode cX8_mistakes 2 = .ok (.invokevirtual 146, 3) := by decide +kernel
theorem dX8_mistakes_5 : decode cX8_mistakes 5 = .ok (.astore_n 3, 1) := by decide +kernel
theorem dX8_mistakes_6 : decode cX8_mistakes 6 = .ok (.iload_n 2, 1) := by decide +kernel
theorem dX8_mistakes_7 : decode cX8_mistakes 7 = .ok (.bipush (-2), 2) := by decide +kernel
theorem dX8_mistakes_9 : decode cX8_mistakes 9 = .ok (.if_icmp .lt 8, 3) := by decide +kernel
theorem dX8_mistakes_12 : decode cX8_mistakes 12 = .ok (.iload_n 2, 1) := by decide +kernel
theorem dX8_mistakes_13 : decode cX8_mistakes 13 = .ok (.iconst 2, 1) := by decide +kernel
theorem dX8_mistakes_14 : decode cX8_mistakes 14 = .ok (.if_icmp .le 14, 3) := by decide +kernel
theorem dX8_mistakes_17 : decode cX8_mistakes 17 = .ok (.new 141, 3) := by decide +kernel
theorem dX8_mistakes_20 : decode cX8_mistakes 20 = .ok (.dup, 1) := by decide +kernel
theorem dX8_mistakes_21 : decode cX8_mistakes 21 = .ok (.ldc_w 276, 3) := by decide +kernel
theorem dX8_mistakes_24 : decode cX8_mistakes 24 = .ok (.invokespecial 145, 3) := by decide +kernel
theorem dX8_mistakes_27 : decode cX8_mistakes 27 = .ok (.athrow, 1) := by decide +kernel
theorem dX8_mistakes_28 : decode cX8_mistakes 28 = .ok (.iconst 0, 1) := by decide +kernel
theorem dX8_mistakes_29 : decode cX8_mistakes 29 = .ok (.istore 4, 2) := by decide +kernel
theorem dX8_mistakes_31 : decode cX8_mistakes 31 = .ok (.iconst 0, 1) := by decide +kernel
theorem dX8_mistakes_32 : decode cX8_mistakes 32 = .ok (.istore 5, 2) := by decide +kernel
theorem dX8_mistakes_34 : decode cX8_mistakes 34 = .ok (.iload 5, 2) := by decide +kernel
theorem dX8_mistakes_36 : decode cX8_mistakes 36 = .ok (.aload_n 0, 1) := by decide +kernel
theorem dX8_mistakes_37 : decode cX8_mistakes 37 = .ok (.getfield 40, 3) := by decide +kernel
theorem dX8_mistakes_40 : decode cX8_mistakes 40 = .ok (.getfield 121, 3) := by decide +kernel
theorem dX8_mistakes_43 : decode cX8_mistakes 43 = .ok (.if_icmp .ge 56, 3) := by decide +kernel
theorem dX8_mistakes_46 : decode cX8_mistakes 46 = .ok (.iload 5, 2) := by decide +kernel
theorem dX8_mistakes_48 : decode cX8_mistakes 48 = .ok (.sipush 300, 3) := by decide +kernel
theorem dX8_mistakes_51 : decode cX8_mistakes 51 = .ok (.if_icmp .ge 48, 3) := by decide +kernel
theorem dX8_mistakes_54 : decode cX8_mistakes 54 = .ok (.aload_n 0, 1) := by decide +kernel
theorem dX8_mistakes_55 : decode cX8_mistakes 55 = .ok (.getfield 40, 3) := by decide +kernel
theorem dX8_mistakes_58 : decode cX8_mistakes 58 = .ok (.getfield 270, 3) := by decide +kernel
theorem dX8_mistakes_61 : decode cX8_mistakes 61 = .ok (.iload 5, 2) := by decide +kernel
theorem dX8_mistakes_63 : decode cX8_mistakes 63 = .ok (.iaload, 1) := by decide +kernel
theorem dX8_mistakes_64 : decode cX8_mistakes 64 = .ok (.istore 6, 2) := by decide +kernel
theorem dX8_mistakes_66 : decode cX8_mistakes 66 = .ok (.iload 6, 2) := by decide +kernel
theorem dX8_mistakes_68 : decode cX8_mistakes 68 = .ok (.ifCond .lt 25, 3) := by decide +kernel
theorem dX8_mistakes_71 : decode cX8_mistakes 71 = .ok (.iload 6, 2) := by decide +kernel
theorem dX8_mistakes_73 : decode cX8_mistakes 73 = .ok (.sipush 200, 3) := by decide +kernel
theorem dX8_mistakes_76 : decode cX8_mistakes 76 = .ok (.if_icmp .ge 17, 3) := by decide +kernel
theorem dX8_mistakes_79 : decode cX8_mistakes 79 = .ok (.aload_n 3, 1) := by decide +kernel
theorem dX8_mistakes_80 : decode cX8_mistakes 80 = .ok (.getfield 263, 3) := by decide +kernel
theorem dX8_mistakes_83 : decode cX8_mistakes 83 = .ok (.iload 6, 2) := by decide +kernel
theorem dX8_mistakes_85 : decode cX8_mistakes 85 = .ok (.iaload, 1) := by decide +kernel
theorem dX8_mistakes_86 : decode cX8_mistakes 86 = .ok (.iload_n 2, 1) := by decide +kernel
theorem dX8_mistakes_87 : decode cX8_mistakes 87 = .ok (.if_icmp .ne 6, 3) := by decide +kernel
theorem dX8_mistakes_90 : decode cX8_mistakes 90 = .ok (.iinc 4 1, 3) := by decide +kernel
theorem dX8_mistakes_93 : decode cX8_mistakes 93 = .ok (.iinc 5 1, 3) := by decide +kernel
theorem dX8_mistakes_96 : decode cX8_mistakes 96 = .ok (.goto (-62), 3) := by decide +kernel
theorem dX8_mistakes_99 : decode cX8_mistakes 99 = .ok (.iload 4, 2) := by decide +kernel
theorem dX8_mistakes_101 : decode cX8_mistakes 101 = .ok (.ireturn, 1) := by decide +kernel
theorem dX8_riskAt_0 : decode cX8_riskAt 0 = .ok (.aload_n 0, 1) := by decide +kernel
theorem dX8_riskAt_1 : decode cX8_riskAt 1 = .ok (.iload_n 1, 1) := by decide +kernel
theorem dX8_riskAt_2 : decode cX8_riskAt 2 = .ok (.invokevirtual 146, 3) := by decide +kernel
theorem dX8_riskAt_5 : decode cX8_riskAt 5 = .ok (.pop, 1) := by decide +kernel
theorem dX8_riskAt_6 : decode cX8_riskAt 6 = .ok (.iload_n 2, 1) := by decide +kernel
theorem dX8_riskAt_7 : decode cX8_riskAt 7 = .ok (.ifCond .lt 21, 3) := by decide +kernel
theorem dX8_riskAt_10 : decode cX8_riskAt 10 = .ok (.iload_n 2, 1) := by decide +kernel
theorem dX8_riskAt_11 : decode cX8_riskAt 11 = .ok (.aload_n 0, 1) := by decide +kernel
theorem dX8_riskAt_12 : decode cX8_riskAt 12 = .ok (.getfield 40, 3) := by decide +kernel
theorem dX8_riskAt_15 : decode cX8_riskAt 15 = .ok (.getfield 121, 3) := by decide +kernel
theorem dX8_riskAt_18 : decode cX8_riskAt 18 = .ok (.if_icmp .gt 10, 3) := by decide +kernel
theorem dX8_riskAt_21 : decode cX8_riskAt 21 = .ok (.iload_n 2, 1) := by decide +kernel
theorem dX8_riskAt_22 : decode cX8_riskAt 22 = .ok (.sipush 300, 3) := by decide +kernel
theorem dX8_riskAt_25 : decode cX8_riskAt 25 = .ok (.if_icmp .le 14, 3) := by decide +kernel
theorem dX8_riskAt_28 : decode cX8_riskAt 28 = .ok (.new 141, 3) := by decide +kernel
theorem dX8_riskAt_31 : decode cX8_riskAt 31 = .ok (.dup, 1) := by decide +kernel
theorem dX8_riskAt_32 : decode cX8_riskAt 32 = .ok (.ldc_w 278, 3) := by decide +kernel
theorem dX8_riskAt_35 : decode cX8_riskAt 35 = .ok (.invokespecial 145, 3) := by decide +kernel
theorem dX8_riskAt_38 : decode cX8_riskAt 38 = .ok (.athrow, 1) := by decide +kernel
theorem dX8_riskAt_39 : decode cX8_riskAt 39 = .ok (.aload_n 0, 1) := by decide +kernel
theorem dX8_riskAt_40 : decode cX8_riskAt 40 = .ok (.getfield 40, 3) := by decide +kernel
theorem dX8_riskAt_43 : decode cX8_riskAt 43 = .ok (.getfield 280, 3) := by decide +kernel
theorem dX8_riskAt_46 : decode cX8_riskAt 46 = .ok (.iload_n 1, 1) := by decide +kernel
theorem dX8_riskAt_47 : decode cX8_riskAt 47 = .ok (.aaload, 1) := by decide +kernel
theorem dX8_riskAt_48 : decode cX8_riskAt 48 = .ok (.iload_n 2, 1) := by decide +kernel
theorem dX8_riskAt_49 : decode cX8_riskAt 49 = .ok (.laload, 1) := by decide +kernel
theorem dX8_riskAt_50 : decode cX8_riskAt 50 = .ok (.lreturn, 1) := by decide +kernel
theorem dX8_draw_0 : decode cX8_draw 0 = .ok (.iload_n 1, 1) := by decide +kernel
theorem dX8_draw_1 : decode cX8_draw 1 = .ok (.iconst 1, 1) := by decide +kernel
theorem dX8_draw_2 : decode cX8_draw 2 = .ok (.if_icmp .lt 10, 3) := by decide +kernel
theorem dX8_draw_5 : decode cX8_draw 5 = .ok (.iload_n 1, 1) := by decide +kernel
theorem dX8_draw_6 : decode cX8_draw 6 = .ok (.sipush 300, 3) := by decide +kernel
theorem dX8_draw_9 : decode cX8_draw 9 = .ok (.if_icmp .le 13, 3) := by decide +kernel
theorem dX8_draw_12 : decode cX8_draw 12 = .ok (.new 79, 3) := by decide +kernel
theorem dX8_draw_15 : decode cX8_draw 15 = .ok (.dup, 1) := by decide +kernel
theorem dX8_draw_16 : decode cX8_draw 16 = .ok (.ldc 206, 2) := by decide +kernel
theorem dX8_draw_18 : decode cX8_draw 18 = .ok (.invokespecial 83, 3) := by decide +kernel
theorem dX8_draw_21 : decode cX8_draw 21 = .ok (.athrow, 1) := by decide +kernel
theorem dX8_draw_22 : decode cX8_draw 22 = .ok (.aload_n 0, 1) := by decide +kernel
theorem dX8_draw_23 : decode cX8_draw 23 = .ok (.getfield 40, 3) := by decide +kernel
theorem dX8_draw_26 : decode cX8_draw 26 = .ok (.getfield 121, 3) := by decide +kernel
theorem dX8_draw_29 : decode cX8_draw 29 = .ok (.istore_n 2, 1) := by decide +kernel
theorem dX8_draw_30 : decode cX8_draw 30 = .ok (.aload_n 0, 1) := by decide +kernel
theorem dX8_draw_31 : decode cX8_draw 31 = .ok (.getfield 40, 3) := by decide +kernel
theorem dX8_draw_34 : decode cX8_draw 34 = .ok (.aload_n 0, 1) := by decide +kernel
theorem dX8_draw_35 : decode cX8_draw 35 = .ok (.getfield 30, 3) := by decide +kernel
theorem dX8_draw_38 : decode cX8_draw 38 = .ok (.iload_n 2, 1) := by decide +kernel
theorem dX8_draw_39 : decode cX8_draw 39 = .ok (.iload_n 1, 1) := by decide +kernel
theorem dX8_draw_40 : decode cX8_draw 40 = .ok (.iadd, 1) := by decide +kernel
theorem dX8_draw_41 : decode cX8_draw 41 = .ok (.aload_n 0, 1) := by decide +kernel
theorem dX8_draw_42 : decode cX8_draw 42 = .ok (.getfield 30, 3) := by decide +kernel
theorem dX8_draw_45 : decode cX8_draw 45 = .ok (.getfield 117, 3) := by decide +kernel
theorem dX8_draw_48 : decode cX8_draw 48 = .ok (.iconst 2, 1) := by decide +kernel
theorem dX8_draw_49 : decode cX8_draw 49 = .ok (.iaload, 1) := by decide +kernel
theorem dX8_draw_50 : decode cX8_draw 50 = .ok (.invokestatic 283, 3) := by decide +kernel
theorem dX8_draw_53 : decode cX8_draw 53 = .ok (.invokevirtual 289, 3) := by decide +kernel
theorem dX8_draw_56 : decode cX8_draw 56 = .ok (.aload_n 0, 1) := by decide +kernel
theorem dX8_draw_57 : decode cX8_draw 57 = .ok (.getfield 40, 3) := by decide +kernel
theorem dX8_draw_60 : decode cX8_draw 60 = .ok (.getfield 121, 3) := by decide +kernel
theorem dX8_draw_63 : decode cX8_draw 63 = .ok (.iload_n 2, 1) := by decide +kernel
theorem dX8_draw_64 : decode cX8_draw 64 = .ok (.isub, 1) := by decide +kernel
theorem dX8_draw_65 : decode cX8_draw 65 = .ok (.istore_n 3, 1) := by decide +kernel
theorem dX8_draw_66 : decode cX8_draw 66 = .ok (.iload_n 3, 1) := by decide +kernel
theorem dX8_draw_67 : decode cX8_draw 67 = .ok (.ifCond .ne 5, 3) := by decide +kernel
theorem dX8_draw_70 : decode cX8_draw 70 = .ok (.iconst (-1), 1) := by decide +kernel
theorem dX8_draw_71 : decode cX8_draw 71 = .ok (.ireturn, 1) := by decide +kernel
theorem dX8_draw_72 : decode cX8_draw 72 = .ok (.aload_n 0, 1) := by decide +kernel
theorem dX8_draw_73 : decode cX8_draw 73 = .ok (.getfield 50, 3) := by decide +kernel
theorem dX8_draw_76 : decode cX8_draw 76 = .ok (.iconst 0, 1) := by decide +kernel
theorem dX8_draw_77 : decode cX8_draw 77 = .ok (.iconst 0, 1) := by decide +kernel
theorem dX8_draw_78 : decode cX8_draw 78 = .ok (.iconst 0, 1) := by decide +kernel
theorem dX8_draw_79 : decode cX8_draw 79 = .ok (.aload_n 0, 1) := by decide +kernel
theorem dX8_draw_80 : decode cX8_draw 80 = .ok (.getfield 30, 3) := by decide +kernel
theorem dX8_draw_83 : decode cX8_draw 83 = .ok (.getfield 293, 3) := by decide +kernel
theorem dX8_draw_86 : decode cX8_draw 86 = .ok (.invokevirtual 296, 3) := by decide +kernel
theorem dX8_draw_89 : decode cX8_draw 89 = .ok (.aload_n 0, 1) := by decide +kernel
theorem dX8_draw_90 : decode cX8_draw 90 = .ok (.getfield 30, 3) := by decide +kernel
theorem dX8_draw_93 : decode cX8_draw 93 = .ok (.aload_n 0, 1) := by decide +kernel
theorem dX8_draw_94 : decode cX8_draw 94 = .ok (.getfield 40, 3) := by decide +kernel
