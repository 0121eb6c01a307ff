theorem dX0_init_0 : decode cX0_init 0 = .ok (.aload_n 0, 1) := by decide +kernel
theorem dX0_init_1 : decode cX0_init 1 = .ok (.invokespecial 3, 3) := by decide +kernel
theorem dX0_init_4 : decode cX0_init 4 = .ok (.aload_n 0, 1) := by decide +kernel
theorem dX0_init_5 : decode cX0_init 5 = .ok (.sipush 400, 3) := by decide +kernel
theorem dX0_init_8 : decode cX0_init 8 = .ok (.newarray .int, 2) := by decide +kernel
theorem dX0_init_10 : decode cX0_init 10 = .ok (.putfield 9, 3) := by decide +kernel
theorem dX0_init_13 : decode cX0_init 13 = .ok (.aload_n 0, 1) := by decide +kernel
theorem dX0_init_14 : decode cX0_init 14 = .ok (.sipush 400, 3) := by decide +kernel
theorem dX0_init_17 : decode cX0_init 17 = .ok (.newarray .int, 2) := by decide +kernel
theorem dX0_init_19 : decode cX0_init 19 = .ok (.putfield 15, 3) := by decide +kernel
theorem dX0_init_22 : decode cX0_init 22 = .ok (.aload_n 0, 1) := by decide +kernel
theorem dX0_init_23 : decode cX0_init 23 = .ok (.sipush 400, 3) := by decide +kernel
theorem dX0_init_26 : decode cX0_init 26 = .ok (.newarray .int, 2) := by decide +kernel
theorem dX0_init_28 : decode cX0_init 28 = .ok (.putfield 18, 3) := by decide +kernel
theorem dX0_init_31 : decode cX0_init 31 = .ok (.aload_n 0, 1) := by decide +kernel
theorem dX0_init_32 : decode cX0_init 32 = .ok (.sipush 400, 3) := by decide +kernel
theorem dX0_init_35 : decode cX0_init 35 = .ok (.newarray .int, 2) := by decide +kernel
theorem dX0_init_37 : decode cX0_init 37 = .ok (.putfield 21, 3) := by decide +kernel
theorem dX0_init_40 : decode cX0_init 40 = .ok (.aload_n 0, 1) := by decide +kernel
theorem dX0_init_41 : decode cX0_init 41 = .ok (.sipush 400, 3) := by decide +kernel
theorem dX0_init_44 : decode cX0_init 44 = .ok (.newarray .long, 2) := by decide +kernel
theorem dX0_init_46 : decode cX0_init 46 = .ok (.putfield 24, 3) := by decide +kernel
theorem dX0_init_49 : decode cX0_init 49 = .ok (.return_, 1) := by decide +kernel
theorem dX0_has_0 : decode cX0_has 0 = .ok (.iload_n 1, 1) := by decide +kernel
theorem dX0_has_1 : decode cX0_has 1 = .ok (.ifCond .lt 15, 3) := by decide +kernel
theorem dX0_has_4 : decode cX0_has 4 = .ok (.iload_n 1, 1) := by decide +kernel
theorem dX0_has_5 : decode cX0_has 5 = .ok (.aload_n 0, 1) := by decide +kernel
theorem dX0_has_6 : decode cX0_has 6 = .ok (.getfield 28, 3) := by decide +kernel
theorem dX0_has_9 : decode cX0_has 9 = .ok (.if_icmp .ge 7, 3) := by decide +kernel
theorem dX0_has_12 : decode cX0_has 12 = .ok (.iconst 1, 1) := by decide +kernel
theorem dX0_has_13 : decode cX0_has 13 = .ok (.goto 4, 3) := by decide +kernel
theorem dX0_has_16 : decode cX0_has 16 = .ok (.iconst 0, 1) := by decide +kernel
theorem dX0_has_17 : decode cX0_has 17 = .ok (.ireturn, 1) := by decide +kernel
theorem dX0_send_0 : decode cX0_send 0 = .ok (.aload_n 0, 1) := by decide +kernel
theorem dX0_send_1 : decode cX0_send 1 = .ok (.getfield 28, 3) := by decide +kernel
theorem dX0_send_4 : decode cX0_send 4 = .ok (.sipush 400, 3) := by decide +kernel
theorem dX0_send_7 : decode cX0_send 7 = .ok (.if_icmp .lt 14, 3) := by decide +kernel
theorem dX0_send_10 : decode cX0_send 10 = .ok (.aload_n 0, 1) := by decide +kernel
theorem dX0_send_11 : decode cX0_send 11 = .ok (.dup, 1) := by decide +kernel
theorem dX0_send_12 : decode cX0_send 12 = .ok (.getfield 32, 3) := by decide +kernel
theorem dX0_send_15 : decode cX0_send 15 = .ok (.iconst 1, 1) := by decide +kernel
theorem dX0_send_16 : decode cX0_send 16 = .ok (.iadd, 1) := by decide +kernel
theorem dX0_send_17 : decode cX0_send 17 = .ok (.putfield 32, 3) := by decide +kernel
theorem dX0_send_20 : decode cX0_send 20 = .ok (.return_, 1) := by decide +kernel
theorem dX0_send_21 : decode cX0_send 21 = .ok (.aload_n 0, 1) := by decide +kernel
theorem dX0_send_22 : decode cX0_send 22 = .ok (.getfield 9, 3) := by decide +kernel
theorem dX0_send_25 : decode cX0_send 25 = .ok (.aload_n 0, 1) := by decide +kernel
theorem dX0_send_26 : decode cX0_send 26 = .ok (.getfield 28, 3) := by decide +kernel
theorem dX0_send_29 : decode cX0_send 29 = .ok (.iload_n 1, 1) := by decide +kernel
theorem dX0_send_30 : decode cX0_send 30 = .ok (.iastore, 1) := by decide +kernel
theorem dX0_send_31 : decode cX0_send 31 = .ok (.aload_n 0, 1) := by decide +kernel
theorem dX0_send_32 : decode cX0_send 32 = .ok (.getfield 15, 3) := by decide +kernel
theorem dX0_send_35 : decode cX0_send 35 = .ok (.aload_n 0, 1) := by decide +kernel
theorem dX0_send_36 : decode cX0_send 36 = .ok (.getfield 28, 3) := by decide +kernel
theorem dX0_send_39 : decode cX0_send 39 = .ok (.iload_n 2, 1) := by decide +kernel
theorem dX0_send_40 : decode cX0_send 40 = .ok (.iastore, 1) := by decide +kernel
theorem dX0_send_41 : decode cX0_send 41 = .ok (.aload_n 0, 1) := by decide +kernel
theorem dX0_send_42 : decode cX0_send 42 = .ok (.getfield 18, 3) := by decide +kernel
theorem dX0_send_45 : decode cX0_send 45 = .ok (.aload_n 0, 1) := by decide +kernel
theorem dX0_send_46 : decode cX0_send 46 = .ok (.getfield 28, 3) := by decide +kernel
theorem dX0_send_49 : decode cX0_send 49 = .ok (.iload_n 3, 1) := by decide +kernel
theorem dX0_send_50 : decode cX0_send 50 = .ok (.iastore, 1) := by decide +kernel
theorem dX0_send_51 : decode cX0_send 51 = .ok (.aload_n 0, 1) := by decide +kernel
theorem dX0_send_52 : decode cX0_send 52 = .ok (.getfield 21, 3) := by decide +kernel
theorem dX0_send_55 : decode cX0_send 55 = .ok (.aload_n 0, 1) := by decide +kernel
theorem dX0_send_56 : decode cX0_send 56 = .ok (.getfield 28, 3) := by decide +kernel
theorem dX0_send_59 : decode cX0_send 59 = .ok (.iload 4, 2) := by decide +kernel
theorem dX0_send_61 : decode cX0_send 61 = .ok (.iastore, 1) := by decide +kernel
theorem dX0_send_62 : decode cX0_send 62 = .ok (.aload_n 0, 1) := by decide +kernel
theorem dX0_send_63 : decode cX0_send 63 = .ok (.getfield 24, 3) := by decide +kernel
theorem dX0_send_66 : decode cX0_send 66 = .ok (.aload_n 0, 1) := by decide +kernel
theorem dX0_send_67 : decode cX0_send 67 = .ok (.getfield 28, 3) := by decide +kernel
theorem dX0_send_70 : decode cX0_send 70 = .ok (.lload 5, 2) := by decide +kernel
theorem dX0_send_72 : decode cX0_send 72 = .ok (.lastore, 1) := by decide +kernel
theorem dX0_send_73 : decode cX0_send 73 = .ok (.aload_n 0, 1) := by decide +kernel
theorem dX0_send_74 : decode cX0_send 74 = .ok (.dup, 1) := by decide +kernel
theorem dX0_send_75 : decode cX0_send 75 = .ok (.getfield 28, 3) := by decide +kernel
theorem dX0_send_78 : decode cX0_send 78 = .ok (.iconst 1, 1) := by decide +kernel
theorem dX0_send_79 : decode cX0_send 79 = .ok (.iadd, 1) := by decide +kernel
theorem dX0_send_80 : decode cX0_send 80 = .ok (.putfield 28, 3) := by decide +kernel
theorem dX0_send_83 : decode cX0_send 83 = .ok (.return_, 1) := by decide +kernel
theorem dX0_repeat_0 : decode cX0_repeat 0 = .ok (.aload_n 0, 1) := by decide +kernel
theorem dX0_repeat_1 : decode cX0_repeat 1 = .ok (.iload_n 1, 1) := by decide +kernel
theorem dX0_repeat_2 : decode cX0_repeat 2 = .ok (.invokevirtual 35, 3) := by decide +kernel
theorem dX0_repeat_5 : decode cX0_repeat 5 = .ok (.ifCond .eq 37, 3) := by decide +kernel
theorem dX0_repeat_8 : decode cX0_repeat 8 = .ok (.aload_n 0, 1) := by decide +kernel
theorem dX0_repeat_9 : decode cX0_repeat 9 = .ok (.aload_n 0, 1) := by decide +kernel
theorem dX0_repeat_10 : decode cX0_repeat 10 = .ok (.getfield 9, 3) := by decide +kernel
theorem dX0_repeat_13 : decode cX0_repeat 13 = .ok (.iload_n 1, 1) := by decide +kernel
theorem dX0_repeat_14 : decode cX0_repeat 14 = .ok (.iaload, 1) := by decide +kernel
theorem dX0_repeat_15 : decode cX0_repeat 15 = .ok (.aload_n 0, 1) := by decide +kernel
theorem dX0_repeat_16 : decode cX0_repeat 16 = .ok (.getfield 15, 3) := by decide +kernel
theorem dX0_repeat_19 : decode cX0_repeat 19 = .ok (.iload_n 1, 1) := by decide +kernel
theorem dX0_repeat_20 : decode cX0_repeat 20 = .ok (.iaload, 1) := by decide +kernel
theorem dX0_repeat_21 : decode cX0_repeat 21 = .ok (.aload_n 0, 1) := by decide +kernel
theorem dX0_repeat_22 : decode cX0_repeat 22 = .ok (.getfield 18, 3) := by decide +kernel
theorem dX0_repeat_25 : decode cX0_repeat 25 = .ok (.iload_n 1, 1) := by decide +kernel
theorem dX0_repeat_26 : decode cX0_repeat 26 = .ok (.iaload, 1) := by decide +kernel
theorem dX0_repeat_27 : decode cX0_repeat 27 = .ok (.aload_n 0, 1) := by decide +kernel
theorem dX0_repeat_28 : decode cX0_repeat 28 = .ok (.getfield 21, 3) := by decide +kernel
theorem dX0_repeat_31 : decode cX0_repeat 31 = .ok (.iload_n 1, 1) := by decide +kernel
theorem dX0_repeat_32 : decode cX0_repeat 32 = .ok (.iaload, 1) := by decide +kernel
theorem dX0_repeat_33 : decode cX0_repeat 33 = .ok (.aload_n 0, 1) := by decide +kernel
theorem dX0_repeat_34 : decode cX0_repeat 34 = .ok (.getfield 24, 3) := by decide +kernel
theorem dX0_repeat_37 : decode cX0_repeat 37 = .ok (.iload_n 1, 1) := by decide +kernel
theorem dX0_repeat_38 : decode cX0_repeat 38 = .ok (.laload, 1) := by decide +kernel
theorem dX0_repeat_39 : decode cX0_repeat 39 = .ok (.invokevirtual 39, 3) := by decide +kernel
theorem dX0_repeat_42 : decode cX0_repeat 42 = .ok (.return_, 1) := by decide +kernel
theorem dX0_drop_0 : decode cX0_drop 0 = .ok (.aload_n 0, 1) := by decide +kernel
theorem dX0_drop_1 : decode cX0_drop 1 = .ok (.iload_n 1, 1) := by decide +kernel
theorem dX0_drop_2 : decode cX0_drop 2 = .ok (.invokevirtual 35, 3) := by decide +kernel
theorem dX0_drop_5 : decode cX0_drop 5 = .ok (.ifCond .ne 4, 3) := by decide +kernel
theorem dX0_drop_8 : decode cX0_drop 8 = .ok (.return_, 1) := by decide +kernel
theorem dX0_drop_9 : decode cX0_drop 9 = .ok (.aload_n 0, 1) := by decide +kernel
theorem dX0_drop_10 : decode cX0_drop 10 = .ok (.getfield 28, 3) := by decide +kernel
theorem dX0_drop_13 : decode cX0_drop 13 = .ok (.iload_n 1, 1) := by decide +kernel
theorem dX0_drop_14 : decode cX0_drop 14 = .ok (.isub, 1) := by decide +kernel
theorem dX0_drop_15 : decode cX0_drop 15 = .ok (.iconst 1, 1) := by decide +kernel
theorem dX0_drop_16 : decode cX0_drop 16 = .ok (.isub, 1) := by decide +kernel
theorem dX0_drop_17 : decode cX0_drop 17 = .ok (.istore_n 2, 1) := by decide +kernel
theorem dX0_drop_18 : decode cX0_drop 18 = .ok (.aload_n 0, 1) := by decide +kernel
theorem dX0_drop_19 : decode cX0_drop 19 = .ok (.getfield 9, 3) := by decide +kernel
theorem dX0_drop_22 : decode cX0_drop 22 = .ok (.iload_n 1, 1) := by decide +kernel
theorem dX0_drop_23 : decode cX0_drop 23 = .ok (.iconst 1, 1) := by decide +kernel
theorem dX0_drop_24 : decode cX0_drop 24 = .ok (.iadd, 1) := by decide +kernel
theorem dX0_drop_25 : decode cX0_drop 25 = .ok (.aload_n 0, 1) := by decide +kernel
theorem dX0_drop_26 : decode cX0_drop 26 = .ok (.getfield 9, 3) := by decide +kernel
theorem dX0_drop_29 : decode cX0_drop 29 = .ok (.iload_n 1, 1) := by decide +kernel
theorem dX0_drop_30 : decode cX0_drop 30 = .ok (.iload_n 2, 1) := by decide +kernel
theorem dX0_drop_31 : decode cX0_drop 31 = .ok (.invokestatic 43, 3) := by decide +kernel
theorem dX0_drop_34 : decode cX0_drop 34 = .ok (.aload_n 0, 1) := by decide +kernel
theorem dX0_drop_35 : decode cX0_drop 35 = .ok (.getfield 15, 3) := by decide +kernel
theorem dX0_drop_38 : decode cX0_drop 38 = .ok (.iload_n 1, 1) := by decide +kernel
theorem dX0_drop_39 : decode cX0_drop 39 = .ok (.iconst 1, 1) := by decide +kernel
theorem dX0_drop_40 : decode cX0_drop 40 = .ok (.iadd, 1) := by decide +kernel
theorem dX0_drop_41 : decode cX0_drop 41 = .ok (.aload_n 0, 1) := by decide +kernel
theorem dX0_drop_42 : decode cX0_drop 42 = .ok (.getfield 15, 3) := by decide +kernel
theorem dX0_drop_45 : decode cX0_drop 45 = .ok (.iload_n 1, 1) := by decide +kernel
theorem dX0_drop_46 : decode cX0_drop 46 = .ok (.iload_n 2, 1) := by decide +kernel
theorem dX0_drop_47 : decode cX0_drop 47 = .ok (.invokestatic 43, 3) := by decide +kernel
theorem dX0_drop_50 : decode cX0_drop 50 = .ok (.aload_n 0, 1) := by decide +kernel
theorem dX0_drop_51 : decode cX0_drop 51 = .ok (.getfield 18, 3) := by decide +kernel
theorem dX0_drop_54 : decode cX0_drop 54 = .ok (.iload_n 1, 1) := by decide +kernel
theorem dX0_drop_55 : decode cX0_drop 55 = .ok (.iconst 1, 1) := by decide +kernel
theorem dX0_drop_56 : decode cX0_drop 56 = .ok (.iadd, 1) := by decide +kernel
theorem dX0_drop_57 : decode cX0_drop 57 = .ok (.aload_n 0, 1) := by decide +kernel
theorem dX0_drop_58 : decode cX0_drop 58 = .ok (.getfield 18, 3) := by decide +kernel
theorem dX0_drop_61 : decode cX0_drop 61 = .ok (.iload_n 1, 1) := by decide +kernel
theorem dX0_drop_62 : decode cX0_drop 62 = .ok (.iload_n 2, 1) := by decide +kernel
theorem dX0_drop_63 : decode cX0_drop 63 = .ok (.invokestatic 43, 3) := by decide +kernel
theorem dX0_drop_66 : decode cX0_drop 66 = .ok (.aload_n 0, 1) := by decide +kernel
theorem dX0_drop_67 : decode cX0_drop 67 = .ok (.getfield 21, 3) := by decide +kernel
theorem dX0_drop_70 : decode cX0_drop 70 = .ok (.iload_n 1, 1) := by decide +kernel
theorem dX0_drop_71 : decode cX0_drop 71 = .ok (.iconst 1, 1) := by decide +kernel
theorem dX0_drop_72 : decode cX0_drop 72 = .ok (.iadd, 1) := by decide +kernel
theorem dX0_drop_73 : decode cX0_drop 73 = .ok (.aload_n 0, 1) := by decide +kernel
theorem dX0_drop_74 : decode cX0_drop 74 = .ok (.getfield 21, 3) := by decide +kernel
theorem dX0_drop_77 : decode cX0_drop 77 = .ok (.iload_n 1, 1) := by decide +kernel
theorem dX0_drop_78 : decode cX0_drop 78 = .ok (.iload_n 2, 1) := by decide +kernel
theorem dX0_drop_79 : decode cX0_drop 79 = .ok (.invokestatic 43, 3) := by decide +kernel
theorem dX0_drop_82 : decode cX0_drop 82 = .ok (.aload_n 0, 1) := by decide +kernel
theorem dX0_drop_83 : decode cX0_drop 83 = .ok (.getfield 24, 3) := by decide +kernel
theorem dX0_drop_86 : decode cX0_drop 86 = .ok (.iload_n 1, 1) := by decide +kernel
theorem dX0_drop_87 : decode cX0_drop 87 = .ok (.iconst 1, 1) := by decide +kernel
theorem dX0_drop_88 : decode cX0_drop 88 = .ok (.iadd, 1) := by decide +kernel
theorem dX0_drop_89 : decode cX0_drop 89 = .ok (.aload_n 0, 1) := by decide +kernel
theorem dX0_drop_90 : decode cX0_drop 90 = .ok (.getfield 24, 3) := by decide +kernel
theorem dX0_drop_93 : decode cX0_drop 93 = .ok (.iload_n 1, 1) := by decide +kernel
theorem dX0_drop_94 : decode cX0_drop 94 = .ok (.iload_n 2, 1) := by decide +kernel
theorem dX0_drop_95 : decode cX0_drop 95 = .ok (.invokestatic 43, 3) := by decide +kernel
theorem dX0_drop_98 : decode cX0_drop 98 = .ok (.aload_n 0, 1) := by decide +kernel
theorem dX0_drop_99 : decode cX0_drop 99 = .ok (.dup, 1) := by decide +kernel
theorem dX0_drop_100 : decode cX0_drop 100 = .ok (.getfield 28, 3) := by decide +kernel
theorem dX0_drop_103 : decode cX0_drop 103 = .ok (.iconst 1, 1) := by decide +kernel
theorem dX0_drop_104 : decode cX0_drop 104 = .ok (.isub, 1) := by decide +kernel
theorem dX0_drop_105 : decode cX0_drop 105 = .ok (.putfield 28, 3) := by decide +kernel
theorem dX0_drop_108 : decode cX0_drop 108 = .ok (.return_, 1) := by decide +kernel
theorem dX1_init_0 : decode cX1_init 0 = .ok (.aload_n 0, 1) := by decide +kernel
theorem dX1_init_1 : decode cX1_init 1 = .ok (.invokespecial 3, 3) := by decide +kernel
theorem dX1_init_4 : decode cX1_init 4 = .ok (.aload_n 0, 1) := by decide +kernel
theorem dX1_init_5 : decode cX1_init 5 = .ok (.iconst 0, 1) := by decide +kernel
theorem dX1_init_6 : decode cX1_init 6 = .ok (.putfield 9, 3) := by decide +kernel
theorem dX1_init_9 : decode cX1_init 9 = .ok (.aload_n 0, 1) := by decide +kernel
theorem dX1_init_10 : decode cX1_init 10 = .ok (.bipush 8, 2) := by decide +kernel
theorem dX1_init_12 : decode cX1_init 12 = .ok (.newarray .int, 2) := by decide +kernel
theorem dX1_init_14 : decode cX1_init 14 = .ok (.putfield 15, 3) := by decide +kernel
theorem dX1_init_17 : decode cX1_init 17 = .ok (.aload_n 0, 1) := by decide +kernel
theorem dX1_init_18 : decode cX1_init 18 = .ok (.bipush 8, 2) := by decide +kernel
theorem dX1_init_20 : decode cX1_init 20 = .ok (.newarray .long, 2) := by decide +kernel
theorem dX1_init_22 : decode cX1_init 22 = .ok (.putfield 19, 3) := by decide +kernel
theorem dX1_init_25 : decode cX1_init 25 = .ok (.aload_n 0, 1) := by decide +kernel
theorem dX1_init_26 : decode cX1_init 26 = .ok (.bipush 8, 2) := by decide +kernel
theorem dX1_init_28 : decode cX1_init 28 = .ok (.newarray .int, 2) := by decide +kernel
theorem dX1_init_30 : decode cX1_init 30 = .ok (.putfield 23, 3) := by decide +kernel
theorem dX1_init_33 : decode cX1_init 33 = .ok (.aload_n 0, 1) := by decide +kernel
theorem dX1_init_34 : decode cX1_init 34 = .ok (.bipush 8, 2) := by decide +kernel
theorem dX1_init_36 : decode cX1_init 36 = .ok (.newarray .int, 2) := by decide +kernel
theorem dX1_init_38 : decode cX1_init 38 = .ok (.putfield 26, 3) := by decide +kernel
theorem dX1_init_41 : decode cX1_init 41 = .ok (.aload_n 0, 1) := by decide +kernel
theorem dX1_init_42 : decode cX1_init 42 = .ok (.iload_n 1, 1) := by decide +kernel
theorem dX1_init_43 : decode cX1_init 43 = .ok (.putfield 29, 3) := by decide +kernel
theorem dX1_init_46 : decode cX1_init 46 = .ok (.aload_n 0, 1) := by decide +kernel
theorem dX1_init_47 : decode cX1_init 47 = .ok (.iload_n 2, 1) := by decide +kernel
theorem dX1_init_48 : decode cX1_init 48 = .ok (.putfield 32, 3) := by decide +kernel
theorem dX1_init_51 : decode cX1_init 51 = .ok (.aload_n 0, 1) := by decide +kernel
theorem dX1_init_52 : decode cX1_init 52 = .ok (.iload_n 3, 1) := by decide +kernel
theorem dX1_init_53 : decode cX1_init 53 = .ok (.putfield 35, 3) := by decide +kernel
theorem dX1_init_56 : decode cX1_init 56 = .ok (.aload_n 0, 1) := by decide +kernel
theorem dX1_init_57 : decode cX1_init 57 = .ok (.iload 4, 2) := by decide +kernel
theorem dX1_init_59 : decode cX1_init 59 = .ok (.putfield 38, 3) := by decide +kernel
theorem dX1_init_62 : decode cX1_init 62 = .ok (.aload_n 0, 1) := by decide +kernel
theorem dX1_init_63 : decode cX1_init 63 = .ok (.iload 5, 2) := by decide +kernel
theorem dX1_init_65 : decode cX1_init 65 = .ok (.putfield 41, 3) := by decide +kernel
theorem dX1_init_68 : decode cX1_init 68 = .ok (.aload_n 0, 1) := by decide +kernel
theorem dX1_init_69 : decode cX1_init 69 = .ok (.iload 6, 2) := by decide +kernel
theorem dX1_init_71 : decode cX1_init 71 = .ok (.putfield 44, 3) := by decide +kernel
theorem dX1_init_74 : decode cX1_init 74 = .ok (.return_, 1) := by decide +kernel
theorem dX1_hasWord_0 : decode cX1_hasWord 0 = .ok (.aload_n 0, 1) := by decide +kernel
theorem dX1_hasWord_1 : decode cX1_hasWord 1 = .ok (.getfield 47, 3) := by decide +kernel
theorem dX1_hasWord_4 : decode cX1_hasWord 4 = .ok (.aload_n 0, 1) := by decide +kernel
theorem dX1_hasWord_5 : decode cX1_hasWord 5 = .ok (.getfield 50, 3) := by decide +kernel
theorem dX1_hasWord_8 : decode cX1_hasWord 8 = .ok (.ior, 1) := by decide +kernel
theorem dX1_hasWord_9 : decode cX1_hasWord 9 = .ok (.iconst 1, 1) := by decide +kernel
theorem dX1_hasWord_10 : decode cX1_hasWord 10 = .ok (.iload_n 1, 1) := by decide +kernel
theorem dX1_hasWord_11 : decode cX1_hasWord 11 = .ok (.ishl, 1) := by decide +kernel
theorem dX1_hasWord_12 : decode cX1_hasWord 12 = .ok (.iand, 1) := by decide +kernel
theorem dX1_hasWord_13 : decode cX1_hasWord 13 = .ok (.ifCond .eq 7, 3) := by decide +kernel
theorem dX1_hasWord_16 : decode cX1_hasWord 16 = .ok (.iconst 1, 1) := by decide +kernel
theorem dX1_hasWord_17 : decode cX1_hasWord 17 = .ok (.goto 4, 3) := by decide +kernel
theorem dX1_hasWord_20 : decode cX1_hasWord 20 = .ok (.iconst 0, 1) := by decide +kernel
theorem dX1_hasWord_21 : decode cX1_hasWord 21 = .ok (.ireturn, 1) := by decide +kernel
theorem dX1_knows_0 : decode cX1_knows 0 = .ok (.iload_n 1, 1) := by decide +kernel
theorem dX1_knows_1 : decode cX1_knows 1 = .ok (.invokestatic 53, 3) := by decide +kernel
theorem dX1_knows_4 : decode cX1_knows 4 = .ok (.ifCond .eq 23, 3) := by decide +kernel
theorem dX1_knows_7 : decode cX1_knows 7 = .ok (.aload_n 0, 1) := by decide +kernel
theorem dX1_knows_8 : decode cX1_knows 8 = .ok (.getfield 23, 3) := by decide +kernel
theorem dX1_knows_11 : decode cX1_knows 11 = .ok (.iload_n 1, 1) := by decide +kernel
theorem dX1_knows_12 : decode cX1_knows 12 = .ok (.iaload, 1) := by decide +kernel
theorem dX1_knows_13 : decode cX1_knows 13 = .ok (.invokestatic 57, 3) := by decide +kernel
theorem dX1_knows_16 : decode cX1_knows 16 = .ok (.aload_n 0, 1) := by decide +kernel
theorem dX1_knows_17 : decode cX1_knows 17 = .ok (.getfield 38, 3) := by decide +kernel
theorem dX1_knows_20 : decode cX1_knows 20 = .ok (.if_icmp .lt 7, 3) := by decide +kernel
theorem dX1_knows_23 : decode cX1_knows 23 = .ok (.iconst 1, 1) := by decide +kernel
theorem dX1_knows_24 : decode cX1_knows 24 = .ok (.goto 4, 3) := by decide +kernel
theorem dX1_knows_27 : decode cX1_knows 27 = .ok (.iconst 0, 1) := by decide +kernel
theorem dX1_knows_28 : decode cX1_knows 28 = .ok (.ireturn, 1) := by decide +kernel
theorem dX1_hasChosen_0 : decode cX1_hasChosen 0 = .ok (.iload_n 1, 1) := by decide +kernel
theorem dX1_hasChosen_1 : decode cX1_hasChosen 1 = .ok (.invokestatic 53, 3) := by decide +kernel
theorem dX1_hasChosen_4 : decode cX1_hasChosen 4 = .ok (.ifCond .eq 23, 3) := by decide +kernel
theorem dX1_hasChosen_7 : decode cX1_hasChosen 7 = .ok (.aload_n 0, 1) := by decide +kernel
theorem dX1_hasChosen_8 : decode cX1_hasChosen 8 = .ok (.getfield 26, 3) := by decide +kernel
theorem dX1_hasChosen_11 : decode cX1_hasChosen 11 = .ok (.iload_n 1, 1) := by decide +kernel
theorem dX1_hasChosen_12 : decode cX1_hasChosen 12 = .ok (.iaload, 1) := by decide +kernel
theorem dX1_hasChosen_13 : decode cX1_hasChosen 13 = .ok (.invokestatic 57, 3) := by decide +kernel
theorem dX1_hasChosen_16 : decode cX1_hasChosen 16 = .ok (.aload_n 0, 1) := by decide +kernel
theorem dX1_hasChosen_17 : decode cX1_hasChosen 17 = .ok (.getfield 38, 3) := by decide +kernel
theorem dX1_hasChosen_20 : decode cX1_hasChosen 20 = .ok (.if_icmp .lt 7, 3) := by decide +kernel
theorem dX1_hasChosen_23 : decode cX1_hasChosen 23 = .ok (.iconst 1, 1) := by decide +kernel
theorem dX1_hasChosen_24 : decode cX1_hasChosen 24 = .ok (.goto 4, 3) := by decide +kernel
theorem dX1_hasChosen_27 : decode cX1_hasChosen 27 = .ok (.iconst 0, 1) := by decide +kernel
theorem dX1_hasChosen_28 : decode cX1_hasChosen 28 = .ok (.ireturn, 1) := by decide +kernel
theorem dX1_knownPlaces_0 : decode cX1_knownPlaces 0 = .ok (.iconst 0, 1) := by decide +kernel
theorem dX1_knownPlaces_1 : decode cX1_knownPlaces 1 = .ok (.istore_n 1, 1) := by decide +kernel
theorem dX1_knownPlaces_2 : decode cX1_knownPlaces 2 = .ok (.iconst 0, 1) := by decide +kernel
theorem dX1_knownPlaces_3 : decode cX1_knownPlaces 3 = .ok (.istore_n 2, 1) := by decide +kernel
theorem dX1_knownPlaces_4 : decode cX1_knownPlaces 4 = .ok (.iload_n 2, 1) := by decide +kernel
theorem dX1_knownPlaces_5 : decode cX1_knownPlaces 5 = .ok (.bipush 8, 2) := by decide +kernel
theorem dX1_knownPlaces_7 : decode cX1_knownPlaces 7 = .ok (.if_icmp .ge 23, 3) := by decide +kernel
theorem dX1_knownPlaces_10 : decode cX1_knownPlaces 10 = .ok (.aload_n 0, 1) := by decide +kernel
theorem dX1_knownPlaces_11 : decode cX1_knownPlaces 11 = .ok (.iload_n 2, 1) := by decide +kernel
theorem dX1_knownPlaces_12 : decode cX1_knownPlaces 12 = .ok (.invokevirtual 63, 3) := by decide +kernel
theorem dX1_knownPlaces_15 : decode cX1_knownPlaces 15 = .ok (.ifCond .eq 9, 3) := by decide +kernel
theorem dX1_knownPlaces_18 : decode cX1_knownPlaces 18 = .ok (.iload_n 1, 1) := by decide +kernel
theorem dX1_knownPlaces_19 : decode cX1_knownPlaces 19 = .ok (.iconst 1, 1) := by decide +kernel
theorem dX1_knownPlaces_20 : decode cX1_knownPlaces 20 = .ok (.iload_n 2, 1) := by decide +kernel
theorem dX1_knownPlaces_21 : decode cX1_knownPlaces 21 = .ok (.ishl, 1) := by decide +kernel
theorem dX1_knownPlaces_22 : decode cX1_knownPlaces 22 = .ok (.ior, 1) := by decide +kernel
theorem dX1_knownPlaces_23 : decode cX1_knownPlaces 23 = .ok (.istore_n 1, 1) := by decide +kernel
theorem dX1_knownPlaces_24 : decode cX1_knownPlaces 24 = .ok (.iinc 2 1, 3) := by decide +kernel
theorem dX1_knownPlaces_27 : decode cX1_knownPlaces 27 = .ok (.goto (-23), 3) := by decide +kernel
theorem dX1_knownPlaces_30 : decode cX1_knownPlaces 30 = .ok (.iload_n 1, 1) := by decide +kernel
theorem dX1_knownPlaces_31 : decode cX1_knownPlaces 31 = .ok (.ireturn, 1) := by decide +kernel
theorem dX2_at_0 : decode cX2_at 0 = .ok (.lload_n 0, 1) := by decide +kernel
theorem dX2_at_1 : decode cX2_at 1 = .ok (.iload_n 2, 1) := by decide +kernel
theorem dX2_at_2 : decode cX2_at 2 = .ok (.bipush 8, 2) := by decide +kernel
theorem dX2_at_4 : decode cX2_at 4 = .ok (.imul, 1) := by decide +kernel
theorem dX2_at_5 : decode cX2_at 5 = .ok (.lushr, 1) := by decide +kernel
theorem dX2_at_6 : decode cX2_at 6 = .ok (.ldc2_w 11, 3) := by decide +kernel
theorem dX2_at_9 : decode cX2_at 9 = .ok (.land, 1) := by decide +kernel
theorem dX2_at_10 : decode cX2_at 10 = .ok (.l2i, 1) := by decide +kernel
theorem dX2_at_11 : decode cX2_at 11 = .ok (.ireturn, 1) := by decide +kernel
theorem dX2_with_0 : decode cX2_with 0 = .ok (.iload_n 2, 1) := by decide +kernel
theorem dX2_with_1 : decode cX2_with 1 = .ok (.bipush 8, 2) := by decide +kernel
theorem dX2_with_3 : decode cX2_with 3 = .ok (.imul, 1) := by decide +kernel
theorem dX2_with_4 : decode cX2_with 4 = .ok (.istore 4, 2) := by decide +kernel
theorem dX2_with_6 : decode cX2_with 6 = .ok (.lload_n 0, 1) := by decide +kernel
theorem dX2_with_7 : decode cX2_with 7 = .ok (.ldc2_w 11, 3) := by decide +kernel
theorem dX2_with_10 : decode cX2_with 10 = .ok (.iload 4, 2) := by decide +kernel
theorem dX2_with_12 : decode cX2_with 12 = .ok (.lshl, 1) := by decide +kernel
theorem dX2_with_13 : decode cX2_with 13 = .ok (.ldc2_w 13, 3) := by decide +kernel
theorem dX2_with_16 : decode cX2_with 16 = .ok (.lxor, 1) := by decide +kernel
theorem dX2_with_17 : decode cX2_with 17 = .ok (.land, 1) := by decide +kernel
theorem dX2_with_18 : decode cX2_with 18 = .ok (.iload_n 3, 1) := by decide +kernel
theorem dX2_with_19 : decode cX2_with 19 = .ok (.i2l, 1) := by decide +kernel
theorem dX2_with_20 : decode cX2_with 20 = .ok (.iload 4, 2) := by decide +kernel
theorem dX2_with_22 : decode cX2_with 22 = .ok (.lshl, 1) := by decide +kernel
theorem dX2_with_23 : decode cX2_with 23 = .ok (.lor, 1) := by decide +kernel
theorem dX2_with_24 : decode cX2_with 24 = .ok (.lreturn, 1) := by decide +kernel
theorem dX2_places_0 : decode cX2_places 0 = .ok (.iconst 0, 1) := by decide +kernel
theorem dX2_places_1 : decode cX2_places 1 = .ok (.istore_n 2, 1) := by decide +kernel
theorem dX2_places_2 : decode cX2_places 2 = .ok (.iconst 0, 1) := by decide +kernel
theorem dX2_places_3 : decode cX2_places 3 = .ok (.istore_n 3, 1) := by decide +kernel
theorem dX2_places_4 : decode cX2_places 4 = .ok (.iload_n 3, 1) := by decide +kernel
theorem dX2_places_5 : decode cX2_places 5 = .ok (.bipush 8, 2) := by decide +kernel
theorem dX2_places_7 : decode cX2_places 7 = .ok (.if_icmp .ge 23, 3) := by decide +kernel
theorem dX2_places_10 : decode cX2_places 10 = .ok (.lload_n 0, 1) := by decide +kernel
theorem dX2_places_11 : decode cX2_places 11 = .ok (.iload_n 3, 1) := by decide +kernel
theorem dX2_places_12 : decode cX2_places 12 = .ok (.invokestatic 15, 3) := by decide +kernel
theorem dX2_places_15 : decode cX2_places 15 = .ok (.ifCond .eq 9, 3) := by decide +kernel
theorem dX2_places_18 : decode cX2_places 18 = .ok (.iload_n 2, 1) := by decide +kernel
theorem dX2_places_19 : decode cX2_places 19 = .ok (.iconst 1, 1) := by decide +kernel
theorem dX2_places_20 : decode cX2_places 20 = .ok (.iload_n 3, 1) := by decide +kernel
theorem dX2_places_21 : decode cX2_places 21 = .ok (.ishl, 1) := by decide +kernel
theorem dX2_places_22 : decode cX2_places 22 = .ok (.ior, 1) := by decide +kernel
theorem dX2_places_23 : decode cX2_places 23 = .ok (.istore_n 2, 1) := by decide +kernel
theorem dX2_places_24 : decode cX2_places 24 = .ok (.iinc 3 1, 3) := by decide +kernel
theorem dX2_places_27 : decode cX2_places 27 = .ok (.goto (-23), 3) := by decide +kernel
theorem dX2_places_30 : decode cX2_places 30 = .ok (.iload_n 2, 1) := by decide +kernel
theorem dX2_places_31 : decode cX2_places 31 = .ok (.ireturn, 1) := by decide +kernel
theorem dX3_init_0 : decode cX3_init 0 = .ok (.aload_n 0, 1) := by decide +kernel
theorem dX3_init_1 : decode cX3_init 1 = .ok (.invokespecial 1, 3) := by decide +kernel
theorem dX3_init_4 : decode cX3_init 4 = .ok (.aload_n 0, 1) := by decide +kernel
theorem dX3_init_5 : decode cX3_init 5 = .ok (.iconst 1, 1) := by decide +kernel
theorem dX3_init_6 : decode cX3_init 6 = .ok (.bipush 7, 2) := by decide +kernel
theorem dX3_init_8 : decode cX3_init 8 = .ok (.iload_n 1, 1) := by decide +kernel
theorem dX3_init_9 : decode cX3_init 9 = .ok (.invokestatic 9, 3) := by decide +kernel
theorem dX3_init_12 : decode cX3_init 12 = .ok (.invokestatic 15, 3) := by decide +kernel
theorem dX3_init_15 : decode cX3_init 15 = .ok (.putfield 18, 3) := by decide +kernel
theorem dX3_init_18 : decode cX3_init 18 = .ok (.aload_n 0, 1) := by decide +kernel
theorem dX3_init_19 : decode cX3_init 19 = .ok (.aload_n 0, 1) := by decide +kernel
theorem dX3_init_20 : decode cX3_init 20 = .ok (.getfield 18, 3) := by decide +kernel
theorem dX3_init_23 : decode cX3_init 23 = .ok (.newarray .int, 2) := by decide +kernel
theorem dX3_init_25 : decode cX3_init 25 = .ok (.putfield 22, 3) := by decide +kernel
theorem dX3_init_28 : decode cX3_init 28 = .ok (.aload_n 0, 1) := by decide +kernel
theorem dX3_init_29 : decode cX3_init 29 = .ok (.aload_n 0, 1) := by decide +kernel
theorem dX3_init_30 : decode cX3_init 30 = .ok (.getfield 18, 3) := by decide +kernel
theorem dX3_init_33 : decode cX3_init 33 = .ok (.newarray .long, 2) := by decide +kernel
theorem dX3_init_35 : decode cX3_init 35 = .ok (.putfield 26, 3) := by decide +kernel
theorem dX3_init_38 : decode cX3_init 38 = .ok (.aload_n 0, 1) := by decide +kernel
theorem dX3_init_39 : decode cX3_init 39 = .ok (.bipush 24, 2) := by decide +kernel
theorem dX3_init_41 : decode cX3_init 41 = .ok (.anewarray 30, 3) := by decide +kernel
theorem dX3_init_44 : decode cX3_init 44 = .ok (.putfield 32, 3) := by decide +kernel
theorem dX3_init_47 : decode cX3_init 47 = .ok (.aload_n 0, 1) := by decide +kernel
theorem dX3_init_48 : decode cX3_init 48 = .ok (.new 36, 3) := by decide +kernel
theorem dX3_init_51 : decode cX3_init 51 = .ok (.dup, 1) := by decide +kernel
theorem dX3_init_52 : decode cX3_init 52 = .ok (.invokespecial 38, 3) := by decide +kernel
theorem dX3_init_55 : decode cX3_init 55 = .ok (.putfield 39, 3) := by decide +kernel
theorem dX3_init_58 : decode cX3_init 58 = .ok (.return_, 1) := by decide +kernel
theorem dX3_ballot_0 : decode cX3_ballot 0 = .ok (.aload_n 0, 1) := by decide +kernel
theorem dX3_ballot_1 : decode cX3_ballot 1 = .ok (.getfield 43, 3) := by decide +kernel
theorem dX3_ballot_4 : decode cX3_ballot 4 = .ok (.bipush 24, 2) := by decide +kernel
theorem dX3_ballot_6 : decode cX3_ballot 6 = .ok (.if_icmp .ge 13, 3) := by decide +kernel
theorem dX3_ballot_9 : decode cX3_ballot 9 = .ok (.aload_n 0, 1) := by decide +kernel
theorem dX3_ballot_10 : decode cX3_ballot 10 = .ok (.iload_n 1, 1) := by decide +kernel
theorem dX3_ballot_11 : decode cX3_ballot 11 = .ok (.iload_n 2, 1) := by decide +kernel
theorem dX3_ballot_12 : decode cX3_ballot 12 = .ok (.iload_n 3, 1) := by decide +kernel
theorem dX3_ballot_13 : decode cX3_ballot 13 = .ok (.invokevirtual 46, 3) := by decide +kernel
theorem dX3_ballot_16 : decode cX3_ballot 16 = .ok (.ifCond .ne 5, 3) := by decide +kernel
theorem dX3_ballot_19 : decode cX3_ballot 19 = .ok (.iconst (-1), 1) := by decide +kernel
theorem dX3_ballot_20 : decode cX3_ballot 20 = .ok (.ireturn, 1) := by decide +kernel
theorem dX3_ballot_21 : decode cX3_ballot 21 = .ok (.aload_n 0, 1) := by decide +kernel
theorem dX3_ballot_22 : decode cX3_ballot 22 = .ok (.getfield 43, 3) := by decide +kernel
theorem dX3_ballot_25 : decode cX3_ballot 25 = .ok (.iconst 1, 1) := by decide +kernel
theorem dX3_ballot_26 : decode cX3_ballot 26 = .ok (.iadd, 1) := by decide +kernel
theorem dX3_ballot_27 : decode cX3_ballot 27 = .ok (.istore 4, 2) := by decide +kernel
theorem dX3_ballot_29 : decode cX3_ballot 29 = .ok (.iconst 1, 1) := by decide +kernel
theorem dX3_ballot_30 : decode cX3_ballot 30 = .ok (.aload_n 0, 1) := by decide +kernel
theorem dX3_ballot_31 : decode cX3_ballot 31 = .ok (.getfield 50, 3) := by decide +kernel
theorem dX3_ballot_34 : decode cX3_ballot 34 = .ok (.invokestatic 15, 3) := by decide +kernel
theorem dX3_ballot_37 : decode cX3_ballot 37 = .ok (.istore 5, 2) := by decide +kernel
theorem dX3_ballot_39 : decode cX3_ballot 39 = .ok (.new 30, 3) := by decide +kernel
theorem dX3_ballot_42 : decode cX3_ballot 42 = .ok (.dup, 1) := by decide +kernel
theorem dX3_ballot_43 : decode cX3_ballot 43 = .ok (.iload 4, 2) := by decide +kernel
theorem dX3_ballot_45 : decode cX3_ballot 45 = .ok (.iload_n 1, 1) := by decide +kernel
theorem dX3_ballot_46 : decode cX3_ballot 46 = .ok (.iload_n 2, 1) := by decide +kernel
theorem dX3_ballot_47 : decode cX3_ballot 47 = .ok (.iload_n 3, 1) := by decide +kernel
theorem dX3_ballot_48 : decode cX3_ballot 48 = .ok (.aload_n 0, 1) := by decide +kernel
theorem dX3_ballot_49 : decode cX3_ballot 49 = .ok (.getfield 50, 3) := by decide +kernel
theorem dX3_ballot_52 : decode cX3_ballot 52 = .ok (.aload_n 0, 1) := by decide +kernel
theorem dX3_ballot_53 : decode cX3_ballot 53 = .ok (.iload 5, 2) := by decide +kernel
theorem dX3_ballot_55 : decode cX3_ballot 55 = .ok (.invokevirtual 53, 3) := by decide +kernel
theorem dX3_ballot_58 : decode cX3_ballot 58 = .ok (.invokespecial 57, 3) := by decide +kernel
theorem dX3_ballot_61 : decode cX3_ballot 61 = .ok (.astore 6, 2) := by decide +kernel
theorem dX3_ballot_63 : decode cX3_ballot 63 = .ok (.aload_n 0, 1) := by decide +kernel
theorem dX3_ballot_64 : decode cX3_ballot 64 = .ok (.getfield 32, 3) := by decide +kernel
theorem dX3_ballot_67 : decode cX3_ballot 67 = .ok (.aload_n 0, 1) := by decide +kernel
theorem dX3_ballot_68 : decode cX3_ballot 68 = .ok (.getfield 43, 3) := by decide +kernel
theorem dX3_ballot_71 : decode cX3_ballot 71 = .ok (.aload 6, 2) := by decide +kernel
theorem dX3_ballot_73 : decode cX3_ballot 73 = .ok (.aastore, 1) := by decide +kernel
theorem dX3_ballot_74 : decode cX3_ballot 74 = .ok (.aload_n 0, 1) := by decide +kernel
theorem dX3_ballot_75 : decode cX3_ballot 75 = .ok (.iload 4, 2) := by decide +kernel
theorem dX3_ballot_77 : decode cX3_ballot 77 = .ok (.putfield 43, 3) := by decide +kernel
theorem dX3_ballot_80 : decode cX3_ballot 80 = .ok (.aload_n 0, 1) := by decide +kernel
theorem dX3_ballot_81 : decode cX3_ballot 81 = .ok (.getfield 39, 3) := by decide +kernel
theorem dX3_ballot_84 : decode cX3_ballot 84 = .ok (.iconst 1, 1) := by decide +kernel
theorem dX3_ballot_85 : decode cX3_ballot 85 = .ok (.iload 4, 2) := by decide +kernel
theorem dX3_ballot_87 : decode cX3_ballot 87 = .ok (.iconst (-1), 1) := by decide +kernel
theorem dX3_ballot_88 : decode cX3_ballot 88 = .ok (.iconst (-1), 1) := by decide +kernel
theorem dX3_ballot_89 : decode cX3_ballot 89 = .ok (.lconst 0, 1) := by decide +kernel
theorem dX3_ballot_90 : decode cX3_ballot 90 = .ok (.invokevirtual 60, 3) := by decide +kernel
theorem dX3_ballot_93 : decode cX3_ballot 93 = .ok (.iload 4, 2) := by decide +kernel
theorem dX3_ballot_95 : decode cX3_ballot 95 = .ok (.ireturn, 1) := by decide +kernel
theorem dX3_propose_0 : decode cX3_propose 0 = .ok (.aload_n 0, 1) := by decide +kernel
theorem dX3_propose_1 : decode cX3_propose 1 = .ok (.iload_n 1, 1) := by decide +kernel
theorem dX3_propose_2 : decode cX3_propose 2 = .ok (.invokevirtual 64, 3) := by decide +kernel
theorem dX3_propose_5 : decode cX3_propose 5 = .ok (.astore 5, 2) := by decide +kernel
theorem dX3_propose_7 : decode cX3_propose 7 = .ok (.aload 5, 2) := by decide +kernel
theorem dX3_propose_9 : decode cX3_propose 9 = .ok (.ifnull 28, 3) := by decide +kernel
theorem dX3_propose_12 : decode cX3_propose 12 = .ok (.iload_n 2, 1) := by decide +kernel
theorem dX3_propose_13 : decode cX3_propose 13 = .ok (.invokestatic 68, 3) := by decide +kernel
theorem dX3_propose_16 : decode cX3_propose 16 = .ok (.ifCond .eq 21, 3) := by decide +kernel
theorem dX3_propose_19 : decode cX3_propose 19 = .ok (.aload 5, 2) := by decide +kernel
theorem dX3_propose_21 : decode cX3_propose 21 = .ok (.getfield 72, 3) := by decide +kernel
theorem dX3_propose_24 : decode cX3_propose 24 = .ok (.iconst 4, 1) := by decide +kernel
theorem dX3_propose_25 : decode cX3_propose 25 = .ok (.if_icmp .ne 12, 3) := by decide +kernel
theorem dX3_propose_28 : decode cX3_propose 28 = .ok (.aload 5, 2) := by decide +kernel
theorem dX3_propose_30 : decode cX3_propose 30 = .ok (.iload_n 2, 1) := by decide +kernel
theorem dX3_propose_31 : decode cX3_propose 31 = .ok (.invokevirtual 75, 3) := by decide +kernel
theorem dX3_propose_34 : decode cX3_propose 34 = .ok (.ifCond .eq 5, 3) := by decide +kernel
theorem dX3_propose_37 : decode cX3_propose 37 = .ok (.iconst 0, 1) := by decide +kernel
theorem dX3_propose_38 : decode cX3_propose 38 = .ok (.ireturn, 1) := by decide +kernel
theorem dX3_propose_39 : decode cX3_propose 39 = .ok (.aload 5, 2) := by decide +kernel
theorem dX3_propose_41 : decode cX3_propose 41 = .ok (.dup, 1) := by decide +kernel
theorem dX3_propose_42 : decode cX3_propose 42 = .ok (.getfield 78, 3) := by decide +kernel
theorem dX3_propose_45 : decode cX3_propose 45 = .ok (.iconst 1, 1) := by decide +kernel
theorem dX3_propose_46 : decode cX3_propose 46 = .ok (.iload_n 2, 1) := by decide +kernel
theorem dX3_propose_47 : decode cX3_propose 47 = .ok (.ishl, 1) := by decide +kernel
theorem dX3_propose_48 : decode cX3_propose 48 = .ok (.ior, 1) := by decide +kernel
theorem dX3_propose_49 : decode cX3_propose 49 = .ok (.putfield 78, 3) := by decide +kernel
theorem dX3_propose_52 : decode cX3_propose 52 = .ok (.aload 5, 2) := by decide +kernel
theorem dX3_propose_54 : decode cX3_propose 54 = .ok (.getfield 81, 3) := by decide +kernel
theorem dX3_propose_57 : decode cX3_propose 57 = .ok (.iload_n 2, 1) := by decide +kernel
theorem dX3_propose_58 : decode cX3_propose 58 = .ok (.lload_n 3, 1) := by decide +kernel
theorem dX3_propose_59 : decode cX3_propose 59 = .ok (.lastore, 1) := by decide +kernel
theorem dX3_propose_60 : decode cX3_propose 60 = .ok (.aload_n 0, 1) := by decide +kernel
theorem dX3_propose_61 : decode cX3_propose 61 = .ok (.aload 5, 2) := by decide +kernel
theorem dX3_propose_63 : decode cX3_propose 63 = .ok (.getfield 84, 3) := by decide +kernel
theorem dX3_propose_66 : decode cX3_propose 66 = .ok (.iconst 4, 1) := by decide +kernel
theorem dX3_propose_67 : decode cX3_propose 67 = .ok (.aload 5, 2) := by decide +kernel
theorem dX3_propose_69 : decode cX3_propose 69 = .ok (.iload_n 2, 1) := by decide +kernel
theorem dX3_propose_70 : decode cX3_propose 70 = .ok (.invokevirtual 87, 3) := by decide +kernel
theorem dX3_propose_73 : decode cX3_propose 73 = .ok (.pop, 1) := by decide +kernel
theorem dX3_propose_74 : decode cX3_propose 74 = .ok (.iconst 1, 1) := by decide +kernel
theorem dX3_propose_75 : decode cX3_propose 75 = .ok (.ireturn, 1) := by decide +kernel
theorem dX3_again_0 : decode cX3_again 0 = .ok (.aload_n 0, 1) := by decide +kernel
theorem dX3_again_1 : decode cX3_again 1 = .ok (.iload_n 1, 1) := by decide +kernel
theorem dX3_again_2 : decode cX3_again 2 = .ok (.invokevirtual 64, 3) := by decide +kernel
theorem dX3_again_5 : decode cX3_again 5 = .ok (.astore_n 2, 1) := by decide +kernel
theorem dX3_again_6 : decode cX3_again 6 = .ok (.aload_n 2, 1) := by decide +kernel
theorem dX3_again_7 : decode cX3_again 7 = .ok (.ifnonnull 5, 3) := by decide +kernel
theorem dX3_again_10 : decode cX3_again 10 = .ok (.iconst (-1), 1) := by decide +kernel
theorem dX3_again_11 : decode cX3_again 11 = .ok (.ireturn, 1) := by decide +kernel
theorem dX3_again_12 : decode cX3_again 12 = .ok (.aload_n 2, 1) := by decide +kernel
theorem dX3_again_13 : decode cX3_again 13 = .ok (.getfield 72, 3) := by decide +kernel
theorem dX3_again_16 : decode cX3_again 16 = .ok (.tableswitch 86 0 3 #[32, 49, 86, 68], 32) := by decide +kernel
theorem dX3_again_48 : decode cX3_again 48 = .ok (.aload_n 0, 1) := by decide +kernel
theorem dX3_again_49 : decode cX3_again 49 = .ok (.getfield 39, 3) := by decide +kernel
theorem dX3_again_52 : decode cX3_again 52 = .ok (.iconst 1, 1) := by decide +kernel
theorem dX3_again_53 : decode cX3_again 53 = .ok (.aload_n 2, 1) := by decide +kernel
theorem dX3_again_54 : decode cX3_again 54 = .ok (.getfield 91, 3) := by decide +kernel
theorem dX3_again_57 : decode cX3_again 57 = .ok (.iconst (-1), 1) := by decide +kernel
theorem dX3_again_58 : decode cX3_again 58 = .ok (.iconst (-1), 1) := by decide +kernel
theorem dX3_again_59 : decode cX3_again 59 = .ok (.lconst 0, 1) := by decide +kernel
theorem dX3_again_60 : decode cX3_again 60 = .ok (.invokevirtual 60, 3) := by decide +kernel
theorem dX3_again_63 : decode cX3_again 63 = .ok (.iconst 1, 1) := by decide +kernel
theorem dX3_again_64 : decode cX3_again 64 = .ok (.ireturn, 1) := by decide +kernel
theorem dX3_again_65 : decode cX3_again 65 = .ok (.aload_n 0, 1) := by decide +kernel
theorem dX3_again_66 : decode cX3_again 66 = .ok (.aload_n 2, 1) := by decide +kernel
theorem dX3_again_67 : decode cX3_again 67 = .ok (.getfield 94, 3) := by decide +kernel
theorem dX3_again_70 : decode cX3_again 70 = .ok (.aload_n 2, 1) := by decide +kernel
theorem dX3_again_71 : decode cX3_again 71 = .ok (.getfield 97, 3) := by decide +kernel
theorem dX3_again_74 : decode cX3_again 74 = .ok (.iconst (-1), 1) := by decide +kernel
theorem dX3_again_75 : decode cX3_again 75 = .ok (.ixor, 1) := by decide +kernel
theorem dX3_again_76 : decode cX3_again 76 = .ok (.iand, 1) := by decide +kernel
theorem dX3_again_77 : decode cX3_again 77 = .ok (.iconst 2, 1) := by decide +kernel
theorem dX3_again_78 : decode cX3_again 78 = .ok (.aload_n 2, 1) := by decide +kernel
theorem dX3_again_79 : decode cX3_again 79 = .ok (.iconst (-1), 1) := by decide +kernel
theorem dX3_again_80 : decode cX3_again 80 = .ok (.invokevirtual 87, 3) := by decide +kernel
theorem dX3_again_83 : decode cX3_again 83 = .ok (.ireturn, 1) := by decide +kernel
theorem dX3_again_84 : decode cX3_again 84 = .ok (.aload_n 0, 1) := by decide +kernel
theorem dX3_again_85 : decode cX3_again 85 = .ok (.getfield 39, 3) := by decide +kernel
theorem dX3_again_88 : decode cX3_again 88 = .ok (.bipush 6, 2) := by decide +kernel
theorem dX3_again_90 : decode cX3_again 90 = .ok (.aload_n 2, 1) := by decide +kernel
theorem dX3_again_91 : decode cX3_again 91 = .ok (.getfield 91, 3) := by decide +kernel
theorem dX3_again_94 : decode cX3_again 94 = .ok (.iconst (-1), 1) := by decide +kernel
theorem dX3_again_95 : decode cX3_again 95 = .ok (.iconst (-1), 1) := by decide +kernel
theorem dX3_again_96 : decode cX3_again 96 = .ok (.lconst 0, 1) := by decide +kernel
theorem dX3_again_97 : decode cX3_again 97 = .ok (.invokevirtual 60, 3) := by decide +kernel
theorem dX3_again_100 : decode cX3_again 100 = .ok (.iconst 1, 1) := by decide +kernel
theorem dX3_again_101 : decode cX3_again 101 = .ok (.ireturn, 1) := by decide +kernel
theorem dX3_again_102 : decode cX3_again 102 = .ok (.aload_n 0, 1) := by decide +kernel
theorem dX3_again_103 : decode cX3_again 103 = .ok (.aload_n 2, 1) := by decide +kernel
theorem dX3_again_104 : decode cX3_again 104 = .ok (.invokevirtual 100, 3) := by decide +kernel
theorem dX3_again_107 : decode cX3_again 107 = .ok (.ireturn, 1) := by decide +kernel
theorem dX3_deliver_0 : decode cX3_deliver 0 = .ok (.aload_n 0, 1) := by decide +kernel
theorem dX3_deliver_1 : decode cX3_deliver 1 = .ok (.getfield 39, 3) := by decide +kernel
theorem dX3_deliver_4 : decode cX3_deliver 4 = .ok (.iload_n 1, 1) := by decide +kernel
theorem dX3_deliver_5 : decode cX3_deliver 5 = .ok (.invokevirtual 104, 3) := by decide +kernel
theorem dX3_deliver_8 : decode cX3_deliver 8 = .ok (.ifCond .eq 11, 3) := by decide +kernel
theorem dX3_deliver_11 : decode cX3_deliver 11 = .ok (.aload_n 0, 1) := by decide +kernel
theorem dX3_deliver_12 : decode cX3_deliver 12 = .ok (.iload_n 1, 1) := by decide +kernel
theorem dX3_deliver_13 : decode cX3_deliver 13 = .ok (.invokevirtual 107, 3) := by decide +kernel
theorem dX3_deliver_16 : decode cX3_deliver 16 = .ok (.ifCond .eq 5, 3) := by decide +kernel
theorem dX3_deliver_19 : decode cX3_deliver 19 = .ok (.iconst 0, 1) := by decide +kernel
theorem dX3_deliver_20 : decode cX3_deliver 20 = .ok (.ireturn, 1) := by decide +kernel
theorem dX3_deliver_21 : decode cX3_deliver 21 = .ok (.aload_n 0, 1) := by decide +kernel
theorem dX3_deliver_22 : decode cX3_deliver 22 = .ok (.iload_n 1, 1) := by decide +kernel
theorem dX3_deliver_23 : decode cX3_deliver 23 = .ok (.invokevirtual 110, 3) := by decide +kernel
theorem dX3_deliver_26 : decode cX3_deliver 26 = .ok (.iconst 1, 1) := by decide +kernel
theorem dX3_deliver_27 : decode cX3_deliver 27 = .ok (.ireturn, 1) := by decide +kernel
theorem dX3_settle_0 : decode cX3_settle 0 = .ok (.iload_n 1, 1) := by decide +kernel
theorem dX3_settle_1 : decode cX3_settle 1 = .ok (.ifCond .ge 5, 3) := by decide +kernel
theorem dX3_settle_4 : decode cX3_settle 4 = .ok (.iconst (-1), 1) := by decide +kernel
theorem dX3_settle_5 : decode cX3_settle 5 = .ok (.ireturn, 1) := by decide +kernel
theorem dX3_settle_6 : decode cX3_settle 6 = .ok (.iconst 0, 1) := by decide +kernel
theorem dX3_settle_7 : decode cX3_settle 7 = .ok (.istore_n 2, 1) := by decide +kernel
theorem dX3_settle_8 : decode cX3_settle 8 = .ok (.iload_n 2, 1) := by decide +kernel
theorem dX3_settle_9 : decode cX3_settle 9 = .ok (.iload_n 1, 1) := by decide +kernel
theorem dX3_settle_10 : decode cX3_settle 10 = .ok (.if_icmp .ge 26, 3) := by decide +kernel
theorem dX3_settle_13 : decode cX3_settle 13 = .ok (.aload_n 0, 1) := by decide +kernel
theorem dX3_settle_14 : decode cX3_settle 14 = .ok (.invokevirtual 114, 3) := by decide +kernel
theorem dX3_settle_17 : decode cX3_settle 17 = .ok (.istore_n 3, 1) := by decide +kernel
theorem dX3_settle_18 : decode cX3_settle 18 = .ok (.iload_n 3, 1) := by decide +kernel
theorem dX3_settle_19 : decode cX3_settle 19 = .ok (.iconst (-1), 1) := by decide +kernel
theorem dX3_settle_20 : decode cX3_settle 20 = .ok (.if_icmp .ne 5, 3) := by decide +kernel
theorem dX3_settle_23 : decode cX3_settle 23 = .ok (.iload_n 2, 1) := by decide +kernel
theorem dX3_settle_24 : decode cX3_settle 24 = .ok (.ireturn, 1) := by decide +kernel
theorem dX3_settle_25 : decode cX3_settle 25 = .ok (.aload_n 0, 1) := by decide +kernel
theorem dX3_settle_26 : decode cX3_settle 26 = .ok (.iload_n 3, 1) := by decide +kernel
theorem dX3_settle_27 : decode cX3_settle 27 = .ok (.invokevirtual 110, 3) := by decide +kernel
theorem dX3_settle_30 : decode cX3_settle 30 = .ok (.iinc 2 1, 3) := by decide +kernel
theorem dX3_settle_33 : decode cX3_settle 33 = .ok (.goto (-25), 3) := by decide +kernel
theorem dX3_settle_36 : decode cX3_settle 36 = .ok (.iload_n 2, 1) := by decide +kernel
theorem dX3_settle_37 : decode cX3_settle 37 = .ok (.ireturn, 1) := by decide +kernel
theorem dX3_lose_0 : decode cX3_lose 0 = .ok (.aload_n 0, 1) := by decide +kernel
theorem dX3_lose_1 : decode cX3_lose 1 = .ok (.getfield 39, 3) := by decide +kernel
theorem dX3_lose_4 : decode cX3_lose 4 = .ok (.iload_n 1, 1) := by decide +kernel
theorem dX3_lose_5 : decode cX3_lose 5 = .ok (.invokevirtual 104, 3) := by decide +kernel
theorem dX3_lose_8 : decode cX3_lose 8 = .ok (.ifCond .ne 5, 3) := by decide +kernel
theorem dX3_lose_11 : decode cX3_lose 11 = .ok (.iconst 0, 1) := by decide +kernel
theorem dX3_lose_12 : decode cX3_lose 12 = .ok (.ireturn, 1) := by decide +kernel
theorem dX3_lose_13 : decode cX3_lose 13 = .ok (.aload_n 0, 1) := by decide +kernel
theorem dX3_lose_14 : decode cX3_lose 14 = .ok (.getfield 39, 3) := by decide +kernel
theorem dX3_lose_17 : decode cX3_lose 17 = .ok (.iload_n 1, 1) := by decide +kernel
theorem dX3_lose_18 : decode cX3_lose 18 = .ok (.invokevirtual 118, 3) := by decide +kernel
theorem dX3_lose_21 : decode cX3_lose 21 = .ok (.iconst 1, 1) := by decide +kernel
theorem dX3_lose_22 : decode cX3_lose 22 = .ok (.ireturn, 1) := by decide +kernel
theorem dX3_twice_0 : decode cX3_twice 0 = .ok (.aload_n 0, 1) := by decide +kernel
theorem dX3_twice_1 : decode cX3_twice 1 = .ok (.getfield 39, 3) := by decide +kernel
theorem dX3_twice_4 : decode cX3_twice 4 = .ok (.iload_n 1, 1) := by decide +kernel
theorem dX3_twice_5 : decode cX3_twice 5 = .ok (.invokevirtual 104, 3) := by decide +kernel
theorem dX3_twice_8 : decode cX3_twice 8 = .ok (.ifCond .eq 16, 3) := by decide +kernel
theorem dX3_twice_11 : decode cX3_twice 11 = .ok (.aload_n 0, 1) := by decide +kernel
theorem dX3_twice_12 : decode cX3_twice 12 = .ok (.getfield 39, 3) := by decide +kernel
theorem dX3_twice_15 : decode cX3_twice 15 = .ok (.getfield 121, 3) := by decide +kernel
theorem dX3_twice_18 : decode cX3_twice 18 = .ok (.sipush 400, 3) := by decide +kernel
theorem dX3_twice_21 : decode cX3_twice 21 = .ok (.if_icmp .lt 5, 3) := by decide +kernel
theorem dX3_twice_24 : decode cX3_twice 24 = .ok (.iconst 0, 1) := by decide +kernel
theorem dX3_twice_25 : decode cX3_twice 25 = .ok (.ireturn, 1) := by decide +kernel
theorem dX3_twice_26 : decode cX3_twice 26 = .ok (.aload_n 0, 1) := by decide +kernel
theorem dX3_twice_27 : decode cX3_twice 27 = .ok (.getfield 39, 3) := by decide +kernel
theorem dX3_twice_30 : decode cX3_twice 30 = .ok (.iload_n 1, 1) := by decide +kernel
theorem dX3_twice_31 : decode cX3_twice 31 = .ok (.invokevirtual 124, 3) := by decide +kernel
theorem dX3_twice_34 : decode cX3_twice 34 = .ok (.iconst 1, 1) := by decide +kernel
theorem dX3_twice_35 : decode cX3_twice 35 = .ok (.ireturn, 1) := by decide +kernel
theorem dX3_silent_0 : decode cX3_silent 0 = .ok (.aload_n 0, 1) := by decide +kernel
theorem dX3_silent_1 : decode cX3_silent 1 = .ok (.iload_n 1, 1) := by decide +kernel
theorem dX3_silent_2 : decode cX3_silent 2 = .ok (.invokevirtual 127, 3) := by decide +kernel
theorem dX3_silent_5 : decode cX3_silent 5 = .ok (.ifCond .ne 5, 3) := by decide +kernel
theorem dX3_silent_8 : decode cX3_silent 8 = .ok (.iconst 0, 1) := by decide +kernel
theorem dX3_silent_9 : decode cX3_silent 9 = .ok (.ireturn, 1) := by decide +kernel
theorem dX3_silent_10 : decode cX3_silent 10 = .ok (.iconst 1, 1) := by decide +kernel
theorem dX3_silent_11 : decode cX3_silent 11 = .ok (.iload_n 1, 1) := by decide +kernel
theorem dX3_silent_12 : decode cX3_silent 12 = .ok (.ishl, 1) := by decide +kernel
theorem dX3_silent_13 : decode cX3_silent 13 = .ok (.istore_n 3, 1) := by decide +kernel
theorem dX3_silent_14 : decode cX3_silent 14 = .ok (.aload_n 0, 1) := by decide +kernel
theorem dX3_silent_15 : decode cX3_silent 15 = .ok (.iload_n 2, 1) := by decide +kernel
theorem dX3_silent_16 : decode cX3_silent 16 = .ok (.ifCond .eq 12, 3) := by decide +kernel
theorem dX3_silent_19 : decode cX3_silent 19 = .ok (.aload_n 0, 1) := by decide +kernel
theorem dX3_silent_20 : decode cX3_silent 20 = .ok (.getfield 130, 3) := by decide +kernel
theorem dX3_silent_23 : decode cX3_silent 23 = .ok (.iload_n 3, 1) := by decide +kernel
theorem dX3_silent_24 : decode cX3_silent 24 = .ok (.ior, 1) := by decide +kernel
theorem dX3_silent_25 : decode cX3_silent 25 = .ok (.goto 11, 3) := by decide +kernel
theorem dX3_silent_28 : decode cX3_silent 28 = .ok (.aload_n 0, 1) := by decide +kernel
theorem dX3_silent_29 : decode cX3_silent 29 = .ok (.getfield 130, 3) := by decide +kernel
theorem dX3_silent_32 : decode cX3_silent 32 = .ok (.iload_n 3, 1) := by decide +kernel
theorem dX3_silent_33 : decode cX3_silent 33 = .ok (.iconst (-1), 1) := by decide +kernel
theorem dX3_silent_34 : decode cX3_silent 34 = .ok (.ixor, 1) := by decide +kernel
theorem dX3_silent_35 : decode cX3_silent 35 = .ok (.iand, 1) := by decide +kernel
theorem dX3_silent_36 : decode cX3_silent 36 = .ok (.putfield 130, 3) := by decide +kernel
theorem dX3_silent_39 : decode cX3_silent 39 = .ok (.iconst 1, 1) := by decide +kernel
theorem dX3_silent_40 : decode cX3_silent 40 = .ok (.ireturn, 1) := by decide +kernel
theorem dX3_promise_0 : decode cX3_promise 0 = .ok (.aload_n 0, 1) := by decide +kernel
theorem dX3_promise_1 : decode cX3_promise 1 = .ok (.iload_n 1, 1) := by decide +kernel
theorem dX3_promise_2 : decode cX3_promise 2 = .ok (.invokevirtual 127, 3) := by decide +kernel
theorem dX3_promise_5 : decode cX3_promise 5 = .ok (.ifCond .eq 12, 3) := by decide +kernel
theorem dX3_promise_8 : decode cX3_promise 8 = .ok (.aload_n 0, 1) := by decide +kernel
theorem dX3_promise_9 : decode cX3_promise 9 = .ok (.getfield 22, 3) := by decide +kernel
theorem dX3_promise_12 : decode cX3_promise 12 = .ok (.iload_n 1, 1) := by decide +kernel
theorem dX3_promise_13 : decode cX3_promise 13 = .ok (.iaload, 1) := by decide +kernel
theorem dX3_promise_14 : decode cX3_promise 14 = .ok (.goto 4, 3) := by decide +kernel
theorem dX3_promise_17 : decode cX3_promise 17 = .ok (.iconst (-1), 1) := by decide +kernel
theorem dX3_promise_18 : decode cX3_promise 18 = .ok (.ireturn, 1) := by decide +kernel
theorem dX3_vote_0 : decode cX3_vote 0 = .ok (.aload_n 0, 1) := by decide +kernel
theorem dX3_vote_1 : decode cX3_vote 1 = .ok (.iload_n 1, 1) := by decide +kernel
theorem dX3_vote_2 : decode cX3_vote 2 = .ok (.invokevirtual 127, 3) := by decide +kernel
theorem dX3_vote_5 : decode cX3_vote 5 = .ok (.ifCond .eq 23, 3) := by decide +kernel
theorem dX3_vote_8 : decode cX3_vote 8 = .ok (.iload_n 2, 1) := by decide +kernel
theorem dX3_vote_9 : decode cX3_vote 9 = .ok (.invokestatic 68, 3) := by decide +kernel
theorem dX3_vote_12 : decode cX3_vote 12 = .ok (.ifCond .eq 16, 3) := by decide +kernel
theorem dX3_vote_15 : decode cX3_vote 15 = .ok (.aload_n 0, 1) := by decide +kernel
theorem dX3_vote_16 : decode cX3_vote 16 = .ok (.getfield 26, 3) := by decide +kernel
theorem dX3_vote_19 : decode cX3_vote 19 = .ok (.iload_n 1, 1) := by decide +kernel
theorem dX3_vote_20 : decode cX3_vote 20 = .ok (.laload, 1) := by decide +kernel
theorem dX3_vote_21 : decode cX3_vote 21 = .ok (.iload_n 2, 1) := by decide +kernel
theorem dX3_vote_22 : decode cX3_vote 22 = .ok (.invokestatic 133, 3) := by decide +kernel
theorem dX3_vote_25 : decode cX3_vote 25 = .ok (.goto 4, 3) := by decide +kernel
theorem dX3_vote_28 : decode cX3_vote 28 = .ok (.iconst (-1), 1) := by decide +kernel
theorem dX3_vote_29 : decode cX3_vote 29 = .ok (.ireturn, 1) := by decide +kernel
theorem dX3_value_0 : decode cX3_value 0 = .ok (.aload_n 0, 1) := by decide +kernel
theorem dX3_value_1 : decode cX3_value 1 = .ok (.iload_n 1, 1) := by decide +kernel
theorem dX3_value_2 : decode cX3_value 2 = .ok (.invokevirtual 127, 3) := by decide +kernel
theorem dX3_value_5 : decode cX3_value 5 = .ok (.ifCond .eq 10, 3) := by decide +kernel
theorem dX3_value_8 : decode cX3_value 8 = .ok (.iload_n 2, 1) := by decide +kernel
theorem dX3_value_9 : decode cX3_value 9 = .ok (.invokestatic 68, 3) := by decide +kernel
theorem dX3_value_12 : decode cX3_value 12 = .ok (.ifCond .ne 5, 3) := by decide +kernel
theorem dX3_value_15 : decode cX3_value 15 = .ok (.lconst 0, 1) := by decide +kernel
theorem dX3_value_16 : decode cX3_value 16 = .ok (.lreturn, 1) := by decide +kernel
theorem dX3_value_17 : decode cX3_value 17 = .ok (.aload_n 0, 1) := by decide +kernel
theorem dX3_value_18 : decode cX3_value 18 = .ok (.aload_n 0, 1) := by decide +kernel
theorem dX3_value_19 : decode cX3_value 19 = .ok (.getfield 26, 3) := by decide +kernel
theorem dX3_value_22 : decode cX3_value 22 = .ok (.iload_n 1, 1) := by decide +kernel
theorem dX3_value_23 : decode cX3_value 23 = .ok (.laload, 1) := by decide +kernel
theorem dX3_value_24 : decode cX3_value 24 = .ok (.iload_n 2, 1) := by decide +kernel
theorem dX3_value_25 : decode cX3_value 25 = .ok (.invokestatic 133, 3) := by decide +kernel
theorem dX3_value_28 : decode cX3_value 28 = .ok (.invokevirtual 64, 3) := by decide +kernel
theorem dX3_value_31 : decode cX3_value 31 = .ok (.astore_n 3, 1) := by decide +kernel
theorem dX3_value_32 : decode cX3_value 32 = .ok (.aload_n 3, 1) := by decide +kernel
theorem dX3_value_33 : decode cX3_value 33 = .ok (.ifnonnull 7, 3) := by decide +kernel
theorem dX3_value_36 : decode cX3_value 36 = .ok (.lconst 0, 1) := by decide +kernel
theorem dX3_value_37 : decode cX3_value 37 = .ok (.goto 9, 3) := by decide +kernel
theorem dX3_value_40 : decode cX3_value 40 = .ok (.aload_n 3, 1) := by decide +kernel
theorem dX3_value_41 : decode cX3_value 41 = .ok (.getfield 81, 3) := by decide +kernel
theorem dX3_value_44 : decode cX3_value 44 = .ok (.iload_n 2, 1) := by decide +kernel
theorem dX3_value_45 : decode cX3_value 45 = .ok (.laload, 1) := by decide +kernel
theorem dX3_value_46 : decode cX3_value 46 = .ok (.lreturn, 1) := by decide +kernel
theorem dX3_of_0 : decode cX3_of 0 = .ok (.aload_n 0, 1) := by decide +kernel
theorem dX3_of_1 : decode cX3_of 1 = .ok (.iload_n 1, 1) := by decide +kernel
theorem dX3_of_2 : decode cX3_of 2 = .ok (.invokevirtual 64, 3) := by decide +kernel
theorem dX3_of_5 : decode cX3_of 5 = .ok (.astore_n 3, 1) := by decide +kernel
theorem dX3_of_6 : decode cX3_of 6 = .ok (.aload_n 3, 1) := by decide +kernel
theorem dX3_of_7 : decode cX3_of 7 = .ok (.ifnonnull 5, 3) := by decide +kernel
theorem dX3_of_10 : decode cX3_of 10 = .ok (.iconst (-1), 1) := by decide +kernel
theorem dX3_of_11 : decode cX3_of 11 = .ok (.ireturn, 1) := by decide +kernel
theorem dX3_of_12 : decode cX3_of 12 = .ok (.iload_n 2, 1) := by decide +kernel
theorem dX3_of_13 : decode cX3_of 13 = .ok (.tableswitch 96 0 8 #[51, 56, 61, 66, 71, 76, 81, 86, 91], 51) := by decide +kernel
theorem dX3_of_64 : decode cX3_of 64 = .ok (.aload_n 3, 1) := by decide +kernel
theorem dX3_of_65 : decode cX3_of 65 = .ok (.getfield 72, 3) := by decide +kernel
theorem dX3_of_68 : decode cX3_of 68 = .ok (.ireturn, 1) := by decide +kernel
theorem dX3_of_69 : decode cX3_of 69 = .ok (.aload_n 3, 1) := by decide +kernel
theorem dX3_of_70 : decode cX3_of 70 = .ok (.getfield 84, 3) := by decide +kernel
theorem dX3_of_73 : decode cX3_of 73 = .ok (.ireturn, 1) := by decide +kernel
theorem dX3_of_74 : decode cX3_of 74 = .ok (.aload_n 3, 1) := by decide +kernel
theorem dX3_of_75 : decode cX3_of 75 = .ok (.getfield 139, 3) := by decide +kernel
theorem dX3_of_78 : decode cX3_of 78 = .ok (.ireturn, 1) := by decide +kernel
theorem dX3_of_79 : decode cX3_of 79 = .ok (.aload_n 3, 1) := by decide +kernel
theorem dX3_of_80 : decode cX3_of 80 = .ok (.getfield 142, 3) := by decide +kernel
theorem dX3_of_83 : decode cX3_of 83 = .ok (.ireturn, 1) := by decide +kernel
theorem dX3_of_84 : decode cX3_of 84 = .ok (.aload_n 3, 1) := by decide +kernel
theorem dX3_of_85 : decode cX3_of 85 = .ok (.getfield 145, 3) := by decide +kernel
theorem dX3_of_88 : decode cX3_of 88 = .ok (.ireturn, 1) := by decide +kernel
theorem dX3_of_89 : decode cX3_of 89 = .ok (.aload_n 3, 1) := by decide +kernel
theorem dX3_of_90 : decode cX3_of 90 = .ok (.getfield 97, 3) := by decide +kernel
theorem dX3_of_93 : decode cX3_of 93 = .ok (.ireturn, 1) := by decide +kernel
theorem dX3_of_94 : decode cX3_of 94 = .ok (.aload_n 3, 1) := by decide +kernel
theorem dX3_of_95 : decode cX3_of 95 = .ok (.getfield 148, 3) := by decide +kernel
theorem dX3_of_98 : decode cX3_of 98 = .ok (.ireturn, 1) := by decide +kernel
theorem dX3_of_99 : decode cX3_of 99 = .ok (.aload_n 3, 1) := by decide +kernel
theorem dX3_of_100 : decode cX3_of 100 = .ok (.getfield 78, 3) := by decide +kernel
theorem dX3_of_103 : decode cX3_of 103 = .ok (.ireturn, 1) := by decide +kernel
theorem dX3_of_104 : decode cX3_of 104 = .ok (.aload_n 3, 1) := by decide +kernel
theorem dX3_of_105 : decode cX3_of 105 = .ok (.invokevirtual 151, 3) := by decide +kernel
theorem dX3_of_108 : decode cX3_of 108 = .ok (.ireturn, 1) := by decide +kernel
theorem dX3_of_109 : decode cX3_of 109 = .ok (.iconst (-1), 1) := by decide +kernel
theorem dX3_of_110 : decode cX3_of 110 = .ok (.ireturn, 1) := by decide +kernel
theorem dX3_answered_0 : decode cX3_answered 0 = .ok (.aload_n 0, 1) := by decide +kernel
theorem dX3_answered_1 : decode cX3_answered 1 = .ok (.iload_n 1, 1) := by decide +kernel
theorem dX3_answered_2 : decode cX3_answered 2 = .ok (.invokevirtual 64, 3) := by decide +kernel
theorem dX3_answered_5 : decode cX3_answered 5 = .ok (.astore_n 3, 1) := by decide +kernel
theorem dX3_answered_6 : decode cX3_answered 6 = .ok (.aload_n 3, 1) := by decide +kernel
theorem dX3_answered_7 : decode cX3_answered 7 = .ok (.ifnull 19, 3) := by decide +kernel
theorem dX3_answered_10 : decode cX3_answered 10 = .ok (.iload_n 2, 1) := by decide +kernel
theorem dX3_answered_11 : decode cX3_answered 11 = .ok (.invokestatic 68, 3) := by decide +kernel
theorem dX3_answered_14 : decode cX3_answered 14 = .ok (.ifCond .eq 12, 3) := by decide +kernel
theorem dX3_answered_17 : decode cX3_answered 17 = .ok (.aload_n 3, 1) := by decide +kernel
theorem dX3_answered_18 : decode cX3_answered 18 = .ok (.getfield 154, 3) := by decide +kernel
theorem dX3_answered_21 : decode cX3_answered 21 = .ok (.iload_n 2, 1) := by decide +kernel
theorem dX3_answered_22 : decode cX3_answered 22 = .ok (.iaload, 1) := by decide +kernel
theorem dX3_answered_23 : decode cX3_answered 23 = .ok (.goto 4, 3) := by decide +kernel
theorem dX3_answered_26 : decode cX3_answered 26 = .ok (.iconst (-1), 1) := by decide +kernel
theorem dX3_answered_27 : decode cX3_answered 27 = .ok (.ireturn, 1) := by decide +kernel
theorem dX3_said_0 : decode cX3_said 0 = .ok (.aload_n 0, 1) := by decide +kernel
theorem dX3_said_1 : decode cX3_said 1 = .ok (.iload_n 1, 1) := by decide +kernel
theorem dX3_said_2 : decode cX3_said 2 = .ok (.invokevirtual 64, 3) := by decide +kernel
theorem dX3_said_5 : decode cX3_said 5 = .ok (.astore_n 3, 1) := by decide +kernel
theorem dX3_said_6 : decode cX3_said 6 = .ok (.aload_n 3, 1) := by decide +kernel
theorem dX3_said_7 : decode cX3_said 7 = .ok (.ifnull 19, 3) := by decide +kernel
theorem dX3_said_10 : decode cX3_said 10 = .ok (.iload_n 2, 1) := by decide +kernel
theorem dX3_said_11 : decode cX3_said 11 = .ok (.invokestatic 68, 3) := by decide +kernel
theorem dX3_said_14 : decode cX3_said 14 = .ok (.ifCond .eq 12, 3) := by decide +kernel
theorem dX3_said_17 : decode cX3_said 17 = .ok (.aload_n 3, 1) := by decide +kernel
theorem dX3_said_18 : decode cX3_said 18 = .ok (.getfield 81, 3) := by decide +kernel
theorem dX3_said_21 : decode cX3_said 21 = .ok (.iload_n 2, 1) := by decide +kernel
theorem dX3_said_22 : decode cX3_said 22 = .ok (.laload, 1) := by decide +kernel
theorem dX3_said_23 : decode cX3_said 23 = .ok (.goto 4, 3) := by decide +kernel
theorem dX3_said_26 : decode cX3_said 26 = .ok (.lconst 0, 1) := by decide +kernel
theorem dX3_said_27 : decode cX3_said 27 = .ok (.lreturn, 1) := by decide +kernel
theorem dX3_chosen_0 : decode cX3_chosen 0 = .ok (.aload_n 0, 1) := by decide +kernel
theorem dX3_chosen_1 : decode cX3_chosen 1 = .ok (.iload_n 1, 1) := by decide +kernel
theorem dX3_chosen_2 : decode cX3_chosen 2 = .ok (.invokevirtual 157, 3) := by decide +kernel
theorem dX3_chosen_5 : decode cX3_chosen 5 = .ok (.astore_n 2, 1) := by decide +kernel
theorem dX3_chosen_6 : decode cX3_chosen 6 = .ok (.aload_n 2, 1) := by decide +kernel
theorem dX3_chosen_7 : decode cX3_chosen 7 = .ok (.ifnonnull 7, 3) := by decide +kernel
theorem dX3_chosen_10 : decode cX3_chosen 10 = .ok (.iconst (-1), 1) := by decide +kernel
theorem dX3_chosen_11 : decode cX3_chosen 11 = .ok (.goto 7, 3) := by decide +kernel
theorem dX3_chosen_14 : decode cX3_chosen 14 = .ok (.aload_n 2, 1) := by decide +kernel
theorem dX3_chosen_15 : decode cX3_chosen 15 = .ok (.getfield 91, 3) := by decide +kernel
theorem dX3_chosen_18 : decode cX3_chosen 18 = .ok (.ireturn, 1) := by decide +kernel
theorem dX3_chosenValue_0 : decode cX3_chosenValue 0 = .ok (.aload_n 0, 1) := by decide +kernel
theorem dX3_chosenValue_1 : decode cX3_chosenValue 1 = .ok (.iload_n 1, 1) := by decide +kernel
theorem dX3_chosenValue_2 : decode cX3_chosenValue 2 = .ok (.invokevirtual 157, 3) := by decide +kernel
theorem dX3_chosenValue_5 : decode cX3_chosenValue 5 = .ok (.astore_n 2, 1) := by decide +kernel
theorem dX3_chosenValue_6 : decode cX3_chosenValue 6 = .ok (.aload_n 2, 1) := by decide +kernel
theorem dX3_chosenValue_7 : decode cX3_chosenValue 7 = .ok (.ifnull 10, 3) := by decide +kernel
theorem dX3_chosenValue_10 : decode cX3_chosenValue 10 = .ok (.iload_n 1, 1) := by decide +kernel
theorem dX3_chosenValue_11 : decode cX3_chosenValue 11 = .ok (.invokestatic 68, 3) := by decide +kernel
theorem dX3_chosenValue_14 : decode cX3_chosenValue 14 = .ok (.ifCond .ne 7, 3) := by decide +kernel
theorem dX3_chosenValue_17 : decode cX3_chosenValue 17 = .ok (.lconst 0, 1) := by decide +kernel
theorem dX3_chosenValue_18 : decode cX3_chosenValue 18 = .ok (.goto 9, 3) := by decide +kernel
theorem dX3_chosenValue_21 : decode cX3_chosenValue 21 = .ok (.aload_n 2, 1) := by decide +kernel
theorem dX3_chosenValue_22 : decode cX3_chosenValue 22 = .ok (.getfield 81, 3) := by decide +kernel
theorem dX3_chosenValue_25 : decode cX3_chosenValue 25 = .ok (.iload_n 1, 1) := by decide +kernel
theorem dX3_chosenValue_26 : decode cX3_chosenValue 26 = .ok (.laload, 1) := by decide +kernel
theorem dX3_chosenValue_27 : decode cX3_chosenValue 27 = .ok (.lreturn, 1) := by decide +kernel
theorem dX3_isOne_0 : decode cX3_isOne 0 = .ok (.aload_n 0, 1) := by decide +kernel
theorem dX3_isOne_1 : decode cX3_isOne 1 = .ok (.iload_n 1, 1) := by decide +kernel
theorem dX3_isOne_2 : decode cX3_isOne 2 = .ok (.invokevirtual 157, 3) := by decide +kernel
theorem dX3_isOne_5 : decode cX3_isOne 5 = .ok (.astore_n 2, 1) := by decide +kernel
theorem dX3_isOne_6 : decode cX3_isOne 6 = .ok (.aload_n 2, 1) := by decide +kernel
theorem dX3_isOne_7 : decode cX3_isOne 7 = .ok (.ifnull 10, 3) := by decide +kernel
theorem dX3_isOne_10 : decode cX3_isOne 10 = .ok (.iload_n 1, 1) := by decide +kernel
theorem dX3_isOne_11 : decode cX3_isOne 11 = .ok (.invokestatic 68, 3) := by decide +kernel
theorem dX3_isOne_14 : decode cX3_isOne 14 = .ok (.ifCond .ne 5, 3) := by decide +kernel
theorem dX3_isOne_17 : decode cX3_isOne 17 = .ok (.iconst 1, 1) := by decide +kernel
theorem dX3_isOne_18 : decode cX3_isOne 18 = .ok (.ireturn, 1) := by decide +kernel
theorem dX3_isOne_19 : decode cX3_isOne 19 = .ok (.aload_n 2, 1) := by decide +kernel
theorem dX3_isOne_20 : decode cX3_isOne 20 = .ok (.getfield 91, 3) := by decide +kernel
theorem dX3_isOne_23 : decode cX3_isOne 23 = .ok (.iconst 1, 1) := by decide +kernel
theorem dX3_isOne_24 : decode cX3_isOne 24 = .ok (.iadd, 1) := by decide +kernel
theorem dX3_isOne_25 : decode cX3_isOne 25 = .ok (.istore_n 3, 1) := by decide +kernel
theorem dX3_isOne_26 : decode cX3_isOne 26 = .ok (.iload_n 3, 1) := by decide +kernel
theorem dX3_isOne_27 : decode cX3_isOne 27 = .ok (.aload_n 0, 1) := by decide +kernel
theorem dX3_isOne_28 : decode cX3_isOne 28 = .ok (.getfield 43, 3) := by decide +kernel
theorem dX3_isOne_31 : decode cX3_isOne 31 = .ok (.if_icmp .gt 49, 3) := by decide +kernel
theorem dX3_isOne_34 : decode cX3_isOne 34 = .ok (.aload_n 0, 1) := by decide +kernel
theorem dX3_isOne_35 : decode cX3_isOne 35 = .ok (.iload_n 3, 1) := by decide +kernel
theorem dX3_isOne_36 : decode cX3_isOne 36 = .ok (.invokevirtual 64, 3) := by decide +kernel
theorem dX3_isOne_39 : decode cX3_isOne 39 = .ok (.astore 4, 2) := by decide +kernel
theorem dX3_isOne_41 : decode cX3_isOne 41 = .ok (.aload 4, 2) := by decide +kernel
theorem dX3_isOne_43 : decode cX3_isOne 43 = .ok (.ifnull 31, 3) := by decide +kernel
theorem dX3_isOne_46 : decode cX3_isOne 46 = .ok (.aload 4, 2) := by decide +kernel
theorem dX3_isOne_48 : decode cX3_isOne 48 = .ok (.iload_n 1, 1) := by decide +kernel
theorem dX3_isOne_49 : decode cX3_isOne 49 = .ok (.invokevirtual 160, 3) := by decide +kernel
theorem dX3_isOne_52 : decode cX3_isOne 52 = .ok (.ifCond .eq 22, 3) := by decide +kernel
theorem dX3_isOne_55 : decode cX3_isOne 55 = .ok (.aload 4, 2) := by decide +kernel
theorem dX3_isOne_57 : decode cX3_isOne 57 = .ok (.getfield 81, 3) := by decide +kernel
theorem dX3_isOne_60 : decode cX3_isOne 60 = .ok (.iload_n 1, 1) := by decide +kernel
theorem dX3_isOne_61 : decode cX3_isOne 61 = .ok (.laload, 1) := by decide +kernel
theorem dX3_isOne_62 : decode cX3_isOne 62 = .ok (.aload_n 2, 1) := by decide +kernel
theorem dX3_isOne_63 : decode cX3_isOne 63 = .ok (.getfield 81, 3) := by decide +kernel
theorem dX3_isOne_66 : decode cX3_isOne 66 = .ok (.iload_n 1, 1) := by decide +kernel
theorem dX3_isOne_67 : decode cX3_isOne 67 = .ok (.laload, 1) := by decide +kernel
theorem dX3_isOne_68 : decode cX3_isOne 68 = .ok (.lcmp, 1) := by decide +kernel
theorem dX3_isOne_69 : decode cX3_isOne 69 = .ok (.ifCond .eq 5, 3) := by decide +kernel
theorem dX3_isOne_72 : decode cX3_isOne 72 = .ok (.iconst 0, 1) := by decide +kernel
theorem dX3_isOne_73 : decode cX3_isOne 73 = .ok (.ireturn, 1) := by decide +kernel
theorem dX3_isOne_74 : decode cX3_isOne 74 = .ok (.iinc 3 1, 3) := by decide +kernel
theorem dX3_isOne_77 : decode cX3_isOne 77 = .ok (.goto (-51), 3) := by decide +kernel
theorem dX3_isOne_80 : decode cX3_isOne 80 = .ok (.iconst 1, 1) := by decide +kernel
theorem dX3_isOne_81 : decode cX3_isOne 81 = .ok (.ireturn, 1) := by decide +kernel
theorem dX3_air_0 : decode cX3_air 0 = .ok (.aload_n 0, 1) := by decide +kernel
theorem dX3_air_1 : decode cX3_air 1 = .ok (.getfield 39, 3) := by decide +kernel
theorem dX3_air_4 : decode cX3_air 4 = .ok (.iload_n 1, 1) := by decide +kernel
theorem dX3_air_5 : decode cX3_air 5 = .ok (.invokevirtual 104, 3) := by decide +kernel
theorem dX3_air_8 : decode cX3_air 8 = .ok (.ifCond .ne 5, 3) := by decide +kernel
theorem dX3_air_11 : decode cX3_air 11 = .ok (.iconst (-1), 1) := by decide +kernel
theorem dX3_air_12 : decode cX3_air 12 = .ok (.ireturn, 1) := by decide +kernel
theorem dX3_air_13 : decode cX3_air 13 = .ok (.iload_n 2, 1) := by decide +kernel
theorem dX3_air_14 : decode cX3_air 14 = .ok (.tableswitch 87 0 4 #[34, 44, 54, 64, 74], 34) := by decide +kernel
theorem dX3_air_48 : decode cX3_air 48 = .ok (.aload_n 0, 1) := by decide +kernel
theorem dX3_air_49 : decode cX3_air 49 = .ok (.getfield 39, 3) := by decide +kernel
theorem dX3_air_52 : decode cX3_air 52 = .ok (.getfield 163, 3) := by decide +kernel
theorem dX3_air_55 : decode cX3_air 55 = .ok (.iload_n 1, 1) := by decide +kernel
theorem dX3_air_56 : decode cX3_air 56 = .ok (.iaload, 1) := by decide +kernel
theorem dX3_air_57 : decode cX3_air 57 = .ok (.ireturn, 1) := by decide +kernel
theorem dX3_air_58 : decode cX3_air 58 = .ok (.aload_n 0, 1) := by decide +kernel
theorem dX3_air_59 : decode cX3_air 59 = .ok (.getfield 39, 3) := by decide +kernel
theorem dX3_air_62 : decode cX3_air 62 = .ok (.getfield 166, 3) := by decide +kernel
theorem dX3_air_65 : decode cX3_air 65 = .ok (.iload_n 1, 1) := by decide +kernel
theorem dX3_air_66 : decode cX3_air 66 = .ok (.iaload, 1) := by decide +kernel
theorem dX3_air_67 : decode cX3_air 67 = .ok (.ireturn, 1) := by decide +kernel
theorem dX3_air_68 : decode cX3_air 68 = .ok (.aload_n 0, 1) := by decide +kernel
theorem dX3_air_69 : decode cX3_air 69 = .ok (.getfield 39, 3) := by decide +kernel
theorem dX3_air_72 : decode cX3_air 72 = .ok (.getfield 169, 3) := by decide +kernel
theorem dX3_air_75 : decode cX3_air 75 = .ok (.iload_n 1, 1) := by decide +kernel
theorem dX3_air_76 : decode cX3_air 76 = .ok (.iaload, 1) := by decide +kernel
theorem dX3_air_77 : decode cX3_air 77 = .ok (.ireturn, 1) := by decide +kernel
theorem dX3_air_78 : decode cX3_air 78 = .ok (.aload_n 0, 1) := by decide +kernel
theorem dX3_air_79 : decode cX3_air 79 = .ok (.getfield 39, 3) := by decide +kernel
theorem dX3_air_82 : decode cX3_air 82 = .ok (.getfield 172, 3) := by decide +kernel
theorem dX3_air_85 : decode cX3_air 85 = .ok (.iload_n 1, 1) := by decide +kernel
theorem dX3_air_86 : decode cX3_air 86 = .ok (.iaload, 1) := by decide +kernel
theorem dX3_air_87 : decode cX3_air 87 = .ok (.ireturn, 1) := by decide +kernel
theorem dX3_air_88 : decode cX3_air 88 = .ok (.aload_n 0, 1) := by decide +kernel
theorem dX3_air_89 : decode cX3_air 89 = .ok (.getfield 39, 3) := by decide +kernel
theorem dX3_air_92 : decode cX3_air 92 = .ok (.getfield 175, 3) := by decide +kernel
theorem dX3_air_95 : decode cX3_air 95 = .ok (.iload_n 1, 1) := by decide +kernel
theorem dX3_air_96 : decode cX3_air 96 = .ok (.laload, 1) := by decide +kernel
theorem dX3_air_97 : decode cX3_air 97 = .ok (.invokestatic 176, 3) := by decide +kernel
theorem dX3_air_100 : decode cX3_air 100 = .ok (.ireturn, 1) := by decide +kernel
theorem dX3_air_101 : decode cX3_air 101 = .ok (.iconst (-1), 1) := by decide +kernel
theorem dX3_air_102 : decode cX3_air 102 = .ok (.ireturn, 1) := by decide +kernel
theorem dX3_about_0 : decode cX3_about 0 = .ok (.iload_n 1, 1) := by decide +kernel
theorem dX3_about_1 : decode cX3_about 1 = .ok (.tableswitch 66 0 4 #[35, 40, 45, 50, 58], 35) := by decide +kernel
theorem dX3_about_36 : decode cX3_about 36 = .ok (.aload_n 0, 1) := by decide +kernel
theorem dX3_about_37 : decode cX3_about 37 = .ok (.getfield 18, 3) := by decide +kernel
theorem dX3_about_40 : decode cX3_about 40 = .ok (.ireturn, 1) := by decide +kernel
theorem dX3_about_41 : decode cX3_about 41 = .ok (.aload_n 0, 1) := by decide +kernel
theorem dX3_about_42 : decode cX3_about 42 = .ok (.getfield 43, 3) := by decide +kernel
theorem dX3_about_45 : decode cX3_about 45 = .ok (.ireturn, 1) := by decide +kernel
theorem dX3_about_46 : decode cX3_about 46 = .ok (.aload_n 0, 1) := by decide +kernel
theorem dX3_about_47 : decode cX3_about 47 = .ok (.getfield 50, 3) := by decide +kernel
theorem dX3_about_50 : decode cX3_about 50 = .ok (.ireturn, 1) := by decide +kernel
theorem dX3_about_51 : decode cX3_about 51 = .ok (.aload_n 0, 1) := by decide +kernel
theorem dX3_about_52 : decode cX3_about 52 = .ok (.getfield 39, 3) := by decide +kernel
theorem dX3_about_55 : decode cX3_about 55 = .ok (.getfield 121, 3) := by decide +kernel
theorem dX3_about_58 : decode cX3_about 58 = .ok (.ireturn, 1) := by decide +kernel
theorem dX3_about_59 : decode cX3_about 59 = .ok (.aload_n 0, 1) := by decide +kernel
theorem dX3_about_60 : decode cX3_about 60 = .ok (.getfield 39, 3) := by decide +kernel
theorem dX3_about_63 : decode cX3_about 63 = .ok (.getfield 180, 3) := by decide +kernel
theorem dX3_about_66 : decode cX3_about 66 = .ok (.ireturn, 1) := by decide +kernel
theorem dX3_about_67 : decode cX3_about 67 = .ok (.iconst (-1), 1) := by decide +kernel
theorem dX3_about_68 : decode cX3_about 68 = .ok (.ireturn, 1) := by decide +kernel
theorem dX3_isVoter_0 : decode cX3_isVoter 0 = .ok (.iload_n 1, 1) := by decide +kernel
theorem dX3_isVoter_1 : decode cX3_isVoter 1 = .ok (.ifCond .lt 15, 3) := by decide +kernel
theorem dX3_isVoter_4 : decode cX3_isVoter 4 = .ok (.iload_n 1, 1) := by decide +kernel
theorem dX3_isVoter_5 : decode cX3_isVoter 5 = .ok (.aload_n 0, 1) := by decide +kernel
theorem dX3_isVoter_6 : decode cX3_isVoter 6 = .ok (.getfield 18, 3) := by decide +kernel
theorem dX3_isVoter_9 : decode cX3_isVoter 9 = .ok (.if_icmp .ge 7, 3) := by decide +kernel
theorem dX3_isVoter_12 : decode cX3_isVoter 12 = .ok (.iconst 1, 1) := by decide +kernel
theorem dX3_isVoter_13 : decode cX3_isVoter 13 = .ok (.goto 4, 3) := by decide +kernel
theorem dX3_isVoter_16 : decode cX3_isVoter 16 = .ok (.iconst 0, 1) := by decide +kernel
theorem dX3_isVoter_17 : decode cX3_isVoter 17 = .ok (.ireturn, 1) := by decide +kernel
theorem dX3_isPlace_0 : decode cX3_isPlace 0 = .ok (.iload_n 0, 1) := by decide +kernel
theorem dX3_isPlace_1 : decode cX3_isPlace 1 = .ok (.ifCond .lt 13, 3) := by decide +kernel
theorem dX3_isPlace_4 : decode cX3_isPlace 4 = .ok (.iload_n 0, 1) := by decide +kernel
theorem dX3_isPlace_5 : decode cX3_isPlace 5 = .ok (.bipush 8, 2) := by decide +kernel
theorem dX3_isPlace_7 : decode cX3_isPlace 7 = .ok (.if_icmp .ge 7, 3) := by decide +kernel
theorem dX3_isPlace_10 : decode cX3_isPlace 10 = .ok (.iconst 1, 1) := by decide +kernel
theorem dX3_isPlace_11 : decode cX3_isPlace 11 = .ok (.goto 4, 3) := by decide +kernel
theorem dX3_isPlace_14 : decode cX3_isPlace 14 = .ok (.iconst 0, 1) := by decide +kernel
theorem dX3_isPlace_15 : decode cX3_isPlace 15 = .ok (.ireturn, 1) := by decide +kernel
theorem dX3_find_0 : decode cX3_find 0 = .ok (.iload_n 1, 1) := by decide +kernel
theorem dX3_find_1 : decode cX3_find 1 = .ok (.iconst 1, 1) := by decide +kernel
theorem dX3_find_2 : decode cX3_find 2 = .ok (.if_icmp .lt 28, 3) := by decide +kernel
theorem dX3_find_5 : decode cX3_find 5 = .ok (.iload_n 1, 1) := by decide +kernel
theorem dX3_find_6 : decode cX3_find 6 = .ok (.aload_n 0, 1) := by decide +kernel
theorem dX3_find_7 : decode cX3_find 7 = .ok (.getfield 43, 3) := by decide +kernel
theorem dX3_find_10 : decode cX3_find 10 = .ok (.if_icmp .gt 20, 3) := by decide +kernel
theorem dX3_find_13 : decode cX3_find 13 = .ok (.iload_n 1, 1) := by decide +kernel
theorem dX3_find_14 : decode cX3_find 14 = .ok (.bipush 24, 2) := by decide +kernel
theorem dX3_find_16 : decode cX3_find 16 = .ok (.if_icmp .gt 14, 3) := by decide +kernel
theorem dX3_find_19 : decode cX3_find 19 = .ok (.aload_n 0, 1) := by decide +kernel
theorem dX3_find_20 : decode cX3_find 20 = .ok (.getfield 32, 3) := by decide +kernel
theorem dX3_find_23 : decode cX3_find 23 = .ok (.iload_n 1, 1) := by decide +kernel
theorem dX3_find_24 : decode cX3_find 24 = .ok (.iconst 1, 1) := by decide +kernel
theorem dX3_find_25 : decode cX3_find 25 = .ok (.isub, 1) := by decide +kernel
theorem dX3_find_26 : decode cX3_find 26 = .ok (.aaload, 1) := by decide +kernel
theorem dX3_find_27 : decode cX3_find 27 = .ok (.goto 4, 3) := by decide +kernel
theorem dX3_find_30 : decode cX3_find 30 = .ok (.aconst_null, 1) := by decide +kernel
theorem dX3_find_31 : decode cX3_find 31 = .ok (.areturn, 1) := by decide +kernel
theorem dX3_canBe_0 : decode cX3_canBe 0 = .ok (.iload_n 1, 1) := by decide +kernel
theorem dX3_canBe_1 : decode cX3_canBe 1 = .ok (.iconst 1, 1) := by decide +kernel
theorem dX3_canBe_2 : decode cX3_canBe 2 = .ok (.if_icmp .lt 13, 3) := by decide +kernel
theorem dX3_canBe_5 : decode cX3_canBe 5 = .ok (.iload_n 1, 1) := by decide +kernel
theorem dX3_canBe_6 : decode cX3_canBe 6 = .ok (.iconst 1, 1) := by decide +kernel
theorem dX3_canBe_7 : decode cX3_canBe 7 = .ok (.aload_n 0, 1) := by decide +kernel
theorem dX3_canBe_8 : decode cX3_canBe 8 = .ok (.getfield 18, 3) := by decide +kernel
theorem dX3_canBe_11 : decode cX3_canBe 11 = .ok (.ishl, 1) := by decide +kernel
theorem dX3_canBe_12 : decode cX3_canBe 12 = .ok (.if_icmp .lt 5, 3) := by decide +kernel
theorem dX3_canBe_15 : decode cX3_canBe 15 = .ok (.iconst 0, 1) := by decide +kernel
theorem dX3_canBe_16 : decode cX3_canBe 16 = .ok (.ireturn, 1) := by decide +kernel
theorem dX3_canBe_17 : decode cX3_canBe 17 = .ok (.iload_n 1, 1) := by decide +kernel
theorem dX3_canBe_18 : decode cX3_canBe 18 = .ok (.invokestatic 183, 3) := by decide +kernel
theorem dX3_canBe_21 : decode cX3_canBe 21 = .ok (.istore 4, 2) := by decide +kernel
theorem dX3_canBe_23 : decode cX3_canBe 23 = .ok (.iload_n 2, 1) := by decide +kernel
theorem dX3_canBe_24 : decode cX3_canBe 24 = .ok (.iconst 1, 1) := by decide +kernel
theorem dX3_canBe_25 : decode cX3_canBe 25 = .ok (.if_icmp .lt 32, 3) := by decide +kernel
theorem dX3_canBe_28 : decode cX3_canBe 28 = .ok (.iload_n 2, 1) := by decide +kernel
theorem dX3_canBe_29 : decode cX3_canBe 29 = .ok (.iload 4, 2) := by decide +kernel
theorem dX3_canBe_31 : decode cX3_canBe 31 = .ok (.if_icmp .gt 26, 3) := by decide +kernel
theorem dX3_canBe_34 : decode cX3_canBe 34 = .ok (.iload_n 3, 1) := by decide +kernel
theorem dX3_canBe_35 : decode cX3_canBe 35 = .ok (.iconst 1, 1) := by decide +kernel
theorem dX3_canBe_36 : decode cX3_canBe 36 = .ok (.if_icmp .lt 21, 3) := by decide +kernel
theorem dX3_canBe_39 : decode cX3_canBe 39 = .ok (.iload_n 3, 1) := by decide +kernel
theorem dX3_canBe_40 : decode cX3_canBe 40 = .ok (.iload 4, 2) := by decide +kernel
theorem dX3_canBe_42 : decode cX3_canBe 42 = .ok (.if_icmp .gt 15, 3) := by decide +kernel
theorem dX3_canBe_45 : decode cX3_canBe 45 = .ok (.iload_n 2, 1) := by decide +kernel
theorem dX3_canBe_46 : decode cX3_canBe 46 = .ok (.iload_n 3, 1) := by decide +kernel
theorem dX3_canBe_47 : decode cX3_canBe 47 = .ok (.iadd, 1) := by decide +kernel
theorem dX3_canBe_48 : decode cX3_canBe 48 = .ok (.iload 4, 2) := by decide +kernel
theorem dX3_canBe_50 : decode cX3_canBe 50 = .ok (.if_icmp .le 7, 3) := by decide +kernel
theorem dX3_canBe_53 : decode cX3_canBe 53 = .ok (.iconst 1, 1) := by decide +kernel
theorem dX3_canBe_54 : decode cX3_canBe 54 = .ok (.goto 4, 3) := by decide +kernel
theorem dX3_canBe_57 : decode cX3_canBe 57 = .ok (.iconst 0, 1) := by decide +kernel
theorem dX3_canBe_58 : decode cX3_canBe 58 = .ok (.ireturn, 1) := by decide +kernel
theorem dX3_membersFrom_0 : decode cX3_membersFrom 0 = .ok (.iconst 0, 1) := by decide +kernel
theorem dX3_membersFrom_1 : decode cX3_membersFrom 1 = .ok (.istore_n 2, 1) := by decide +kernel
theorem dX3_membersFrom_2 : decode cX3_membersFrom 2 = .ok (.iload_n 1, 1) := by decide +kernel
theorem dX3_membersFrom_3 : decode cX3_membersFrom 3 = .ok (.istore_n 3, 1) := by decide +kernel
theorem dX3_membersFrom_4 : decode cX3_membersFrom 4 = .ok (.iload_n 3, 1) := by decide +kernel
theorem dX3_membersFrom_5 : decode cX3_membersFrom 5 = .ok (.aload_n 0, 1) := by decide +kernel
theorem dX3_membersFrom_6 : decode cX3_membersFrom 6 = .ok (.getfield 43, 3) := by decide +kernel
theorem dX3_membersFrom_9 : decode cX3_membersFrom 9 = .ok (.if_icmp .gt 29, 3) := by decide +kernel
theorem dX3_membersFrom_12 : decode cX3_membersFrom 12 = .ok (.aload_n 0, 1) := by decide +kernel
theorem dX3_membersFrom_13 : decode cX3_membersFrom 13 = .ok (.iload_n 3, 1) := by decide +kernel
theorem dX3_membersFrom_14 : decode cX3_membersFrom 14 = .ok (.invokevirtual 64, 3) := by decide +kernel
theorem dX3_membersFrom_17 : decode cX3_membersFrom 17 = .ok (.astore 4, 2) := by decide +kernel
theorem dX3_membersFrom_19 : decode cX3_membersFrom 19 = .ok (.aload 4, 2) := by decide +kernel
theorem dX3_membersFrom_21 : decode cX3_membersFrom 21 = .ok (.ifnull 11, 3) := by decide +kernel
theorem dX3_membersFrom_24 : decode cX3_membersFrom 24 = .ok (.iload_n 2, 1) := by decide +kernel
theorem dX3_membersFrom_25 : decode cX3_membersFrom 25 = .ok (.aload 4, 2) := by decide +kernel
theorem dX3_membersFrom_27 : decode cX3_membersFrom 27 = .ok (.getfield 84, 3) := by decide +kernel
theorem dX3_membersFrom_30 : decode cX3_membersFrom 30 = .ok (.ior, 1) := by decide +kernel
theorem dX3_membersFrom_31 : decode cX3_membersFrom 31 = .ok (.istore_n 2, 1) := by decide +kernel
theorem dX3_membersFrom_32 : decode cX3_membersFrom 32 = .ok (.iinc 3 1, 3) := by decide +kernel
theorem dX3_membersFrom_35 : decode cX3_membersFrom 35 = .ok (.goto (-31), 3) := by decide +kernel
theorem dX3_membersFrom_38 : decode cX3_membersFrom 38 = .ok (.iload_n 2, 1) := by decide +kernel
theorem dX3_membersFrom_39 : decode cX3_membersFrom 39 = .ok (.ireturn, 1) := by decide +kernel
theorem dX3_firstThatChose_0 : decode cX3_firstThatChose 0 = .ok (.iload_n 1, 1) := by decide +kernel
theorem dX3_firstThatChose_1 : decode cX3_firstThatChose 1 = .ok (.invokestatic 68, 3) := by decide +kernel
theorem dX3_firstThatChose_4 : decode cX3_firstThatChose 4 = .ok (.ifCond .ne 5, 3) := by decide +kernel
theorem dX3_firstThatChose_7 : decode cX3_firstThatChose 7 = .ok (.aconst_null, 1) := by decide +kernel
theorem dX3_firstThatChose_8 : decode cX3_firstThatChose 8 = .ok (.areturn, 1) := by decide +kernel
theorem dX3_firstThatChose_9 : decode cX3_firstThatChose 9 = .ok (.iconst 1, 1) := by decide +kernel
theorem dX3_firstThatChose_10 : decode cX3_firstThatChose 10 = .ok (.istore_n 2, 1) := by decide +kernel
theorem dX3_firstThatChose_11 : decode cX3_firstThatChose 11 = .ok (.iload_n 2, 1) := by decide +kernel
theorem dX3_firstThatChose_12 : decode cX3_firstThatChose 12 = .ok (.aload_n 0, 1) := by decide +kernel
theorem dX3_firstThatChose_13 : decode cX3_firstThatChose 13 = .ok (.getfield 43, 3) := by decide +kernel
theorem dX3_firstThatChose_16 : decode cX3_firstThatChose 16 = .ok (.if_icmp .gt 29, 3) := by decide +kernel
theorem dX3_firstThatChose_19 : decode cX3_firstThatChose 19 = .ok (.aload_n 0, 1) := by decide +kernel
theorem dX3_firstThatChose_20 : decode cX3_firstThatChose 20 = .ok (.iload_n 2, 1) := by decide +kernel
theorem dX3_firstThatChose_21 : decode cX3_firstThatChose 21 = .ok (.invokevirtual 64, 3) := by decide +kernel
theorem dX3_firstThatChose_24 : decode cX3_firstThatChose 24 = .ok (.astore_n 3, 1) := by decide +kernel
theorem dX3_firstThatChose_25 : decode cX3_firstThatChose 25 = .ok (.aload_n 3, 1) := by decide +kernel
theorem dX3_firstThatChose_26 : decode cX3_firstThatChose 26 = .ok (.ifnull 13, 3) := by decide +kernel
theorem dX3_firstThatChose_29 : decode cX3_firstThatChose 29 = .ok (.aload_n 3, 1) := by decide +kernel
theorem dX3_firstThatChose_30 : decode cX3_firstThatChose 30 = .ok (.iload_n 1, 1) := by decide +kernel
theorem dX3_firstThatChose_31 : decode cX3_firstThatChose 31 = .ok (.invokevirtual 160, 3) := by decide +kernel
theorem dX3_firstThatChose_34 : decode cX3_firstThatChose 34 = .ok (.ifCond .eq 5, 3) := by decide +kernel
theorem dX3_firstThatChose_37 : decode cX3_firstThatChose 37 = .ok (.aload_n 3, 1) := by decide +kernel
theorem dX3_firstThatChose_38 : decode cX3_firstThatChose 38 = .ok (.areturn, 1) := by decide +kernel
theorem dX3_firstThatChose_39 : decode cX3_firstThatChose 39 = .ok (.iinc 2 1, 3) := by decide +kernel
theorem dX3_firstThatChose_42 : decode cX3_firstThatChose 42 = .ok (.goto (-31), 3) := by decide +kernel
theorem dX3_firstThatChose_45 : decode cX3_firstThatChose 45 = .ok (.aconst_null, 1) := by decide +kernel
theorem dX3_firstThatChose_46 : decode cX3_firstThatChose 46 = .ok (.areturn, 1) := by decide +kernel
theorem dX3_sendToEach_0 : decode cX3_sendToEach 0 = .ok (.iconst 0, 1) := by decide +kernel
theorem dX3_sendToEach_1 : decode cX3_sendToEach 1 = .ok (.istore 5, 2) := by decide +kernel
theorem dX3_sendToEach_3 : decode cX3_sendToEach 3 = .ok (.iload 5, 2) := by decide +kernel
theorem dX3_sendToEach_5 : decode cX3_sendToEach 5 = .ok (.aload_n 0, 1) := by decide +kernel
theorem dX3_sendToEach_6 : decode cX3_sendToEach 6 = .ok (.getfield 18, 3) := by decide +kernel
theorem dX3_sendToEach_9 : decode cX3_sendToEach 9 = .ok (.if_icmp .ge 35, 3) := by decide +kernel
theorem dX3_sendToEach_12 : decode cX3_sendToEach 12 = .ok (.iload_n 1, 1) := by decide +kernel
theorem dX3_sendToEach_13 : decode cX3_sendToEach 13 = .ok (.iconst 1, 1) := by decide +kernel
theorem dX3_sendToEach_14 : decode cX3_sendToEach 14 = .ok (.iload 5, 2) := by decide +kernel
theorem dX3_sendToEach_16 : decode cX3_sendToEach 16 = .ok (.ishl, 1) := by decide +kernel
theorem dX3_sendToEach_17 : decode cX3_sendToEach 17 = .ok (.iand, 1) := by decide +kernel
theorem dX3_sendToEach_18 : decode cX3_sendToEach 18 = .ok (.ifCond .eq 20, 3) := by decide +kernel
theorem dX3_sendToEach_21 : decode cX3_sendToEach 21 = .ok (.aload_n 0, 1) := by decide +kernel
theorem dX3_sendToEach_22 : decode cX3_sendToEach 22 = .ok (.getfield 39, 3) := by decide +kernel
theorem dX3_sendToEach_25 : decode cX3_sendToEach 25 = .ok (.iload_n 2, 1) := by decide +kernel
theorem dX3_sendToEach_26 : decode cX3_sendToEach 26 = .ok (.aload_n 3, 1) := by decide +kernel
theorem dX3_sendToEach_27 : decode cX3_sendToEach 27 = .ok (.getfield 91, 3) := by decide +kernel
theorem dX3_sendToEach_30 : decode cX3_sendToEach 30 = .ok (.iload 5, 2) := by decide +kernel
theorem dX3_sendToEach_32 : decode cX3_sendToEach 32 = .ok (.iload 4, 2) := by decide +kernel
theorem dX3_sendToEach_34 : decode cX3_sendToEach 34 = .ok (.lconst 0, 1) := by decide +kernel
theorem dX3_sendToEach_35 : decode cX3_sendToEach 35 = .ok (.invokevirtual 60, 3) := by decide +kernel
theorem dX3_sendToEach_38 : decode cX3_sendToEach 38 = .ok (.iinc 5 1, 3) := by decide +kernel
theorem dX3_sendToEach_41 : decode cX3_sendToEach 41 = .ok (.goto (-38), 3) := by decide +kernel
theorem dX3_sendToEach_44 : decode cX3_sendToEach 44 = .ok (.iload_n 1, 1) := by decide +kernel
theorem dX3_sendToEach_45 : decode cX3_sendToEach 45 = .ok (.invokestatic 183, 3) := by decide +kernel
theorem dX3_sendToEach_48 : decode cX3_sendToEach 48 = .ok (.ireturn, 1) := by decide +kernel
theorem dX3_sendMissingVotes_0 : decode cX3_sendMissingVotes 0 = .ok (.iconst 0, 1) := by decide +kernel
theorem dX3_sendMissingVotes_1 : decode cX3_sendMissingVotes 1 = .ok (.istore_n 2, 1) := by decide +kernel
theorem dX3_sendMissingVotes_2 : decode cX3_sendMissingVotes 2 = .ok (.iconst 0, 1) := by decide +kernel
theorem dX3_sendMissingVotes_3 : decode cX3_sendMissingVotes 3 = .ok (.istore_n 3, 1) := by decide +kernel
theorem dX3_sendMissingVotes_4 : decode cX3_sendMissingVotes 4 = .ok (.iload_n 3, 1) := by decide +kernel
theorem dX3_sendMissingVotes_5 : decode cX3_sendMissingVotes 5 = .ok (.bipush 8, 2) := by decide +kernel
theorem dX3_sendMissingVotes_7 : decode cX3_sendMissingVotes 7 = .ok (.if_icmp .ge 48, 3) := by decide +kernel
theorem dX3_sendMissingVotes_10 : decode cX3_sendMissingVotes 10 = .ok (.aload_n 1, 1) := by decide +kernel
theorem dX3_sendMissingVotes_11 : decode cX3_sendMissingVotes 11 = .ok (.iload_n 3, 1) := by decide +kernel
theorem dX3_sendMissingVotes_12 : decode cX3_sendMissingVotes 12 = .ok (.invokevirtual 75, 3) := by decide +kernel
theorem dX3_sendMissingVotes_15 : decode cX3_sendMissingVotes 15 = .ok (.ifCond .eq 34, 3) := by decide +kernel
theorem dX3_sendMissingVotes_18 : decode cX3_sendMissingVotes 18 = .ok (.aload_n 1, 1) := by decide +kernel
theorem dX3_sendMissingVotes_19 : decode cX3_sendMissingVotes 19 = .ok (.iload_n 3, 1) := by decide +kernel
theorem dX3_sendMissingVotes_20 : decode cX3_sendMissingVotes 20 = .ok (.invokevirtual 188, 3) := by decide +kernel
theorem dX3_sendMissingVotes_23 : decode cX3_sendMissingVotes 23 = .ok (.ifCond .ne 26, 3) := by decide +kernel
theorem dX3_sendMissingVotes_26 : decode cX3_sendMissingVotes 26 = .ok (.iload_n 2, 1) := by decide +kernel
theorem dX3_sendMissingVotes_27 : decode cX3_sendMissingVotes 27 = .ok (.aload_n 0, 1) := by decide +kernel
theorem dX3_sendMissingVotes_28 : decode cX3_sendMissingVotes 28 = .ok (.aload_n 1, 1) := by decide +kernel
theorem dX3_sendMissingVotes_29 : decode cX3_sendMissingVotes 29 = .ok (.getfield 84, 3) := by decide +kernel
theorem dX3_sendMissingVotes_32 : decode cX3_sendMissingVotes 32 = .ok (.aload_n 1, 1) := by decide +kernel
theorem dX3_sendMissingVotes_33 : decode cX3_sendMissingVotes 33 = .ok (.getfield 154, 3) := by decide +kernel
theorem dX3_sendMissingVotes_36 : decode cX3_sendMissingVotes 36 = .ok (.iload_n 3, 1) := by decide +kernel
theorem dX3_sendMissingVotes_37 : decode cX3_sendMissingVotes 37 = .ok (.iaload, 1) := by decide +kernel
theorem dX3_sendMissingVotes_38 : decode cX3_sendMissingVotes 38 = .ok (.iconst (-1), 1) := by decide +kernel
theorem dX3_sendMissingVotes_39 : decode cX3_sendMissingVotes 39 = .ok (.ixor, 1) := by decide +kernel
theorem dX3_sendMissingVotes_40 : decode cX3_sendMissingVotes 40 = .ok (.iand, 1) := by decide +kernel
theorem dX3_sendMissingVotes_41 : decode cX3_sendMissingVotes 41 = .ok (.iconst 4, 1) := by decide +kernel
theorem dX3_sendMissingVotes_42 : decode cX3_sendMissingVotes 42 = .ok (.aload_n 1, 1) := by decide +kernel
theorem dX3_sendMissingVotes_43 : decode cX3_sendMissingVotes 43 = .ok (.iload_n 3, 1) := by decide +kernel
theorem dX3_sendMissingVotes_44 : decode cX3_sendMissingVotes 44 = .ok (.invokevirtual 87, 3) := by decide +kernel
theorem dX3_sendMissingVotes_47 : decode cX3_sendMissingVotes 47 = .ok (.iadd, 1) := by decide +kernel
theorem dX3_sendMissingVotes_48 : decode cX3_sendMissingVotes 48 = .ok (.istore_n 2, 1) := by decide +kernel
theorem dX3_sendMissingVotes_49 : decode cX3_sendMissingVotes 49 = .ok (.iinc 3 1, 3) := by decide +kernel
theorem dX3_sendMissingVotes_52 : decode cX3_sendMissingVotes 52 = .ok (.goto (-48), 3) := by decide +kernel
theorem dX3_sendMissingVotes_55 : decode cX3_sendMissingVotes 55 = .ok (.iload_n 2, 1) := by decide +kernel
theorem dX3_sendMissingVotes_56 : decode cX3_sendMissingVotes 56 = .ok (.ireturn, 1) := by decide +kernel
theorem dX3_isForSilent_0 : decode cX3_isForSilent 0 = .ok (.aload_n 0, 1) := by decide +kernel
theorem dX3_isForSilent_1 : decode cX3_isForSilent 1 = .ok (.getfield 39, 3) := by decide +kernel
theorem dX3_isForSilent_4 : decode cX3_isForSilent 4 = .ok (.getfield 163, 3) := by decide +kernel
theorem dX3_isForSilent_7 : decode cX3_isForSilent 7 = .ok (.iload_n 1, 1) := by decide +kernel
theorem dX3_isForSilent_8 : decode cX3_isForSilent 8 = .ok (.iaload, 1) := by decide +kernel
theorem dX3_isForSilent_9 : decode cX3_isForSilent 9 = .ok (.istore_n 2, 1) := by decide +kernel
theorem dX3_isForSilent_10 : decode cX3_isForSilent 10 = .ok (.iload_n 2, 1) := by decide +kernel
theorem dX3_isForSilent_11 : decode cX3_isForSilent 11 = .ok (.iconst 2, 1) := by decide +kernel
theorem dX3_isForSilent_12 : decode cX3_isForSilent 12 = .ok (.if_icmp .eq 8, 3) := by decide +kernel
theorem dX3_isForSilent_15 : decode cX3_isForSilent 15 = .ok (.iload_n 2, 1) := by decide +kernel
theorem dX3_isForSilent_16 : decode cX3_isForSilent 16 = .ok (.iconst 4, 1) := by decide +kernel
theorem dX3_isForSilent_17 : decode cX3_isForSilent 17 = .ok (.if_icmp .ne 7, 3) := by decide +kernel
theorem dX3_isForSilent_20 : decode cX3_isForSilent 20 = .ok (.iconst 1, 1) := by decide +kernel
theorem dX3_isForSilent_21 : decode cX3_isForSilent 21 = .ok (.goto 4, 3) := by decide +kernel
theorem dX3_isForSilent_24 : decode cX3_isForSilent 24 = .ok (.iconst 0, 1) := by decide +kernel
theorem dX3_isForSilent_25 : decode cX3_isForSilent 25 = .ok (.istore_n 3, 1) := by decide +kernel
theorem dX3_isForSilent_26 : decode cX3_isForSilent 26 = .ok (.iload_n 3, 1) := by decide +kernel
theorem dX3_isForSilent_27 : decode cX3_isForSilent 27 = .ok (.ifCond .eq 26, 3) := by decide +kernel
theorem dX3_isForSilent_30 : decode cX3_isForSilent 30 = .ok (.aload_n 0, 1) := by decide +kernel
theorem dX3_isForSilent_31 : decode cX3_isForSilent 31 = .ok (.getfield 130, 3) := by decide +kernel
theorem dX3_isForSilent_34 : decode cX3_isForSilent 34 = .ok (.iconst 1, 1) := by decide +kernel
theorem dX3_isForSilent_35 : decode cX3_isForSilent 35 = .ok (.aload_n 0, 1) := by decide +kernel
theorem dX3_isForSilent_36 : decode cX3_isForSilent 36 = .ok (.getfield 39, 3) := by decide +kernel
theorem dX3_isForSilent_39 : decode cX3_isForSilent 39 = .ok (.getfield 169, 3) := by decide +kernel
theorem dX3_isForSilent_42 : decode cX3_isForSilent 42 = .ok (.iload_n 1, 1) := by decide +kernel
theorem dX3_isForSilent_43 : decode cX3_isForSilent 43 = .ok (.iaload, 1) := by decide +kernel
theorem dX3_isForSilent_44 : decode cX3_isForSilent 44 = .ok (.ishl, 1) := by decide +kernel
theorem dX3_isForSilent_45 : decode cX3_isForSilent 45 = .ok (.iand, 1) := by decide +kernel
theorem dX3_isForSilent_46 : decode cX3_isForSilent 46 = .ok (.ifCond .eq 7, 3) := by decide +kernel
theorem dX3_isForSilent_49 : decode cX3_isForSilent 49 = .ok (.iconst 1, 1) := by decide +kernel
theorem dX3_isForSilent_50 : decode cX3_isForSilent 50 = .ok (.goto 4, 3) := by decide +kernel
theorem dX3_isForSilent_53 : decode cX3_isForSilent 53 = .ok (.iconst 0, 1) := by decide +kernel
theorem dX3_isForSilent_54 : decode cX3_isForSilent 54 = .ok (.ireturn, 1) := by decide +kernel
theorem dX3_firstDeliverable_0 : decode cX3_firstDeliverable 0 = .ok (.iconst 0, 1) := by decide +kernel
theorem dX3_firstDeliverable_1 : decode cX3_firstDeliverable 1 = .ok (.istore_n 1, 1) := by decide +kernel
theorem dX3_firstDeliverable_2 : decode cX3_firstDeliverable 2 = .ok (.iload_n 1, 1) := by decide +kernel
theorem dX3_firstDeliverable_3 : decode cX3_firstDeliverable 3 = .ok (.aload_n 0, 1) := by decide +kernel
theorem dX3_firstDeliverable_4 : decode cX3_firstDeliverable 4 = .ok (.getfield 39, 3) := by decide +kernel
theorem dX3_firstDeliverable_7 : decode cX3_firstDeliverable 7 = .ok (.getfield 121, 3) := by decide +kernel
theorem dX3_firstDeliverable_10 : decode cX3_firstDeliverable 10 = .ok (.if_icmp .ge 19, 3) := by decide +kernel
theorem dX3_firstDeliverable_13 : decode cX3_firstDeliverable 13 = .ok (.aload_n 0, 1) := by decide +kernel
theorem dX3_firstDeliverable_14 : decode cX3_firstDeliverable 14 = .ok (.iload_n 1, 1) := by decide +kernel
theorem dX3_firstDeliverable_15 : decode cX3_firstDeliverable 15 = .ok (.invokevirtual 107, 3) := by decide +kernel
theorem dX3_firstDeliverable_18 : decode cX3_firstDeliverable 18 = .ok (.ifCond .ne 5, 3) := by decide +kernel
theorem dX3_firstDeliverable_21 : decode cX3_firstDeliverable 21 = .ok (.iload_n 1, 1) := by decide +kernel
theorem dX3_firstDeliverable_22 : decode cX3_firstDeliverable 22 = .ok (.ireturn, 1) := by decide +kernel
theorem dX3_firstDeliverable_23 : decode cX3_firstDeliverable 23 = .ok (.iinc 1 1, 3) := by decide +kernel
theorem dX3_firstDeliverable_26 : decode cX3_firstDeliverable 26 = .ok (.goto (-24), 3) := by decide +kernel
theorem dX3_firstDeliverable_29 : decode cX3_firstDeliverable 29 = .ok (.iconst (-1), 1) := by decide +kernel
theorem dX3_firstDeliverable_30 : decode cX3_firstDeliverable 30 = .ok (.ireturn, 1) := by decide +kernel
theorem dX3_handOver_0 : decode cX3_handOver 0 = .ok (.aload_n 0, 1) := by decide +kernel
theorem dX3_handOver_1 : decode cX3_handOver 1 = .ok (.getfield 39, 3) := by decide +kernel
theorem dX3_handOver_4 : decode cX3_handOver 4 = .ok (.getfield 163, 3) := by decide +kernel
theorem dX3_handOver_7 : decode cX3_handOver 7 = .ok (.iload_n 1, 1) := by decide +kernel
theorem dX3_handOver_8 : decode cX3_handOver 8 = .ok (.iaload, 1) := by decide +kernel
theorem dX3_handOver_9 : decode cX3_handOver 9 = .ok (.istore_n 2, 1) := by decide +kernel
theorem dX3_handOver_10 : decode cX3_handOver 10 = .ok (.aload_n 0, 1) := by decide +kernel
theorem dX3_handOver_11 : decode cX3_handOver 11 = .ok (.getfield 39, 3) := by decide +kernel
theorem dX3_handOver_14 : decode cX3_handOver 14 = .ok (.getfield 169, 3) := by decide +kernel
theorem dX3_handOver_17 : decode cX3_handOver 17 = .ok (.iload_n 1, 1) := by decide +kernel
theorem dX3_handOver_18 : decode cX3_handOver 18 = .ok (.iaload, 1) := by decide +kernel
theorem dX3_handOver_19 : decode cX3_handOver 19 = .ok (.istore_n 3, 1) := by decide +kernel
theorem dX3_handOver_20 : decode cX3_handOver 20 = .ok (.aload_n 0, 1) := by decide +kernel
theorem dX3_handOver_21 : decode cX3_handOver 21 = .ok (.getfield 39, 3) := by decide +kernel
theorem dX3_handOver_24 : decode cX3_handOver 24 = .ok (.getfield 172, 3) := by decide +kernel
theorem dX3_handOver_27 : decode cX3_handOver 27 = .ok (.iload_n 1, 1) := by decide +kernel
theorem dX3_handOver_28 : decode cX3_handOver 28 = .ok (.iaload, 1) := by decide +kernel
theorem dX3_handOver_29 : decode cX3_handOver 29 = .ok (.istore 4, 2) := by decide +kernel
theorem dX3_handOver_31 : decode cX3_handOver 31 = .ok (.aload_n 0, 1) := by decide +kernel
theorem dX3_handOver_32 : decode cX3_handOver 32 = .ok (.getfield 39, 3) := by decide +kernel
theorem dX3_handOver_35 : decode cX3_handOver 35 = .ok (.getfield 175, 3) := by decide +kernel
theorem dX3_handOver_38 : decode cX3_handOver 38 = .ok (.iload_n 1, 1) := by decide +kernel
theorem dX3_handOver_39 : decode cX3_handOver 39 = .ok (.laload, 1) := by decide +kernel
theorem dX3_handOver_40 : decode cX3_handOver 40 = .ok (.lstore 5, 2) := by decide +kernel
theorem dX3_handOver_42 : decode cX3_handOver 42 = .ok (.aload_n 0, 1) := by decide +kernel
theorem dX3_handOver_43 : decode cX3_handOver 43 = .ok (.aload_n 0, 1) := by decide +kernel
theorem dX3_handOver_44 : decode cX3_handOver 44 = .ok (.getfield 39, 3) := by decide +kernel
theorem dX3_handOver_47 : decode cX3_handOver 47 = .ok (.getfield 166, 3) := by decide +kernel
theorem dX3_handOver_50 : decode cX3_handOver 50 = .ok (.iload_n 1, 1) := by decide +kernel
theorem dX3_handOver_51 : decode cX3_handOver 51 = .ok (.iaload, 1) := by decide +kernel
theorem dX3_handOver_52 : decode cX3_handOver 52 = .ok (.invokevirtual 64, 3) := by decide +kernel
theorem dX3_handOver_55 : decode cX3_handOver 55 = .ok (.astore 7, 2) := by decide +kernel
theorem dX3_handOver_57 : decode cX3_handOver 57 = .ok (.aload_n 0, 1) := by decide +kernel
theorem dX3_handOver_58 : decode cX3_handOver 58 = .ok (.getfield 39, 3) := by decide +kernel
theorem dX3_handOver_61 : decode cX3_handOver 61 = .ok (.iload_n 1, 1) := by decide +kernel
theorem dX3_handOver_62 : decode cX3_handOver 62 = .ok (.invokevirtual 118, 3) := by decide +kernel
theorem dX3_handOver_65 : decode cX3_handOver 65 = .ok (.aload 7, 2) := by decide +kernel
theorem dX3_handOver_67 : decode cX3_handOver 67 = .ok (.ifnonnull 4, 3) := by decide +kernel
theorem dX3_handOver_70 : decode cX3_handOver 70 = .ok (.return_, 1) := by decide +kernel
theorem dX3_handOver_71 : decode cX3_handOver 71 = .ok (.iload_n 2, 1) := by decide +kernel
theorem dX3_handOver_72 : decode cX3_handOver 72 = .ok (.tableswitch 117 1 7 #[44, 53, 63, 75, 87, 99, 108], 44) := by decide +kernel
theorem dX3_handOver_116 : decode cX3_handOver 116 = .ok (.aload_n 0, 1) := by decide +kernel
theorem dX3_handOver_117 : decode cX3_handOver 117 = .ok (.aload 7, 2) := by decide +kernel
theorem dX3_handOver_119 : decode cX3_handOver 119 = .ok (.invokevirtual 191, 3) := by decide +kernel
theorem dX3_handOver_122 : decode cX3_handOver 122 = .ok (.goto 67, 3) := by decide +kernel
theorem dX3_handOver_125 : decode cX3_handOver 125 = .ok (.aload_n 0, 1) := by decide +kernel
theorem dX3_handOver_126 : decode cX3_handOver 126 = .ok (.aload 7, 2) := by decide +kernel
theorem dX3_handOver_128 : decode cX3_handOver 128 = .ok (.iload_n 3, 1) := by decide +kernel
theorem dX3_handOver_129 : decode cX3_handOver 129 = .ok (.invokevirtual 195, 3) := by decide +kernel
theorem dX3_handOver_132 : decode cX3_handOver 132 = .ok (.goto 57, 3) := by decide +kernel
theorem dX3_handOver_135 : decode cX3_handOver 135 = .ok (.aload_n 0, 1) := by decide +kernel
theorem dX3_handOver_136 : decode cX3_handOver 136 = .ok (.aload 7, 2) := by decide +kernel
theorem dX3_handOver_138 : decode cX3_handOver 138 = .ok (.iload_n 3, 1) := by decide +kernel
theorem dX3_handOver_139 : decode cX3_handOver 139 = .ok (.lload 5, 2) := by decide +kernel
theorem dX3_handOver_141 : decode cX3_handOver 141 = .ok (.invokevirtual 199, 3) := by decide +kernel
theorem dX3_handOver_144 : decode cX3_handOver 144 = .ok (.goto 45, 3) := by decide +kernel
theorem dX3_handOver_147 : decode cX3_handOver 147 = .ok (.aload_n 0, 1) := by decide +kernel
theorem dX3_handOver_148 : decode cX3_handOver 148 = .ok (.aload 7, 2) := by decide +kernel
theorem dX3_handOver_150 : decode cX3_handOver 150 = .ok (.iload_n 3, 1) := by decide +kernel
theorem dX3_handOver_151 : decode cX3_handOver 151 = .ok (.iload 4, 2) := by decide +kernel
theorem dX3_handOver_153 : decode cX3_handOver 153 = .ok (.invokevirtual 203, 3) := by decide +kernel
theorem dX3_handOver_156 : decode cX3_handOver 156 = .ok (.goto 33, 3) := by decide +kernel
theorem dX3_handOver_159 : decode cX3_handOver 159 = .ok (.aload_n 0, 1) := by decide +kernel
theorem dX3_handOver_160 : decode cX3_handOver 160 = .ok (.aload 7, 2) := by decide +kernel
theorem dX3_handOver_162 : decode cX3_handOver 162 = .ok (.iload_n 3, 1) := by decide +kernel
theorem dX3_handOver_163 : decode cX3_handOver 163 = .ok (.iload 4, 2) := by decide +kernel
theorem dX3_handOver_165 : decode cX3_handOver 165 = .ok (.invokevirtual 207, 3) := by decide +kernel
theorem dX3_handOver_168 : decode cX3_handOver 168 = .ok (.goto 21, 3) := by decide +kernel
theorem dX3_handOver_171 : decode cX3_handOver 171 = .ok (.aload_n 0, 1) := by decide +kernel
theorem dX3_handOver_172 : decode cX3_handOver 172 = .ok (.aload 7, 2) := by decide +kernel
theorem dX3_handOver_174 : decode cX3_handOver 174 = .ok (.invokevirtual 210, 3) := by decide +kernel
theorem dX3_handOver_177 : decode cX3_handOver 177 = .ok (.goto 12, 3) := by decide +kernel
theorem dX3_handOver_180 : decode cX3_handOver 180 = .ok (.aload_n 0, 1) := by decide +kernel
theorem dX3_handOver_181 : decode cX3_handOver 181 = .ok (.aload 7, 2) := by decide +kernel
theorem dX3_handOver_183 : decode cX3_handOver 183 = .ok (.invokevirtual 213, 3) := by decide +kernel
theorem dX3_handOver_186 : decode cX3_handOver 186 = .ok (.goto 3, 3) := by decide +kernel
theorem dX3_handOver_189 : decode cX3_handOver 189 = .ok (.return_, 1) := by decide +kernel
theorem dX3_newComes_0 : decode cX3_newComes 0 = .ok (.aload_n 1, 1) := by decide +kernel
theorem dX3_newComes_1 : decode cX3_newComes 1 = .ok (.getfield 72, 3) := by decide +kernel
theorem dX3_newComes_4 : decode cX3_newComes 4 = .ok (.ifCond .ne 25, 3) := by decide +kernel
theorem dX3_newComes_7 : decode cX3_newComes 7 = .ok (.aload_n 1, 1) := by decide +kernel
theorem dX3_newComes_8 : decode cX3_newComes 8 = .ok (.iconst 1, 1) := by decide +kernel
theorem dX3_newComes_9 : decode cX3_newComes 9 = .ok (.putfield 72, 3) := by decide +kernel
theorem dX3_newComes_12 : decode cX3_newComes 12 = .ok (.aload_n 0, 1) := by decide +kernel
theorem dX3_newComes_13 : decode cX3_newComes 13 = .ok (.aload_n 1, 1) := by decide +kernel
theorem dX3_newComes_14 : decode cX3_newComes 14 = .ok (.getfield 94, 3) := by decide +kernel
theorem dX3_newComes_17 : decode cX3_newComes 17 = .ok (.iconst 2, 1) := by decide +kernel
theorem dX3_newComes_18 : decode cX3_newComes 18 = .ok (.aload_n 1, 1) := by decide +kernel
theorem dX3_newComes_19 : decode cX3_newComes 19 = .ok (.iconst (-1), 1) := by decide +kernel
theorem dX3_newComes_20 : decode cX3_newComes 20 = .ok (.invokevirtual 87, 3) := by decide +kernel
theorem dX3_newComes_23 : decode cX3_newComes 23 = .ok (.pop, 1) := by decide +kernel
theorem dX3_newComes_24 : decode cX3_newComes 24 = .ok (.aload_n 0, 1) := by decide +kernel
theorem dX3_newComes_25 : decode cX3_newComes 25 = .ok (.aload_n 1, 1) := by decide +kernel
theorem dX3_newComes_26 : decode cX3_newComes 26 = .ok (.invokevirtual 216, 3) := by decide +kernel
theorem dX3_newComes_29 : decode cX3_newComes 29 = .ok (.return_, 1) := by decide +kernel
theorem dX3_readComes_0 : decode cX3_readComes 0 = .ok (.aload_n 0, 1) := by decide +kernel
theorem dX3_readComes_1 : decode cX3_readComes 1 = .ok (.iload_n 2, 1) := by decide +kernel
theorem dX3_readComes_2 : decode cX3_readComes 2 = .ok (.invokevirtual 127, 3) := by decide +kernel
theorem dX3_readComes_5 : decode cX3_readComes 5 = .ok (.ifCond .eq 46, 3) := by decide +kernel
theorem dX3_readComes_8 : decode cX3_readComes 8 = .ok (.aload_n 0, 1) := by decide +kernel
theorem dX3_readComes_9 : decode cX3_readComes 9 = .ok (.getfield 22, 3) := by decide +kernel
theorem dX3_readComes_12 : decode cX3_readComes 12 = .ok (.iload_n 2, 1) := by decide +kernel
theorem dX3_readComes_13 : decode cX3_readComes 13 = .ok (.iaload, 1) := by decide +kernel
theorem dX3_readComes_14 : decode cX3_readComes 14 = .ok (.aload_n 1, 1) := by decide +kernel
theorem dX3_readComes_15 : decode cX3_readComes 15 = .ok (.getfield 91, 3) := by decide +kernel
theorem dX3_readComes_18 : decode cX3_readComes 18 = .ok (.if_icmp .gt 33, 3) := by decide +kernel
theorem dX3_readComes_21 : decode cX3_readComes 21 = .ok (.aload_n 0, 1) := by decide +kernel
theorem dX3_readComes_22 : decode cX3_readComes 22 = .ok (.getfield 22, 3) := by decide +kernel
theorem dX3_readComes_25 : decode cX3_readComes 25 = .ok (.iload_n 2, 1) := by decide +kernel
theorem dX3_readComes_26 : decode cX3_readComes 26 = .ok (.aload_n 1, 1) := by decide +kernel
theorem dX3_readComes_27 : decode cX3_readComes 27 = .ok (.getfield 91, 3) := by decide +kernel
theorem dX3_readComes_30 : decode cX3_readComes 30 = .ok (.iastore, 1) := by decide +kernel
theorem dX3_readComes_31 : decode cX3_readComes 31 = .ok (.aload_n 0, 1) := by decide +kernel
theorem dX3_readComes_32 : decode cX3_readComes 32 = .ok (.getfield 39, 3) := by decide +kernel
theorem dX3_readComes_35 : decode cX3_readComes 35 = .ok (.iconst 3, 1) := by decide +kernel
theorem dX3_readComes_36 : decode cX3_readComes 36 = .ok (.aload_n 1, 1) := by decide +kernel
theorem dX3_readComes_37 : decode cX3_readComes 37 = .ok (.getfield 91, 3) := by decide +kernel
theorem dX3_readComes_40 : decode cX3_readComes 40 = .ok (.iload_n 2, 1) := by decide +kernel
theorem dX3_readComes_41 : decode cX3_readComes 41 = .ok (.iconst (-1), 1) := by decide +kernel
theorem dX3_readComes_42 : decode cX3_readComes 42 = .ok (.aload_n 0, 1) := by decide +kernel
theorem dX3_readComes_43 : decode cX3_readComes 43 = .ok (.getfield 26, 3) := by decide +kernel
theorem dX3_readComes_46 : decode cX3_readComes 46 = .ok (.iload_n 2, 1) := by decide +kernel
theorem dX3_readComes_47 : decode cX3_readComes 47 = .ok (.laload, 1) := by decide +kernel
theorem dX3_readComes_48 : decode cX3_readComes 48 = .ok (.invokevirtual 60, 3) := by decide +kernel
theorem dX3_readComes_51 : decode cX3_readComes 51 = .ok (.return_, 1) := by decide +kernel
theorem dX3_readAnswerComes_0 : decode cX3_readAnswerComes 0 = .ok (.iconst 1, 1) := by decide +kernel
theorem dX3_readAnswerComes_1 : decode cX3_readAnswerComes 1 = .ok (.iload_n 2, 1) := by decide +kernel
theorem dX3_readAnswerComes_2 : decode cX3_readAnswerComes 2 = .ok (.ishl, 1) := by decide +kernel
theorem dX3_readAnswerComes_3 : decode cX3_readAnswerComes 3 = .ok (.istore 5, 2) := by decide +kernel
theorem dX3_readAnswerComes_5 : decode cX3_readAnswerComes 5 = .ok (.aload_n 1, 1) := by decide +kernel
theorem dX3_readAnswerComes_6 : decode cX3_readAnswerComes 6 = .ok (.getfield 72, 3) := by decide +kernel
theorem dX3_readAnswerComes_9 : decode cX3_readAnswerComes 9 = .ok (.iconst 1, 1) := by decide +kernel
theorem dX3_readAnswerComes_10 : decode cX3_readAnswerComes 10 = .ok (.if_icmp .ne 35, 3) := by decide +kernel
theorem dX3_readAnswerComes_13 : decode cX3_readAnswerComes 13 = .ok (.aload_n 1, 1) := by decide +kernel
theorem dX3_readAnswerComes_14 : decode cX3_readAnswerComes 14 = .ok (.getfield 97, 3) := by decide +kernel
theorem dX3_readAnswerComes_17 : decode cX3_readAnswerComes 17 = .ok (.iload 5, 2) := by decide +kernel
theorem dX3_readAnswerComes_19 : decode cX3_readAnswerComes 19 = .ok (.iand, 1) := by decide +kernel
theorem dX3_readAnswerComes_20 : decode cX3_readAnswerComes 20 = .ok (.ifCond .ne 25, 3) := by decide +kernel
theorem dX3_readAnswerComes_23 : decode cX3_readAnswerComes 23 = .ok (.aload_n 1, 1) := by decide +kernel
theorem dX3_readAnswerComes_24 : decode cX3_readAnswerComes 24 = .ok (.dup, 1) := by decide +kernel
theorem dX3_readAnswerComes_25 : decode cX3_readAnswerComes 25 = .ok (.getfield 97, 3) := by decide +kernel
theorem dX3_readAnswerComes_28 : decode cX3_readAnswerComes 28 = .ok (.iload 5, 2) := by decide +kernel
theorem dX3_readAnswerComes_30 : decode cX3_readAnswerComes 30 = .ok (.ior, 1) := by decide +kernel
theorem dX3_readAnswerComes_31 : decode cX3_readAnswerComes 31 = .ok (.putfield 97, 3) := by decide +kernel
theorem dX3_readAnswerComes_34 : decode cX3_readAnswerComes 34 = .ok (.aload_n 0, 1) := by decide +kernel
theorem dX3_readAnswerComes_35 : decode cX3_readAnswerComes 35 = .ok (.aload_n 1, 1) := by decide +kernel
theorem dX3_readAnswerComes_36 : decode cX3_readAnswerComes 36 = .ok (.lload_n 3, 1) := by decide +kernel
theorem dX3_readAnswerComes_37 : decode cX3_readAnswerComes 37 = .ok (.invokevirtual 219, 3) := by decide +kernel
theorem dX3_readAnswerComes_40 : decode cX3_readAnswerComes 40 = .ok (.aload_n 0, 1) := by decide +kernel
theorem dX3_readAnswerComes_41 : decode cX3_readAnswerComes 41 = .ok (.aload_n 1, 1) := by decide +kernel
theorem dX3_readAnswerComes_42 : decode cX3_readAnswerComes 42 = .ok (.invokevirtual 216, 3) := by decide +kernel
theorem dX3_readAnswerComes_45 : decode cX3_readAnswerComes 45 = .ok (.return_, 1) := by decide +kernel
theorem dX3_takeFound_0 : decode cX3_takeFound 0 = .ok (.iconst 0, 1) := by decide +kernel
theorem dX3_takeFound_1 : decode cX3_takeFound 1 = .ok (.istore 4, 2) := by decide +kernel
theorem dX3_takeFound_3 : decode cX3_takeFound 3 = .ok (.iload 4, 2) := by decide +kernel
theorem dX3_takeFound_5 : decode cX3_takeFound 5 = .ok (.bipush 8, 2) := by decide +kernel
theorem dX3_takeFound_7 : decode cX3_takeFound 7 = .ok (.if_icmp .ge 81, 3) := by decide +kernel
theorem dX3_takeFound_10 : decode cX3_takeFound 10 = .ok (.aload_n 0, 1) := by decide +kernel
theorem dX3_takeFound_11 : decode cX3_takeFound 11 = .ok (.lload_n 2, 1) := by decide +kernel
theorem dX3_takeFound_12 : decode cX3_takeFound 12 = .ok (.iload 4, 2) := by decide +kernel
theorem dX3_takeFound_14 : decode cX3_takeFound 14 = .ok (.invokestatic 133, 3) := by decide +kernel
theorem dX3_takeFound_17 : decode cX3_takeFound 17 = .ok (.invokevirtual 64, 3) := by decide +kernel
theorem dX3_takeFound_20 : decode cX3_takeFound 20 = .ok (.astore 5, 2) := by decide +kernel
theorem dX3_takeFound_22 : decode cX3_takeFound 22 = .ok (.aload 5, 2) := by decide +kernel
theorem dX3_takeFound_24 : decode cX3_takeFound 24 = .ok (.ifnull 58, 3) := by decide +kernel
theorem dX3_takeFound_27 : decode cX3_takeFound 27 = .ok (.aload 5, 2) := by decide +kernel
theorem dX3_takeFound_29 : decode cX3_takeFound 29 = .ok (.getfield 91, 3) := by decide +kernel
theorem dX3_takeFound_32 : decode cX3_takeFound 32 = .ok (.aload_n 1, 1) := by decide +kernel
theorem dX3_takeFound_33 : decode cX3_takeFound 33 = .ok (.getfield 223, 3) := by decide +kernel
theorem dX3_takeFound_36 : decode cX3_takeFound 36 = .ok (.iload 4, 2) := by decide +kernel
theorem dX3_takeFound_38 : decode cX3_takeFound 38 = .ok (.iaload, 1) := by decide +kernel
theorem dX3_takeFound_39 : decode cX3_takeFound 39 = .ok (.if_icmp .le 43, 3) := by decide +kernel
theorem dX3_takeFound_42 : decode cX3_takeFound 42 = .ok (.aload_n 1, 1) := by decide +kernel
theorem dX3_takeFound_43 : decode cX3_takeFound 43 = .ok (.dup, 1) := by decide +kernel
theorem dX3_takeFound_44 : decode cX3_takeFound 44 = .ok (.getfield 148, 3) := by decide +kernel
theorem dX3_takeFound_47 : decode cX3_takeFound 47 = .ok (.iconst 1, 1) := by decide +kernel
theorem dX3_takeFound_48 : decode cX3_takeFound 48 = .ok (.iload 4, 2) := by decide +kernel
theorem dX3_takeFound_50 : decode cX3_takeFound 50 = .ok (.ishl, 1) := by decide +kernel
theorem dX3_takeFound_51 : decode cX3_takeFound 51 = .ok (.ior, 1) := by decide +kernel
theorem dX3_takeFound_52 : decode cX3_takeFound 52 = .ok (.putfield 148, 3) := by decide +kernel
theorem dX3_takeFound_55 : decode cX3_takeFound 55 = .ok (.aload_n 1, 1) := by decide +kernel
theorem dX3_takeFound_56 : decode cX3_takeFound 56 = .ok (.getfield 223, 3) := by decide +kernel
theorem dX3_takeFound_59 : decode cX3_takeFound 59 = .ok (.iload 4, 2) := by decide +kernel
theorem dX3_takeFound_61 : decode cX3_takeFound 61 = .ok (.aload 5, 2) := by decide +kernel
theorem dX3_takeFound_63 : decode cX3_takeFound 63 = .ok (.getfield 91, 3) := by decide +kernel
theorem dX3_takeFound_66 : decode cX3_takeFound 66 = .ok (.iastore, 1) := by decide +kernel
theorem dX3_takeFound_67 : decode cX3_takeFound 67 = .ok (.aload_n 1, 1) := by decide +kernel
theorem dX3_takeFound_68 : decode cX3_takeFound 68 = .ok (.getfield 81, 3) := by decide +kernel
theorem dX3_takeFound_71 : decode cX3_takeFound 71 = .ok (.iload 4, 2) := by decide +kernel
theorem dX3_takeFound_73 : decode cX3_takeFound 73 = .ok (.aload 5, 2) := by decide +kernel
theorem dX3_takeFound_75 : decode cX3_takeFound 75 = .ok (.getfield 81, 3) := by decide +kernel
theorem dX3_takeFound_78 : decode cX3_takeFound 78 = .ok (.iload 4, 2) := by decide +kernel
theorem dX3_takeFound_80 : decode cX3_takeFound 80 = .ok (.laload, 1) := by decide +kernel
theorem dX3_takeFound_81 : decode cX3_takeFound 81 = .ok (.lastore, 1) := by decide +kernel
theorem dX3_takeFound_82 : decode cX3_takeFound 82 = .ok (.iinc 4 1, 3) := by decide +kernel
theorem dX3_takeFound_85 : decode cX3_takeFound 85 = .ok (.goto (-82), 3) := by decide +kernel
theorem dX3_takeFound_88 : decode cX3_takeFound 88 = .ok (.return_, 1) := by decide +kernel
theorem dX3_voteComes_0 : decode cX3_voteComes 0 = .ok (.aload_n 0, 1) := by decide +kernel
theorem dX3_voteComes_1 : decode cX3_voteComes 1 = .ok (.iload_n 2, 1) := by decide +kernel
theorem dX3_voteComes_2 : decode cX3_voteComes 2 = .ok (.invokevirtual 127, 3) := by decide +kernel
theorem dX3_voteComes_5 : decode cX3_voteComes 5 = .ok (.ifCond .eq 80, 3) := by decide +kernel
theorem dX3_voteComes_8 : decode cX3_voteComes 8 = .ok (.iload_n 3, 1) := by decide +kernel
theorem dX3_voteComes_9 : decode cX3_voteComes 9 = .ok (.invokestatic 68, 3) := by decide +kernel
theorem dX3_voteComes_12 : decode cX3_voteComes 12 = .ok (.ifCond .eq 73, 3) := by decide +kernel
theorem dX3_voteComes_15 : decode cX3_voteComes 15 = .ok (.aload_n 0, 1) := by decide +kernel
theorem dX3_voteComes_16 : decode cX3_voteComes 16 = .ok (.getfield 22, 3) := by decide +kernel
theorem dX3_voteComes_19 : decode cX3_voteComes 19 = .ok (.iload_n 2, 1) := by decide +kernel
theorem dX3_voteComes_20 : decode cX3_voteComes 20 = .ok (.iaload, 1) := by decide +kernel
theorem dX3_voteComes_21 : decode cX3_voteComes 21 = .ok (.aload_n 1, 1) := by decide +kernel
theorem dX3_voteComes_22 : decode cX3_voteComes 22 = .ok (.getfield 91, 3) := by decide +kernel
theorem dX3_voteComes_25 : decode cX3_voteComes 25 = .ok (.if_icmp .gt 60, 3) := by decide +kernel
theorem dX3_voteComes_28 : decode cX3_voteComes 28 = .ok (.aload_n 0, 1) := by decide +kernel
theorem dX3_voteComes_29 : decode cX3_voteComes 29 = .ok (.getfield 22, 3) := by decide +kernel
theorem dX3_voteComes_32 : decode cX3_voteComes 32 = .ok (.iload_n 2, 1) := by decide +kernel
theorem dX3_voteComes_33 : decode cX3_voteComes 33 = .ok (.aload_n 1, 1) := by decide +kernel
theorem dX3_voteComes_34 : decode cX3_voteComes 34 = .ok (.getfield 91, 3) := by decide +kernel
theorem dX3_voteComes_37 : decode cX3_voteComes 37 = .ok (.iastore, 1) := by decide +kernel
theorem dX3_voteComes_38 : decode cX3_voteComes 38 = .ok (.aload_n 0, 1) := by decide +kernel
theorem dX3_voteComes_39 : decode cX3_voteComes 39 = .ok (.getfield 26, 3) := by decide +kernel
theorem dX3_voteComes_42 : decode cX3_voteComes 42 = .ok (.iload_n 2, 1) := by decide +kernel
theorem dX3_voteComes_43 : decode cX3_voteComes 43 = .ok (.aload_n 0, 1) := by decide +kernel
theorem dX3_voteComes_44 : decode cX3_voteComes 44 = .ok (.getfield 26, 3) := by decide +kernel
theorem dX3_voteComes_47 : decode cX3_voteComes 47 = .ok (.iload_n 2, 1) := by decide +kernel
theorem dX3_voteComes_48 : decode cX3_voteComes 48 = .ok (.laload, 1) := by decide +kernel
theorem dX3_voteComes_49 : decode cX3_voteComes 49 = .ok (.iload_n 3, 1) := by decide +kernel
theorem dX3_voteComes_50 : decode cX3_voteComes 50 = .ok (.aload_n 1, 1) := by decide +kernel
theorem dX3_voteComes_51 : decode cX3_voteComes 51 = .ok (.getfield 91, 3) := by decide +kernel
theorem dX3_voteComes_54 : decode cX3_voteComes 54 = .ok (.invokestatic 226, 3) := by decide +kernel
theorem dX3_voteComes_57 : decode cX3_voteComes 57 = .ok (.lastore, 1) := by decide +kernel
theorem dX3_voteComes_58 : decode cX3_voteComes 58 = .ok (.aload_n 1, 1) := by decide +kernel
theorem dX3_voteComes_59 : decode cX3_voteComes 59 = .ok (.getfield 230, 3) := by decide +kernel
theorem dX3_voteComes_62 : decode cX3_voteComes 62 = .ok (.iload_n 3, 1) := by decide +kernel
theorem dX3_voteComes_63 : decode cX3_voteComes 63 = .ok (.dup2, 1) := by decide +kernel
theorem dX3_voteComes_64 : decode cX3_voteComes 64 = .ok (.iaload, 1) := by decide +kernel
theorem dX3_voteComes_65 : decode cX3_voteComes 65 = .ok (.iconst 1, 1) := by decide +kernel
theorem dX3_voteComes_66 : decode cX3_voteComes 66 = .ok (.iload_n 2, 1) := by decide +kernel
theorem dX3_voteComes_67 : decode cX3_voteComes 67 = .ok (.ishl, 1) := by decide +kernel
theorem dX3_voteComes_68 : decode cX3_voteComes 68 = .ok (.ior, 1) := by decide +kernel
theorem dX3_voteComes_69 : decode cX3_voteComes 69 = .ok (.iastore, 1) := by decide +kernel
theorem dX3_voteComes_70 : decode cX3_voteComes 70 = .ok (.aload_n 0, 1) := by decide +kernel
theorem dX3_voteComes_71 : decode cX3_voteComes 71 = .ok (.getfield 39, 3) := by decide +kernel
theorem dX3_voteComes_74 : decode cX3_voteComes 74 = .ok (.iconst 5, 1) := by decide +kernel
theorem dX3_voteComes_75 : decode cX3_voteComes 75 = .ok (.aload_n 1, 1) := by decide +kernel
theorem dX3_voteComes_76 : decode cX3_voteComes 76 = .ok (.getfield 91, 3) := by decide +kernel
theorem dX3_voteComes_79 : decode cX3_voteComes 79 = .ok (.iload_n 2, 1) := by decide +kernel
theorem dX3_voteComes_80 : decode cX3_voteComes 80 = .ok (.iload_n 3, 1) := by decide +kernel
theorem dX3_voteComes_81 : decode cX3_voteComes 81 = .ok (.lconst 0, 1) := by decide +kernel
theorem dX3_voteComes_82 : decode cX3_voteComes 82 = .ok (.invokevirtual 60, 3) := by decide +kernel
theorem dX3_voteComes_85 : decode cX3_voteComes 85 = .ok (.return_, 1) := by decide +kernel
theorem dX3_voteAnswerComes_0 : decode cX3_voteAnswerComes 0 = .ok (.iload_n 3, 1) := by decide +kernel
theorem dX3_voteAnswerComes_1 : decode cX3_voteAnswerComes 1 = .ok (.invokestatic 68, 3) := by decide +kernel
theorem dX3_voteAnswerComes_4 : decode cX3_voteAnswerComes 4 = .ok (.ifCond .eq 28, 3) := by decide +kernel
theorem dX3_voteAnswerComes_7 : decode cX3_voteAnswerComes 7 = .ok (.aload_n 1, 1) := by decide +kernel
theorem dX3_voteAnswerComes_8 : decode cX3_voteAnswerComes 8 = .ok (.getfield 72, 3) := by decide +kernel
theorem dX3_voteAnswerComes_11 : decode cX3_voteAnswerComes 11 = .ok (.iconst 2, 1) := by decide +kernel
theorem dX3_voteAnswerComes_12 : decode cX3_voteAnswerComes 12 = .ok (.if_icmp .lt 20, 3) := by decide +kernel
theorem dX3_voteAnswerComes_15 : decode cX3_voteAnswerComes 15 = .ok (.aload_n 1, 1) := by decide +kernel
theorem dX3_voteAnswerComes_16 : decode cX3_voteAnswerComes 16 = .ok (.getfield 154, 3) := by decide +kernel
theorem dX3_voteAnswerComes_19 : decode cX3_voteAnswerComes 19 = .ok (.iload_n 3, 1) := by decide +kernel
theorem dX3_voteAnswerComes_20 : decode cX3_voteAnswerComes 20 = .ok (.dup2, 1) := by decide +kernel
theorem dX3_voteAnswerComes_21 : decode cX3_voteAnswerComes 21 = .ok (.iaload, 1) := by decide +kernel
theorem dX3_voteAnswerComes_22 : decode cX3_voteAnswerComes 22 = .ok (.iconst 1, 1) := by decide +kernel
theorem dX3_voteAnswerComes_23 : decode cX3_voteAnswerComes 23 = .ok (.iload_n 2, 1) := by decide +kernel
theorem dX3_voteAnswerComes_24 : decode cX3_voteAnswerComes 24 = .ok (.ishl, 1) := by decide +kernel
theorem dX3_voteAnswerComes_25 : decode cX3_voteAnswerComes 25 = .ok (.ior, 1) := by decide +kernel
theorem dX3_voteAnswerComes_26 : decode cX3_voteAnswerComes 26 = .ok (.iastore, 1) := by decide +kernel
theorem dX3_voteAnswerComes_27 : decode cX3_voteAnswerComes 27 = .ok (.aload_n 0, 1) := by decide +kernel
theorem dX3_voteAnswerComes_28 : decode cX3_voteAnswerComes 28 = .ok (.aload_n 1, 1) := by decide +kernel
theorem dX3_voteAnswerComes_29 : decode cX3_voteAnswerComes 29 = .ok (.invokevirtual 216, 3) := by decide +kernel
theorem dX3_voteAnswerComes_32 : decode cX3_voteAnswerComes 32 = .ok (.return_, 1) := by decide +kernel
theorem dX3_completeComes_0 : decode cX3_completeComes 0 = .ok (.aload_n 0, 1) := by decide +kernel
theorem dX3_completeComes_1 : decode cX3_completeComes 1 = .ok (.getfield 50, 3) := by decide +kernel
theorem dX3_completeComes_4 : decode cX3_completeComes 4 = .ok (.aload_n 1, 1) := by decide +kernel
theorem dX3_completeComes_5 : decode cX3_completeComes 5 = .ok (.getfield 145, 3) := by decide +kernel
theorem dX3_completeComes_8 : decode cX3_completeComes 8 = .ok (.if_icmp .eq 14, 3) := by decide +kernel
theorem dX3_completeComes_11 : decode cX3_completeComes 11 = .ok (.aload_n 0, 1) := by decide +kernel
theorem dX3_completeComes_12 : decode cX3_completeComes 12 = .ok (.getfield 50, 3) := by decide +kernel
theorem dX3_completeComes_15 : decode cX3_completeComes 15 = .ok (.aload_n 1, 1) := by decide +kernel
theorem dX3_completeComes_16 : decode cX3_completeComes 16 = .ok (.getfield 91, 3) := by decide +kernel
theorem dX3_completeComes_19 : decode cX3_completeComes 19 = .ok (.if_icmp .ne 27, 3) := by decide +kernel
theorem dX3_completeComes_22 : decode cX3_completeComes 22 = .ok (.aload_n 0, 1) := by decide +kernel
theorem dX3_completeComes_23 : decode cX3_completeComes 23 = .ok (.aload_n 1, 1) := by decide +kernel
theorem dX3_completeComes_24 : decode cX3_completeComes 24 = .ok (.getfield 91, 3) := by decide +kernel
theorem dX3_completeComes_27 : decode cX3_completeComes 27 = .ok (.putfield 50, 3) := by decide +kernel
theorem dX3_completeComes_30 : decode cX3_completeComes 30 = .ok (.aload_n 0, 1) := by decide +kernel
theorem dX3_completeComes_31 : decode cX3_completeComes 31 = .ok (.getfield 39, 3) := by decide +kernel
theorem dX3_completeComes_34 : decode cX3_completeComes 34 = .ok (.bipush 7, 2) := by decide +kernel
theorem dX3_completeComes_36 : decode cX3_completeComes 36 = .ok (.aload_n 1, 1) := by decide +kernel
theorem dX3_completeComes_37 : decode cX3_completeComes 37 = .ok (.getfield 91, 3) := by decide +kernel
theorem dX3_completeComes_40 : decode cX3_completeComes 40 = .ok (.iconst (-1), 1) := by decide +kernel
theorem dX3_completeComes_41 : decode cX3_completeComes 41 = .ok (.iconst (-1), 1) := by decide +kernel
theorem dX3_completeComes_42 : decode cX3_completeComes 42 = .ok (.lconst 0, 1) := by decide +kernel
theorem dX3_completeComes_43 : decode cX3_completeComes 43 = .ok (.invokevirtual 60, 3) := by decide +kernel
theorem dX3_completeComes_46 : decode cX3_completeComes 46 = .ok (.return_, 1) := by decide +kernel
theorem dX3_activeComes_0 : decode cX3_activeComes 0 = .ok (.aload_n 1, 1) := by decide +kernel
theorem dX3_activeComes_1 : decode cX3_activeComes 1 = .ok (.getfield 72, 3) := by decide +kernel
theorem dX3_activeComes_4 : decode cX3_activeComes 4 = .ok (.iconst 3, 1) := by decide +kernel
theorem dX3_activeComes_5 : decode cX3_activeComes 5 = .ok (.if_icmp .ne 8, 3) := by decide +kernel
theorem dX3_activeComes_8 : decode cX3_activeComes 8 = .ok (.aload_n 1, 1) := by decide +kernel
theorem dX3_activeComes_9 : decode cX3_activeComes 9 = .ok (.iconst 4, 1) := by decide +kernel
theorem dX3_activeComes_10 : decode cX3_activeComes 10 = .ok (.putfield 72, 3) := by decide +kernel
theorem dX3_activeComes_13 : decode cX3_activeComes 13 = .ok (.return_, 1) := by decide +kernel
theorem dX3_goOn_0 : decode cX3_goOn 0 = .ok (.aload_n 1, 1) := by decide +kernel
theorem dX3_goOn_1 : decode cX3_goOn 1 = .ok (.getfield 72, 3) := by decide +kernel
theorem dX3_goOn_4 : decode cX3_goOn 4 = .ok (.iconst 1, 1) := by decide +kernel
theorem dX3_goOn_5 : decode cX3_goOn 5 = .ok (.if_icmp .ne 22, 3) := by decide +kernel
theorem dX3_goOn_8 : decode cX3_goOn 8 = .ok (.aload_n 0, 1) := by decide +kernel
theorem dX3_goOn_9 : decode cX3_goOn 9 = .ok (.aload_n 1, 1) := by decide +kernel
theorem dX3_goOn_10 : decode cX3_goOn 10 = .ok (.invokevirtual 233, 3) := by decide +kernel
theorem dX3_goOn_13 : decode cX3_goOn 13 = .ok (.ifCond .eq 14, 3) := by decide +kernel
theorem dX3_goOn_16 : decode cX3_goOn 16 = .ok (.aload_n 1, 1) := by decide +kernel
theorem dX3_goOn_17 : decode cX3_goOn 17 = .ok (.iconst 2, 1) := by decide +kernel
theorem dX3_goOn_18 : decode cX3_goOn 18 = .ok (.putfield 72, 3) := by decide +kernel
theorem dX3_goOn_21 : decode cX3_goOn 21 = .ok (.aload_n 0, 1) := by decide +kernel
theorem dX3_goOn_22 : decode cX3_goOn 22 = .ok (.aload_n 1, 1) := by decide +kernel
theorem dX3_goOn_23 : decode cX3_goOn 23 = .ok (.invokevirtual 100, 3) := by decide +kernel
theorem dX3_goOn_26 : decode cX3_goOn 26 = .ok (.pop, 1) := by decide +kernel
theorem dX3_goOn_27 : decode cX3_goOn 27 = .ok (.aload_n 1, 1) := by decide +kernel
theorem dX3_goOn_28 : decode cX3_goOn 28 = .ok (.getfield 72, 3) := by decide +kernel
theorem dX3_goOn_31 : decode cX3_goOn 31 = .ok (.iconst 2, 1) := by decide +kernel
theorem dX3_goOn_32 : decode cX3_goOn 32 = .ok (.if_icmp .ne 38, 3) := by decide +kernel
theorem dX3_goOn_35 : decode cX3_goOn 35 = .ok (.aload_n 1, 1) := by decide +kernel
theorem dX3_goOn_36 : decode cX3_goOn 36 = .ok (.getfield 148, 3) := by decide +kernel
theorem dX3_goOn_39 : decode cX3_goOn 39 = .ok (.aload_n 1, 1) := by decide +kernel
theorem dX3_goOn_40 : decode cX3_goOn 40 = .ok (.invokevirtual 151, 3) := by decide +kernel
theorem dX3_goOn_43 : decode cX3_goOn 43 = .ok (.iconst (-1), 1) := by decide +kernel
theorem dX3_goOn_44 : decode cX3_goOn 44 = .ok (.ixor, 1) := by decide +kernel
theorem dX3_goOn_45 : decode cX3_goOn 45 = .ok (.iand, 1) := by decide +kernel
theorem dX3_goOn_46 : decode cX3_goOn 46 = .ok (.ifCond .ne 24, 3) := by decide +kernel
theorem dX3_goOn_49 : decode cX3_goOn 49 = .ok (.aload_n 1, 1) := by decide +kernel
theorem dX3_goOn_50 : decode cX3_goOn 50 = .ok (.iconst 3, 1) := by decide +kernel
theorem dX3_goOn_51 : decode cX3_goOn 51 = .ok (.putfield 72, 3) := by decide +kernel
theorem dX3_goOn_54 : decode cX3_goOn 54 = .ok (.aload_n 0, 1) := by decide +kernel
theorem dX3_goOn_55 : decode cX3_goOn 55 = .ok (.getfield 39, 3) := by decide +kernel
theorem dX3_goOn_58 : decode cX3_goOn 58 = .ok (.bipush 6, 2) := by decide +kernel
theorem dX3_goOn_60 : decode cX3_goOn 60 = .ok (.aload_n 1, 1) := by decide +kernel
theorem dX3_goOn_61 : decode cX3_goOn 61 = .ok (.getfield 91, 3) := by decide +kernel
theorem dX3_goOn_64 : decode cX3_goOn 64 = .ok (.iconst (-1), 1) := by decide +kernel
theorem dX3_goOn_65 : decode cX3_goOn 65 = .ok (.iconst (-1), 1) := by decide +kernel
theorem dX3_goOn_66 : decode cX3_goOn 66 = .ok (.lconst 0, 1) := by decide +kernel
theorem dX3_goOn_67 : decode cX3_goOn 67 = .ok (.invokevirtual 60, 3) := by decide +kernel
theorem dX3_goOn_70 : decode cX3_goOn 70 = .ok (.return_, 1) := by decide +kernel
theorem dX3_isReadingOver_0 : decode cX3_isReadingOver 0 = .ok (.iconst 1, 1) := by decide +kernel
theorem dX3_isReadingOver_1 : decode cX3_isReadingOver 1 = .ok (.aload_n 1, 1) := by decide +kernel
theorem dX3_isReadingOver_2 : decode cX3_isReadingOver 2 = .ok (.getfield 145, 3) := by decide +kernel
theorem dX3_isReadingOver_5 : decode cX3_isReadingOver 5 = .ok (.invokestatic 15, 3) := by decide +kernel
theorem dX3_isReadingOver_8 : decode cX3_isReadingOver 8 = .ok (.istore_n 2, 1) := by decide +kernel
theorem dX3_isReadingOver_9 : decode cX3_isReadingOver 9 = .ok (.iload_n 2, 1) := by decide +kernel
theorem dX3_isReadingOver_10 : decode cX3_isReadingOver 10 = .ok (.aload_n 1, 1) := by decide +kernel
theorem dX3_isReadingOver_11 : decode cX3_isReadingOver 11 = .ok (.getfield 91, 3) := by decide +kernel
theorem dX3_isReadingOver_14 : decode cX3_isReadingOver 14 = .ok (.if_icmp .ge 40, 3) := by decide +kernel
theorem dX3_isReadingOver_17 : decode cX3_isReadingOver 17 = .ok (.aload_n 0, 1) := by decide +kernel
theorem dX3_isReadingOver_18 : decode cX3_isReadingOver 18 = .ok (.iload_n 2, 1) := by decide +kernel
theorem dX3_isReadingOver_19 : decode cX3_isReadingOver 19 = .ok (.invokevirtual 64, 3) := by decide +kernel
theorem dX3_isReadingOver_22 : decode cX3_isReadingOver 22 = .ok (.astore_n 3, 1) := by decide +kernel
theorem dX3_isReadingOver_23 : decode cX3_isReadingOver 23 = .ok (.aload_n 3, 1) := by decide +kernel
theorem dX3_isReadingOver_24 : decode cX3_isReadingOver 24 = .ok (.ifnull 24, 3) := by decide +kernel
theorem dX3_isReadingOver_27 : decode cX3_isReadingOver 27 = .ok (.aload_n 3, 1) := by decide +kernel
theorem dX3_isReadingOver_28 : decode cX3_isReadingOver 28 = .ok (.getfield 84, 3) := by decide +kernel
theorem dX3_isReadingOver_31 : decode cX3_isReadingOver 31 = .ok (.aload_n 1, 1) := by decide +kernel
theorem dX3_isReadingOver_32 : decode cX3_isReadingOver 32 = .ok (.getfield 97, 3) := by decide +kernel
theorem dX3_isReadingOver_35 : decode cX3_isReadingOver 35 = .ok (.iand, 1) := by decide +kernel
theorem dX3_isReadingOver_36 : decode cX3_isReadingOver 36 = .ok (.invokestatic 183, 3) := by decide +kernel
theorem dX3_isReadingOver_39 : decode cX3_isReadingOver 39 = .ok (.aload_n 3, 1) := by decide +kernel
theorem dX3_isReadingOver_40 : decode cX3_isReadingOver 40 = .ok (.getfield 139, 3) := by decide +kernel
theorem dX3_isReadingOver_43 : decode cX3_isReadingOver 43 = .ok (.if_icmp .ge 5, 3) := by decide +kernel
theorem dX3_isReadingOver_46 : decode cX3_isReadingOver 46 = .ok (.iconst 0, 1) := by decide +kernel
theorem dX3_isReadingOver_47 : decode cX3_isReadingOver 47 = .ok (.ireturn, 1) := by decide +kernel
theorem dX3_isReadingOver_48 : decode cX3_isReadingOver 48 = .ok (.iinc 2 1, 3) := by decide +kernel
theorem dX3_isReadingOver_51 : decode cX3_isReadingOver 51 = .ok (.goto (-42), 3) := by decide +kernel
theorem dX3_isReadingOver_54 : decode cX3_isReadingOver 54 = .ok (.iconst 1, 1) := by decide +kernel
theorem dX3_isReadingOver_55 : decode cX3_isReadingOver 55 = .ok (.ireturn, 1) := by decide +kernel
theorem dJ6_bitCount_0f7a4_0 : decode cJ6_bitCount_0f7a4 0 = .ok (.iload_n 0, 1) := by decide +kernel
theorem dJ6_bitCount_0f7a4_1 : decode cJ6_bitCount_0f7a4 1 = .ok (.iload_n 0, 1) := by decide +kernel
theorem dJ6_bitCount_0f7a4_2 : decode cJ6_bitCount_0f7a4 2 = .ok (.iconst 1, 1) := by decide +kernel
theorem dJ6_bitCount_0f7a4_3 : decode cJ6_bitCount_0f7a4 3 = .ok (.iushr, 1) := by decide +kernel
theorem dJ6_bitCount_0f7a4_4 : decode cJ6_bitCount_0f7a4 4 = .ok (.ldc_w 265, 3) := by decide +kernel
theorem dJ6_bitCount_0f7a4_7 : decode cJ6_bitCount_0f7a4 7 = .ok (.iand, 1) := by decide +kernel
theorem dJ6_bitCount_0f7a4_8 : decode cJ6_bitCount_0f7a4 8 = .ok (.isub, 1) := by decide +kernel
theorem dJ6_bitCount_0f7a4_9 : decode cJ6_bitCount_0f7a4 9 = .ok (.istore_n 0, 1) := by decide +kernel
theorem dJ6_bitCount_0f7a4_10 : decode cJ6_bitCount_0f7a4 10 = .ok (.iload_n 0, 1) := by decide +kernel
theorem dJ6_bitCount_0f7a4_11 : decode cJ6_bitCount_0f7a4 11 = .ok (.ldc_w 266, 3) := by decide +kernel
theorem dJ6_bitCount_0f7a4_14 : decode cJ6_bitCount_0f7a4 14 = .ok (.iand, 1) := by decide +kernel
theorem dJ6_bitCount_0f7a4_15 : decode cJ6_bitCount_0f7a4 15 = .ok (.iload_n 0, 1) := by decide +kernel
theorem dJ6_bitCount_0f7a4_16 : decode cJ6_bitCount_0f7a4 16 = .ok (.iconst 2, 1) := by decide +kernel
theorem dJ6_bitCount_0f7a4_17 : decode cJ6_bitCount_0f7a4 17 = .ok (.iushr, 1) := by decide +kernel
theorem dJ6_bitCount_0f7a4_18 : decode cJ6_bitCount_0f7a4 18 = .ok (.ldc_w 266, 3) := by decide +kernel
theorem dJ6_bitCount_0f7a4_21 : decode cJ6_bitCount_0f7a4 21 = .ok (.iand, 1) := by decide +kernel
theorem dJ6_bitCount_0f7a4_22 : decode cJ6_bitCount_0f7a4 22 = .ok (.iadd, 1) := by decide +kernel
theorem dJ6_bitCount_0f7a4_23 : decode cJ6_bitCount_0f7a4 23 = .ok (.istore_n 0, 1) := by decide +kernel
theorem dJ6_bitCount_0f7a4_24 : decode cJ6_bitCount_0f7a4 24 = .ok (.iload_n 0, 1) := by decide +kernel
theorem dJ6_bitCount_0f7a4_25 : decode cJ6_bitCount_0f7a4 25 = .ok (.iload_n 0, 1) := by decide +kernel
theorem dJ6_bitCount_0f7a4_26 : decode cJ6_bitCount_0f7a4 26 = .ok (.iconst 4, 1) := by decide +kernel
theorem dJ6_bitCount_0f7a4_27 : decode cJ6_bitCount_0f7a4 27 = .ok (.iushr, 1) := by decide +kernel
theorem dJ6_bitCount_0f7a4_28 : decode cJ6_bitCount_0f7a4 28 = .ok (.iadd, 1) := by decide +kernel
theorem dJ6_bitCount_0f7a4_29 : decode cJ6_bitCount_0f7a4 29 = .ok (.ldc_w 267, 3) := by decide +kernel
theorem dJ6_bitCount_0f7a4_32 : decode cJ6_bitCount_0f7a4 32 = .ok (.iand, 1) := by decide +kernel
theorem dJ6_bitCount_0f7a4_33 : decode cJ6_bitCount_0f7a4 33 = .ok (.istore_n 0, 1) := by decide +kernel
theorem dJ6_bitCount_0f7a4_34 : decode cJ6_bitCount_0f7a4 34 = .ok (.iload_n 0, 1) := by decide +kernel
theorem dJ6_bitCount_0f7a4_35 : decode cJ6_bitCount_0f7a4 35 = .ok (.iload_n 0, 1) := by decide +kernel
theorem dJ6_bitCount_0f7a4_36 : decode cJ6_bitCount_0f7a4 36 = .ok (.bipush 8, 2) := by decide +kernel
theorem dJ6_bitCount_0f7a4_38 : decode cJ6_bitCount_0f7a4 38 = .ok (.iushr, 1) := by decide +kernel
theorem dJ6_bitCount_0f7a4_39 : decode cJ6_bitCount_0f7a4 39 = .ok (.iadd, 1) := by decide +kernel
theorem dJ6_bitCount_0f7a4_40 : decode cJ6_bitCount_0f7a4 40 = .ok (.istore_n 0, 1) := by decide +kernel
theorem dJ6_bitCount_0f7a4_41 : decode cJ6_bitCount_0f7a4 41 = .ok (.iload_n 0, 1) := by decide +kernel
theorem dJ6_bitCount_0f7a4_42 : decode cJ6_bitCount_0f7a4 42 = .ok (.iload_n 0, 1) := by decide +kernel
theorem dJ6_bitCount_0f7a4_43 : decode cJ6_bitCount_0f7a4 43 = .ok (.bipush 16, 2) := by decide +kernel
theorem dJ6_bitCount_0f7a4_45 : decode cJ6_bitCount_0f7a4 45 = .ok (.iushr, 1) := by decide +kernel
theorem dJ6_bitCount_0f7a4_46 : decode cJ6_bitCount_0f7a4 46 = .ok (.iadd, 1) := by decide +kernel
theorem dJ6_bitCount_0f7a4_47 : decode cJ6_bitCount_0f7a4 47 = .ok (.istore_n 0, 1) := by decide +kernel
theorem dJ6_bitCount_0f7a4_48 : decode cJ6_bitCount_0f7a4 48 = .ok (.iload_n 0, 1) := by decide +kernel
theorem dJ6_bitCount_0f7a4_49 : decode cJ6_bitCount_0f7a4 49 = .ok (.bipush 63, 2) := by decide +kernel
theorem dJ6_bitCount_0f7a4_51 : decode cJ6_bitCount_0f7a4 51 = .ok (.iand, 1) := by decide +kernel
theorem dJ6_bitCount_0f7a4_52 : decode cJ6_bitCount_0f7a4 52 = .ok (.ireturn, 1) := by decide +kernel
theorem dJ9_max_7cf53_0 : decode cJ9_max_7cf53 0 = .ok (.iload_n 0, 1) := by decide +kernel
theorem dJ9_max_7cf53_1 : decode cJ9_max_7cf53 1 = .ok (.iload_n 1, 1) := by decide +kernel
theorem dJ9_max_7cf53_2 : decode cJ9_max_7cf53 2 = .ok (.if_icmp .lt 7, 3) := by decide +kernel
theorem dJ9_max_7cf53_5 : decode cJ9_max_7cf53 5 = .ok (.iload_n 0, 1) := by decide +kernel
theorem dJ9_max_7cf53_6 : decode cJ9_max_7cf53 6 = .ok (.goto 4, 3) := by decide +kernel
theorem dJ9_max_7cf53_9 : decode cJ9_max_7cf53 9 = .ok (.iload_n 1, 1) := by decide +kernel
theorem dJ9_max_7cf53_10 : decode cJ9_max_7cf53 10 = .ok (.ireturn, 1) := by decide +kernel
theorem dJ9_min_7cf53_0 : decode cJ9_min_7cf53 0 = .ok (.iload_n 0, 1) := by decide +kernel
theorem dJ9_min_7cf53_1 : decode cJ9_min_7cf53 1 = .ok (.iload_n 1, 1) := by decide +kernel
theorem dJ9_min_7cf53_2 : decode cJ9_min_7cf53 2 = .ok (.if_icmp .gt 7, 3) := by decide +kernel
theorem dJ9_min_7cf53_5 : decode cJ9_min_7cf53 5 = .ok (.iload_n 0, 1) := by decide +kernel
theorem dJ9_min_7cf53_6 : decode cJ9_min_7cf53 6 = .ok (.goto 4, 3) := by decide +kernel
theorem dJ9_min_7cf53_9 : decode cJ9_min_7cf53 9 = .ok (.iload_n 1, 1) := by decide +kernel
theorem dJ9_min_7cf53_10 : decode cJ9_min_7cf53 10 = .ok (.ireturn, 1) := by decide +kernel
