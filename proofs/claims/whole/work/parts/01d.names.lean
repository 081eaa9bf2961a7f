theorem dX5_init_0 : decode cX5_init 0 = .ok (.aload_n 0, 1) := by decide +kernel
theorem dX5_init_1 : decode cX5_init 1 = .ok (.invokespecial 1, 3) := by decide +kernel
theorem dX5_init_4 : decode cX5_init 4 = .ok (.aload_n 0, 1) := by decide +kernel
theorem dX5_init_5 : decode cX5_init 5 = .ok (.sipush 160, 3) := by decide +kernel
theorem dX5_init_8 : decode cX5_init 8 = .ok (.newarray .int, 2) := by decide +kernel
theorem dX5_init_10 : decode cX5_init 10 = .ok (.putfield 7, 3) := by decide +kernel
theorem dX5_init_13 : decode cX5_init 13 = .ok (.aload_n 0, 1) := by decide +kernel
theorem dX5_init_14 : decode cX5_init 14 = .ok (.bipush 8, 2) := by decide +kernel
theorem dX5_init_16 : decode cX5_init 16 = .ok (.newarray .int, 2) := by decide +kernel
theorem dX5_init_18 : decode cX5_init 18 = .ok (.putfield 13, 3) := by decide +kernel
theorem dX5_init_21 : decode cX5_init 21 = .ok (.aload_n 0, 1) := by decide +kernel
theorem dX5_init_22 : decode cX5_init 22 = .ok (.sipush 256, 3) := by decide +kernel
theorem dX5_init_25 : decode cX5_init 25 = .ok (.newarray .int, 2) := by decide +kernel
theorem dX5_init_27 : decode cX5_init 27 = .ok (.putfield 16, 3) := by decide +kernel
theorem dX5_init_30 : decode cX5_init 30 = .ok (.aload_n 0, 1) := by decide +kernel
theorem dX5_init_31 : decode cX5_init 31 = .ok (.bipush 80, 2) := by decide +kernel
theorem dX5_init_33 : decode cX5_init 33 = .ok (.newarray .int, 2) := by decide +kernel
theorem dX5_init_35 : decode cX5_init 35 = .ok (.putfield 19, 3) := by decide +kernel
theorem dX5_init_38 : decode cX5_init 38 = .ok (.aload_n 0, 1) := by decide +kernel
theorem dX5_init_39 : decode cX5_init 39 = .ok (.bipush 80, 2) := by decide +kernel
theorem dX5_init_41 : decode cX5_init 41 = .ok (.newarray .double, 2) := by decide +kernel
theorem dX5_init_43 : decode cX5_init 43 = .ok (.putfield 22, 3) := by decide +kernel
theorem dX5_init_46 : decode cX5_init 46 = .ok (.aload_n 0, 1) := by decide +kernel
theorem dX5_init_47 : decode cX5_init 47 = .ok (.bipush 80, 2) := by decide +kernel
theorem dX5_init_49 : decode cX5_init 49 = .ok (.newarray .int, 2) := by decide +kernel
theorem dX5_init_51 : decode cX5_init 51 = .ok (.putfield 26, 3) := by decide +kernel
theorem dX5_init_54 : decode cX5_init 54 = .ok (.aload_n 0, 1) := by decide +kernel
theorem dX5_init_55 : decode cX5_init 55 = .ok (.bipush 16, 2) := by decide +kernel
theorem dX5_init_57 : decode cX5_init 57 = .ok (.newarray .int, 2) := by decide +kernel
theorem dX5_init_59 : decode cX5_init 59 = .ok (.putfield 29, 3) := by decide +kernel
theorem dX5_init_62 : decode cX5_init 62 = .ok (.aload_n 0, 1) := by decide +kernel
theorem dX5_init_63 : decode cX5_init 63 = .ok (.iconst 5, 1) := by decide +kernel
theorem dX5_init_64 : decode cX5_init 64 = .ok (.newarray .int, 2) := by decide +kernel
theorem dX5_init_66 : decode cX5_init 66 = .ok (.putfield 32, 3) := by decide +kernel
theorem dX5_init_69 : decode cX5_init 69 = .ok (.iconst 0, 1) := by decide +kernel
theorem dX5_init_70 : decode cX5_init 70 = .ok (.istore_n 1, 1) := by decide +kernel
theorem dX5_init_71 : decode cX5_init 71 = .ok (.iload_n 1, 1) := by decide +kernel
theorem dX5_init_72 : decode cX5_init 72 = .ok (.sipush 256, 3) := by decide +kernel
theorem dX5_init_75 : decode cX5_init 75 = .ok (.if_icmp .ge 56, 3) := by decide +kernel
theorem dX5_init_78 : decode cX5_init 78 = .ok (.iload_n 1, 1) := by decide +kernel
theorem dX5_init_79 : decode cX5_init 79 = .ok (.ldc 35, 2) := by decide +kernel
theorem dX5_init_81 : decode cX5_init 81 = .ok (.imul, 1) := by decide +kernel
theorem dX5_init_82 : decode cX5_init 82 = .ok (.istore_n 2, 1) := by decide +kernel
theorem dX5_init_83 : decode cX5_init 83 = .ok (.iconst 0, 1) := by decide +kernel
theorem dX5_init_84 : decode cX5_init 84 = .ok (.istore_n 3, 1) := by decide +kernel
theorem dX5_init_85 : decode cX5_init 85 = .ok (.iload_n 3, 1) := by decide +kernel
theorem dX5_init_86 : decode cX5_init 86 = .ok (.bipush 8, 2) := by decide +kernel
theorem dX5_init_88 : decode cX5_init 88 = .ok (.if_icmp .ge 30, 3) := by decide +kernel
theorem dX5_init_91 : decode cX5_init 91 = .ok (.iconst 2, 1) := by decide +kernel
theorem dX5_init_92 : decode cX5_init 92 = .ok (.iload_n 2, 1) := by decide +kernel
theorem dX5_init_93 : decode cX5_init 93 = .ok (.imul, 1) := by decide +kernel
theorem dX5_init_94 : decode cX5_init 94 = .ok (.ldc 36, 2) := by decide +kernel
theorem dX5_init_96 : decode cX5_init 96 = .ok (.if_icmp .lt 12, 3) := by decide +kernel
theorem dX5_init_99 : decode cX5_init 99 = .ok (.iconst 2, 1) := by decide +kernel
theorem dX5_init_100 : decode cX5_init 100 = .ok (.iload_n 2, 1) := by decide +kernel
theorem dX5_init_101 : decode cX5_init 101 = .ok (.imul, 1) := by decide +kernel
theorem dX5_init_102 : decode cX5_init 102 = .ok (.ldc 37, 2) := by decide +kernel
theorem dX5_init_104 : decode cX5_init 104 = .ok (.ixor, 1) := by decide +kernel
theorem dX5_init_105 : decode cX5_init 105 = .ok (.goto 6, 3) := by decide +kernel
theorem dX5_init_108 : decode cX5_init 108 = .ok (.iconst 2, 1) := by decide +kernel
theorem dX5_init_109 : decode cX5_init 109 = .ok (.iload_n 2, 1) := by decide +kernel
theorem dX5_init_110 : decode cX5_init 110 = .ok (.imul, 1) := by decide +kernel
theorem dX5_init_111 : decode cX5_init 111 = .ok (.istore_n 2, 1) := by decide +kernel
theorem dX5_init_112 : decode cX5_init 112 = .ok (.iinc 3 1, 3) := by decide +kernel
theorem dX5_init_115 : decode cX5_init 115 = .ok (.goto (-30), 3) := by decide +kernel
theorem dX5_init_118 : decode cX5_init 118 = .ok (.aload_n 0, 1) := by decide +kernel
theorem dX5_init_119 : decode cX5_init 119 = .ok (.getfield 16, 3) := by decide +kernel
theorem dX5_init_122 : decode cX5_init 122 = .ok (.iload_n 1, 1) := by decide +kernel
theorem dX5_init_123 : decode cX5_init 123 = .ok (.iload_n 2, 1) := by decide +kernel
theorem dX5_init_124 : decode cX5_init 124 = .ok (.iastore, 1) := by decide +kernel
theorem dX5_init_125 : decode cX5_init 125 = .ok (.iinc 1 1, 3) := by decide +kernel
theorem dX5_init_128 : decode cX5_init 128 = .ok (.goto (-57), 3) := by decide +kernel
theorem dX5_init_131 : decode cX5_init 131 = .ok (.return_, 1) := by decide +kernel
theorem dX5_longer_0 : decode cX5_longer 0 = .ok (.iload_n 1, 1) := by decide +kernel
theorem dX5_longer_1 : decode cX5_longer 1 = .ok (.ldc 35, 2) := by decide +kernel
theorem dX5_longer_3 : decode cX5_longer 3 = .ok (.irem, 1) := by decide +kernel
theorem dX5_longer_4 : decode cX5_longer 4 = .ok (.sipush 256, 3) := by decide +kernel
theorem dX5_longer_7 : decode cX5_longer 7 = .ok (.imul, 1) := by decide +kernel
theorem dX5_longer_8 : decode cX5_longer 8 = .ok (.aload_n 0, 1) := by decide +kernel
theorem dX5_longer_9 : decode cX5_longer 9 = .ok (.getfield 16, 3) := by decide +kernel
theorem dX5_longer_12 : decode cX5_longer 12 = .ok (.iload_n 1, 1) := by decide +kernel
theorem dX5_longer_13 : decode cX5_longer 13 = .ok (.ldc 35, 2) := by decide +kernel
theorem dX5_longer_15 : decode cX5_longer 15 = .ok (.idiv, 1) := by decide +kernel
theorem dX5_longer_16 : decode cX5_longer 16 = .ok (.iload_n 2, 1) := by decide +kernel
theorem dX5_longer_17 : decode cX5_longer 17 = .ok (.ixor, 1) := by decide +kernel
theorem dX5_longer_18 : decode cX5_longer 18 = .ok (.iaload, 1) := by decide +kernel
theorem dX5_longer_19 : decode cX5_longer 19 = .ok (.ixor, 1) := by decide +kernel
theorem dX5_longer_20 : decode cX5_longer 20 = .ok (.ireturn, 1) := by decide +kernel
set_option maxRecDepth 20000 in
theorem ggX5_isLongRight_X5_longer : GoodIn wsX5_isLongRight wsX5_longer := goodIn_r _ [7, 2, 8, 9, 10, 11, 12, 13, 14, 15, 16, 17] (by decide +kernel) (by decide +kernel)
set_option maxRecDepth 20000 in
theorem gX5_isLongRight_X5_longer : GoodIn wsX5_isLongRight (wsV RX5 38 RX5 yX5_longer wsX5_longer) := goodIn_app (goodIn_of _ (by decide +kernel)) ggX5_isLongRight_X5_longer
theorem dX5_isLongRight_0 : decode cX5_isLongRight 0 = .ok (.iconst 0, 1) := by decide +kernel
theorem dX5_isLongRight_1 : decode cX5_isLongRight 1 = .ok (.istore_n 2, 1) := by decide +kernel
theorem dX5_isLongRight_2 : decode cX5_isLongRight 2 = .ok (.iconst 0, 1) := by decide +kernel
theorem dX5_isLongRight_3 : decode cX5_isLongRight 3 = .ok (.istore_n 3, 1) := by decide +kernel
theorem dX5_isLongRight_4 : decode cX5_isLongRight 4 = .ok (.iload_n 3, 1) := by decide +kernel
theorem dX5_isLongRight_5 : decode cX5_isLongRight 5 = .ok (.iload_n 1, 1) := by decide +kernel
theorem dX5_isLongRight_6 : decode cX5_isLongRight 6 = .ok (.iconst 3, 1) := by decide +kernel
theorem dX5_isLongRight_7 : decode cX5_isLongRight 7 = .ok (.isub, 1) := by decide +kernel
theorem dX5_isLongRight_8 : decode cX5_isLongRight 8 = .ok (.if_icmp .ge 21, 3) := by decide +kernel
theorem dX5_isLongRight_11 : decode cX5_isLongRight 11 = .ok (.aload_n 0, 1) := by decide +kernel
theorem dX5_isLongRight_12 : decode cX5_isLongRight 12 = .ok (.iload_n 2, 1) := by decide +kernel
theorem dX5_isLongRight_13 : decode cX5_isLongRight 13 = .ok (.aload_n 0, 1) := by decide +kernel
theorem dX5_isLongRight_14 : decode cX5_isLongRight 14 = .ok (.getfield 7, 3) := by decide +kernel
theorem dX5_isLongRight_17 : decode cX5_isLongRight 17 = .ok (.iload_n 3, 1) := by decide +kernel
theorem dX5_isLongRight_18 : decode cX5_isLongRight 18 = .ok (.iaload, 1) := by decide +kernel
theorem dX5_isLongRight_19 : decode cX5_isLongRight 19 = .ok (.invokevirtual 38, 3) := by decide +kernel
theorem dX5_isLongRight_22 : decode cX5_isLongRight 22 = .ok (.istore_n 2, 1) := by decide +kernel
theorem dX5_isLongRight_23 : decode cX5_isLongRight 23 = .ok (.iinc 3 1, 3) := by decide +kernel
theorem dX5_isLongRight_26 : decode cX5_isLongRight 26 = .ok (.goto (-22), 3) := by decide +kernel
theorem dX5_isLongRight_29 : decode cX5_isLongRight 29 = .ok (.iload_n 2, 1) := by decide +kernel
theorem dX5_isLongRight_30 : decode cX5_isLongRight 30 = .ok (.ldc 35, 2) := by decide +kernel
theorem dX5_isLongRight_32 : decode cX5_isLongRight 32 = .ok (.aload_n 0, 1) := by decide +kernel
theorem dX5_isLongRight_33 : decode cX5_isLongRight 33 = .ok (.getfield 7, 3) := by decide +kernel
theorem dX5_isLongRight_36 : decode cX5_isLongRight 36 = .ok (.iload_n 1, 1) := by decide +kernel
theorem dX5_isLongRight_37 : decode cX5_isLongRight 37 = .ok (.iconst 3, 1) := by decide +kernel
theorem dX5_isLongRight_38 : decode cX5_isLongRight 38 = .ok (.isub, 1) := by decide +kernel
theorem dX5_isLongRight_39 : decode cX5_isLongRight 39 = .ok (.iaload, 1) := by decide +kernel
theorem dX5_isLongRight_40 : decode cX5_isLongRight 40 = .ok (.imul, 1) := by decide +kernel
theorem dX5_isLongRight_41 : decode cX5_isLongRight 41 = .ok (.sipush 256, 3) := by decide +kernel
theorem dX5_isLongRight_44 : decode cX5_isLongRight 44 = .ok (.aload_n 0, 1) := by decide +kernel
theorem dX5_isLongRight_45 : decode cX5_isLongRight 45 = .ok (.getfield 7, 3) := by decide +kernel
theorem dX5_isLongRight_48 : decode cX5_isLongRight 48 = .ok (.iload_n 1, 1) := by decide +kernel
theorem dX5_isLongRight_49 : decode cX5_isLongRight 49 = .ok (.iconst 2, 1) := by decide +kernel
theorem dX5_isLongRight_50 : decode cX5_isLongRight 50 = .ok (.isub, 1) := by decide +kernel
theorem dX5_isLongRight_51 : decode cX5_isLongRight 51 = .ok (.iaload, 1) := by decide +kernel
theorem dX5_isLongRight_52 : decode cX5_isLongRight 52 = .ok (.imul, 1) := by decide +kernel
theorem dX5_isLongRight_53 : decode cX5_isLongRight 53 = .ok (.iadd, 1) := by decide +kernel
theorem dX5_isLongRight_54 : decode cX5_isLongRight 54 = .ok (.aload_n 0, 1) := by decide +kernel
theorem dX5_isLongRight_55 : decode cX5_isLongRight 55 = .ok (.getfield 7, 3) := by decide +kernel
theorem dX5_isLongRight_58 : decode cX5_isLongRight 58 = .ok (.iload_n 1, 1) := by decide +kernel
theorem dX5_isLongRight_59 : decode cX5_isLongRight 59 = .ok (.iconst 1, 1) := by decide +kernel
theorem dX5_isLongRight_60 : decode cX5_isLongRight 60 = .ok (.isub, 1) := by decide +kernel
theorem dX5_isLongRight_61 : decode cX5_isLongRight 61 = .ok (.iaload, 1) := by decide +kernel
theorem dX5_isLongRight_62 : decode cX5_isLongRight 62 = .ok (.iadd, 1) := by decide +kernel
theorem dX5_isLongRight_63 : decode cX5_isLongRight 63 = .ok (.if_icmp .ne 7, 3) := by decide +kernel
theorem dX5_isLongRight_66 : decode cX5_isLongRight 66 = .ok (.iconst 1, 1) := by decide +kernel
theorem dX5_isLongRight_67 : decode cX5_isLongRight 67 = .ok (.goto 4, 3) := by decide +kernel
theorem dX5_isLongRight_70 : decode cX5_isLongRight 70 = .ok (.iconst 0, 1) := by decide +kernel
theorem dX5_isLongRight_71 : decode cX5_isLongRight 71 = .ok (.ireturn, 1) := by decide +kernel
theorem dX5_isShortRight_0 : decode cX5_isShortRight 0 = .ok (.iconst 0, 1) := by decide +kernel
theorem dX5_isShortRight_1 : decode cX5_isShortRight 1 = .ok (.istore_n 2, 1) := by decide +kernel
theorem dX5_isShortRight_2 : decode cX5_isShortRight 2 = .ok (.iconst 0, 1) := by decide +kernel
theorem dX5_isShortRight_3 : decode cX5_isShortRight 3 = .ok (.istore_n 3, 1) := by decide +kernel
theorem dX5_isShortRight_4 : decode cX5_isShortRight 4 = .ok (.iconst 2, 1) := by decide +kernel
theorem dX5_isShortRight_5 : decode cX5_isShortRight 5 = .ok (.istore 4, 2) := by decide +kernel
theorem dX5_isShortRight_7 : decode cX5_isShortRight 7 = .ok (.iload 4, 2) := by decide +kernel
theorem dX5_isShortRight_9 : decode cX5_isShortRight 9 = .ok (.iload_n 1, 1) := by decide +kernel
theorem dX5_isShortRight_10 : decode cX5_isShortRight 10 = .ok (.iconst 2, 1) := by decide +kernel
theorem dX5_isShortRight_11 : decode cX5_isShortRight 11 = .ok (.isub, 1) := by decide +kernel
theorem dX5_isShortRight_12 : decode cX5_isShortRight 12 = .ok (.if_icmp .ge 23, 3) := by decide +kernel
theorem dX5_isShortRight_15 : decode cX5_isShortRight 15 = .ok (.iload_n 2, 1) := by decide +kernel
theorem dX5_isShortRight_16 : decode cX5_isShortRight 16 = .ok (.aload_n 0, 1) := by decide +kernel
theorem dX5_isShortRight_17 : decode cX5_isShortRight 17 = .ok (.getfield 7, 3) := by decide +kernel
theorem dX5_isShortRight_20 : decode cX5_isShortRight 20 = .ok (.iload 4, 2) := by decide +kernel
theorem dX5_isShortRight_22 : decode cX5_isShortRight 22 = .ok (.iaload, 1) := by decide +kernel
theorem dX5_isShortRight_23 : decode cX5_isShortRight 23 = .ok (.iadd, 1) := by decide +kernel
theorem dX5_isShortRight_24 : decode cX5_isShortRight 24 = .ok (.istore_n 2, 1) := by decide +kernel
theorem dX5_isShortRight_25 : decode cX5_isShortRight 25 = .ok (.iload_n 3, 1) := by decide +kernel
theorem dX5_isShortRight_26 : decode cX5_isShortRight 26 = .ok (.iload_n 2, 1) := by decide +kernel
theorem dX5_isShortRight_27 : decode cX5_isShortRight 27 = .ok (.iadd, 1) := by decide +kernel
theorem dX5_isShortRight_28 : decode cX5_isShortRight 28 = .ok (.istore_n 3, 1) := by decide +kernel
theorem dX5_isShortRight_29 : decode cX5_isShortRight 29 = .ok (.iinc 4 1, 3) := by decide +kernel
theorem dX5_isShortRight_32 : decode cX5_isShortRight 32 = .ok (.goto (-25), 3) := by decide +kernel
theorem dX5_isShortRight_35 : decode cX5_isShortRight 35 = .ok (.iload_n 2, 1) := by decide +kernel
theorem dX5_isShortRight_36 : decode cX5_isShortRight 36 = .ok (.sipush 256, 3) := by decide +kernel
theorem dX5_isShortRight_39 : decode cX5_isShortRight 39 = .ok (.irem, 1) := by decide +kernel
theorem dX5_isShortRight_40 : decode cX5_isShortRight 40 = .ok (.aload_n 0, 1) := by decide +kernel
theorem dX5_isShortRight_41 : decode cX5_isShortRight 41 = .ok (.getfield 7, 3) := by decide +kernel
theorem dX5_isShortRight_44 : decode cX5_isShortRight 44 = .ok (.iload_n 1, 1) := by decide +kernel
theorem dX5_isShortRight_45 : decode cX5_isShortRight 45 = .ok (.iconst 2, 1) := by decide +kernel
theorem dX5_isShortRight_46 : decode cX5_isShortRight 46 = .ok (.isub, 1) := by decide +kernel
theorem dX5_isShortRight_47 : decode cX5_isShortRight 47 = .ok (.iaload, 1) := by decide +kernel
theorem dX5_isShortRight_48 : decode cX5_isShortRight 48 = .ok (.if_icmp .ne 23, 3) := by decide +kernel
theorem dX5_isShortRight_51 : decode cX5_isShortRight 51 = .ok (.iload_n 3, 1) := by decide +kernel
theorem dX5_isShortRight_52 : decode cX5_isShortRight 52 = .ok (.sipush 256, 3) := by decide +kernel
theorem dX5_isShortRight_55 : decode cX5_isShortRight 55 = .ok (.irem, 1) := by decide +kernel
theorem dX5_isShortRight_56 : decode cX5_isShortRight 56 = .ok (.aload_n 0, 1) := by decide +kernel
theorem dX5_isShortRight_57 : decode cX5_isShortRight 57 = .ok (.getfield 7, 3) := by decide +kernel
theorem dX5_isShortRight_60 : decode cX5_isShortRight 60 = .ok (.iload_n 1, 1) := by decide +kernel
theorem dX5_isShortRight_61 : decode cX5_isShortRight 61 = .ok (.iconst 1, 1) := by decide +kernel
theorem dX5_isShortRight_62 : decode cX5_isShortRight 62 = .ok (.isub, 1) := by decide +kernel
theorem dX5_isShortRight_63 : decode cX5_isShortRight 63 = .ok (.iaload, 1) := by decide +kernel
theorem dX5_isShortRight_64 : decode cX5_isShortRight 64 = .ok (.if_icmp .ne 7, 3) := by decide +kernel
theorem dX5_isShortRight_67 : decode cX5_isShortRight 67 = .ok (.iconst 1, 1) := by decide +kernel
theorem dX5_isShortRight_68 : decode cX5_isShortRight 68 = .ok (.goto 4, 3) := by decide +kernel
theorem dX5_isShortRight_71 : decode cX5_isShortRight 71 = .ok (.iconst 0, 1) := by decide +kernel
theorem dX5_isShortRight_72 : decode cX5_isShortRight 72 = .ok (.ireturn, 1) := by decide +kernel
theorem dX5_frame_0 : decode cX5_frame 0 = .ok (.aload_n 0, 1) := by decide +kernel
theorem dX5_frame_1 : decode cX5_frame 1 = .ok (.getfield 7, 3) := by decide +kernel
theorem dX5_frame_4 : decode cX5_frame 4 = .ok (.iconst 0, 1) := by decide +kernel
theorem dX5_frame_5 : decode cX5_frame 5 = .ok (.iaload, 1) := by decide +kernel
theorem dX5_frame_6 : decode cX5_frame 6 = .ok (.sipush 211, 3) := by decide +kernel
theorem dX5_frame_9 : decode cX5_frame 9 = .ok (.if_icmp .ne 75, 3) := by decide +kernel
theorem dX5_frame_12 : decode cX5_frame 12 = .ok (.aload_n 0, 1) := by decide +kernel
theorem dX5_frame_13 : decode cX5_frame 13 = .ok (.getfield 42, 3) := by decide +kernel
theorem dX5_frame_16 : decode cX5_frame 16 = .ok (.iconst 1, 1) := by decide +kernel
theorem dX5_frame_17 : decode cX5_frame 17 = .ok (.if_icmp .le 12, 3) := by decide +kernel
theorem dX5_frame_20 : decode cX5_frame 20 = .ok (.aload_n 0, 1) := by decide +kernel
theorem dX5_frame_21 : decode cX5_frame 21 = .ok (.getfield 7, 3) := by decide +kernel
theorem dX5_frame_24 : decode cX5_frame 24 = .ok (.iconst 1, 1) := by decide +kernel
theorem dX5_frame_25 : decode cX5_frame 25 = .ok (.iaload, 1) := by decide +kernel
theorem dX5_frame_26 : decode cX5_frame 26 = .ok (.ifCond .gt 22, 3) := by decide +kernel
theorem dX5_frame_29 : decode cX5_frame 29 = .ok (.aload_n 0, 1) := by decide +kernel
theorem dX5_frame_30 : decode cX5_frame 30 = .ok (.getfield 42, 3) := by decide +kernel
theorem dX5_frame_33 : decode cX5_frame 33 = .ok (.iconst 2, 1) := by decide +kernel
theorem dX5_frame_34 : decode cX5_frame 34 = .ok (.if_icmp .le 18, 3) := by decide +kernel
theorem dX5_frame_37 : decode cX5_frame 37 = .ok (.aload_n 0, 1) := by decide +kernel
theorem dX5_frame_38 : decode cX5_frame 38 = .ok (.getfield 7, 3) := by decide +kernel
theorem dX5_frame_41 : decode cX5_frame 41 = .ok (.iconst 2, 1) := by decide +kernel
theorem dX5_frame_42 : decode cX5_frame 42 = .ok (.iaload, 1) := by decide +kernel
theorem dX5_frame_43 : decode cX5_frame 43 = .ok (.bipush 90, 2) := by decide +kernel
theorem dX5_frame_45 : decode cX5_frame 45 = .ok (.if_icmp .le 7, 3) := by decide +kernel
theorem dX5_frame_48 : decode cX5_frame 48 = .ok (.iconst 1, 1) := by decide +kernel
theorem dX5_frame_49 : decode cX5_frame 49 = .ok (.goto 4, 3) := by decide +kernel
theorem dX5_frame_52 : decode cX5_frame 52 = .ok (.iconst 0, 1) := by decide +kernel
theorem dX5_frame_53 : decode cX5_frame 53 = .ok (.istore_n 1, 1) := by decide +kernel
theorem dX5_frame_54 : decode cX5_frame 54 = .ok (.iload_n 1, 1) := by decide +kernel
theorem dX5_frame_55 : decode cX5_frame 55 = .ok (.ifCond .eq 7, 3) := by decide +kernel
theorem dX5_frame_58 : decode cX5_frame 58 = .ok (.iconst (-1), 1) := by decide +kernel
theorem dX5_frame_59 : decode cX5_frame 59 = .ok (.goto 24, 3) := by decide +kernel
theorem dX5_frame_62 : decode cX5_frame 62 = .ok (.aload_n 0, 1) := by decide +kernel
theorem dX5_frame_63 : decode cX5_frame 63 = .ok (.getfield 42, 3) := by decide +kernel
theorem dX5_frame_66 : decode cX5_frame 66 = .ok (.iconst 2, 1) := by decide +kernel
theorem dX5_frame_67 : decode cX5_frame 67 = .ok (.if_icmp .le 15, 3) := by decide +kernel
theorem dX5_frame_70 : decode cX5_frame 70 = .ok (.bipush 6, 2) := by decide +kernel
theorem dX5_frame_72 : decode cX5_frame 72 = .ok (.aload_n 0, 1) := by decide +kernel
theorem dX5_frame_73 : decode cX5_frame 73 = .ok (.getfield 7, 3) := by decide +kernel
theorem dX5_frame_76 : decode cX5_frame 76 = .ok (.iconst 2, 1) := by decide +kernel
theorem dX5_frame_77 : decode cX5_frame 77 = .ok (.iaload, 1) := by decide +kernel
theorem dX5_frame_78 : decode cX5_frame 78 = .ok (.iadd, 1) := by decide +kernel
theorem dX5_frame_79 : decode cX5_frame 79 = .ok (.goto 4, 3) := by decide +kernel
theorem dX5_frame_82 : decode cX5_frame 82 = .ok (.iconst 0, 1) := by decide +kernel
theorem dX5_frame_83 : decode cX5_frame 83 = .ok (.ireturn, 1) := by decide +kernel
theorem dX5_frame_84 : decode cX5_frame 84 = .ok (.aload_n 0, 1) := by decide +kernel
theorem dX5_frame_85 : decode cX5_frame 85 = .ok (.getfield 7, 3) := by decide +kernel
theorem dX5_frame_88 : decode cX5_frame 88 = .ok (.iconst 0, 1) := by decide +kernel
theorem dX5_frame_89 : decode cX5_frame 89 = .ok (.iaload, 1) := by decide +kernel
theorem dX5_frame_90 : decode cX5_frame 90 = .ok (.sipush 181, 3) := by decide +kernel
theorem dX5_frame_93 : decode cX5_frame 93 = .ok (.if_icmp .eq 5, 3) := by decide +kernel
theorem dX5_frame_96 : decode cX5_frame 96 = .ok (.iconst (-1), 1) := by decide +kernel
theorem dX5_frame_97 : decode cX5_frame 97 = .ok (.ireturn, 1) := by decide +kernel
theorem dX5_frame_98 : decode cX5_frame 98 = .ok (.aload_n 0, 1) := by decide +kernel
theorem dX5_frame_99 : decode cX5_frame 99 = .ok (.getfield 42, 3) := by decide +kernel
theorem dX5_frame_102 : decode cX5_frame 102 = .ok (.iconst 1, 1) := by decide +kernel
theorem dX5_frame_103 : decode cX5_frame 103 = .ok (.if_icmp .le 14, 3) := by decide +kernel
theorem dX5_frame_106 : decode cX5_frame 106 = .ok (.aload_n 0, 1) := by decide +kernel
theorem dX5_frame_107 : decode cX5_frame 107 = .ok (.getfield 7, 3) := by decide +kernel
theorem dX5_frame_110 : decode cX5_frame 110 = .ok (.iconst 1, 1) := by decide +kernel
theorem dX5_frame_111 : decode cX5_frame 111 = .ok (.iaload, 1) := by decide +kernel
theorem dX5_frame_112 : decode cX5_frame 112 = .ok (.bipush 98, 2) := by decide +kernel
theorem dX5_frame_114 : decode cX5_frame 114 = .ok (.if_icmp .ne 39, 3) := by decide +kernel
theorem dX5_frame_117 : decode cX5_frame 117 = .ok (.aload_n 0, 1) := by decide +kernel
theorem dX5_frame_118 : decode cX5_frame 118 = .ok (.getfield 42, 3) := by decide +kernel
theorem dX5_frame_121 : decode cX5_frame 121 = .ok (.iconst 4, 1) := by decide +kernel
theorem dX5_frame_122 : decode cX5_frame 122 = .ok (.if_icmp .le 14, 3) := by decide +kernel
theorem dX5_frame_125 : decode cX5_frame 125 = .ok (.aload_n 0, 1) := by decide +kernel
theorem dX5_frame_126 : decode cX5_frame 126 = .ok (.getfield 7, 3) := by decide +kernel
theorem dX5_frame_129 : decode cX5_frame 129 = .ok (.iconst 4, 1) := by decide +kernel
theorem dX5_frame_130 : decode cX5_frame 130 = .ok (.iaload, 1) := by decide +kernel
theorem dX5_frame_131 : decode cX5_frame 131 = .ok (.bipush 90, 2) := by decide +kernel
theorem dX5_frame_133 : decode cX5_frame 133 = .ok (.if_icmp .gt 20, 3) := by decide +kernel
theorem dX5_frame_136 : decode cX5_frame 136 = .ok (.aload_n 0, 1) := by decide +kernel
theorem dX5_frame_137 : decode cX5_frame 137 = .ok (.getfield 42, 3) := by decide +kernel
theorem dX5_frame_140 : decode cX5_frame 140 = .ok (.iconst 5, 1) := by decide +kernel
theorem dX5_frame_141 : decode cX5_frame 141 = .ok (.if_icmp .le 16, 3) := by decide +kernel
theorem dX5_frame_144 : decode cX5_frame 144 = .ok (.aload_n 0, 1) := by decide +kernel
theorem dX5_frame_145 : decode cX5_frame 145 = .ok (.getfield 7, 3) := by decide +kernel
theorem dX5_frame_148 : decode cX5_frame 148 = .ok (.iconst 5, 1) := by decide +kernel
theorem dX5_frame_149 : decode cX5_frame 149 = .ok (.iaload, 1) := by decide +kernel
theorem dX5_frame_150 : decode cX5_frame 150 = .ok (.ifCond .le 7, 3) := by decide +kernel
theorem dX5_frame_153 : decode cX5_frame 153 = .ok (.iconst 1, 1) := by decide +kernel
theorem dX5_frame_154 : decode cX5_frame 154 = .ok (.goto 4, 3) := by decide +kernel
theorem dX5_frame_157 : decode cX5_frame 157 = .ok (.iconst 0, 1) := by decide +kernel
theorem dX5_frame_158 : decode cX5_frame 158 = .ok (.istore_n 1, 1) := by decide +kernel
theorem dX5_frame_159 : decode cX5_frame 159 = .ok (.iload_n 1, 1) := by decide +kernel
theorem dX5_frame_160 : decode cX5_frame 160 = .ok (.ifCond .eq 7, 3) := by decide +kernel
theorem dX5_frame_163 : decode cX5_frame 163 = .ok (.iconst (-1), 1) := by decide +kernel
theorem dX5_frame_164 : decode cX5_frame 164 = .ok (.goto 24, 3) := by decide +kernel
theorem dX5_frame_167 : decode cX5_frame 167 = .ok (.aload_n 0, 1) := by decide +kernel
theorem dX5_frame_168 : decode cX5_frame 168 = .ok (.getfield 42, 3) := by decide +kernel
theorem dX5_frame_171 : decode cX5_frame 171 = .ok (.iconst 5, 1) := by decide +kernel
theorem dX5_frame_172 : decode cX5_frame 172 = .ok (.if_icmp .le 15, 3) := by decide +kernel
theorem dX5_frame_175 : decode cX5_frame 175 = .ok (.bipush 8, 2) := by decide +kernel
theorem dX5_frame_177 : decode cX5_frame 177 = .ok (.aload_n 0, 1) := by decide +kernel
theorem dX5_frame_178 : decode cX5_frame 178 = .ok (.getfield 7, 3) := by decide +kernel
theorem dX5_frame_181 : decode cX5_frame 181 = .ok (.iconst 4, 1) := by decide +kernel
theorem dX5_frame_182 : decode cX5_frame 182 = .ok (.iaload, 1) := by decide +kernel
theorem dX5_frame_183 : decode cX5_frame 183 = .ok (.iadd, 1) := by decide +kernel
theorem dX5_frame_184 : decode cX5_frame 184 = .ok (.goto 4, 3) := by decide +kernel
theorem dX5_frame_187 : decode cX5_frame 187 = .ok (.iconst 0, 1) := by decide +kernel
theorem dX5_frame_188 : decode cX5_frame 188 = .ok (.ireturn, 1) := by decide +kernel
theorem dX5_drop_0 : decode cX5_drop 0 = .ok (.aload_n 0, 1) := by decide +kernel
theorem dX5_drop_1 : decode cX5_drop 1 = .ok (.aload_n 0, 1) := by decide +kernel
theorem dX5_drop_2 : decode cX5_drop 2 = .ok (.getfield 42, 3) := by decide +kernel
theorem dX5_drop_5 : decode cX5_drop 5 = .ok (.iload_n 1, 1) := by decide +kernel
theorem dX5_drop_6 : decode cX5_drop 6 = .ok (.isub, 1) := by decide +kernel
theorem dX5_drop_7 : decode cX5_drop 7 = .ok (.putfield 42, 3) := by decide +kernel
theorem dX5_drop_10 : decode cX5_drop 10 = .ok (.iconst 0, 1) := by decide +kernel
theorem dX5_drop_11 : decode cX5_drop 11 = .ok (.istore_n 2, 1) := by decide +kernel
theorem dX5_drop_12 : decode cX5_drop 12 = .ok (.iload_n 2, 1) := by decide +kernel
theorem dX5_drop_13 : decode cX5_drop 13 = .ok (.aload_n 0, 1) := by decide +kernel
theorem dX5_drop_14 : decode cX5_drop 14 = .ok (.getfield 42, 3) := by decide +kernel
theorem dX5_drop_17 : decode cX5_drop 17 = .ok (.if_icmp .ge 23, 3) := by decide +kernel
theorem dX5_drop_20 : decode cX5_drop 20 = .ok (.aload_n 0, 1) := by decide +kernel
theorem dX5_drop_21 : decode cX5_drop 21 = .ok (.getfield 7, 3) := by decide +kernel
theorem dX5_drop_24 : decode cX5_drop 24 = .ok (.iload_n 2, 1) := by decide +kernel
theorem dX5_drop_25 : decode cX5_drop 25 = .ok (.aload_n 0, 1) := by decide +kernel
theorem dX5_drop_26 : decode cX5_drop 26 = .ok (.getfield 7, 3) := by decide +kernel
theorem dX5_drop_29 : decode cX5_drop 29 = .ok (.iload_n 2, 1) := by decide +kernel
theorem dX5_drop_30 : decode cX5_drop 30 = .ok (.iload_n 1, 1) := by decide +kernel
theorem dX5_drop_31 : decode cX5_drop 31 = .ok (.iadd, 1) := by decide +kernel
theorem dX5_drop_32 : decode cX5_drop 32 = .ok (.iaload, 1) := by decide +kernel
theorem dX5_drop_33 : decode cX5_drop 33 = .ok (.iastore, 1) := by decide +kernel
theorem dX5_drop_34 : decode cX5_drop 34 = .ok (.iinc 2 1, 3) := by decide +kernel
theorem dX5_drop_37 : decode cX5_drop 37 = .ok (.goto (-25), 3) := by decide +kernel
theorem dX5_drop_40 : decode cX5_drop 40 = .ok (.return_, 1) := by decide +kernel
theorem dX5_number_0 : decode cX5_number 0 = .ok (.iconst 0, 1) := by decide +kernel
theorem dX5_number_1 : decode cX5_number 1 = .ok (.istore_n 3, 1) := by decide +kernel
theorem dX5_number_2 : decode cX5_number 2 = .ok (.iload_n 1, 1) := by decide +kernel
theorem dX5_number_3 : decode cX5_number 3 = .ok (.istore 4, 2) := by decide +kernel
theorem dX5_number_5 : decode cX5_number 5 = .ok (.iload 4, 2) := by decide +kernel
theorem dX5_number_7 : decode cX5_number 7 = .ok (.iload_n 1, 1) := by decide +kernel
theorem dX5_number_8 : decode cX5_number 8 = .ok (.iload_n 2, 1) := by decide +kernel
theorem dX5_number_9 : decode cX5_number 9 = .ok (.iadd, 1) := by decide +kernel
theorem dX5_number_10 : decode cX5_number 10 = .ok (.if_icmp .ge 58, 3) := by decide +kernel
theorem dX5_number_13 : decode cX5_number 13 = .ok (.aload_n 0, 1) := by decide +kernel
theorem dX5_number_14 : decode cX5_number 14 = .ok (.getfield 7, 3) := by decide +kernel
theorem dX5_number_17 : decode cX5_number 17 = .ok (.iconst 3, 1) := by decide +kernel
theorem dX5_number_18 : decode cX5_number 18 = .ok (.iload 4, 2) := by decide +kernel
theorem dX5_number_20 : decode cX5_number 20 = .ok (.bipush 8, 2) := by decide +kernel
theorem dX5_number_22 : decode cX5_number 22 = .ok (.idiv, 1) := by decide +kernel
theorem dX5_number_23 : decode cX5_number 23 = .ok (.iadd, 1) := by decide +kernel
theorem dX5_number_24 : decode cX5_number 24 = .ok (.iaload, 1) := by decide +kernel
theorem dX5_number_25 : decode cX5_number 25 = .ok (.istore 5, 2) := by decide +kernel
theorem dX5_number_27 : decode cX5_number 27 = .ok (.iload 4, 2) := by decide +kernel
theorem dX5_number_29 : decode cX5_number 29 = .ok (.bipush 8, 2) := by decide +kernel
theorem dX5_number_31 : decode cX5_number 31 = .ok (.irem, 1) := by decide +kernel
theorem dX5_number_32 : decode cX5_number 32 = .ok (.istore 6, 2) := by decide +kernel
theorem dX5_number_34 : decode cX5_number 34 = .ok (.iload 6, 2) := by decide +kernel
theorem dX5_number_36 : decode cX5_number 36 = .ok (.bipush 7, 2) := by decide +kernel
theorem dX5_number_38 : decode cX5_number 38 = .ok (.if_icmp .ge 15, 3) := by decide +kernel
theorem dX5_number_41 : decode cX5_number 41 = .ok (.iload 5, 2) := by decide +kernel
theorem dX5_number_43 : decode cX5_number 43 = .ok (.iconst 2, 1) := by decide +kernel
theorem dX5_number_44 : decode cX5_number 44 = .ok (.idiv, 1) := by decide +kernel
theorem dX5_number_45 : decode cX5_number 45 = .ok (.istore 5, 2) := by decide +kernel
theorem dX5_number_47 : decode cX5_number 47 = .ok (.iinc 6 1, 3) := by decide +kernel
theorem dX5_number_50 : decode cX5_number 50 = .ok (.goto (-16), 3) := by decide +kernel
theorem dX5_number_53 : decode cX5_number 53 = .ok (.iconst 2, 1) := by decide +kernel
theorem dX5_number_54 : decode cX5_number 54 = .ok (.iload_n 3, 1) := by decide +kernel
theorem dX5_number_55 : decode cX5_number 55 = .ok (.imul, 1) := by decide +kernel
theorem dX5_number_56 : decode cX5_number 56 = .ok (.iload 5, 2) := by decide +kernel
theorem dX5_number_58 : decode cX5_number 58 = .ok (.iconst 2, 1) := by decide +kernel
theorem dX5_number_59 : decode cX5_number 59 = .ok (.irem, 1) := by decide +kernel
theorem dX5_number_60 : decode cX5_number 60 = .ok (.iadd, 1) := by decide +kernel
theorem dX5_number_61 : decode cX5_number 61 = .ok (.istore_n 3, 1) := by decide +kernel
theorem dX5_number_62 : decode cX5_number 62 = .ok (.iinc 4 1, 3) := by decide +kernel
theorem dX5_number_65 : decode cX5_number 65 = .ok (.goto (-60), 3) := by decide +kernel
theorem dX5_number_68 : decode cX5_number 68 = .ok (.iload_n 3, 1) := by decide +kernel
theorem dX5_number_69 : decode cX5_number 69 = .ok (.ireturn, 1) := by decide +kernel
set_option maxRecDepth 20000 in
theorem ggX5_signed_X5_number : GoodIn wsX5_signed wsX5_number := goodIn_r _ [5, 6, 7, 8, 9, 10, 11, 12, 13, 14, 15] (by decide +kernel) (by decide +kernel)
set_option maxRecDepth 20000 in
theorem gX5_signed_X5_number : GoodIn wsX5_signed (wsV RX5 46 RX5 yX5_number wsX5_number) := goodIn_app (goodIn_of _ (by decide +kernel)) ggX5_signed_X5_number
theorem dX5_signed_0 : decode cX5_signed 0 = .ok (.aload_n 0, 1) := by decide +kernel
theorem dX5_signed_1 : decode cX5_signed 1 = .ok (.iload_n 1, 1) := by decide +kernel
theorem dX5_signed_2 : decode cX5_signed 2 = .ok (.iconst 1, 1) := by decide +kernel
theorem dX5_signed_3 : decode cX5_signed 3 = .ok (.iadd, 1) := by decide +kernel
theorem dX5_signed_4 : decode cX5_signed 4 = .ok (.iload_n 2, 1) := by decide +kernel
theorem dX5_signed_5 : decode cX5_signed 5 = .ok (.iconst 1, 1) := by decide +kernel
theorem dX5_signed_6 : decode cX5_signed 6 = .ok (.isub, 1) := by decide +kernel
theorem dX5_signed_7 : decode cX5_signed 7 = .ok (.invokevirtual 46, 3) := by decide +kernel
theorem dX5_signed_10 : decode cX5_signed 10 = .ok (.istore_n 3, 1) := by decide +kernel
theorem dX5_signed_11 : decode cX5_signed 11 = .ok (.aload_n 0, 1) := by decide +kernel
theorem dX5_signed_12 : decode cX5_signed 12 = .ok (.iload_n 1, 1) := by decide +kernel
theorem dX5_signed_13 : decode cX5_signed 13 = .ok (.iconst 1, 1) := by decide +kernel
theorem dX5_signed_14 : decode cX5_signed 14 = .ok (.invokevirtual 46, 3) := by decide +kernel
theorem dX5_signed_17 : decode cX5_signed 17 = .ok (.iconst 1, 1) := by decide +kernel
theorem dX5_signed_18 : decode cX5_signed 18 = .ok (.if_icmp .ne 13, 3) := by decide +kernel
theorem dX5_signed_21 : decode cX5_signed 21 = .ok (.iload_n 3, 1) := by decide +kernel
theorem dX5_signed_22 : decode cX5_signed 22 = .ok (.iconst 1, 1) := by decide +kernel
theorem dX5_signed_23 : decode cX5_signed 23 = .ok (.iload_n 2, 1) := by decide +kernel
theorem dX5_signed_24 : decode cX5_signed 24 = .ok (.iconst 1, 1) := by decide +kernel
theorem dX5_signed_25 : decode cX5_signed 25 = .ok (.isub, 1) := by decide +kernel
theorem dX5_signed_26 : decode cX5_signed 26 = .ok (.ishl, 1) := by decide +kernel
theorem dX5_signed_27 : decode cX5_signed 27 = .ok (.isub, 1) := by decide +kernel
theorem dX5_signed_28 : decode cX5_signed 28 = .ok (.goto 4, 3) := by decide +kernel
theorem dX5_signed_31 : decode cX5_signed 31 = .ok (.iload_n 3, 1) := by decide +kernel
theorem dX5_signed_32 : decode cX5_signed 32 = .ok (.ireturn, 1) := by decide +kernel
set_option maxRecDepth 20000 in
theorem ggX5_ones_X5_number : GoodIn wsX5_ones wsX5_number := goodIn_r _ [5, 6, 7, 8, 9, 10, 11, 12, 13, 14, 15] (by decide +kernel) (by decide +kernel)
set_option maxRecDepth 20000 in
theorem gX5_ones_X5_number : GoodIn wsX5_ones (wsV RX5 46 RX5 yX5_number wsX5_number) := goodIn_app (goodIn_of _ (by decide +kernel)) ggX5_ones_X5_number
theorem dX5_ones_0 : decode cX5_ones 0 = .ok (.iconst 0, 1) := by decide +kernel
theorem dX5_ones_1 : decode cX5_ones 1 = .ok (.istore_n 3, 1) := by decide +kernel
theorem dX5_ones_2 : decode cX5_ones 2 = .ok (.iload_n 1, 1) := by decide +kernel
theorem dX5_ones_3 : decode cX5_ones 3 = .ok (.istore 4, 2) := by decide +kernel
theorem dX5_ones_5 : decode cX5_ones 5 = .ok (.iload 4, 2) := by decide +kernel
theorem dX5_ones_7 : decode cX5_ones 7 = .ok (.iload_n 1, 1) := by decide +kernel
theorem dX5_ones_8 : decode cX5_ones 8 = .ok (.iload_n 2, 1) := by decide +kernel
theorem dX5_ones_9 : decode cX5_ones 9 = .ok (.iadd, 1) := by decide +kernel
theorem dX5_ones_10 : decode cX5_ones 10 = .ok (.if_icmp .ge 19, 3) := by decide +kernel
theorem dX5_ones_13 : decode cX5_ones 13 = .ok (.iload_n 3, 1) := by decide +kernel
theorem dX5_ones_14 : decode cX5_ones 14 = .ok (.aload_n 0, 1) := by decide +kernel
theorem dX5_ones_15 : decode cX5_ones 15 = .ok (.iload 4, 2) := by decide +kernel
theorem dX5_ones_17 : decode cX5_ones 17 = .ok (.iconst 1, 1) := by decide +kernel
theorem dX5_ones_18 : decode cX5_ones 18 = .ok (.invokevirtual 46, 3) := by decide +kernel
theorem dX5_ones_21 : decode cX5_ones 21 = .ok (.iadd, 1) := by decide +kernel
theorem dX5_ones_22 : decode cX5_ones 22 = .ok (.istore_n 3, 1) := by decide +kernel
theorem dX5_ones_23 : decode cX5_ones 23 = .ok (.iinc 4 1, 3) := by decide +kernel
theorem dX5_ones_26 : decode cX5_ones 26 = .ok (.goto (-21), 3) := by decide +kernel
theorem dX5_ones_29 : decode cX5_ones 29 = .ok (.iload_n 3, 1) := by decide +kernel
theorem dX5_ones_30 : decode cX5_ones 30 = .ok (.ireturn, 1) := by decide +kernel
theorem dX5_bump_0 : decode cX5_bump 0 = .ok (.aload_n 0, 1) := by decide +kernel
theorem dX5_bump_1 : decode cX5_bump 1 = .ok (.getfield 13, 3) := by decide +kernel
theorem dX5_bump_4 : decode cX5_bump 4 = .ok (.iload_n 1, 1) := by decide +kernel
theorem dX5_bump_5 : decode cX5_bump 5 = .ok (.aload_n 0, 1) := by decide +kernel
theorem dX5_bump_6 : decode cX5_bump 6 = .ok (.getfield 13, 3) := by decide +kernel
theorem dX5_bump_9 : decode cX5_bump 9 = .ok (.iload_n 1, 1) := by decide +kernel
theorem dX5_bump_10 : decode cX5_bump 10 = .ok (.iaload, 1) := by decide +kernel
theorem dX5_bump_11 : decode cX5_bump 11 = .ok (.iconst 1, 1) := by decide +kernel
theorem dX5_bump_12 : decode cX5_bump 12 = .ok (.iadd, 1) := by decide +kernel
theorem dX5_bump_13 : decode cX5_bump 13 = .ok (.iastore, 1) := by decide +kernel
theorem dX5_bump_14 : decode cX5_bump 14 = .ok (.return_, 1) := by decide +kernel
set_option maxRecDepth 20000 in
theorem ggX5_observe_X5_number : GoodIn wsX5_observe wsX5_number := goodIn_r _ [6, 7, 47, 48, 49, 50, 51, 52, 53, 54, 55] (by decide +kernel) (by decide +kernel)
set_option maxRecDepth 20000 in
theorem gX5_observe_X5_number : GoodIn wsX5_observe (wsV RX5 46 RX5 yX5_number wsX5_number) := goodIn_app (goodIn_of _ (by decide +kernel)) ggX5_observe_X5_number
set_option maxRecDepth 20000 in
theorem ggX5_observe_X5_ones : GoodIn wsX5_observe wsX5_ones := goodIn_r _ [11, 2, 3, 4, 5, 6, 7, 47, 48, 49, 50, 51, 52, 53, 54, 55] (by decide +kernel) (by decide +kernel)
set_option maxRecDepth 20000 in
theorem gX5_observe_X5_ones : GoodIn wsX5_observe (wsV RX5 49 RX5 yX5_ones wsX5_ones) := goodIn_app (goodIn_of _ (by decide +kernel)) ggX5_observe_X5_ones
set_option maxRecDepth 20000 in
theorem ggX5_observe_X5_bump : GoodIn wsX5_observe wsX5_bump := goodIn_r _ [15, 16, 47, 48, 49, 50, 51, 52, 53, 54, 55] (by decide +kernel) (by decide +kernel)
set_option maxRecDepth 20000 in
theorem gX5_observe_X5_bump : GoodIn wsX5_observe (wsV RX5 52 RX5 yX5_bump wsX5_bump) := goodIn_app (goodIn_of _ (by decide +kernel)) ggX5_observe_X5_bump
set_option maxRecDepth 20000 in
theorem ggX5_observe_X5_gather : GoodIn wsX5_observe wsX5_gather := goodIn_r _ [20, 2, 3, 4, 5, 6, 7, 21, 22, 23, 24, 25, 26, 27, 28, 29, 30, 31, 32, 33, 34, 35, 36, 37, 38, 39, 1, 40, 41, 42, 47, 48, 49, 50, 51, 52, 53, 54, 55] (by decide +kernel) (by decide +kernel)
set_option maxRecDepth 20000 in
theorem gX5_observe_X5_gather : GoodIn wsX5_observe (wsV RX5 56 RX5 yX5_gather wsX5_gather) := goodIn_app (goodIn_of _ (by decide +kernel)) ggX5_observe_X5_gather
set_option maxRecDepth 20000 in
theorem ggX5_observe_X5_finish : GoodIn wsX5_observe wsX5_finish := goodIn_r _ [46, 1, 40, 41, 42, 12, 13, 14, 5, 15, 16, 47, 48, 49, 50, 51, 52, 53, 54, 55] (by decide +kernel) (by decide +kernel)
set_option maxRecDepth 20000 in
theorem gX5_observe_X5_finish : GoodIn wsX5_observe (wsV RX5 60 RX5 yX5_finish wsX5_finish) := goodIn_app (goodIn_of _ (by decide +kernel)) ggX5_observe_X5_finish
theorem dX5_observe_0 : decode cX5_observe 0 = .ok (.bipush 8, 2) := by decide +kernel
theorem dX5_observe_2 : decode cX5_observe 2 = .ok (.iload_n 1, 1) := by decide +kernel
theorem dX5_observe_3 : decode cX5_observe 3 = .ok (.imul, 1) := by decide +kernel
theorem dX5_observe_4 : decode cX5_observe 4 = .ok (.istore_n 2, 1) := by decide +kernel
theorem dX5_observe_5 : decode cX5_observe 5 = .ok (.iload_n 2, 1) := by decide +kernel
theorem dX5_observe_6 : decode cX5_observe 6 = .ok (.bipush 75, 2) := by decide +kernel
theorem dX5_observe_8 : decode cX5_observe 8 = .ok (.if_icmp .lt 13, 3) := by decide +kernel
theorem dX5_observe_11 : decode cX5_observe 11 = .ok (.aload_n 0, 1) := by decide +kernel
theorem dX5_observe_12 : decode cX5_observe 12 = .ok (.iconst 0, 1) := by decide +kernel
theorem dX5_observe_13 : decode cX5_observe 13 = .ok (.bipush 12, 2) := by decide +kernel
theorem dX5_observe_15 : decode cX5_observe 15 = .ok (.invokevirtual 46, 3) := by decide +kernel
theorem dX5_observe_18 : decode cX5_observe 18 = .ok (.goto 4, 3) := by decide +kernel
theorem dX5_observe_21 : decode cX5_observe 21 = .ok (.iconst 0, 1) := by decide +kernel
theorem dX5_observe_22 : decode cX5_observe 22 = .ok (.istore_n 3, 1) := by decide +kernel
theorem dX5_observe_23 : decode cX5_observe 23 = .ok (.iload_n 2, 1) := by decide +kernel
theorem dX5_observe_24 : decode cX5_observe 24 = .ok (.bipush 75, 2) := by decide +kernel
theorem dX5_observe_26 : decode cX5_observe 26 = .ok (.if_icmp .lt 14, 3) := by decide +kernel
theorem dX5_observe_29 : decode cX5_observe 29 = .ok (.aload_n 0, 1) := by decide +kernel
theorem dX5_observe_30 : decode cX5_observe 30 = .ok (.bipush 55, 2) := by decide +kernel
theorem dX5_observe_32 : decode cX5_observe 32 = .ok (.bipush 16, 2) := by decide +kernel
theorem dX5_observe_34 : decode cX5_observe 34 = .ok (.invokevirtual 49, 3) := by decide +kernel
theorem dX5_observe_37 : decode cX5_observe 37 = .ok (.goto 4, 3) := by decide +kernel
theorem dX5_observe_40 : decode cX5_observe 40 = .ok (.iconst 0, 1) := by decide +kernel
theorem dX5_observe_41 : decode cX5_observe 41 = .ok (.istore 4, 2) := by decide +kernel
theorem dX5_observe_43 : decode cX5_observe 43 = .ok (.iload_n 2, 1) := by decide +kernel
theorem dX5_observe_44 : decode cX5_observe 44 = .ok (.bipush 75, 2) := by decide +kernel
theorem dX5_observe_46 : decode cX5_observe 46 = .ok (.if_icmp .lt 13, 3) := by decide +kernel
theorem dX5_observe_49 : decode cX5_observe 49 = .ok (.aload_n 0, 1) := by decide +kernel
theorem dX5_observe_50 : decode cX5_observe 50 = .ok (.bipush 71, 2) := by decide +kernel
theorem dX5_observe_52 : decode cX5_observe 52 = .ok (.iconst 4, 1) := by decide +kernel
theorem dX5_observe_53 : decode cX5_observe 53 = .ok (.invokevirtual 49, 3) := by decide +kernel
theorem dX5_observe_56 : decode cX5_observe 56 = .ok (.goto 4, 3) := by decide +kernel
theorem dX5_observe_59 : decode cX5_observe 59 = .ok (.iconst 0, 1) := by decide +kernel
theorem dX5_observe_60 : decode cX5_observe 60 = .ok (.istore 5, 2) := by decide +kernel
theorem dX5_observe_62 : decode cX5_observe 62 = .ok (.iload_n 3, 1) := by decide +kernel
theorem dX5_observe_63 : decode cX5_observe 63 = .ok (.sipush 1000, 3) := by decide +kernel
theorem dX5_observe_66 : decode cX5_observe 66 = .ok (.if_icmp .lt 26, 3) := by decide +kernel
theorem dX5_observe_69 : decode cX5_observe 69 = .ok (.iload_n 3, 1) := by decide +kernel
theorem dX5_observe_70 : decode cX5_observe 70 = .ok (.sipush 1003, 3) := by decide +kernel
theorem dX5_observe_73 : decode cX5_observe 73 = .ok (.if_icmp .gt 19, 3) := by decide +kernel
theorem dX5_observe_76 : decode cX5_observe 76 = .ok (.iload_n 2, 1) := by decide +kernel
theorem dX5_observe_77 : decode cX5_observe 77 = .ok (.bipush 75, 2) := by decide +kernel
theorem dX5_observe_79 : decode cX5_observe 79 = .ok (.iload 4, 2) := by decide +kernel
theorem dX5_observe_81 : decode cX5_observe 81 = .ok (.iload 5, 2) := by decide +kernel
theorem dX5_observe_83 : decode cX5_observe 83 = .ok (.imul, 1) := by decide +kernel
theorem dX5_observe_84 : decode cX5_observe 84 = .ok (.iadd, 1) := by decide +kernel
theorem dX5_observe_85 : decode cX5_observe 85 = .ok (.if_icmp .lt 7, 3) := by decide +kernel
theorem dX5_observe_88 : decode cX5_observe 88 = .ok (.iconst 1, 1) := by decide +kernel
theorem dX5_observe_89 : decode cX5_observe 89 = .ok (.goto 4, 3) := by decide +kernel
theorem dX5_observe_92 : decode cX5_observe 92 = .ok (.iconst 0, 1) := by decide +kernel
theorem dX5_observe_93 : decode cX5_observe 93 = .ok (.istore 6, 2) := by decide +kernel
theorem dX5_observe_95 : decode cX5_observe 95 = .ok (.iload 6, 2) := by decide +kernel
theorem dX5_observe_97 : decode cX5_observe 97 = .ok (.ifCond .eq 17, 3) := by decide +kernel
theorem dX5_observe_100 : decode cX5_observe 100 = .ok (.aload_n 0, 1) := by decide +kernel
theorem dX5_observe_101 : decode cX5_observe 101 = .ok (.bipush 75, 2) := by decide +kernel
theorem dX5_observe_103 : decode cX5_observe 103 = .ok (.iload 4, 2) := by decide +kernel
theorem dX5_observe_105 : decode cX5_observe 105 = .ok (.iload 5, 2) := by decide +kernel
theorem dX5_observe_107 : decode cX5_observe 107 = .ok (.imul, 1) := by decide +kernel
theorem dX5_observe_108 : decode cX5_observe 108 = .ok (.invokevirtual 49, 3) := by decide +kernel
theorem dX5_observe_111 : decode cX5_observe 111 = .ok (.goto 4, 3) := by decide +kernel
theorem dX5_observe_114 : decode cX5_observe 114 = .ok (.iconst 0, 1) := by decide +kernel
theorem dX5_observe_115 : decode cX5_observe 115 = .ok (.istore 7, 2) := by decide +kernel
theorem dX5_observe_117 : decode cX5_observe 117 = .ok (.iload 6, 2) := by decide +kernel
theorem dX5_observe_119 : decode cX5_observe 119 = .ok (.ifCond .eq 38, 3) := by decide +kernel
theorem dX5_observe_122 : decode cX5_observe 122 = .ok (.iload 7, 2) := by decide +kernel
theorem dX5_observe_124 : decode cX5_observe 124 = .ok (.bipush 16, 2) := by decide +kernel
theorem dX5_observe_126 : decode cX5_observe 126 = .ok (.if_icmp .gt 31, 3) := by decide +kernel
theorem dX5_observe_129 : decode cX5_observe 129 = .ok (.iload_n 2, 1) := by decide +kernel
theorem dX5_observe_130 : decode cX5_observe 130 = .ok (.bipush 75, 2) := by decide +kernel
theorem dX5_observe_132 : decode cX5_observe 132 = .ok (.iload 4, 2) := by decide +kernel
theorem dX5_observe_134 : decode cX5_observe 134 = .ok (.iload 5, 2) := by decide +kernel
theorem dX5_observe_136 : decode cX5_observe 136 = .ok (.imul, 1) := by decide +kernel
theorem dX5_observe_137 : decode cX5_observe 137 = .ok (.iadd, 1) := by decide +kernel
theorem dX5_observe_138 : decode cX5_observe 138 = .ok (.bipush 18, 2) := by decide +kernel
theorem dX5_observe_140 : decode cX5_observe 140 = .ok (.iload 4, 2) := by decide +kernel
theorem dX5_observe_142 : decode cX5_observe 142 = .ok (.imul, 1) := by decide +kernel
theorem dX5_observe_143 : decode cX5_observe 143 = .ok (.iadd, 1) := by decide +kernel
theorem dX5_observe_144 : decode cX5_observe 144 = .ok (.bipush 21, 2) := by decide +kernel
theorem dX5_observe_146 : decode cX5_observe 146 = .ok (.iload 7, 2) := by decide +kernel
theorem dX5_observe_148 : decode cX5_observe 148 = .ok (.imul, 1) := by decide +kernel
theorem dX5_observe_149 : decode cX5_observe 149 = .ok (.iadd, 1) := by decide +kernel
theorem dX5_observe_150 : decode cX5_observe 150 = .ok (.if_icmp .lt 7, 3) := by decide +kernel
theorem dX5_observe_153 : decode cX5_observe 153 = .ok (.iconst 1, 1) := by decide +kernel
theorem dX5_observe_154 : decode cX5_observe 154 = .ok (.goto 4, 3) := by decide +kernel
theorem dX5_observe_157 : decode cX5_observe 157 = .ok (.iconst 0, 1) := by decide +kernel
theorem dX5_observe_158 : decode cX5_observe 158 = .ok (.istore 6, 2) := by decide +kernel
theorem dX5_observe_160 : decode cX5_observe 160 = .ok (.iload 6, 2) := by decide +kernel
theorem dX5_observe_162 : decode cX5_observe 162 = .ok (.ifCond .ne 9, 3) := by decide +kernel
theorem dX5_observe_165 : decode cX5_observe 165 = .ok (.aload_n 0, 1) := by decide +kernel
theorem dX5_observe_166 : decode cX5_observe 166 = .ok (.iconst 3, 1) := by decide +kernel
theorem dX5_observe_167 : decode cX5_observe 167 = .ok (.invokevirtual 52, 3) := by decide +kernel
theorem dX5_observe_170 : decode cX5_observe 170 = .ok (.return_, 1) := by decide +kernel
theorem dX5_observe_171 : decode cX5_observe 171 = .ok (.aload_n 0, 1) := by decide +kernel
theorem dX5_observe_172 : decode cX5_observe 172 = .ok (.bipush 6, 2) := by decide +kernel
theorem dX5_observe_174 : decode cX5_observe 174 = .ok (.invokevirtual 52, 3) := by decide +kernel
theorem dX5_observe_177 : decode cX5_observe 177 = .ok (.aload_n 0, 1) := by decide +kernel
theorem dX5_observe_178 : decode cX5_observe 178 = .ok (.bipush 12, 2) := by decide +kernel
theorem dX5_observe_180 : decode cX5_observe 180 = .ok (.bipush 12, 2) := by decide +kernel
theorem dX5_observe_182 : decode cX5_observe 182 = .ok (.invokevirtual 46, 3) := by decide +kernel
theorem dX5_observe_185 : decode cX5_observe 185 = .ok (.istore 8, 2) := by decide +kernel
theorem dX5_observe_187 : decode cX5_observe 187 = .ok (.aload_n 0, 1) := by decide +kernel
theorem dX5_observe_188 : decode cX5_observe 188 = .ok (.bipush 24, 2) := by decide +kernel
theorem dX5_observe_190 : decode cX5_observe 190 = .ok (.bipush 30, 2) := by decide +kernel
theorem dX5_observe_192 : decode cX5_observe 192 = .ok (.invokevirtual 46, 3) := by decide +kernel
theorem dX5_observe_195 : decode cX5_observe 195 = .ok (.istore 9, 2) := by decide +kernel
theorem dX5_observe_197 : decode cX5_observe 197 = .ok (.aload_n 0, 1) := by decide +kernel
theorem dX5_observe_198 : decode cX5_observe 198 = .ok (.getfield 29, 3) := by decide +kernel
theorem dX5_observe_201 : decode cX5_observe 201 = .ok (.iconst 0, 1) := by decide +kernel
theorem dX5_observe_202 : decode cX5_observe 202 = .ok (.iaload, 1) := by decide +kernel
theorem dX5_observe_203 : decode cX5_observe 203 = .ok (.iconst 1, 1) := by decide +kernel
theorem dX5_observe_204 : decode cX5_observe 204 = .ok (.if_icmp .ne 29, 3) := by decide +kernel
theorem dX5_observe_207 : decode cX5_observe 207 = .ok (.aload_n 0, 1) := by decide +kernel
theorem dX5_observe_208 : decode cX5_observe 208 = .ok (.getfield 29, 3) := by decide +kernel
theorem dX5_observe_211 : decode cX5_observe 211 = .ok (.iconst 1, 1) := by decide +kernel
theorem dX5_observe_212 : decode cX5_observe 212 = .ok (.iaload, 1) := by decide +kernel
theorem dX5_observe_213 : decode cX5_observe 213 = .ok (.iload 9, 2) := by decide +kernel
theorem dX5_observe_215 : decode cX5_observe 215 = .ok (.if_icmp .ne 18, 3) := by decide +kernel
theorem dX5_observe_218 : decode cX5_observe 218 = .ok (.aload_n 0, 1) := by decide +kernel
theorem dX5_observe_219 : decode cX5_observe 219 = .ok (.getfield 29, 3) := by decide +kernel
theorem dX5_observe_222 : decode cX5_observe 222 = .ok (.iconst 2, 1) := by decide +kernel
theorem dX5_observe_223 : decode cX5_observe 223 = .ok (.iaload, 1) := by decide +kernel
theorem dX5_observe_224 : decode cX5_observe 224 = .ok (.iload 8, 2) := by decide +kernel
theorem dX5_observe_226 : decode cX5_observe 226 = .ok (.if_icmp .ne 7, 3) := by decide +kernel
theorem dX5_observe_229 : decode cX5_observe 229 = .ok (.iconst 1, 1) := by decide +kernel
theorem dX5_observe_230 : decode cX5_observe 230 = .ok (.goto 4, 3) := by decide +kernel
theorem dX5_observe_233 : decode cX5_observe 233 = .ok (.iconst 0, 1) := by decide +kernel
theorem dX5_observe_234 : decode cX5_observe 234 = .ok (.istore 10, 2) := by decide +kernel
theorem dX5_observe_236 : decode cX5_observe 236 = .ok (.iload 10, 2) := by decide +kernel
theorem dX5_observe_238 : decode cX5_observe 238 = .ok (.ifCond .ne 55, 3) := by decide +kernel
theorem dX5_observe_241 : decode cX5_observe 241 = .ok (.aload_n 0, 1) := by decide +kernel
theorem dX5_observe_242 : decode cX5_observe 242 = .ok (.getfield 29, 3) := by decide +kernel
theorem dX5_observe_245 : decode cX5_observe 245 = .ok (.iconst 0, 1) := by decide +kernel
theorem dX5_observe_246 : decode cX5_observe 246 = .ok (.iaload, 1) := by decide +kernel
theorem dX5_observe_247 : decode cX5_observe 247 = .ok (.iconst 1, 1) := by decide +kernel
theorem dX5_observe_248 : decode cX5_observe 248 = .ok (.if_icmp .ne 8, 3) := by decide +kernel
theorem dX5_observe_251 : decode cX5_observe 251 = .ok (.aload_n 0, 1) := by decide +kernel
theorem dX5_observe_252 : decode cX5_observe 252 = .ok (.iconst 5, 1) := by decide +kernel
theorem dX5_observe_253 : decode cX5_observe 253 = .ok (.invokevirtual 52, 3) := by decide +kernel
theorem dX5_observe_256 : decode cX5_observe 256 = .ok (.aload_n 0, 1) := by decide +kernel
theorem dX5_observe_257 : decode cX5_observe 257 = .ok (.getfield 29, 3) := by decide +kernel
theorem dX5_observe_260 : decode cX5_observe 260 = .ok (.iconst 0, 1) := by decide +kernel
theorem dX5_observe_261 : decode cX5_observe 261 = .ok (.iconst 1, 1) := by decide +kernel
theorem dX5_observe_262 : decode cX5_observe 262 = .ok (.iastore, 1) := by decide +kernel
theorem dX5_observe_263 : decode cX5_observe 263 = .ok (.aload_n 0, 1) := by decide +kernel
theorem dX5_observe_264 : decode cX5_observe 264 = .ok (.getfield 29, 3) := by decide +kernel
theorem dX5_observe_267 : decode cX5_observe 267 = .ok (.iconst 1, 1) := by decide +kernel
theorem dX5_observe_268 : decode cX5_observe 268 = .ok (.iload 9, 2) := by decide +kernel
theorem dX5_observe_270 : decode cX5_observe 270 = .ok (.iastore, 1) := by decide +kernel
theorem dX5_observe_271 : decode cX5_observe 271 = .ok (.aload_n 0, 1) := by decide +kernel
theorem dX5_observe_272 : decode cX5_observe 272 = .ok (.getfield 29, 3) := by decide +kernel
theorem dX5_observe_275 : decode cX5_observe 275 = .ok (.iconst 2, 1) := by decide +kernel
theorem dX5_observe_276 : decode cX5_observe 276 = .ok (.iload 8, 2) := by decide +kernel
theorem dX5_observe_278 : decode cX5_observe 278 = .ok (.iastore, 1) := by decide +kernel
theorem dX5_observe_279 : decode cX5_observe 279 = .ok (.aload_n 0, 1) := by decide +kernel
theorem dX5_observe_280 : decode cX5_observe 280 = .ok (.getfield 29, 3) := by decide +kernel
theorem dX5_observe_283 : decode cX5_observe 283 = .ok (.iconst 3, 1) := by decide +kernel
theorem dX5_observe_284 : decode cX5_observe 284 = .ok (.iconst 0, 1) := by decide +kernel
theorem dX5_observe_285 : decode cX5_observe 285 = .ok (.iastore, 1) := by decide +kernel
theorem dX5_observe_286 : decode cX5_observe 286 = .ok (.aload_n 0, 1) := by decide +kernel
theorem dX5_observe_287 : decode cX5_observe 287 = .ok (.getfield 29, 3) := by decide +kernel
theorem dX5_observe_290 : decode cX5_observe 290 = .ok (.iconst 4, 1) := by decide +kernel
theorem dX5_observe_291 : decode cX5_observe 291 = .ok (.iconst 0, 1) := by decide +kernel
theorem dX5_observe_292 : decode cX5_observe 292 = .ok (.iastore, 1) := by decide +kernel
theorem dX5_observe_293 : decode cX5_observe 293 = .ok (.aload_n 0, 1) := by decide +kernel
theorem dX5_observe_294 : decode cX5_observe 294 = .ok (.getfield 29, 3) := by decide +kernel
theorem dX5_observe_297 : decode cX5_observe 297 = .ok (.iconst 4, 1) := by decide +kernel
theorem dX5_observe_298 : decode cX5_observe 298 = .ok (.aload_n 0, 1) := by decide +kernel
theorem dX5_observe_299 : decode cX5_observe 299 = .ok (.getfield 29, 3) := by decide +kernel
theorem dX5_observe_302 : decode cX5_observe 302 = .ok (.iconst 4, 1) := by decide +kernel
theorem dX5_observe_303 : decode cX5_observe 303 = .ok (.iaload, 1) := by decide +kernel
theorem dX5_observe_304 : decode cX5_observe 304 = .ok (.iconst 1, 1) := by decide +kernel
theorem dX5_observe_305 : decode cX5_observe 305 = .ok (.iadd, 1) := by decide +kernel
theorem dX5_observe_306 : decode cX5_observe 306 = .ok (.iastore, 1) := by decide +kernel
theorem dX5_observe_307 : decode cX5_observe 307 = .ok (.aload_n 0, 1) := by decide +kernel
theorem dX5_observe_308 : decode cX5_observe 308 = .ok (.sipush 1000, 3) := by decide +kernel
theorem dX5_observe_311 : decode cX5_observe 311 = .ok (.iload_n 3, 1) := by decide +kernel
theorem dX5_observe_312 : decode cX5_observe 312 = .ok (.sipush 1000, 3) := by decide +kernel
theorem dX5_observe_315 : decode cX5_observe 315 = .ok (.isub, 1) := by decide +kernel
theorem dX5_observe_316 : decode cX5_observe 316 = .ok (.imul, 1) := by decide +kernel
theorem dX5_observe_317 : decode cX5_observe 317 = .ok (.iload 4, 2) := by decide +kernel
theorem dX5_observe_319 : decode cX5_observe 319 = .ok (.iload 5, 2) := by decide +kernel
theorem dX5_observe_321 : decode cX5_observe 321 = .ok (.iload 7, 2) := by decide +kernel
theorem dX5_observe_323 : decode cX5_observe 323 = .ok (.invokevirtual 56, 3) := by decide +kernel
theorem dX5_observe_326 : decode cX5_observe 326 = .ok (.aload_n 0, 1) := by decide +kernel
theorem dX5_observe_327 : decode cX5_observe 327 = .ok (.bipush 54, 2) := by decide +kernel
theorem dX5_observe_329 : decode cX5_observe 329 = .ok (.iconst 1, 1) := by decide +kernel
theorem dX5_observe_330 : decode cX5_observe 330 = .ok (.invokevirtual 46, 3) := by decide +kernel
theorem dX5_observe_333 : decode cX5_observe 333 = .ok (.ifCond .ne 7, 3) := by decide +kernel
theorem dX5_observe_336 : decode cX5_observe 336 = .ok (.aload_n 0, 1) := by decide +kernel
theorem dX5_observe_337 : decode cX5_observe 337 = .ok (.invokevirtual 60, 3) := by decide +kernel
theorem dX5_observe_340 : decode cX5_observe 340 = .ok (.return_, 1) := by decide +kernel
set_option maxRecDepth 20000 in
theorem ggX5_nth_X5_number : GoodIn wsX5_nth wsX5_number := goodIn_r _ [5, 6, 7, 8, 9, 10, 11, 12, 13, 14, 15] (by decide +kernel) (by decide +kernel)
set_option maxRecDepth 20000 in
theorem gX5_nth_X5_number : GoodIn wsX5_nth (wsV RX5 46 RX5 yX5_number wsX5_number) := goodIn_app (goodIn_of _ (by decide +kernel)) ggX5_nth_X5_number
theorem dX5_nth_0 : decode cX5_nth 0 = .ok (.iload_n 2, 1) := by decide +kernel
theorem dX5_nth_1 : decode cX5_nth 1 = .ok (.istore_n 3, 1) := by decide +kernel
theorem dX5_nth_2 : decode cX5_nth 2 = .ok (.iconst 0, 1) := by decide +kernel
theorem dX5_nth_3 : decode cX5_nth 3 = .ok (.istore 4, 2) := by decide +kernel
theorem dX5_nth_5 : decode cX5_nth 5 = .ok (.iload_n 3, 1) := by decide +kernel
theorem dX5_nth_6 : decode cX5_nth 6 = .ok (.ifCond .lt 24, 3) := by decide +kernel
theorem dX5_nth_9 : decode cX5_nth 9 = .ok (.iload_n 3, 1) := by decide +kernel
theorem dX5_nth_10 : decode cX5_nth 10 = .ok (.aload_n 0, 1) := by decide +kernel
theorem dX5_nth_11 : decode cX5_nth 11 = .ok (.iload_n 1, 1) := by decide +kernel
theorem dX5_nth_12 : decode cX5_nth 12 = .ok (.iload 4, 2) := by decide +kernel
theorem dX5_nth_14 : decode cX5_nth 14 = .ok (.iadd, 1) := by decide +kernel
theorem dX5_nth_15 : decode cX5_nth 15 = .ok (.iconst 1, 1) := by decide +kernel
theorem dX5_nth_16 : decode cX5_nth 16 = .ok (.invokevirtual 46, 3) := by decide +kernel
theorem dX5_nth_19 : decode cX5_nth 19 = .ok (.isub, 1) := by decide +kernel
theorem dX5_nth_20 : decode cX5_nth 20 = .ok (.istore_n 3, 1) := by decide +kernel
theorem dX5_nth_21 : decode cX5_nth 21 = .ok (.iload 4, 2) := by decide +kernel
theorem dX5_nth_23 : decode cX5_nth 23 = .ok (.iconst 1, 1) := by decide +kernel
theorem dX5_nth_24 : decode cX5_nth 24 = .ok (.iadd, 1) := by decide +kernel
theorem dX5_nth_25 : decode cX5_nth 25 = .ok (.istore 4, 2) := by decide +kernel
theorem dX5_nth_27 : decode cX5_nth 27 = .ok (.goto (-22), 3) := by decide +kernel
theorem dX5_nth_30 : decode cX5_nth 30 = .ok (.iload 4, 2) := by decide +kernel
theorem dX5_nth_32 : decode cX5_nth 32 = .ok (.ireturn, 1) := by decide +kernel
set_option maxRecDepth 20000 in
theorem ggX5_gather_X5_number : GoodIn wsX5_gather wsX5_number := goodIn_r _ [5, 6, 30, 31, 32, 33, 34, 35, 36, 37, 38] (by decide +kernel) (by decide +kernel)
set_option maxRecDepth 20000 in
theorem gX5_gather_X5_number : GoodIn wsX5_gather (wsV RX5 46 RX5 yX5_number wsX5_number) := goodIn_app (goodIn_of _ (by decide +kernel)) ggX5_gather_X5_number
set_option maxRecDepth 20000 in
theorem ggX5_gather_X5_nth : GoodIn wsX5_gather wsX5_nth := goodIn_r _ [10, 1, 2, 3, 4, 5, 6, 30, 31, 32, 33, 34, 35, 36, 37, 38] (by decide +kernel) (by decide +kernel)
set_option maxRecDepth 20000 in
theorem gX5_gather_X5_nth : GoodIn wsX5_gather (wsV RX5 63 RX5 yX5_nth wsX5_nth) := goodIn_app (goodIn_of _ (by decide +kernel)) ggX5_gather_X5_nth
set_option maxRecDepth 20000 in
theorem ggX5_gather_X5_signed : GoodIn wsX5_gather wsX5_signed := goodIn_r _ [14, 1, 2, 3, 4, 5, 6, 30, 31, 32, 33, 34, 35, 36, 37, 38] (by decide +kernel) (by decide +kernel)
set_option maxRecDepth 20000 in
theorem gX5_gather_X5_signed : GoodIn wsX5_gather (wsV RX5 66 RX5 yX5_signed wsX5_signed) := goodIn_app (goodIn_of _ (by decide +kernel)) ggX5_gather_X5_signed
set_option maxRecDepth 20000 in
theorem ggX5_gather_X5_reckon : GoodIn wsX5_gather wsX5_reckon := goodIn_r _ [17, 18, 19, 20, 21] (by decide +kernel) (by decide +kernel)
set_option maxRecDepth 20000 in
theorem gX5_gather_X5_reckon : GoodIn wsX5_gather (va_wsS RX5 69 yX5_reckon wsX5_reckon) := goodIn_app (goodIn_of _ (by decide +kernel)) ggX5_gather_X5_reckon
set_option maxRecDepth 20000 in
theorem ggX5_gather_X5_add : GoodIn wsX5_gather wsX5_add := goodIn_r _ [25, 26, 27, 28, 29, 30, 31, 32, 33, 34, 35, 36, 37, 38] (by decide +kernel) (by decide +kernel)
set_option maxRecDepth 20000 in
theorem gX5_gather_X5_add : GoodIn wsX5_gather (wsV RX5 73 RX5 yX5_add wsX5_add) := goodIn_app (goodIn_of _ (by decide +kernel)) ggX5_gather_X5_add
theorem dX5_gather_0 : decode cX5_gather 0 = .ok (.bipush 75, 2) := by decide +kernel
theorem dX5_gather_2 : decode cX5_gather 2 = .ok (.iload_n 2, 1) := by decide +kernel
theorem dX5_gather_3 : decode cX5_gather 3 = .ok (.iload_n 3, 1) := by decide +kernel
theorem dX5_gather_4 : decode cX5_gather 4 = .ok (.imul, 1) := by decide +kernel
theorem dX5_gather_5 : decode cX5_gather 5 = .ok (.iadd, 1) := by decide +kernel
theorem dX5_gather_6 : decode cX5_gather 6 = .ok (.istore 5, 2) := by decide +kernel
theorem dX5_gather_8 : decode cX5_gather 8 = .ok (.iload 5, 2) := by decide +kernel
theorem dX5_gather_10 : decode cX5_gather 10 = .ok (.bipush 8, 2) := by decide +kernel
theorem dX5_gather_12 : decode cX5_gather 12 = .ok (.iload_n 2, 1) := by decide +kernel
theorem dX5_gather_13 : decode cX5_gather 13 = .ok (.imul, 1) := by decide +kernel
theorem dX5_gather_14 : decode cX5_gather 14 = .ok (.iadd, 1) := by decide +kernel
theorem dX5_gather_15 : decode cX5_gather 15 = .ok (.istore 6, 2) := by decide +kernel
theorem dX5_gather_17 : decode cX5_gather 17 = .ok (.iload 6, 2) := by decide +kernel
theorem dX5_gather_19 : decode cX5_gather 19 = .ok (.bipush 10, 2) := by decide +kernel
theorem dX5_gather_21 : decode cX5_gather 21 = .ok (.iload_n 2, 1) := by decide +kernel
theorem dX5_gather_22 : decode cX5_gather 22 = .ok (.imul, 1) := by decide +kernel
theorem dX5_gather_23 : decode cX5_gather 23 = .ok (.iadd, 1) := by decide +kernel
theorem dX5_gather_24 : decode cX5_gather 24 = .ok (.istore 7, 2) := by decide +kernel
theorem dX5_gather_26 : decode cX5_gather 26 = .ok (.iload 7, 2) := by decide +kernel
theorem dX5_gather_28 : decode cX5_gather 28 = .ok (.bipush 15, 2) := by decide +kernel
theorem dX5_gather_30 : decode cX5_gather 30 = .ok (.iload 4, 2) := by decide +kernel
theorem dX5_gather_32 : decode cX5_gather 32 = .ok (.imul, 1) := by decide +kernel
theorem dX5_gather_33 : decode cX5_gather 33 = .ok (.iadd, 1) := by decide +kernel
theorem dX5_gather_34 : decode cX5_gather 34 = .ok (.istore 8, 2) := by decide +kernel
theorem dX5_gather_36 : decode cX5_gather 36 = .ok (.iconst 0, 1) := by decide +kernel
theorem dX5_gather_37 : decode cX5_gather 37 = .ok (.istore 9, 2) := by decide +kernel
theorem dX5_gather_39 : decode cX5_gather 39 = .ok (.iconst 0, 1) := by decide +kernel
theorem dX5_gather_40 : decode cX5_gather 40 = .ok (.istore 10, 2) := by decide +kernel
theorem dX5_gather_42 : decode cX5_gather 42 = .ok (.iload 10, 2) := by decide +kernel
theorem dX5_gather_44 : decode cX5_gather 44 = .ok (.iload_n 2, 1) := by decide +kernel
theorem dX5_gather_45 : decode cX5_gather 45 = .ok (.iload_n 3, 1) := by decide +kernel
theorem dX5_gather_46 : decode cX5_gather 46 = .ok (.imul, 1) := by decide +kernel
theorem dX5_gather_47 : decode cX5_gather 47 = .ok (.if_icmp .ge 122, 3) := by decide +kernel
theorem dX5_gather_50 : decode cX5_gather 50 = .ok (.aload_n 0, 1) := by decide +kernel
theorem dX5_gather_51 : decode cX5_gather 51 = .ok (.bipush 75, 2) := by decide +kernel
theorem dX5_gather_53 : decode cX5_gather 53 = .ok (.iload 10, 2) := by decide +kernel
theorem dX5_gather_55 : decode cX5_gather 55 = .ok (.iadd, 1) := by decide +kernel
theorem dX5_gather_56 : decode cX5_gather 56 = .ok (.iconst 1, 1) := by decide +kernel
theorem dX5_gather_57 : decode cX5_gather 57 = .ok (.invokevirtual 46, 3) := by decide +kernel
theorem dX5_gather_60 : decode cX5_gather 60 = .ok (.iconst 1, 1) := by decide +kernel
theorem dX5_gather_61 : decode cX5_gather 61 = .ok (.if_icmp .ne 102, 3) := by decide +kernel
theorem dX5_gather_64 : decode cX5_gather 64 = .ok (.iload 10, 2) := by decide +kernel
theorem dX5_gather_66 : decode cX5_gather 66 = .ok (.iload_n 3, 1) := by decide +kernel
theorem dX5_gather_67 : decode cX5_gather 67 = .ok (.idiv, 1) := by decide +kernel
theorem dX5_gather_68 : decode cX5_gather 68 = .ok (.istore 11, 2) := by decide +kernel
theorem dX5_gather_70 : decode cX5_gather 70 = .ok (.aload_n 0, 1) := by decide +kernel
theorem dX5_gather_71 : decode cX5_gather 71 = .ok (.iload_n 1, 1) := by decide +kernel
theorem dX5_gather_72 : decode cX5_gather 72 = .ok (.bipush 10, 2) := by decide +kernel
theorem dX5_gather_74 : decode cX5_gather 74 = .ok (.aload_n 0, 1) := by decide +kernel
theorem dX5_gather_75 : decode cX5_gather 75 = .ok (.bipush 55, 2) := by decide +kernel
theorem dX5_gather_77 : decode cX5_gather 77 = .ok (.iload 11, 2) := by decide +kernel
theorem dX5_gather_79 : decode cX5_gather 79 = .ok (.invokevirtual 63, 3) := by decide +kernel
theorem dX5_gather_82 : decode cX5_gather 82 = .ok (.imul, 1) := by decide +kernel
theorem dX5_gather_83 : decode cX5_gather 83 = .ok (.iadd, 1) := by decide +kernel
theorem dX5_gather_84 : decode cX5_gather 84 = .ok (.aload_n 0, 1) := by decide +kernel
theorem dX5_gather_85 : decode cX5_gather 85 = .ok (.bipush 71, 2) := by decide +kernel
theorem dX5_gather_87 : decode cX5_gather 87 = .ok (.iload 10, 2) := by decide +kernel
theorem dX5_gather_89 : decode cX5_gather 89 = .ok (.iload_n 3, 1) := by decide +kernel
theorem dX5_gather_90 : decode cX5_gather 90 = .ok (.irem, 1) := by decide +kernel
theorem dX5_gather_91 : decode cX5_gather 91 = .ok (.invokevirtual 63, 3) := by decide +kernel
theorem dX5_gather_94 : decode cX5_gather 94 = .ok (.iadd, 1) := by decide +kernel
theorem dX5_gather_95 : decode cX5_gather 95 = .ok (.aload_n 0, 1) := by decide +kernel
theorem dX5_gather_96 : decode cX5_gather 96 = .ok (.iload 5, 2) := by decide +kernel
theorem dX5_gather_98 : decode cX5_gather 98 = .ok (.bipush 8, 2) := by decide +kernel
theorem dX5_gather_100 : decode cX5_gather 100 = .ok (.iload 11, 2) := by decide +kernel
theorem dX5_gather_102 : decode cX5_gather 102 = .ok (.imul, 1) := by decide +kernel
theorem dX5_gather_103 : decode cX5_gather 103 = .ok (.iadd, 1) := by decide +kernel
theorem dX5_gather_104 : decode cX5_gather 104 = .ok (.bipush 8, 2) := by decide +kernel
theorem dX5_gather_106 : decode cX5_gather 106 = .ok (.invokevirtual 46, 3) := by decide +kernel
theorem dX5_gather_109 : decode cX5_gather 109 = .ok (.aload_n 0, 1) := by decide +kernel
theorem dX5_gather_110 : decode cX5_gather 110 = .ok (.iload 6, 2) := by decide +kernel
theorem dX5_gather_112 : decode cX5_gather 112 = .ok (.bipush 10, 2) := by decide +kernel
theorem dX5_gather_114 : decode cX5_gather 114 = .ok (.iload 11, 2) := by decide +kernel
theorem dX5_gather_116 : decode cX5_gather 116 = .ok (.imul, 1) := by decide +kernel
theorem dX5_gather_117 : decode cX5_gather 117 = .ok (.iadd, 1) := by decide +kernel
theorem dX5_gather_118 : decode cX5_gather 118 = .ok (.bipush 10, 2) := by decide +kernel
theorem dX5_gather_120 : decode cX5_gather 120 = .ok (.invokevirtual 46, 3) := by decide +kernel
theorem dX5_gather_123 : decode cX5_gather 123 = .ok (.aload_n 0, 1) := by decide +kernel
theorem dX5_gather_124 : decode cX5_gather 124 = .ok (.iload 7, 2) := by decide +kernel
theorem dX5_gather_126 : decode cX5_gather 126 = .ok (.bipush 15, 2) := by decide +kernel
theorem dX5_gather_128 : decode cX5_gather 128 = .ok (.iload 9, 2) := by decide +kernel
theorem dX5_gather_130 : decode cX5_gather 130 = .ok (.imul, 1) := by decide +kernel
theorem dX5_gather_131 : decode cX5_gather 131 = .ok (.iadd, 1) := by decide +kernel
theorem dX5_gather_132 : decode cX5_gather 132 = .ok (.bipush 15, 2) := by decide +kernel
theorem dX5_gather_134 : decode cX5_gather 134 = .ok (.invokevirtual 66, 3) := by decide +kernel
theorem dX5_gather_137 : decode cX5_gather 137 = .ok (.invokestatic 69, 3) := by decide +kernel
theorem dX5_gather_140 : decode cX5_gather 140 = .ok (.aload_n 0, 1) := by decide +kernel
theorem dX5_gather_141 : decode cX5_gather 141 = .ok (.iload 8, 2) := by decide +kernel
theorem dX5_gather_143 : decode cX5_gather 143 = .ok (.bipush 6, 2) := by decide +kernel
theorem dX5_gather_145 : decode cX5_gather 145 = .ok (.iload 9, 2) := by decide +kernel
theorem dX5_gather_147 : decode cX5_gather 147 = .ok (.imul, 1) := by decide +kernel
theorem dX5_gather_148 : decode cX5_gather 148 = .ok (.iadd, 1) := by decide +kernel
theorem dX5_gather_149 : decode cX5_gather 149 = .ok (.bipush 6, 2) := by decide +kernel
theorem dX5_gather_151 : decode cX5_gather 151 = .ok (.invokevirtual 46, 3) := by decide +kernel
theorem dX5_gather_154 : decode cX5_gather 154 = .ok (.invokevirtual 73, 3) := by decide +kernel
theorem dX5_gather_157 : decode cX5_gather 157 = .ok (.iload 9, 2) := by decide +kernel
theorem dX5_gather_159 : decode cX5_gather 159 = .ok (.iconst 1, 1) := by decide +kernel
theorem dX5_gather_160 : decode cX5_gather 160 = .ok (.iadd, 1) := by decide +kernel
theorem dX5_gather_161 : decode cX5_gather 161 = .ok (.istore 9, 2) := by decide +kernel
theorem dX5_gather_163 : decode cX5_gather 163 = .ok (.iinc 10 1, 3) := by decide +kernel
theorem dX5_gather_166 : decode cX5_gather 166 = .ok (.goto (-124), 3) := by decide +kernel
theorem dX5_gather_169 : decode cX5_gather 169 = .ok (.return_, 1) := by decide +kernel
theorem dX5_reckon_0 : decode cX5_reckon 0 = .ok (.iload_n 0, 1) := by decide +kernel
theorem dX5_reckon_1 : decode cX5_reckon 1 = .ok (.sipush 255, 3) := by decide +kernel
theorem dX5_reckon_4 : decode cX5_reckon 4 = .ok (.if_icmp .eq 10, 3) := by decide +kernel
theorem dX5_reckon_7 : decode cX5_reckon 7 = .ok (.iload_n 2, 1) := by decide +kernel
theorem dX5_reckon_8 : decode cX5_reckon 8 = .ok (.sipush (-16384), 3) := by decide +kernel
theorem dX5_reckon_11 : decode cX5_reckon 11 = .ok (.if_icmp .ne 7, 3) := by decide +kernel
theorem dX5_reckon_14 : decode cX5_reckon 14 = .ok (.ldc2_w 77, 3) := by decide +kernel
theorem dX5_reckon_17 : decode cX5_reckon 17 = .ok (.dreturn, 1) := by decide +kernel
theorem dX5_reckon_18 : decode cX5_reckon 18 = .ok (.iload_n 0, 1) := by decide +kernel
theorem dX5_reckon_19 : decode cX5_reckon 19 = .ok (.i2d, 1) := by decide +kernel
theorem dX5_reckon_20 : decode cX5_reckon 20 = .ok (.iload_n 1, 1) := by decide +kernel
theorem dX5_reckon_21 : decode cX5_reckon 21 = .ok (.i2d, 1) := by decide +kernel
theorem dX5_reckon_22 : decode cX5_reckon 22 = .ok (.ldc2_w 79, 3) := by decide +kernel
theorem dX5_reckon_25 : decode cX5_reckon 25 = .ok (.ddiv, 1) := by decide +kernel
theorem dX5_reckon_26 : decode cX5_reckon 26 = .ok (.dadd, 1) := by decide +kernel
theorem dX5_reckon_27 : decode cX5_reckon 27 = .ok (.dstore_n 3, 1) := by decide +kernel
theorem dX5_reckon_28 : decode cX5_reckon 28 = .ok (.dload_n 3, 1) := by decide +kernel
theorem dX5_reckon_29 : decode cX5_reckon 29 = .ok (.iload_n 2, 1) := by decide +kernel
theorem dX5_reckon_30 : decode cX5_reckon 30 = .ok (.i2d, 1) := by decide +kernel
theorem dX5_reckon_31 : decode cX5_reckon 31 = .ok (.ldc2_w 81, 3) := by decide +kernel
theorem dX5_reckon_34 : decode cX5_reckon 34 = .ok (.ddiv, 1) := by decide +kernel
theorem dX5_reckon_35 : decode cX5_reckon 35 = .ok (.dadd, 1) := by decide +kernel
theorem dX5_reckon_36 : decode cX5_reckon 36 = .ok (.dstore_n 3, 1) := by decide +kernel
theorem dX5_reckon_37 : decode cX5_reckon 37 = .ok (.dload_n 3, 1) := by decide +kernel
theorem dX5_reckon_38 : decode cX5_reckon 38 = .ok (.ldc2_w 83, 3) := by decide +kernel
theorem dX5_reckon_41 : decode cX5_reckon 41 = .ok (.dmul, 1) := by decide +kernel
theorem dX5_reckon_42 : decode cX5_reckon 42 = .ok (.dreturn, 1) := by decide +kernel
theorem dX5_add_0 : decode cX5_add 0 = .ok (.aload_n 0, 1) := by decide +kernel
theorem dX5_add_1 : decode cX5_add 1 = .ok (.getfield 29, 3) := by decide +kernel
theorem dX5_add_4 : decode cX5_add 4 = .ok (.iconst 3, 1) := by decide +kernel
theorem dX5_add_5 : decode cX5_add 5 = .ok (.iaload, 1) := by decide +kernel
theorem dX5_add_6 : decode cX5_add 6 = .ok (.istore 5, 2) := by decide +kernel
theorem dX5_add_8 : decode cX5_add 8 = .ok (.iload 5, 2) := by decide +kernel
theorem dX5_add_10 : decode cX5_add 10 = .ok (.bipush 40, 2) := by decide +kernel
theorem dX5_add_12 : decode cX5_add 12 = .ok (.if_icmp .lt 4, 3) := by decide +kernel
theorem dX5_add_15 : decode cX5_add 15 = .ok (.return_, 1) := by decide +kernel
theorem dX5_add_16 : decode cX5_add 16 = .ok (.aload_n 0, 1) := by decide +kernel
theorem dX5_add_17 : decode cX5_add 17 = .ok (.getfield 19, 3) := by decide +kernel
theorem dX5_add_20 : decode cX5_add 20 = .ok (.iload 5, 2) := by decide +kernel
theorem dX5_add_22 : decode cX5_add 22 = .ok (.iload_n 1, 1) := by decide +kernel
theorem dX5_add_23 : decode cX5_add 23 = .ok (.iastore, 1) := by decide +kernel
theorem dX5_add_24 : decode cX5_add 24 = .ok (.aload_n 0, 1) := by decide +kernel
theorem dX5_add_25 : decode cX5_add 25 = .ok (.getfield 22, 3) := by decide +kernel
theorem dX5_add_28 : decode cX5_add 28 = .ok (.iload 5, 2) := by decide +kernel
theorem dX5_add_30 : decode cX5_add 30 = .ok (.dload_n 2, 1) := by decide +kernel
theorem dX5_add_31 : decode cX5_add 31 = .ok (.dastore, 1) := by decide +kernel
theorem dX5_add_32 : decode cX5_add 32 = .ok (.aload_n 0, 1) := by decide +kernel
theorem dX5_add_33 : decode cX5_add 33 = .ok (.getfield 26, 3) := by decide +kernel
theorem dX5_add_36 : decode cX5_add 36 = .ok (.iload 5, 2) := by decide +kernel
theorem dX5_add_38 : decode cX5_add 38 = .ok (.iload 4, 2) := by decide +kernel
theorem dX5_add_40 : decode cX5_add 40 = .ok (.iastore, 1) := by decide +kernel
theorem dX5_add_41 : decode cX5_add 41 = .ok (.aload_n 0, 1) := by decide +kernel
theorem dX5_add_42 : decode cX5_add 42 = .ok (.getfield 29, 3) := by decide +kernel
theorem dX5_add_45 : decode cX5_add 45 = .ok (.iconst 3, 1) := by decide +kernel
theorem dX5_add_46 : decode cX5_add 46 = .ok (.iload 5, 2) := by decide +kernel
theorem dX5_add_48 : decode cX5_add 48 = .ok (.iconst 1, 1) := by decide +kernel
theorem dX5_add_49 : decode cX5_add 49 = .ok (.iadd, 1) := by decide +kernel
theorem dX5_add_50 : decode cX5_add 50 = .ok (.iastore, 1) := by decide +kernel
theorem dX5_add_51 : decode cX5_add 51 = .ok (.return_, 1) := by decide +kernel
set_option maxRecDepth 20000 in
theorem ggX5_finish_X5_bump : GoodIn wsX5_finish wsX5_bump := goodIn_r _ [9, 10, 11, 12, 13, 14, 15, 16, 17, 18, 19] (by decide +kernel) (by decide +kernel)
set_option maxRecDepth 20000 in
theorem gX5_finish_X5_bump : GoodIn wsX5_finish (wsV RX5 52 RX5 yX5_bump wsX5_bump) := goodIn_app (goodIn_of _ (by decide +kernel)) ggX5_finish_X5_bump
theorem dX5_finish_0 : decode cX5_finish 0 = .ok (.aload_n 0, 1) := by decide +kernel
theorem dX5_finish_1 : decode cX5_finish 1 = .ok (.iconst 4, 1) := by decide +kernel
theorem dX5_finish_2 : decode cX5_finish 2 = .ok (.invokevirtual 52, 3) := by decide +kernel
theorem dX5_finish_5 : decode cX5_finish 5 = .ok (.iconst 0, 1) := by decide +kernel
theorem dX5_finish_6 : decode cX5_finish 6 = .ok (.istore_n 1, 1) := by decide +kernel
theorem dX5_finish_7 : decode cX5_finish 7 = .ok (.iload_n 1, 1) := by decide +kernel
theorem dX5_finish_8 : decode cX5_finish 8 = .ok (.aload_n 0, 1) := by decide +kernel
theorem dX5_finish_9 : decode cX5_finish 9 = .ok (.getfield 29, 3) := by decide +kernel
theorem dX5_finish_12 : decode cX5_finish 12 = .ok (.iconst 3, 1) := by decide +kernel
theorem dX5_finish_13 : decode cX5_finish 13 = .ok (.iaload, 1) := by decide +kernel
theorem dX5_finish_14 : decode cX5_finish 14 = .ok (.if_icmp .ge 54, 3) := by decide +kernel
theorem dX5_finish_17 : decode cX5_finish 17 = .ok (.aload_n 0, 1) := by decide +kernel
theorem dX5_finish_18 : decode cX5_finish 18 = .ok (.getfield 19, 3) := by decide +kernel
theorem dX5_finish_21 : decode cX5_finish 21 = .ok (.bipush 40, 2) := by decide +kernel
theorem dX5_finish_23 : decode cX5_finish 23 = .ok (.iload_n 1, 1) := by decide +kernel
theorem dX5_finish_24 : decode cX5_finish 24 = .ok (.iadd, 1) := by decide +kernel
theorem dX5_finish_25 : decode cX5_finish 25 = .ok (.aload_n 0, 1) := by decide +kernel
theorem dX5_finish_26 : decode cX5_finish 26 = .ok (.getfield 19, 3) := by decide +kernel
theorem dX5_finish_29 : decode cX5_finish 29 = .ok (.iload_n 1, 1) := by decide +kernel
theorem dX5_finish_30 : decode cX5_finish 30 = .ok (.iaload, 1) := by decide +kernel
theorem dX5_finish_31 : decode cX5_finish 31 = .ok (.iastore, 1) := by decide +kernel
theorem dX5_finish_32 : decode cX5_finish 32 = .ok (.aload_n 0, 1) := by decide +kernel
theorem dX5_finish_33 : decode cX5_finish 33 = .ok (.getfield 22, 3) := by decide +kernel
theorem dX5_finish_36 : decode cX5_finish 36 = .ok (.bipush 40, 2) := by decide +kernel
theorem dX5_finish_38 : decode cX5_finish 38 = .ok (.iload_n 1, 1) := by decide +kernel
theorem dX5_finish_39 : decode cX5_finish 39 = .ok (.iadd, 1) := by decide +kernel
theorem dX5_finish_40 : decode cX5_finish 40 = .ok (.aload_n 0, 1) := by decide +kernel
theorem dX5_finish_41 : decode cX5_finish 41 = .ok (.getfield 22, 3) := by decide +kernel
theorem dX5_finish_44 : decode cX5_finish 44 = .ok (.iload_n 1, 1) := by decide +kernel
theorem dX5_finish_45 : decode cX5_finish 45 = .ok (.daload, 1) := by decide +kernel
theorem dX5_finish_46 : decode cX5_finish 46 = .ok (.dastore, 1) := by decide +kernel
theorem dX5_finish_47 : decode cX5_finish 47 = .ok (.aload_n 0, 1) := by decide +kernel
theorem dX5_finish_48 : decode cX5_finish 48 = .ok (.getfield 26, 3) := by decide +kernel
theorem dX5_finish_51 : decode cX5_finish 51 = .ok (.bipush 40, 2) := by decide +kernel
theorem dX5_finish_53 : decode cX5_finish 53 = .ok (.iload_n 1, 1) := by decide +kernel
theorem dX5_finish_54 : decode cX5_finish 54 = .ok (.iadd, 1) := by decide +kernel
theorem dX5_finish_55 : decode cX5_finish 55 = .ok (.aload_n 0, 1) := by decide +kernel
theorem dX5_finish_56 : decode cX5_finish 56 = .ok (.getfield 26, 3) := by decide +kernel
theorem dX5_finish_59 : decode cX5_finish 59 = .ok (.iload_n 1, 1) := by decide +kernel
theorem dX5_finish_60 : decode cX5_finish 60 = .ok (.iaload, 1) := by decide +kernel
theorem dX5_finish_61 : decode cX5_finish 61 = .ok (.iastore, 1) := by decide +kernel
theorem dX5_finish_62 : decode cX5_finish 62 = .ok (.iinc 1 1, 3) := by decide +kernel
theorem dX5_finish_65 : decode cX5_finish 65 = .ok (.goto (-58), 3) := by decide +kernel
theorem dX5_finish_68 : decode cX5_finish 68 = .ok (.iconst 0, 1) := by decide +kernel
theorem dX5_finish_69 : decode cX5_finish 69 = .ok (.istore_n 1, 1) := by decide +kernel
theorem dX5_finish_70 : decode cX5_finish 70 = .ok (.iload_n 1, 1) := by decide +kernel
theorem dX5_finish_71 : decode cX5_finish 71 = .ok (.iconst 5, 1) := by decide +kernel
theorem dX5_finish_72 : decode cX5_finish 72 = .ok (.if_icmp .ge 24, 3) := by decide +kernel
theorem dX5_finish_75 : decode cX5_finish 75 = .ok (.aload_n 0, 1) := by decide +kernel
theorem dX5_finish_76 : decode cX5_finish 76 = .ok (.getfield 29, 3) := by decide +kernel
theorem dX5_finish_79 : decode cX5_finish 79 = .ok (.bipush 8, 2) := by decide +kernel
theorem dX5_finish_81 : decode cX5_finish 81 = .ok (.iload_n 1, 1) := by decide +kernel
theorem dX5_finish_82 : decode cX5_finish 82 = .ok (.iadd, 1) := by decide +kernel
theorem dX5_finish_83 : decode cX5_finish 83 = .ok (.aload_n 0, 1) := by decide +kernel
theorem dX5_finish_84 : decode cX5_finish 84 = .ok (.getfield 29, 3) := by decide +kernel
theorem dX5_finish_87 : decode cX5_finish 87 = .ok (.iload_n 1, 1) := by decide +kernel
theorem dX5_finish_88 : decode cX5_finish 88 = .ok (.iaload, 1) := by decide +kernel
theorem dX5_finish_89 : decode cX5_finish 89 = .ok (.iastore, 1) := by decide +kernel
theorem dX5_finish_90 : decode cX5_finish 90 = .ok (.iinc 1 1, 3) := by decide +kernel
theorem dX5_finish_93 : decode cX5_finish 93 = .ok (.goto (-23), 3) := by decide +kernel
theorem dX5_finish_96 : decode cX5_finish 96 = .ok (.aload_n 0, 1) := by decide +kernel
theorem dX5_finish_97 : decode cX5_finish 97 = .ok (.getfield 29, 3) := by decide +kernel
theorem dX5_finish_100 : decode cX5_finish 100 = .ok (.iconst 0, 1) := by decide +kernel
theorem dX5_finish_101 : decode cX5_finish 101 = .ok (.iconst 0, 1) := by decide +kernel
theorem dX5_finish_102 : decode cX5_finish 102 = .ok (.iastore, 1) := by decide +kernel
theorem dX5_finish_103 : decode cX5_finish 103 = .ok (.return_, 1) := by decide +kernel
theorem dX5_four_0 : decode cX5_four 0 = .ok (.iconst 0, 1) := by decide +kernel
theorem dX5_four_1 : decode cX5_four 1 = .ok (.istore_n 2, 1) := by decide +kernel
theorem dX5_four_2 : decode cX5_four 2 = .ok (.iconst 3, 1) := by decide +kernel
theorem dX5_four_3 : decode cX5_four 3 = .ok (.istore_n 3, 1) := by decide +kernel
theorem dX5_four_4 : decode cX5_four 4 = .ok (.iload_n 3, 1) := by decide +kernel
theorem dX5_four_5 : decode cX5_four 5 = .ok (.ifCond .lt 24, 3) := by decide +kernel
theorem dX5_four_8 : decode cX5_four 8 = .ok (.sipush 256, 3) := by decide +kernel
theorem dX5_four_11 : decode cX5_four 11 = .ok (.iload_n 2, 1) := by decide +kernel
theorem dX5_four_12 : decode cX5_four 12 = .ok (.imul, 1) := by decide +kernel
theorem dX5_four_13 : decode cX5_four 13 = .ok (.aload_n 0, 1) := by decide +kernel
theorem dX5_four_14 : decode cX5_four 14 = .ok (.getfield 7, 3) := by decide +kernel
theorem dX5_four_17 : decode cX5_four 17 = .ok (.iload_n 1, 1) := by decide +kernel
theorem dX5_four_18 : decode cX5_four 18 = .ok (.iload_n 3, 1) := by decide +kernel
theorem dX5_four_19 : decode cX5_four 19 = .ok (.iadd, 1) := by decide +kernel
theorem dX5_four_20 : decode cX5_four 20 = .ok (.iaload, 1) := by decide +kernel
theorem dX5_four_21 : decode cX5_four 21 = .ok (.iadd, 1) := by decide +kernel
theorem dX5_four_22 : decode cX5_four 22 = .ok (.istore_n 2, 1) := by decide +kernel
theorem dX5_four_23 : decode cX5_four 23 = .ok (.iinc 3 (-1), 3) := by decide +kernel
theorem dX5_four_26 : decode cX5_four 26 = .ok (.goto (-22), 3) := by decide +kernel
theorem dX5_four_29 : decode cX5_four 29 = .ok (.iload_n 2, 1) := by decide +kernel
theorem dX5_four_30 : decode cX5_four 30 = .ok (.ireturn, 1) := by decide +kernel
set_option maxRecDepth 20000 in
theorem ggX5_locate_X5_bump : GoodIn wsX5_locate wsX5_bump := goodIn_r _ [7, 8, 13, 14, 15, 16, 17, 18, 19, 20, 21] (by decide +kernel) (by decide +kernel)
set_option maxRecDepth 20000 in
theorem gX5_locate_X5_bump : GoodIn wsX5_locate (wsV RX5 52 RX5 yX5_bump wsX5_bump) := goodIn_app (goodIn_of _ (by decide +kernel)) ggX5_locate_X5_bump
set_option maxRecDepth 20000 in
theorem ggX5_locate_X5_four : GoodIn wsX5_locate wsX5_four := goodIn_r _ [12, 1, 13, 14, 15, 16, 17, 18, 19, 20, 21] (by decide +kernel) (by decide +kernel)
set_option maxRecDepth 20000 in
theorem gX5_locate_X5_four : GoodIn wsX5_locate (wsV RX5 85 RX5 yX5_four wsX5_four) := goodIn_app (goodIn_of _ (by decide +kernel)) ggX5_locate_X5_four
theorem dX5_locate_0 : decode cX5_locate 0 = .ok (.iload_n 1, 1) := by decide +kernel
theorem dX5_locate_1 : decode cX5_locate 1 = .ok (.bipush 17, 2) := by decide +kernel
theorem dX5_locate_3 : decode cX5_locate 3 = .ok (.if_icmp .lt 13, 3) := by decide +kernel
theorem dX5_locate_6 : decode cX5_locate 6 = .ok (.aload_n 0, 1) := by decide +kernel
theorem dX5_locate_7 : decode cX5_locate 7 = .ok (.getfield 7, 3) := by decide +kernel
theorem dX5_locate_10 : decode cX5_locate 10 = .ok (.bipush 10, 2) := by decide +kernel
theorem dX5_locate_12 : decode cX5_locate 12 = .ok (.iaload, 1) := by decide +kernel
theorem dX5_locate_13 : decode cX5_locate 13 = .ok (.goto 4, 3) := by decide +kernel
theorem dX5_locate_16 : decode cX5_locate 16 = .ok (.iconst 0, 1) := by decide +kernel
theorem dX5_locate_17 : decode cX5_locate 17 = .ok (.istore_n 2, 1) := by decide +kernel
theorem dX5_locate_18 : decode cX5_locate 18 = .ok (.aload_n 0, 1) := by decide +kernel
theorem dX5_locate_19 : decode cX5_locate 19 = .ok (.getfield 7, 3) := by decide +kernel
theorem dX5_locate_22 : decode cX5_locate 22 = .ok (.iconst 2, 1) := by decide +kernel
theorem dX5_locate_23 : decode cX5_locate 23 = .ok (.iaload, 1) := by decide +kernel
theorem dX5_locate_24 : decode cX5_locate 24 = .ok (.iconst 1, 1) := by decide +kernel
theorem dX5_locate_25 : decode cX5_locate 25 = .ok (.if_icmp .ne 24, 3) := by decide +kernel
theorem dX5_locate_28 : decode cX5_locate 28 = .ok (.aload_n 0, 1) := by decide +kernel
theorem dX5_locate_29 : decode cX5_locate 29 = .ok (.getfield 7, 3) := by decide +kernel
theorem dX5_locate_32 : decode cX5_locate 32 = .ok (.iconst 3, 1) := by decide +kernel
theorem dX5_locate_33 : decode cX5_locate 33 = .ok (.iaload, 1) := by decide +kernel
theorem dX5_locate_34 : decode cX5_locate 34 = .ok (.bipush 7, 2) := by decide +kernel
theorem dX5_locate_36 : decode cX5_locate 36 = .ok (.if_icmp .ne 13, 3) := by decide +kernel
theorem dX5_locate_39 : decode cX5_locate 39 = .ok (.iload_n 2, 1) := by decide +kernel
theorem dX5_locate_40 : decode cX5_locate 40 = .ok (.iconst 2, 1) := by decide +kernel
theorem dX5_locate_41 : decode cX5_locate 41 = .ok (.if_icmp .lt 8, 3) := by decide +kernel
theorem dX5_locate_44 : decode cX5_locate 44 = .ok (.iload_n 2, 1) := by decide +kernel
theorem dX5_locate_45 : decode cX5_locate 45 = .ok (.iconst 4, 1) := by decide +kernel
theorem dX5_locate_46 : decode cX5_locate 46 = .ok (.if_icmp .le 9, 3) := by decide +kernel
theorem dX5_locate_49 : decode cX5_locate 49 = .ok (.aload_n 0, 1) := by decide +kernel
theorem dX5_locate_50 : decode cX5_locate 50 = .ok (.iconst 3, 1) := by decide +kernel
theorem dX5_locate_51 : decode cX5_locate 51 = .ok (.invokevirtual 52, 3) := by decide +kernel
theorem dX5_locate_54 : decode cX5_locate 54 = .ok (.return_, 1) := by decide +kernel
theorem dX5_locate_55 : decode cX5_locate 55 = .ok (.aload_n 0, 1) := by decide +kernel
theorem dX5_locate_56 : decode cX5_locate 56 = .ok (.bipush 7, 2) := by decide +kernel
theorem dX5_locate_58 : decode cX5_locate 58 = .ok (.invokevirtual 52, 3) := by decide +kernel
theorem dX5_locate_61 : decode cX5_locate 61 = .ok (.aload_n 0, 1) := by decide +kernel
theorem dX5_locate_62 : decode cX5_locate 62 = .ok (.getfield 32, 3) := by decide +kernel
theorem dX5_locate_65 : decode cX5_locate 65 = .ok (.iconst 0, 1) := by decide +kernel
theorem dX5_locate_66 : decode cX5_locate 66 = .ok (.aload_n 0, 1) := by decide +kernel
theorem dX5_locate_67 : decode cX5_locate 67 = .ok (.bipush 6, 2) := by decide +kernel
theorem dX5_locate_69 : decode cX5_locate 69 = .ok (.invokevirtual 85, 3) := by decide +kernel
theorem dX5_locate_72 : decode cX5_locate 72 = .ok (.iastore, 1) := by decide +kernel
theorem dX5_locate_73 : decode cX5_locate 73 = .ok (.aload_n 0, 1) := by decide +kernel
theorem dX5_locate_74 : decode cX5_locate 74 = .ok (.getfield 32, 3) := by decide +kernel
theorem dX5_locate_77 : decode cX5_locate 77 = .ok (.iconst 1, 1) := by decide +kernel
theorem dX5_locate_78 : decode cX5_locate 78 = .ok (.aload_n 0, 1) := by decide +kernel
theorem dX5_locate_79 : decode cX5_locate 79 = .ok (.bipush 11, 2) := by decide +kernel
theorem dX5_locate_81 : decode cX5_locate 81 = .ok (.invokevirtual 85, 3) := by decide +kernel
theorem dX5_locate_84 : decode cX5_locate 84 = .ok (.iastore, 1) := by decide +kernel
theorem dX5_locate_85 : decode cX5_locate 85 = .ok (.aload_n 0, 1) := by decide +kernel
theorem dX5_locate_86 : decode cX5_locate 86 = .ok (.getfield 32, 3) := by decide +kernel
theorem dX5_locate_89 : decode cX5_locate 89 = .ok (.iconst 2, 1) := by decide +kernel
theorem dX5_locate_90 : decode cX5_locate 90 = .ok (.aload_n 0, 1) := by decide +kernel
theorem dX5_locate_91 : decode cX5_locate 91 = .ok (.bipush 15, 2) := by decide +kernel
theorem dX5_locate_93 : decode cX5_locate 93 = .ok (.invokevirtual 85, 3) := by decide +kernel
theorem dX5_locate_96 : decode cX5_locate 96 = .ok (.iastore, 1) := by decide +kernel
theorem dX5_locate_97 : decode cX5_locate 97 = .ok (.aload_n 0, 1) := by decide +kernel
theorem dX5_locate_98 : decode cX5_locate 98 = .ok (.getfield 32, 3) := by decide +kernel
theorem dX5_locate_101 : decode cX5_locate 101 = .ok (.iconst 3, 1) := by decide +kernel
theorem dX5_locate_102 : decode cX5_locate 102 = .ok (.aload_n 0, 1) := by decide +kernel
theorem dX5_locate_103 : decode cX5_locate 103 = .ok (.bipush 19, 2) := by decide +kernel
theorem dX5_locate_105 : decode cX5_locate 105 = .ok (.invokevirtual 85, 3) := by decide +kernel
theorem dX5_locate_108 : decode cX5_locate 108 = .ok (.iastore, 1) := by decide +kernel
theorem dX5_locate_109 : decode cX5_locate 109 = .ok (.aload_n 0, 1) := by decide +kernel
theorem dX5_locate_110 : decode cX5_locate 110 = .ok (.getfield 32, 3) := by decide +kernel
theorem dX5_locate_113 : decode cX5_locate 113 = .ok (.iconst 4, 1) := by decide +kernel
theorem dX5_locate_114 : decode cX5_locate 114 = .ok (.iload_n 2, 1) := by decide +kernel
theorem dX5_locate_115 : decode cX5_locate 115 = .ok (.iastore, 1) := by decide +kernel
theorem dX5_locate_116 : decode cX5_locate 116 = .ok (.return_, 1) := by decide +kernel
set_option maxRecDepth 20000 in
theorem ggX5_deal_X5_frame : GoodIn wsX5_deal wsX5_frame := goodIn_r _ [7, 2, 1, 83, 84, 85, 86, 87, 88, 89, 90, 91] (by decide +kernel) (by decide +kernel)
set_option maxRecDepth 20000 in
theorem gX5_deal_X5_frame : GoodIn wsX5_deal (wsV RX5 89 RX5 yX5_frame wsX5_frame) := goodIn_app (goodIn_of _ (by decide +kernel)) ggX5_deal_X5_frame
set_option maxRecDepth 20000 in
theorem ggX5_deal_X5_isLongRight : GoodIn wsX5_deal wsX5_isLongRight := goodIn_r _ [11, 2, 12, 13, 14, 15, 6, 16, 17, 83, 84, 85, 86, 87, 88, 89, 90, 91] (by decide +kernel) (by decide +kernel)
set_option maxRecDepth 20000 in
theorem gX5_deal_X5_isLongRight : GoodIn wsX5_deal (wsV RX5 93 RX5 yX5_isLongRight wsX5_isLongRight) := goodIn_app (goodIn_of _ (by decide +kernel)) ggX5_deal_X5_isLongRight
set_option maxRecDepth 20000 in
theorem ggX5_deal_X5_isShortRight : GoodIn wsX5_deal wsX5_isShortRight := goodIn_r _ [21, 2, 83, 84, 85, 86, 87, 88, 89, 90, 91] (by decide +kernel) (by decide +kernel)
set_option maxRecDepth 20000 in
theorem gX5_deal_X5_isShortRight : GoodIn wsX5_deal (wsV RX5 97 RX5 yX5_isShortRight wsX5_isShortRight) := goodIn_app (goodIn_of _ (by decide +kernel)) ggX5_deal_X5_isShortRight
set_option maxRecDepth 20000 in
theorem ggX5_deal_X5_bump : GoodIn wsX5_deal wsX5_bump := goodIn_r _ [25, 26, 83, 84, 85, 86, 87, 88, 89, 90, 91] (by decide +kernel) (by decide +kernel)
set_option maxRecDepth 20000 in
theorem gX5_deal_X5_bump : GoodIn wsX5_deal (wsV RX5 52 RX5 yX5_bump wsX5_bump) := goodIn_app (goodIn_of _ (by decide +kernel)) ggX5_deal_X5_bump
set_option maxRecDepth 20000 in
theorem ggX5_deal_X5_drop : GoodIn wsX5_deal wsX5_drop := goodIn_r _ [30, 1, 2, 83, 84, 85, 86, 87, 88, 89, 90, 91] (by decide +kernel) (by decide +kernel)
set_option maxRecDepth 20000 in
theorem gX5_deal_X5_drop : GoodIn wsX5_deal (wsV RX5 100 RX5 yX5_drop wsX5_drop) := goodIn_app (goodIn_of _ (by decide +kernel)) ggX5_deal_X5_drop
set_option maxRecDepth 20000 in
theorem ggX5_deal_X5_observe : GoodIn wsX5_deal wsX5_observe := goodIn_r _ [34, 35, 36, 37, 38, 6, 39, 2, 40, 41, 42, 43, 22, 23, 24, 25, 26, 44, 45, 46, 47, 48, 49, 50, 51, 52, 53, 54, 55, 56, 57, 58, 59, 60, 61, 62, 63, 64, 65, 66, 67, 68, 69, 70, 71, 72, 73, 83, 84, 85, 86, 87, 88, 89, 90, 91] (by decide +kernel) (by decide +kernel)
set_option maxRecDepth 20000 in
theorem gX5_deal_X5_observe : GoodIn wsX5_deal (wsV RX5 103 RX5 yX5_observe wsX5_observe) := goodIn_app (goodIn_of _ (by decide +kernel)) ggX5_deal_X5_observe
set_option maxRecDepth 20000 in
theorem ggX5_deal_X5_locate : GoodIn wsX5_deal wsX5_locate := goodIn_r _ [77, 2, 78, 22, 23, 24, 6, 25, 26, 79, 80, 81, 82, 83, 84, 85, 86, 87, 88, 89, 90, 91] (by decide +kernel) (by decide +kernel)
set_option maxRecDepth 20000 in
theorem gX5_deal_X5_locate : GoodIn wsX5_deal (wsV RX5 106 RX5 yX5_locate wsX5_locate) := goodIn_app (goodIn_of _ (by decide +kernel)) ggX5_deal_X5_locate
theorem dX5_deal_0 : decode cX5_deal 0 = .ok (.iconst 0, 1) := by decide +kernel
theorem dX5_deal_1 : decode cX5_deal 1 = .ok (.istore_n 1, 1) := by decide +kernel
theorem dX5_deal_2 : decode cX5_deal 2 = .ok (.aload_n 0, 1) := by decide +kernel
theorem dX5_deal_3 : decode cX5_deal 3 = .ok (.getfield 42, 3) := by decide +kernel
theorem dX5_deal_6 : decode cX5_deal 6 = .ok (.ifCond .ne 7, 3) := by decide +kernel
theorem dX5_deal_9 : decode cX5_deal 9 = .ok (.iconst 0, 1) := by decide +kernel
theorem dX5_deal_10 : decode cX5_deal 10 = .ok (.goto 7, 3) := by decide +kernel
theorem dX5_deal_13 : decode cX5_deal 13 = .ok (.aload_n 0, 1) := by decide +kernel
theorem dX5_deal_14 : decode cX5_deal 14 = .ok (.invokevirtual 89, 3) := by decide +kernel
theorem dX5_deal_17 : decode cX5_deal 17 = .ok (.istore_n 2, 1) := by decide +kernel
theorem dX5_deal_18 : decode cX5_deal 18 = .ok (.iload_n 2, 1) := by decide +kernel
theorem dX5_deal_19 : decode cX5_deal 19 = .ok (.ifCond .eq 145, 3) := by decide +kernel
theorem dX5_deal_22 : decode cX5_deal 22 = .ok (.iload_n 2, 1) := by decide +kernel
theorem dX5_deal_23 : decode cX5_deal 23 = .ok (.aload_n 0, 1) := by decide +kernel
theorem dX5_deal_24 : decode cX5_deal 24 = .ok (.getfield 42, 3) := by decide +kernel
theorem dX5_deal_27 : decode cX5_deal 27 = .ok (.if_icmp .gt 137, 3) := by decide +kernel
theorem dX5_deal_30 : decode cX5_deal 30 = .ok (.aload_n 0, 1) := by decide +kernel
theorem dX5_deal_31 : decode cX5_deal 31 = .ok (.getfield 7, 3) := by decide +kernel
theorem dX5_deal_34 : decode cX5_deal 34 = .ok (.iconst 0, 1) := by decide +kernel
theorem dX5_deal_35 : decode cX5_deal 35 = .ok (.iaload, 1) := by decide +kernel
theorem dX5_deal_36 : decode cX5_deal 36 = .ok (.sipush 211, 3) := by decide +kernel
theorem dX5_deal_39 : decode cX5_deal 39 = .ok (.if_icmp .ne 7, 3) := by decide +kernel
theorem dX5_deal_42 : decode cX5_deal 42 = .ok (.iconst 1, 1) := by decide +kernel
theorem dX5_deal_43 : decode cX5_deal 43 = .ok (.goto 4, 3) := by decide +kernel
theorem dX5_deal_46 : decode cX5_deal 46 = .ok (.iconst 0, 1) := by decide +kernel
theorem dX5_deal_47 : decode cX5_deal 47 = .ok (.istore_n 3, 1) := by decide +kernel
theorem dX5_deal_48 : decode cX5_deal 48 = .ok (.iload_n 2, 1) := by decide +kernel
theorem dX5_deal_49 : decode cX5_deal 49 = .ok (.ifCond .le 30, 3) := by decide +kernel
theorem dX5_deal_52 : decode cX5_deal 52 = .ok (.iload_n 3, 1) := by decide +kernel
theorem dX5_deal_53 : decode cX5_deal 53 = .ok (.ifCond .eq 14, 3) := by decide +kernel
theorem dX5_deal_56 : decode cX5_deal 56 = .ok (.aload_n 0, 1) := by decide +kernel
theorem dX5_deal_57 : decode cX5_deal 57 = .ok (.iload_n 2, 1) := by decide +kernel
theorem dX5_deal_58 : decode cX5_deal 58 = .ok (.invokevirtual 93, 3) := by decide +kernel
theorem dX5_deal_61 : decode cX5_deal 61 = .ok (.ifCond .eq 18, 3) := by decide +kernel
theorem dX5_deal_64 : decode cX5_deal 64 = .ok (.goto 11, 3) := by decide +kernel
theorem dX5_deal_67 : decode cX5_deal 67 = .ok (.aload_n 0, 1) := by decide +kernel
theorem dX5_deal_68 : decode cX5_deal 68 = .ok (.iload_n 2, 1) := by decide +kernel
theorem dX5_deal_69 : decode cX5_deal 69 = .ok (.invokevirtual 97, 3) := by decide +kernel
theorem dX5_deal_72 : decode cX5_deal 72 = .ok (.ifCond .eq 7, 3) := by decide +kernel
theorem dX5_deal_75 : decode cX5_deal 75 = .ok (.iconst 1, 1) := by decide +kernel
theorem dX5_deal_76 : decode cX5_deal 76 = .ok (.goto 4, 3) := by decide +kernel
theorem dX5_deal_79 : decode cX5_deal 79 = .ok (.iconst 0, 1) := by decide +kernel
theorem dX5_deal_80 : decode cX5_deal 80 = .ok (.istore 4, 2) := by decide +kernel
theorem dX5_deal_82 : decode cX5_deal 82 = .ok (.iload 4, 2) := by decide +kernel
theorem dX5_deal_84 : decode cX5_deal 84 = .ok (.ifCond .ne 16, 3) := by decide +kernel
theorem dX5_deal_87 : decode cX5_deal 87 = .ok (.aload_n 0, 1) := by decide +kernel
theorem dX5_deal_88 : decode cX5_deal 88 = .ok (.iconst 2, 1) := by decide +kernel
theorem dX5_deal_89 : decode cX5_deal 89 = .ok (.invokevirtual 52, 3) := by decide +kernel
theorem dX5_deal_92 : decode cX5_deal 92 = .ok (.aload_n 0, 1) := by decide +kernel
theorem dX5_deal_93 : decode cX5_deal 93 = .ok (.iconst 1, 1) := by decide +kernel
theorem dX5_deal_94 : decode cX5_deal 94 = .ok (.invokevirtual 100, 3) := by decide +kernel
theorem dX5_deal_97 : decode cX5_deal 97 = .ok (.goto 48, 3) := by decide +kernel
theorem dX5_deal_100 : decode cX5_deal 100 = .ok (.iload_n 1, 1) := by decide +kernel
theorem dX5_deal_101 : decode cX5_deal 101 = .ok (.iconst 1, 1) := by decide +kernel
theorem dX5_deal_102 : decode cX5_deal 102 = .ok (.iadd, 1) := by decide +kernel
theorem dX5_deal_103 : decode cX5_deal 103 = .ok (.istore_n 1, 1) := by decide +kernel
theorem dX5_deal_104 : decode cX5_deal 104 = .ok (.aload_n 0, 1) := by decide +kernel
theorem dX5_deal_105 : decode cX5_deal 105 = .ok (.iload_n 3, 1) := by decide +kernel
theorem dX5_deal_106 : decode cX5_deal 106 = .ok (.ifCond .eq 7, 3) := by decide +kernel
theorem dX5_deal_109 : decode cX5_deal 109 = .ok (.iconst 0, 1) := by decide +kernel
theorem dX5_deal_110 : decode cX5_deal 110 = .ok (.goto 4, 3) := by decide +kernel
theorem dX5_deal_113 : decode cX5_deal 113 = .ok (.iconst 1, 1) := by decide +kernel
theorem dX5_deal_114 : decode cX5_deal 114 = .ok (.invokevirtual 52, 3) := by decide +kernel
theorem dX5_deal_117 : decode cX5_deal 117 = .ok (.iload_n 3, 1) := by decide +kernel
theorem dX5_deal_118 : decode cX5_deal 118 = .ok (.ifCond .eq 14, 3) := by decide +kernel
theorem dX5_deal_121 : decode cX5_deal 121 = .ok (.aload_n 0, 1) := by decide +kernel
theorem dX5_deal_122 : decode cX5_deal 122 = .ok (.iload_n 2, 1) := by decide +kernel
theorem dX5_deal_123 : decode cX5_deal 123 = .ok (.bipush 6, 2) := by decide +kernel
theorem dX5_deal_125 : decode cX5_deal 125 = .ok (.isub, 1) := by decide +kernel
theorem dX5_deal_126 : decode cX5_deal 126 = .ok (.invokevirtual 103, 3) := by decide +kernel
theorem dX5_deal_129 : decode cX5_deal 129 = .ok (.goto 11, 3) := by decide +kernel
theorem dX5_deal_132 : decode cX5_deal 132 = .ok (.aload_n 0, 1) := by decide +kernel
theorem dX5_deal_133 : decode cX5_deal 133 = .ok (.iload_n 2, 1) := by decide +kernel
theorem dX5_deal_134 : decode cX5_deal 134 = .ok (.bipush 8, 2) := by decide +kernel
theorem dX5_deal_136 : decode cX5_deal 136 = .ok (.isub, 1) := by decide +kernel
theorem dX5_deal_137 : decode cX5_deal 137 = .ok (.invokevirtual 106, 3) := by decide +kernel
theorem dX5_deal_140 : decode cX5_deal 140 = .ok (.aload_n 0, 1) := by decide +kernel
theorem dX5_deal_141 : decode cX5_deal 141 = .ok (.iload_n 2, 1) := by decide +kernel
theorem dX5_deal_142 : decode cX5_deal 142 = .ok (.invokevirtual 100, 3) := by decide +kernel
theorem dX5_deal_145 : decode cX5_deal 145 = .ok (.aload_n 0, 1) := by decide +kernel
theorem dX5_deal_146 : decode cX5_deal 146 = .ok (.getfield 42, 3) := by decide +kernel
theorem dX5_deal_149 : decode cX5_deal 149 = .ok (.ifCond .ne 7, 3) := by decide +kernel
theorem dX5_deal_152 : decode cX5_deal 152 = .ok (.iconst 0, 1) := by decide +kernel
theorem dX5_deal_153 : decode cX5_deal 153 = .ok (.goto 7, 3) := by decide +kernel
theorem dX5_deal_156 : decode cX5_deal 156 = .ok (.aload_n 0, 1) := by decide +kernel
theorem dX5_deal_157 : decode cX5_deal 157 = .ok (.invokevirtual 89, 3) := by decide +kernel
theorem dX5_deal_160 : decode cX5_deal 160 = .ok (.istore_n 2, 1) := by decide +kernel
theorem dX5_deal_161 : decode cX5_deal 161 = .ok (.goto (-143), 3) := by decide +kernel
theorem dX5_deal_164 : decode cX5_deal 164 = .ok (.iload_n 1, 1) := by decide +kernel
theorem dX5_deal_165 : decode cX5_deal 165 = .ok (.ireturn, 1) := by decide +kernel
set_option maxRecDepth 20000 in
theorem ggX5_put_X5_deal : GoodIn wsX5_put wsX5_deal := goodIn_r _ [7, 2, 1, 8, 9, 10, 6, 11, 12, 13, 14, 15, 16, 17, 18, 19, 20, 21, 22, 23, 24, 25, 26, 27, 28, 29, 30, 31, 32, 33, 34, 35, 36, 37, 38, 39, 40, 41, 42, 43, 44, 45, 46, 47, 48, 49, 50, 51, 52, 53, 54, 55, 56, 57, 58, 59, 60, 61, 62, 63, 64, 65, 66, 67, 68, 69, 70, 71, 72, 73, 74, 75, 76, 77, 78, 79, 80, 81, 82, 83, 84, 85, 86, 87, 88, 89, 90, 91, 92, 93, 94, 95] (by decide +kernel) (by decide +kernel)
set_option maxRecDepth 20000 in
theorem gX5_put_X5_deal : GoodIn wsX5_put (wsV RX5 109 RX5 yX5_deal wsX5_deal) := goodIn_app (goodIn_of _ (by decide +kernel)) ggX5_put_X5_deal
theorem dX5_put_0 : decode cX5_put 0 = .ok (.iload_n 2, 1) := by decide +kernel
theorem dX5_put_1 : decode cX5_put 1 = .ok (.iconst 1, 1) := by decide +kernel
theorem dX5_put_2 : decode cX5_put 2 = .ok (.if_icmp .lt 8, 3) := by decide +kernel
theorem dX5_put_5 : decode cX5_put 5 = .ok (.iload_n 2, 1) := by decide +kernel
theorem dX5_put_6 : decode cX5_put 6 = .ok (.iconst 4, 1) := by decide +kernel
theorem dX5_put_7 : decode cX5_put 7 = .ok (.if_icmp .le 5, 3) := by decide +kernel
theorem dX5_put_10 : decode cX5_put 10 = .ok (.iconst (-1), 1) := by decide +kernel
theorem dX5_put_11 : decode cX5_put 11 = .ok (.ireturn, 1) := by decide +kernel
theorem dX5_put_12 : decode cX5_put 12 = .ok (.iload_n 2, 1) := by decide +kernel
theorem dX5_put_13 : decode cX5_put 13 = .ok (.iconst 1, 1) := by decide +kernel
theorem dX5_put_14 : decode cX5_put 14 = .ok (.isub, 1) := by decide +kernel
theorem dX5_put_15 : decode cX5_put 15 = .ok (.istore_n 3, 1) := by decide +kernel
theorem dX5_put_16 : decode cX5_put 16 = .ok (.iload_n 3, 1) := by decide +kernel
theorem dX5_put_17 : decode cX5_put 17 = .ok (.ifCond .lt 38, 3) := by decide +kernel
theorem dX5_put_20 : decode cX5_put 20 = .ok (.aload_n 0, 1) := by decide +kernel
theorem dX5_put_21 : decode cX5_put 21 = .ok (.getfield 7, 3) := by decide +kernel
theorem dX5_put_24 : decode cX5_put 24 = .ok (.aload_n 0, 1) := by decide +kernel
theorem dX5_put_25 : decode cX5_put 25 = .ok (.getfield 42, 3) := by decide +kernel
theorem dX5_put_28 : decode cX5_put 28 = .ok (.iload_n 1, 1) := by decide +kernel
theorem dX5_put_29 : decode cX5_put 29 = .ok (.bipush 8, 2) := by decide +kernel
theorem dX5_put_31 : decode cX5_put 31 = .ok (.iload_n 3, 1) := by decide +kernel
theorem dX5_put_32 : decode cX5_put 32 = .ok (.imul, 1) := by decide +kernel
theorem dX5_put_33 : decode cX5_put 33 = .ok (.ishr, 1) := by decide +kernel
theorem dX5_put_34 : decode cX5_put 34 = .ok (.sipush 255, 3) := by decide +kernel
theorem dX5_put_37 : decode cX5_put 37 = .ok (.iand, 1) := by decide +kernel
theorem dX5_put_38 : decode cX5_put 38 = .ok (.iastore, 1) := by decide +kernel
theorem dX5_put_39 : decode cX5_put 39 = .ok (.aload_n 0, 1) := by decide +kernel
theorem dX5_put_40 : decode cX5_put 40 = .ok (.aload_n 0, 1) := by decide +kernel
theorem dX5_put_41 : decode cX5_put 41 = .ok (.getfield 42, 3) := by decide +kernel
theorem dX5_put_44 : decode cX5_put 44 = .ok (.iconst 1, 1) := by decide +kernel
theorem dX5_put_45 : decode cX5_put 45 = .ok (.iadd, 1) := by decide +kernel
theorem dX5_put_46 : decode cX5_put 46 = .ok (.putfield 42, 3) := by decide +kernel
theorem dX5_put_49 : decode cX5_put 49 = .ok (.iinc 3 (-1), 3) := by decide +kernel
theorem dX5_put_52 : decode cX5_put 52 = .ok (.goto (-36), 3) := by decide +kernel
theorem dX5_put_55 : decode cX5_put 55 = .ok (.aload_n 0, 1) := by decide +kernel
theorem dX5_put_56 : decode cX5_put 56 = .ok (.invokevirtual 109, 3) := by decide +kernel
theorem dX5_put_59 : decode cX5_put 59 = .ok (.ireturn, 1) := by decide +kernel
theorem dX5_count_0 : decode cX5_count 0 = .ok (.iload_n 1, 1) := by decide +kernel
theorem dX5_count_1 : decode cX5_count 1 = .ok (.bipush 8, 2) := by decide +kernel
theorem dX5_count_3 : decode cX5_count 3 = .ok (.if_icmp .ne 8, 3) := by decide +kernel
theorem dX5_count_6 : decode cX5_count 6 = .ok (.aload_n 0, 1) := by decide +kernel
theorem dX5_count_7 : decode cX5_count 7 = .ok (.getfield 42, 3) := by decide +kernel
theorem dX5_count_10 : decode cX5_count 10 = .ok (.ireturn, 1) := by decide +kernel
theorem dX5_count_11 : decode cX5_count 11 = .ok (.iload_n 1, 1) := by decide +kernel
theorem dX5_count_12 : decode cX5_count 12 = .ok (.bipush 9, 2) := by decide +kernel
theorem dX5_count_14 : decode cX5_count 14 = .ok (.if_icmp .ne 24, 3) := by decide +kernel
theorem dX5_count_17 : decode cX5_count 17 = .ok (.aload_n 0, 1) := by decide +kernel
theorem dX5_count_18 : decode cX5_count 18 = .ok (.getfield 29, 3) := by decide +kernel
theorem dX5_count_21 : decode cX5_count 21 = .ok (.iconst 0, 1) := by decide +kernel
theorem dX5_count_22 : decode cX5_count 22 = .ok (.iaload, 1) := by decide +kernel
theorem dX5_count_23 : decode cX5_count 23 = .ok (.iconst 1, 1) := by decide +kernel
theorem dX5_count_24 : decode cX5_count 24 = .ok (.if_icmp .ne 12, 3) := by decide +kernel
theorem dX5_count_27 : decode cX5_count 27 = .ok (.aload_n 0, 1) := by decide +kernel
theorem dX5_count_28 : decode cX5_count 28 = .ok (.getfield 29, 3) := by decide +kernel
theorem dX5_count_31 : decode cX5_count 31 = .ok (.iconst 3, 1) := by decide +kernel
theorem dX5_count_32 : decode cX5_count 32 = .ok (.iaload, 1) := by decide +kernel
theorem dX5_count_33 : decode cX5_count 33 = .ok (.goto 4, 3) := by decide +kernel
theorem dX5_count_36 : decode cX5_count 36 = .ok (.iconst (-1), 1) := by decide +kernel
theorem dX5_count_37 : decode cX5_count 37 = .ok (.ireturn, 1) := by decide +kernel
theorem dX5_count_38 : decode cX5_count 38 = .ok (.iload_n 1, 1) := by decide +kernel
theorem dX5_count_39 : decode cX5_count 39 = .ok (.ifCond .lt 18, 3) := by decide +kernel
theorem dX5_count_42 : decode cX5_count 42 = .ok (.iload_n 1, 1) := by decide +kernel
theorem dX5_count_43 : decode cX5_count 43 = .ok (.bipush 8, 2) := by decide +kernel
theorem dX5_count_45 : decode cX5_count 45 = .ok (.if_icmp .ge 12, 3) := by decide +kernel
theorem dX5_count_48 : decode cX5_count 48 = .ok (.aload_n 0, 1) := by decide +kernel
theorem dX5_count_49 : decode cX5_count 49 = .ok (.getfield 13, 3) := by decide +kernel
theorem dX5_count_52 : decode cX5_count 52 = .ok (.iload_n 1, 1) := by decide +kernel
theorem dX5_count_53 : decode cX5_count 53 = .ok (.iaload, 1) := by decide +kernel
theorem dX5_count_54 : decode cX5_count 54 = .ok (.goto 4, 3) := by decide +kernel
theorem dX5_count_57 : decode cX5_count 57 = .ok (.iconst (-1), 1) := by decide +kernel
theorem dX5_count_58 : decode cX5_count 58 = .ok (.ireturn, 1) := by decide +kernel
theorem dX5_epoch_0 : decode cX5_epoch 0 = .ok (.aload_n 0, 1) := by decide +kernel
theorem dX5_epoch_1 : decode cX5_epoch 1 = .ok (.getfield 29, 3) := by decide +kernel
theorem dX5_epoch_4 : decode cX5_epoch 4 = .ok (.bipush 8, 2) := by decide +kernel
theorem dX5_epoch_6 : decode cX5_epoch 6 = .ok (.iaload, 1) := by decide +kernel
theorem dX5_epoch_7 : decode cX5_epoch 7 = .ok (.iconst 1, 1) := by decide +kernel
theorem dX5_epoch_8 : decode cX5_epoch 8 = .ok (.if_icmp .ne 24, 3) := by decide +kernel
theorem dX5_epoch_11 : decode cX5_epoch 11 = .ok (.iload_n 1, 1) := by decide +kernel
theorem dX5_epoch_12 : decode cX5_epoch 12 = .ok (.ifCond .lt 20, 3) := by decide +kernel
theorem dX5_epoch_15 : decode cX5_epoch 15 = .ok (.iload_n 1, 1) := by decide +kernel
theorem dX5_epoch_16 : decode cX5_epoch 16 = .ok (.iconst 4, 1) := by decide +kernel
theorem dX5_epoch_17 : decode cX5_epoch 17 = .ok (.if_icmp .ge 15, 3) := by decide +kernel
theorem dX5_epoch_20 : decode cX5_epoch 20 = .ok (.aload_n 0, 1) := by decide +kernel
theorem dX5_epoch_21 : decode cX5_epoch 21 = .ok (.getfield 29, 3) := by decide +kernel
theorem dX5_epoch_24 : decode cX5_epoch 24 = .ok (.bipush 9, 2) := by decide +kernel
theorem dX5_epoch_26 : decode cX5_epoch 26 = .ok (.iload_n 1, 1) := by decide +kernel
theorem dX5_epoch_27 : decode cX5_epoch 27 = .ok (.iadd, 1) := by decide +kernel
theorem dX5_epoch_28 : decode cX5_epoch 28 = .ok (.iaload, 1) := by decide +kernel
theorem dX5_epoch_29 : decode cX5_epoch 29 = .ok (.goto 4, 3) := by decide +kernel
theorem dX5_epoch_32 : decode cX5_epoch 32 = .ok (.iconst (-1), 1) := by decide +kernel
theorem dX5_epoch_33 : decode cX5_epoch 33 = .ok (.ireturn, 1) := by decide +kernel
theorem dX5_isCell_0 : decode cX5_isCell 0 = .ok (.aload_n 0, 1) := by decide +kernel
theorem dX5_isCell_1 : decode cX5_isCell 1 = .ok (.getfield 29, 3) := by decide +kernel
theorem dX5_isCell_4 : decode cX5_isCell 4 = .ok (.bipush 8, 2) := by decide +kernel
theorem dX5_isCell_6 : decode cX5_isCell 6 = .ok (.iaload, 1) := by decide +kernel
theorem dX5_isCell_7 : decode cX5_isCell 7 = .ok (.iconst 1, 1) := by decide +kernel
theorem dX5_isCell_8 : decode cX5_isCell 8 = .ok (.if_icmp .ne 22, 3) := by decide +kernel
theorem dX5_isCell_11 : decode cX5_isCell 11 = .ok (.iload_n 1, 1) := by decide +kernel
theorem dX5_isCell_12 : decode cX5_isCell 12 = .ok (.ifCond .lt 18, 3) := by decide +kernel
theorem dX5_isCell_15 : decode cX5_isCell 15 = .ok (.iload_n 1, 1) := by decide +kernel
theorem dX5_isCell_16 : decode cX5_isCell 16 = .ok (.aload_n 0, 1) := by decide +kernel
theorem dX5_isCell_17 : decode cX5_isCell 17 = .ok (.getfield 29, 3) := by decide +kernel
theorem dX5_isCell_20 : decode cX5_isCell 20 = .ok (.bipush 11, 2) := by decide +kernel
theorem dX5_isCell_22 : decode cX5_isCell 22 = .ok (.iaload, 1) := by decide +kernel
theorem dX5_isCell_23 : decode cX5_isCell 23 = .ok (.if_icmp .ge 7, 3) := by decide +kernel
theorem dX5_isCell_26 : decode cX5_isCell 26 = .ok (.iconst 1, 1) := by decide +kernel
theorem dX5_isCell_27 : decode cX5_isCell 27 = .ok (.goto 4, 3) := by decide +kernel
theorem dX5_isCell_30 : decode cX5_isCell 30 = .ok (.iconst 0, 1) := by decide +kernel
theorem dX5_isCell_31 : decode cX5_isCell 31 = .ok (.ireturn, 1) := by decide +kernel
set_option maxRecDepth 20000 in
theorem ggX5_cell_X5_isCell : GoodIn wsX5_cell wsX5_isCell := goodIn_r _ [6, 7, 8, 9, 10, 11, 12, 13, 14, 15, 16] (by decide +kernel) (by decide +kernel)
set_option maxRecDepth 20000 in
theorem gX5_cell_X5_isCell : GoodIn wsX5_cell (wsV RX5 112 RX5 yX5_isCell wsX5_isCell) := goodIn_app (goodIn_of _ (by decide +kernel)) ggX5_cell_X5_isCell
theorem dX5_cell_0 : decode cX5_cell 0 = .ok (.aload_n 0, 1) := by decide +kernel
theorem dX5_cell_1 : decode cX5_cell 1 = .ok (.iload_n 1, 1) := by decide +kernel
theorem dX5_cell_2 : decode cX5_cell 2 = .ok (.invokevirtual 112, 3) := by decide +kernel
theorem dX5_cell_5 : decode cX5_cell 5 = .ok (.ifCond .eq 15, 3) := by decide +kernel
theorem dX5_cell_8 : decode cX5_cell 8 = .ok (.aload_n 0, 1) := by decide +kernel
theorem dX5_cell_9 : decode cX5_cell 9 = .ok (.getfield 19, 3) := by decide +kernel
theorem dX5_cell_12 : decode cX5_cell 12 = .ok (.bipush 40, 2) := by decide +kernel
theorem dX5_cell_14 : decode cX5_cell 14 = .ok (.iload_n 1, 1) := by decide +kernel
theorem dX5_cell_15 : decode cX5_cell 15 = .ok (.iadd, 1) := by decide +kernel
theorem dX5_cell_16 : decode cX5_cell 16 = .ok (.iaload, 1) := by decide +kernel
theorem dX5_cell_17 : decode cX5_cell 17 = .ok (.goto 4, 3) := by decide +kernel
theorem dX5_cell_20 : decode cX5_cell 20 = .ok (.iconst (-1), 1) := by decide +kernel
theorem dX5_cell_21 : decode cX5_cell 21 = .ok (.ireturn, 1) := by decide +kernel
set_option maxRecDepth 20000 in
theorem ggX5_range_X5_isCell : GoodIn wsX5_range wsX5_isCell := goodIn_r _ [7, 8, 9, 10, 11, 12, 13, 14, 15, 16, 17] (by decide +kernel) (by decide +kernel)
set_option maxRecDepth 20000 in
theorem gX5_range_X5_isCell : GoodIn wsX5_range (wsV RX5 112 RX5 yX5_isCell wsX5_isCell) := goodIn_app (goodIn_of _ (by decide +kernel)) ggX5_range_X5_isCell
theorem dX5_range_0 : decode cX5_range 0 = .ok (.aload_n 0, 1) := by decide +kernel
theorem dX5_range_1 : decode cX5_range 1 = .ok (.iload_n 1, 1) := by decide +kernel
theorem dX5_range_2 : decode cX5_range 2 = .ok (.invokevirtual 112, 3) := by decide +kernel
theorem dX5_range_5 : decode cX5_range 5 = .ok (.ifCond .eq 15, 3) := by decide +kernel
theorem dX5_range_8 : decode cX5_range 8 = .ok (.aload_n 0, 1) := by decide +kernel
theorem dX5_range_9 : decode cX5_range 9 = .ok (.getfield 22, 3) := by decide +kernel
theorem dX5_range_12 : decode cX5_range 12 = .ok (.bipush 40, 2) := by decide +kernel
theorem dX5_range_14 : decode cX5_range 14 = .ok (.iload_n 1, 1) := by decide +kernel
theorem dX5_range_15 : decode cX5_range 15 = .ok (.iadd, 1) := by decide +kernel
theorem dX5_range_16 : decode cX5_range 16 = .ok (.daload, 1) := by decide +kernel
theorem dX5_range_17 : decode cX5_range 17 = .ok (.goto 6, 3) := by decide +kernel
theorem dX5_range_20 : decode cX5_range 20 = .ok (.ldc2_w 77, 3) := by decide +kernel
theorem dX5_range_23 : decode cX5_range 23 = .ok (.dreturn, 1) := by decide +kernel
set_option maxRecDepth 20000 in
theorem ggX5_strength_X5_isCell : GoodIn wsX5_strength wsX5_isCell := goodIn_r _ [6, 7, 8, 9, 10, 11, 12, 13, 14, 15, 16] (by decide +kernel) (by decide +kernel)
set_option maxRecDepth 20000 in
theorem gX5_strength_X5_isCell : GoodIn wsX5_strength (wsV RX5 112 RX5 yX5_isCell wsX5_isCell) := goodIn_app (goodIn_of _ (by decide +kernel)) ggX5_strength_X5_isCell
theorem dX5_strength_0 : decode cX5_strength 0 = .ok (.aload_n 0, 1) := by decide +kernel
theorem dX5_strength_1 : decode cX5_strength 1 = .ok (.iload_n 1, 1) := by decide +kernel
theorem dX5_strength_2 : decode cX5_strength 2 = .ok (.invokevirtual 112, 3) := by decide +kernel
theorem dX5_strength_5 : decode cX5_strength 5 = .ok (.ifCond .eq 15, 3) := by decide +kernel
theorem dX5_strength_8 : decode cX5_strength 8 = .ok (.aload_n 0, 1) := by decide +kernel
theorem dX5_strength_9 : decode cX5_strength 9 = .ok (.getfield 26, 3) := by decide +kernel
theorem dX5_strength_12 : decode cX5_strength 12 = .ok (.bipush 40, 2) := by decide +kernel
theorem dX5_strength_14 : decode cX5_strength 14 = .ok (.iload_n 1, 1) := by decide +kernel
theorem dX5_strength_15 : decode cX5_strength 15 = .ok (.iadd, 1) := by decide +kernel
theorem dX5_strength_16 : decode cX5_strength 16 = .ok (.iaload, 1) := by decide +kernel
theorem dX5_strength_17 : decode cX5_strength 17 = .ok (.goto 4, 3) := by decide +kernel
theorem dX5_strength_20 : decode cX5_strength 20 = .ok (.iconst (-1), 1) := by decide +kernel
theorem dX5_strength_21 : decode cX5_strength 21 = .ok (.ireturn, 1) := by decide +kernel
set_option maxRecDepth 20000 in
theorem ggX5_mean_X5_isCell : GoodIn wsX5_mean wsX5_isCell := goodIn_r _ [7, 8, 9, 10, 11, 12, 13, 14, 15, 16, 17] (by decide +kernel) (by decide +kernel)
set_option maxRecDepth 20000 in
theorem gX5_mean_X5_isCell : GoodIn wsX5_mean (wsV RX5 112 RX5 yX5_isCell wsX5_isCell) := goodIn_app (goodIn_of _ (by decide +kernel)) ggX5_mean_X5_isCell
theorem dX5_mean_0 : decode cX5_mean 0 = .ok (.dconst 0, 1) := by decide +kernel
theorem dX5_mean_1 : decode cX5_mean 1 = .ok (.dstore_n 1, 1) := by decide +kernel
theorem dX5_mean_2 : decode cX5_mean 2 = .ok (.iconst 0, 1) := by decide +kernel
theorem dX5_mean_3 : decode cX5_mean 3 = .ok (.istore_n 3, 1) := by decide +kernel
theorem dX5_mean_4 : decode cX5_mean 4 = .ok (.bipush 40, 2) := by decide +kernel
theorem dX5_mean_6 : decode cX5_mean 6 = .ok (.istore 4, 2) := by decide +kernel
theorem dX5_mean_8 : decode cX5_mean 8 = .ok (.aload_n 0, 1) := by decide +kernel
theorem dX5_mean_9 : decode cX5_mean 9 = .ok (.iload 4, 2) := by decide +kernel
theorem dX5_mean_11 : decode cX5_mean 11 = .ok (.bipush 40, 2) := by decide +kernel
theorem dX5_mean_13 : decode cX5_mean 13 = .ok (.isub, 1) := by decide +kernel
theorem dX5_mean_14 : decode cX5_mean 14 = .ok (.invokevirtual 112, 3) := by decide +kernel
theorem dX5_mean_17 : decode cX5_mean 17 = .ok (.ifCond .eq 59, 3) := by decide +kernel
theorem dX5_mean_20 : decode cX5_mean 20 = .ok (.aload_n 0, 1) := by decide +kernel
theorem dX5_mean_21 : decode cX5_mean 21 = .ok (.getfield 22, 3) := by decide +kernel
theorem dX5_mean_24 : decode cX5_mean 24 = .ok (.iload 4, 2) := by decide +kernel
theorem dX5_mean_26 : decode cX5_mean 26 = .ok (.daload, 1) := by decide +kernel
theorem dX5_mean_27 : decode cX5_mean 27 = .ok (.ldc2_w 77, 3) := by decide +kernel
theorem dX5_mean_30 : decode cX5_mean 30 = .ok (.dcmp .l, 1) := by decide +kernel
theorem dX5_mean_31 : decode cX5_mean 31 = .ok (.ifCond .eq 15, 3) := by decide +kernel
theorem dX5_mean_34 : decode cX5_mean 34 = .ok (.dload_n 1, 1) := by decide +kernel
theorem dX5_mean_35 : decode cX5_mean 35 = .ok (.aload_n 0, 1) := by decide +kernel
theorem dX5_mean_36 : decode cX5_mean 36 = .ok (.getfield 22, 3) := by decide +kernel
theorem dX5_mean_39 : decode cX5_mean 39 = .ok (.iload 4, 2) := by decide +kernel
theorem dX5_mean_41 : decode cX5_mean 41 = .ok (.daload, 1) := by decide +kernel
theorem dX5_mean_42 : decode cX5_mean 42 = .ok (.dadd, 1) := by decide +kernel
theorem dX5_mean_43 : decode cX5_mean 43 = .ok (.goto 4, 3) := by decide +kernel
theorem dX5_mean_46 : decode cX5_mean 46 = .ok (.dload_n 1, 1) := by decide +kernel
theorem dX5_mean_47 : decode cX5_mean 47 = .ok (.dstore_n 1, 1) := by decide +kernel
theorem dX5_mean_48 : decode cX5_mean 48 = .ok (.aload_n 0, 1) := by decide +kernel
theorem dX5_mean_49 : decode cX5_mean 49 = .ok (.getfield 22, 3) := by decide +kernel
theorem dX5_mean_52 : decode cX5_mean 52 = .ok (.iload 4, 2) := by decide +kernel
theorem dX5_mean_54 : decode cX5_mean 54 = .ok (.daload, 1) := by decide +kernel
theorem dX5_mean_55 : decode cX5_mean 55 = .ok (.ldc2_w 77, 3) := by decide +kernel
theorem dX5_mean_58 : decode cX5_mean 58 = .ok (.dcmp .l, 1) := by decide +kernel
theorem dX5_mean_59 : decode cX5_mean 59 = .ok (.ifCond .eq 9, 3) := by decide +kernel
theorem dX5_mean_62 : decode cX5_mean 62 = .ok (.iload_n 3, 1) := by decide +kernel
theorem dX5_mean_63 : decode cX5_mean 63 = .ok (.iconst 1, 1) := by decide +kernel
theorem dX5_mean_64 : decode cX5_mean 64 = .ok (.iadd, 1) := by decide +kernel
theorem dX5_mean_65 : decode cX5_mean 65 = .ok (.goto 4, 3) := by decide +kernel
theorem dX5_mean_68 : decode cX5_mean 68 = .ok (.iload_n 3, 1) := by decide +kernel
theorem dX5_mean_69 : decode cX5_mean 69 = .ok (.istore_n 3, 1) := by decide +kernel
theorem dX5_mean_70 : decode cX5_mean 70 = .ok (.iinc 4 1, 3) := by decide +kernel
theorem dX5_mean_73 : decode cX5_mean 73 = .ok (.goto (-65), 3) := by decide +kernel
theorem dX5_mean_76 : decode cX5_mean 76 = .ok (.iload_n 3, 1) := by decide +kernel
theorem dX5_mean_77 : decode cX5_mean 77 = .ok (.ifCond .le 10, 3) := by decide +kernel
theorem dX5_mean_80 : decode cX5_mean 80 = .ok (.dload_n 1, 1) := by decide +kernel
theorem dX5_mean_81 : decode cX5_mean 81 = .ok (.iload_n 3, 1) := by decide +kernel
theorem dX5_mean_82 : decode cX5_mean 82 = .ok (.i2d, 1) := by decide +kernel
theorem dX5_mean_83 : decode cX5_mean 83 = .ok (.ddiv, 1) := by decide +kernel
theorem dX5_mean_84 : decode cX5_mean 84 = .ok (.goto 6, 3) := by decide +kernel
theorem dX5_mean_87 : decode cX5_mean 87 = .ok (.ldc2_w 77, 3) := by decide +kernel
theorem dX5_mean_90 : decode cX5_mean 90 = .ok (.dreturn, 1) := by decide +kernel
theorem dX5_fix_0 : decode cX5_fix 0 = .ok (.aload_n 0, 1) := by decide +kernel
theorem dX5_fix_1 : decode cX5_fix 1 = .ok (.getfield 32, 3) := by decide +kernel
theorem dX5_fix_4 : decode cX5_fix 4 = .ok (.iconst 4, 1) := by decide +kernel
theorem dX5_fix_5 : decode cX5_fix 5 = .ok (.iaload, 1) := by decide +kernel
theorem dX5_fix_6 : decode cX5_fix 6 = .ok (.ireturn, 1) := by decide +kernel
theorem dX5_place_0 : decode cX5_place 0 = .ok (.aload_n 0, 1) := by decide +kernel
theorem dX5_place_1 : decode cX5_place 1 = .ok (.getfield 32, 3) := by decide +kernel
theorem dX5_place_4 : decode cX5_place 4 = .ok (.iconst 4, 1) := by decide +kernel
theorem dX5_place_5 : decode cX5_place 5 = .ok (.iaload, 1) := by decide +kernel
theorem dX5_place_6 : decode cX5_place 6 = .ok (.ifCond .eq 12, 3) := by decide +kernel
theorem dX5_place_9 : decode cX5_place 9 = .ok (.iload_n 1, 1) := by decide +kernel
theorem dX5_place_10 : decode cX5_place 10 = .ok (.ifCond .lt 8, 3) := by decide +kernel
theorem dX5_place_13 : decode cX5_place 13 = .ok (.iload_n 1, 1) := by decide +kernel
theorem dX5_place_14 : decode cX5_place 14 = .ok (.iconst 2, 1) := by decide +kernel
theorem dX5_place_15 : decode cX5_place 15 = .ok (.if_icmp .le 5, 3) := by decide +kernel
theorem dX5_place_18 : decode cX5_place 18 = .ok (.dconst 0, 1) := by decide +kernel
theorem dX5_place_19 : decode cX5_place 19 = .ok (.dreturn, 1) := by decide +kernel
theorem dX5_place_20 : decode cX5_place 20 = .ok (.iload_n 1, 1) := by decide +kernel
theorem dX5_place_21 : decode cX5_place 21 = .ok (.iconst 2, 1) := by decide +kernel
theorem dX5_place_22 : decode cX5_place 22 = .ok (.if_icmp .ge 19, 3) := by decide +kernel
theorem dX5_place_25 : decode cX5_place 25 = .ok (.aload_n 0, 1) := by decide +kernel
theorem dX5_place_26 : decode cX5_place 26 = .ok (.getfield 32, 3) := by decide +kernel
theorem dX5_place_29 : decode cX5_place 29 = .ok (.iconst 1, 1) := by decide +kernel
theorem dX5_place_30 : decode cX5_place 30 = .ok (.iload_n 1, 1) := by decide +kernel
theorem dX5_place_31 : decode cX5_place 31 = .ok (.iadd, 1) := by decide +kernel
theorem dX5_place_32 : decode cX5_place 32 = .ok (.iaload, 1) := by decide +kernel
theorem dX5_place_33 : decode cX5_place 33 = .ok (.i2d, 1) := by decide +kernel
theorem dX5_place_34 : decode cX5_place 34 = .ok (.ldc2_w 115, 3) := by decide +kernel
theorem dX5_place_37 : decode cX5_place 37 = .ok (.dmul, 1) := by decide +kernel
theorem dX5_place_38 : decode cX5_place 38 = .ok (.goto 14, 3) := by decide +kernel
theorem dX5_place_41 : decode cX5_place 41 = .ok (.aload_n 0, 1) := by decide +kernel
theorem dX5_place_42 : decode cX5_place 42 = .ok (.getfield 32, 3) := by decide +kernel
theorem dX5_place_45 : decode cX5_place 45 = .ok (.iconst 3, 1) := by decide +kernel
theorem dX5_place_46 : decode cX5_place 46 = .ok (.iaload, 1) := by decide +kernel
theorem dX5_place_47 : decode cX5_place 47 = .ok (.i2d, 1) := by decide +kernel
theorem dX5_place_48 : decode cX5_place 48 = .ok (.ldc2_w 117, 3) := by decide +kernel
theorem dX5_place_51 : decode cX5_place 51 = .ok (.dmul, 1) := by decide +kernel
theorem dX5_place_52 : decode cX5_place 52 = .ok (.dreturn, 1) := by decide +kernel
theorem dX5_raw_0 : decode cX5_raw 0 = .ok (.aload_n 0, 1) := by decide +kernel
theorem dX5_raw_1 : decode cX5_raw 1 = .ok (.getfield 32, 3) := by decide +kernel
theorem dX5_raw_4 : decode cX5_raw 4 = .ok (.iconst 4, 1) := by decide +kernel
theorem dX5_raw_5 : decode cX5_raw 5 = .ok (.iaload, 1) := by decide +kernel
theorem dX5_raw_6 : decode cX5_raw 6 = .ok (.ifCond .le 21, 3) := by decide +kernel
theorem dX5_raw_9 : decode cX5_raw 9 = .ok (.iload_n 1, 1) := by decide +kernel
theorem dX5_raw_10 : decode cX5_raw 10 = .ok (.ifCond .lt 17, 3) := by decide +kernel
theorem dX5_raw_13 : decode cX5_raw 13 = .ok (.iload_n 1, 1) := by decide +kernel
theorem dX5_raw_14 : decode cX5_raw 14 = .ok (.iconst 4, 1) := by decide +kernel
theorem dX5_raw_15 : decode cX5_raw 15 = .ok (.if_icmp .ge 12, 3) := by decide +kernel
theorem dX5_raw_18 : decode cX5_raw 18 = .ok (.aload_n 0, 1) := by decide +kernel
theorem dX5_raw_19 : decode cX5_raw 19 = .ok (.getfield 32, 3) := by decide +kernel
theorem dX5_raw_22 : decode cX5_raw 22 = .ok (.iload_n 1, 1) := by decide +kernel
theorem dX5_raw_23 : decode cX5_raw 23 = .ok (.iaload, 1) := by decide +kernel
theorem dX5_raw_24 : decode cX5_raw 24 = .ok (.goto 4, 3) := by decide +kernel
theorem dX5_raw_27 : decode cX5_raw 27 = .ok (.iconst 0, 1) := by decide +kernel
theorem dX5_raw_28 : decode cX5_raw 28 = .ok (.ireturn, 1) := by decide +kernel
set_option maxRecDepth 20000 in
theorem ggX5_check_X5_longer : GoodIn wsX5_check wsX5_longer := goodIn_r _ [6, 7, 8, 9, 10, 11, 12, 13, 14, 15, 16, 17] (by decide +kernel) (by decide +kernel)
set_option maxRecDepth 20000 in
theorem gX5_check_X5_longer : GoodIn wsX5_check (wsV RX5 38 RX5 yX5_longer wsX5_longer) := goodIn_app (goodIn_of _ (by decide +kernel)) ggX5_check_X5_longer
theorem dX5_check_0 : decode cX5_check 0 = .ok (.iload_n 3, 1) := by decide +kernel
theorem dX5_check_1 : decode cX5_check 1 = .ok (.iconst 1, 1) := by decide +kernel
theorem dX5_check_2 : decode cX5_check 2 = .ok (.if_icmp .lt 8, 3) := by decide +kernel
theorem dX5_check_5 : decode cX5_check 5 = .ok (.iload_n 3, 1) := by decide +kernel
theorem dX5_check_6 : decode cX5_check 6 = .ok (.iconst 4, 1) := by decide +kernel
theorem dX5_check_7 : decode cX5_check 7 = .ok (.if_icmp .le 5, 3) := by decide +kernel
theorem dX5_check_10 : decode cX5_check 10 = .ok (.iconst (-1), 1) := by decide +kernel
theorem dX5_check_11 : decode cX5_check 11 = .ok (.ireturn, 1) := by decide +kernel
theorem dX5_check_12 : decode cX5_check 12 = .ok (.iload_n 1, 1) := by decide +kernel
theorem dX5_check_13 : decode cX5_check 13 = .ok (.ldc 119, 2) := by decide +kernel
theorem dX5_check_15 : decode cX5_check 15 = .ok (.iand, 1) := by decide +kernel
theorem dX5_check_16 : decode cX5_check 16 = .ok (.istore 4, 2) := by decide +kernel
theorem dX5_check_18 : decode cX5_check 18 = .ok (.iload_n 3, 1) := by decide +kernel
theorem dX5_check_19 : decode cX5_check 19 = .ok (.iconst 1, 1) := by decide +kernel
theorem dX5_check_20 : decode cX5_check 20 = .ok (.isub, 1) := by decide +kernel
theorem dX5_check_21 : decode cX5_check 21 = .ok (.istore 5, 2) := by decide +kernel
theorem dX5_check_23 : decode cX5_check 23 = .ok (.iload 5, 2) := by decide +kernel
theorem dX5_check_25 : decode cX5_check 25 = .ok (.ifCond .lt 28, 3) := by decide +kernel
theorem dX5_check_28 : decode cX5_check 28 = .ok (.aload_n 0, 1) := by decide +kernel
theorem dX5_check_29 : decode cX5_check 29 = .ok (.iload 4, 2) := by decide +kernel
theorem dX5_check_31 : decode cX5_check 31 = .ok (.iload_n 2, 1) := by decide +kernel
theorem dX5_check_32 : decode cX5_check 32 = .ok (.bipush 8, 2) := by decide +kernel
theorem dX5_check_34 : decode cX5_check 34 = .ok (.iload 5, 2) := by decide +kernel
theorem dX5_check_36 : decode cX5_check 36 = .ok (.imul, 1) := by decide +kernel
theorem dX5_check_37 : decode cX5_check 37 = .ok (.ishr, 1) := by decide +kernel
theorem dX5_check_38 : decode cX5_check 38 = .ok (.sipush 255, 3) := by decide +kernel
theorem dX5_check_41 : decode cX5_check 41 = .ok (.iand, 1) := by decide +kernel
theorem dX5_check_42 : decode cX5_check 42 = .ok (.invokevirtual 38, 3) := by decide +kernel
theorem dX5_check_45 : decode cX5_check 45 = .ok (.istore 4, 2) := by decide +kernel
theorem dX5_check_47 : decode cX5_check 47 = .ok (.iinc 5 (-1), 3) := by decide +kernel
theorem dX5_check_50 : decode cX5_check 50 = .ok (.goto (-27), 3) := by decide +kernel
theorem dX5_check_53 : decode cX5_check 53 = .ok (.iload 4, 2) := by decide +kernel
theorem dX5_check_55 : decode cX5_check 55 = .ok (.ireturn, 1) := by decide +kernel
set_option maxRecDepth 20000 in
theorem ggX5_flush_X5_bump : GoodIn wsX5_flush wsX5_bump := goodIn_r _ [7, 8, 9, 10, 11, 12, 13, 14, 15, 16, 17] (by decide +kernel) (by decide +kernel)
set_option maxRecDepth 20000 in
theorem gX5_flush_X5_bump : GoodIn wsX5_flush (wsV RX5 52 RX5 yX5_bump wsX5_bump) := goodIn_app (goodIn_of _ (by decide +kernel)) ggX5_flush_X5_bump
theorem dX5_flush_0 : decode cX5_flush 0 = .ok (.aload_n 0, 1) := by decide +kernel
theorem dX5_flush_1 : decode cX5_flush 1 = .ok (.getfield 42, 3) := by decide +kernel
theorem dX5_flush_4 : decode cX5_flush 4 = .ok (.istore_n 1, 1) := by decide +kernel
theorem dX5_flush_5 : decode cX5_flush 5 = .ok (.aload_n 0, 1) := by decide +kernel
theorem dX5_flush_6 : decode cX5_flush 6 = .ok (.iconst 0, 1) := by decide +kernel
theorem dX5_flush_7 : decode cX5_flush 7 = .ok (.putfield 42, 3) := by decide +kernel
theorem dX5_flush_10 : decode cX5_flush 10 = .ok (.aload_n 0, 1) := by decide +kernel
theorem dX5_flush_11 : decode cX5_flush 11 = .ok (.getfield 29, 3) := by decide +kernel
theorem dX5_flush_14 : decode cX5_flush 14 = .ok (.iconst 0, 1) := by decide +kernel
theorem dX5_flush_15 : decode cX5_flush 15 = .ok (.iaload, 1) := by decide +kernel
theorem dX5_flush_16 : decode cX5_flush 16 = .ok (.iconst 1, 1) := by decide +kernel
theorem dX5_flush_17 : decode cX5_flush 17 = .ok (.if_icmp .ne 8, 3) := by decide +kernel
theorem dX5_flush_20 : decode cX5_flush 20 = .ok (.aload_n 0, 1) := by decide +kernel
theorem dX5_flush_21 : decode cX5_flush 21 = .ok (.iconst 5, 1) := by decide +kernel
theorem dX5_flush_22 : decode cX5_flush 22 = .ok (.invokevirtual 52, 3) := by decide +kernel
theorem dX5_flush_25 : decode cX5_flush 25 = .ok (.aload_n 0, 1) := by decide +kernel
theorem dX5_flush_26 : decode cX5_flush 26 = .ok (.getfield 29, 3) := by decide +kernel
theorem dX5_flush_29 : decode cX5_flush 29 = .ok (.iconst 0, 1) := by decide +kernel
theorem dX5_flush_30 : decode cX5_flush 30 = .ok (.iconst 0, 1) := by decide +kernel
theorem dX5_flush_31 : decode cX5_flush 31 = .ok (.iastore, 1) := by decide +kernel
theorem dX5_flush_32 : decode cX5_flush 32 = .ok (.iload_n 1, 1) := by decide +kernel
theorem dX5_flush_33 : decode cX5_flush 33 = .ok (.ireturn, 1) := by decide +kernel
theorem dJ6_bitCount_0f7a4_0 : decode cJ6_bitCount_0f7a4 0 = .ok (.iload_n 0, 1) := by decide +kernel
theorem dJ6_bitCount_0f7a4_1 : decode cJ6_bitCount_0f7a4 1 = .ok (.iload_n 0, 1) := by decide +kernel
theorem dJ6_bitCount_0f7a4_2 : decode cJ6_bitCount_0f7a4 2 = .ok (.iconst 1, 1) := by decide +kernel
theorem dJ6_bitCount_0f7a4_3 : decode cJ6_bitCount_0f7a4 3 = .ok (.iushr, 1) := by decide +kernel
theorem dJ6_bitCount_0f7a4_4 : decode cJ6_bitCount_0f7a4 4 = .ok (.ldc_w 265, 3) := by decide +kernel
theorem dJ6_bitCount_0f7a4_7 : decode cJ6_bitCount_0f7a4 7 = .ok (.iand, 1) := by decide +kernel
theorem dJ6_bitCount_0f7a4_8 : decode cJ6_bitCount_0f7a4 8 = .ok (.isub, 1) := by decide +kernel
theorem dJ6_bitCount_0f7a4_9 : decode cJ6_bitCount_0f7a4 9 = .ok (.istore_n 0, 1) := by decide +kernel
theorem dJ6_bitCount_0f7a4_10 : decode cJ6_bitCount_0f7a4 10 = .ok (.iload_n 0, 1) := by decide +kernel
theorem dJ6_bitCount_0f7a4_11 : decode cJ6_bitCount_0f7a4 11 = .ok (.ldc_w 266, 3) := by decide +kernel
theorem dJ6_bitCount_0f7a4_14 : decode cJ6_bitCount_0f7a4 14 = .ok (.iand, 1) := by decide +kernel
theorem dJ6_bitCount_0f7a4_15 : decode cJ6_bitCount_0f7a4 15 = .ok (.iload_n 0, 1) := by decide +kernel
theorem dJ6_bitCount_0f7a4_16 : decode cJ6_bitCount_0f7a4 16 = .ok (.iconst 2, 1) := by decide +kernel
theorem dJ6_bitCount_0f7a4_17 : decode cJ6_bitCount_0f7a4 17 = .ok (.iushr, 1) := by decide +kernel
theorem dJ6_bitCount_0f7a4_18 : decode cJ6_bitCount_0f7a4 18 = .ok (.ldc_w 266, 3) := by decide +kernel
theorem dJ6_bitCount_0f7a4_21 : decode cJ6_bitCount_0f7a4 21 = .ok (.iand, 1) := by decide +kernel
theorem dJ6_bitCount_0f7a4_22 : decode cJ6_bitCount_0f7a4 22 = .ok (.iadd, 1) := by decide +kernel
theorem dJ6_bitCount_0f7a4_23 : decode cJ6_bitCount_0f7a4 23 = .ok (.istore_n 0, 1) := by decide +kernel
theorem dJ6_bitCount_0f7a4_24 : decode cJ6_bitCount_0f7a4 24 = .ok (.iload_n 0, 1) := by decide +kernel
theorem dJ6_bitCount_0f7a4_25 : decode cJ6_bitCount_0f7a4 25 = .ok (.iload_n 0, 1) := by decide +kernel
theorem dJ6_bitCount_0f7a4_26 : decode cJ6_bitCount_0f7a4 26 = .ok (.iconst 4, 1) := by decide +kernel
theorem dJ6_bitCount_0f7a4_27 : decode cJ6_bitCount_0f7a4 27 = .ok (.iushr, 1) := by decide +kernel
theorem dJ6_bitCount_0f7a4_28 : decode cJ6_bitCount_0f7a4 28 = .ok (.iadd, 1) := by decide +kernel
theorem dJ6_bitCount_0f7a4_29 : decode cJ6_bitCount_0f7a4 29 = .ok (.ldc_w 267, 3) := by decide +kernel
theorem dJ6_bitCount_0f7a4_32 : decode cJ6_bitCount_0f7a4 32 = .ok (.iand, 1) := by decide +kernel
theorem dJ6_bitCount_0f7a4_33 : decode cJ6_bitCount_0f7a4 33 = .ok (.istore_n 0, 1) := by decide +kernel
theorem dJ6_bitCount_0f7a4_34 : decode cJ6_bitCount_0f7a4 34 = .ok (.iload_n 0, 1) := by decide +kernel
theorem dJ6_bitCount_0f7a4_35 : decode cJ6_bitCount_0f7a4 35 = .ok (.iload_n 0, 1) := by decide +kernel
theorem dJ6_bitCount_0f7a4_36 : decode cJ6_bitCount_0f7a4 36 = .ok (.bipush 8, 2) := by decide +kernel
theorem dJ6_bitCount_0f7a4_38 : decode cJ6_bitCount_0f7a4 38 = .ok (.iushr, 1) := by decide +kernel
theorem dJ6_bitCount_0f7a4_39 : decode cJ6_bitCount_0f7a4 39 = .ok (.iadd, 1) := by decide +kernel
theorem dJ6_bitCount_0f7a4_40 : decode cJ6_bitCount_0f7a4 40 = .ok (.istore_n 0, 1) := by decide +kernel
theorem dJ6_bitCount_0f7a4_41 : decode cJ6_bitCount_0f7a4 41 = .ok (.iload_n 0, 1) := by decide +kernel
theorem dJ6_bitCount_0f7a4_42 : decode cJ6_bitCount_0f7a4 42 = .ok (.iload_n 0, 1) := by decide +kernel
theorem dJ6_bitCount_0f7a4_43 : decode cJ6_bitCount_0f7a4 43 = .ok (.bipush 16, 2) := by decide +kernel
theorem dJ6_bitCount_0f7a4_45 : decode cJ6_bitCount_0f7a4 45 = .ok (.iushr, 1) := by decide +kernel
theorem dJ6_bitCount_0f7a4_46 : decode cJ6_bitCount_0f7a4 46 = .ok (.iadd, 1) := by decide +kernel
theorem dJ6_bitCount_0f7a4_47 : decode cJ6_bitCount_0f7a4 47 = .ok (.istore_n 0, 1) := by decide +kernel
theorem dJ6_bitCount_0f7a4_48 : decode cJ6_bitCount_0f7a4 48 = .ok (.iload_n 0, 1) := by decide +kernel
theorem dJ6_bitCount_0f7a4_49 : decode cJ6_bitCount_0f7a4 49 = .ok (.bipush 63, 2) := by decide +kernel
theorem dJ6_bitCount_0f7a4_51 : decode cJ6_bitCount_0f7a4 51 = .ok (.iand, 1) := by decide +kernel
theorem dJ6_bitCount_0f7a4_52 : decode cJ6_bitCount_0f7a4 52 = .ok (.ireturn, 1) := by decide +kernel
