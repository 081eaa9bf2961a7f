set_option maxRecDepth 20000 in
theorem ggX4_init_X3_init : GoodIn wsX4_init wsX3_init := goodIn_r _ [25, 26, 2, 3, 4, 27, 28, 52, 53] (by decide +kernel) (by decide +kernel)
set_option maxRecDepth 20000 in
theorem gX4_init_X3_init : GoodIn wsX4_init (wsX3_init) := ggX4_init_X3_init
set_option maxRecDepth 20000 in
theorem ggX4_init_X1_init : GoodIn wsX4_init wsX1_init := goodIn_r _ [31, 32, 2, 3, 4, 33, 54, 55, 56, 57, 58, 59, 60, 61, 62, 63, 64] (by decide +kernel) (by decide +kernel)
set_option maxRecDepth 20000 in
theorem gX4_init_X1_init : GoodIn wsX4_init (wsX1_init) := ggX4_init_X1_init
set_option maxRecDepth 20000 in
theorem ggX4_init_X0_init : GoodIn wsX4_init wsX0_init := goodIn_r _ [36, 37, 2, 3, 4, 38, 39, 40, 41, 42, 65, 66, 67, 68, 69, 70, 71, 72] (by decide +kernel) (by decide +kernel)
set_option maxRecDepth 20000 in
theorem gX4_init_X0_init : GoodIn wsX4_init (wsX0_init) := ggX4_init_X0_init
set_option maxRecDepth 20000 in
theorem ggX4_init_X2_init : GoodIn wsX4_init wsX2_init := goodIn_r _ [44, 45, 2, 3] (by decide +kernel) (by decide +kernel)
set_option maxRecDepth 20000 in
theorem gX4_init_X2_init_n39 : GoodIn wsX4_init (wsX2_init) := ggX4_init_X2_init
theorem dX4_init_0 : decode cX4_init 0 = .ok (.aload_n 0, 1) := by decide +kernel
theorem dX4_init_1 : decode cX4_init 1 = .ok (.invokespecial 1, 3) := by decide +kernel
theorem dX4_init_4 : decode cX4_init 4 = .ok (.aload_n 0, 1) := by decide +kernel
theorem dX4_init_5 : decode cX4_init 5 = .ok (.bipush 8, 2) := by decide +kernel
theorem dX4_init_7 : decode cX4_init 7 = .ok (.newarray .int, 2) := by decide +kernel
theorem dX4_init_9 : decode cX4_init 9 = .ok (.putfield 9, 3) := by decide +kernel
theorem dX4_init_12 : decode cX4_init 12 = .ok (.aload_n 0, 1) := by decide +kernel
theorem dX4_init_13 : decode cX4_init 13 = .ok (.new 13, 3) := by decide +kernel
theorem dX4_init_16 : decode cX4_init 16 = .ok (.dup, 1) := by decide +kernel
theorem dX4_init_17 : decode cX4_init 17 = .ok (.invokespecial 15, 3) := by decide +kernel
theorem dX4_init_20 : decode cX4_init 20 = .ok (.putfield 16, 3) := by decide +kernel
theorem dX4_init_23 : decode cX4_init 23 = .ok (.aload_n 0, 1) := by decide +kernel
theorem dX4_init_24 : decode cX4_init 24 = .ok (.new 20, 3) := by decide +kernel
theorem dX4_init_27 : decode cX4_init 27 = .ok (.dup, 1) := by decide +kernel
theorem dX4_init_28 : decode cX4_init 28 = .ok (.invokespecial 22, 3) := by decide +kernel
theorem dX4_init_31 : decode cX4_init 31 = .ok (.putfield 23, 3) := by decide +kernel
theorem dX4_init_34 : decode cX4_init 34 = .ok (.aload_n 0, 1) := by decide +kernel
theorem dX4_init_35 : decode cX4_init 35 = .ok (.new 27, 3) := by decide +kernel
theorem dX4_init_38 : decode cX4_init 38 = .ok (.dup, 1) := by decide +kernel
theorem dX4_init_39 : decode cX4_init 39 = .ok (.invokespecial 29, 3) := by decide +kernel
theorem dX4_init_42 : decode cX4_init 42 = .ok (.putfield 30, 3) := by decide +kernel
theorem dX4_init_45 : decode cX4_init 45 = .ok (.aload_n 0, 1) := by decide +kernel
theorem dX4_init_46 : decode cX4_init 46 = .ok (.new 27, 3) := by decide +kernel
theorem dX4_init_49 : decode cX4_init 49 = .ok (.dup, 1) := by decide +kernel
theorem dX4_init_50 : decode cX4_init 50 = .ok (.invokespecial 29, 3) := by decide +kernel
theorem dX4_init_53 : decode cX4_init 53 = .ok (.putfield 34, 3) := by decide +kernel
theorem dX4_init_56 : decode cX4_init 56 = .ok (.aload_n 0, 1) := by decide +kernel
theorem dX4_init_57 : decode cX4_init 57 = .ok (.new 37, 3) := by decide +kernel
theorem dX4_init_60 : decode cX4_init 60 = .ok (.dup, 1) := by decide +kernel
theorem dX4_init_61 : decode cX4_init 61 = .ok (.invokespecial 39, 3) := by decide +kernel
theorem dX4_init_64 : decode cX4_init 64 = .ok (.putfield 40, 3) := by decide +kernel
theorem dX4_init_67 : decode cX4_init 67 = .ok (.return_, 1) := by decide +kernel
set_option maxRecDepth 20000 in
theorem ggX4_put_X4_isByteCount : GoodIn wsX4_put wsX4_isByteCount := goodIn_r _ [5] (by decide +kernel) (by decide +kernel)
set_option maxRecDepth 20000 in
theorem gX4_put_X4_isByteCount : GoodIn wsX4_put (va_wsS RX4 44 yX4_isByteCount wsX4_isByteCount) := goodIn_app (goodIn_of _ (by decide +kernel)) ggX4_put_X4_isByteCount
set_option maxRecDepth 20000 in
theorem ggX4_put_X4_byteOf : GoodIn wsX4_put wsX4_byteOf := goodIn_r _ [8] (by decide +kernel) (by decide +kernel)
set_option maxRecDepth 20000 in
theorem gX4_put_X4_byteOf : GoodIn wsX4_put (va_wsS RX4 48 yX4_byteOf wsX4_byteOf) := goodIn_app (goodIn_of _ (by decide +kernel)) ggX4_put_X4_byteOf
set_option maxRecDepth 20000 in
theorem ggX4_put_X3_append : GoodIn wsX4_put wsX3_append := goodIn_r _ [13, 14, 15, 189, 190] (by decide +kernel) (by decide +kernel)
set_option maxRecDepth 20000 in
theorem gX4_put_X3_append : GoodIn wsX4_put (wsV RX4 52 RX3 yX3_append wsX3_append) := goodIn_app (goodIn_of _ (by decide +kernel)) ggX4_put_X3_append
set_option maxRecDepth 20000 in
theorem ggX4_put_X4_deal : GoodIn wsX4_put wsX4_deal := goodIn_r _ [19, 1, 20, 21, 22, 23, 12, 24, 14, 25, 26, 27, 28, 15, 29, 30, 31, 32, 33, 34, 35, 36, 37, 4, 38, 39, 40, 41, 42, 43, 44, 45, 46, 47, 48, 49, 50, 51, 52, 53, 54, 55, 56, 57, 58, 59, 60, 61, 62, 63, 64, 65, 66, 67, 68, 69, 70, 71, 72, 73, 74, 75, 76, 77, 78, 79, 80, 81, 82, 83, 84, 85, 86, 87, 88, 89, 90, 91, 92, 93, 94, 95, 96, 97, 98, 99, 100, 101, 102, 103, 104, 105, 106, 107, 108, 109, 110, 111, 112, 113, 114, 115, 116, 117, 118, 119, 120, 121, 122, 123, 124, 125, 126, 127, 128, 129, 130, 131, 132, 133, 134, 135, 136, 137, 138, 139, 140, 141, 142, 143, 144, 145, 146, 147, 148, 149, 150, 151, 152, 153, 154, 155, 156, 157, 158, 159, 160, 161, 162, 163, 164, 165, 166, 167, 168, 169, 170, 171, 172, 173, 174, 175, 176, 177, 178, 179, 180, 181, 182, 183, 184, 185, 186, 187, 188, 189, 190, 191, 192, 193, 194, 195, 196, 197, 198, 199, 200, 201, 202, 203, 204, 205, 206, 207, 208, 209, 210, 211, 212, 213, 214] (by decide +kernel) (by decide +kernel)
set_option maxRecDepth 20000 in
theorem gX4_put_X4_deal : GoodIn wsX4_put (wsV RX4 56 RX4 yX4_deal wsX4_deal) := goodIn_app (goodIn_of _ (by decide +kernel)) ggX4_put_X4_deal
theorem dX4_put_0 : decode cX4_put 0 = .ok (.iload_n 2, 1) := by decide +kernel
theorem dX4_put_1 : decode cX4_put 1 = .ok (.invokestatic 44, 3) := by decide +kernel
theorem dX4_put_4 : decode cX4_put 4 = .ok (.ifCond .ne 5, 3) := by decide +kernel
theorem dX4_put_7 : decode cX4_put 7 = .ok (.iconst (-1), 1) := by decide +kernel
theorem dX4_put_8 : decode cX4_put 8 = .ok (.ireturn, 1) := by decide +kernel
theorem dX4_put_9 : decode cX4_put 9 = .ok (.iload_n 2, 1) := by decide +kernel
theorem dX4_put_10 : decode cX4_put 10 = .ok (.iconst 1, 1) := by decide +kernel
theorem dX4_put_11 : decode cX4_put 11 = .ok (.isub, 1) := by decide +kernel
theorem dX4_put_12 : decode cX4_put 12 = .ok (.istore_n 3, 1) := by decide +kernel
theorem dX4_put_13 : decode cX4_put 13 = .ok (.iload_n 3, 1) := by decide +kernel
theorem dX4_put_14 : decode cX4_put 14 = .ok (.ifCond .lt 21, 3) := by decide +kernel
theorem dX4_put_17 : decode cX4_put 17 = .ok (.aload_n 0, 1) := by decide +kernel
theorem dX4_put_18 : decode cX4_put 18 = .ok (.getfield 16, 3) := by decide +kernel
theorem dX4_put_21 : decode cX4_put 21 = .ok (.iload_n 1, 1) := by decide +kernel
theorem dX4_put_22 : decode cX4_put 22 = .ok (.iload_n 3, 1) := by decide +kernel
theorem dX4_put_23 : decode cX4_put 23 = .ok (.invokestatic 48, 3) := by decide +kernel
theorem dX4_put_26 : decode cX4_put 26 = .ok (.invokevirtual 52, 3) := by decide +kernel
theorem dX4_put_29 : decode cX4_put 29 = .ok (.iinc 3 (-1), 3) := by decide +kernel
theorem dX4_put_32 : decode cX4_put 32 = .ok (.goto (-19), 3) := by decide +kernel
theorem dX4_put_35 : decode cX4_put 35 = .ok (.aload_n 0, 1) := by decide +kernel
theorem dX4_put_36 : decode cX4_put 36 = .ok (.invokevirtual 56, 3) := by decide +kernel
theorem dX4_put_39 : decode cX4_put 39 = .ok (.ireturn, 1) := by decide +kernel
theorem dX4_count_0 : decode cX4_count 0 = .ok (.iload_n 1, 1) := by decide +kernel
theorem dX4_count_1 : decode cX4_count 1 = .ok (.ifCond .lt 16, 3) := by decide +kernel
theorem dX4_count_4 : decode cX4_count 4 = .ok (.iload_n 1, 1) := by decide +kernel
theorem dX4_count_5 : decode cX4_count 5 = .ok (.bipush 8, 2) := by decide +kernel
theorem dX4_count_7 : decode cX4_count 7 = .ok (.if_icmp .ge 10, 3) := by decide +kernel
theorem dX4_count_10 : decode cX4_count 10 = .ok (.aload_n 0, 1) := by decide +kernel
theorem dX4_count_11 : decode cX4_count 11 = .ok (.getfield 9, 3) := by decide +kernel
theorem dX4_count_14 : decode cX4_count 14 = .ok (.iload_n 1, 1) := by decide +kernel
theorem dX4_count_15 : decode cX4_count 15 = .ok (.iaload, 1) := by decide +kernel
theorem dX4_count_16 : decode cX4_count 16 = .ok (.ireturn, 1) := by decide +kernel
theorem dX4_count_17 : decode cX4_count 17 = .ok (.iload_n 1, 1) := by decide +kernel
theorem dX4_count_18 : decode cX4_count 18 = .ok (.bipush 8, 2) := by decide +kernel
theorem dX4_count_20 : decode cX4_count 20 = .ok (.if_icmp .ne 11, 3) := by decide +kernel
theorem dX4_count_23 : decode cX4_count 23 = .ok (.aload_n 0, 1) := by decide +kernel
theorem dX4_count_24 : decode cX4_count 24 = .ok (.getfield 16, 3) := by decide +kernel
theorem dX4_count_27 : decode cX4_count 27 = .ok (.getfield 60, 3) := by decide +kernel
theorem dX4_count_30 : decode cX4_count 30 = .ok (.ireturn, 1) := by decide +kernel
theorem dX4_count_31 : decode cX4_count 31 = .ok (.iload_n 1, 1) := by decide +kernel
theorem dX4_count_32 : decode cX4_count 32 = .ok (.bipush 9, 2) := by decide +kernel
theorem dX4_count_34 : decode cX4_count 34 = .ok (.if_icmp .ne 21, 3) := by decide +kernel
theorem dX4_count_37 : decode cX4_count 37 = .ok (.aload_n 0, 1) := by decide +kernel
theorem dX4_count_38 : decode cX4_count 38 = .ok (.getfield 30, 3) := by decide +kernel
theorem dX4_count_41 : decode cX4_count 41 = .ok (.getfield 64, 3) := by decide +kernel
theorem dX4_count_44 : decode cX4_count 44 = .ok (.ifCond .eq 11, 3) := by decide +kernel
theorem dX4_count_47 : decode cX4_count 47 = .ok (.aload_n 0, 1) := by decide +kernel
theorem dX4_count_48 : decode cX4_count 48 = .ok (.getfield 30, 3) := by decide +kernel
theorem dX4_count_51 : decode cX4_count 51 = .ok (.getfield 68, 3) := by decide +kernel
theorem dX4_count_54 : decode cX4_count 54 = .ok (.ireturn, 1) := by decide +kernel
theorem dX4_count_55 : decode cX4_count 55 = .ok (.iconst (-1), 1) := by decide +kernel
theorem dX4_count_56 : decode cX4_count 56 = .ok (.ireturn, 1) := by decide +kernel
theorem dX4_epoch_0 : decode cX4_epoch 0 = .ok (.aload_n 0, 1) := by decide +kernel
theorem dX4_epoch_1 : decode cX4_epoch 1 = .ok (.getfield 34, 3) := by decide +kernel
theorem dX4_epoch_4 : decode cX4_epoch 4 = .ok (.getfield 64, 3) := by decide +kernel
theorem dX4_epoch_7 : decode cX4_epoch 7 = .ok (.ifCond .ne 5, 3) := by decide +kernel
theorem dX4_epoch_10 : decode cX4_epoch 10 = .ok (.iconst (-1), 1) := by decide +kernel
theorem dX4_epoch_11 : decode cX4_epoch 11 = .ok (.ireturn, 1) := by decide +kernel
theorem dX4_epoch_12 : decode cX4_epoch 12 = .ok (.iload_n 1, 1) := by decide +kernel
theorem dX4_epoch_13 : decode cX4_epoch 13 = .ok (.tableswitch 63 0 3 #[31, 39, 47, 55], 31) := by decide +kernel
theorem dX4_epoch_44 : decode cX4_epoch 44 = .ok (.aload_n 0, 1) := by decide +kernel
theorem dX4_epoch_45 : decode cX4_epoch 45 = .ok (.getfield 34, 3) := by decide +kernel
theorem dX4_epoch_48 : decode cX4_epoch 48 = .ok (.getfield 71, 3) := by decide +kernel
theorem dX4_epoch_51 : decode cX4_epoch 51 = .ok (.ireturn, 1) := by decide +kernel
theorem dX4_epoch_52 : decode cX4_epoch 52 = .ok (.aload_n 0, 1) := by decide +kernel
theorem dX4_epoch_53 : decode cX4_epoch 53 = .ok (.getfield 34, 3) := by decide +kernel
theorem dX4_epoch_56 : decode cX4_epoch 56 = .ok (.getfield 74, 3) := by decide +kernel
theorem dX4_epoch_59 : decode cX4_epoch 59 = .ok (.ireturn, 1) := by decide +kernel
theorem dX4_epoch_60 : decode cX4_epoch 60 = .ok (.aload_n 0, 1) := by decide +kernel
theorem dX4_epoch_61 : decode cX4_epoch 61 = .ok (.getfield 34, 3) := by decide +kernel
theorem dX4_epoch_64 : decode cX4_epoch 64 = .ok (.getfield 68, 3) := by decide +kernel
theorem dX4_epoch_67 : decode cX4_epoch 67 = .ok (.ireturn, 1) := by decide +kernel
theorem dX4_epoch_68 : decode cX4_epoch 68 = .ok (.aload_n 0, 1) := by decide +kernel
theorem dX4_epoch_69 : decode cX4_epoch 69 = .ok (.getfield 34, 3) := by decide +kernel
theorem dX4_epoch_72 : decode cX4_epoch 72 = .ok (.getfield 77, 3) := by decide +kernel
theorem dX4_epoch_75 : decode cX4_epoch 75 = .ok (.ireturn, 1) := by decide +kernel
theorem dX4_epoch_76 : decode cX4_epoch 76 = .ok (.iconst (-1), 1) := by decide +kernel
theorem dX4_epoch_77 : decode cX4_epoch 77 = .ok (.ireturn, 1) := by decide +kernel
set_option maxRecDepth 20000 in
theorem ggX4_cell_X0_holds : GoodIn wsX4_cell wsX0_holds := goodIn_r _ [7, 8, 9, 16, 17, 18, 19, 20, 21, 22, 23] (by decide +kernel) (by decide +kernel)
set_option maxRecDepth 20000 in
theorem gX4_cell_X0_holds : GoodIn wsX4_cell (wsV RX4 80 RX0 yX0_holds wsX0_holds) := goodIn_app (goodIn_of _ (by decide +kernel)) ggX4_cell_X0_holds
theorem dX4_cell_0 : decode cX4_cell 0 = .ok (.aload_n 0, 1) := by decide +kernel
theorem dX4_cell_1 : decode cX4_cell 1 = .ok (.getfield 34, 3) := by decide +kernel
theorem dX4_cell_4 : decode cX4_cell 4 = .ok (.iload_n 1, 1) := by decide +kernel
theorem dX4_cell_5 : decode cX4_cell 5 = .ok (.invokevirtual 80, 3) := by decide +kernel
theorem dX4_cell_8 : decode cX4_cell 8 = .ok (.ifCond .eq 15, 3) := by decide +kernel
theorem dX4_cell_11 : decode cX4_cell 11 = .ok (.aload_n 0, 1) := by decide +kernel
theorem dX4_cell_12 : decode cX4_cell 12 = .ok (.getfield 34, 3) := by decide +kernel
theorem dX4_cell_15 : decode cX4_cell 15 = .ok (.getfield 83, 3) := by decide +kernel
theorem dX4_cell_18 : decode cX4_cell 18 = .ok (.iload_n 1, 1) := by decide +kernel
theorem dX4_cell_19 : decode cX4_cell 19 = .ok (.iaload, 1) := by decide +kernel
theorem dX4_cell_20 : decode cX4_cell 20 = .ok (.goto 4, 3) := by decide +kernel
theorem dX4_cell_23 : decode cX4_cell 23 = .ok (.iconst (-1), 1) := by decide +kernel
theorem dX4_cell_24 : decode cX4_cell 24 = .ok (.ireturn, 1) := by decide +kernel
set_option maxRecDepth 20000 in
theorem ggX4_range_X0_holds : GoodIn wsX4_range wsX0_holds := goodIn_r _ [8, 9, 10, 17, 18, 19, 20, 21, 22, 23, 24] (by decide +kernel) (by decide +kernel)
set_option maxRecDepth 20000 in
theorem gX4_range_X0_holds : GoodIn wsX4_range (wsV RX4 80 RX0 yX0_holds wsX0_holds) := goodIn_app (goodIn_of _ (by decide +kernel)) ggX4_range_X0_holds
theorem dX4_range_0 : decode cX4_range 0 = .ok (.aload_n 0, 1) := by decide +kernel
theorem dX4_range_1 : decode cX4_range 1 = .ok (.getfield 34, 3) := by decide +kernel
theorem dX4_range_4 : decode cX4_range 4 = .ok (.iload_n 1, 1) := by decide +kernel
theorem dX4_range_5 : decode cX4_range 5 = .ok (.invokevirtual 80, 3) := by decide +kernel
theorem dX4_range_8 : decode cX4_range 8 = .ok (.ifCond .eq 15, 3) := by decide +kernel
theorem dX4_range_11 : decode cX4_range 11 = .ok (.aload_n 0, 1) := by decide +kernel
theorem dX4_range_12 : decode cX4_range 12 = .ok (.getfield 34, 3) := by decide +kernel
theorem dX4_range_15 : decode cX4_range 15 = .ok (.getfield 86, 3) := by decide +kernel
theorem dX4_range_18 : decode cX4_range 18 = .ok (.iload_n 1, 1) := by decide +kernel
theorem dX4_range_19 : decode cX4_range 19 = .ok (.daload, 1) := by decide +kernel
theorem dX4_range_20 : decode cX4_range 20 = .ok (.goto 6, 3) := by decide +kernel
theorem dX4_range_23 : decode cX4_range 23 = .ok (.ldc2_w 90, 3) := by decide +kernel
theorem dX4_range_26 : decode cX4_range 26 = .ok (.dreturn, 1) := by decide +kernel
set_option maxRecDepth 20000 in
theorem ggX4_strength_X0_holds : GoodIn wsX4_strength wsX0_holds := goodIn_r _ [7, 8, 9, 16, 17, 18, 19, 20, 21, 22, 23] (by decide +kernel) (by decide +kernel)
set_option maxRecDepth 20000 in
theorem gX4_strength_X0_holds : GoodIn wsX4_strength (wsV RX4 80 RX0 yX0_holds wsX0_holds) := goodIn_app (goodIn_of _ (by decide +kernel)) ggX4_strength_X0_holds
theorem dX4_strength_0 : decode cX4_strength 0 = .ok (.aload_n 0, 1) := by decide +kernel
theorem dX4_strength_1 : decode cX4_strength 1 = .ok (.getfield 34, 3) := by decide +kernel
theorem dX4_strength_4 : decode cX4_strength 4 = .ok (.iload_n 1, 1) := by decide +kernel
theorem dX4_strength_5 : decode cX4_strength 5 = .ok (.invokevirtual 80, 3) := by decide +kernel
theorem dX4_strength_8 : decode cX4_strength 8 = .ok (.ifCond .eq 15, 3) := by decide +kernel
theorem dX4_strength_11 : decode cX4_strength 11 = .ok (.aload_n 0, 1) := by decide +kernel
theorem dX4_strength_12 : decode cX4_strength 12 = .ok (.getfield 34, 3) := by decide +kernel
theorem dX4_strength_15 : decode cX4_strength 15 = .ok (.getfield 92, 3) := by decide +kernel
theorem dX4_strength_18 : decode cX4_strength 18 = .ok (.iload_n 1, 1) := by decide +kernel
theorem dX4_strength_19 : decode cX4_strength 19 = .ok (.iaload, 1) := by decide +kernel
theorem dX4_strength_20 : decode cX4_strength 20 = .ok (.goto 4, 3) := by decide +kernel
theorem dX4_strength_23 : decode cX4_strength 23 = .ok (.iconst (-1), 1) := by decide +kernel
theorem dX4_strength_24 : decode cX4_strength 24 = .ok (.ireturn, 1) := by decide +kernel
set_option maxRecDepth 20000 in
theorem ggX4_mean_X0_meanRange : GoodIn wsX4_mean wsX0_meanRange := goodIn_r _ [6, 7, 8, 9, 16, 17, 18, 19, 20, 21, 22, 23] (by decide +kernel) (by decide +kernel)
set_option maxRecDepth 20000 in
theorem gX4_mean_X0_meanRange : GoodIn wsX4_mean (wsV RX4 95 RX0 yX0_meanRange wsX0_meanRange) := goodIn_app (goodIn_of _ (by decide +kernel)) ggX4_mean_X0_meanRange
theorem dX4_mean_0 : decode cX4_mean 0 = .ok (.aload_n 0, 1) := by decide +kernel
theorem dX4_mean_1 : decode cX4_mean 1 = .ok (.getfield 34, 3) := by decide +kernel
theorem dX4_mean_4 : decode cX4_mean 4 = .ok (.invokevirtual 95, 3) := by decide +kernel
theorem dX4_mean_7 : decode cX4_mean 7 = .ok (.dreturn, 1) := by decide +kernel
theorem dX4_fix_0 : decode cX4_fix 0 = .ok (.aload_n 0, 1) := by decide +kernel
theorem dX4_fix_1 : decode cX4_fix 1 = .ok (.getfield 40, 3) := by decide +kernel
theorem dX4_fix_4 : decode cX4_fix 4 = .ok (.getfield 99, 3) := by decide +kernel
theorem dX4_fix_7 : decode cX4_fix 7 = .ok (.ireturn, 1) := by decide +kernel
theorem dX4_place_0 : decode cX4_place 0 = .ok (.iload_n 1, 1) := by decide +kernel
theorem dX4_place_1 : decode cX4_place 1 = .ok (.tableswitch 66 0 2 #[27, 40, 53], 27) := by decide +kernel
theorem dX4_place_28 : decode cX4_place 28 = .ok (.aload_n 0, 1) := by decide +kernel
theorem dX4_place_29 : decode cX4_place 29 = .ok (.getfield 40, 3) := by decide +kernel
theorem dX4_place_32 : decode cX4_place 32 = .ok (.getfield 102, 3) := by decide +kernel
theorem dX4_place_35 : decode cX4_place 35 = .ok (.i2d, 1) := by decide +kernel
theorem dX4_place_36 : decode cX4_place 36 = .ok (.ldc2_w 105, 3) := by decide +kernel
theorem dX4_place_39 : decode cX4_place 39 = .ok (.dmul, 1) := by decide +kernel
theorem dX4_place_40 : decode cX4_place 40 = .ok (.dreturn, 1) := by decide +kernel
theorem dX4_place_41 : decode cX4_place 41 = .ok (.aload_n 0, 1) := by decide +kernel
theorem dX4_place_42 : decode cX4_place 42 = .ok (.getfield 40, 3) := by decide +kernel
theorem dX4_place_45 : decode cX4_place 45 = .ok (.getfield 107, 3) := by decide +kernel
theorem dX4_place_48 : decode cX4_place 48 = .ok (.i2d, 1) := by decide +kernel
theorem dX4_place_49 : decode cX4_place 49 = .ok (.ldc2_w 105, 3) := by decide +kernel
theorem dX4_place_52 : decode cX4_place 52 = .ok (.dmul, 1) := by decide +kernel
theorem dX4_place_53 : decode cX4_place 53 = .ok (.dreturn, 1) := by decide +kernel
theorem dX4_place_54 : decode cX4_place 54 = .ok (.aload_n 0, 1) := by decide +kernel
theorem dX4_place_55 : decode cX4_place 55 = .ok (.getfield 40, 3) := by decide +kernel
theorem dX4_place_58 : decode cX4_place 58 = .ok (.getfield 110, 3) := by decide +kernel
theorem dX4_place_61 : decode cX4_place 61 = .ok (.i2d, 1) := by decide +kernel
theorem dX4_place_62 : decode cX4_place 62 = .ok (.ldc2_w 113, 3) := by decide +kernel
theorem dX4_place_65 : decode cX4_place 65 = .ok (.dmul, 1) := by decide +kernel
theorem dX4_place_66 : decode cX4_place 66 = .ok (.dreturn, 1) := by decide +kernel
theorem dX4_place_67 : decode cX4_place 67 = .ok (.dconst 0, 1) := by decide +kernel
theorem dX4_place_68 : decode cX4_place 68 = .ok (.dreturn, 1) := by decide +kernel
theorem dX4_raw_0 : decode cX4_raw 0 = .ok (.iload_n 1, 1) := by decide +kernel
theorem dX4_raw_1 : decode cX4_raw 1 = .ok (.tableswitch 63 0 3 #[31, 39, 47, 55], 31) := by decide +kernel
theorem dX4_raw_32 : decode cX4_raw 32 = .ok (.aload_n 0, 1) := by decide +kernel
theorem dX4_raw_33 : decode cX4_raw 33 = .ok (.getfield 40, 3) := by decide +kernel
theorem dX4_raw_36 : decode cX4_raw 36 = .ok (.getfield 115, 3) := by decide +kernel
theorem dX4_raw_39 : decode cX4_raw 39 = .ok (.ireturn, 1) := by decide +kernel
theorem dX4_raw_40 : decode cX4_raw 40 = .ok (.aload_n 0, 1) := by decide +kernel
theorem dX4_raw_41 : decode cX4_raw 41 = .ok (.getfield 40, 3) := by decide +kernel
theorem dX4_raw_44 : decode cX4_raw 44 = .ok (.getfield 102, 3) := by decide +kernel
theorem dX4_raw_47 : decode cX4_raw 47 = .ok (.ireturn, 1) := by decide +kernel
theorem dX4_raw_48 : decode cX4_raw 48 = .ok (.aload_n 0, 1) := by decide +kernel
theorem dX4_raw_49 : decode cX4_raw 49 = .ok (.getfield 40, 3) := by decide +kernel
theorem dX4_raw_52 : decode cX4_raw 52 = .ok (.getfield 107, 3) := by decide +kernel
theorem dX4_raw_55 : decode cX4_raw 55 = .ok (.ireturn, 1) := by decide +kernel
theorem dX4_raw_56 : decode cX4_raw 56 = .ok (.aload_n 0, 1) := by decide +kernel
theorem dX4_raw_57 : decode cX4_raw 57 = .ok (.getfield 40, 3) := by decide +kernel
theorem dX4_raw_60 : decode cX4_raw 60 = .ok (.getfield 110, 3) := by decide +kernel
theorem dX4_raw_63 : decode cX4_raw 63 = .ok (.ireturn, 1) := by decide +kernel
theorem dX4_raw_64 : decode cX4_raw 64 = .ok (.iconst 0, 1) := by decide +kernel
theorem dX4_raw_65 : decode cX4_raw 65 = .ok (.ireturn, 1) := by decide +kernel
set_option maxRecDepth 20000 in
theorem ggX4_check_X4_isByteCount : GoodIn wsX4_check wsX4_isByteCount := goodIn_r _ [5] (by decide +kernel) (by decide +kernel)
set_option maxRecDepth 20000 in
theorem gX4_check_X4_isByteCount : GoodIn wsX4_check (va_wsS RX4 44 yX4_isByteCount wsX4_isByteCount) := goodIn_app (goodIn_of _ (by decide +kernel)) ggX4_check_X4_isByteCount
set_option maxRecDepth 20000 in
theorem ggX4_check_X4_byteOf : GoodIn wsX4_check wsX4_byteOf := goodIn_r _ [8] (by decide +kernel) (by decide +kernel)
set_option maxRecDepth 20000 in
theorem gX4_check_X4_byteOf : GoodIn wsX4_check (va_wsS RX4 48 yX4_byteOf wsX4_byteOf) := goodIn_app (goodIn_of _ (by decide +kernel)) ggX4_check_X4_byteOf
set_option maxRecDepth 20000 in
theorem ggX4_check_X4_checkAfter : GoodIn wsX4_check wsX4_checkAfter := goodIn_r _ [11, 12, 13] (by decide +kernel) (by decide +kernel)
set_option maxRecDepth 20000 in
theorem gX4_check_X4_checkAfter : GoodIn wsX4_check (va_wsS RX4 117 yX4_checkAfter wsX4_checkAfter) := goodIn_app (goodIn_of _ (by decide +kernel)) ggX4_check_X4_checkAfter
theorem dX4_check_0 : decode cX4_check 0 = .ok (.iload_n 3, 1) := by decide +kernel
theorem dX4_check_1 : decode cX4_check 1 = .ok (.invokestatic 44, 3) := by decide +kernel
theorem dX4_check_4 : decode cX4_check 4 = .ok (.ifCond .ne 5, 3) := by decide +kernel
theorem dX4_check_7 : decode cX4_check 7 = .ok (.iconst (-1), 1) := by decide +kernel
theorem dX4_check_8 : decode cX4_check 8 = .ok (.ireturn, 1) := by decide +kernel
theorem dX4_check_9 : decode cX4_check 9 = .ok (.iload_n 1, 1) := by decide +kernel
theorem dX4_check_10 : decode cX4_check 10 = .ok (.ldc 116, 2) := by decide +kernel
theorem dX4_check_12 : decode cX4_check 12 = .ok (.iand, 1) := by decide +kernel
theorem dX4_check_13 : decode cX4_check 13 = .ok (.istore 4, 2) := by decide +kernel
theorem dX4_check_15 : decode cX4_check 15 = .ok (.iload_n 3, 1) := by decide +kernel
theorem dX4_check_16 : decode cX4_check 16 = .ok (.iconst 1, 1) := by decide +kernel
theorem dX4_check_17 : decode cX4_check 17 = .ok (.isub, 1) := by decide +kernel
theorem dX4_check_18 : decode cX4_check 18 = .ok (.istore 5, 2) := by decide +kernel
theorem dX4_check_20 : decode cX4_check 20 = .ok (.iload 5, 2) := by decide +kernel
theorem dX4_check_22 : decode cX4_check 22 = .ok (.ifCond .lt 22, 3) := by decide +kernel
theorem dX4_check_25 : decode cX4_check 25 = .ok (.iload 4, 2) := by decide +kernel
theorem dX4_check_27 : decode cX4_check 27 = .ok (.iload_n 2, 1) := by decide +kernel
theorem dX4_check_28 : decode cX4_check 28 = .ok (.iload 5, 2) := by decide +kernel
theorem dX4_check_30 : decode cX4_check 30 = .ok (.invokestatic 48, 3) := by decide +kernel
theorem dX4_check_33 : decode cX4_check 33 = .ok (.invokestatic 117, 3) := by decide +kernel
theorem dX4_check_36 : decode cX4_check 36 = .ok (.istore 4, 2) := by decide +kernel
theorem dX4_check_38 : decode cX4_check 38 = .ok (.iinc 5 (-1), 3) := by decide +kernel
theorem dX4_check_41 : decode cX4_check 41 = .ok (.goto (-21), 3) := by decide +kernel
theorem dX4_check_44 : decode cX4_check 44 = .ok (.iload 4, 2) := by decide +kernel
theorem dX4_check_46 : decode cX4_check 46 = .ok (.ireturn, 1) := by decide +kernel
set_option maxRecDepth 20000 in
theorem ggX4_flush_X3_drop : GoodIn wsX4_flush wsX3_drop := goodIn_r _ [7, 8, 9, 10, 11, 12, 13, 28, 29] (by decide +kernel) (by decide +kernel)
set_option maxRecDepth 20000 in
theorem gX4_flush_X3_drop : GoodIn wsX4_flush (wsV RX4 120 RX3 yX3_drop wsX3_drop) := goodIn_app (goodIn_of _ (by decide +kernel)) ggX4_flush_X3_drop
set_option maxRecDepth 20000 in
theorem ggX4_flush_X4_loseGathered : GoodIn wsX4_flush wsX4_loseGathered := goodIn_r _ [18, 19, 20, 21, 22, 23, 24, 25, 26, 27, 30, 31, 32, 33, 34, 35, 36, 37] (by decide +kernel) (by decide +kernel)
set_option maxRecDepth 20000 in
theorem gX4_flush_X4_loseGathered : GoodIn wsX4_flush (wsV RX4 123 RX4 yX4_loseGathered wsX4_loseGathered) := goodIn_app (goodIn_of _ (by decide +kernel)) ggX4_flush_X4_loseGathered
theorem dX4_flush_0 : decode cX4_flush 0 = .ok (.aload_n 0, 1) := by decide +kernel
theorem dX4_flush_1 : decode cX4_flush 1 = .ok (.getfield 16, 3) := by decide +kernel
theorem dX4_flush_4 : decode cX4_flush 4 = .ok (.getfield 60, 3) := by decide +kernel
theorem dX4_flush_7 : decode cX4_flush 7 = .ok (.istore_n 1, 1) := by decide +kernel
theorem dX4_flush_8 : decode cX4_flush 8 = .ok (.aload_n 0, 1) := by decide +kernel
theorem dX4_flush_9 : decode cX4_flush 9 = .ok (.getfield 16, 3) := by decide +kernel
theorem dX4_flush_12 : decode cX4_flush 12 = .ok (.iload_n 1, 1) := by decide +kernel
theorem dX4_flush_13 : decode cX4_flush 13 = .ok (.invokevirtual 120, 3) := by decide +kernel
theorem dX4_flush_16 : decode cX4_flush 16 = .ok (.aload_n 0, 1) := by decide +kernel
theorem dX4_flush_17 : decode cX4_flush 17 = .ok (.invokevirtual 123, 3) := by decide +kernel
theorem dX4_flush_20 : decode cX4_flush 20 = .ok (.iload_n 1, 1) := by decide +kernel
theorem dX4_flush_21 : decode cX4_flush 21 = .ok (.ireturn, 1) := by decide +kernel
theorem dX4_isByteCount_0 : decode cX4_isByteCount 0 = .ok (.iload_n 0, 1) := by decide +kernel
theorem dX4_isByteCount_1 : decode cX4_isByteCount 1 = .ok (.iconst 1, 1) := by decide +kernel
theorem dX4_isByteCount_2 : decode cX4_isByteCount 2 = .ok (.if_icmp .lt 12, 3) := by decide +kernel
theorem dX4_isByteCount_5 : decode cX4_isByteCount 5 = .ok (.iload_n 0, 1) := by decide +kernel
theorem dX4_isByteCount_6 : decode cX4_isByteCount 6 = .ok (.iconst 4, 1) := by decide +kernel
theorem dX4_isByteCount_7 : decode cX4_isByteCount 7 = .ok (.if_icmp .gt 7, 3) := by decide +kernel
theorem dX4_isByteCount_10 : decode cX4_isByteCount 10 = .ok (.iconst 1, 1) := by decide +kernel
theorem dX4_isByteCount_11 : decode cX4_isByteCount 11 = .ok (.goto 4, 3) := by decide +kernel
theorem dX4_isByteCount_14 : decode cX4_isByteCount 14 = .ok (.iconst 0, 1) := by decide +kernel
theorem dX4_isByteCount_15 : decode cX4_isByteCount 15 = .ok (.ireturn, 1) := by decide +kernel
theorem dX4_byteOf_0 : decode cX4_byteOf 0 = .ok (.iload_n 0, 1) := by decide +kernel
theorem dX4_byteOf_1 : decode cX4_byteOf 1 = .ok (.bipush 8, 2) := by decide +kernel
theorem dX4_byteOf_3 : decode cX4_byteOf 3 = .ok (.iload_n 1, 1) := by decide +kernel
theorem dX4_byteOf_4 : decode cX4_byteOf 4 = .ok (.imul, 1) := by decide +kernel
theorem dX4_byteOf_5 : decode cX4_byteOf 5 = .ok (.iushr, 1) := by decide +kernel
theorem dX4_byteOf_6 : decode cX4_byteOf 6 = .ok (.sipush 255, 3) := by decide +kernel
theorem dX4_byteOf_9 : decode cX4_byteOf 9 = .ok (.iand, 1) := by decide +kernel
theorem dX4_byteOf_10 : decode cX4_byteOf 10 = .ok (.ireturn, 1) := by decide +kernel
theorem dX4_checkAfter_0 : decode cX4_checkAfter 0 = .ok (.iload_n 0, 1) := by decide +kernel
theorem dX4_checkAfter_1 : decode cX4_checkAfter 1 = .ok (.iload_n 1, 1) := by decide +kernel
theorem dX4_checkAfter_2 : decode cX4_checkAfter 2 = .ok (.bipush 16, 2) := by decide +kernel
theorem dX4_checkAfter_4 : decode cX4_checkAfter 4 = .ok (.ishl, 1) := by decide +kernel
theorem dX4_checkAfter_5 : decode cX4_checkAfter 5 = .ok (.ixor, 1) := by decide +kernel
theorem dX4_checkAfter_6 : decode cX4_checkAfter 6 = .ok (.istore_n 2, 1) := by decide +kernel
theorem dX4_checkAfter_7 : decode cX4_checkAfter 7 = .ok (.iconst 0, 1) := by decide +kernel
theorem dX4_checkAfter_8 : decode cX4_checkAfter 8 = .ok (.istore_n 3, 1) := by decide +kernel
theorem dX4_checkAfter_9 : decode cX4_checkAfter 9 = .ok (.iload_n 3, 1) := by decide +kernel
theorem dX4_checkAfter_10 : decode cX4_checkAfter 10 = .ok (.bipush 8, 2) := by decide +kernel
theorem dX4_checkAfter_12 : decode cX4_checkAfter 12 = .ok (.if_icmp .ge 25, 3) := by decide +kernel
theorem dX4_checkAfter_15 : decode cX4_checkAfter 15 = .ok (.iconst 2, 1) := by decide +kernel
theorem dX4_checkAfter_16 : decode cX4_checkAfter 16 = .ok (.iload_n 2, 1) := by decide +kernel
theorem dX4_checkAfter_17 : decode cX4_checkAfter 17 = .ok (.imul, 1) := by decide +kernel
theorem dX4_checkAfter_18 : decode cX4_checkAfter 18 = .ok (.istore_n 2, 1) := by decide +kernel
theorem dX4_checkAfter_19 : decode cX4_checkAfter 19 = .ok (.iload_n 2, 1) := by decide +kernel
theorem dX4_checkAfter_20 : decode cX4_checkAfter 20 = .ok (.ldc 126, 2) := by decide +kernel
theorem dX4_checkAfter_22 : decode cX4_checkAfter 22 = .ok (.iand, 1) := by decide +kernel
theorem dX4_checkAfter_23 : decode cX4_checkAfter 23 = .ok (.ifCond .eq 8, 3) := by decide +kernel
theorem dX4_checkAfter_26 : decode cX4_checkAfter 26 = .ok (.iload_n 2, 1) := by decide +kernel
theorem dX4_checkAfter_27 : decode cX4_checkAfter 27 = .ok (.ldc 127, 2) := by decide +kernel
theorem dX4_checkAfter_29 : decode cX4_checkAfter 29 = .ok (.ixor, 1) := by decide +kernel
theorem dX4_checkAfter_30 : decode cX4_checkAfter 30 = .ok (.istore_n 2, 1) := by decide +kernel
theorem dX4_checkAfter_31 : decode cX4_checkAfter 31 = .ok (.iinc 3 1, 3) := by decide +kernel
theorem dX4_checkAfter_34 : decode cX4_checkAfter 34 = .ok (.goto (-25), 3) := by decide +kernel
theorem dX4_checkAfter_37 : decode cX4_checkAfter 37 = .ok (.iload_n 2, 1) := by decide +kernel
theorem dX4_checkAfter_38 : decode cX4_checkAfter 38 = .ok (.ireturn, 1) := by decide +kernel
set_option maxRecDepth 20000 in
theorem ggX4_deal_X3_frameAt : GoodIn wsX4_deal wsX3_frameAt := goodIn_r _ [7, 8, 9, 10, 11, 6, 12, 13, 14, 15, 16, 17, 18, 19, 20, 21, 22, 23, 24, 25, 26, 27, 28, 29, 30, 31, 32, 33, 34, 175, 176] (by decide +kernel) (by decide +kernel)
set_option maxRecDepth 20000 in
theorem gX4_deal_X3_frameAt : GoodIn wsX4_deal (wsV RX4 128 RX3 yX3_frameAt wsX3_frameAt) := goodIn_app (goodIn_of _ (by decide +kernel)) ggX4_deal_X3_frameAt
set_option maxRecDepth 20000 in
theorem ggX4_deal_X3_at : GoodIn wsX4_deal wsX3_at := goodIn_r _ [12, 8, 13, 175, 176] (by decide +kernel) (by decide +kernel)
set_option maxRecDepth 20000 in
theorem gX4_deal_X3_at : GoodIn wsX4_deal (wsV RX4 132 RX3 yX3_at wsX3_at) := goodIn_app (goodIn_of _ (by decide +kernel)) ggX4_deal_X3_at
set_option maxRecDepth 20000 in
theorem ggX4_deal_X4_takeLong : GoodIn wsX4_deal wsX4_takeLong := goodIn_r _ [39, 2, 40, 1, 41, 42, 43, 44, 45, 46, 47, 48, 49, 50, 51, 52, 53, 54, 55, 56, 57, 58, 59, 60, 61, 62, 63, 10, 11, 6, 12, 8, 13, 64, 65, 66, 67, 68, 69, 70, 71, 72, 73, 74, 75, 76, 77, 78, 79, 80, 81, 82, 83, 84, 85, 86, 87, 88, 89, 90, 91, 92, 93, 94, 95, 96, 97, 23, 98, 99, 100, 101, 102, 103, 104, 105, 106, 107, 108, 109, 110, 111, 112, 113, 114, 115, 116, 117, 118, 119, 120, 121, 122, 123, 124, 125, 126, 127, 128, 129, 130, 131, 132, 133, 134, 135, 136, 137, 138, 139, 140, 169, 170, 171, 172, 173, 174, 177, 178, 179, 180, 181, 182, 183, 184, 185, 186, 187, 188, 189, 190, 191, 192, 193, 194, 195, 175, 176] (by decide +kernel) (by decide +kernel)
set_option maxRecDepth 20000 in
theorem gX4_deal_X4_takeLong : GoodIn wsX4_deal (wsV RX4 135 RX4 yX4_takeLong wsX4_takeLong) := goodIn_app (goodIn_of _ (by decide +kernel)) ggX4_deal_X4_takeLong
set_option maxRecDepth 20000 in
theorem ggX4_deal_X4_takeShort : GoodIn wsX4_deal wsX4_takeShort := goodIn_r _ [144, 2, 1, 145, 35, 10, 11, 6, 12, 8, 13, 146, 147, 148, 149, 150, 151, 152, 153, 154, 155, 156, 157, 158, 159, 160, 9, 169, 170, 171, 172, 173, 174, 175, 176, 196, 197, 198, 199, 200] (by decide +kernel) (by decide +kernel)
set_option maxRecDepth 20000 in
theorem gX4_deal_X4_takeShort : GoodIn wsX4_deal (wsV RX4 139 RX4 yX4_takeShort wsX4_takeShort) := goodIn_app (goodIn_of _ (by decide +kernel)) ggX4_deal_X4_takeShort
set_option maxRecDepth 20000 in
theorem ggX4_deal_X3_drop : GoodIn wsX4_deal wsX3_drop := goodIn_r _ [164, 8, 13, 165, 166, 167, 168, 175, 176] (by decide +kernel) (by decide +kernel)
set_option maxRecDepth 20000 in
theorem gX4_deal_X3_drop : GoodIn wsX4_deal (wsV RX4 120 RX3 yX3_drop wsX3_drop) := goodIn_app (goodIn_of _ (by decide +kernel)) ggX4_deal_X3_drop
theorem dX4_deal_0 : decode cX4_deal 0 = .ok (.iconst 0, 1) := by decide +kernel
theorem dX4_deal_1 : decode cX4_deal 1 = .ok (.istore_n 1, 1) := by decide +kernel
theorem dX4_deal_2 : decode cX4_deal 2 = .ok (.iconst 0, 1) := by decide +kernel
theorem dX4_deal_3 : decode cX4_deal 3 = .ok (.istore_n 2, 1) := by decide +kernel
theorem dX4_deal_4 : decode cX4_deal 4 = .ok (.iconst 0, 1) := by decide +kernel
theorem dX4_deal_5 : decode cX4_deal 5 = .ok (.istore_n 3, 1) := by decide +kernel
theorem dX4_deal_6 : decode cX4_deal 6 = .ok (.iload_n 3, 1) := by decide +kernel
theorem dX4_deal_7 : decode cX4_deal 7 = .ok (.sipush 140, 3) := by decide +kernel
theorem dX4_deal_10 : decode cX4_deal 10 = .ok (.if_icmp .ge 88, 3) := by decide +kernel
theorem dX4_deal_13 : decode cX4_deal 13 = .ok (.aload_n 0, 1) := by decide +kernel
theorem dX4_deal_14 : decode cX4_deal 14 = .ok (.getfield 16, 3) := by decide +kernel
theorem dX4_deal_17 : decode cX4_deal 17 = .ok (.iload_n 2, 1) := by decide +kernel
theorem dX4_deal_18 : decode cX4_deal 18 = .ok (.invokevirtual 128, 3) := by decide +kernel
theorem dX4_deal_21 : decode cX4_deal 21 = .ok (.istore 4, 2) := by decide +kernel
theorem dX4_deal_23 : decode cX4_deal 23 = .ok (.iload 4, 2) := by decide +kernel
theorem dX4_deal_25 : decode cX4_deal 25 = .ok (.ifCond .ne 6, 3) := by decide +kernel
theorem dX4_deal_28 : decode cX4_deal 28 = .ok (.goto 70, 3) := by decide +kernel
theorem dX4_deal_31 : decode cX4_deal 31 = .ok (.iload 4, 2) := by decide +kernel
theorem dX4_deal_33 : decode cX4_deal 33 = .ok (.iconst (-1), 1) := by decide +kernel
theorem dX4_deal_34 : decode cX4_deal 34 = .ok (.if_icmp .ne 19, 3) := by decide +kernel
theorem dX4_deal_37 : decode cX4_deal 37 = .ok (.aload_n 0, 1) := by decide +kernel
theorem dX4_deal_38 : decode cX4_deal 38 = .ok (.getfield 9, 3) := by decide +kernel
theorem dX4_deal_41 : decode cX4_deal 41 = .ok (.iconst 2, 1) := by decide +kernel
theorem dX4_deal_42 : decode cX4_deal 42 = .ok (.dup2, 1) := by decide +kernel
theorem dX4_deal_43 : decode cX4_deal 43 = .ok (.iaload, 1) := by decide +kernel
theorem dX4_deal_44 : decode cX4_deal 44 = .ok (.iconst 1, 1) := by decide +kernel
theorem dX4_deal_45 : decode cX4_deal 45 = .ok (.iadd, 1) := by decide +kernel
theorem dX4_deal_46 : decode cX4_deal 46 = .ok (.iastore, 1) := by decide +kernel
theorem dX4_deal_47 : decode cX4_deal 47 = .ok (.iinc 2 1, 3) := by decide +kernel
theorem dX4_deal_50 : decode cX4_deal 50 = .ok (.goto 42, 3) := by decide +kernel
theorem dX4_deal_53 : decode cX4_deal 53 = .ok (.aload_n 0, 1) := by decide +kernel
theorem dX4_deal_54 : decode cX4_deal 54 = .ok (.getfield 16, 3) := by decide +kernel
theorem dX4_deal_57 : decode cX4_deal 57 = .ok (.iload_n 2, 1) := by decide +kernel
theorem dX4_deal_58 : decode cX4_deal 58 = .ok (.invokevirtual 132, 3) := by decide +kernel
theorem dX4_deal_61 : decode cX4_deal 61 = .ok (.sipush 211, 3) := by decide +kernel
theorem dX4_deal_64 : decode cX4_deal 64 = .ok (.if_icmp .ne 13, 3) := by decide +kernel
theorem dX4_deal_67 : decode cX4_deal 67 = .ok (.aload_n 0, 1) := by decide +kernel
theorem dX4_deal_68 : decode cX4_deal 68 = .ok (.iload_n 2, 1) := by decide +kernel
theorem dX4_deal_69 : decode cX4_deal 69 = .ok (.iload 4, 2) := by decide +kernel
theorem dX4_deal_71 : decode cX4_deal 71 = .ok (.invokevirtual 135, 3) := by decide +kernel
theorem dX4_deal_74 : decode cX4_deal 74 = .ok (.goto 10, 3) := by decide +kernel
theorem dX4_deal_77 : decode cX4_deal 77 = .ok (.aload_n 0, 1) := by decide +kernel
theorem dX4_deal_78 : decode cX4_deal 78 = .ok (.iload_n 2, 1) := by decide +kernel
theorem dX4_deal_79 : decode cX4_deal 79 = .ok (.iload 4, 2) := by decide +kernel
theorem dX4_deal_81 : decode cX4_deal 81 = .ok (.invokevirtual 139, 3) := by decide +kernel
theorem dX4_deal_84 : decode cX4_deal 84 = .ok (.iinc 1 1, 3) := by decide +kernel
theorem dX4_deal_87 : decode cX4_deal 87 = .ok (.iload_n 2, 1) := by decide +kernel
theorem dX4_deal_88 : decode cX4_deal 88 = .ok (.iload 4, 2) := by decide +kernel
theorem dX4_deal_90 : decode cX4_deal 90 = .ok (.iadd, 1) := by decide +kernel
theorem dX4_deal_91 : decode cX4_deal 91 = .ok (.istore_n 2, 1) := by decide +kernel
theorem dX4_deal_92 : decode cX4_deal 92 = .ok (.iinc 3 1, 3) := by decide +kernel
theorem dX4_deal_95 : decode cX4_deal 95 = .ok (.goto (-89), 3) := by decide +kernel
theorem dX4_deal_98 : decode cX4_deal 98 = .ok (.aload_n 0, 1) := by decide +kernel
theorem dX4_deal_99 : decode cX4_deal 99 = .ok (.getfield 16, 3) := by decide +kernel
theorem dX4_deal_102 : decode cX4_deal 102 = .ok (.iload_n 2, 1) := by decide +kernel
theorem dX4_deal_103 : decode cX4_deal 103 = .ok (.invokevirtual 120, 3) := by decide +kernel
theorem dX4_deal_106 : decode cX4_deal 106 = .ok (.iload_n 1, 1) := by decide +kernel
theorem dX4_deal_107 : decode cX4_deal 107 = .ok (.ireturn, 1) := by decide +kernel
set_option maxRecDepth 20000 in
theorem ggX4_takeLong_X1_read : GoodIn wsX4_takeLong wsX1_read := goodIn_r _ [14, 15, 16, 17, 18, 19, 20, 21, 22, 23, 13, 24, 25, 26, 27, 28, 29, 30, 31, 32, 33, 34, 35, 36, 37, 38, 39, 40, 41, 42, 43, 44, 45, 46, 47, 48, 49, 50, 51, 52, 53, 54, 55, 117, 118, 119, 120, 121, 122, 123, 124, 125, 126, 127, 136, 137] (by decide +kernel) (by decide +kernel)
set_option maxRecDepth 20000 in
theorem gX4_takeLong_X1_read : GoodIn wsX4_takeLong (wsV RX4 142 RX1 yX1_read wsX1_read) := goodIn_app (goodIn_of _ (by decide +kernel)) ggX4_takeLong_X1_read
set_option maxRecDepth 20000 in
theorem ggX4_takeLong_X0_isOf : GoodIn wsX4_takeLong wsX0_isOf := goodIn_r _ [60, 61, 62, 63, 128, 129, 130, 131, 132, 133, 134, 135] (by decide +kernel) (by decide +kernel)
set_option maxRecDepth 20000 in
theorem gX4_takeLong_X0_isOf : GoodIn wsX4_takeLong (wsV RX4 148 RX0 yX0_isOf wsX0_isOf) := goodIn_app (goodIn_of _ (by decide +kernel)) ggX4_takeLong_X0_isOf
set_option maxRecDepth 20000 in
theorem ggX4_takeLong_X4_loseGathered : GoodIn wsX4_takeLong wsX4_loseGathered := goodIn_r _ [68, 4, 9, 1, 111, 112, 113, 114, 115, 116, 128, 129, 130, 131, 132, 133, 134, 135] (by decide +kernel) (by decide +kernel)
set_option maxRecDepth 20000 in
theorem gX4_takeLong_X4_loseGathered : GoodIn wsX4_takeLong (wsV RX4 123 RX4 yX4_loseGathered wsX4_loseGathered) := goodIn_app (goodIn_of _ (by decide +kernel)) ggX4_takeLong_X4_loseGathered
set_option maxRecDepth 20000 in
theorem ggX4_takeLong_X0_begin : GoodIn wsX4_takeLong wsX0_begin := goodIn_r _ [72, 61, 62, 63, 73, 74, 128, 129, 130, 131, 132, 133, 134, 135] (by decide +kernel) (by decide +kernel)
set_option maxRecDepth 20000 in
theorem gX4_takeLong_X0_begin : GoodIn wsX4_takeLong (wsV RX4 152 RX0 yX0_begin wsX0_begin) := goodIn_app (goodIn_of _ (by decide +kernel)) ggX4_takeLong_X0_begin
set_option maxRecDepth 20000 in
theorem ggX4_takeLong_X1_giveTo : GoodIn wsX4_takeLong wsX1_giveTo := goodIn_r _ [78, 79, 19, 20, 15, 80, 81, 13, 82, 33, 34, 35, 36, 37, 38, 39, 40, 25, 83, 84, 85, 86, 45, 46, 47, 87, 88, 89, 90, 91, 92, 93, 94, 95, 96, 97, 48, 98, 99, 100, 59, 101, 73, 102, 103, 104, 128, 129, 130, 131, 132, 133, 134, 135, 117, 118, 119, 120, 121, 122, 123, 124, 125, 126, 127] (by decide +kernel) (by decide +kernel)
set_option maxRecDepth 20000 in
theorem gX4_takeLong_X1_giveTo : GoodIn wsX4_takeLong (wsV RX4 155 RX1 yX1_giveTo wsX1_giveTo) := goodIn_app (goodIn_of _ (by decide +kernel)) ggX4_takeLong_X1_giveTo
set_option maxRecDepth 20000 in
theorem ggX4_takeLong_X0_become : GoodIn wsX4_takeLong wsX0_become := goodIn_r _ [108, 62, 63, 74, 73, 102, 103, 104, 109, 70, 71, 59, 72, 61, 110, 99, 100, 101, 128, 129, 130, 131, 132, 133, 134, 135] (by decide +kernel) (by decide +kernel)
set_option maxRecDepth 20000 in
theorem gX4_takeLong_X0_become : GoodIn wsX4_takeLong (wsV RX4 162 RX0 yX0_become wsX0_become) := goodIn_app (goodIn_of _ (by decide +kernel)) ggX4_takeLong_X0_become
theorem dX4_takeLong_0 : decode cX4_takeLong 0 = .ok (.aload_n 0, 1) := by decide +kernel
theorem dX4_takeLong_1 : decode cX4_takeLong 1 = .ok (.getfield 9, 3) := by decide +kernel
theorem dX4_takeLong_4 : decode cX4_takeLong 4 = .ok (.iconst 0, 1) := by decide +kernel
theorem dX4_takeLong_5 : decode cX4_takeLong 5 = .ok (.dup2, 1) := by decide +kernel
theorem dX4_takeLong_6 : decode cX4_takeLong 6 = .ok (.iaload, 1) := by decide +kernel
theorem dX4_takeLong_7 : decode cX4_takeLong 7 = .ok (.iconst 1, 1) := by decide +kernel
theorem dX4_takeLong_8 : decode cX4_takeLong 8 = .ok (.iadd, 1) := by decide +kernel
theorem dX4_takeLong_9 : decode cX4_takeLong 9 = .ok (.iastore, 1) := by decide +kernel
theorem dX4_takeLong_10 : decode cX4_takeLong 10 = .ok (.iload_n 2, 1) := by decide +kernel
theorem dX4_takeLong_11 : decode cX4_takeLong 11 = .ok (.iconst 3, 1) := by decide +kernel
theorem dX4_takeLong_12 : decode cX4_takeLong 12 = .ok (.isub, 1) := by decide +kernel
theorem dX4_takeLong_13 : decode cX4_takeLong 13 = .ok (.iconst 3, 1) := by decide +kernel
theorem dX4_takeLong_14 : decode cX4_takeLong 14 = .ok (.isub, 1) := by decide +kernel
theorem dX4_takeLong_15 : decode cX4_takeLong 15 = .ok (.istore_n 3, 1) := by decide +kernel
theorem dX4_takeLong_16 : decode cX4_takeLong 16 = .ok (.aload_n 0, 1) := by decide +kernel
theorem dX4_takeLong_17 : decode cX4_takeLong 17 = .ok (.getfield 23, 3) := by decide +kernel
theorem dX4_takeLong_20 : decode cX4_takeLong 20 = .ok (.aload_n 0, 1) := by decide +kernel
theorem dX4_takeLong_21 : decode cX4_takeLong 21 = .ok (.getfield 16, 3) := by decide +kernel
theorem dX4_takeLong_24 : decode cX4_takeLong 24 = .ok (.iload_n 1, 1) := by decide +kernel
theorem dX4_takeLong_25 : decode cX4_takeLong 25 = .ok (.iconst 3, 1) := by decide +kernel
theorem dX4_takeLong_26 : decode cX4_takeLong 26 = .ok (.iadd, 1) := by decide +kernel
theorem dX4_takeLong_27 : decode cX4_takeLong 27 = .ok (.iload_n 3, 1) := by decide +kernel
theorem dX4_takeLong_28 : decode cX4_takeLong 28 = .ok (.invokevirtual 142, 3) := by decide +kernel
theorem dX4_takeLong_31 : decode cX4_takeLong 31 = .ok (.ifCond .ne 14, 3) := by decide +kernel
theorem dX4_takeLong_34 : decode cX4_takeLong 34 = .ok (.aload_n 0, 1) := by decide +kernel
theorem dX4_takeLong_35 : decode cX4_takeLong 35 = .ok (.getfield 9, 3) := by decide +kernel
theorem dX4_takeLong_38 : decode cX4_takeLong 38 = .ok (.iconst 3, 1) := by decide +kernel
theorem dX4_takeLong_39 : decode cX4_takeLong 39 = .ok (.dup2, 1) := by decide +kernel
theorem dX4_takeLong_40 : decode cX4_takeLong 40 = .ok (.iaload, 1) := by decide +kernel
theorem dX4_takeLong_41 : decode cX4_takeLong 41 = .ok (.iconst 1, 1) := by decide +kernel
theorem dX4_takeLong_42 : decode cX4_takeLong 42 = .ok (.iadd, 1) := by decide +kernel
theorem dX4_takeLong_43 : decode cX4_takeLong 43 = .ok (.iastore, 1) := by decide +kernel
theorem dX4_takeLong_44 : decode cX4_takeLong 44 = .ok (.return_, 1) := by decide +kernel
theorem dX4_takeLong_45 : decode cX4_takeLong 45 = .ok (.aload_n 0, 1) := by decide +kernel
theorem dX4_takeLong_46 : decode cX4_takeLong 46 = .ok (.getfield 9, 3) := by decide +kernel
theorem dX4_takeLong_49 : decode cX4_takeLong 49 = .ok (.bipush 6, 2) := by decide +kernel
theorem dX4_takeLong_51 : decode cX4_takeLong 51 = .ok (.dup2, 1) := by decide +kernel
theorem dX4_takeLong_52 : decode cX4_takeLong 52 = .ok (.iaload, 1) := by decide +kernel
theorem dX4_takeLong_53 : decode cX4_takeLong 53 = .ok (.iconst 1, 1) := by decide +kernel
theorem dX4_takeLong_54 : decode cX4_takeLong 54 = .ok (.iadd, 1) := by decide +kernel
theorem dX4_takeLong_55 : decode cX4_takeLong 55 = .ok (.iastore, 1) := by decide +kernel
theorem dX4_takeLong_56 : decode cX4_takeLong 56 = .ok (.aload_n 0, 1) := by decide +kernel
theorem dX4_takeLong_57 : decode cX4_takeLong 57 = .ok (.getfield 30, 3) := by decide +kernel
theorem dX4_takeLong_60 : decode cX4_takeLong 60 = .ok (.aload_n 0, 1) := by decide +kernel
theorem dX4_takeLong_61 : decode cX4_takeLong 61 = .ok (.getfield 23, 3) := by decide +kernel
theorem dX4_takeLong_64 : decode cX4_takeLong 64 = .ok (.getfield 146, 3) := by decide +kernel
theorem dX4_takeLong_67 : decode cX4_takeLong 67 = .ok (.aload_n 0, 1) := by decide +kernel
theorem dX4_takeLong_68 : decode cX4_takeLong 68 = .ok (.getfield 23, 3) := by decide +kernel
theorem dX4_takeLong_71 : decode cX4_takeLong 71 = .ok (.getfield 147, 3) := by decide +kernel
theorem dX4_takeLong_74 : decode cX4_takeLong 74 = .ok (.invokevirtual 148, 3) := by decide +kernel
theorem dX4_takeLong_77 : decode cX4_takeLong 77 = .ok (.ifCond .ne 28, 3) := by decide +kernel
theorem dX4_takeLong_80 : decode cX4_takeLong 80 = .ok (.aload_n 0, 1) := by decide +kernel
theorem dX4_takeLong_81 : decode cX4_takeLong 81 = .ok (.invokevirtual 123, 3) := by decide +kernel
theorem dX4_takeLong_84 : decode cX4_takeLong 84 = .ok (.aload_n 0, 1) := by decide +kernel
theorem dX4_takeLong_85 : decode cX4_takeLong 85 = .ok (.getfield 30, 3) := by decide +kernel
theorem dX4_takeLong_88 : decode cX4_takeLong 88 = .ok (.aload_n 0, 1) := by decide +kernel
theorem dX4_takeLong_89 : decode cX4_takeLong 89 = .ok (.getfield 23, 3) := by decide +kernel
theorem dX4_takeLong_92 : decode cX4_takeLong 92 = .ok (.getfield 146, 3) := by decide +kernel
theorem dX4_takeLong_95 : decode cX4_takeLong 95 = .ok (.aload_n 0, 1) := by decide +kernel
theorem dX4_takeLong_96 : decode cX4_takeLong 96 = .ok (.getfield 23, 3) := by decide +kernel
theorem dX4_takeLong_99 : decode cX4_takeLong 99 = .ok (.getfield 147, 3) := by decide +kernel
theorem dX4_takeLong_102 : decode cX4_takeLong 102 = .ok (.invokevirtual 152, 3) := by decide +kernel
theorem dX4_takeLong_105 : decode cX4_takeLong 105 = .ok (.aload_n 0, 1) := by decide +kernel
theorem dX4_takeLong_106 : decode cX4_takeLong 106 = .ok (.getfield 23, 3) := by decide +kernel
theorem dX4_takeLong_109 : decode cX4_takeLong 109 = .ok (.aload_n 0, 1) := by decide +kernel
theorem dX4_takeLong_110 : decode cX4_takeLong 110 = .ok (.getfield 30, 3) := by decide +kernel
theorem dX4_takeLong_113 : decode cX4_takeLong 113 = .ok (.invokevirtual 155, 3) := by decide +kernel
theorem dX4_takeLong_116 : decode cX4_takeLong 116 = .ok (.aload_n 0, 1) := by decide +kernel
theorem dX4_takeLong_117 : decode cX4_takeLong 117 = .ok (.getfield 23, 3) := by decide +kernel
theorem dX4_takeLong_120 : decode cX4_takeLong 120 = .ok (.getfield 159, 3) := by decide +kernel
theorem dX4_takeLong_123 : decode cX4_takeLong 123 = .ok (.ifCond .ne 32, 3) := by decide +kernel
theorem dX4_takeLong_126 : decode cX4_takeLong 126 = .ok (.aload_n 0, 1) := by decide +kernel
theorem dX4_takeLong_127 : decode cX4_takeLong 127 = .ok (.getfield 9, 3) := by decide +kernel
theorem dX4_takeLong_130 : decode cX4_takeLong 130 = .ok (.iconst 4, 1) := by decide +kernel
theorem dX4_takeLong_131 : decode cX4_takeLong 131 = .ok (.dup2, 1) := by decide +kernel
theorem dX4_takeLong_132 : decode cX4_takeLong 132 = .ok (.iaload, 1) := by decide +kernel
theorem dX4_takeLong_133 : decode cX4_takeLong 133 = .ok (.iconst 1, 1) := by decide +kernel
theorem dX4_takeLong_134 : decode cX4_takeLong 134 = .ok (.iadd, 1) := by decide +kernel
theorem dX4_takeLong_135 : decode cX4_takeLong 135 = .ok (.iastore, 1) := by decide +kernel
theorem dX4_takeLong_136 : decode cX4_takeLong 136 = .ok (.aload_n 0, 1) := by decide +kernel
theorem dX4_takeLong_137 : decode cX4_takeLong 137 = .ok (.getfield 34, 3) := by decide +kernel
theorem dX4_takeLong_140 : decode cX4_takeLong 140 = .ok (.aload_n 0, 1) := by decide +kernel
theorem dX4_takeLong_141 : decode cX4_takeLong 141 = .ok (.getfield 30, 3) := by decide +kernel
theorem dX4_takeLong_144 : decode cX4_takeLong 144 = .ok (.invokevirtual 162, 3) := by decide +kernel
theorem dX4_takeLong_147 : decode cX4_takeLong 147 = .ok (.aload_n 0, 1) := by decide +kernel
theorem dX4_takeLong_148 : decode cX4_takeLong 148 = .ok (.getfield 30, 3) := by decide +kernel
theorem dX4_takeLong_151 : decode cX4_takeLong 151 = .ok (.iconst 0, 1) := by decide +kernel
theorem dX4_takeLong_152 : decode cX4_takeLong 152 = .ok (.putfield 64, 3) := by decide +kernel
theorem dX4_takeLong_155 : decode cX4_takeLong 155 = .ok (.return_, 1) := by decide +kernel
theorem dX4_loseGathered_0 : decode cX4_loseGathered 0 = .ok (.aload_n 0, 1) := by decide +kernel
theorem dX4_loseGathered_1 : decode cX4_loseGathered 1 = .ok (.getfield 30, 3) := by decide +kernel
theorem dX4_loseGathered_4 : decode cX4_loseGathered 4 = .ok (.getfield 64, 3) := by decide +kernel
theorem dX4_loseGathered_7 : decode cX4_loseGathered 7 = .ok (.ifCond .eq 21, 3) := by decide +kernel
theorem dX4_loseGathered_10 : decode cX4_loseGathered 10 = .ok (.aload_n 0, 1) := by decide +kernel
theorem dX4_loseGathered_11 : decode cX4_loseGathered 11 = .ok (.getfield 9, 3) := by decide +kernel
theorem dX4_loseGathered_14 : decode cX4_loseGathered 14 = .ok (.iconst 5, 1) := by decide +kernel
theorem dX4_loseGathered_15 : decode cX4_loseGathered 15 = .ok (.dup2, 1) := by decide +kernel
theorem dX4_loseGathered_16 : decode cX4_loseGathered 16 = .ok (.iaload, 1) := by decide +kernel
theorem dX4_loseGathered_17 : decode cX4_loseGathered 17 = .ok (.iconst 1, 1) := by decide +kernel
theorem dX4_loseGathered_18 : decode cX4_loseGathered 18 = .ok (.iadd, 1) := by decide +kernel
theorem dX4_loseGathered_19 : decode cX4_loseGathered 19 = .ok (.iastore, 1) := by decide +kernel
theorem dX4_loseGathered_20 : decode cX4_loseGathered 20 = .ok (.aload_n 0, 1) := by decide +kernel
theorem dX4_loseGathered_21 : decode cX4_loseGathered 21 = .ok (.getfield 30, 3) := by decide +kernel
theorem dX4_loseGathered_24 : decode cX4_loseGathered 24 = .ok (.iconst 0, 1) := by decide +kernel
theorem dX4_loseGathered_25 : decode cX4_loseGathered 25 = .ok (.putfield 64, 3) := by decide +kernel
theorem dX4_loseGathered_28 : decode cX4_loseGathered 28 = .ok (.return_, 1) := by decide +kernel
set_option maxRecDepth 20000 in
theorem ggX4_takeShort_X3_at : GoodIn wsX4_takeShort wsX3_at := goodIn_r _ [8, 9, 10, 33, 34] (by decide +kernel) (by decide +kernel)
set_option maxRecDepth 20000 in
theorem gX4_takeShort_X3_at : GoodIn wsX4_takeShort (wsV RX4 132 RX3 yX3_at wsX3_at) := goodIn_app (goodIn_of _ (by decide +kernel)) ggX4_takeShort_X3_at
set_option maxRecDepth 20000 in
theorem ggX4_takeShort_X2_read : GoodIn wsX4_takeShort wsX2_read := goodIn_r _ [15, 16, 17, 18, 19, 20, 21, 5, 6, 7, 8, 9, 10, 22, 23, 24, 25, 26, 35, 36, 37, 38, 39, 33, 34] (by decide +kernel) (by decide +kernel)
set_option maxRecDepth 20000 in
theorem gX4_takeShort_X2_read : GoodIn wsX4_takeShort (wsV RX4 165 RX2 yX2_read wsX2_read) := goodIn_app (goodIn_of _ (by decide +kernel)) ggX4_takeShort_X2_read
theorem dX4_takeShort_0 : decode cX4_takeShort 0 = .ok (.aload_n 0, 1) := by decide +kernel
theorem dX4_takeShort_1 : decode cX4_takeShort 1 = .ok (.getfield 9, 3) := by decide +kernel
theorem dX4_takeShort_4 : decode cX4_takeShort 4 = .ok (.iconst 1, 1) := by decide +kernel
theorem dX4_takeShort_5 : decode cX4_takeShort 5 = .ok (.dup2, 1) := by decide +kernel
theorem dX4_takeShort_6 : decode cX4_takeShort 6 = .ok (.iaload, 1) := by decide +kernel
theorem dX4_takeShort_7 : decode cX4_takeShort 7 = .ok (.iconst 1, 1) := by decide +kernel
theorem dX4_takeShort_8 : decode cX4_takeShort 8 = .ok (.iadd, 1) := by decide +kernel
theorem dX4_takeShort_9 : decode cX4_takeShort 9 = .ok (.iastore, 1) := by decide +kernel
theorem dX4_takeShort_10 : decode cX4_takeShort 10 = .ok (.iload_n 2, 1) := by decide +kernel
theorem dX4_takeShort_11 : decode cX4_takeShort 11 = .ok (.bipush 6, 2) := by decide +kernel
theorem dX4_takeShort_13 : decode cX4_takeShort 13 = .ok (.isub, 1) := by decide +kernel
theorem dX4_takeShort_14 : decode cX4_takeShort 14 = .ok (.iconst 2, 1) := by decide +kernel
theorem dX4_takeShort_15 : decode cX4_takeShort 15 = .ok (.isub, 1) := by decide +kernel
theorem dX4_takeShort_16 : decode cX4_takeShort 16 = .ok (.istore_n 3, 1) := by decide +kernel
theorem dX4_takeShort_17 : decode cX4_takeShort 17 = .ok (.aload_n 0, 1) := by decide +kernel
theorem dX4_takeShort_18 : decode cX4_takeShort 18 = .ok (.getfield 16, 3) := by decide +kernel
theorem dX4_takeShort_21 : decode cX4_takeShort 21 = .ok (.iload_n 1, 1) := by decide +kernel
theorem dX4_takeShort_22 : decode cX4_takeShort 22 = .ok (.iconst 2, 1) := by decide +kernel
theorem dX4_takeShort_23 : decode cX4_takeShort 23 = .ok (.iadd, 1) := by decide +kernel
theorem dX4_takeShort_24 : decode cX4_takeShort 24 = .ok (.invokevirtual 132, 3) := by decide +kernel
theorem dX4_takeShort_27 : decode cX4_takeShort 27 = .ok (.iconst 1, 1) := by decide +kernel
theorem dX4_takeShort_28 : decode cX4_takeShort 28 = .ok (.if_icmp .ne 28, 3) := by decide +kernel
theorem dX4_takeShort_31 : decode cX4_takeShort 31 = .ok (.aload_n 0, 1) := by decide +kernel
theorem dX4_takeShort_32 : decode cX4_takeShort 32 = .ok (.getfield 16, 3) := by decide +kernel
theorem dX4_takeShort_35 : decode cX4_takeShort 35 = .ok (.iload_n 1, 1) := by decide +kernel
theorem dX4_takeShort_36 : decode cX4_takeShort 36 = .ok (.iconst 3, 1) := by decide +kernel
theorem dX4_takeShort_37 : decode cX4_takeShort 37 = .ok (.iadd, 1) := by decide +kernel
theorem dX4_takeShort_38 : decode cX4_takeShort 38 = .ok (.invokevirtual 132, 3) := by decide +kernel
theorem dX4_takeShort_41 : decode cX4_takeShort 41 = .ok (.bipush 7, 2) := by decide +kernel
theorem dX4_takeShort_43 : decode cX4_takeShort 43 = .ok (.if_icmp .ne 13, 3) := by decide +kernel
theorem dX4_takeShort_46 : decode cX4_takeShort 46 = .ok (.iload_n 3, 1) := by decide +kernel
theorem dX4_takeShort_47 : decode cX4_takeShort 47 = .ok (.bipush 17, 2) := by decide +kernel
theorem dX4_takeShort_49 : decode cX4_takeShort 49 = .ok (.if_icmp .lt 7, 3) := by decide +kernel
theorem dX4_takeShort_52 : decode cX4_takeShort 52 = .ok (.iconst 1, 1) := by decide +kernel
theorem dX4_takeShort_53 : decode cX4_takeShort 53 = .ok (.goto 4, 3) := by decide +kernel
theorem dX4_takeShort_56 : decode cX4_takeShort 56 = .ok (.iconst 0, 1) := by decide +kernel
theorem dX4_takeShort_57 : decode cX4_takeShort 57 = .ok (.istore 4, 2) := by decide +kernel
theorem dX4_takeShort_59 : decode cX4_takeShort 59 = .ok (.iload 4, 2) := by decide +kernel
theorem dX4_takeShort_61 : decode cX4_takeShort 61 = .ok (.ifCond .eq 35, 3) := by decide +kernel
theorem dX4_takeShort_64 : decode cX4_takeShort 64 = .ok (.aload_n 0, 1) := by decide +kernel
theorem dX4_takeShort_65 : decode cX4_takeShort 65 = .ok (.getfield 40, 3) := by decide +kernel
theorem dX4_takeShort_68 : decode cX4_takeShort 68 = .ok (.aload_n 0, 1) := by decide +kernel
theorem dX4_takeShort_69 : decode cX4_takeShort 69 = .ok (.getfield 16, 3) := by decide +kernel
theorem dX4_takeShort_72 : decode cX4_takeShort 72 = .ok (.iload_n 1, 1) := by decide +kernel
theorem dX4_takeShort_73 : decode cX4_takeShort 73 = .ok (.bipush 6, 2) := by decide +kernel
theorem dX4_takeShort_75 : decode cX4_takeShort 75 = .ok (.iadd, 1) := by decide +kernel
theorem dX4_takeShort_76 : decode cX4_takeShort 76 = .ok (.invokevirtual 165, 3) := by decide +kernel
theorem dX4_takeShort_79 : decode cX4_takeShort 79 = .ok (.ifCond .eq 17, 3) := by decide +kernel
theorem dX4_takeShort_82 : decode cX4_takeShort 82 = .ok (.aload_n 0, 1) := by decide +kernel
theorem dX4_takeShort_83 : decode cX4_takeShort 83 = .ok (.getfield 9, 3) := by decide +kernel
theorem dX4_takeShort_86 : decode cX4_takeShort 86 = .ok (.bipush 7, 2) := by decide +kernel
theorem dX4_takeShort_88 : decode cX4_takeShort 88 = .ok (.dup2, 1) := by decide +kernel
theorem dX4_takeShort_89 : decode cX4_takeShort 89 = .ok (.iaload, 1) := by decide +kernel
theorem dX4_takeShort_90 : decode cX4_takeShort 90 = .ok (.iconst 1, 1) := by decide +kernel
theorem dX4_takeShort_91 : decode cX4_takeShort 91 = .ok (.iadd, 1) := by decide +kernel
theorem dX4_takeShort_92 : decode cX4_takeShort 92 = .ok (.iastore, 1) := by decide +kernel
theorem dX4_takeShort_93 : decode cX4_takeShort 93 = .ok (.goto 13, 3) := by decide +kernel
theorem dX4_takeShort_96 : decode cX4_takeShort 96 = .ok (.aload_n 0, 1) := by decide +kernel
theorem dX4_takeShort_97 : decode cX4_takeShort 97 = .ok (.getfield 9, 3) := by decide +kernel
theorem dX4_takeShort_100 : decode cX4_takeShort 100 = .ok (.iconst 3, 1) := by decide +kernel
theorem dX4_takeShort_101 : decode cX4_takeShort 101 = .ok (.dup2, 1) := by decide +kernel
theorem dX4_takeShort_102 : decode cX4_takeShort 102 = .ok (.iaload, 1) := by decide +kernel
theorem dX4_takeShort_103 : decode cX4_takeShort 103 = .ok (.iconst 1, 1) := by decide +kernel
theorem dX4_takeShort_104 : decode cX4_takeShort 104 = .ok (.iadd, 1) := by decide +kernel
theorem dX4_takeShort_105 : decode cX4_takeShort 105 = .ok (.iastore, 1) := by decide +kernel
theorem dX4_takeShort_106 : decode cX4_takeShort 106 = .ok (.return_, 1) := by decide +kernel
