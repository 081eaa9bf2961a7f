theorem dX0_init_0 : decode cX0_init 0 = .ok (.aload_n 0, 1) := by decide +kernel
theorem dX0_init_1 : decode cX0_init 1 = .ok (.invokespecial 1, 3) := by decide +kernel
theorem dX0_init_4 : decode cX0_init 4 = .ok (.aload_n 0, 1) := by decide +kernel
theorem dX0_init_5 : decode cX0_init 5 = .ok (.bipush 40, 2) := by decide +kernel
theorem dX0_init_7 : decode cX0_init 7 = .ok (.newarray .int, 2) := by decide +kernel
theorem dX0_init_9 : decode cX0_init 9 = .ok (.putfield 9, 3) := by decide +kernel
theorem dX0_init_12 : decode cX0_init 12 = .ok (.aload_n 0, 1) := by decide +kernel
theorem dX0_init_13 : decode cX0_init 13 = .ok (.bipush 40, 2) := by decide +kernel
theorem dX0_init_15 : decode cX0_init 15 = .ok (.newarray .double, 2) := by decide +kernel
theorem dX0_init_17 : decode cX0_init 17 = .ok (.putfield 13, 3) := by decide +kernel
theorem dX0_init_20 : decode cX0_init 20 = .ok (.aload_n 0, 1) := by decide +kernel
theorem dX0_init_21 : decode cX0_init 21 = .ok (.bipush 40, 2) := by decide +kernel
theorem dX0_init_23 : decode cX0_init 23 = .ok (.newarray .int, 2) := by decide +kernel
theorem dX0_init_25 : decode cX0_init 25 = .ok (.putfield 17, 3) := by decide +kernel
theorem dX0_init_28 : decode cX0_init 28 = .ok (.aload_n 0, 1) := by decide +kernel
theorem dX0_init_29 : decode cX0_init 29 = .ok (.iconst 0, 1) := by decide +kernel
theorem dX0_init_30 : decode cX0_init 30 = .ok (.putfield 20, 3) := by decide +kernel
theorem dX0_init_33 : decode cX0_init 33 = .ok (.return_, 1) := by decide +kernel
theorem dX0_isOf_0 : decode cX0_isOf 0 = .ok (.aload_n 0, 1) := by decide +kernel
theorem dX0_isOf_1 : decode cX0_isOf 1 = .ok (.getfield 20, 3) := by decide +kernel
theorem dX0_isOf_4 : decode cX0_isOf 4 = .ok (.ifCond .eq 23, 3) := by decide +kernel
theorem dX0_isOf_7 : decode cX0_isOf 7 = .ok (.aload_n 0, 1) := by decide +kernel
theorem dX0_isOf_8 : decode cX0_isOf 8 = .ok (.getfield 24, 3) := by decide +kernel
theorem dX0_isOf_11 : decode cX0_isOf 11 = .ok (.iload_n 1, 1) := by decide +kernel
theorem dX0_isOf_12 : decode cX0_isOf 12 = .ok (.if_icmp .ne 15, 3) := by decide +kernel
theorem dX0_isOf_15 : decode cX0_isOf 15 = .ok (.aload_n 0, 1) := by decide +kernel
theorem dX0_isOf_16 : decode cX0_isOf 16 = .ok (.getfield 28, 3) := by decide +kernel
theorem dX0_isOf_19 : decode cX0_isOf 19 = .ok (.iload_n 2, 1) := by decide +kernel
theorem dX0_isOf_20 : decode cX0_isOf 20 = .ok (.if_icmp .ne 7, 3) := by decide +kernel
theorem dX0_isOf_23 : decode cX0_isOf 23 = .ok (.iconst 1, 1) := by decide +kernel
theorem dX0_isOf_24 : decode cX0_isOf 24 = .ok (.goto 4, 3) := by decide +kernel
theorem dX0_isOf_27 : decode cX0_isOf 27 = .ok (.iconst 0, 1) := by decide +kernel
theorem dX0_isOf_28 : decode cX0_isOf 28 = .ok (.ireturn, 1) := by decide +kernel
theorem dX0_begin_0 : decode cX0_begin 0 = .ok (.aload_n 0, 1) := by decide +kernel
theorem dX0_begin_1 : decode cX0_begin 1 = .ok (.iconst 1, 1) := by decide +kernel
theorem dX0_begin_2 : decode cX0_begin 2 = .ok (.putfield 20, 3) := by decide +kernel
theorem dX0_begin_5 : decode cX0_begin 5 = .ok (.aload_n 0, 1) := by decide +kernel
theorem dX0_begin_6 : decode cX0_begin 6 = .ok (.iload_n 1, 1) := by decide +kernel
theorem dX0_begin_7 : decode cX0_begin 7 = .ok (.putfield 24, 3) := by decide +kernel
theorem dX0_begin_10 : decode cX0_begin 10 = .ok (.aload_n 0, 1) := by decide +kernel
theorem dX0_begin_11 : decode cX0_begin 11 = .ok (.iload_n 2, 1) := by decide +kernel
theorem dX0_begin_12 : decode cX0_begin 12 = .ok (.putfield 28, 3) := by decide +kernel
theorem dX0_begin_15 : decode cX0_begin 15 = .ok (.aload_n 0, 1) := by decide +kernel
theorem dX0_begin_16 : decode cX0_begin 16 = .ok (.iconst 0, 1) := by decide +kernel
theorem dX0_begin_17 : decode cX0_begin 17 = .ok (.putfield 31, 3) := by decide +kernel
theorem dX0_begin_20 : decode cX0_begin 20 = .ok (.aload_n 0, 1) := by decide +kernel
theorem dX0_begin_21 : decode cX0_begin 21 = .ok (.iconst 0, 1) := by decide +kernel
theorem dX0_begin_22 : decode cX0_begin 22 = .ok (.putfield 34, 3) := by decide +kernel
theorem dX0_begin_25 : decode cX0_begin 25 = .ok (.return_, 1) := by decide +kernel
theorem dX0_add_0 : decode cX0_add 0 = .ok (.aload_n 0, 1) := by decide +kernel
theorem dX0_add_1 : decode cX0_add 1 = .ok (.getfield 31, 3) := by decide +kernel
theorem dX0_add_4 : decode cX0_add 4 = .ok (.bipush 40, 2) := by decide +kernel
theorem dX0_add_6 : decode cX0_add 6 = .ok (.if_icmp .ge 44, 3) := by decide +kernel
theorem dX0_add_9 : decode cX0_add 9 = .ok (.aload_n 0, 1) := by decide +kernel
theorem dX0_add_10 : decode cX0_add 10 = .ok (.getfield 9, 3) := by decide +kernel
theorem dX0_add_13 : decode cX0_add 13 = .ok (.aload_n 0, 1) := by decide +kernel
theorem dX0_add_14 : decode cX0_add 14 = .ok (.getfield 31, 3) := by decide +kernel
theorem dX0_add_17 : decode cX0_add 17 = .ok (.iload_n 1, 1) := by decide +kernel
theorem dX0_add_18 : decode cX0_add 18 = .ok (.iastore, 1) := by decide +kernel
theorem dX0_add_19 : decode cX0_add 19 = .ok (.aload_n 0, 1) := by decide +kernel
theorem dX0_add_20 : decode cX0_add 20 = .ok (.getfield 13, 3) := by decide +kernel
theorem dX0_add_23 : decode cX0_add 23 = .ok (.aload_n 0, 1) := by decide +kernel
theorem dX0_add_24 : decode cX0_add 24 = .ok (.getfield 31, 3) := by decide +kernel
theorem dX0_add_27 : decode cX0_add 27 = .ok (.dload_n 2, 1) := by decide +kernel
theorem dX0_add_28 : decode cX0_add 28 = .ok (.dastore, 1) := by decide +kernel
theorem dX0_add_29 : decode cX0_add 29 = .ok (.aload_n 0, 1) := by decide +kernel
theorem dX0_add_30 : decode cX0_add 30 = .ok (.getfield 17, 3) := by decide +kernel
theorem dX0_add_33 : decode cX0_add 33 = .ok (.aload_n 0, 1) := by decide +kernel
theorem dX0_add_34 : decode cX0_add 34 = .ok (.getfield 31, 3) := by decide +kernel
theorem dX0_add_37 : decode cX0_add 37 = .ok (.iload 4, 2) := by decide +kernel
theorem dX0_add_39 : decode cX0_add 39 = .ok (.iastore, 1) := by decide +kernel
theorem dX0_add_40 : decode cX0_add 40 = .ok (.aload_n 0, 1) := by decide +kernel
theorem dX0_add_41 : decode cX0_add 41 = .ok (.dup, 1) := by decide +kernel
theorem dX0_add_42 : decode cX0_add 42 = .ok (.getfield 31, 3) := by decide +kernel
theorem dX0_add_45 : decode cX0_add 45 = .ok (.iconst 1, 1) := by decide +kernel
theorem dX0_add_46 : decode cX0_add 46 = .ok (.iadd, 1) := by decide +kernel
theorem dX0_add_47 : decode cX0_add 47 = .ok (.putfield 31, 3) := by decide +kernel
theorem dX0_add_50 : decode cX0_add 50 = .ok (.return_, 1) := by decide +kernel
set_option maxRecDepth 20000 in
theorem ggX0_become_X0_begin : GoodIn wsX0_become wsX0_begin := goodIn_r _ [12, 13, 1, 2, 4, 3, 18, 19, 20, 21, 22, 23, 24, 25] (by decide +kernel) (by decide +kernel)
set_option maxRecDepth 20000 in
theorem gX0_become_X0_begin : GoodIn wsX0_become (wsV RX0 37 RX0 yX0_begin wsX0_begin) := goodIn_app (goodIn_of _ (by decide +kernel)) ggX0_become_X0_begin
set_option maxRecDepth 20000 in
theorem ggX0_become_X0_add : GoodIn wsX0_become wsX0_add := goodIn_r _ [17, 4, 5, 6, 7, 18, 19, 20, 21, 22, 23, 24, 25] (by decide +kernel) (by decide +kernel)
set_option maxRecDepth 20000 in
theorem gX0_become_X0_add : GoodIn wsX0_become (wsV RX0 41 RX0 yX0_add wsX0_add) := goodIn_app (goodIn_of _ (by decide +kernel)) ggX0_become_X0_add
theorem dX0_become_0 : decode cX0_become 0 = .ok (.aload_n 0, 1) := by decide +kernel
theorem dX0_become_1 : decode cX0_become 1 = .ok (.aload_n 1, 1) := by decide +kernel
theorem dX0_become_2 : decode cX0_become 2 = .ok (.getfield 24, 3) := by decide +kernel
theorem dX0_become_5 : decode cX0_become 5 = .ok (.aload_n 1, 1) := by decide +kernel
theorem dX0_become_6 : decode cX0_become 6 = .ok (.getfield 28, 3) := by decide +kernel
theorem dX0_become_9 : decode cX0_become 9 = .ok (.invokevirtual 37, 3) := by decide +kernel
theorem dX0_become_12 : decode cX0_become 12 = .ok (.aload_n 0, 1) := by decide +kernel
theorem dX0_become_13 : decode cX0_become 13 = .ok (.aload_n 1, 1) := by decide +kernel
theorem dX0_become_14 : decode cX0_become 14 = .ok (.getfield 34, 3) := by decide +kernel
theorem dX0_become_17 : decode cX0_become 17 = .ok (.putfield 34, 3) := by decide +kernel
theorem dX0_become_20 : decode cX0_become 20 = .ok (.iconst 0, 1) := by decide +kernel
theorem dX0_become_21 : decode cX0_become 21 = .ok (.istore_n 2, 1) := by decide +kernel
theorem dX0_become_22 : decode cX0_become 22 = .ok (.iload_n 2, 1) := by decide +kernel
theorem dX0_become_23 : decode cX0_become 23 = .ok (.aload_n 1, 1) := by decide +kernel
theorem dX0_become_24 : decode cX0_become 24 = .ok (.getfield 31, 3) := by decide +kernel
theorem dX0_become_27 : decode cX0_become 27 = .ok (.if_icmp .ge 31, 3) := by decide +kernel
theorem dX0_become_30 : decode cX0_become 30 = .ok (.aload_n 0, 1) := by decide +kernel
theorem dX0_become_31 : decode cX0_become 31 = .ok (.aload_n 1, 1) := by decide +kernel
theorem dX0_become_32 : decode cX0_become 32 = .ok (.getfield 9, 3) := by decide +kernel
theorem dX0_become_35 : decode cX0_become 35 = .ok (.iload_n 2, 1) := by decide +kernel
theorem dX0_become_36 : decode cX0_become 36 = .ok (.iaload, 1) := by decide +kernel
theorem dX0_become_37 : decode cX0_become 37 = .ok (.aload_n 1, 1) := by decide +kernel
theorem dX0_become_38 : decode cX0_become 38 = .ok (.getfield 13, 3) := by decide +kernel
theorem dX0_become_41 : decode cX0_become 41 = .ok (.iload_n 2, 1) := by decide +kernel
theorem dX0_become_42 : decode cX0_become 42 = .ok (.daload, 1) := by decide +kernel
theorem dX0_become_43 : decode cX0_become 43 = .ok (.aload_n 1, 1) := by decide +kernel
theorem dX0_become_44 : decode cX0_become 44 = .ok (.getfield 17, 3) := by decide +kernel
theorem dX0_become_47 : decode cX0_become 47 = .ok (.iload_n 2, 1) := by decide +kernel
theorem dX0_become_48 : decode cX0_become 48 = .ok (.iaload, 1) := by decide +kernel
theorem dX0_become_49 : decode cX0_become 49 = .ok (.invokevirtual 41, 3) := by decide +kernel
theorem dX0_become_52 : decode cX0_become 52 = .ok (.iinc 2 1, 3) := by decide +kernel
theorem dX0_become_55 : decode cX0_become 55 = .ok (.goto (-33), 3) := by decide +kernel
theorem dX0_become_58 : decode cX0_become 58 = .ok (.return_, 1) := by decide +kernel
theorem dX0_holds_0 : decode cX0_holds 0 = .ok (.aload_n 0, 1) := by decide +kernel
theorem dX0_holds_1 : decode cX0_holds 1 = .ok (.getfield 20, 3) := by decide +kernel
theorem dX0_holds_4 : decode cX0_holds 4 = .ok (.ifCond .eq 19, 3) := by decide +kernel
theorem dX0_holds_7 : decode cX0_holds 7 = .ok (.iload_n 1, 1) := by decide +kernel
theorem dX0_holds_8 : decode cX0_holds 8 = .ok (.ifCond .lt 15, 3) := by decide +kernel
theorem dX0_holds_11 : decode cX0_holds 11 = .ok (.iload_n 1, 1) := by decide +kernel
theorem dX0_holds_12 : decode cX0_holds 12 = .ok (.aload_n 0, 1) := by decide +kernel
theorem dX0_holds_13 : decode cX0_holds 13 = .ok (.getfield 31, 3) := by decide +kernel
theorem dX0_holds_16 : decode cX0_holds 16 = .ok (.if_icmp .ge 7, 3) := by decide +kernel
theorem dX0_holds_19 : decode cX0_holds 19 = .ok (.iconst 1, 1) := by decide +kernel
theorem dX0_holds_20 : decode cX0_holds 20 = .ok (.goto 4, 3) := by decide +kernel
theorem dX0_holds_23 : decode cX0_holds 23 = .ok (.iconst 0, 1) := by decide +kernel
theorem dX0_holds_24 : decode cX0_holds 24 = .ok (.ireturn, 1) := by decide +kernel
theorem dX0_meanRange_0 : decode cX0_meanRange 0 = .ok (.dconst 0, 1) := by decide +kernel
theorem dX0_meanRange_1 : decode cX0_meanRange 1 = .ok (.dstore_n 1, 1) := by decide +kernel
theorem dX0_meanRange_2 : decode cX0_meanRange 2 = .ok (.iconst 0, 1) := by decide +kernel
theorem dX0_meanRange_3 : decode cX0_meanRange 3 = .ok (.istore_n 3, 1) := by decide +kernel
theorem dX0_meanRange_4 : decode cX0_meanRange 4 = .ok (.iconst 0, 1) := by decide +kernel
theorem dX0_meanRange_5 : decode cX0_meanRange 5 = .ok (.istore 4, 2) := by decide +kernel
theorem dX0_meanRange_7 : decode cX0_meanRange 7 = .ok (.iload 4, 2) := by decide +kernel
theorem dX0_meanRange_9 : decode cX0_meanRange 9 = .ok (.aload_n 0, 1) := by decide +kernel
theorem dX0_meanRange_10 : decode cX0_meanRange 10 = .ok (.getfield 31, 3) := by decide +kernel
theorem dX0_meanRange_13 : decode cX0_meanRange 13 = .ok (.if_icmp .ge 36, 3) := by decide +kernel
theorem dX0_meanRange_16 : decode cX0_meanRange 16 = .ok (.aload_n 0, 1) := by decide +kernel
theorem dX0_meanRange_17 : decode cX0_meanRange 17 = .ok (.getfield 13, 3) := by decide +kernel
theorem dX0_meanRange_20 : decode cX0_meanRange 20 = .ok (.iload 4, 2) := by decide +kernel
theorem dX0_meanRange_22 : decode cX0_meanRange 22 = .ok (.daload, 1) := by decide +kernel
theorem dX0_meanRange_23 : decode cX0_meanRange 23 = .ok (.ldc2_w 45, 3) := by decide +kernel
theorem dX0_meanRange_26 : decode cX0_meanRange 26 = .ok (.dcmp .l, 1) := by decide +kernel
theorem dX0_meanRange_27 : decode cX0_meanRange 27 = .ok (.ifCond .eq 16, 3) := by decide +kernel
theorem dX0_meanRange_30 : decode cX0_meanRange 30 = .ok (.dload_n 1, 1) := by decide +kernel
theorem dX0_meanRange_31 : decode cX0_meanRange 31 = .ok (.aload_n 0, 1) := by decide +kernel
theorem dX0_meanRange_32 : decode cX0_meanRange 32 = .ok (.getfield 13, 3) := by decide +kernel
theorem dX0_meanRange_35 : decode cX0_meanRange 35 = .ok (.iload 4, 2) := by decide +kernel
theorem dX0_meanRange_37 : decode cX0_meanRange 37 = .ok (.daload, 1) := by decide +kernel
theorem dX0_meanRange_38 : decode cX0_meanRange 38 = .ok (.dadd, 1) := by decide +kernel
theorem dX0_meanRange_39 : decode cX0_meanRange 39 = .ok (.dstore_n 1, 1) := by decide +kernel
theorem dX0_meanRange_40 : decode cX0_meanRange 40 = .ok (.iinc 3 1, 3) := by decide +kernel
theorem dX0_meanRange_43 : decode cX0_meanRange 43 = .ok (.iinc 4 1, 3) := by decide +kernel
theorem dX0_meanRange_46 : decode cX0_meanRange 46 = .ok (.goto (-39), 3) := by decide +kernel
theorem dX0_meanRange_49 : decode cX0_meanRange 49 = .ok (.iload_n 3, 1) := by decide +kernel
theorem dX0_meanRange_50 : decode cX0_meanRange 50 = .ok (.ifCond .ne 9, 3) := by decide +kernel
theorem dX0_meanRange_53 : decode cX0_meanRange 53 = .ok (.ldc2_w 45, 3) := by decide +kernel
theorem dX0_meanRange_56 : decode cX0_meanRange 56 = .ok (.goto 7, 3) := by decide +kernel
theorem dX0_meanRange_59 : decode cX0_meanRange 59 = .ok (.dload_n 1, 1) := by decide +kernel
theorem dX0_meanRange_60 : decode cX0_meanRange 60 = .ok (.iload_n 3, 1) := by decide +kernel
theorem dX0_meanRange_61 : decode cX0_meanRange 61 = .ok (.i2d, 1) := by decide +kernel
theorem dX0_meanRange_62 : decode cX0_meanRange 62 = .ok (.ddiv, 1) := by decide +kernel
theorem dX0_meanRange_63 : decode cX0_meanRange 63 = .ok (.dreturn, 1) := by decide +kernel
theorem dX1_init_0 : decode cX1_init 0 = .ok (.aload_n 0, 1) := by decide +kernel
theorem dX1_init_1 : decode cX1_init 1 = .ok (.invokespecial 1, 3) := by decide +kernel
theorem dX1_init_4 : decode cX1_init 4 = .ok (.aload_n 0, 1) := by decide +kernel
theorem dX1_init_5 : decode cX1_init 5 = .ok (.bipush 90, 2) := by decide +kernel
theorem dX1_init_7 : decode cX1_init 7 = .ok (.newarray .int, 2) := by decide +kernel
theorem dX1_init_9 : decode cX1_init 9 = .ok (.putfield 9, 3) := by decide +kernel
theorem dX1_init_12 : decode cX1_init 12 = .ok (.return_, 1) := by decide +kernel
set_option maxRecDepth 20000 in
theorem ggX1_read_X1_fill : GoodIn wsX1_read wsX1_fill := goodIn_r _ [11, 12, 13, 14, 15, 16, 17, 18, 19, 43, 44, 45, 46, 47, 48, 49, 50, 51, 52, 53, 54, 55] (by decide +kernel) (by decide +kernel)
set_option maxRecDepth 20000 in
theorem gX1_read_X1_fill : GoodIn wsX1_read (wsV RX1 15 RX1 yX1_fill wsX1_fill) := goodIn_app (goodIn_of _ (by decide +kernel)) ggX1_read_X1_fill
set_option maxRecDepth 20000 in
theorem ggX1_read_X1_number : GoodIn wsX1_read wsX1_number := goodIn_r _ [23, 24, 25, 26, 10, 27, 12, 43, 44, 45, 46, 47, 48, 49, 50, 51, 52, 53] (by decide +kernel) (by decide +kernel)
set_option maxRecDepth 20000 in
theorem gX1_read_X1_number : GoodIn wsX1_read (wsV RX1 19 RX1 yX1_number wsX1_number) := goodIn_app (goodIn_of _ (by decide +kernel)) ggX1_read_X1_number
set_option maxRecDepth 20000 in
theorem ggX1_read_X1_layOut : GoodIn wsX1_read wsX1_layOut := goodIn_r _ [31, 5, 6, 32, 33, 34, 35, 36, 37, 38, 39, 40, 41, 42, 20, 21, 22, 10, 23, 24, 25, 26, 27, 12, 43, 44, 45, 46, 47, 48, 49, 50, 51, 52, 53] (by decide +kernel) (by decide +kernel)
set_option maxRecDepth 20000 in
theorem gX1_read_X1_layOut : GoodIn wsX1_read (wsV RX1 43 RX1 yX1_layOut wsX1_layOut) := goodIn_app (goodIn_of _ (by decide +kernel)) ggX1_read_X1_layOut
theorem dX1_read_0 : decode cX1_read 0 = .ok (.aload_n 0, 1) := by decide +kernel
theorem dX1_read_1 : decode cX1_read 1 = .ok (.aload_n 1, 1) := by decide +kernel
theorem dX1_read_2 : decode cX1_read 2 = .ok (.iload_n 2, 1) := by decide +kernel
theorem dX1_read_3 : decode cX1_read 3 = .ok (.iload_n 3, 1) := by decide +kernel
theorem dX1_read_4 : decode cX1_read 4 = .ok (.invokevirtual 15, 3) := by decide +kernel
theorem dX1_read_7 : decode cX1_read 7 = .ok (.aload_n 0, 1) := by decide +kernel
theorem dX1_read_8 : decode cX1_read 8 = .ok (.iconst 0, 1) := by decide +kernel
theorem dX1_read_9 : decode cX1_read 9 = .ok (.bipush 12, 2) := by decide +kernel
theorem dX1_read_11 : decode cX1_read 11 = .ok (.invokevirtual 19, 3) := by decide +kernel
theorem dX1_read_14 : decode cX1_read 14 = .ok (.istore 4, 2) := by decide +kernel
theorem dX1_read_16 : decode cX1_read 16 = .ok (.iload 4, 2) := by decide +kernel
theorem dX1_read_18 : decode cX1_read 18 = .ok (.sipush 1000, 3) := by decide +kernel
theorem dX1_read_21 : decode cX1_read 21 = .ok (.if_icmp .lt 11, 3) := by decide +kernel
theorem dX1_read_24 : decode cX1_read 24 = .ok (.iload 4, 2) := by decide +kernel
theorem dX1_read_26 : decode cX1_read 26 = .ok (.sipush 1003, 3) := by decide +kernel
theorem dX1_read_29 : decode cX1_read 29 = .ok (.if_icmp .le 5, 3) := by decide +kernel
theorem dX1_read_32 : decode cX1_read 32 = .ok (.iconst 0, 1) := by decide +kernel
theorem dX1_read_33 : decode cX1_read 33 = .ok (.ireturn, 1) := by decide +kernel
theorem dX1_read_34 : decode cX1_read 34 = .ok (.aload_n 0, 1) := by decide +kernel
theorem dX1_read_35 : decode cX1_read 35 = .ok (.iload 4, 2) := by decide +kernel
theorem dX1_read_37 : decode cX1_read 37 = .ok (.sipush 1000, 3) := by decide +kernel
theorem dX1_read_40 : decode cX1_read 40 = .ok (.isub, 1) := by decide +kernel
theorem dX1_read_41 : decode cX1_read 41 = .ok (.putfield 23, 3) := by decide +kernel
theorem dX1_read_44 : decode cX1_read 44 = .ok (.aload_n 0, 1) := by decide +kernel
theorem dX1_read_45 : decode cX1_read 45 = .ok (.aload_n 0, 1) := by decide +kernel
theorem dX1_read_46 : decode cX1_read 46 = .ok (.bipush 12, 2) := by decide +kernel
theorem dX1_read_48 : decode cX1_read 48 = .ok (.bipush 12, 2) := by decide +kernel
theorem dX1_read_50 : decode cX1_read 50 = .ok (.invokevirtual 19, 3) := by decide +kernel
theorem dX1_read_53 : decode cX1_read 53 = .ok (.putfield 27, 3) := by decide +kernel
theorem dX1_read_56 : decode cX1_read 56 = .ok (.aload_n 0, 1) := by decide +kernel
theorem dX1_read_57 : decode cX1_read 57 = .ok (.aload_n 0, 1) := by decide +kernel
theorem dX1_read_58 : decode cX1_read 58 = .ok (.bipush 24, 2) := by decide +kernel
theorem dX1_read_60 : decode cX1_read 60 = .ok (.bipush 30, 2) := by decide +kernel
theorem dX1_read_62 : decode cX1_read 62 = .ok (.invokevirtual 19, 3) := by decide +kernel
theorem dX1_read_65 : decode cX1_read 65 = .ok (.putfield 30, 3) := by decide +kernel
theorem dX1_read_68 : decode cX1_read 68 = .ok (.aload_n 0, 1) := by decide +kernel
theorem dX1_read_69 : decode cX1_read 69 = .ok (.aload_n 0, 1) := by decide +kernel
theorem dX1_read_70 : decode cX1_read 70 = .ok (.bipush 54, 2) := by decide +kernel
theorem dX1_read_72 : decode cX1_read 72 = .ok (.iconst 1, 1) := by decide +kernel
theorem dX1_read_73 : decode cX1_read 73 = .ok (.invokevirtual 19, 3) := by decide +kernel
theorem dX1_read_76 : decode cX1_read 76 = .ok (.iconst 1, 1) := by decide +kernel
theorem dX1_read_77 : decode cX1_read 77 = .ok (.if_icmp .ne 7, 3) := by decide +kernel
theorem dX1_read_80 : decode cX1_read 80 = .ok (.iconst 1, 1) := by decide +kernel
theorem dX1_read_81 : decode cX1_read 81 = .ok (.goto 4, 3) := by decide +kernel
theorem dX1_read_84 : decode cX1_read 84 = .ok (.iconst 0, 1) := by decide +kernel
theorem dX1_read_85 : decode cX1_read 85 = .ok (.putfield 33, 3) := by decide +kernel
theorem dX1_read_88 : decode cX1_read 88 = .ok (.aload_n 0, 1) := by decide +kernel
theorem dX1_read_89 : decode cX1_read 89 = .ok (.aload_n 0, 1) := by decide +kernel
theorem dX1_read_90 : decode cX1_read 90 = .ok (.bipush 55, 2) := by decide +kernel
theorem dX1_read_92 : decode cX1_read 92 = .ok (.bipush 16, 2) := by decide +kernel
theorem dX1_read_94 : decode cX1_read 94 = .ok (.invokevirtual 19, 3) := by decide +kernel
theorem dX1_read_97 : decode cX1_read 97 = .ok (.putfield 37, 3) := by decide +kernel
theorem dX1_read_100 : decode cX1_read 100 = .ok (.aload_n 0, 1) := by decide +kernel
theorem dX1_read_101 : decode cX1_read 101 = .ok (.aload_n 0, 1) := by decide +kernel
theorem dX1_read_102 : decode cX1_read 102 = .ok (.bipush 71, 2) := by decide +kernel
theorem dX1_read_104 : decode cX1_read 104 = .ok (.iconst 4, 1) := by decide +kernel
theorem dX1_read_105 : decode cX1_read 105 = .ok (.invokevirtual 19, 3) := by decide +kernel
theorem dX1_read_108 : decode cX1_read 108 = .ok (.putfield 40, 3) := by decide +kernel
theorem dX1_read_111 : decode cX1_read 111 = .ok (.aload_n 0, 1) := by decide +kernel
theorem dX1_read_112 : decode cX1_read 112 = .ok (.bipush 8, 2) := by decide +kernel
theorem dX1_read_114 : decode cX1_read 114 = .ok (.iload_n 3, 1) := by decide +kernel
theorem dX1_read_115 : decode cX1_read 115 = .ok (.imul, 1) := by decide +kernel
theorem dX1_read_116 : decode cX1_read 116 = .ok (.invokevirtual 43, 3) := by decide +kernel
theorem dX1_read_119 : decode cX1_read 119 = .ok (.ireturn, 1) := by decide +kernel
set_option maxRecDepth 20000 in
theorem ggX1_fill_X3_at : GoodIn wsX1_fill wsX3_at := goodIn_r _ [6, 7, 8, 20, 21] (by decide +kernel) (by decide +kernel)
set_option maxRecDepth 20000 in
theorem gX1_fill_X3_at : GoodIn wsX1_fill (wsV RX1 47 RX3 yX3_at wsX3_at) := goodIn_app (goodIn_of _ (by decide +kernel)) ggX1_fill_X3_at
theorem dX1_fill_0 : decode cX1_fill 0 = .ok (.iconst 0, 1) := by decide +kernel
theorem dX1_fill_1 : decode cX1_fill 1 = .ok (.istore 4, 2) := by decide +kernel
theorem dX1_fill_3 : decode cX1_fill 3 = .ok (.iload 4, 2) := by decide +kernel
theorem dX1_fill_5 : decode cX1_fill 5 = .ok (.aload_n 0, 1) := by decide +kernel
theorem dX1_fill_6 : decode cX1_fill 6 = .ok (.getfield 9, 3) := by decide +kernel
theorem dX1_fill_9 : decode cX1_fill 9 = .ok (.arraylength, 1) := by decide +kernel
theorem dX1_fill_10 : decode cX1_fill 10 = .ok (.if_icmp .ge 34, 3) := by decide +kernel
theorem dX1_fill_13 : decode cX1_fill 13 = .ok (.aload_n 0, 1) := by decide +kernel
theorem dX1_fill_14 : decode cX1_fill 14 = .ok (.getfield 9, 3) := by decide +kernel
theorem dX1_fill_17 : decode cX1_fill 17 = .ok (.iload 4, 2) := by decide +kernel
theorem dX1_fill_19 : decode cX1_fill 19 = .ok (.iload 4, 2) := by decide +kernel
theorem dX1_fill_21 : decode cX1_fill 21 = .ok (.iload_n 3, 1) := by decide +kernel
theorem dX1_fill_22 : decode cX1_fill 22 = .ok (.if_icmp .ge 14, 3) := by decide +kernel
theorem dX1_fill_25 : decode cX1_fill 25 = .ok (.aload_n 1, 1) := by decide +kernel
theorem dX1_fill_26 : decode cX1_fill 26 = .ok (.iload_n 2, 1) := by decide +kernel
theorem dX1_fill_27 : decode cX1_fill 27 = .ok (.iload 4, 2) := by decide +kernel
theorem dX1_fill_29 : decode cX1_fill 29 = .ok (.iadd, 1) := by decide +kernel
theorem dX1_fill_30 : decode cX1_fill 30 = .ok (.invokevirtual 47, 3) := by decide +kernel
theorem dX1_fill_33 : decode cX1_fill 33 = .ok (.goto 4, 3) := by decide +kernel
theorem dX1_fill_36 : decode cX1_fill 36 = .ok (.iconst 0, 1) := by decide +kernel
theorem dX1_fill_37 : decode cX1_fill 37 = .ok (.iastore, 1) := by decide +kernel
theorem dX1_fill_38 : decode cX1_fill 38 = .ok (.iinc 4 1, 3) := by decide +kernel
theorem dX1_fill_41 : decode cX1_fill 41 = .ok (.goto (-38), 3) := by decide +kernel
theorem dX1_fill_44 : decode cX1_fill 44 = .ok (.return_, 1) := by decide +kernel
set_option maxRecDepth 20000 in
theorem ggX1_layOut_J6_bitCount_0f7a4 : GoodIn wsX1_layOut wsJ6_bitCount_0f7a4 := goodIn_r _ [10, 11, 12, 13] (by decide +kernel) (by decide +kernel)
set_option maxRecDepth 20000 in
theorem gX1_layOut_J6_bitCount_0f7a4 : GoodIn wsX1_layOut (va_wsS RX1 51 yJ6_bitCount_0f7a4 wsJ6_bitCount_0f7a4) := goodIn_app (goodIn_of _ (by decide +kernel)) ggX1_layOut_J6_bitCount_0f7a4
set_option maxRecDepth 20000 in
theorem ggX1_layOut_X1_number : GoodIn wsX1_layOut wsX1_number := goodIn_r _ [18, 19, 20, 21, 17, 22, 23, 24, 25, 26, 27, 28, 29, 30, 31, 32, 33, 34] (by decide +kernel) (by decide +kernel)
set_option maxRecDepth 20000 in
theorem gX1_layOut_X1_number : GoodIn wsX1_layOut (wsV RX1 19 RX1 yX1_number wsX1_number) := goodIn_app (goodIn_of _ (by decide +kernel)) ggX1_layOut_X1_number
theorem dX1_layOut_0 : decode cX1_layOut 0 = .ok (.aload_n 0, 1) := by decide +kernel
theorem dX1_layOut_1 : decode cX1_layOut 1 = .ok (.getfield 37, 3) := by decide +kernel
theorem dX1_layOut_4 : decode cX1_layOut 4 = .ok (.invokestatic 51, 3) := by decide +kernel
theorem dX1_layOut_7 : decode cX1_layOut 7 = .ok (.istore_n 2, 1) := by decide +kernel
theorem dX1_layOut_8 : decode cX1_layOut 8 = .ok (.aload_n 0, 1) := by decide +kernel
theorem dX1_layOut_9 : decode cX1_layOut 9 = .ok (.bipush 75, 2) := by decide +kernel
theorem dX1_layOut_11 : decode cX1_layOut 11 = .ok (.iload_n 2, 1) := by decide +kernel
theorem dX1_layOut_12 : decode cX1_layOut 12 = .ok (.aload_n 0, 1) := by decide +kernel
theorem dX1_layOut_13 : decode cX1_layOut 13 = .ok (.getfield 40, 3) := by decide +kernel
theorem dX1_layOut_16 : decode cX1_layOut 16 = .ok (.invokestatic 51, 3) := by decide +kernel
theorem dX1_layOut_19 : decode cX1_layOut 19 = .ok (.imul, 1) := by decide +kernel
theorem dX1_layOut_20 : decode cX1_layOut 20 = .ok (.iadd, 1) := by decide +kernel
theorem dX1_layOut_21 : decode cX1_layOut 21 = .ok (.putfield 56, 3) := by decide +kernel
theorem dX1_layOut_24 : decode cX1_layOut 24 = .ok (.iconst 0, 1) := by decide +kernel
theorem dX1_layOut_25 : decode cX1_layOut 25 = .ok (.istore_n 3, 1) := by decide +kernel
theorem dX1_layOut_26 : decode cX1_layOut 26 = .ok (.bipush 75, 2) := by decide +kernel
theorem dX1_layOut_28 : decode cX1_layOut 28 = .ok (.istore 4, 2) := by decide +kernel
theorem dX1_layOut_30 : decode cX1_layOut 30 = .ok (.iload 4, 2) := by decide +kernel
theorem dX1_layOut_32 : decode cX1_layOut 32 = .ok (.aload_n 0, 1) := by decide +kernel
theorem dX1_layOut_33 : decode cX1_layOut 33 = .ok (.getfield 56, 3) := by decide +kernel
theorem dX1_layOut_36 : decode cX1_layOut 36 = .ok (.if_icmp .ge 19, 3) := by decide +kernel
theorem dX1_layOut_39 : decode cX1_layOut 39 = .ok (.iload_n 3, 1) := by decide +kernel
theorem dX1_layOut_40 : decode cX1_layOut 40 = .ok (.aload_n 0, 1) := by decide +kernel
theorem dX1_layOut_41 : decode cX1_layOut 41 = .ok (.iload 4, 2) := by decide +kernel
theorem dX1_layOut_43 : decode cX1_layOut 43 = .ok (.iconst 1, 1) := by decide +kernel
theorem dX1_layOut_44 : decode cX1_layOut 44 = .ok (.invokevirtual 19, 3) := by decide +kernel
theorem dX1_layOut_47 : decode cX1_layOut 47 = .ok (.iadd, 1) := by decide +kernel
theorem dX1_layOut_48 : decode cX1_layOut 48 = .ok (.istore_n 3, 1) := by decide +kernel
theorem dX1_layOut_49 : decode cX1_layOut 49 = .ok (.iinc 4 1, 3) := by decide +kernel
theorem dX1_layOut_52 : decode cX1_layOut 52 = .ok (.goto (-22), 3) := by decide +kernel
theorem dX1_layOut_55 : decode cX1_layOut 55 = .ok (.aload_n 0, 1) := by decide +kernel
theorem dX1_layOut_56 : decode cX1_layOut 56 = .ok (.aload_n 0, 1) := by decide +kernel
theorem dX1_layOut_57 : decode cX1_layOut 57 = .ok (.getfield 56, 3) := by decide +kernel
theorem dX1_layOut_60 : decode cX1_layOut 60 = .ok (.bipush 8, 2) := by decide +kernel
theorem dX1_layOut_62 : decode cX1_layOut 62 = .ok (.iload_n 2, 1) := by decide +kernel
theorem dX1_layOut_63 : decode cX1_layOut 63 = .ok (.imul, 1) := by decide +kernel
theorem dX1_layOut_64 : decode cX1_layOut 64 = .ok (.iadd, 1) := by decide +kernel
theorem dX1_layOut_65 : decode cX1_layOut 65 = .ok (.putfield 59, 3) := by decide +kernel
theorem dX1_layOut_68 : decode cX1_layOut 68 = .ok (.aload_n 0, 1) := by decide +kernel
theorem dX1_layOut_69 : decode cX1_layOut 69 = .ok (.aload_n 0, 1) := by decide +kernel
theorem dX1_layOut_70 : decode cX1_layOut 70 = .ok (.getfield 59, 3) := by decide +kernel
theorem dX1_layOut_73 : decode cX1_layOut 73 = .ok (.bipush 10, 2) := by decide +kernel
theorem dX1_layOut_75 : decode cX1_layOut 75 = .ok (.iload_n 2, 1) := by decide +kernel
theorem dX1_layOut_76 : decode cX1_layOut 76 = .ok (.imul, 1) := by decide +kernel
theorem dX1_layOut_77 : decode cX1_layOut 77 = .ok (.iadd, 1) := by decide +kernel
theorem dX1_layOut_78 : decode cX1_layOut 78 = .ok (.putfield 62, 3) := by decide +kernel
theorem dX1_layOut_81 : decode cX1_layOut 81 = .ok (.aload_n 0, 1) := by decide +kernel
theorem dX1_layOut_82 : decode cX1_layOut 82 = .ok (.aload_n 0, 1) := by decide +kernel
theorem dX1_layOut_83 : decode cX1_layOut 83 = .ok (.getfield 62, 3) := by decide +kernel
theorem dX1_layOut_86 : decode cX1_layOut 86 = .ok (.bipush 15, 2) := by decide +kernel
theorem dX1_layOut_88 : decode cX1_layOut 88 = .ok (.iload_n 3, 1) := by decide +kernel
theorem dX1_layOut_89 : decode cX1_layOut 89 = .ok (.imul, 1) := by decide +kernel
theorem dX1_layOut_90 : decode cX1_layOut 90 = .ok (.iadd, 1) := by decide +kernel
theorem dX1_layOut_91 : decode cX1_layOut 91 = .ok (.putfield 65, 3) := by decide +kernel
theorem dX1_layOut_94 : decode cX1_layOut 94 = .ok (.iload_n 3, 1) := by decide +kernel
theorem dX1_layOut_95 : decode cX1_layOut 95 = .ok (.bipush 16, 2) := by decide +kernel
theorem dX1_layOut_97 : decode cX1_layOut 97 = .ok (.if_icmp .gt 20, 3) := by decide +kernel
theorem dX1_layOut_100 : decode cX1_layOut 100 = .ok (.aload_n 0, 1) := by decide +kernel
theorem dX1_layOut_101 : decode cX1_layOut 101 = .ok (.getfield 65, 3) := by decide +kernel
theorem dX1_layOut_104 : decode cX1_layOut 104 = .ok (.bipush 6, 2) := by decide +kernel
theorem dX1_layOut_106 : decode cX1_layOut 106 = .ok (.iload_n 3, 1) := by decide +kernel
theorem dX1_layOut_107 : decode cX1_layOut 107 = .ok (.imul, 1) := by decide +kernel
theorem dX1_layOut_108 : decode cX1_layOut 108 = .ok (.iadd, 1) := by decide +kernel
theorem dX1_layOut_109 : decode cX1_layOut 109 = .ok (.iload_n 1, 1) := by decide +kernel
theorem dX1_layOut_110 : decode cX1_layOut 110 = .ok (.if_icmp .gt 7, 3) := by decide +kernel
theorem dX1_layOut_113 : decode cX1_layOut 113 = .ok (.iconst 1, 1) := by decide +kernel
theorem dX1_layOut_114 : decode cX1_layOut 114 = .ok (.goto 4, 3) := by decide +kernel
theorem dX1_layOut_117 : decode cX1_layOut 117 = .ok (.iconst 0, 1) := by decide +kernel
theorem dX1_layOut_118 : decode cX1_layOut 118 = .ok (.ireturn, 1) := by decide +kernel
set_option maxRecDepth 20000 in
theorem ggX1_giveTo_X1_isOn : GoodIn wsX1_giveTo wsX1_isOn := goodIn_r _ [8] (by decide +kernel) (by decide +kernel)
set_option maxRecDepth 20000 in
theorem gX1_giveTo_X1_isOn : GoodIn wsX1_giveTo (va_wsS RX1 73 yX1_isOn wsX1_isOn) := goodIn_app (goodIn_of _ (by decide +kernel)) ggX1_giveTo_X1_isOn
set_option maxRecDepth 20000 in
theorem ggX1_giveTo_X1_number : GoodIn wsX1_giveTo wsX1_number := goodIn_r _ [12, 13, 14, 15, 7, 16, 17, 54, 55, 56, 57, 58, 59, 60, 61, 62, 63, 64] (by decide +kernel) (by decide +kernel)
set_option maxRecDepth 20000 in
theorem gX1_giveTo_X1_number : GoodIn wsX1_giveTo (wsV RX1 19 RX1 yX1_number wsX1_number) := goodIn_app (goodIn_of _ (by decide +kernel)) ggX1_giveTo_X1_number
set_option maxRecDepth 20000 in
theorem ggX1_giveTo_X1_rangeOf : GoodIn wsX1_giveTo wsX1_rangeOf := goodIn_r _ [21, 22, 23, 24, 25, 26, 27, 28, 9, 10, 11, 7, 12, 13, 14, 15, 16, 17, 29, 30, 31, 54, 55, 56, 57, 58, 59, 60, 61, 62, 63, 64] (by decide +kernel) (by decide +kernel)
set_option maxRecDepth 20000 in
theorem gX1_giveTo_X1_rangeOf : GoodIn wsX1_giveTo (wsV RX1 77 RX1 yX1_rangeOf wsX1_rangeOf) := goodIn_app (goodIn_of _ (by decide +kernel)) ggX1_giveTo_X1_rangeOf
set_option maxRecDepth 20000 in
theorem ggX1_giveTo_X1_strengthOf : GoodIn wsX1_giveTo wsX1_strengthOf := goodIn_r _ [35, 36, 9, 10, 11, 7, 12, 13, 14, 15, 16, 17, 54, 55, 56, 57, 58, 59, 60, 61, 62, 63, 64] (by decide +kernel) (by decide +kernel)
set_option maxRecDepth 20000 in
theorem gX1_giveTo_X1_strengthOf : GoodIn wsX1_giveTo (wsV RX1 81 RX1 yX1_strengthOf wsX1_strengthOf) := goodIn_app (goodIn_of _ (by decide +kernel)) ggX1_giveTo_X1_strengthOf
set_option maxRecDepth 20000 in
theorem ggX1_giveTo_X0_add : GoodIn wsX1_giveTo wsX0_add := goodIn_r _ [41, 42, 43, 44, 45, 46, 47, 48, 49, 50, 51, 52, 53] (by decide +kernel) (by decide +kernel)
set_option maxRecDepth 20000 in
theorem gX1_giveTo_X0_add : GoodIn wsX1_giveTo (wsV RX1 84 RX0 yX0_add wsX0_add) := goodIn_app (goodIn_of _ (by decide +kernel)) ggX1_giveTo_X0_add
theorem dX1_giveTo_0 : decode cX1_giveTo 0 = .ok (.aload_n 1, 1) := by decide +kernel
theorem dX1_giveTo_1 : decode cX1_giveTo 1 = .ok (.dup, 1) := by decide +kernel
theorem dX1_giveTo_2 : decode cX1_giveTo 2 = .ok (.getfield 68, 3) := by decide +kernel
theorem dX1_giveTo_5 : decode cX1_giveTo 5 = .ok (.iconst 1, 1) := by decide +kernel
theorem dX1_giveTo_6 : decode cX1_giveTo 6 = .ok (.iadd, 1) := by decide +kernel
theorem dX1_giveTo_7 : decode cX1_giveTo 7 = .ok (.putfield 68, 3) := by decide +kernel
theorem dX1_giveTo_10 : decode cX1_giveTo 10 = .ok (.iconst 0, 1) := by decide +kernel
theorem dX1_giveTo_11 : decode cX1_giveTo 11 = .ok (.istore_n 2, 1) := by decide +kernel
theorem dX1_giveTo_12 : decode cX1_giveTo 12 = .ok (.bipush 75, 2) := by decide +kernel
theorem dX1_giveTo_14 : decode cX1_giveTo 14 = .ok (.istore_n 3, 1) := by decide +kernel
theorem dX1_giveTo_15 : decode cX1_giveTo 15 = .ok (.iconst 0, 1) := by decide +kernel
theorem dX1_giveTo_16 : decode cX1_giveTo 16 = .ok (.istore 4, 2) := by decide +kernel
theorem dX1_giveTo_18 : decode cX1_giveTo 18 = .ok (.iconst 1, 1) := by decide +kernel
theorem dX1_giveTo_19 : decode cX1_giveTo 19 = .ok (.istore 5, 2) := by decide +kernel
theorem dX1_giveTo_21 : decode cX1_giveTo 21 = .ok (.iload 5, 2) := by decide +kernel
theorem dX1_giveTo_23 : decode cX1_giveTo 23 = .ok (.bipush 16, 2) := by decide +kernel
theorem dX1_giveTo_25 : decode cX1_giveTo 25 = .ok (.if_icmp .gt 116, 3) := by decide +kernel
theorem dX1_giveTo_28 : decode cX1_giveTo 28 = .ok (.aload_n 0, 1) := by decide +kernel
theorem dX1_giveTo_29 : decode cX1_giveTo 29 = .ok (.getfield 37, 3) := by decide +kernel
theorem dX1_giveTo_32 : decode cX1_giveTo 32 = .ok (.bipush 16, 2) := by decide +kernel
theorem dX1_giveTo_34 : decode cX1_giveTo 34 = .ok (.iload 5, 2) := by decide +kernel
theorem dX1_giveTo_36 : decode cX1_giveTo 36 = .ok (.isub, 1) := by decide +kernel
theorem dX1_giveTo_37 : decode cX1_giveTo 37 = .ok (.invokestatic 73, 3) := by decide +kernel
theorem dX1_giveTo_40 : decode cX1_giveTo 40 = .ok (.ifCond .ne 6, 3) := by decide +kernel
theorem dX1_giveTo_43 : decode cX1_giveTo 43 = .ok (.goto 92, 3) := by decide +kernel
theorem dX1_giveTo_46 : decode cX1_giveTo 46 = .ok (.iconst 1, 1) := by decide +kernel
theorem dX1_giveTo_47 : decode cX1_giveTo 47 = .ok (.istore 6, 2) := by decide +kernel
theorem dX1_giveTo_49 : decode cX1_giveTo 49 = .ok (.iload 6, 2) := by decide +kernel
theorem dX1_giveTo_51 : decode cX1_giveTo 51 = .ok (.iconst 4, 1) := by decide +kernel
theorem dX1_giveTo_52 : decode cX1_giveTo 52 = .ok (.if_icmp .gt 80, 3) := by decide +kernel
theorem dX1_giveTo_55 : decode cX1_giveTo 55 = .ok (.aload_n 0, 1) := by decide +kernel
theorem dX1_giveTo_56 : decode cX1_giveTo 56 = .ok (.getfield 40, 3) := by decide +kernel
theorem dX1_giveTo_59 : decode cX1_giveTo 59 = .ok (.iconst 4, 1) := by decide +kernel
theorem dX1_giveTo_60 : decode cX1_giveTo 60 = .ok (.iload 6, 2) := by decide +kernel
theorem dX1_giveTo_62 : decode cX1_giveTo 62 = .ok (.isub, 1) := by decide +kernel
theorem dX1_giveTo_63 : decode cX1_giveTo 63 = .ok (.invokestatic 73, 3) := by decide +kernel
theorem dX1_giveTo_66 : decode cX1_giveTo 66 = .ok (.ifCond .ne 6, 3) := by decide +kernel
theorem dX1_giveTo_69 : decode cX1_giveTo 69 = .ok (.goto 57, 3) := by decide +kernel
theorem dX1_giveTo_72 : decode cX1_giveTo 72 = .ok (.aload_n 0, 1) := by decide +kernel
theorem dX1_giveTo_73 : decode cX1_giveTo 73 = .ok (.iload_n 3, 1) := by decide +kernel
theorem dX1_giveTo_74 : decode cX1_giveTo 74 = .ok (.iconst 1, 1) := by decide +kernel
theorem dX1_giveTo_75 : decode cX1_giveTo 75 = .ok (.invokevirtual 19, 3) := by decide +kernel
theorem dX1_giveTo_78 : decode cX1_giveTo 78 = .ok (.iconst 1, 1) := by decide +kernel
theorem dX1_giveTo_79 : decode cX1_giveTo 79 = .ok (.if_icmp .ne 44, 3) := by decide +kernel
theorem dX1_giveTo_82 : decode cX1_giveTo 82 = .ok (.sipush 1000, 3) := by decide +kernel
theorem dX1_giveTo_85 : decode cX1_giveTo 85 = .ok (.aload_n 0, 1) := by decide +kernel
theorem dX1_giveTo_86 : decode cX1_giveTo 86 = .ok (.getfield 23, 3) := by decide +kernel
theorem dX1_giveTo_89 : decode cX1_giveTo 89 = .ok (.imul, 1) := by decide +kernel
theorem dX1_giveTo_90 : decode cX1_giveTo 90 = .ok (.bipush 10, 2) := by decide +kernel
theorem dX1_giveTo_92 : decode cX1_giveTo 92 = .ok (.iload 5, 2) := by decide +kernel
theorem dX1_giveTo_94 : decode cX1_giveTo 94 = .ok (.imul, 1) := by decide +kernel
theorem dX1_giveTo_95 : decode cX1_giveTo 95 = .ok (.iadd, 1) := by decide +kernel
theorem dX1_giveTo_96 : decode cX1_giveTo 96 = .ok (.iload 6, 2) := by decide +kernel
theorem dX1_giveTo_98 : decode cX1_giveTo 98 = .ok (.iadd, 1) := by decide +kernel
theorem dX1_giveTo_99 : decode cX1_giveTo 99 = .ok (.istore 7, 2) := by decide +kernel
theorem dX1_giveTo_101 : decode cX1_giveTo 101 = .ok (.aload_n 1, 1) := by decide +kernel
theorem dX1_giveTo_102 : decode cX1_giveTo 102 = .ok (.iload 7, 2) := by decide +kernel
theorem dX1_giveTo_104 : decode cX1_giveTo 104 = .ok (.aload_n 0, 1) := by decide +kernel
theorem dX1_giveTo_105 : decode cX1_giveTo 105 = .ok (.iload_n 2, 1) := by decide +kernel
theorem dX1_giveTo_106 : decode cX1_giveTo 106 = .ok (.iload 4, 2) := by decide +kernel
theorem dX1_giveTo_108 : decode cX1_giveTo 108 = .ok (.invokevirtual 77, 3) := by decide +kernel
theorem dX1_giveTo_111 : decode cX1_giveTo 111 = .ok (.aload_n 0, 1) := by decide +kernel
theorem dX1_giveTo_112 : decode cX1_giveTo 112 = .ok (.iload 4, 2) := by decide +kernel
theorem dX1_giveTo_114 : decode cX1_giveTo 114 = .ok (.invokevirtual 81, 3) := by decide +kernel
theorem dX1_giveTo_117 : decode cX1_giveTo 117 = .ok (.invokevirtual 84, 3) := by decide +kernel
theorem dX1_giveTo_120 : decode cX1_giveTo 120 = .ok (.iinc 4 1, 3) := by decide +kernel
theorem dX1_giveTo_123 : decode cX1_giveTo 123 = .ok (.iinc 3 1, 3) := by decide +kernel
theorem dX1_giveTo_126 : decode cX1_giveTo 126 = .ok (.iinc 6 1, 3) := by decide +kernel
theorem dX1_giveTo_129 : decode cX1_giveTo 129 = .ok (.goto (-80), 3) := by decide +kernel
theorem dX1_giveTo_132 : decode cX1_giveTo 132 = .ok (.iinc 2 1, 3) := by decide +kernel
theorem dX1_giveTo_135 : decode cX1_giveTo 135 = .ok (.iinc 5 1, 3) := by decide +kernel
theorem dX1_giveTo_138 : decode cX1_giveTo 138 = .ok (.goto (-117), 3) := by decide +kernel
theorem dX1_giveTo_141 : decode cX1_giveTo 141 = .ok (.return_, 1) := by decide +kernel
theorem dX1_isOn_0 : decode cX1_isOn 0 = .ok (.iload_n 0, 1) := by decide +kernel
theorem dX1_isOn_1 : decode cX1_isOn 1 = .ok (.iload_n 1, 1) := by decide +kernel
theorem dX1_isOn_2 : decode cX1_isOn 2 = .ok (.ishr, 1) := by decide +kernel
theorem dX1_isOn_3 : decode cX1_isOn 3 = .ok (.iconst 1, 1) := by decide +kernel
theorem dX1_isOn_4 : decode cX1_isOn 4 = .ok (.iand, 1) := by decide +kernel
theorem dX1_isOn_5 : decode cX1_isOn 5 = .ok (.iconst 1, 1) := by decide +kernel
theorem dX1_isOn_6 : decode cX1_isOn 6 = .ok (.if_icmp .ne 7, 3) := by decide +kernel
theorem dX1_isOn_9 : decode cX1_isOn 9 = .ok (.iconst 1, 1) := by decide +kernel
theorem dX1_isOn_10 : decode cX1_isOn 10 = .ok (.goto 4, 3) := by decide +kernel
theorem dX1_isOn_13 : decode cX1_isOn 13 = .ok (.iconst 0, 1) := by decide +kernel
theorem dX1_isOn_14 : decode cX1_isOn 14 = .ok (.ireturn, 1) := by decide +kernel
set_option maxRecDepth 20000 in
theorem ggX1_rangeOf_X1_number : GoodIn wsX1_rangeOf wsX1_number := goodIn_r _ [12, 13, 14, 15, 11, 16, 17, 21, 22, 23, 24, 25, 26, 27, 28, 29, 30, 31] (by decide +kernel) (by decide +kernel)
set_option maxRecDepth 20000 in
theorem gX1_rangeOf_X1_number : GoodIn wsX1_rangeOf (wsV RX1 19 RX1 yX1_number wsX1_number) := goodIn_app (goodIn_of _ (by decide +kernel)) ggX1_rangeOf_X1_number
set_option maxRecDepth 20000 in
theorem ggX1_rangeOf_X1_signed : GoodIn wsX1_rangeOf wsX1_signed := goodIn_r _ [20] (by decide +kernel) (by decide +kernel)
set_option maxRecDepth 20000 in
theorem gX1_rangeOf_X1_signed : GoodIn wsX1_rangeOf (va_wsS RX1 88 yX1_signed wsX1_signed) := goodIn_app (goodIn_of _ (by decide +kernel)) ggX1_rangeOf_X1_signed
theorem dX1_rangeOf_0 : decode cX1_rangeOf 0 = .ok (.aload_n 0, 1) := by decide +kernel
theorem dX1_rangeOf_1 : decode cX1_rangeOf 1 = .ok (.aload_n 0, 1) := by decide +kernel
theorem dX1_rangeOf_2 : decode cX1_rangeOf 2 = .ok (.getfield 56, 3) := by decide +kernel
theorem dX1_rangeOf_5 : decode cX1_rangeOf 5 = .ok (.bipush 8, 2) := by decide +kernel
theorem dX1_rangeOf_7 : decode cX1_rangeOf 7 = .ok (.iload_n 1, 1) := by decide +kernel
theorem dX1_rangeOf_8 : decode cX1_rangeOf 8 = .ok (.imul, 1) := by decide +kernel
theorem dX1_rangeOf_9 : decode cX1_rangeOf 9 = .ok (.iadd, 1) := by decide +kernel
theorem dX1_rangeOf_10 : decode cX1_rangeOf 10 = .ok (.bipush 8, 2) := by decide +kernel
theorem dX1_rangeOf_12 : decode cX1_rangeOf 12 = .ok (.invokevirtual 19, 3) := by decide +kernel
theorem dX1_rangeOf_15 : decode cX1_rangeOf 15 = .ok (.istore_n 3, 1) := by decide +kernel
theorem dX1_rangeOf_16 : decode cX1_rangeOf 16 = .ok (.aload_n 0, 1) := by decide +kernel
theorem dX1_rangeOf_17 : decode cX1_rangeOf 17 = .ok (.aload_n 0, 1) := by decide +kernel
theorem dX1_rangeOf_18 : decode cX1_rangeOf 18 = .ok (.getfield 59, 3) := by decide +kernel
theorem dX1_rangeOf_21 : decode cX1_rangeOf 21 = .ok (.bipush 10, 2) := by decide +kernel
theorem dX1_rangeOf_23 : decode cX1_rangeOf 23 = .ok (.iload_n 1, 1) := by decide +kernel
theorem dX1_rangeOf_24 : decode cX1_rangeOf 24 = .ok (.imul, 1) := by decide +kernel
theorem dX1_rangeOf_25 : decode cX1_rangeOf 25 = .ok (.iadd, 1) := by decide +kernel
theorem dX1_rangeOf_26 : decode cX1_rangeOf 26 = .ok (.bipush 10, 2) := by decide +kernel
theorem dX1_rangeOf_28 : decode cX1_rangeOf 28 = .ok (.invokevirtual 19, 3) := by decide +kernel
theorem dX1_rangeOf_31 : decode cX1_rangeOf 31 = .ok (.istore 4, 2) := by decide +kernel
theorem dX1_rangeOf_33 : decode cX1_rangeOf 33 = .ok (.aload_n 0, 1) := by decide +kernel
theorem dX1_rangeOf_34 : decode cX1_rangeOf 34 = .ok (.aload_n 0, 1) := by decide +kernel
theorem dX1_rangeOf_35 : decode cX1_rangeOf 35 = .ok (.getfield 62, 3) := by decide +kernel
theorem dX1_rangeOf_38 : decode cX1_rangeOf 38 = .ok (.bipush 15, 2) := by decide +kernel
theorem dX1_rangeOf_40 : decode cX1_rangeOf 40 = .ok (.iload_n 2, 1) := by decide +kernel
theorem dX1_rangeOf_41 : decode cX1_rangeOf 41 = .ok (.imul, 1) := by decide +kernel
theorem dX1_rangeOf_42 : decode cX1_rangeOf 42 = .ok (.iadd, 1) := by decide +kernel
theorem dX1_rangeOf_43 : decode cX1_rangeOf 43 = .ok (.bipush 15, 2) := by decide +kernel
theorem dX1_rangeOf_45 : decode cX1_rangeOf 45 = .ok (.invokevirtual 19, 3) := by decide +kernel
theorem dX1_rangeOf_48 : decode cX1_rangeOf 48 = .ok (.bipush 15, 2) := by decide +kernel
theorem dX1_rangeOf_50 : decode cX1_rangeOf 50 = .ok (.invokestatic 88, 3) := by decide +kernel
theorem dX1_rangeOf_53 : decode cX1_rangeOf 53 = .ok (.istore 5, 2) := by decide +kernel
theorem dX1_rangeOf_55 : decode cX1_rangeOf 55 = .ok (.iload_n 3, 1) := by decide +kernel
theorem dX1_rangeOf_56 : decode cX1_rangeOf 56 = .ok (.sipush 255, 3) := by decide +kernel
theorem dX1_rangeOf_59 : decode cX1_rangeOf 59 = .ok (.if_icmp .eq 11, 3) := by decide +kernel
theorem dX1_rangeOf_62 : decode cX1_rangeOf 62 = .ok (.iload 5, 2) := by decide +kernel
theorem dX1_rangeOf_64 : decode cX1_rangeOf 64 = .ok (.sipush (-16384), 3) := by decide +kernel
theorem dX1_rangeOf_67 : decode cX1_rangeOf 67 = .ok (.if_icmp .ne 7, 3) := by decide +kernel
theorem dX1_rangeOf_70 : decode cX1_rangeOf 70 = .ok (.ldc2_w 91, 3) := by decide +kernel
theorem dX1_rangeOf_73 : decode cX1_rangeOf 73 = .ok (.dreturn, 1) := by decide +kernel
theorem dX1_rangeOf_74 : decode cX1_rangeOf 74 = .ok (.iload_n 3, 1) := by decide +kernel
theorem dX1_rangeOf_75 : decode cX1_rangeOf 75 = .ok (.i2d, 1) := by decide +kernel
theorem dX1_rangeOf_76 : decode cX1_rangeOf 76 = .ok (.iload 4, 2) := by decide +kernel
theorem dX1_rangeOf_78 : decode cX1_rangeOf 78 = .ok (.i2d, 1) := by decide +kernel
theorem dX1_rangeOf_79 : decode cX1_rangeOf 79 = .ok (.ldc2_w 93, 3) := by decide +kernel
theorem dX1_rangeOf_82 : decode cX1_rangeOf 82 = .ok (.ddiv, 1) := by decide +kernel
theorem dX1_rangeOf_83 : decode cX1_rangeOf 83 = .ok (.dadd, 1) := by decide +kernel
theorem dX1_rangeOf_84 : decode cX1_rangeOf 84 = .ok (.iload 5, 2) := by decide +kernel
theorem dX1_rangeOf_86 : decode cX1_rangeOf 86 = .ok (.i2d, 1) := by decide +kernel
theorem dX1_rangeOf_87 : decode cX1_rangeOf 87 = .ok (.ldc2_w 95, 3) := by decide +kernel
theorem dX1_rangeOf_90 : decode cX1_rangeOf 90 = .ok (.ddiv, 1) := by decide +kernel
theorem dX1_rangeOf_91 : decode cX1_rangeOf 91 = .ok (.dadd, 1) := by decide +kernel
theorem dX1_rangeOf_92 : decode cX1_rangeOf 92 = .ok (.dstore 6, 2) := by decide +kernel
theorem dX1_rangeOf_94 : decode cX1_rangeOf 94 = .ok (.dload 6, 2) := by decide +kernel
theorem dX1_rangeOf_96 : decode cX1_rangeOf 96 = .ok (.ldc2_w 97, 3) := by decide +kernel
theorem dX1_rangeOf_99 : decode cX1_rangeOf 99 = .ok (.dmul, 1) := by decide +kernel
theorem dX1_rangeOf_100 : decode cX1_rangeOf 100 = .ok (.dreturn, 1) := by decide +kernel
set_option maxRecDepth 20000 in
theorem ggX1_strengthOf_X1_number : GoodIn wsX1_strengthOf wsX1_number := goodIn_r _ [6, 7, 8, 9, 5, 10, 11, 12, 13, 14, 15, 16, 17, 18, 19, 20, 21, 22] (by decide +kernel) (by decide +kernel)
set_option maxRecDepth 20000 in
theorem gX1_strengthOf_X1_number : GoodIn wsX1_strengthOf (wsV RX1 19 RX1 yX1_number wsX1_number) := goodIn_app (goodIn_of _ (by decide +kernel)) ggX1_strengthOf_X1_number
theorem dX1_strengthOf_0 : decode cX1_strengthOf 0 = .ok (.aload_n 0, 1) := by decide +kernel
theorem dX1_strengthOf_1 : decode cX1_strengthOf 1 = .ok (.aload_n 0, 1) := by decide +kernel
theorem dX1_strengthOf_2 : decode cX1_strengthOf 2 = .ok (.getfield 65, 3) := by decide +kernel
theorem dX1_strengthOf_5 : decode cX1_strengthOf 5 = .ok (.bipush 6, 2) := by decide +kernel
theorem dX1_strengthOf_7 : decode cX1_strengthOf 7 = .ok (.iload_n 1, 1) := by decide +kernel
theorem dX1_strengthOf_8 : decode cX1_strengthOf 8 = .ok (.imul, 1) := by decide +kernel
theorem dX1_strengthOf_9 : decode cX1_strengthOf 9 = .ok (.iadd, 1) := by decide +kernel
theorem dX1_strengthOf_10 : decode cX1_strengthOf 10 = .ok (.bipush 6, 2) := by decide +kernel
theorem dX1_strengthOf_12 : decode cX1_strengthOf 12 = .ok (.invokevirtual 19, 3) := by decide +kernel
theorem dX1_strengthOf_15 : decode cX1_strengthOf 15 = .ok (.ireturn, 1) := by decide +kernel
set_option maxRecDepth 20000 in
theorem ggX1_number_X1_bitAt : GoodIn wsX1_number wsX1_bitAt := goodIn_r _ [5, 6, 7, 8, 9, 10, 11, 12, 13, 14, 15, 16, 17] (by decide +kernel) (by decide +kernel)
set_option maxRecDepth 20000 in
theorem gX1_number_X1_bitAt : GoodIn wsX1_number (wsV RX1 99 RX1 yX1_bitAt wsX1_bitAt) := goodIn_app (goodIn_of _ (by decide +kernel)) ggX1_number_X1_bitAt
theorem dX1_number_0 : decode cX1_number 0 = .ok (.iconst 0, 1) := by decide +kernel
theorem dX1_number_1 : decode cX1_number 1 = .ok (.istore_n 3, 1) := by decide +kernel
theorem dX1_number_2 : decode cX1_number 2 = .ok (.iload_n 1, 1) := by decide +kernel
theorem dX1_number_3 : decode cX1_number 3 = .ok (.istore 4, 2) := by decide +kernel
theorem dX1_number_5 : decode cX1_number 5 = .ok (.iload 4, 2) := by decide +kernel
theorem dX1_number_7 : decode cX1_number 7 = .ok (.iload_n 1, 1) := by decide +kernel
theorem dX1_number_8 : decode cX1_number 8 = .ok (.iload_n 2, 1) := by decide +kernel
theorem dX1_number_9 : decode cX1_number 9 = .ok (.iadd, 1) := by decide +kernel
theorem dX1_number_10 : decode cX1_number 10 = .ok (.if_icmp .ge 20, 3) := by decide +kernel
theorem dX1_number_13 : decode cX1_number 13 = .ok (.iload_n 3, 1) := by decide +kernel
theorem dX1_number_14 : decode cX1_number 14 = .ok (.iconst 1, 1) := by decide +kernel
theorem dX1_number_15 : decode cX1_number 15 = .ok (.ishl, 1) := by decide +kernel
theorem dX1_number_16 : decode cX1_number 16 = .ok (.aload_n 0, 1) := by decide +kernel
theorem dX1_number_17 : decode cX1_number 17 = .ok (.iload 4, 2) := by decide +kernel
theorem dX1_number_19 : decode cX1_number 19 = .ok (.invokevirtual 99, 3) := by decide +kernel
theorem dX1_number_22 : decode cX1_number 22 = .ok (.ior, 1) := by decide +kernel
theorem dX1_number_23 : decode cX1_number 23 = .ok (.istore_n 3, 1) := by decide +kernel
theorem dX1_number_24 : decode cX1_number 24 = .ok (.iinc 4 1, 3) := by decide +kernel
theorem dX1_number_27 : decode cX1_number 27 = .ok (.goto (-22), 3) := by decide +kernel
theorem dX1_number_30 : decode cX1_number 30 = .ok (.iload_n 3, 1) := by decide +kernel
theorem dX1_number_31 : decode cX1_number 31 = .ok (.ireturn, 1) := by decide +kernel
theorem dX1_bitAt_0 : decode cX1_bitAt 0 = .ok (.iload_n 1, 1) := by decide +kernel
theorem dX1_bitAt_1 : decode cX1_bitAt 1 = .ok (.iconst 3, 1) := by decide +kernel
theorem dX1_bitAt_2 : decode cX1_bitAt 2 = .ok (.ishr, 1) := by decide +kernel
theorem dX1_bitAt_3 : decode cX1_bitAt 3 = .ok (.istore_n 2, 1) := by decide +kernel
theorem dX1_bitAt_4 : decode cX1_bitAt 4 = .ok (.iload_n 2, 1) := by decide +kernel
theorem dX1_bitAt_5 : decode cX1_bitAt 5 = .ok (.ifCond .lt 21, 3) := by decide +kernel
theorem dX1_bitAt_8 : decode cX1_bitAt 8 = .ok (.iload_n 2, 1) := by decide +kernel
theorem dX1_bitAt_9 : decode cX1_bitAt 9 = .ok (.aload_n 0, 1) := by decide +kernel
theorem dX1_bitAt_10 : decode cX1_bitAt 10 = .ok (.getfield 9, 3) := by decide +kernel
theorem dX1_bitAt_13 : decode cX1_bitAt 13 = .ok (.arraylength, 1) := by decide +kernel
theorem dX1_bitAt_14 : decode cX1_bitAt 14 = .ok (.if_icmp .ge 12, 3) := by decide +kernel
theorem dX1_bitAt_17 : decode cX1_bitAt 17 = .ok (.aload_n 0, 1) := by decide +kernel
theorem dX1_bitAt_18 : decode cX1_bitAt 18 = .ok (.getfield 9, 3) := by decide +kernel
theorem dX1_bitAt_21 : decode cX1_bitAt 21 = .ok (.iload_n 2, 1) := by decide +kernel
theorem dX1_bitAt_22 : decode cX1_bitAt 22 = .ok (.iaload, 1) := by decide +kernel
theorem dX1_bitAt_23 : decode cX1_bitAt 23 = .ok (.goto 4, 3) := by decide +kernel
theorem dX1_bitAt_26 : decode cX1_bitAt 26 = .ok (.iconst 0, 1) := by decide +kernel
theorem dX1_bitAt_27 : decode cX1_bitAt 27 = .ok (.istore_n 3, 1) := by decide +kernel
theorem dX1_bitAt_28 : decode cX1_bitAt 28 = .ok (.iload_n 3, 1) := by decide +kernel
theorem dX1_bitAt_29 : decode cX1_bitAt 29 = .ok (.bipush 7, 2) := by decide +kernel
theorem dX1_bitAt_31 : decode cX1_bitAt 31 = .ok (.iload_n 1, 1) := by decide +kernel
theorem dX1_bitAt_32 : decode cX1_bitAt 32 = .ok (.bipush 7, 2) := by decide +kernel
theorem dX1_bitAt_34 : decode cX1_bitAt 34 = .ok (.iand, 1) := by decide +kernel
theorem dX1_bitAt_35 : decode cX1_bitAt 35 = .ok (.isub, 1) := by decide +kernel
theorem dX1_bitAt_36 : decode cX1_bitAt 36 = .ok (.ishr, 1) := by decide +kernel
theorem dX1_bitAt_37 : decode cX1_bitAt 37 = .ok (.iconst 1, 1) := by decide +kernel
theorem dX1_bitAt_38 : decode cX1_bitAt 38 = .ok (.iand, 1) := by decide +kernel
theorem dX1_bitAt_39 : decode cX1_bitAt 39 = .ok (.ireturn, 1) := by decide +kernel
theorem dX1_signed_0 : decode cX1_signed 0 = .ok (.bipush 32, 2) := by decide +kernel
theorem dX1_signed_2 : decode cX1_signed 2 = .ok (.iload_n 1, 1) := by decide +kernel
theorem dX1_signed_3 : decode cX1_signed 3 = .ok (.isub, 1) := by decide +kernel
theorem dX1_signed_4 : decode cX1_signed 4 = .ok (.istore_n 2, 1) := by decide +kernel
theorem dX1_signed_5 : decode cX1_signed 5 = .ok (.iload_n 0, 1) := by decide +kernel
theorem dX1_signed_6 : decode cX1_signed 6 = .ok (.iload_n 2, 1) := by decide +kernel
theorem dX1_signed_7 : decode cX1_signed 7 = .ok (.ishl, 1) := by decide +kernel
theorem dX1_signed_8 : decode cX1_signed 8 = .ok (.iload_n 2, 1) := by decide +kernel
theorem dX1_signed_9 : decode cX1_signed 9 = .ok (.ishr, 1) := by decide +kernel
theorem dX1_signed_10 : decode cX1_signed 10 = .ok (.ireturn, 1) := by decide +kernel
theorem dX2_init_0 : decode cX2_init 0 = .ok (.aload_n 0, 1) := by decide +kernel
theorem dX2_init_1 : decode cX2_init 1 = .ok (.invokespecial 1, 3) := by decide +kernel
theorem dX2_init_4 : decode cX2_init 4 = .ok (.return_, 1) := by decide +kernel
set_option maxRecDepth 20000 in
theorem ggX2_read_X3_at : GoodIn wsX2_read wsX3_at := goodIn_r _ [10, 11, 12, 23, 24] (by decide +kernel) (by decide +kernel)
set_option maxRecDepth 20000 in
theorem gX2_read_X3_at : GoodIn wsX2_read (wsV RX2 7 RX3 yX3_at wsX3_at) := goodIn_app (goodIn_of _ (by decide +kernel)) ggX2_read_X3_at
set_option maxRecDepth 20000 in
theorem ggX2_read_X3_signedAt : GoodIn wsX2_read wsX3_signedAt := goodIn_r _ [16, 17, 7, 8, 9, 10, 11, 12, 23, 24] (by decide +kernel) (by decide +kernel)
set_option maxRecDepth 20000 in
theorem gX2_read_X3_signedAt : GoodIn wsX2_read (wsV RX2 19 RX3 yX3_signedAt wsX3_signedAt) := goodIn_app (goodIn_of _ (by decide +kernel)) ggX2_read_X3_signedAt
theorem dX2_read_0 : decode cX2_read 0 = .ok (.aload_n 1, 1) := by decide +kernel
theorem dX2_read_1 : decode cX2_read 1 = .ok (.iload_n 2, 1) := by decide +kernel
theorem dX2_read_2 : decode cX2_read 2 = .ok (.iconst 4, 1) := by decide +kernel
theorem dX2_read_3 : decode cX2_read 3 = .ok (.iadd, 1) := by decide +kernel
theorem dX2_read_4 : decode cX2_read 4 = .ok (.invokevirtual 7, 3) := by decide +kernel
theorem dX2_read_7 : decode cX2_read 7 = .ok (.istore_n 3, 1) := by decide +kernel
theorem dX2_read_8 : decode cX2_read 8 = .ok (.iload_n 3, 1) := by decide +kernel
theorem dX2_read_9 : decode cX2_read 9 = .ok (.iconst 2, 1) := by decide +kernel
theorem dX2_read_10 : decode cX2_read 10 = .ok (.if_icmp .lt 8, 3) := by decide +kernel
theorem dX2_read_13 : decode cX2_read 13 = .ok (.iload_n 3, 1) := by decide +kernel
theorem dX2_read_14 : decode cX2_read 14 = .ok (.iconst 4, 1) := by decide +kernel
theorem dX2_read_15 : decode cX2_read 15 = .ok (.if_icmp .le 5, 3) := by decide +kernel
theorem dX2_read_18 : decode cX2_read 18 = .ok (.iconst 0, 1) := by decide +kernel
theorem dX2_read_19 : decode cX2_read 19 = .ok (.ireturn, 1) := by decide +kernel
theorem dX2_read_20 : decode cX2_read 20 = .ok (.aload_n 0, 1) := by decide +kernel
theorem dX2_read_21 : decode cX2_read 21 = .ok (.iload_n 3, 1) := by decide +kernel
theorem dX2_read_22 : decode cX2_read 22 = .ok (.putfield 15, 3) := by decide +kernel
theorem dX2_read_25 : decode cX2_read 25 = .ok (.aload_n 0, 1) := by decide +kernel
theorem dX2_read_26 : decode cX2_read 26 = .ok (.aload_n 1, 1) := by decide +kernel
theorem dX2_read_27 : decode cX2_read 27 = .ok (.iload_n 2, 1) := by decide +kernel
theorem dX2_read_28 : decode cX2_read 28 = .ok (.invokevirtual 19, 3) := by decide +kernel
theorem dX2_read_31 : decode cX2_read 31 = .ok (.putfield 22, 3) := by decide +kernel
theorem dX2_read_34 : decode cX2_read 34 = .ok (.aload_n 0, 1) := by decide +kernel
theorem dX2_read_35 : decode cX2_read 35 = .ok (.aload_n 1, 1) := by decide +kernel
theorem dX2_read_36 : decode cX2_read 36 = .ok (.iload_n 2, 1) := by decide +kernel
theorem dX2_read_37 : decode cX2_read 37 = .ok (.iconst 5, 1) := by decide +kernel
theorem dX2_read_38 : decode cX2_read 38 = .ok (.iadd, 1) := by decide +kernel
theorem dX2_read_39 : decode cX2_read 39 = .ok (.invokevirtual 19, 3) := by decide +kernel
theorem dX2_read_42 : decode cX2_read 42 = .ok (.putfield 25, 3) := by decide +kernel
theorem dX2_read_45 : decode cX2_read 45 = .ok (.aload_n 0, 1) := by decide +kernel
theorem dX2_read_46 : decode cX2_read 46 = .ok (.aload_n 1, 1) := by decide +kernel
theorem dX2_read_47 : decode cX2_read 47 = .ok (.iload_n 2, 1) := by decide +kernel
theorem dX2_read_48 : decode cX2_read 48 = .ok (.bipush 9, 2) := by decide +kernel
theorem dX2_read_50 : decode cX2_read 50 = .ok (.iadd, 1) := by decide +kernel
theorem dX2_read_51 : decode cX2_read 51 = .ok (.invokevirtual 19, 3) := by decide +kernel
theorem dX2_read_54 : decode cX2_read 54 = .ok (.putfield 28, 3) := by decide +kernel
theorem dX2_read_57 : decode cX2_read 57 = .ok (.aload_n 0, 1) := by decide +kernel
theorem dX2_read_58 : decode cX2_read 58 = .ok (.aload_n 1, 1) := by decide +kernel
theorem dX2_read_59 : decode cX2_read 59 = .ok (.iload_n 2, 1) := by decide +kernel
theorem dX2_read_60 : decode cX2_read 60 = .ok (.bipush 13, 2) := by decide +kernel
theorem dX2_read_62 : decode cX2_read 62 = .ok (.iadd, 1) := by decide +kernel
theorem dX2_read_63 : decode cX2_read 63 = .ok (.invokevirtual 19, 3) := by decide +kernel
theorem dX2_read_66 : decode cX2_read 66 = .ok (.putfield 31, 3) := by decide +kernel
theorem dX2_read_69 : decode cX2_read 69 = .ok (.iconst 1, 1) := by decide +kernel
theorem dX2_read_70 : decode cX2_read 70 = .ok (.ireturn, 1) := by decide +kernel
theorem dX3_init_0 : decode cX3_init 0 = .ok (.aload_n 0, 1) := by decide +kernel
theorem dX3_init_1 : decode cX3_init 1 = .ok (.invokespecial 1, 3) := by decide +kernel
theorem dX3_init_4 : decode cX3_init 4 = .ok (.aload_n 0, 1) := by decide +kernel
theorem dX3_init_5 : decode cX3_init 5 = .ok (.sipush 140, 3) := by decide +kernel
theorem dX3_init_8 : decode cX3_init 8 = .ok (.newarray .int, 2) := by decide +kernel
theorem dX3_init_10 : decode cX3_init 10 = .ok (.putfield 9, 3) := by decide +kernel
theorem dX3_init_13 : decode cX3_init 13 = .ok (.aload_n 0, 1) := by decide +kernel
theorem dX3_init_14 : decode cX3_init 14 = .ok (.iconst 0, 1) := by decide +kernel
theorem dX3_init_15 : decode cX3_init 15 = .ok (.putfield 13, 3) := by decide +kernel
theorem dX3_init_18 : decode cX3_init 18 = .ok (.return_, 1) := by decide +kernel
theorem dX3_append_0 : decode cX3_append 0 = .ok (.aload_n 0, 1) := by decide +kernel
theorem dX3_append_1 : decode cX3_append 1 = .ok (.getfield 13, 3) := by decide +kernel
theorem dX3_append_4 : decode cX3_append 4 = .ok (.sipush 140, 3) := by decide +kernel
theorem dX3_append_7 : decode cX3_append 7 = .ok (.if_icmp .ge 23, 3) := by decide +kernel
theorem dX3_append_10 : decode cX3_append 10 = .ok (.aload_n 0, 1) := by decide +kernel
theorem dX3_append_11 : decode cX3_append 11 = .ok (.getfield 9, 3) := by decide +kernel
theorem dX3_append_14 : decode cX3_append 14 = .ok (.aload_n 0, 1) := by decide +kernel
theorem dX3_append_15 : decode cX3_append 15 = .ok (.getfield 13, 3) := by decide +kernel
theorem dX3_append_18 : decode cX3_append 18 = .ok (.iload_n 1, 1) := by decide +kernel
theorem dX3_append_19 : decode cX3_append 19 = .ok (.iastore, 1) := by decide +kernel
theorem dX3_append_20 : decode cX3_append 20 = .ok (.aload_n 0, 1) := by decide +kernel
theorem dX3_append_21 : decode cX3_append 21 = .ok (.dup, 1) := by decide +kernel
theorem dX3_append_22 : decode cX3_append 22 = .ok (.getfield 13, 3) := by decide +kernel
theorem dX3_append_25 : decode cX3_append 25 = .ok (.iconst 1, 1) := by decide +kernel
theorem dX3_append_26 : decode cX3_append 26 = .ok (.iadd, 1) := by decide +kernel
theorem dX3_append_27 : decode cX3_append 27 = .ok (.putfield 13, 3) := by decide +kernel
theorem dX3_append_30 : decode cX3_append 30 = .ok (.return_, 1) := by decide +kernel
theorem dX3_at_0 : decode cX3_at 0 = .ok (.iload_n 1, 1) := by decide +kernel
theorem dX3_at_1 : decode cX3_at 1 = .ok (.ifCond .lt 20, 3) := by decide +kernel
theorem dX3_at_4 : decode cX3_at 4 = .ok (.iload_n 1, 1) := by decide +kernel
theorem dX3_at_5 : decode cX3_at 5 = .ok (.aload_n 0, 1) := by decide +kernel
theorem dX3_at_6 : decode cX3_at 6 = .ok (.getfield 13, 3) := by decide +kernel
theorem dX3_at_9 : decode cX3_at 9 = .ok (.if_icmp .ge 12, 3) := by decide +kernel
theorem dX3_at_12 : decode cX3_at 12 = .ok (.aload_n 0, 1) := by decide +kernel
theorem dX3_at_13 : decode cX3_at 13 = .ok (.getfield 9, 3) := by decide +kernel
theorem dX3_at_16 : decode cX3_at 16 = .ok (.iload_n 1, 1) := by decide +kernel
theorem dX3_at_17 : decode cX3_at 17 = .ok (.iaload, 1) := by decide +kernel
theorem dX3_at_18 : decode cX3_at 18 = .ok (.goto 4, 3) := by decide +kernel
theorem dX3_at_21 : decode cX3_at 21 = .ok (.iconst 0, 1) := by decide +kernel
theorem dX3_at_22 : decode cX3_at 22 = .ok (.ireturn, 1) := by decide +kernel
theorem dX3_drop_0 : decode cX3_drop 0 = .ok (.iload_n 1, 1) := by decide +kernel
theorem dX3_drop_1 : decode cX3_drop 1 = .ok (.ifCond .le 11, 3) := by decide +kernel
theorem dX3_drop_4 : decode cX3_drop 4 = .ok (.iload_n 1, 1) := by decide +kernel
theorem dX3_drop_5 : decode cX3_drop 5 = .ok (.aload_n 0, 1) := by decide +kernel
theorem dX3_drop_6 : decode cX3_drop 6 = .ok (.getfield 13, 3) := by decide +kernel
theorem dX3_drop_9 : decode cX3_drop 9 = .ok (.if_icmp .le 4, 3) := by decide +kernel
theorem dX3_drop_12 : decode cX3_drop 12 = .ok (.return_, 1) := by decide +kernel
theorem dX3_drop_13 : decode cX3_drop 13 = .ok (.aload_n 0, 1) := by decide +kernel
theorem dX3_drop_14 : decode cX3_drop 14 = .ok (.dup, 1) := by decide +kernel
theorem dX3_drop_15 : decode cX3_drop 15 = .ok (.getfield 13, 3) := by decide +kernel
theorem dX3_drop_18 : decode cX3_drop 18 = .ok (.iload_n 1, 1) := by decide +kernel
theorem dX3_drop_19 : decode cX3_drop 19 = .ok (.isub, 1) := by decide +kernel
theorem dX3_drop_20 : decode cX3_drop 20 = .ok (.putfield 13, 3) := by decide +kernel
theorem dX3_drop_23 : decode cX3_drop 23 = .ok (.aload_n 0, 1) := by decide +kernel
theorem dX3_drop_24 : decode cX3_drop 24 = .ok (.getfield 9, 3) := by decide +kernel
theorem dX3_drop_27 : decode cX3_drop 27 = .ok (.iload_n 1, 1) := by decide +kernel
theorem dX3_drop_28 : decode cX3_drop 28 = .ok (.aload_n 0, 1) := by decide +kernel
theorem dX3_drop_29 : decode cX3_drop 29 = .ok (.getfield 9, 3) := by decide +kernel
theorem dX3_drop_32 : decode cX3_drop 32 = .ok (.iconst 0, 1) := by decide +kernel
theorem dX3_drop_33 : decode cX3_drop 33 = .ok (.aload_n 0, 1) := by decide +kernel
theorem dX3_drop_34 : decode cX3_drop 34 = .ok (.getfield 13, 3) := by decide +kernel
theorem dX3_drop_37 : decode cX3_drop 37 = .ok (.invokestatic 17, 3) := by decide +kernel
theorem dX3_drop_40 : decode cX3_drop 40 = .ok (.return_, 1) := by decide +kernel
set_option maxRecDepth 20000 in
theorem ggX3_frameAt_X3_at : GoodIn wsX3_frameAt wsX3_at := goodIn_r _ [6, 1, 7, 29, 30] (by decide +kernel) (by decide +kernel)
set_option maxRecDepth 20000 in
theorem gX3_frameAt_X3_at : GoodIn wsX3_frameAt (wsV RX3 23 RX3 yX3_at wsX3_at) := goodIn_app (goodIn_of _ (by decide +kernel)) ggX3_frameAt_X3_at
set_option maxRecDepth 20000 in
theorem ggX3_frameAt_X3_longFrameAt : GoodIn wsX3_frameAt wsX3_longFrameAt := goodIn_r _ [11, 1, 2, 3, 4, 5, 6, 7, 12, 13, 14, 15, 16, 17, 18, 19, 20, 29, 30] (by decide +kernel) (by decide +kernel)
set_option maxRecDepth 20000 in
theorem gX3_frameAt_X3_longFrameAt : GoodIn wsX3_frameAt (wsV RX3 27 RX3 yX3_longFrameAt wsX3_longFrameAt) := goodIn_app (goodIn_of _ (by decide +kernel)) ggX3_frameAt_X3_longFrameAt
set_option maxRecDepth 20000 in
theorem ggX3_frameAt_X3_shortFrameAt : GoodIn wsX3_frameAt wsX3_shortFrameAt := goodIn_r _ [24, 1, 2, 3, 4, 5, 6, 7, 25, 26, 27, 28, 29, 30] (by decide +kernel) (by decide +kernel)
set_option maxRecDepth 20000 in
theorem gX3_frameAt_X3_shortFrameAt : GoodIn wsX3_frameAt (wsV RX3 30 RX3 yX3_shortFrameAt wsX3_shortFrameAt) := goodIn_app (goodIn_of _ (by decide +kernel)) ggX3_frameAt_X3_shortFrameAt
theorem dX3_frameAt_0 : decode cX3_frameAt 0 = .ok (.iload_n 1, 1) := by decide +kernel
theorem dX3_frameAt_1 : decode cX3_frameAt 1 = .ok (.aload_n 0, 1) := by decide +kernel
theorem dX3_frameAt_2 : decode cX3_frameAt 2 = .ok (.getfield 13, 3) := by decide +kernel
theorem dX3_frameAt_5 : decode cX3_frameAt 5 = .ok (.if_icmp .lt 5, 3) := by decide +kernel
theorem dX3_frameAt_8 : decode cX3_frameAt 8 = .ok (.iconst 0, 1) := by decide +kernel
theorem dX3_frameAt_9 : decode cX3_frameAt 9 = .ok (.ireturn, 1) := by decide +kernel
theorem dX3_frameAt_10 : decode cX3_frameAt 10 = .ok (.aload_n 0, 1) := by decide +kernel
theorem dX3_frameAt_11 : decode cX3_frameAt 11 = .ok (.iload_n 1, 1) := by decide +kernel
theorem dX3_frameAt_12 : decode cX3_frameAt 12 = .ok (.invokevirtual 23, 3) := by decide +kernel
theorem dX3_frameAt_15 : decode cX3_frameAt 15 = .ok (.lookupswitch 37 #[(181, 31), (211, 25)], 25) := by decide +kernel
theorem dX3_frameAt_40 : decode cX3_frameAt 40 = .ok (.aload_n 0, 1) := by decide +kernel
theorem dX3_frameAt_41 : decode cX3_frameAt 41 = .ok (.iload_n 1, 1) := by decide +kernel
theorem dX3_frameAt_42 : decode cX3_frameAt 42 = .ok (.invokevirtual 27, 3) := by decide +kernel
theorem dX3_frameAt_45 : decode cX3_frameAt 45 = .ok (.ireturn, 1) := by decide +kernel
theorem dX3_frameAt_46 : decode cX3_frameAt 46 = .ok (.aload_n 0, 1) := by decide +kernel
theorem dX3_frameAt_47 : decode cX3_frameAt 47 = .ok (.iload_n 1, 1) := by decide +kernel
theorem dX3_frameAt_48 : decode cX3_frameAt 48 = .ok (.invokevirtual 30, 3) := by decide +kernel
theorem dX3_frameAt_51 : decode cX3_frameAt 51 = .ok (.ireturn, 1) := by decide +kernel
theorem dX3_frameAt_52 : decode cX3_frameAt 52 = .ok (.iconst (-1), 1) := by decide +kernel
theorem dX3_frameAt_53 : decode cX3_frameAt 53 = .ok (.ireturn, 1) := by decide +kernel
set_option maxRecDepth 20000 in
theorem ggX3_longFrameAt_X3_at : GoodIn wsX3_longFrameAt wsX3_at := goodIn_r _ [6, 1, 7, 17, 18] (by decide +kernel) (by decide +kernel)
set_option maxRecDepth 20000 in
theorem gX3_longFrameAt_X3_at : GoodIn wsX3_longFrameAt (wsV RX3 23 RX3 yX3_at wsX3_at) := goodIn_app (goodIn_of _ (by decide +kernel)) ggX3_longFrameAt_X3_at
set_option maxRecDepth 20000 in
theorem ggX3_longFrameAt_X3_longCheckHolds : GoodIn wsX3_longFrameAt wsX3_longCheckHolds := goodIn_r _ [11, 2, 3, 4, 5, 6, 1, 7, 12, 13, 14, 15, 16, 17, 18] (by decide +kernel) (by decide +kernel)
set_option maxRecDepth 20000 in
theorem gX3_longFrameAt_X3_longCheckHolds : GoodIn wsX3_longFrameAt (wsV RX3 33 RX3 yX3_longCheckHolds wsX3_longCheckHolds) := goodIn_app (goodIn_of _ (by decide +kernel)) ggX3_longFrameAt_X3_longCheckHolds
theorem dX3_longFrameAt_0 : decode cX3_longFrameAt 0 = .ok (.aload_n 0, 1) := by decide +kernel
theorem dX3_longFrameAt_1 : decode cX3_longFrameAt 1 = .ok (.getfield 13, 3) := by decide +kernel
theorem dX3_longFrameAt_4 : decode cX3_longFrameAt 4 = .ok (.iload_n 1, 1) := by decide +kernel
theorem dX3_longFrameAt_5 : decode cX3_longFrameAt 5 = .ok (.isub, 1) := by decide +kernel
theorem dX3_longFrameAt_6 : decode cX3_longFrameAt 6 = .ok (.istore_n 2, 1) := by decide +kernel
theorem dX3_longFrameAt_7 : decode cX3_longFrameAt 7 = .ok (.iload_n 2, 1) := by decide +kernel
theorem dX3_longFrameAt_8 : decode cX3_longFrameAt 8 = .ok (.iconst 1, 1) := by decide +kernel
theorem dX3_longFrameAt_9 : decode cX3_longFrameAt 9 = .ok (.if_icmp .le 15, 3) := by decide +kernel
theorem dX3_longFrameAt_12 : decode cX3_longFrameAt 12 = .ok (.aload_n 0, 1) := by decide +kernel
theorem dX3_longFrameAt_13 : decode cX3_longFrameAt 13 = .ok (.iload_n 1, 1) := by decide +kernel
theorem dX3_longFrameAt_14 : decode cX3_longFrameAt 14 = .ok (.iconst 1, 1) := by decide +kernel
theorem dX3_longFrameAt_15 : decode cX3_longFrameAt 15 = .ok (.iadd, 1) := by decide +kernel
theorem dX3_longFrameAt_16 : decode cX3_longFrameAt 16 = .ok (.invokevirtual 23, 3) := by decide +kernel
theorem dX3_longFrameAt_19 : decode cX3_longFrameAt 19 = .ok (.ifCond .eq 5, 3) := by decide +kernel
theorem dX3_longFrameAt_22 : decode cX3_longFrameAt 22 = .ok (.iconst (-1), 1) := by decide +kernel
theorem dX3_longFrameAt_23 : decode cX3_longFrameAt 23 = .ok (.ireturn, 1) := by decide +kernel
theorem dX3_longFrameAt_24 : decode cX3_longFrameAt 24 = .ok (.iload_n 2, 1) := by decide +kernel
theorem dX3_longFrameAt_25 : decode cX3_longFrameAt 25 = .ok (.iconst 2, 1) := by decide +kernel
theorem dX3_longFrameAt_26 : decode cX3_longFrameAt 26 = .ok (.if_icmp .le 17, 3) := by decide +kernel
theorem dX3_longFrameAt_29 : decode cX3_longFrameAt 29 = .ok (.aload_n 0, 1) := by decide +kernel
theorem dX3_longFrameAt_30 : decode cX3_longFrameAt 30 = .ok (.iload_n 1, 1) := by decide +kernel
theorem dX3_longFrameAt_31 : decode cX3_longFrameAt 31 = .ok (.iconst 2, 1) := by decide +kernel
theorem dX3_longFrameAt_32 : decode cX3_longFrameAt 32 = .ok (.iadd, 1) := by decide +kernel
theorem dX3_longFrameAt_33 : decode cX3_longFrameAt 33 = .ok (.invokevirtual 23, 3) := by decide +kernel
theorem dX3_longFrameAt_36 : decode cX3_longFrameAt 36 = .ok (.bipush 90, 2) := by decide +kernel
theorem dX3_longFrameAt_38 : decode cX3_longFrameAt 38 = .ok (.if_icmp .le 5, 3) := by decide +kernel
theorem dX3_longFrameAt_41 : decode cX3_longFrameAt 41 = .ok (.iconst (-1), 1) := by decide +kernel
theorem dX3_longFrameAt_42 : decode cX3_longFrameAt 42 = .ok (.ireturn, 1) := by decide +kernel
theorem dX3_longFrameAt_43 : decode cX3_longFrameAt 43 = .ok (.iconst 3, 1) := by decide +kernel
theorem dX3_longFrameAt_44 : decode cX3_longFrameAt 44 = .ok (.aload_n 0, 1) := by decide +kernel
theorem dX3_longFrameAt_45 : decode cX3_longFrameAt 45 = .ok (.iload_n 1, 1) := by decide +kernel
theorem dX3_longFrameAt_46 : decode cX3_longFrameAt 46 = .ok (.iconst 2, 1) := by decide +kernel
theorem dX3_longFrameAt_47 : decode cX3_longFrameAt 47 = .ok (.iadd, 1) := by decide +kernel
theorem dX3_longFrameAt_48 : decode cX3_longFrameAt 48 = .ok (.invokevirtual 23, 3) := by decide +kernel
theorem dX3_longFrameAt_51 : decode cX3_longFrameAt 51 = .ok (.iadd, 1) := by decide +kernel
theorem dX3_longFrameAt_52 : decode cX3_longFrameAt 52 = .ok (.iconst 3, 1) := by decide +kernel
theorem dX3_longFrameAt_53 : decode cX3_longFrameAt 53 = .ok (.iadd, 1) := by decide +kernel
theorem dX3_longFrameAt_54 : decode cX3_longFrameAt 54 = .ok (.istore_n 3, 1) := by decide +kernel
theorem dX3_longFrameAt_55 : decode cX3_longFrameAt 55 = .ok (.iload_n 2, 1) := by decide +kernel
theorem dX3_longFrameAt_56 : decode cX3_longFrameAt 56 = .ok (.iconst 3, 1) := by decide +kernel
theorem dX3_longFrameAt_57 : decode cX3_longFrameAt 57 = .ok (.if_icmp .lt 8, 3) := by decide +kernel
theorem dX3_longFrameAt_60 : decode cX3_longFrameAt 60 = .ok (.iload_n 2, 1) := by decide +kernel
theorem dX3_longFrameAt_61 : decode cX3_longFrameAt 61 = .ok (.iload_n 3, 1) := by decide +kernel
theorem dX3_longFrameAt_62 : decode cX3_longFrameAt 62 = .ok (.if_icmp .ge 5, 3) := by decide +kernel
theorem dX3_longFrameAt_65 : decode cX3_longFrameAt 65 = .ok (.iconst 0, 1) := by decide +kernel
theorem dX3_longFrameAt_66 : decode cX3_longFrameAt 66 = .ok (.ireturn, 1) := by decide +kernel
theorem dX3_longFrameAt_67 : decode cX3_longFrameAt 67 = .ok (.aload_n 0, 1) := by decide +kernel
theorem dX3_longFrameAt_68 : decode cX3_longFrameAt 68 = .ok (.iload_n 1, 1) := by decide +kernel
theorem dX3_longFrameAt_69 : decode cX3_longFrameAt 69 = .ok (.iload_n 1, 1) := by decide +kernel
theorem dX3_longFrameAt_70 : decode cX3_longFrameAt 70 = .ok (.iload_n 3, 1) := by decide +kernel
theorem dX3_longFrameAt_71 : decode cX3_longFrameAt 71 = .ok (.iadd, 1) := by decide +kernel
theorem dX3_longFrameAt_72 : decode cX3_longFrameAt 72 = .ok (.iconst 3, 1) := by decide +kernel
theorem dX3_longFrameAt_73 : decode cX3_longFrameAt 73 = .ok (.isub, 1) := by decide +kernel
theorem dX3_longFrameAt_74 : decode cX3_longFrameAt 74 = .ok (.invokevirtual 33, 3) := by decide +kernel
theorem dX3_longFrameAt_77 : decode cX3_longFrameAt 77 = .ok (.ifCond .eq 7, 3) := by decide +kernel
theorem dX3_longFrameAt_80 : decode cX3_longFrameAt 80 = .ok (.iload_n 3, 1) := by decide +kernel
theorem dX3_longFrameAt_81 : decode cX3_longFrameAt 81 = .ok (.goto 4, 3) := by decide +kernel
theorem dX3_longFrameAt_84 : decode cX3_longFrameAt 84 = .ok (.iconst (-1), 1) := by decide +kernel
theorem dX3_longFrameAt_85 : decode cX3_longFrameAt 85 = .ok (.ireturn, 1) := by decide +kernel
set_option maxRecDepth 20000 in
theorem ggX3_longCheckHolds_X3_at : GoodIn wsX3_longCheckHolds wsX3_at := goodIn_r _ [5, 6, 7, 13, 14] (by decide +kernel) (by decide +kernel)
set_option maxRecDepth 20000 in
theorem gX3_longCheckHolds_X3_at : GoodIn wsX3_longCheckHolds (wsV RX3 23 RX3 yX3_at wsX3_at) := goodIn_app (goodIn_of _ (by decide +kernel)) ggX3_longCheckHolds_X3_at
set_option maxRecDepth 20000 in
theorem ggX3_longCheckHolds_X4_checkAfter : GoodIn wsX3_longCheckHolds wsX4_checkAfter := goodIn_r _ [10, 11, 12] (by decide +kernel) (by decide +kernel)
set_option maxRecDepth 20000 in
theorem gX3_longCheckHolds_X4_checkAfter_n37 : GoodIn wsX3_longCheckHolds (wsX4_checkAfter) := ggX3_longCheckHolds_X4_checkAfter
theorem dX3_longCheckHolds_0 : decode cX3_longCheckHolds 0 = .ok (.iconst 0, 1) := by decide +kernel
theorem dX3_longCheckHolds_1 : decode cX3_longCheckHolds 1 = .ok (.istore_n 3, 1) := by decide +kernel
theorem dX3_longCheckHolds_2 : decode cX3_longCheckHolds 2 = .ok (.iload_n 1, 1) := by decide +kernel
theorem dX3_longCheckHolds_3 : decode cX3_longCheckHolds 3 = .ok (.istore 4, 2) := by decide +kernel
theorem dX3_longCheckHolds_5 : decode cX3_longCheckHolds 5 = .ok (.iload 4, 2) := by decide +kernel
theorem dX3_longCheckHolds_7 : decode cX3_longCheckHolds 7 = .ok (.iload_n 2, 1) := by decide +kernel
theorem dX3_longCheckHolds_8 : decode cX3_longCheckHolds 8 = .ok (.if_icmp .ge 20, 3) := by decide +kernel
theorem dX3_longCheckHolds_11 : decode cX3_longCheckHolds 11 = .ok (.iload_n 3, 1) := by decide +kernel
theorem dX3_longCheckHolds_12 : decode cX3_longCheckHolds 12 = .ok (.aload_n 0, 1) := by decide +kernel
theorem dX3_longCheckHolds_13 : decode cX3_longCheckHolds 13 = .ok (.iload 4, 2) := by decide +kernel
theorem dX3_longCheckHolds_15 : decode cX3_longCheckHolds 15 = .ok (.invokevirtual 23, 3) := by decide +kernel
theorem dX3_longCheckHolds_18 : decode cX3_longCheckHolds 18 = .ok (.invokestatic 37, 3) := by decide +kernel
theorem dX3_longCheckHolds_21 : decode cX3_longCheckHolds 21 = .ok (.istore_n 3, 1) := by decide +kernel
theorem dX3_longCheckHolds_22 : decode cX3_longCheckHolds 22 = .ok (.iinc 4 1, 3) := by decide +kernel
theorem dX3_longCheckHolds_25 : decode cX3_longCheckHolds 25 = .ok (.goto (-20), 3) := by decide +kernel
theorem dX3_longCheckHolds_28 : decode cX3_longCheckHolds 28 = .ok (.iload_n 3, 1) := by decide +kernel
theorem dX3_longCheckHolds_29 : decode cX3_longCheckHolds 29 = .ok (.aload_n 0, 1) := by decide +kernel
theorem dX3_longCheckHolds_30 : decode cX3_longCheckHolds 30 = .ok (.iload_n 2, 1) := by decide +kernel
theorem dX3_longCheckHolds_31 : decode cX3_longCheckHolds 31 = .ok (.invokevirtual 23, 3) := by decide +kernel
theorem dX3_longCheckHolds_34 : decode cX3_longCheckHolds 34 = .ok (.bipush 16, 2) := by decide +kernel
theorem dX3_longCheckHolds_36 : decode cX3_longCheckHolds 36 = .ok (.ishl, 1) := by decide +kernel
theorem dX3_longCheckHolds_37 : decode cX3_longCheckHolds 37 = .ok (.aload_n 0, 1) := by decide +kernel
theorem dX3_longCheckHolds_38 : decode cX3_longCheckHolds 38 = .ok (.iload_n 2, 1) := by decide +kernel
theorem dX3_longCheckHolds_39 : decode cX3_longCheckHolds 39 = .ok (.iconst 1, 1) := by decide +kernel
theorem dX3_longCheckHolds_40 : decode cX3_longCheckHolds 40 = .ok (.iadd, 1) := by decide +kernel
theorem dX3_longCheckHolds_41 : decode cX3_longCheckHolds 41 = .ok (.invokevirtual 23, 3) := by decide +kernel
theorem dX3_longCheckHolds_44 : decode cX3_longCheckHolds 44 = .ok (.bipush 8, 2) := by decide +kernel
theorem dX3_longCheckHolds_46 : decode cX3_longCheckHolds 46 = .ok (.ishl, 1) := by decide +kernel
theorem dX3_longCheckHolds_47 : decode cX3_longCheckHolds 47 = .ok (.ior, 1) := by decide +kernel
theorem dX3_longCheckHolds_48 : decode cX3_longCheckHolds 48 = .ok (.aload_n 0, 1) := by decide +kernel
theorem dX3_longCheckHolds_49 : decode cX3_longCheckHolds 49 = .ok (.iload_n 2, 1) := by decide +kernel
theorem dX3_longCheckHolds_50 : decode cX3_longCheckHolds 50 = .ok (.iconst 2, 1) := by decide +kernel
theorem dX3_longCheckHolds_51 : decode cX3_longCheckHolds 51 = .ok (.iadd, 1) := by decide +kernel
theorem dX3_longCheckHolds_52 : decode cX3_longCheckHolds 52 = .ok (.invokevirtual 23, 3) := by decide +kernel
theorem dX3_longCheckHolds_55 : decode cX3_longCheckHolds 55 = .ok (.ior, 1) := by decide +kernel
theorem dX3_longCheckHolds_56 : decode cX3_longCheckHolds 56 = .ok (.if_icmp .ne 7, 3) := by decide +kernel
theorem dX3_longCheckHolds_59 : decode cX3_longCheckHolds 59 = .ok (.iconst 1, 1) := by decide +kernel
theorem dX3_longCheckHolds_60 : decode cX3_longCheckHolds 60 = .ok (.goto 4, 3) := by decide +kernel
theorem dX3_longCheckHolds_63 : decode cX3_longCheckHolds 63 = .ok (.iconst 0, 1) := by decide +kernel
theorem dX3_longCheckHolds_64 : decode cX3_longCheckHolds 64 = .ok (.ireturn, 1) := by decide +kernel
set_option maxRecDepth 20000 in
theorem ggX3_shortFrameAt_X3_at : GoodIn wsX3_shortFrameAt wsX3_at := goodIn_r _ [6, 1, 7, 12, 13] (by decide +kernel) (by decide +kernel)
set_option maxRecDepth 20000 in
theorem gX3_shortFrameAt_X3_at : GoodIn wsX3_shortFrameAt (wsV RX3 23 RX3 yX3_at wsX3_at) := goodIn_app (goodIn_of _ (by decide +kernel)) ggX3_shortFrameAt_X3_at
set_option maxRecDepth 20000 in
theorem ggX3_shortFrameAt_X3_shortCheckHolds : GoodIn wsX3_shortFrameAt wsX3_shortCheckHolds := goodIn_r _ [11, 2, 3, 4, 5, 6, 1, 7, 12, 13] (by decide +kernel) (by decide +kernel)
set_option maxRecDepth 20000 in
theorem gX3_shortFrameAt_X3_shortCheckHolds : GoodIn wsX3_shortFrameAt (wsV RX3 43 RX3 yX3_shortCheckHolds wsX3_shortCheckHolds) := goodIn_app (goodIn_of _ (by decide +kernel)) ggX3_shortFrameAt_X3_shortCheckHolds
theorem dX3_shortFrameAt_0 : decode cX3_shortFrameAt 0 = .ok (.aload_n 0, 1) := by decide +kernel
theorem dX3_shortFrameAt_1 : decode cX3_shortFrameAt 1 = .ok (.getfield 13, 3) := by decide +kernel
theorem dX3_shortFrameAt_4 : decode cX3_shortFrameAt 4 = .ok (.iload_n 1, 1) := by decide +kernel
theorem dX3_shortFrameAt_5 : decode cX3_shortFrameAt 5 = .ok (.isub, 1) := by decide +kernel
theorem dX3_shortFrameAt_6 : decode cX3_shortFrameAt 6 = .ok (.istore_n 2, 1) := by decide +kernel
theorem dX3_shortFrameAt_7 : decode cX3_shortFrameAt 7 = .ok (.iload_n 2, 1) := by decide +kernel
theorem dX3_shortFrameAt_8 : decode cX3_shortFrameAt 8 = .ok (.iconst 1, 1) := by decide +kernel
theorem dX3_shortFrameAt_9 : decode cX3_shortFrameAt 9 = .ok (.if_icmp .le 17, 3) := by decide +kernel
theorem dX3_shortFrameAt_12 : decode cX3_shortFrameAt 12 = .ok (.aload_n 0, 1) := by decide +kernel
theorem dX3_shortFrameAt_13 : decode cX3_shortFrameAt 13 = .ok (.iload_n 1, 1) := by decide +kernel
theorem dX3_shortFrameAt_14 : decode cX3_shortFrameAt 14 = .ok (.iconst 1, 1) := by decide +kernel
theorem dX3_shortFrameAt_15 : decode cX3_shortFrameAt 15 = .ok (.iadd, 1) := by decide +kernel
theorem dX3_shortFrameAt_16 : decode cX3_shortFrameAt 16 = .ok (.invokevirtual 23, 3) := by decide +kernel
theorem dX3_shortFrameAt_19 : decode cX3_shortFrameAt 19 = .ok (.bipush 98, 2) := by decide +kernel
theorem dX3_shortFrameAt_21 : decode cX3_shortFrameAt 21 = .ok (.if_icmp .eq 5, 3) := by decide +kernel
theorem dX3_shortFrameAt_24 : decode cX3_shortFrameAt 24 = .ok (.iconst (-1), 1) := by decide +kernel
theorem dX3_shortFrameAt_25 : decode cX3_shortFrameAt 25 = .ok (.ireturn, 1) := by decide +kernel
theorem dX3_shortFrameAt_26 : decode cX3_shortFrameAt 26 = .ok (.iload_n 2, 1) := by decide +kernel
theorem dX3_shortFrameAt_27 : decode cX3_shortFrameAt 27 = .ok (.iconst 4, 1) := by decide +kernel
theorem dX3_shortFrameAt_28 : decode cX3_shortFrameAt 28 = .ok (.if_icmp .le 17, 3) := by decide +kernel
theorem dX3_shortFrameAt_31 : decode cX3_shortFrameAt 31 = .ok (.aload_n 0, 1) := by decide +kernel
theorem dX3_shortFrameAt_32 : decode cX3_shortFrameAt 32 = .ok (.iload_n 1, 1) := by decide +kernel
theorem dX3_shortFrameAt_33 : decode cX3_shortFrameAt 33 = .ok (.iconst 4, 1) := by decide +kernel
theorem dX3_shortFrameAt_34 : decode cX3_shortFrameAt 34 = .ok (.iadd, 1) := by decide +kernel
theorem dX3_shortFrameAt_35 : decode cX3_shortFrameAt 35 = .ok (.invokevirtual 23, 3) := by decide +kernel
theorem dX3_shortFrameAt_38 : decode cX3_shortFrameAt 38 = .ok (.bipush 90, 2) := by decide +kernel
theorem dX3_shortFrameAt_40 : decode cX3_shortFrameAt 40 = .ok (.if_icmp .le 5, 3) := by decide +kernel
theorem dX3_shortFrameAt_43 : decode cX3_shortFrameAt 43 = .ok (.iconst (-1), 1) := by decide +kernel
theorem dX3_shortFrameAt_44 : decode cX3_shortFrameAt 44 = .ok (.ireturn, 1) := by decide +kernel
theorem dX3_shortFrameAt_45 : decode cX3_shortFrameAt 45 = .ok (.iload_n 2, 1) := by decide +kernel
theorem dX3_shortFrameAt_46 : decode cX3_shortFrameAt 46 = .ok (.iconst 5, 1) := by decide +kernel
theorem dX3_shortFrameAt_47 : decode cX3_shortFrameAt 47 = .ok (.if_icmp .le 15, 3) := by decide +kernel
theorem dX3_shortFrameAt_50 : decode cX3_shortFrameAt 50 = .ok (.aload_n 0, 1) := by decide +kernel
theorem dX3_shortFrameAt_51 : decode cX3_shortFrameAt 51 = .ok (.iload_n 1, 1) := by decide +kernel
theorem dX3_shortFrameAt_52 : decode cX3_shortFrameAt 52 = .ok (.iconst 5, 1) := by decide +kernel
theorem dX3_shortFrameAt_53 : decode cX3_shortFrameAt 53 = .ok (.iadd, 1) := by decide +kernel
theorem dX3_shortFrameAt_54 : decode cX3_shortFrameAt 54 = .ok (.invokevirtual 23, 3) := by decide +kernel
theorem dX3_shortFrameAt_57 : decode cX3_shortFrameAt 57 = .ok (.ifCond .eq 5, 3) := by decide +kernel
theorem dX3_shortFrameAt_60 : decode cX3_shortFrameAt 60 = .ok (.iconst (-1), 1) := by decide +kernel
theorem dX3_shortFrameAt_61 : decode cX3_shortFrameAt 61 = .ok (.ireturn, 1) := by decide +kernel
theorem dX3_shortFrameAt_62 : decode cX3_shortFrameAt 62 = .ok (.bipush 6, 2) := by decide +kernel
theorem dX3_shortFrameAt_64 : decode cX3_shortFrameAt 64 = .ok (.aload_n 0, 1) := by decide +kernel
theorem dX3_shortFrameAt_65 : decode cX3_shortFrameAt 65 = .ok (.iload_n 1, 1) := by decide +kernel
theorem dX3_shortFrameAt_66 : decode cX3_shortFrameAt 66 = .ok (.iconst 4, 1) := by decide +kernel
theorem dX3_shortFrameAt_67 : decode cX3_shortFrameAt 67 = .ok (.iadd, 1) := by decide +kernel
theorem dX3_shortFrameAt_68 : decode cX3_shortFrameAt 68 = .ok (.invokevirtual 23, 3) := by decide +kernel
theorem dX3_shortFrameAt_71 : decode cX3_shortFrameAt 71 = .ok (.iadd, 1) := by decide +kernel
theorem dX3_shortFrameAt_72 : decode cX3_shortFrameAt 72 = .ok (.iconst 2, 1) := by decide +kernel
theorem dX3_shortFrameAt_73 : decode cX3_shortFrameAt 73 = .ok (.iadd, 1) := by decide +kernel
theorem dX3_shortFrameAt_74 : decode cX3_shortFrameAt 74 = .ok (.istore_n 3, 1) := by decide +kernel
theorem dX3_shortFrameAt_75 : decode cX3_shortFrameAt 75 = .ok (.iload_n 2, 1) := by decide +kernel
theorem dX3_shortFrameAt_76 : decode cX3_shortFrameAt 76 = .ok (.bipush 6, 2) := by decide +kernel
theorem dX3_shortFrameAt_78 : decode cX3_shortFrameAt 78 = .ok (.if_icmp .lt 8, 3) := by decide +kernel
theorem dX3_shortFrameAt_81 : decode cX3_shortFrameAt 81 = .ok (.iload_n 2, 1) := by decide +kernel
theorem dX3_shortFrameAt_82 : decode cX3_shortFrameAt 82 = .ok (.iload_n 3, 1) := by decide +kernel
theorem dX3_shortFrameAt_83 : decode cX3_shortFrameAt 83 = .ok (.if_icmp .ge 5, 3) := by decide +kernel
theorem dX3_shortFrameAt_86 : decode cX3_shortFrameAt 86 = .ok (.iconst 0, 1) := by decide +kernel
theorem dX3_shortFrameAt_87 : decode cX3_shortFrameAt 87 = .ok (.ireturn, 1) := by decide +kernel
theorem dX3_shortFrameAt_88 : decode cX3_shortFrameAt 88 = .ok (.aload_n 0, 1) := by decide +kernel
theorem dX3_shortFrameAt_89 : decode cX3_shortFrameAt 89 = .ok (.iload_n 1, 1) := by decide +kernel
theorem dX3_shortFrameAt_90 : decode cX3_shortFrameAt 90 = .ok (.iconst 2, 1) := by decide +kernel
theorem dX3_shortFrameAt_91 : decode cX3_shortFrameAt 91 = .ok (.iadd, 1) := by decide +kernel
theorem dX3_shortFrameAt_92 : decode cX3_shortFrameAt 92 = .ok (.iload_n 1, 1) := by decide +kernel
theorem dX3_shortFrameAt_93 : decode cX3_shortFrameAt 93 = .ok (.iload_n 3, 1) := by decide +kernel
theorem dX3_shortFrameAt_94 : decode cX3_shortFrameAt 94 = .ok (.iadd, 1) := by decide +kernel
theorem dX3_shortFrameAt_95 : decode cX3_shortFrameAt 95 = .ok (.iconst 2, 1) := by decide +kernel
theorem dX3_shortFrameAt_96 : decode cX3_shortFrameAt 96 = .ok (.isub, 1) := by decide +kernel
theorem dX3_shortFrameAt_97 : decode cX3_shortFrameAt 97 = .ok (.invokevirtual 43, 3) := by decide +kernel
theorem dX3_shortFrameAt_100 : decode cX3_shortFrameAt 100 = .ok (.ifCond .eq 7, 3) := by decide +kernel
theorem dX3_shortFrameAt_103 : decode cX3_shortFrameAt 103 = .ok (.iload_n 3, 1) := by decide +kernel
theorem dX3_shortFrameAt_104 : decode cX3_shortFrameAt 104 = .ok (.goto 4, 3) := by decide +kernel
theorem dX3_shortFrameAt_107 : decode cX3_shortFrameAt 107 = .ok (.iconst (-1), 1) := by decide +kernel
theorem dX3_shortFrameAt_108 : decode cX3_shortFrameAt 108 = .ok (.ireturn, 1) := by decide +kernel
set_option maxRecDepth 20000 in
theorem ggX3_shortCheckHolds_X3_at : GoodIn wsX3_shortCheckHolds wsX3_at := goodIn_r _ [5, 6, 7, 8, 9] (by decide +kernel) (by decide +kernel)
set_option maxRecDepth 20000 in
theorem gX3_shortCheckHolds_X3_at : GoodIn wsX3_shortCheckHolds (wsV RX3 23 RX3 yX3_at wsX3_at) := goodIn_app (goodIn_of _ (by decide +kernel)) ggX3_shortCheckHolds_X3_at
theorem dX3_shortCheckHolds_0 : decode cX3_shortCheckHolds 0 = .ok (.iconst 0, 1) := by decide +kernel
theorem dX3_shortCheckHolds_1 : decode cX3_shortCheckHolds 1 = .ok (.istore_n 3, 1) := by decide +kernel
theorem dX3_shortCheckHolds_2 : decode cX3_shortCheckHolds 2 = .ok (.iconst 0, 1) := by decide +kernel
theorem dX3_shortCheckHolds_3 : decode cX3_shortCheckHolds 3 = .ok (.istore 4, 2) := by decide +kernel
theorem dX3_shortCheckHolds_5 : decode cX3_shortCheckHolds 5 = .ok (.iload_n 1, 1) := by decide +kernel
theorem dX3_shortCheckHolds_6 : decode cX3_shortCheckHolds 6 = .ok (.istore 5, 2) := by decide +kernel
theorem dX3_shortCheckHolds_8 : decode cX3_shortCheckHolds 8 = .ok (.iload 5, 2) := by decide +kernel
theorem dX3_shortCheckHolds_10 : decode cX3_shortCheckHolds 10 = .ok (.iload_n 2, 1) := by decide +kernel
theorem dX3_shortCheckHolds_11 : decode cX3_shortCheckHolds 11 = .ok (.if_icmp .ge 32, 3) := by decide +kernel
theorem dX3_shortCheckHolds_14 : decode cX3_shortCheckHolds 14 = .ok (.iload_n 3, 1) := by decide +kernel
theorem dX3_shortCheckHolds_15 : decode cX3_shortCheckHolds 15 = .ok (.aload_n 0, 1) := by decide +kernel
theorem dX3_shortCheckHolds_16 : decode cX3_shortCheckHolds 16 = .ok (.iload 5, 2) := by decide +kernel
theorem dX3_shortCheckHolds_18 : decode cX3_shortCheckHolds 18 = .ok (.invokevirtual 23, 3) := by decide +kernel
theorem dX3_shortCheckHolds_21 : decode cX3_shortCheckHolds 21 = .ok (.iadd, 1) := by decide +kernel
theorem dX3_shortCheckHolds_22 : decode cX3_shortCheckHolds 22 = .ok (.sipush 255, 3) := by decide +kernel
theorem dX3_shortCheckHolds_25 : decode cX3_shortCheckHolds 25 = .ok (.iand, 1) := by decide +kernel
theorem dX3_shortCheckHolds_26 : decode cX3_shortCheckHolds 26 = .ok (.istore_n 3, 1) := by decide +kernel
theorem dX3_shortCheckHolds_27 : decode cX3_shortCheckHolds 27 = .ok (.iload 4, 2) := by decide +kernel
theorem dX3_shortCheckHolds_29 : decode cX3_shortCheckHolds 29 = .ok (.iload_n 3, 1) := by decide +kernel
theorem dX3_shortCheckHolds_30 : decode cX3_shortCheckHolds 30 = .ok (.iadd, 1) := by decide +kernel
theorem dX3_shortCheckHolds_31 : decode cX3_shortCheckHolds 31 = .ok (.sipush 255, 3) := by decide +kernel
theorem dX3_shortCheckHolds_34 : decode cX3_shortCheckHolds 34 = .ok (.iand, 1) := by decide +kernel
theorem dX3_shortCheckHolds_35 : decode cX3_shortCheckHolds 35 = .ok (.istore 4, 2) := by decide +kernel
theorem dX3_shortCheckHolds_37 : decode cX3_shortCheckHolds 37 = .ok (.iinc 5 1, 3) := by decide +kernel
theorem dX3_shortCheckHolds_40 : decode cX3_shortCheckHolds 40 = .ok (.goto (-32), 3) := by decide +kernel
theorem dX3_shortCheckHolds_43 : decode cX3_shortCheckHolds 43 = .ok (.iload_n 3, 1) := by decide +kernel
theorem dX3_shortCheckHolds_44 : decode cX3_shortCheckHolds 44 = .ok (.aload_n 0, 1) := by decide +kernel
theorem dX3_shortCheckHolds_45 : decode cX3_shortCheckHolds 45 = .ok (.iload_n 2, 1) := by decide +kernel
theorem dX3_shortCheckHolds_46 : decode cX3_shortCheckHolds 46 = .ok (.invokevirtual 23, 3) := by decide +kernel
theorem dX3_shortCheckHolds_49 : decode cX3_shortCheckHolds 49 = .ok (.if_icmp .ne 19, 3) := by decide +kernel
theorem dX3_shortCheckHolds_52 : decode cX3_shortCheckHolds 52 = .ok (.iload 4, 2) := by decide +kernel
theorem dX3_shortCheckHolds_54 : decode cX3_shortCheckHolds 54 = .ok (.aload_n 0, 1) := by decide +kernel
theorem dX3_shortCheckHolds_55 : decode cX3_shortCheckHolds 55 = .ok (.iload_n 2, 1) := by decide +kernel
theorem dX3_shortCheckHolds_56 : decode cX3_shortCheckHolds 56 = .ok (.iconst 1, 1) := by decide +kernel
theorem dX3_shortCheckHolds_57 : decode cX3_shortCheckHolds 57 = .ok (.iadd, 1) := by decide +kernel
theorem dX3_shortCheckHolds_58 : decode cX3_shortCheckHolds 58 = .ok (.invokevirtual 23, 3) := by decide +kernel
theorem dX3_shortCheckHolds_61 : decode cX3_shortCheckHolds 61 = .ok (.if_icmp .ne 7, 3) := by decide +kernel
theorem dX3_shortCheckHolds_64 : decode cX3_shortCheckHolds 64 = .ok (.iconst 1, 1) := by decide +kernel
theorem dX3_shortCheckHolds_65 : decode cX3_shortCheckHolds 65 = .ok (.goto 4, 3) := by decide +kernel
theorem dX3_shortCheckHolds_68 : decode cX3_shortCheckHolds 68 = .ok (.iconst 0, 1) := by decide +kernel
theorem dX3_shortCheckHolds_69 : decode cX3_shortCheckHolds 69 = .ok (.ireturn, 1) := by decide +kernel
set_option maxRecDepth 20000 in
theorem ggX3_signedAt_X3_at : GoodIn wsX3_signedAt wsX3_at := goodIn_r _ [5, 6, 7, 8, 9] (by decide +kernel) (by decide +kernel)
set_option maxRecDepth 20000 in
theorem gX3_signedAt_X3_at : GoodIn wsX3_signedAt (wsV RX3 23 RX3 yX3_at wsX3_at) := goodIn_app (goodIn_of _ (by decide +kernel)) ggX3_signedAt_X3_at
theorem dX3_signedAt_0 : decode cX3_signedAt 0 = .ok (.aload_n 0, 1) := by decide +kernel
theorem dX3_signedAt_1 : decode cX3_signedAt 1 = .ok (.iload_n 1, 1) := by decide +kernel
theorem dX3_signedAt_2 : decode cX3_signedAt 2 = .ok (.invokevirtual 23, 3) := by decide +kernel
theorem dX3_signedAt_5 : decode cX3_signedAt 5 = .ok (.aload_n 0, 1) := by decide +kernel
theorem dX3_signedAt_6 : decode cX3_signedAt 6 = .ok (.iload_n 1, 1) := by decide +kernel
theorem dX3_signedAt_7 : decode cX3_signedAt 7 = .ok (.iconst 1, 1) := by decide +kernel
theorem dX3_signedAt_8 : decode cX3_signedAt 8 = .ok (.iadd, 1) := by decide +kernel
theorem dX3_signedAt_9 : decode cX3_signedAt 9 = .ok (.invokevirtual 23, 3) := by decide +kernel
theorem dX3_signedAt_12 : decode cX3_signedAt 12 = .ok (.bipush 8, 2) := by decide +kernel
theorem dX3_signedAt_14 : decode cX3_signedAt 14 = .ok (.ishl, 1) := by decide +kernel
theorem dX3_signedAt_15 : decode cX3_signedAt 15 = .ok (.ior, 1) := by decide +kernel
theorem dX3_signedAt_16 : decode cX3_signedAt 16 = .ok (.aload_n 0, 1) := by decide +kernel
theorem dX3_signedAt_17 : decode cX3_signedAt 17 = .ok (.iload_n 1, 1) := by decide +kernel
theorem dX3_signedAt_18 : decode cX3_signedAt 18 = .ok (.iconst 2, 1) := by decide +kernel
theorem dX3_signedAt_19 : decode cX3_signedAt 19 = .ok (.iadd, 1) := by decide +kernel
theorem dX3_signedAt_20 : decode cX3_signedAt 20 = .ok (.invokevirtual 23, 3) := by decide +kernel
theorem dX3_signedAt_23 : decode cX3_signedAt 23 = .ok (.bipush 16, 2) := by decide +kernel
theorem dX3_signedAt_25 : decode cX3_signedAt 25 = .ok (.ishl, 1) := by decide +kernel
theorem dX3_signedAt_26 : decode cX3_signedAt 26 = .ok (.ior, 1) := by decide +kernel
theorem dX3_signedAt_27 : decode cX3_signedAt 27 = .ok (.aload_n 0, 1) := by decide +kernel
theorem dX3_signedAt_28 : decode cX3_signedAt 28 = .ok (.iload_n 1, 1) := by decide +kernel
theorem dX3_signedAt_29 : decode cX3_signedAt 29 = .ok (.iconst 3, 1) := by decide +kernel
theorem dX3_signedAt_30 : decode cX3_signedAt 30 = .ok (.iadd, 1) := by decide +kernel
theorem dX3_signedAt_31 : decode cX3_signedAt 31 = .ok (.invokevirtual 23, 3) := by decide +kernel
theorem dX3_signedAt_34 : decode cX3_signedAt 34 = .ok (.bipush 24, 2) := by decide +kernel
theorem dX3_signedAt_36 : decode cX3_signedAt 36 = .ok (.ishl, 1) := by decide +kernel
theorem dX3_signedAt_37 : decode cX3_signedAt 37 = .ok (.ior, 1) := by decide +kernel
theorem dX3_signedAt_38 : decode cX3_signedAt 38 = .ok (.ireturn, 1) := by decide +kernel
