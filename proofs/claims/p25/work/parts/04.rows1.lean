theorem dX0_init_0 : decode cX0_init 0 = .ok (.aload_n 0, 1) := by decide +kernel
theorem dX0_init_1 : decode cX0_init 1 = .ok (.invokespecial 3, 3) := by decide +kernel
theorem dX0_init_4 : decode cX0_init 4 = .ok (.aload_n 0, 1) := by decide +kernel
theorem dX0_init_5 : decode cX0_init 5 = .ok (.bipush 40, 2) := by decide +kernel
theorem dX0_init_7 : decode cX0_init 7 = .ok (.newarray .int, 2) := by decide +kernel
theorem dX0_init_9 : decode cX0_init 9 = .ok (.putfield 9, 3) := by decide +kernel
theorem dX0_init_12 : decode cX0_init 12 = .ok (.aload_n 0, 1) := by decide +kernel
theorem dX0_init_13 : decode cX0_init 13 = .ok (.bipush 8, 2) := by decide +kernel
theorem dX0_init_15 : decode cX0_init 15 = .ok (.newarray .int, 2) := by decide +kernel
theorem dX0_init_17 : decode cX0_init 17 = .ok (.putfield 15, 3) := by decide +kernel
theorem dX0_init_20 : decode cX0_init 20 = .ok (.aload_n 0, 1) := by decide +kernel
theorem dX0_init_21 : decode cX0_init 21 = .ok (.bipush 8, 2) := by decide +kernel
theorem dX0_init_23 : decode cX0_init 23 = .ok (.putfield 18, 3) := by decide +kernel
theorem dX0_init_26 : decode cX0_init 26 = .ok (.return_, 1) := by decide +kernel
theorem dX0_begin_0 : decode cX0_begin 0 = .ok (.aload_n 0, 1) := by decide +kernel
theorem dX0_begin_1 : decode cX0_begin 1 = .ok (.iload_n 1, 1) := by decide +kernel
theorem dX0_begin_2 : decode cX0_begin 2 = .ok (.putfield 18, 3) := by decide +kernel
theorem dX0_begin_5 : decode cX0_begin 5 = .ok (.aload_n 0, 1) := by decide +kernel
theorem dX0_begin_6 : decode cX0_begin 6 = .ok (.lconst 0, 1) := by decide +kernel
theorem dX0_begin_7 : decode cX0_begin 7 = .ok (.putfield 22, 3) := by decide +kernel
theorem dX0_begin_10 : decode cX0_begin 10 = .ok (.aload_n 0, 1) := by decide +kernel
theorem dX0_begin_11 : decode cX0_begin 11 = .ok (.lconst 0, 1) := by decide +kernel
theorem dX0_begin_12 : decode cX0_begin 12 = .ok (.putfield 26, 3) := by decide +kernel
theorem dX0_begin_15 : decode cX0_begin 15 = .ok (.aload_n 0, 1) := by decide +kernel
theorem dX0_begin_16 : decode cX0_begin 16 = .ok (.lconst 0, 1) := by decide +kernel
theorem dX0_begin_17 : decode cX0_begin 17 = .ok (.putfield 29, 3) := by decide +kernel
theorem dX0_begin_20 : decode cX0_begin 20 = .ok (.iconst 0, 1) := by decide +kernel
theorem dX0_begin_21 : decode cX0_begin 21 = .ok (.istore_n 2, 1) := by decide +kernel
theorem dX0_begin_22 : decode cX0_begin 22 = .ok (.iload_n 2, 1) := by decide +kernel
theorem dX0_begin_23 : decode cX0_begin 23 = .ok (.aload_n 0, 1) := by decide +kernel
theorem dX0_begin_24 : decode cX0_begin 24 = .ok (.getfield 9, 3) := by decide +kernel
theorem dX0_begin_27 : decode cX0_begin 27 = .ok (.arraylength, 1) := by decide +kernel
theorem dX0_begin_28 : decode cX0_begin 28 = .ok (.if_icmp .ge 16, 3) := by decide +kernel
theorem dX0_begin_31 : decode cX0_begin 31 = .ok (.aload_n 0, 1) := by decide +kernel
theorem dX0_begin_32 : decode cX0_begin 32 = .ok (.getfield 9, 3) := by decide +kernel
theorem dX0_begin_35 : decode cX0_begin 35 = .ok (.iload_n 2, 1) := by decide +kernel
theorem dX0_begin_36 : decode cX0_begin 36 = .ok (.iconst 0, 1) := by decide +kernel
theorem dX0_begin_37 : decode cX0_begin 37 = .ok (.iastore, 1) := by decide +kernel
theorem dX0_begin_38 : decode cX0_begin 38 = .ok (.iinc 2 1, 3) := by decide +kernel
theorem dX0_begin_41 : decode cX0_begin 41 = .ok (.goto (-19), 3) := by decide +kernel
theorem dX0_begin_44 : decode cX0_begin 44 = .ok (.iconst 0, 1) := by decide +kernel
theorem dX0_begin_45 : decode cX0_begin 45 = .ok (.istore_n 2, 1) := by decide +kernel
theorem dX0_begin_46 : decode cX0_begin 46 = .ok (.iload_n 2, 1) := by decide +kernel
theorem dX0_begin_47 : decode cX0_begin 47 = .ok (.aload_n 0, 1) := by decide +kernel
theorem dX0_begin_48 : decode cX0_begin 48 = .ok (.getfield 15, 3) := by decide +kernel
theorem dX0_begin_51 : decode cX0_begin 51 = .ok (.arraylength, 1) := by decide +kernel
theorem dX0_begin_52 : decode cX0_begin 52 = .ok (.if_icmp .ge 16, 3) := by decide +kernel
theorem dX0_begin_55 : decode cX0_begin 55 = .ok (.aload_n 0, 1) := by decide +kernel
theorem dX0_begin_56 : decode cX0_begin 56 = .ok (.getfield 15, 3) := by decide +kernel
theorem dX0_begin_59 : decode cX0_begin 59 = .ok (.iload_n 2, 1) := by decide +kernel
theorem dX0_begin_60 : decode cX0_begin 60 = .ok (.iconst 0, 1) := by decide +kernel
theorem dX0_begin_61 : decode cX0_begin 61 = .ok (.iastore, 1) := by decide +kernel
theorem dX0_begin_62 : decode cX0_begin 62 = .ok (.iinc 2 1, 3) := by decide +kernel
theorem dX0_begin_65 : decode cX0_begin 65 = .ok (.goto (-19), 3) := by decide +kernel
theorem dX0_begin_68 : decode cX0_begin 68 = .ok (.return_, 1) := by decide +kernel
set_option maxRecDepth 20000 in
theorem ggX0_faceOf_X5_dotIn : GoodIn wsX0_faceOf wsX5_dotIn := goodIn_r _ [4, 5, 6, 3, 7] (by decide +kernel) (by decide +kernel)
set_option maxRecDepth 20000 in
theorem gX0_faceOf_X5_dotIn_n32 : GoodIn wsX0_faceOf (wsX5_dotIn) := ggX0_faceOf_X5_dotIn
theorem dX0_faceOf_0 : decode cX0_faceOf 0 = .ok (.aload_n 0, 1) := by decide +kernel
theorem dX0_faceOf_1 : decode cX0_faceOf 1 = .ok (.getfield 22, 3) := by decide +kernel
theorem dX0_faceOf_4 : decode cX0_faceOf 4 = .ok (.iload_n 1, 1) := by decide +kernel
theorem dX0_faceOf_5 : decode cX0_faceOf 5 = .ok (.iload_n 2, 1) := by decide +kernel
theorem dX0_faceOf_6 : decode cX0_faceOf 6 = .ok (.invokestatic 32, 3) := by decide +kernel
theorem dX0_faceOf_9 : decode cX0_faceOf 9 = .ok (.land, 1) := by decide +kernel
theorem dX0_faceOf_10 : decode cX0_faceOf 10 = .ok (.lconst 0, 1) := by decide +kernel
theorem dX0_faceOf_11 : decode cX0_faceOf 11 = .ok (.lcmp, 1) := by decide +kernel
theorem dX0_faceOf_12 : decode cX0_faceOf 12 = .ok (.ifCond .ne 7, 3) := by decide +kernel
theorem dX0_faceOf_15 : decode cX0_faceOf 15 = .ok (.iconst 0, 1) := by decide +kernel
theorem dX0_faceOf_16 : decode cX0_faceOf 16 = .ok (.goto 4, 3) := by decide +kernel
theorem dX0_faceOf_19 : decode cX0_faceOf 19 = .ok (.iconst 1, 1) := by decide +kernel
theorem dX0_faceOf_20 : decode cX0_faceOf 20 = .ok (.ireturn, 1) := by decide +kernel
set_option maxRecDepth 20000 in
theorem ggX0_stuckFaceOf_X5_dotIn : GoodIn wsX0_stuckFaceOf wsX5_dotIn := goodIn_r _ [5, 6, 7, 4, 8] (by decide +kernel) (by decide +kernel)
set_option maxRecDepth 20000 in
theorem gX0_stuckFaceOf_X5_dotIn_n32 : GoodIn wsX0_stuckFaceOf (wsX5_dotIn) := ggX0_stuckFaceOf_X5_dotIn
theorem dX0_stuckFaceOf_0 : decode cX0_stuckFaceOf 0 = .ok (.iload_n 1, 1) := by decide +kernel
theorem dX0_stuckFaceOf_1 : decode cX0_stuckFaceOf 1 = .ok (.iload_n 2, 1) := by decide +kernel
theorem dX0_stuckFaceOf_2 : decode cX0_stuckFaceOf 2 = .ok (.invokestatic 32, 3) := by decide +kernel
theorem dX0_stuckFaceOf_5 : decode cX0_stuckFaceOf 5 = .ok (.lstore_n 3, 1) := by decide +kernel
theorem dX0_stuckFaceOf_6 : decode cX0_stuckFaceOf 6 = .ok (.aload_n 0, 1) := by decide +kernel
theorem dX0_stuckFaceOf_7 : decode cX0_stuckFaceOf 7 = .ok (.getfield 26, 3) := by decide +kernel
theorem dX0_stuckFaceOf_10 : decode cX0_stuckFaceOf 10 = .ok (.lload_n 3, 1) := by decide +kernel
theorem dX0_stuckFaceOf_11 : decode cX0_stuckFaceOf 11 = .ok (.land, 1) := by decide +kernel
theorem dX0_stuckFaceOf_12 : decode cX0_stuckFaceOf 12 = .ok (.lconst 0, 1) := by decide +kernel
theorem dX0_stuckFaceOf_13 : decode cX0_stuckFaceOf 13 = .ok (.lcmp, 1) := by decide +kernel
theorem dX0_stuckFaceOf_14 : decode cX0_stuckFaceOf 14 = .ok (.ifCond .ne 5, 3) := by decide +kernel
theorem dX0_stuckFaceOf_17 : decode cX0_stuckFaceOf 17 = .ok (.iconst (-1), 1) := by decide +kernel
theorem dX0_stuckFaceOf_18 : decode cX0_stuckFaceOf 18 = .ok (.ireturn, 1) := by decide +kernel
theorem dX0_stuckFaceOf_19 : decode cX0_stuckFaceOf 19 = .ok (.aload_n 0, 1) := by decide +kernel
theorem dX0_stuckFaceOf_20 : decode cX0_stuckFaceOf 20 = .ok (.getfield 29, 3) := by decide +kernel
theorem dX0_stuckFaceOf_23 : decode cX0_stuckFaceOf 23 = .ok (.lload_n 3, 1) := by decide +kernel
theorem dX0_stuckFaceOf_24 : decode cX0_stuckFaceOf 24 = .ok (.land, 1) := by decide +kernel
theorem dX0_stuckFaceOf_25 : decode cX0_stuckFaceOf 25 = .ok (.lconst 0, 1) := by decide +kernel
theorem dX0_stuckFaceOf_26 : decode cX0_stuckFaceOf 26 = .ok (.lcmp, 1) := by decide +kernel
theorem dX0_stuckFaceOf_27 : decode cX0_stuckFaceOf 27 = .ok (.ifCond .ne 7, 3) := by decide +kernel
theorem dX0_stuckFaceOf_30 : decode cX0_stuckFaceOf 30 = .ok (.iconst 0, 1) := by decide +kernel
theorem dX0_stuckFaceOf_31 : decode cX0_stuckFaceOf 31 = .ok (.goto 4, 3) := by decide +kernel
theorem dX0_stuckFaceOf_34 : decode cX0_stuckFaceOf 34 = .ok (.iconst 1, 1) := by decide +kernel
theorem dX0_stuckFaceOf_35 : decode cX0_stuckFaceOf 35 = .ok (.ireturn, 1) := by decide +kernel
set_option maxRecDepth 20000 in
theorem ggX0_fix_X5_dotIn : GoodIn wsX0_fix wsX5_dotIn := goodIn_r _ [7, 8, 9, 6, 10] (by decide +kernel) (by decide +kernel)
set_option maxRecDepth 20000 in
theorem gX0_fix_X5_dotIn_n32 : GoodIn wsX0_fix (wsX5_dotIn) := ggX0_fix_X5_dotIn
set_option maxRecDepth 20000 in
theorem ggX0_fix_X0_withStuck : GoodIn wsX0_fix wsX0_withStuck := goodIn_r _ [15, 1, 2, 3, 16, 17, 18, 19, 20, 21] (by decide +kernel) (by decide +kernel)
set_option maxRecDepth 20000 in
theorem gX0_fix_X0_withStuck : GoodIn wsX0_fix (wsV RX0 38 RX0 yX0_withStuck wsX0_withStuck) := goodIn_app (goodIn_of _ (by decide +kernel)) ggX0_fix_X0_withStuck
theorem dX0_fix_0 : decode cX0_fix 0 = .ok (.iload_n 1, 1) := by decide +kernel
theorem dX0_fix_1 : decode cX0_fix 1 = .ok (.iload_n 2, 1) := by decide +kernel
theorem dX0_fix_2 : decode cX0_fix 2 = .ok (.invokestatic 32, 3) := by decide +kernel
theorem dX0_fix_5 : decode cX0_fix 5 = .ok (.lstore 4, 2) := by decide +kernel
theorem dX0_fix_7 : decode cX0_fix 7 = .ok (.aload_n 0, 1) := by decide +kernel
theorem dX0_fix_8 : decode cX0_fix 8 = .ok (.iload_n 3, 1) := by decide +kernel
theorem dX0_fix_9 : decode cX0_fix 9 = .ok (.iconst (-1), 1) := by decide +kernel
theorem dX0_fix_10 : decode cX0_fix 10 = .ok (.if_icmp .ne 17, 3) := by decide +kernel
theorem dX0_fix_13 : decode cX0_fix 13 = .ok (.aload_n 0, 1) := by decide +kernel
theorem dX0_fix_14 : decode cX0_fix 14 = .ok (.getfield 26, 3) := by decide +kernel
theorem dX0_fix_17 : decode cX0_fix 17 = .ok (.lload 4, 2) := by decide +kernel
theorem dX0_fix_19 : decode cX0_fix 19 = .ok (.ldc2_w 36, 3) := by decide +kernel
theorem dX0_fix_22 : decode cX0_fix 22 = .ok (.lxor, 1) := by decide +kernel
theorem dX0_fix_23 : decode cX0_fix 23 = .ok (.land, 1) := by decide +kernel
theorem dX0_fix_24 : decode cX0_fix 24 = .ok (.goto 10, 3) := by decide +kernel
theorem dX0_fix_27 : decode cX0_fix 27 = .ok (.aload_n 0, 1) := by decide +kernel
theorem dX0_fix_28 : decode cX0_fix 28 = .ok (.getfield 26, 3) := by decide +kernel
theorem dX0_fix_31 : decode cX0_fix 31 = .ok (.lload 4, 2) := by decide +kernel
theorem dX0_fix_33 : decode cX0_fix 33 = .ok (.lor, 1) := by decide +kernel
theorem dX0_fix_34 : decode cX0_fix 34 = .ok (.putfield 26, 3) := by decide +kernel
theorem dX0_fix_37 : decode cX0_fix 37 = .ok (.aload_n 0, 1) := by decide +kernel
theorem dX0_fix_38 : decode cX0_fix 38 = .ok (.iload_n 3, 1) := by decide +kernel
theorem dX0_fix_39 : decode cX0_fix 39 = .ok (.iconst 1, 1) := by decide +kernel
theorem dX0_fix_40 : decode cX0_fix 40 = .ok (.if_icmp .ne 13, 3) := by decide +kernel
theorem dX0_fix_43 : decode cX0_fix 43 = .ok (.aload_n 0, 1) := by decide +kernel
theorem dX0_fix_44 : decode cX0_fix 44 = .ok (.getfield 29, 3) := by decide +kernel
theorem dX0_fix_47 : decode cX0_fix 47 = .ok (.lload 4, 2) := by decide +kernel
theorem dX0_fix_49 : decode cX0_fix 49 = .ok (.lor, 1) := by decide +kernel
theorem dX0_fix_50 : decode cX0_fix 50 = .ok (.goto 14, 3) := by decide +kernel
theorem dX0_fix_53 : decode cX0_fix 53 = .ok (.aload_n 0, 1) := by decide +kernel
theorem dX0_fix_54 : decode cX0_fix 54 = .ok (.getfield 29, 3) := by decide +kernel
theorem dX0_fix_57 : decode cX0_fix 57 = .ok (.lload 4, 2) := by decide +kernel
theorem dX0_fix_59 : decode cX0_fix 59 = .ok (.ldc2_w 36, 3) := by decide +kernel
theorem dX0_fix_62 : decode cX0_fix 62 = .ok (.lxor, 1) := by decide +kernel
theorem dX0_fix_63 : decode cX0_fix 63 = .ok (.land, 1) := by decide +kernel
theorem dX0_fix_64 : decode cX0_fix 64 = .ok (.putfield 29, 3) := by decide +kernel
theorem dX0_fix_67 : decode cX0_fix 67 = .ok (.aload_n 0, 1) := by decide +kernel
theorem dX0_fix_68 : decode cX0_fix 68 = .ok (.aload_n 0, 1) := by decide +kernel
theorem dX0_fix_69 : decode cX0_fix 69 = .ok (.aload_n 0, 1) := by decide +kernel
theorem dX0_fix_70 : decode cX0_fix 70 = .ok (.getfield 22, 3) := by decide +kernel
theorem dX0_fix_73 : decode cX0_fix 73 = .ok (.invokevirtual 38, 3) := by decide +kernel
theorem dX0_fix_76 : decode cX0_fix 76 = .ok (.putfield 22, 3) := by decide +kernel
theorem dX0_fix_79 : decode cX0_fix 79 = .ok (.return_, 1) := by decide +kernel
set_option maxRecDepth 20000 in
theorem ggX0_renewColumn_X5_bitOf : GoodIn wsX0_renewColumn wsX5_bitOf := goodIn_r _ [9] (by decide +kernel) (by decide +kernel)
set_option maxRecDepth 20000 in
theorem gX0_renewColumn_X5_bitOf_n44 : GoodIn wsX0_renewColumn (wsX5_bitOf) := ggX0_renewColumn_X5_bitOf
set_option maxRecDepth 20000 in
theorem ggX0_renewColumn_X5_put : GoodIn wsX0_renewColumn wsX5_put := goodIn_r _ [11] (by decide +kernel) (by decide +kernel)
set_option maxRecDepth 20000 in
theorem gX0_renewColumn_X5_put_n48 : GoodIn wsX0_renewColumn (wsX5_put) := ggX0_renewColumn_X5_put
theorem dX0_renewColumn_0 : decode cX0_renewColumn 0 = .ok (.ldc2_w 42, 3) := by decide +kernel
theorem dX0_renewColumn_3 : decode cX0_renewColumn 3 = .ok (.iload_n 1, 1) := by decide +kernel
theorem dX0_renewColumn_4 : decode cX0_renewColumn 4 = .ok (.iconst 0, 1) := by decide +kernel
theorem dX0_renewColumn_5 : decode cX0_renewColumn 5 = .ok (.invokestatic 44, 3) := by decide +kernel
theorem dX0_renewColumn_8 : decode cX0_renewColumn 8 = .ok (.lshl, 1) := by decide +kernel
theorem dX0_renewColumn_9 : decode cX0_renewColumn 9 = .ok (.ldc2_w 36, 3) := by decide +kernel
theorem dX0_renewColumn_12 : decode cX0_renewColumn 12 = .ok (.lxor, 1) := by decide +kernel
theorem dX0_renewColumn_13 : decode cX0_renewColumn 13 = .ok (.lstore_n 2, 1) := by decide +kernel
theorem dX0_renewColumn_14 : decode cX0_renewColumn 14 = .ok (.aload_n 0, 1) := by decide +kernel
theorem dX0_renewColumn_15 : decode cX0_renewColumn 15 = .ok (.dup, 1) := by decide +kernel
theorem dX0_renewColumn_16 : decode cX0_renewColumn 16 = .ok (.getfield 22, 3) := by decide +kernel
theorem dX0_renewColumn_19 : decode cX0_renewColumn 19 = .ok (.lload_n 2, 1) := by decide +kernel
theorem dX0_renewColumn_20 : decode cX0_renewColumn 20 = .ok (.land, 1) := by decide +kernel
theorem dX0_renewColumn_21 : decode cX0_renewColumn 21 = .ok (.putfield 22, 3) := by decide +kernel
theorem dX0_renewColumn_24 : decode cX0_renewColumn 24 = .ok (.aload_n 0, 1) := by decide +kernel
theorem dX0_renewColumn_25 : decode cX0_renewColumn 25 = .ok (.dup, 1) := by decide +kernel
theorem dX0_renewColumn_26 : decode cX0_renewColumn 26 = .ok (.getfield 26, 3) := by decide +kernel
theorem dX0_renewColumn_29 : decode cX0_renewColumn 29 = .ok (.lload_n 2, 1) := by decide +kernel
theorem dX0_renewColumn_30 : decode cX0_renewColumn 30 = .ok (.land, 1) := by decide +kernel
theorem dX0_renewColumn_31 : decode cX0_renewColumn 31 = .ok (.putfield 26, 3) := by decide +kernel
theorem dX0_renewColumn_34 : decode cX0_renewColumn 34 = .ok (.aload_n 0, 1) := by decide +kernel
theorem dX0_renewColumn_35 : decode cX0_renewColumn 35 = .ok (.dup, 1) := by decide +kernel
theorem dX0_renewColumn_36 : decode cX0_renewColumn 36 = .ok (.getfield 29, 3) := by decide +kernel
theorem dX0_renewColumn_39 : decode cX0_renewColumn 39 = .ok (.lload_n 2, 1) := by decide +kernel
theorem dX0_renewColumn_40 : decode cX0_renewColumn 40 = .ok (.land, 1) := by decide +kernel
theorem dX0_renewColumn_41 : decode cX0_renewColumn 41 = .ok (.putfield 29, 3) := by decide +kernel
theorem dX0_renewColumn_44 : decode cX0_renewColumn 44 = .ok (.aload_n 0, 1) := by decide +kernel
theorem dX0_renewColumn_45 : decode cX0_renewColumn 45 = .ok (.getfield 15, 3) := by decide +kernel
theorem dX0_renewColumn_48 : decode cX0_renewColumn 48 = .ok (.iload_n 1, 1) := by decide +kernel
theorem dX0_renewColumn_49 : decode cX0_renewColumn 49 = .ok (.iconst 0, 1) := by decide +kernel
theorem dX0_renewColumn_50 : decode cX0_renewColumn 50 = .ok (.invokestatic 48, 3) := by decide +kernel
theorem dX0_renewColumn_53 : decode cX0_renewColumn 53 = .ok (.return_, 1) := by decide +kernel
theorem dX0_withStuck_0 : decode cX0_withStuck 0 = .ok (.lload_n 1, 1) := by decide +kernel
theorem dX0_withStuck_1 : decode cX0_withStuck 1 = .ok (.aload_n 0, 1) := by decide +kernel
theorem dX0_withStuck_2 : decode cX0_withStuck 2 = .ok (.getfield 26, 3) := by decide +kernel
theorem dX0_withStuck_5 : decode cX0_withStuck 5 = .ok (.ldc2_w 36, 3) := by decide +kernel
theorem dX0_withStuck_8 : decode cX0_withStuck 8 = .ok (.lxor, 1) := by decide +kernel
theorem dX0_withStuck_9 : decode cX0_withStuck 9 = .ok (.land, 1) := by decide +kernel
theorem dX0_withStuck_10 : decode cX0_withStuck 10 = .ok (.aload_n 0, 1) := by decide +kernel
theorem dX0_withStuck_11 : decode cX0_withStuck 11 = .ok (.getfield 29, 3) := by decide +kernel
theorem dX0_withStuck_14 : decode cX0_withStuck 14 = .ok (.lor, 1) := by decide +kernel
theorem dX0_withStuck_15 : decode cX0_withStuck 15 = .ok (.lreturn, 1) := by decide +kernel
set_option maxRecDepth 20000 in
theorem ggX0_turnTo_X5_at : GoodIn wsX0_turnTo wsX5_at := goodIn_r _ [7] (by decide +kernel) (by decide +kernel)
set_option maxRecDepth 20000 in
theorem gX0_turnTo_X5_at_n52 : GoodIn wsX0_turnTo (wsX5_at) := ggX0_turnTo_X5_at
set_option maxRecDepth 20000 in
theorem ggX0_turnTo_X5_setIn : GoodIn wsX0_turnTo wsX5_setIn := goodIn_r _ [9] (by decide +kernel) (by decide +kernel)
set_option maxRecDepth 20000 in
theorem gX0_turnTo_X5_setIn_n56 : GoodIn wsX0_turnTo (wsX5_setIn) := ggX0_turnTo_X5_setIn
set_option maxRecDepth 20000 in
theorem ggX0_turnTo_J6_bitCount_0f7a4 : GoodIn wsX0_turnTo wsJ6_bitCount_0f7a4 := goodIn_r _ [13, 14, 15, 16] (by decide +kernel) (by decide +kernel)
set_option maxRecDepth 20000 in
theorem gX0_turnTo_J6_bitCount_0f7a4 : GoodIn wsX0_turnTo (va_wsS RX0 60 yJ6_bitCount_0f7a4 wsJ6_bitCount_0f7a4) := goodIn_app (goodIn_of _ (by decide +kernel)) ggX0_turnTo_J6_bitCount_0f7a4
set_option maxRecDepth 20000 in
theorem ggX0_turnTo_X5_put : GoodIn wsX0_turnTo wsX5_put := goodIn_r _ [18] (by decide +kernel) (by decide +kernel)
set_option maxRecDepth 20000 in
theorem gX0_turnTo_X5_put_n48 : GoodIn wsX0_turnTo (wsX5_put) := ggX0_turnTo_X5_put
theorem dX0_turnTo_0 : decode cX0_turnTo 0 = .ok (.aload_n 0, 1) := by decide +kernel
theorem dX0_turnTo_1 : decode cX0_turnTo 1 = .ok (.getfield 22, 3) := by decide +kernel
theorem dX0_turnTo_4 : decode cX0_turnTo 4 = .ok (.lload_n 1, 1) := by decide +kernel
theorem dX0_turnTo_5 : decode cX0_turnTo 5 = .ok (.lxor, 1) := by decide +kernel
theorem dX0_turnTo_6 : decode cX0_turnTo 6 = .ok (.lstore_n 3, 1) := by decide +kernel
theorem dX0_turnTo_7 : decode cX0_turnTo 7 = .ok (.iconst 0, 1) := by decide +kernel
theorem dX0_turnTo_8 : decode cX0_turnTo 8 = .ok (.istore 5, 2) := by decide +kernel
theorem dX0_turnTo_10 : decode cX0_turnTo 10 = .ok (.iload 5, 2) := by decide +kernel
theorem dX0_turnTo_12 : decode cX0_turnTo 12 = .ok (.aload_n 0, 1) := by decide +kernel
theorem dX0_turnTo_13 : decode cX0_turnTo 13 = .ok (.getfield 18, 3) := by decide +kernel
theorem dX0_turnTo_16 : decode cX0_turnTo 16 = .ok (.if_icmp .ge 37, 3) := by decide +kernel
theorem dX0_turnTo_19 : decode cX0_turnTo 19 = .ok (.aload_n 0, 1) := by decide +kernel
theorem dX0_turnTo_20 : decode cX0_turnTo 20 = .ok (.getfield 15, 3) := by decide +kernel
theorem dX0_turnTo_23 : decode cX0_turnTo 23 = .ok (.iload 5, 2) := by decide +kernel
theorem dX0_turnTo_25 : decode cX0_turnTo 25 = .ok (.aload_n 0, 1) := by decide +kernel
theorem dX0_turnTo_26 : decode cX0_turnTo 26 = .ok (.getfield 15, 3) := by decide +kernel
theorem dX0_turnTo_29 : decode cX0_turnTo 29 = .ok (.iload 5, 2) := by decide +kernel
theorem dX0_turnTo_31 : decode cX0_turnTo 31 = .ok (.invokestatic 52, 3) := by decide +kernel
theorem dX0_turnTo_34 : decode cX0_turnTo 34 = .ok (.lload_n 3, 1) := by decide +kernel
theorem dX0_turnTo_35 : decode cX0_turnTo 35 = .ok (.iload 5, 2) := by decide +kernel
theorem dX0_turnTo_37 : decode cX0_turnTo 37 = .ok (.invokestatic 56, 3) := by decide +kernel
theorem dX0_turnTo_40 : decode cX0_turnTo 40 = .ok (.invokestatic 60, 3) := by decide +kernel
theorem dX0_turnTo_43 : decode cX0_turnTo 43 = .ok (.iadd, 1) := by decide +kernel
theorem dX0_turnTo_44 : decode cX0_turnTo 44 = .ok (.invokestatic 48, 3) := by decide +kernel
theorem dX0_turnTo_47 : decode cX0_turnTo 47 = .ok (.iinc 5 1, 3) := by decide +kernel
theorem dX0_turnTo_50 : decode cX0_turnTo 50 = .ok (.goto (-40), 3) := by decide +kernel
theorem dX0_turnTo_53 : decode cX0_turnTo 53 = .ok (.iconst 0, 1) := by decide +kernel
theorem dX0_turnTo_54 : decode cX0_turnTo 54 = .ok (.istore 5, 2) := by decide +kernel
theorem dX0_turnTo_56 : decode cX0_turnTo 56 = .ok (.iload 5, 2) := by decide +kernel
theorem dX0_turnTo_58 : decode cX0_turnTo 58 = .ok (.aload_n 0, 1) := by decide +kernel
theorem dX0_turnTo_59 : decode cX0_turnTo 59 = .ok (.getfield 9, 3) := by decide +kernel
theorem dX0_turnTo_62 : decode cX0_turnTo 62 = .ok (.arraylength, 1) := by decide +kernel
theorem dX0_turnTo_63 : decode cX0_turnTo 63 = .ok (.if_icmp .ge 26, 3) := by decide +kernel
theorem dX0_turnTo_66 : decode cX0_turnTo 66 = .ok (.aload_n 0, 1) := by decide +kernel
theorem dX0_turnTo_67 : decode cX0_turnTo 67 = .ok (.getfield 9, 3) := by decide +kernel
theorem dX0_turnTo_70 : decode cX0_turnTo 70 = .ok (.iload 5, 2) := by decide +kernel
theorem dX0_turnTo_72 : decode cX0_turnTo 72 = .ok (.dup2, 1) := by decide +kernel
theorem dX0_turnTo_73 : decode cX0_turnTo 73 = .ok (.iaload, 1) := by decide +kernel
theorem dX0_turnTo_74 : decode cX0_turnTo 74 = .ok (.lload_n 3, 1) := by decide +kernel
theorem dX0_turnTo_75 : decode cX0_turnTo 75 = .ok (.iload 5, 2) := by decide +kernel
theorem dX0_turnTo_77 : decode cX0_turnTo 77 = .ok (.lushr, 1) := by decide +kernel
theorem dX0_turnTo_78 : decode cX0_turnTo 78 = .ok (.lconst 1, 1) := by decide +kernel
theorem dX0_turnTo_79 : decode cX0_turnTo 79 = .ok (.land, 1) := by decide +kernel
theorem dX0_turnTo_80 : decode cX0_turnTo 80 = .ok (.l2i, 1) := by decide +kernel
theorem dX0_turnTo_81 : decode cX0_turnTo 81 = .ok (.iadd, 1) := by decide +kernel
theorem dX0_turnTo_82 : decode cX0_turnTo 82 = .ok (.iastore, 1) := by decide +kernel
theorem dX0_turnTo_83 : decode cX0_turnTo 83 = .ok (.iinc 5 1, 3) := by decide +kernel
theorem dX0_turnTo_86 : decode cX0_turnTo 86 = .ok (.goto (-30), 3) := by decide +kernel
theorem dX0_turnTo_89 : decode cX0_turnTo 89 = .ok (.aload_n 0, 1) := by decide +kernel
theorem dX0_turnTo_90 : decode cX0_turnTo 90 = .ok (.lload_n 1, 1) := by decide +kernel
theorem dX0_turnTo_91 : decode cX0_turnTo 91 = .ok (.putfield 22, 3) := by decide +kernel
theorem dX0_turnTo_94 : decode cX0_turnTo 94 = .ok (.return_, 1) := by decide +kernel
set_option maxRecDepth 20000 in
theorem ggX0_flipsIn_X5_bitOf : GoodIn wsX0_flipsIn wsX5_bitOf := goodIn_r _ [4] (by decide +kernel) (by decide +kernel)
set_option maxRecDepth 20000 in
theorem gX0_flipsIn_X5_bitOf_n44 : GoodIn wsX0_flipsIn (wsX5_bitOf) := ggX0_flipsIn_X5_bitOf
set_option maxRecDepth 20000 in
theorem ggX0_flipsIn_X5_at : GoodIn wsX0_flipsIn wsX5_at := goodIn_r _ [6] (by decide +kernel) (by decide +kernel)
set_option maxRecDepth 20000 in
theorem gX0_flipsIn_X5_at_n52 : GoodIn wsX0_flipsIn (wsX5_at) := ggX0_flipsIn_X5_at
theorem dX0_flipsIn_0 : decode cX0_flipsIn 0 = .ok (.iconst 0, 1) := by decide +kernel
theorem dX0_flipsIn_1 : decode cX0_flipsIn 1 = .ok (.istore_n 2, 1) := by decide +kernel
theorem dX0_flipsIn_2 : decode cX0_flipsIn 2 = .ok (.iconst 0, 1) := by decide +kernel
theorem dX0_flipsIn_3 : decode cX0_flipsIn 3 = .ok (.istore_n 3, 1) := by decide +kernel
theorem dX0_flipsIn_4 : decode cX0_flipsIn 4 = .ok (.iload_n 3, 1) := by decide +kernel
theorem dX0_flipsIn_5 : decode cX0_flipsIn 5 = .ok (.iconst 5, 1) := by decide +kernel
theorem dX0_flipsIn_6 : decode cX0_flipsIn 6 = .ok (.if_icmp .ge 24, 3) := by decide +kernel
theorem dX0_flipsIn_9 : decode cX0_flipsIn 9 = .ok (.iload_n 2, 1) := by decide +kernel
theorem dX0_flipsIn_10 : decode cX0_flipsIn 10 = .ok (.aload_n 0, 1) := by decide +kernel
theorem dX0_flipsIn_11 : decode cX0_flipsIn 11 = .ok (.getfield 9, 3) := by decide +kernel
theorem dX0_flipsIn_14 : decode cX0_flipsIn 14 = .ok (.iload_n 1, 1) := by decide +kernel
theorem dX0_flipsIn_15 : decode cX0_flipsIn 15 = .ok (.iload_n 3, 1) := by decide +kernel
theorem dX0_flipsIn_16 : decode cX0_flipsIn 16 = .ok (.invokestatic 44, 3) := by decide +kernel
theorem dX0_flipsIn_19 : decode cX0_flipsIn 19 = .ok (.invokestatic 52, 3) := by decide +kernel
theorem dX0_flipsIn_22 : decode cX0_flipsIn 22 = .ok (.iadd, 1) := by decide +kernel
theorem dX0_flipsIn_23 : decode cX0_flipsIn 23 = .ok (.istore_n 2, 1) := by decide +kernel
theorem dX0_flipsIn_24 : decode cX0_flipsIn 24 = .ok (.iinc 3 1, 3) := by decide +kernel
theorem dX0_flipsIn_27 : decode cX0_flipsIn 27 = .ok (.goto (-23), 3) := by decide +kernel
theorem dX0_flipsIn_30 : decode cX0_flipsIn 30 = .ok (.iload_n 2, 1) := by decide +kernel
theorem dX0_flipsIn_31 : decode cX0_flipsIn 31 = .ok (.ireturn, 1) := by decide +kernel
set_option maxRecDepth 20000 in
theorem ggX0_allFlips_X0_flipsIn : GoodIn wsX0_allFlips wsX0_flipsIn := goodIn_r _ [6, 7, 8, 9, 10, 11, 12, 13, 14, 15, 16, 17, 18] (by decide +kernel) (by decide +kernel)
set_option maxRecDepth 20000 in
theorem gX0_allFlips_X0_flipsIn : GoodIn wsX0_allFlips (wsV RX0 66 RX0 yX0_flipsIn wsX0_flipsIn) := goodIn_app (goodIn_of _ (by decide +kernel)) ggX0_allFlips_X0_flipsIn
theorem dX0_allFlips_0 : decode cX0_allFlips 0 = .ok (.iconst 0, 1) := by decide +kernel
theorem dX0_allFlips_1 : decode cX0_allFlips 1 = .ok (.istore_n 1, 1) := by decide +kernel
theorem dX0_allFlips_2 : decode cX0_allFlips 2 = .ok (.iconst 0, 1) := by decide +kernel
theorem dX0_allFlips_3 : decode cX0_allFlips 3 = .ok (.istore_n 2, 1) := by decide +kernel
theorem dX0_allFlips_4 : decode cX0_allFlips 4 = .ok (.iload_n 2, 1) := by decide +kernel
theorem dX0_allFlips_5 : decode cX0_allFlips 5 = .ok (.aload_n 0, 1) := by decide +kernel
theorem dX0_allFlips_6 : decode cX0_allFlips 6 = .ok (.getfield 18, 3) := by decide +kernel
theorem dX0_allFlips_9 : decode cX0_allFlips 9 = .ok (.if_icmp .ge 17, 3) := by decide +kernel
theorem dX0_allFlips_12 : decode cX0_allFlips 12 = .ok (.iload_n 1, 1) := by decide +kernel
theorem dX0_allFlips_13 : decode cX0_allFlips 13 = .ok (.aload_n 0, 1) := by decide +kernel
theorem dX0_allFlips_14 : decode cX0_allFlips 14 = .ok (.iload_n 2, 1) := by decide +kernel
theorem dX0_allFlips_15 : decode cX0_allFlips 15 = .ok (.invokevirtual 66, 3) := by decide +kernel
theorem dX0_allFlips_18 : decode cX0_allFlips 18 = .ok (.iadd, 1) := by decide +kernel
theorem dX0_allFlips_19 : decode cX0_allFlips 19 = .ok (.istore_n 1, 1) := by decide +kernel
theorem dX0_allFlips_20 : decode cX0_allFlips 20 = .ok (.iinc 2 1, 3) := by decide +kernel
theorem dX0_allFlips_23 : decode cX0_allFlips 23 = .ok (.goto (-19), 3) := by decide +kernel
theorem dX0_allFlips_26 : decode cX0_allFlips 26 = .ok (.iload_n 1, 1) := by decide +kernel
theorem dX0_allFlips_27 : decode cX0_allFlips 27 = .ok (.ireturn, 1) := by decide +kernel
set_option maxRecDepth 20000 in
theorem ggX0_isTrue_X5_at : GoodIn wsX0_isTrue wsX5_at := goodIn_r _ [6] (by decide +kernel) (by decide +kernel)
set_option maxRecDepth 20000 in
theorem gX0_isTrue_X5_at_n52 : GoodIn wsX0_isTrue (wsX5_at) := ggX0_isTrue_X5_at
set_option maxRecDepth 20000 in
theorem ggX0_isTrue_X0_flipsIn : GoodIn wsX0_isTrue wsX0_flipsIn := goodIn_r _ [11, 12, 13, 5, 14, 4, 6, 22, 23, 24, 25, 26, 27] (by decide +kernel) (by decide +kernel)
set_option maxRecDepth 20000 in
theorem gX0_isTrue_X0_flipsIn : GoodIn wsX0_isTrue (wsV RX0 66 RX0 yX0_flipsIn wsX0_flipsIn) := goodIn_app (goodIn_of _ (by decide +kernel)) ggX0_isTrue_X0_flipsIn
set_option maxRecDepth 20000 in
theorem ggX0_isTrue_X0_withStuck : GoodIn wsX0_isTrue wsX0_withStuck := goodIn_r _ [18, 19, 20, 21, 22, 23, 24, 25, 26, 27] (by decide +kernel) (by decide +kernel)
set_option maxRecDepth 20000 in
theorem gX0_isTrue_X0_withStuck : GoodIn wsX0_isTrue (wsV RX0 38 RX0 yX0_withStuck wsX0_withStuck) := goodIn_app (goodIn_of _ (by decide +kernel)) ggX0_isTrue_X0_withStuck
theorem dX0_isTrue_0 : decode cX0_isTrue 0 = .ok (.iconst 0, 1) := by decide +kernel
theorem dX0_isTrue_1 : decode cX0_isTrue 1 = .ok (.istore_n 1, 1) := by decide +kernel
theorem dX0_isTrue_2 : decode cX0_isTrue 2 = .ok (.iload_n 1, 1) := by decide +kernel
theorem dX0_isTrue_3 : decode cX0_isTrue 3 = .ok (.aload_n 0, 1) := by decide +kernel
theorem dX0_isTrue_4 : decode cX0_isTrue 4 = .ok (.getfield 18, 3) := by decide +kernel
theorem dX0_isTrue_7 : decode cX0_isTrue 7 = .ok (.if_icmp .ge 27, 3) := by decide +kernel
theorem dX0_isTrue_10 : decode cX0_isTrue 10 = .ok (.aload_n 0, 1) := by decide +kernel
theorem dX0_isTrue_11 : decode cX0_isTrue 11 = .ok (.getfield 15, 3) := by decide +kernel
theorem dX0_isTrue_14 : decode cX0_isTrue 14 = .ok (.iload_n 1, 1) := by decide +kernel
theorem dX0_isTrue_15 : decode cX0_isTrue 15 = .ok (.invokestatic 52, 3) := by decide +kernel
theorem dX0_isTrue_18 : decode cX0_isTrue 18 = .ok (.aload_n 0, 1) := by decide +kernel
theorem dX0_isTrue_19 : decode cX0_isTrue 19 = .ok (.iload_n 1, 1) := by decide +kernel
theorem dX0_isTrue_20 : decode cX0_isTrue 20 = .ok (.invokevirtual 66, 3) := by decide +kernel
theorem dX0_isTrue_23 : decode cX0_isTrue 23 = .ok (.if_icmp .le 5, 3) := by decide +kernel
theorem dX0_isTrue_26 : decode cX0_isTrue 26 = .ok (.iconst 0, 1) := by decide +kernel
theorem dX0_isTrue_27 : decode cX0_isTrue 27 = .ok (.ireturn, 1) := by decide +kernel
theorem dX0_isTrue_28 : decode cX0_isTrue 28 = .ok (.iinc 1 1, 3) := by decide +kernel
theorem dX0_isTrue_31 : decode cX0_isTrue 31 = .ok (.goto (-29), 3) := by decide +kernel
theorem dX0_isTrue_34 : decode cX0_isTrue 34 = .ok (.aload_n 0, 1) := by decide +kernel
theorem dX0_isTrue_35 : decode cX0_isTrue 35 = .ok (.aload_n 0, 1) := by decide +kernel
theorem dX0_isTrue_36 : decode cX0_isTrue 36 = .ok (.getfield 22, 3) := by decide +kernel
theorem dX0_isTrue_39 : decode cX0_isTrue 39 = .ok (.invokevirtual 38, 3) := by decide +kernel
theorem dX0_isTrue_42 : decode cX0_isTrue 42 = .ok (.aload_n 0, 1) := by decide +kernel
theorem dX0_isTrue_43 : decode cX0_isTrue 43 = .ok (.getfield 22, 3) := by decide +kernel
theorem dX0_isTrue_46 : decode cX0_isTrue 46 = .ok (.lcmp, 1) := by decide +kernel
theorem dX0_isTrue_47 : decode cX0_isTrue 47 = .ok (.ifCond .ne 7, 3) := by decide +kernel
theorem dX0_isTrue_50 : decode cX0_isTrue 50 = .ok (.iconst 1, 1) := by decide +kernel
theorem dX0_isTrue_51 : decode cX0_isTrue 51 = .ok (.goto 4, 3) := by decide +kernel
theorem dX0_isTrue_54 : decode cX0_isTrue 54 = .ok (.iconst 0, 1) := by decide +kernel
theorem dX0_isTrue_55 : decode cX0_isTrue 55 = .ok (.ireturn, 1) := by decide +kernel
theorem dX1_init_0 : decode cX1_init 0 = .ok (.aload_n 0, 1) := by decide +kernel
theorem dX1_init_1 : decode cX1_init 1 = .ok (.invokespecial 3, 3) := by decide +kernel
theorem dX1_init_4 : decode cX1_init 4 = .ok (.aload_n 0, 1) := by decide +kernel
theorem dX1_init_5 : decode cX1_init 5 = .ok (.bipush 7, 2) := by decide +kernel
theorem dX1_init_7 : decode cX1_init 7 = .ok (.newarray .int, 2) := by decide +kernel
theorem dX1_init_9 : decode cX1_init 9 = .ok (.putfield 9, 3) := by decide +kernel
theorem dX1_init_12 : decode cX1_init 12 = .ok (.aload_n 0, 1) := by decide +kernel
theorem dX1_init_13 : decode cX1_init 13 = .ok (.bipush 7, 2) := by decide +kernel
theorem dX1_init_15 : decode cX1_init 15 = .ok (.newarray .int, 2) := by decide +kernel
theorem dX1_init_17 : decode cX1_init 17 = .ok (.putfield 15, 3) := by decide +kernel
theorem dX1_init_20 : decode cX1_init 20 = .ok (.aload_n 0, 1) := by decide +kernel
theorem dX1_init_21 : decode cX1_init 21 = .ok (.bipush 8, 2) := by decide +kernel
theorem dX1_init_23 : decode cX1_init 23 = .ok (.newarray .int, 2) := by decide +kernel
theorem dX1_init_25 : decode cX1_init 25 = .ok (.putfield 18, 3) := by decide +kernel
theorem dX1_init_28 : decode cX1_init 28 = .ok (.aload_n 0, 1) := by decide +kernel
theorem dX1_init_29 : decode cX1_init 29 = .ok (.bipush 8, 2) := by decide +kernel
theorem dX1_init_31 : decode cX1_init 31 = .ok (.newarray .int, 2) := by decide +kernel
theorem dX1_init_33 : decode cX1_init 33 = .ok (.putfield 21, 3) := by decide +kernel
theorem dX1_init_36 : decode cX1_init 36 = .ok (.aload_n 0, 1) := by decide +kernel
theorem dX1_init_37 : decode cX1_init 37 = .ok (.bipush 8, 2) := by decide +kernel
theorem dX1_init_39 : decode cX1_init 39 = .ok (.newarray .long, 2) := by decide +kernel
theorem dX1_init_41 : decode cX1_init 41 = .ok (.putfield 24, 3) := by decide +kernel
theorem dX1_init_44 : decode cX1_init 44 = .ok (.return_, 1) := by decide +kernel
set_option maxRecDepth 20000 in
theorem ggX1_addLetter_X5_put : GoodIn wsX1_addLetter wsX5_put := goodIn_r _ [6] (by decide +kernel) (by decide +kernel)
set_option maxRecDepth 20000 in
theorem gX1_addLetter_X5_put_n32 : GoodIn wsX1_addLetter (wsX5_put) := ggX1_addLetter_X5_put
theorem dX1_addLetter_0 : decode cX1_addLetter 0 = .ok (.aload_n 0, 1) := by decide +kernel
theorem dX1_addLetter_1 : decode cX1_addLetter 1 = .ok (.dup, 1) := by decide +kernel
theorem dX1_addLetter_2 : decode cX1_addLetter 2 = .ok (.getfield 28, 3) := by decide +kernel
theorem dX1_addLetter_5 : decode cX1_addLetter 5 = .ok (.iconst 1, 1) := by decide +kernel
theorem dX1_addLetter_6 : decode cX1_addLetter 6 = .ok (.iadd, 1) := by decide +kernel
theorem dX1_addLetter_7 : decode cX1_addLetter 7 = .ok (.putfield 28, 3) := by decide +kernel
theorem dX1_addLetter_10 : decode cX1_addLetter 10 = .ok (.aload_n 0, 1) := by decide +kernel
theorem dX1_addLetter_11 : decode cX1_addLetter 11 = .ok (.getfield 9, 3) := by decide +kernel
theorem dX1_addLetter_14 : decode cX1_addLetter 14 = .ok (.aload_n 0, 1) := by decide +kernel
theorem dX1_addLetter_15 : decode cX1_addLetter 15 = .ok (.getfield 28, 3) := by decide +kernel
theorem dX1_addLetter_18 : decode cX1_addLetter 18 = .ok (.iload_n 1, 1) := by decide +kernel
theorem dX1_addLetter_19 : decode cX1_addLetter 19 = .ok (.invokestatic 32, 3) := by decide +kernel
theorem dX1_addLetter_22 : decode cX1_addLetter 22 = .ok (.aload_n 0, 1) := by decide +kernel
theorem dX1_addLetter_23 : decode cX1_addLetter 23 = .ok (.getfield 15, 3) := by decide +kernel
theorem dX1_addLetter_26 : decode cX1_addLetter 26 = .ok (.aload_n 0, 1) := by decide +kernel
theorem dX1_addLetter_27 : decode cX1_addLetter 27 = .ok (.getfield 28, 3) := by decide +kernel
theorem dX1_addLetter_30 : decode cX1_addLetter 30 = .ok (.iload_n 2, 1) := by decide +kernel
theorem dX1_addLetter_31 : decode cX1_addLetter 31 = .ok (.invokestatic 32, 3) := by decide +kernel
theorem dX1_addLetter_34 : decode cX1_addLetter 34 = .ok (.aload_n 0, 1) := by decide +kernel
theorem dX1_addLetter_35 : decode cX1_addLetter 35 = .ok (.getfield 28, 3) := by decide +kernel
theorem dX1_addLetter_38 : decode cX1_addLetter 38 = .ok (.ireturn, 1) := by decide +kernel
theorem dX1_canSpell_0 : decode cX1_canSpell 0 = .ok (.iload_n 1, 1) := by decide +kernel
theorem dX1_canSpell_1 : decode cX1_canSpell 1 = .ok (.iconst 1, 1) := by decide +kernel
theorem dX1_canSpell_2 : decode cX1_canSpell 2 = .ok (.if_icmp .lt 10, 3) := by decide +kernel
theorem dX1_canSpell_5 : decode cX1_canSpell 5 = .ok (.iload_n 1, 1) := by decide +kernel
theorem dX1_canSpell_6 : decode cX1_canSpell 6 = .ok (.sipush 9999, 3) := by decide +kernel
theorem dX1_canSpell_9 : decode cX1_canSpell 9 = .ok (.if_icmp .le 5, 3) := by decide +kernel
theorem dX1_canSpell_12 : decode cX1_canSpell 12 = .ok (.iconst 0, 1) := by decide +kernel
theorem dX1_canSpell_13 : decode cX1_canSpell 13 = .ok (.ireturn, 1) := by decide +kernel
theorem dX1_canSpell_14 : decode cX1_canSpell 14 = .ok (.iload_n 1, 1) := by decide +kernel
theorem dX1_canSpell_15 : decode cX1_canSpell 15 = .ok (.istore_n 2, 1) := by decide +kernel
theorem dX1_canSpell_16 : decode cX1_canSpell 16 = .ok (.iconst 0, 1) := by decide +kernel
theorem dX1_canSpell_17 : decode cX1_canSpell 17 = .ok (.istore_n 3, 1) := by decide +kernel
theorem dX1_canSpell_18 : decode cX1_canSpell 18 = .ok (.iload_n 3, 1) := by decide +kernel
theorem dX1_canSpell_19 : decode cX1_canSpell 19 = .ok (.iconst 4, 1) := by decide +kernel
theorem dX1_canSpell_20 : decode cX1_canSpell 20 = .ok (.if_icmp .ge 41, 3) := by decide +kernel
theorem dX1_canSpell_23 : decode cX1_canSpell 23 = .ok (.iload_n 2, 1) := by decide +kernel
theorem dX1_canSpell_24 : decode cX1_canSpell 24 = .ok (.ifCond .le 37, 3) := by decide +kernel
theorem dX1_canSpell_27 : decode cX1_canSpell 27 = .ok (.iload_n 2, 1) := by decide +kernel
theorem dX1_canSpell_28 : decode cX1_canSpell 28 = .ok (.bipush 10, 2) := by decide +kernel
theorem dX1_canSpell_30 : decode cX1_canSpell 30 = .ok (.irem, 1) := by decide +kernel
theorem dX1_canSpell_31 : decode cX1_canSpell 31 = .ok (.istore 4, 2) := by decide +kernel
theorem dX1_canSpell_33 : decode cX1_canSpell 33 = .ok (.iload 4, 2) := by decide +kernel
theorem dX1_canSpell_35 : decode cX1_canSpell 35 = .ok (.iconst 1, 1) := by decide +kernel
theorem dX1_canSpell_36 : decode cX1_canSpell 36 = .ok (.if_icmp .lt 12, 3) := by decide +kernel
theorem dX1_canSpell_39 : decode cX1_canSpell 39 = .ok (.iload 4, 2) := by decide +kernel
theorem dX1_canSpell_41 : decode cX1_canSpell 41 = .ok (.aload_n 0, 1) := by decide +kernel
theorem dX1_canSpell_42 : decode cX1_canSpell 42 = .ok (.getfield 28, 3) := by decide +kernel
theorem dX1_canSpell_45 : decode cX1_canSpell 45 = .ok (.if_icmp .le 5, 3) := by decide +kernel
theorem dX1_canSpell_48 : decode cX1_canSpell 48 = .ok (.iconst 0, 1) := by decide +kernel
theorem dX1_canSpell_49 : decode cX1_canSpell 49 = .ok (.ireturn, 1) := by decide +kernel
theorem dX1_canSpell_50 : decode cX1_canSpell 50 = .ok (.iload_n 2, 1) := by decide +kernel
theorem dX1_canSpell_51 : decode cX1_canSpell 51 = .ok (.bipush 10, 2) := by decide +kernel
theorem dX1_canSpell_53 : decode cX1_canSpell 53 = .ok (.idiv, 1) := by decide +kernel
theorem dX1_canSpell_54 : decode cX1_canSpell 54 = .ok (.istore_n 2, 1) := by decide +kernel
theorem dX1_canSpell_55 : decode cX1_canSpell 55 = .ok (.iinc 3 1, 3) := by decide +kernel
theorem dX1_canSpell_58 : decode cX1_canSpell 58 = .ok (.goto (-40), 3) := by decide +kernel
theorem dX1_canSpell_61 : decode cX1_canSpell 61 = .ok (.iconst 1, 1) := by decide +kernel
theorem dX1_canSpell_62 : decode cX1_canSpell 62 = .ok (.ireturn, 1) := by decide +kernel
set_option maxRecDepth 20000 in
theorem ggX1_hasRow_X5_at : GoodIn wsX1_hasRow wsX5_at := goodIn_r _ [5] (by decide +kernel) (by decide +kernel)
set_option maxRecDepth 20000 in
theorem gX1_hasRow_X5_at_n39 : GoodIn wsX1_hasRow (wsX5_at) := ggX1_hasRow_X5_at
theorem dX1_hasRow_0 : decode cX1_hasRow 0 = .ok (.iconst 0, 1) := by decide +kernel
theorem dX1_hasRow_1 : decode cX1_hasRow 1 = .ok (.istore_n 2, 1) := by decide +kernel
theorem dX1_hasRow_2 : decode cX1_hasRow 2 = .ok (.iload_n 2, 1) := by decide +kernel
theorem dX1_hasRow_3 : decode cX1_hasRow 3 = .ok (.aload_n 0, 1) := by decide +kernel
theorem dX1_hasRow_4 : decode cX1_hasRow 4 = .ok (.getfield 36, 3) := by decide +kernel
theorem dX1_hasRow_7 : decode cX1_hasRow 7 = .ok (.if_icmp .ge 23, 3) := by decide +kernel
theorem dX1_hasRow_10 : decode cX1_hasRow 10 = .ok (.aload_n 0, 1) := by decide +kernel
theorem dX1_hasRow_11 : decode cX1_hasRow 11 = .ok (.getfield 18, 3) := by decide +kernel
theorem dX1_hasRow_14 : decode cX1_hasRow 14 = .ok (.iload_n 2, 1) := by decide +kernel
theorem dX1_hasRow_15 : decode cX1_hasRow 15 = .ok (.invokestatic 39, 3) := by decide +kernel
theorem dX1_hasRow_18 : decode cX1_hasRow 18 = .ok (.iload_n 1, 1) := by decide +kernel
theorem dX1_hasRow_19 : decode cX1_hasRow 19 = .ok (.if_icmp .ne 5, 3) := by decide +kernel
theorem dX1_hasRow_22 : decode cX1_hasRow 22 = .ok (.iconst 1, 1) := by decide +kernel
theorem dX1_hasRow_23 : decode cX1_hasRow 23 = .ok (.ireturn, 1) := by decide +kernel
theorem dX1_hasRow_24 : decode cX1_hasRow 24 = .ok (.iinc 2 1, 3) := by decide +kernel
theorem dX1_hasRow_27 : decode cX1_hasRow 27 = .ok (.goto (-25), 3) := by decide +kernel
theorem dX1_hasRow_30 : decode cX1_hasRow 30 = .ok (.iconst 0, 1) := by decide +kernel
theorem dX1_hasRow_31 : decode cX1_hasRow 31 = .ok (.ireturn, 1) := by decide +kernel
set_option maxRecDepth 20000 in
theorem ggX1_addLine_X1_letterFrom : GoodIn wsX1_addLine wsX1_letterFrom := goodIn_r _ [10, 11, 12, 13, 14, 15, 16, 21, 22, 23, 24, 25, 26, 27] (by decide +kernel) (by decide +kernel)
set_option maxRecDepth 20000 in
theorem gX1_addLine_X1_letterFrom : GoodIn wsX1_addLine (wsV RX1 43 RX1 yX1_letterFrom wsX1_letterFrom) := goodIn_app (goodIn_of _ (by decide +kernel)) ggX1_addLine_X1_letterFrom
set_option maxRecDepth 20000 in
theorem ggX1_addLine_X5_at : GoodIn wsX1_addLine wsX5_at := goodIn_r _ [14] (by decide +kernel) (by decide +kernel)
set_option maxRecDepth 20000 in
theorem gX1_addLine_X5_at_n39 : GoodIn wsX1_addLine (wsX5_at) := ggX1_addLine_X5_at
set_option maxRecDepth 20000 in
theorem ggX1_addLine_X5_put : GoodIn wsX1_addLine wsX5_put := goodIn_r _ [18] (by decide +kernel) (by decide +kernel)
set_option maxRecDepth 20000 in
theorem gX1_addLine_X5_put_n32 : GoodIn wsX1_addLine (wsX5_put) := ggX1_addLine_X5_put
set_option maxRecDepth 20000 in
theorem ggX1_addLine_X5_put_ : GoodIn wsX1_addLine wsX5_put_ := goodIn_r _ [20] (by decide +kernel) (by decide +kernel)
set_option maxRecDepth 20000 in
theorem gX1_addLine_X5_put__n47 : GoodIn wsX1_addLine (wsX5_put_) := ggX1_addLine_X5_put_
theorem dX1_addLine_0 : decode cX1_addLine 0 = .ok (.lconst 0, 1) := by decide +kernel
theorem dX1_addLine_1 : decode cX1_addLine 1 = .ok (.lstore_n 2, 1) := by decide +kernel
theorem dX1_addLine_2 : decode cX1_addLine 2 = .ok (.iconst 0, 1) := by decide +kernel
theorem dX1_addLine_3 : decode cX1_addLine 3 = .ok (.istore 4, 2) := by decide +kernel
theorem dX1_addLine_5 : decode cX1_addLine 5 = .ok (.sipush 1000, 3) := by decide +kernel
theorem dX1_addLine_8 : decode cX1_addLine 8 = .ok (.istore 5, 2) := by decide +kernel
theorem dX1_addLine_10 : decode cX1_addLine 10 = .ok (.iload 5, 2) := by decide +kernel
theorem dX1_addLine_12 : decode cX1_addLine 12 = .ok (.ifCond .le 67, 3) := by decide +kernel
theorem dX1_addLine_15 : decode cX1_addLine 15 = .ok (.iload_n 1, 1) := by decide +kernel
theorem dX1_addLine_16 : decode cX1_addLine 16 = .ok (.iload 5, 2) := by decide +kernel
theorem dX1_addLine_18 : decode cX1_addLine 18 = .ok (.idiv, 1) := by decide +kernel
theorem dX1_addLine_19 : decode cX1_addLine 19 = .ok (.bipush 10, 2) := by decide +kernel
theorem dX1_addLine_21 : decode cX1_addLine 21 = .ok (.irem, 1) := by decide +kernel
theorem dX1_addLine_22 : decode cX1_addLine 22 = .ok (.istore 6, 2) := by decide +kernel
theorem dX1_addLine_24 : decode cX1_addLine 24 = .ok (.iload 6, 2) := by decide +kernel
theorem dX1_addLine_26 : decode cX1_addLine 26 = .ok (.ifCond .le 43, 3) := by decide +kernel
theorem dX1_addLine_29 : decode cX1_addLine 29 = .ok (.iload 4, 2) := by decide +kernel
theorem dX1_addLine_31 : decode cX1_addLine 31 = .ok (.iload 4, 2) := by decide +kernel
theorem dX1_addLine_33 : decode cX1_addLine 33 = .ok (.ifCond .le 7, 3) := by decide +kernel
theorem dX1_addLine_36 : decode cX1_addLine 36 = .ok (.iconst 1, 1) := by decide +kernel
theorem dX1_addLine_37 : decode cX1_addLine 37 = .ok (.goto 4, 3) := by decide +kernel
theorem dX1_addLine_40 : decode cX1_addLine 40 = .ok (.iconst 0, 1) := by decide +kernel
theorem dX1_addLine_41 : decode cX1_addLine 41 = .ok (.iadd, 1) := by decide +kernel
theorem dX1_addLine_42 : decode cX1_addLine 42 = .ok (.istore 4, 2) := by decide +kernel
theorem dX1_addLine_44 : decode cX1_addLine 44 = .ok (.lload_n 2, 1) := by decide +kernel
theorem dX1_addLine_45 : decode cX1_addLine 45 = .ok (.aload_n 0, 1) := by decide +kernel
theorem dX1_addLine_46 : decode cX1_addLine 46 = .ok (.iload 6, 2) := by decide +kernel
theorem dX1_addLine_48 : decode cX1_addLine 48 = .ok (.iload 4, 2) := by decide +kernel
theorem dX1_addLine_50 : decode cX1_addLine 50 = .ok (.invokevirtual 43, 3) := by decide +kernel
theorem dX1_addLine_53 : decode cX1_addLine 53 = .ok (.lor, 1) := by decide +kernel
theorem dX1_addLine_54 : decode cX1_addLine 54 = .ok (.lstore_n 2, 1) := by decide +kernel
theorem dX1_addLine_55 : decode cX1_addLine 55 = .ok (.iload 4, 2) := by decide +kernel
theorem dX1_addLine_57 : decode cX1_addLine 57 = .ok (.aload_n 0, 1) := by decide +kernel
theorem dX1_addLine_58 : decode cX1_addLine 58 = .ok (.getfield 9, 3) := by decide +kernel
theorem dX1_addLine_61 : decode cX1_addLine 61 = .ok (.iload 6, 2) := by decide +kernel
theorem dX1_addLine_63 : decode cX1_addLine 63 = .ok (.invokestatic 39, 3) := by decide +kernel
theorem dX1_addLine_66 : decode cX1_addLine 66 = .ok (.iadd, 1) := by decide +kernel
theorem dX1_addLine_67 : decode cX1_addLine 67 = .ok (.istore 4, 2) := by decide +kernel
theorem dX1_addLine_69 : decode cX1_addLine 69 = .ok (.iload 5, 2) := by decide +kernel
theorem dX1_addLine_71 : decode cX1_addLine 71 = .ok (.bipush 10, 2) := by decide +kernel
theorem dX1_addLine_73 : decode cX1_addLine 73 = .ok (.idiv, 1) := by decide +kernel
theorem dX1_addLine_74 : decode cX1_addLine 74 = .ok (.istore 5, 2) := by decide +kernel
theorem dX1_addLine_76 : decode cX1_addLine 76 = .ok (.goto (-66), 3) := by decide +kernel
theorem dX1_addLine_79 : decode cX1_addLine 79 = .ok (.aload_n 0, 1) := by decide +kernel
theorem dX1_addLine_80 : decode cX1_addLine 80 = .ok (.getfield 18, 3) := by decide +kernel
theorem dX1_addLine_83 : decode cX1_addLine 83 = .ok (.aload_n 0, 1) := by decide +kernel
theorem dX1_addLine_84 : decode cX1_addLine 84 = .ok (.getfield 36, 3) := by decide +kernel
theorem dX1_addLine_87 : decode cX1_addLine 87 = .ok (.iload_n 1, 1) := by decide +kernel
theorem dX1_addLine_88 : decode cX1_addLine 88 = .ok (.invokestatic 32, 3) := by decide +kernel
theorem dX1_addLine_91 : decode cX1_addLine 91 = .ok (.aload_n 0, 1) := by decide +kernel
theorem dX1_addLine_92 : decode cX1_addLine 92 = .ok (.getfield 21, 3) := by decide +kernel
theorem dX1_addLine_95 : decode cX1_addLine 95 = .ok (.aload_n 0, 1) := by decide +kernel
theorem dX1_addLine_96 : decode cX1_addLine 96 = .ok (.getfield 36, 3) := by decide +kernel
theorem dX1_addLine_99 : decode cX1_addLine 99 = .ok (.iload 4, 2) := by decide +kernel
theorem dX1_addLine_101 : decode cX1_addLine 101 = .ok (.invokestatic 32, 3) := by decide +kernel
theorem dX1_addLine_104 : decode cX1_addLine 104 = .ok (.aload_n 0, 1) := by decide +kernel
theorem dX1_addLine_105 : decode cX1_addLine 105 = .ok (.getfield 24, 3) := by decide +kernel
theorem dX1_addLine_108 : decode cX1_addLine 108 = .ok (.aload_n 0, 1) := by decide +kernel
theorem dX1_addLine_109 : decode cX1_addLine 109 = .ok (.getfield 36, 3) := by decide +kernel
theorem dX1_addLine_112 : decode cX1_addLine 112 = .ok (.lload_n 2, 1) := by decide +kernel
theorem dX1_addLine_113 : decode cX1_addLine 113 = .ok (.invokestatic 47, 3) := by decide +kernel
theorem dX1_addLine_116 : decode cX1_addLine 116 = .ok (.aload_n 0, 1) := by decide +kernel
theorem dX1_addLine_117 : decode cX1_addLine 117 = .ok (.dup, 1) := by decide +kernel
theorem dX1_addLine_118 : decode cX1_addLine 118 = .ok (.getfield 36, 3) := by decide +kernel
theorem dX1_addLine_121 : decode cX1_addLine 121 = .ok (.iconst 1, 1) := by decide +kernel
theorem dX1_addLine_122 : decode cX1_addLine 122 = .ok (.iadd, 1) := by decide +kernel
theorem dX1_addLine_123 : decode cX1_addLine 123 = .ok (.putfield 36, 3) := by decide +kernel
theorem dX1_addLine_126 : decode cX1_addLine 126 = .ok (.aload_n 0, 1) := by decide +kernel
theorem dX1_addLine_127 : decode cX1_addLine 127 = .ok (.getfield 36, 3) := by decide +kernel
theorem dX1_addLine_130 : decode cX1_addLine 130 = .ok (.iconst 1, 1) := by decide +kernel
theorem dX1_addLine_131 : decode cX1_addLine 131 = .ok (.isub, 1) := by decide +kernel
theorem dX1_addLine_132 : decode cX1_addLine 132 = .ok (.ireturn, 1) := by decide +kernel
set_option maxRecDepth 20000 in
theorem ggX1_letterFrom_X5_at : GoodIn wsX1_letterFrom wsX5_at := goodIn_r _ [4] (by decide +kernel) (by decide +kernel)
set_option maxRecDepth 20000 in
theorem gX1_letterFrom_X5_at_n39 : GoodIn wsX1_letterFrom (wsX5_at) := ggX1_letterFrom_X5_at
set_option maxRecDepth 20000 in
theorem ggX1_letterFrom_X5_bitOf : GoodIn wsX1_letterFrom wsX5_bitOf := goodIn_r _ [6] (by decide +kernel) (by decide +kernel)
set_option maxRecDepth 20000 in
theorem gX1_letterFrom_X5_bitOf_n50 : GoodIn wsX1_letterFrom (wsX5_bitOf) := ggX1_letterFrom_X5_bitOf
theorem dX1_letterFrom_0 : decode cX1_letterFrom 0 = .ok (.iload_n 2, 1) := by decide +kernel
theorem dX1_letterFrom_1 : decode cX1_letterFrom 1 = .ok (.bipush 8, 2) := by decide +kernel
theorem dX1_letterFrom_3 : decode cX1_letterFrom 3 = .ok (.if_icmp .ge 21, 3) := by decide +kernel
theorem dX1_letterFrom_6 : decode cX1_letterFrom 6 = .ok (.aload_n 0, 1) := by decide +kernel
theorem dX1_letterFrom_7 : decode cX1_letterFrom 7 = .ok (.getfield 15, 3) := by decide +kernel
theorem dX1_letterFrom_10 : decode cX1_letterFrom 10 = .ok (.iload_n 1, 1) := by decide +kernel
theorem dX1_letterFrom_11 : decode cX1_letterFrom 11 = .ok (.invokestatic 39, 3) := by decide +kernel
theorem dX1_letterFrom_14 : decode cX1_letterFrom 14 = .ok (.i2l, 1) := by decide +kernel
theorem dX1_letterFrom_15 : decode cX1_letterFrom 15 = .ok (.iload_n 2, 1) := by decide +kernel
theorem dX1_letterFrom_16 : decode cX1_letterFrom 16 = .ok (.iconst 0, 1) := by decide +kernel
theorem dX1_letterFrom_17 : decode cX1_letterFrom 17 = .ok (.invokestatic 50, 3) := by decide +kernel
theorem dX1_letterFrom_20 : decode cX1_letterFrom 20 = .ok (.lshl, 1) := by decide +kernel
theorem dX1_letterFrom_21 : decode cX1_letterFrom 21 = .ok (.goto 4, 3) := by decide +kernel
theorem dX1_letterFrom_24 : decode cX1_letterFrom 24 = .ok (.lconst 0, 1) := by decide +kernel
theorem dX1_letterFrom_25 : decode cX1_letterFrom 25 = .ok (.lreturn, 1) := by decide +kernel
theorem dX1_placed_0 : decode cX1_placed 0 = .ok (.iload_n 1, 1) := by decide +kernel
theorem dX1_placed_1 : decode cX1_placed 1 = .ok (.ifCond .lt 25, 3) := by decide +kernel
theorem dX1_placed_4 : decode cX1_placed 4 = .ok (.iload_n 1, 1) := by decide +kernel
theorem dX1_placed_5 : decode cX1_placed 5 = .ok (.aload_n 0, 1) := by decide +kernel
theorem dX1_placed_6 : decode cX1_placed 6 = .ok (.getfield 24, 3) := by decide +kernel
theorem dX1_placed_9 : decode cX1_placed 9 = .ok (.arraylength, 1) := by decide +kernel
theorem dX1_placed_10 : decode cX1_placed 10 = .ok (.if_icmp .ge 16, 3) := by decide +kernel
theorem dX1_placed_13 : decode cX1_placed 13 = .ok (.aload_n 0, 1) := by decide +kernel
theorem dX1_placed_14 : decode cX1_placed 14 = .ok (.getfield 24, 3) := by decide +kernel
theorem dX1_placed_17 : decode cX1_placed 17 = .ok (.iload_n 1, 1) := by decide +kernel
theorem dX1_placed_18 : decode cX1_placed 18 = .ok (.laload, 1) := by decide +kernel
theorem dX1_placed_19 : decode cX1_placed 19 = .ok (.iconst 5, 1) := by decide +kernel
theorem dX1_placed_20 : decode cX1_placed 20 = .ok (.iload_n 2, 1) := by decide +kernel
theorem dX1_placed_21 : decode cX1_placed 21 = .ok (.imul, 1) := by decide +kernel
theorem dX1_placed_22 : decode cX1_placed 22 = .ok (.lshl, 1) := by decide +kernel
theorem dX1_placed_23 : decode cX1_placed 23 = .ok (.goto 4, 3) := by decide +kernel
theorem dX1_placed_26 : decode cX1_placed 26 = .ok (.lconst 0, 1) := by decide +kernel
theorem dX1_placed_27 : decode cX1_placed 27 = .ok (.lreturn, 1) := by decide +kernel
theorem dX2_init_0 : decode cX2_init 0 = .ok (.aload_n 0, 1) := by decide +kernel
theorem dX2_init_1 : decode cX2_init 1 = .ok (.invokespecial 3, 3) := by decide +kernel
theorem dX2_init_4 : decode cX2_init 4 = .ok (.aload_n 0, 1) := by decide +kernel
theorem dX2_init_5 : decode cX2_init 5 = .ok (.sipush 256, 3) := by decide +kernel
theorem dX2_init_8 : decode cX2_init 8 = .ok (.newarray .int, 2) := by decide +kernel
theorem dX2_init_10 : decode cX2_init 10 = .ok (.putfield 9, 3) := by decide +kernel
theorem dX2_init_13 : decode cX2_init 13 = .ok (.aload_n 0, 1) := by decide +kernel
theorem dX2_init_14 : decode cX2_init 14 = .ok (.sipush 256, 3) := by decide +kernel
theorem dX2_init_17 : decode cX2_init 17 = .ok (.newarray .int, 2) := by decide +kernel
theorem dX2_init_19 : decode cX2_init 19 = .ok (.putfield 15, 3) := by decide +kernel
theorem dX2_init_22 : decode cX2_init 22 = .ok (.aload_n 0, 1) := by decide +kernel
theorem dX2_init_23 : decode cX2_init 23 = .ok (.bipush 8, 2) := by decide +kernel
theorem dX2_init_25 : decode cX2_init 25 = .ok (.newarray .int, 2) := by decide +kernel
theorem dX2_init_27 : decode cX2_init 27 = .ok (.putfield 18, 3) := by decide +kernel
theorem dX2_init_30 : decode cX2_init 30 = .ok (.aload_n 0, 1) := by decide +kernel
theorem dX2_init_31 : decode cX2_init 31 = .ok (.iconst (-1), 1) := by decide +kernel
theorem dX2_init_32 : decode cX2_init 32 = .ok (.putfield 21, 3) := by decide +kernel
theorem dX2_init_35 : decode cX2_init 35 = .ok (.return_, 1) := by decide +kernel
theorem dX2_giveUp_0 : decode cX2_giveUp 0 = .ok (.aload_n 0, 1) := by decide +kernel
theorem dX2_giveUp_1 : decode cX2_giveUp 1 = .ok (.iconst (-1), 1) := by decide +kernel
theorem dX2_giveUp_2 : decode cX2_giveUp 2 = .ok (.putfield 21, 3) := by decide +kernel
theorem dX2_giveUp_5 : decode cX2_giveUp 5 = .ok (.return_, 1) := by decide +kernel
set_option maxRecDepth 20000 in
theorem ggX2_begin_X5_setIn : GoodIn wsX2_begin wsX5_setIn := goodIn_r _ [8] (by decide +kernel) (by decide +kernel)
set_option maxRecDepth 20000 in
theorem gX2_begin_X5_setIn_n38 : GoodIn wsX2_begin (wsX5_setIn) := ggX2_begin_X5_setIn
set_option maxRecDepth 20000 in
theorem ggX2_begin_X2_countDots : GoodIn wsX2_begin wsX2_countDots := goodIn_r _ [13, 14, 1, 2, 15, 16, 17, 18, 19, 20, 21, 6, 7, 8, 22, 23, 24, 25, 26, 27, 28, 29, 30, 31] (by decide +kernel) (by decide +kernel)
set_option maxRecDepth 20000 in
theorem gX2_begin_X2_countDots : GoodIn wsX2_begin (wsV RX2 42 RX2 yX2_countDots wsX2_countDots) := goodIn_app (goodIn_of _ (by decide +kernel)) ggX2_begin_X2_countDots
theorem dX2_begin_0 : decode cX2_begin 0 = .ok (.aload_n 0, 1) := by decide +kernel
theorem dX2_begin_1 : decode cX2_begin 1 = .ok (.lload_n 1, 1) := by decide +kernel
theorem dX2_begin_2 : decode cX2_begin 2 = .ok (.putfield 25, 3) := by decide +kernel
theorem dX2_begin_5 : decode cX2_begin 5 = .ok (.aload_n 0, 1) := by decide +kernel
theorem dX2_begin_6 : decode cX2_begin 6 = .ok (.lload_n 3, 1) := by decide +kernel
theorem dX2_begin_7 : decode cX2_begin 7 = .ok (.putfield 29, 3) := by decide +kernel
theorem dX2_begin_10 : decode cX2_begin 10 = .ok (.aload_n 0, 1) := by decide +kernel
theorem dX2_begin_11 : decode cX2_begin 11 = .ok (.iload 5, 2) := by decide +kernel
theorem dX2_begin_13 : decode cX2_begin 13 = .ok (.putfield 32, 3) := by decide +kernel
theorem dX2_begin_16 : decode cX2_begin 16 = .ok (.aload_n 0, 1) := by decide +kernel
theorem dX2_begin_17 : decode cX2_begin 17 = .ok (.iconst 0, 1) := by decide +kernel
theorem dX2_begin_18 : decode cX2_begin 18 = .ok (.putfield 35, 3) := by decide +kernel
theorem dX2_begin_21 : decode cX2_begin 21 = .ok (.iconst 0, 1) := by decide +kernel
theorem dX2_begin_22 : decode cX2_begin 22 = .ok (.istore 6, 2) := by decide +kernel
theorem dX2_begin_24 : decode cX2_begin 24 = .ok (.iload 6, 2) := by decide +kernel
theorem dX2_begin_26 : decode cX2_begin 26 = .ok (.bipush 8, 2) := by decide +kernel
theorem dX2_begin_28 : decode cX2_begin 28 = .ok (.if_icmp .ge 37, 3) := by decide +kernel
theorem dX2_begin_31 : decode cX2_begin 31 = .ok (.aload_n 0, 1) := by decide +kernel
theorem dX2_begin_32 : decode cX2_begin 32 = .ok (.dup, 1) := by decide +kernel
theorem dX2_begin_33 : decode cX2_begin 33 = .ok (.getfield 35, 3) := by decide +kernel
theorem dX2_begin_36 : decode cX2_begin 36 = .ok (.lload_n 1, 1) := by decide +kernel
theorem dX2_begin_37 : decode cX2_begin 37 = .ok (.lload_n 3, 1) := by decide +kernel
theorem dX2_begin_38 : decode cX2_begin 38 = .ok (.lxor, 1) := by decide +kernel
theorem dX2_begin_39 : decode cX2_begin 39 = .ok (.iload 6, 2) := by decide +kernel
theorem dX2_begin_41 : decode cX2_begin 41 = .ok (.invokestatic 38, 3) := by decide +kernel
theorem dX2_begin_44 : decode cX2_begin 44 = .ok (.ifCond .ne 7, 3) := by decide +kernel
theorem dX2_begin_47 : decode cX2_begin 47 = .ok (.iconst 0, 1) := by decide +kernel
theorem dX2_begin_48 : decode cX2_begin 48 = .ok (.goto 7, 3) := by decide +kernel
theorem dX2_begin_51 : decode cX2_begin 51 = .ok (.iconst 1, 1) := by decide +kernel
theorem dX2_begin_52 : decode cX2_begin 52 = .ok (.iload 6, 2) := by decide +kernel
theorem dX2_begin_54 : decode cX2_begin 54 = .ok (.ishl, 1) := by decide +kernel
theorem dX2_begin_55 : decode cX2_begin 55 = .ok (.ior, 1) := by decide +kernel
theorem dX2_begin_56 : decode cX2_begin 56 = .ok (.putfield 35, 3) := by decide +kernel
theorem dX2_begin_59 : decode cX2_begin 59 = .ok (.iinc 6 1, 3) := by decide +kernel
theorem dX2_begin_62 : decode cX2_begin 62 = .ok (.goto (-38), 3) := by decide +kernel
theorem dX2_begin_65 : decode cX2_begin 65 = .ok (.iconst 0, 1) := by decide +kernel
theorem dX2_begin_66 : decode cX2_begin 66 = .ok (.istore 6, 2) := by decide +kernel
theorem dX2_begin_68 : decode cX2_begin 68 = .ok (.iload 6, 2) := by decide +kernel
theorem dX2_begin_70 : decode cX2_begin 70 = .ok (.aload_n 0, 1) := by decide +kernel
theorem dX2_begin_71 : decode cX2_begin 71 = .ok (.getfield 9, 3) := by decide +kernel
theorem dX2_begin_74 : decode cX2_begin 74 = .ok (.arraylength, 1) := by decide +kernel
theorem dX2_begin_75 : decode cX2_begin 75 = .ok (.if_icmp .ge 17, 3) := by decide +kernel
theorem dX2_begin_78 : decode cX2_begin 78 = .ok (.aload_n 0, 1) := by decide +kernel
theorem dX2_begin_79 : decode cX2_begin 79 = .ok (.getfield 9, 3) := by decide +kernel
theorem dX2_begin_82 : decode cX2_begin 82 = .ok (.iload 6, 2) := by decide +kernel
theorem dX2_begin_84 : decode cX2_begin 84 = .ok (.iconst 0, 1) := by decide +kernel
theorem dX2_begin_85 : decode cX2_begin 85 = .ok (.iastore, 1) := by decide +kernel
theorem dX2_begin_86 : decode cX2_begin 86 = .ok (.iinc 6 1, 3) := by decide +kernel
theorem dX2_begin_89 : decode cX2_begin 89 = .ok (.goto (-21), 3) := by decide +kernel
theorem dX2_begin_92 : decode cX2_begin 92 = .ok (.aload_n 0, 1) := by decide +kernel
theorem dX2_begin_93 : decode cX2_begin 93 = .ok (.invokevirtual 42, 3) := by decide +kernel
theorem dX2_begin_96 : decode cX2_begin 96 = .ok (.return_, 1) := by decide +kernel
set_option maxRecDepth 20000 in
theorem ggX2_countDots_J6_bitCount_0f7a4 : GoodIn wsX2_countDots wsJ6_bitCount_0f7a4 := goodIn_r _ [7, 8, 9, 10] (by decide +kernel) (by decide +kernel)
set_option maxRecDepth 20000 in
theorem gX2_countDots_J6_bitCount_0f7a4 : GoodIn wsX2_countDots (va_wsS RX2 45 yJ6_bitCount_0f7a4 wsJ6_bitCount_0f7a4) := goodIn_app (goodIn_of _ (by decide +kernel)) ggX2_countDots_J6_bitCount_0f7a4
set_option maxRecDepth 20000 in
theorem ggX2_countDots_X5_setIn : GoodIn wsX2_countDots wsX5_setIn := goodIn_r _ [13] (by decide +kernel) (by decide +kernel)
set_option maxRecDepth 20000 in
theorem gX2_countDots_X5_setIn_n38 : GoodIn wsX2_countDots (wsX5_setIn) := ggX2_countDots_X5_setIn
set_option maxRecDepth 20000 in
theorem ggX2_countDots_X5_at : GoodIn wsX2_countDots wsX5_at := goodIn_r _ [15] (by decide +kernel) (by decide +kernel)
set_option maxRecDepth 20000 in
theorem gX2_countDots_X5_at_n51 : GoodIn wsX2_countDots (wsX5_at) := ggX2_countDots_X5_at
theorem dX2_countDots_0 : decode cX2_countDots 0 = .ok (.iconst 1, 1) := by decide +kernel
theorem dX2_countDots_1 : decode cX2_countDots 1 = .ok (.istore_n 1, 1) := by decide +kernel
theorem dX2_countDots_2 : decode cX2_countDots 2 = .ok (.iload_n 1, 1) := by decide +kernel
theorem dX2_countDots_3 : decode cX2_countDots 3 = .ok (.aload_n 0, 1) := by decide +kernel
theorem dX2_countDots_4 : decode cX2_countDots 4 = .ok (.getfield 15, 3) := by decide +kernel
theorem dX2_countDots_7 : decode cX2_countDots 7 = .ok (.arraylength, 1) := by decide +kernel
theorem dX2_countDots_8 : decode cX2_countDots 8 = .ok (.if_icmp .ge 56, 3) := by decide +kernel
theorem dX2_countDots_11 : decode cX2_countDots 11 = .ok (.iload_n 1, 1) := by decide +kernel
theorem dX2_countDots_12 : decode cX2_countDots 12 = .ok (.iload_n 1, 1) := by decide +kernel
theorem dX2_countDots_13 : decode cX2_countDots 13 = .ok (.ineg, 1) := by decide +kernel
theorem dX2_countDots_14 : decode cX2_countDots 14 = .ok (.iand, 1) := by decide +kernel
theorem dX2_countDots_15 : decode cX2_countDots 15 = .ok (.iconst 1, 1) := by decide +kernel
theorem dX2_countDots_16 : decode cX2_countDots 16 = .ok (.isub, 1) := by decide +kernel
theorem dX2_countDots_17 : decode cX2_countDots 17 = .ok (.invokestatic 45, 3) := by decide +kernel
theorem dX2_countDots_20 : decode cX2_countDots 20 = .ok (.istore_n 2, 1) := by decide +kernel
theorem dX2_countDots_21 : decode cX2_countDots 21 = .ok (.aload_n 0, 1) := by decide +kernel
theorem dX2_countDots_22 : decode cX2_countDots 22 = .ok (.getfield 25, 3) := by decide +kernel
theorem dX2_countDots_25 : decode cX2_countDots 25 = .ok (.aload_n 0, 1) := by decide +kernel
theorem dX2_countDots_26 : decode cX2_countDots 26 = .ok (.getfield 29, 3) := by decide +kernel
theorem dX2_countDots_29 : decode cX2_countDots 29 = .ok (.lxor, 1) := by decide +kernel
theorem dX2_countDots_30 : decode cX2_countDots 30 = .ok (.iload_n 2, 1) := by decide +kernel
theorem dX2_countDots_31 : decode cX2_countDots 31 = .ok (.invokestatic 38, 3) := by decide +kernel
theorem dX2_countDots_34 : decode cX2_countDots 34 = .ok (.invokestatic 45, 3) := by decide +kernel
theorem dX2_countDots_37 : decode cX2_countDots 37 = .ok (.istore_n 3, 1) := by decide +kernel
theorem dX2_countDots_38 : decode cX2_countDots 38 = .ok (.aload_n 0, 1) := by decide +kernel
theorem dX2_countDots_39 : decode cX2_countDots 39 = .ok (.getfield 15, 3) := by decide +kernel
theorem dX2_countDots_42 : decode cX2_countDots 42 = .ok (.iload_n 1, 1) := by decide +kernel
theorem dX2_countDots_43 : decode cX2_countDots 43 = .ok (.aload_n 0, 1) := by decide +kernel
theorem dX2_countDots_44 : decode cX2_countDots 44 = .ok (.getfield 15, 3) := by decide +kernel
theorem dX2_countDots_47 : decode cX2_countDots 47 = .ok (.iload_n 1, 1) := by decide +kernel
theorem dX2_countDots_48 : decode cX2_countDots 48 = .ok (.iload_n 1, 1) := by decide +kernel
theorem dX2_countDots_49 : decode cX2_countDots 49 = .ok (.iconst 1, 1) := by decide +kernel
theorem dX2_countDots_50 : decode cX2_countDots 50 = .ok (.isub, 1) := by decide +kernel
theorem dX2_countDots_51 : decode cX2_countDots 51 = .ok (.iand, 1) := by decide +kernel
theorem dX2_countDots_52 : decode cX2_countDots 52 = .ok (.invokestatic 51, 3) := by decide +kernel
theorem dX2_countDots_55 : decode cX2_countDots 55 = .ok (.iload_n 3, 1) := by decide +kernel
theorem dX2_countDots_56 : decode cX2_countDots 56 = .ok (.iadd, 1) := by decide +kernel
theorem dX2_countDots_57 : decode cX2_countDots 57 = .ok (.iastore, 1) := by decide +kernel
theorem dX2_countDots_58 : decode cX2_countDots 58 = .ok (.iinc 1 1, 3) := by decide +kernel
theorem dX2_countDots_61 : decode cX2_countDots 61 = .ok (.goto (-59), 3) := by decide +kernel
theorem dX2_countDots_64 : decode cX2_countDots 64 = .ok (.return_, 1) := by decide +kernel
set_option maxRecDepth 20000 in
theorem ggX2_forbid_X5_setIn : GoodIn wsX2_forbid wsX5_setIn := goodIn_r _ [6] (by decide +kernel) (by decide +kernel)
set_option maxRecDepth 20000 in
theorem gX2_forbid_X5_setIn_n38 : GoodIn wsX2_forbid (wsX5_setIn) := ggX2_forbid_X5_setIn
set_option maxRecDepth 20000 in
theorem ggX2_forbid_X5_put : GoodIn wsX2_forbid wsX5_put := goodIn_r _ [8] (by decide +kernel) (by decide +kernel)
set_option maxRecDepth 20000 in
theorem gX2_forbid_X5_put_n55 : GoodIn wsX2_forbid (wsX5_put) := ggX2_forbid_X5_put
theorem dX2_forbid_0 : decode cX2_forbid 0 = .ok (.iconst 0, 1) := by decide +kernel
theorem dX2_forbid_1 : decode cX2_forbid 1 = .ok (.istore_n 3, 1) := by decide +kernel
theorem dX2_forbid_2 : decode cX2_forbid 2 = .ok (.iconst 0, 1) := by decide +kernel
theorem dX2_forbid_3 : decode cX2_forbid 3 = .ok (.istore 4, 2) := by decide +kernel
theorem dX2_forbid_5 : decode cX2_forbid 5 = .ok (.iload 4, 2) := by decide +kernel
theorem dX2_forbid_7 : decode cX2_forbid 7 = .ok (.bipush 8, 2) := by decide +kernel
theorem dX2_forbid_9 : decode cX2_forbid 9 = .ok (.if_icmp .ge 53, 3) := by decide +kernel
theorem dX2_forbid_12 : decode cX2_forbid 12 = .ok (.lload_n 1, 1) := by decide +kernel
theorem dX2_forbid_13 : decode cX2_forbid 13 = .ok (.iload 4, 2) := by decide +kernel
theorem dX2_forbid_15 : decode cX2_forbid 15 = .ok (.invokestatic 38, 3) := by decide +kernel
theorem dX2_forbid_18 : decode cX2_forbid 18 = .ok (.istore 5, 2) := by decide +kernel
theorem dX2_forbid_20 : decode cX2_forbid 20 = .ok (.iload 5, 2) := by decide +kernel
theorem dX2_forbid_22 : decode cX2_forbid 22 = .ok (.aload_n 0, 1) := by decide +kernel
theorem dX2_forbid_23 : decode cX2_forbid 23 = .ok (.getfield 25, 3) := by decide +kernel
theorem dX2_forbid_26 : decode cX2_forbid 26 = .ok (.iload 4, 2) := by decide +kernel
theorem dX2_forbid_28 : decode cX2_forbid 28 = .ok (.invokestatic 38, 3) := by decide +kernel
theorem dX2_forbid_31 : decode cX2_forbid 31 = .ok (.if_icmp .eq 25, 3) := by decide +kernel
theorem dX2_forbid_34 : decode cX2_forbid 34 = .ok (.iload 5, 2) := by decide +kernel
theorem dX2_forbid_36 : decode cX2_forbid 36 = .ok (.aload_n 0, 1) := by decide +kernel
theorem dX2_forbid_37 : decode cX2_forbid 37 = .ok (.getfield 29, 3) := by decide +kernel
theorem dX2_forbid_40 : decode cX2_forbid 40 = .ok (.iload 4, 2) := by decide +kernel
theorem dX2_forbid_42 : decode cX2_forbid 42 = .ok (.invokestatic 38, 3) := by decide +kernel
theorem dX2_forbid_45 : decode cX2_forbid 45 = .ok (.if_icmp .eq 4, 3) := by decide +kernel
theorem dX2_forbid_48 : decode cX2_forbid 48 = .ok (.return_, 1) := by decide +kernel
theorem dX2_forbid_49 : decode cX2_forbid 49 = .ok (.iload_n 3, 1) := by decide +kernel
theorem dX2_forbid_50 : decode cX2_forbid 50 = .ok (.iconst 1, 1) := by decide +kernel
theorem dX2_forbid_51 : decode cX2_forbid 51 = .ok (.iload 4, 2) := by decide +kernel
theorem dX2_forbid_53 : decode cX2_forbid 53 = .ok (.ishl, 1) := by decide +kernel
theorem dX2_forbid_54 : decode cX2_forbid 54 = .ok (.ior, 1) := by decide +kernel
theorem dX2_forbid_55 : decode cX2_forbid 55 = .ok (.istore_n 3, 1) := by decide +kernel
theorem dX2_forbid_56 : decode cX2_forbid 56 = .ok (.iinc 4 1, 3) := by decide +kernel
theorem dX2_forbid_59 : decode cX2_forbid 59 = .ok (.goto (-54), 3) := by decide +kernel
theorem dX2_forbid_62 : decode cX2_forbid 62 = .ok (.aload_n 0, 1) := by decide +kernel
theorem dX2_forbid_63 : decode cX2_forbid 63 = .ok (.getfield 9, 3) := by decide +kernel
theorem dX2_forbid_66 : decode cX2_forbid 66 = .ok (.iload_n 3, 1) := by decide +kernel
theorem dX2_forbid_67 : decode cX2_forbid 67 = .ok (.iconst (-1), 1) := by decide +kernel
theorem dX2_forbid_68 : decode cX2_forbid 68 = .ok (.invokestatic 55, 3) := by decide +kernel
theorem dX2_forbid_71 : decode cX2_forbid 71 = .ok (.return_, 1) := by decide +kernel
set_option maxRecDepth 20000 in
theorem ggX2_choose_X5_put : GoodIn wsX2_choose wsX5_put := goodIn_r _ [7] (by decide +kernel) (by decide +kernel)
set_option maxRecDepth 20000 in
theorem gX2_choose_X5_put_n55 : GoodIn wsX2_choose (wsX5_put) := ggX2_choose_X5_put
set_option maxRecDepth 20000 in
theorem ggX2_choose_X5_at : GoodIn wsX2_choose wsX5_at := goodIn_r _ [9] (by decide +kernel) (by decide +kernel)
set_option maxRecDepth 20000 in
theorem gX2_choose_X5_at_n51 : GoodIn wsX2_choose (wsX5_at) := ggX2_choose_X5_at
set_option maxRecDepth 20000 in
theorem ggX2_choose_X2_fewestFrom : GoodIn wsX2_choose wsX2_fewestFrom := goodIn_r _ [14, 2, 1, 8, 6, 9, 15, 16, 17, 13, 18, 19, 20, 25, 26, 27, 28, 29, 30, 31, 32] (by decide +kernel) (by decide +kernel)
set_option maxRecDepth 20000 in
theorem gX2_choose_X2_fewestFrom : GoodIn wsX2_choose (wsV RX2 59 RX2 yX2_fewestFrom wsX2_fewestFrom) := goodIn_app (goodIn_of _ (by decide +kernel)) ggX2_choose_X2_fewestFrom
set_option maxRecDepth 20000 in
theorem ggX2_choose_X2_smallestFrom : GoodIn wsX2_choose wsX2_smallestFrom := goodIn_r _ [24, 2, 1, 8, 6, 9, 15, 16, 17, 13, 18, 19, 20, 25, 26, 27, 28, 29, 30, 31, 32] (by decide +kernel) (by decide +kernel)
set_option maxRecDepth 20000 in
theorem gX2_choose_X2_smallestFrom : GoodIn wsX2_choose (wsV RX2 62 RX2 yX2_smallestFrom wsX2_smallestFrom) := goodIn_app (goodIn_of _ (by decide +kernel)) ggX2_choose_X2_smallestFrom
theorem dX2_choose_0 : decode cX2_choose 0 = .ok (.aload_n 0, 1) := by decide +kernel
theorem dX2_choose_1 : decode cX2_choose 1 = .ok (.getfield 9, 3) := by decide +kernel
theorem dX2_choose_4 : decode cX2_choose 4 = .ok (.aload_n 0, 1) := by decide +kernel
theorem dX2_choose_5 : decode cX2_choose 5 = .ok (.getfield 35, 3) := by decide +kernel
theorem dX2_choose_8 : decode cX2_choose 8 = .ok (.iconst 0, 1) := by decide +kernel
theorem dX2_choose_9 : decode cX2_choose 9 = .ok (.invokestatic 55, 3) := by decide +kernel
theorem dX2_choose_12 : decode cX2_choose 12 = .ok (.aload_n 0, 1) := by decide +kernel
theorem dX2_choose_13 : decode cX2_choose 13 = .ok (.getfield 35, 3) := by decide +kernel
theorem dX2_choose_16 : decode cX2_choose 16 = .ok (.iconst 1, 1) := by decide +kernel
theorem dX2_choose_17 : decode cX2_choose 17 = .ok (.isub, 1) := by decide +kernel
theorem dX2_choose_18 : decode cX2_choose 18 = .ok (.istore_n 1, 1) := by decide +kernel
theorem dX2_choose_19 : decode cX2_choose 19 = .ok (.iload_n 1, 1) := by decide +kernel
theorem dX2_choose_20 : decode cX2_choose 20 = .ok (.ifCond .lt 45, 3) := by decide +kernel
theorem dX2_choose_23 : decode cX2_choose 23 = .ok (.iload_n 1, 1) := by decide +kernel
theorem dX2_choose_24 : decode cX2_choose 24 = .ok (.aload_n 0, 1) := by decide +kernel
theorem dX2_choose_25 : decode cX2_choose 25 = .ok (.getfield 35, 3) := by decide +kernel
theorem dX2_choose_28 : decode cX2_choose 28 = .ok (.iconst (-1), 1) := by decide +kernel
theorem dX2_choose_29 : decode cX2_choose 29 = .ok (.ixor, 1) := by decide +kernel
theorem dX2_choose_30 : decode cX2_choose 30 = .ok (.iand, 1) := by decide +kernel
theorem dX2_choose_31 : decode cX2_choose 31 = .ok (.ifCond .ne 28, 3) := by decide +kernel
theorem dX2_choose_34 : decode cX2_choose 34 = .ok (.aload_n 0, 1) := by decide +kernel
theorem dX2_choose_35 : decode cX2_choose 35 = .ok (.getfield 9, 3) := by decide +kernel
theorem dX2_choose_38 : decode cX2_choose 38 = .ok (.iload_n 1, 1) := by decide +kernel
theorem dX2_choose_39 : decode cX2_choose 39 = .ok (.invokestatic 51, 3) := by decide +kernel
theorem dX2_choose_42 : decode cX2_choose 42 = .ok (.iconst (-1), 1) := by decide +kernel
theorem dX2_choose_43 : decode cX2_choose 43 = .ok (.if_icmp .eq 16, 3) := by decide +kernel
theorem dX2_choose_46 : decode cX2_choose 46 = .ok (.aload_n 0, 1) := by decide +kernel
theorem dX2_choose_47 : decode cX2_choose 47 = .ok (.getfield 9, 3) := by decide +kernel
theorem dX2_choose_50 : decode cX2_choose 50 = .ok (.iload_n 1, 1) := by decide +kernel
theorem dX2_choose_51 : decode cX2_choose 51 = .ok (.aload_n 0, 1) := by decide +kernel
theorem dX2_choose_52 : decode cX2_choose 52 = .ok (.iload_n 1, 1) := by decide +kernel
theorem dX2_choose_53 : decode cX2_choose 53 = .ok (.invokevirtual 59, 3) := by decide +kernel
theorem dX2_choose_56 : decode cX2_choose 56 = .ok (.invokestatic 55, 3) := by decide +kernel
theorem dX2_choose_59 : decode cX2_choose 59 = .ok (.iinc 1 (-1), 3) := by decide +kernel
theorem dX2_choose_62 : decode cX2_choose 62 = .ok (.goto (-43), 3) := by decide +kernel
theorem dX2_choose_65 : decode cX2_choose 65 = .ok (.aload_n 0, 1) := by decide +kernel
theorem dX2_choose_66 : decode cX2_choose 66 = .ok (.aload_n 0, 1) := by decide +kernel
theorem dX2_choose_67 : decode cX2_choose 67 = .ok (.getfield 9, 3) := by decide +kernel
theorem dX2_choose_70 : decode cX2_choose 70 = .ok (.iconst 0, 1) := by decide +kernel
theorem dX2_choose_71 : decode cX2_choose 71 = .ok (.invokestatic 51, 3) := by decide +kernel
theorem dX2_choose_74 : decode cX2_choose 74 = .ok (.putfield 21, 3) := by decide +kernel
theorem dX2_choose_77 : decode cX2_choose 77 = .ok (.iconst 0, 1) := by decide +kernel
theorem dX2_choose_78 : decode cX2_choose 78 = .ok (.istore_n 1, 1) := by decide +kernel
theorem dX2_choose_79 : decode cX2_choose 79 = .ok (.iconst 0, 1) := by decide +kernel
theorem dX2_choose_80 : decode cX2_choose 80 = .ok (.istore_n 2, 1) := by decide +kernel
theorem dX2_choose_81 : decode cX2_choose 81 = .ok (.iload_n 2, 1) := by decide +kernel
theorem dX2_choose_82 : decode cX2_choose 82 = .ok (.aload_n 0, 1) := by decide +kernel
theorem dX2_choose_83 : decode cX2_choose 83 = .ok (.getfield 21, 3) := by decide +kernel
theorem dX2_choose_86 : decode cX2_choose 86 = .ok (.if_icmp .ge 28, 3) := by decide +kernel
theorem dX2_choose_89 : decode cX2_choose 89 = .ok (.aload_n 0, 1) := by decide +kernel
theorem dX2_choose_90 : decode cX2_choose 90 = .ok (.iload_n 1, 1) := by decide +kernel
theorem dX2_choose_91 : decode cX2_choose 91 = .ok (.invokevirtual 62, 3) := by decide +kernel
theorem dX2_choose_94 : decode cX2_choose 94 = .ok (.istore_n 3, 1) := by decide +kernel
theorem dX2_choose_95 : decode cX2_choose 95 = .ok (.aload_n 0, 1) := by decide +kernel
theorem dX2_choose_96 : decode cX2_choose 96 = .ok (.getfield 18, 3) := by decide +kernel
theorem dX2_choose_99 : decode cX2_choose 99 = .ok (.iload_n 2, 1) := by decide +kernel
theorem dX2_choose_100 : decode cX2_choose 100 = .ok (.iload_n 3, 1) := by decide +kernel
theorem dX2_choose_101 : decode cX2_choose 101 = .ok (.invokestatic 55, 3) := by decide +kernel
theorem dX2_choose_104 : decode cX2_choose 104 = .ok (.iload_n 1, 1) := by decide +kernel
theorem dX2_choose_105 : decode cX2_choose 105 = .ok (.iload_n 3, 1) := by decide +kernel
theorem dX2_choose_106 : decode cX2_choose 106 = .ok (.ior, 1) := by decide +kernel
theorem dX2_choose_107 : decode cX2_choose 107 = .ok (.istore_n 1, 1) := by decide +kernel
theorem dX2_choose_108 : decode cX2_choose 108 = .ok (.iinc 2 1, 3) := by decide +kernel
theorem dX2_choose_111 : decode cX2_choose 111 = .ok (.goto (-30), 3) := by decide +kernel
theorem dX2_choose_114 : decode cX2_choose 114 = .ok (.return_, 1) := by decide +kernel
set_option maxRecDepth 20000 in
theorem ggX2_fewestFrom_X5_at : GoodIn wsX2_fewestFrom wsX5_at := goodIn_r _ [5] (by decide +kernel) (by decide +kernel)
set_option maxRecDepth 20000 in
theorem gX2_fewestFrom_X5_at_n51 : GoodIn wsX2_fewestFrom (wsX5_at) := ggX2_fewestFrom_X5_at
set_option maxRecDepth 20000 in
theorem ggX2_fewestFrom_X2_canBeOneStep : GoodIn wsX2_fewestFrom wsX2_canBeOneStep := goodIn_r _ [10, 11, 12, 13, 14, 15, 16, 17, 18, 19, 20] (by decide +kernel) (by decide +kernel)
set_option maxRecDepth 20000 in
theorem gX2_fewestFrom_X2_canBeOneStep : GoodIn wsX2_fewestFrom (wsV RX2 65 RX2 yX2_canBeOneStep wsX2_canBeOneStep) := goodIn_app (goodIn_of _ (by decide +kernel)) ggX2_fewestFrom_X2_canBeOneStep
theorem dX2_fewestFrom_0 : decode cX2_fewestFrom 0 = .ok (.aload_n 0, 1) := by decide +kernel
theorem dX2_fewestFrom_1 : decode cX2_fewestFrom 1 = .ok (.getfield 35, 3) := by decide +kernel
theorem dX2_fewestFrom_4 : decode cX2_fewestFrom 4 = .ok (.iload_n 1, 1) := by decide +kernel
theorem dX2_fewestFrom_5 : decode cX2_fewestFrom 5 = .ok (.iconst (-1), 1) := by decide +kernel
theorem dX2_fewestFrom_6 : decode cX2_fewestFrom 6 = .ok (.ixor, 1) := by decide +kernel
theorem dX2_fewestFrom_7 : decode cX2_fewestFrom 7 = .ok (.iand, 1) := by decide +kernel
theorem dX2_fewestFrom_8 : decode cX2_fewestFrom 8 = .ok (.istore_n 2, 1) := by decide +kernel
theorem dX2_fewestFrom_9 : decode cX2_fewestFrom 9 = .ok (.iconst (-1), 1) := by decide +kernel
theorem dX2_fewestFrom_10 : decode cX2_fewestFrom 10 = .ok (.istore_n 3, 1) := by decide +kernel
theorem dX2_fewestFrom_11 : decode cX2_fewestFrom 11 = .ok (.iload_n 2, 1) := by decide +kernel
theorem dX2_fewestFrom_12 : decode cX2_fewestFrom 12 = .ok (.istore 4, 2) := by decide +kernel
theorem dX2_fewestFrom_14 : decode cX2_fewestFrom 14 = .ok (.iload 4, 2) := by decide +kernel
