theorem dX2_fewestFrom_16 : decode cX2_fewestFrom 16 = .ok (.ifCond .le 60, 3) := by decide +kernel
theorem dX2_fewestFrom_19 : decode cX2_fewestFrom 19 = .ok (.aload_n 0, 1) := by decide +kernel
theorem dX2_fewestFrom_20 : decode cX2_fewestFrom 20 = .ok (.getfield 9, 3) := by decide +kernel
theorem dX2_fewestFrom_23 : decode cX2_fewestFrom 23 = .ok (.iload_n 1, 1) := by decide +kernel
theorem dX2_fewestFrom_24 : decode cX2_fewestFrom 24 = .ok (.iload 4, 2) := by decide +kernel
theorem dX2_fewestFrom_26 : decode cX2_fewestFrom 26 = .ok (.ior, 1) := by decide +kernel
theorem dX2_fewestFrom_27 : decode cX2_fewestFrom 27 = .ok (.invokestatic 51, 3) := by decide +kernel
theorem dX2_fewestFrom_30 : decode cX2_fewestFrom 30 = .ok (.istore 5, 2) := by decide +kernel
theorem dX2_fewestFrom_32 : decode cX2_fewestFrom 32 = .ok (.iload 5, 2) := by decide +kernel
theorem dX2_fewestFrom_34 : decode cX2_fewestFrom 34 = .ok (.iconst (-1), 1) := by decide +kernel
theorem dX2_fewestFrom_35 : decode cX2_fewestFrom 35 = .ok (.if_icmp .eq 30, 3) := by decide +kernel
theorem dX2_fewestFrom_38 : decode cX2_fewestFrom 38 = .ok (.iload_n 3, 1) := by decide +kernel
theorem dX2_fewestFrom_39 : decode cX2_fewestFrom 39 = .ok (.iconst (-1), 1) := by decide +kernel
theorem dX2_fewestFrom_40 : decode cX2_fewestFrom 40 = .ok (.if_icmp .eq 11, 3) := by decide +kernel
theorem dX2_fewestFrom_43 : decode cX2_fewestFrom 43 = .ok (.iload 5, 2) := by decide +kernel
theorem dX2_fewestFrom_45 : decode cX2_fewestFrom 45 = .ok (.iconst 1, 1) := by decide +kernel
theorem dX2_fewestFrom_46 : decode cX2_fewestFrom 46 = .ok (.iadd, 1) := by decide +kernel
theorem dX2_fewestFrom_47 : decode cX2_fewestFrom 47 = .ok (.iload_n 3, 1) := by decide +kernel
theorem dX2_fewestFrom_48 : decode cX2_fewestFrom 48 = .ok (.if_icmp .ge 17, 3) := by decide +kernel
theorem dX2_fewestFrom_51 : decode cX2_fewestFrom 51 = .ok (.aload_n 0, 1) := by decide +kernel
theorem dX2_fewestFrom_52 : decode cX2_fewestFrom 52 = .ok (.iload 4, 2) := by decide +kernel
theorem dX2_fewestFrom_54 : decode cX2_fewestFrom 54 = .ok (.invokevirtual 65, 3) := by decide +kernel
theorem dX2_fewestFrom_57 : decode cX2_fewestFrom 57 = .ok (.ifCond .eq 8, 3) := by decide +kernel
theorem dX2_fewestFrom_60 : decode cX2_fewestFrom 60 = .ok (.iload 5, 2) := by decide +kernel
theorem dX2_fewestFrom_62 : decode cX2_fewestFrom 62 = .ok (.iconst 1, 1) := by decide +kernel
theorem dX2_fewestFrom_63 : decode cX2_fewestFrom 63 = .ok (.iadd, 1) := by decide +kernel
theorem dX2_fewestFrom_64 : decode cX2_fewestFrom 64 = .ok (.istore_n 3, 1) := by decide +kernel
theorem dX2_fewestFrom_65 : decode cX2_fewestFrom 65 = .ok (.iload 4, 2) := by decide +kernel
theorem dX2_fewestFrom_67 : decode cX2_fewestFrom 67 = .ok (.iconst 1, 1) := by decide +kernel
theorem dX2_fewestFrom_68 : decode cX2_fewestFrom 68 = .ok (.isub, 1) := by decide +kernel
theorem dX2_fewestFrom_69 : decode cX2_fewestFrom 69 = .ok (.iload_n 2, 1) := by decide +kernel
theorem dX2_fewestFrom_70 : decode cX2_fewestFrom 70 = .ok (.iand, 1) := by decide +kernel
theorem dX2_fewestFrom_71 : decode cX2_fewestFrom 71 = .ok (.istore 4, 2) := by decide +kernel
theorem dX2_fewestFrom_73 : decode cX2_fewestFrom 73 = .ok (.goto (-59), 3) := by decide +kernel
theorem dX2_fewestFrom_76 : decode cX2_fewestFrom 76 = .ok (.iload_n 3, 1) := by decide +kernel
theorem dX2_fewestFrom_77 : decode cX2_fewestFrom 77 = .ok (.ireturn, 1) := by decide +kernel
set_option maxRecDepth 20000 in
theorem ggX2_smallestFrom_X5_at : GoodIn wsX2_smallestFrom wsX5_at := goodIn_r _ [5] (by decide +kernel) (by decide +kernel)
set_option maxRecDepth 20000 in
theorem gX2_smallestFrom_X5_at_n51 : GoodIn wsX2_smallestFrom (wsX5_at) := ggX2_smallestFrom_X5_at
set_option maxRecDepth 20000 in
theorem ggX2_smallestFrom_X2_canBeOneStep : GoodIn wsX2_smallestFrom wsX2_canBeOneStep := goodIn_r _ [10, 11, 12, 13, 14, 15, 16, 17, 18, 19, 20] (by decide +kernel) (by decide +kernel)
set_option maxRecDepth 20000 in
theorem gX2_smallestFrom_X2_canBeOneStep : GoodIn wsX2_smallestFrom (wsV RX2 65 RX2 yX2_canBeOneStep wsX2_canBeOneStep) := goodIn_app (goodIn_of _ (by decide +kernel)) ggX2_smallestFrom_X2_canBeOneStep
theorem dX2_smallestFrom_0 : decode cX2_smallestFrom 0 = .ok (.aload_n 0, 1) := by decide +kernel
theorem dX2_smallestFrom_1 : decode cX2_smallestFrom 1 = .ok (.getfield 35, 3) := by decide +kernel
theorem dX2_smallestFrom_4 : decode cX2_smallestFrom 4 = .ok (.iload_n 1, 1) := by decide +kernel
theorem dX2_smallestFrom_5 : decode cX2_smallestFrom 5 = .ok (.iconst (-1), 1) := by decide +kernel
theorem dX2_smallestFrom_6 : decode cX2_smallestFrom 6 = .ok (.ixor, 1) := by decide +kernel
theorem dX2_smallestFrom_7 : decode cX2_smallestFrom 7 = .ok (.iand, 1) := by decide +kernel
theorem dX2_smallestFrom_8 : decode cX2_smallestFrom 8 = .ok (.istore_n 2, 1) := by decide +kernel
theorem dX2_smallestFrom_9 : decode cX2_smallestFrom 9 = .ok (.aload_n 0, 1) := by decide +kernel
theorem dX2_smallestFrom_10 : decode cX2_smallestFrom 10 = .ok (.getfield 9, 3) := by decide +kernel
theorem dX2_smallestFrom_13 : decode cX2_smallestFrom 13 = .ok (.iload_n 1, 1) := by decide +kernel
theorem dX2_smallestFrom_14 : decode cX2_smallestFrom 14 = .ok (.invokestatic 51, 3) := by decide +kernel
theorem dX2_smallestFrom_17 : decode cX2_smallestFrom 17 = .ok (.iconst 1, 1) := by decide +kernel
theorem dX2_smallestFrom_18 : decode cX2_smallestFrom 18 = .ok (.isub, 1) := by decide +kernel
theorem dX2_smallestFrom_19 : decode cX2_smallestFrom 19 = .ok (.istore_n 3, 1) := by decide +kernel
theorem dX2_smallestFrom_20 : decode cX2_smallestFrom 20 = .ok (.iconst 1, 1) := by decide +kernel
theorem dX2_smallestFrom_21 : decode cX2_smallestFrom 21 = .ok (.istore 4, 2) := by decide +kernel
theorem dX2_smallestFrom_23 : decode cX2_smallestFrom 23 = .ok (.iload 4, 2) := by decide +kernel
theorem dX2_smallestFrom_25 : decode cX2_smallestFrom 25 = .ok (.iload_n 2, 1) := by decide +kernel
theorem dX2_smallestFrom_26 : decode cX2_smallestFrom 26 = .ok (.if_icmp .gt 45, 3) := by decide +kernel
theorem dX2_smallestFrom_29 : decode cX2_smallestFrom 29 = .ok (.iload 4, 2) := by decide +kernel
theorem dX2_smallestFrom_31 : decode cX2_smallestFrom 31 = .ok (.iload_n 2, 1) := by decide +kernel
theorem dX2_smallestFrom_32 : decode cX2_smallestFrom 32 = .ok (.iconst (-1), 1) := by decide +kernel
theorem dX2_smallestFrom_33 : decode cX2_smallestFrom 33 = .ok (.ixor, 1) := by decide +kernel
theorem dX2_smallestFrom_34 : decode cX2_smallestFrom 34 = .ok (.iand, 1) := by decide +kernel
theorem dX2_smallestFrom_35 : decode cX2_smallestFrom 35 = .ok (.ifCond .ne 30, 3) := by decide +kernel
theorem dX2_smallestFrom_38 : decode cX2_smallestFrom 38 = .ok (.aload_n 0, 1) := by decide +kernel
theorem dX2_smallestFrom_39 : decode cX2_smallestFrom 39 = .ok (.getfield 9, 3) := by decide +kernel
theorem dX2_smallestFrom_42 : decode cX2_smallestFrom 42 = .ok (.iload_n 1, 1) := by decide +kernel
theorem dX2_smallestFrom_43 : decode cX2_smallestFrom 43 = .ok (.iload 4, 2) := by decide +kernel
theorem dX2_smallestFrom_45 : decode cX2_smallestFrom 45 = .ok (.ior, 1) := by decide +kernel
theorem dX2_smallestFrom_46 : decode cX2_smallestFrom 46 = .ok (.invokestatic 51, 3) := by decide +kernel
theorem dX2_smallestFrom_49 : decode cX2_smallestFrom 49 = .ok (.iload_n 3, 1) := by decide +kernel
theorem dX2_smallestFrom_50 : decode cX2_smallestFrom 50 = .ok (.if_icmp .ne 15, 3) := by decide +kernel
theorem dX2_smallestFrom_53 : decode cX2_smallestFrom 53 = .ok (.aload_n 0, 1) := by decide +kernel
theorem dX2_smallestFrom_54 : decode cX2_smallestFrom 54 = .ok (.iload 4, 2) := by decide +kernel
theorem dX2_smallestFrom_56 : decode cX2_smallestFrom 56 = .ok (.invokevirtual 65, 3) := by decide +kernel
theorem dX2_smallestFrom_59 : decode cX2_smallestFrom 59 = .ok (.ifCond .eq 6, 3) := by decide +kernel
theorem dX2_smallestFrom_62 : decode cX2_smallestFrom 62 = .ok (.iload 4, 2) := by decide +kernel
theorem dX2_smallestFrom_64 : decode cX2_smallestFrom 64 = .ok (.ireturn, 1) := by decide +kernel
theorem dX2_smallestFrom_65 : decode cX2_smallestFrom 65 = .ok (.iinc 4 1, 3) := by decide +kernel
theorem dX2_smallestFrom_68 : decode cX2_smallestFrom 68 = .ok (.goto (-45), 3) := by decide +kernel
theorem dX2_smallestFrom_71 : decode cX2_smallestFrom 71 = .ok (.iconst 0, 1) := by decide +kernel
theorem dX2_smallestFrom_72 : decode cX2_smallestFrom 72 = .ok (.ireturn, 1) := by decide +kernel
theorem dX2_canBeOneStep_0 : decode cX2_canBeOneStep 0 = .ok (.iload_n 1, 1) := by decide +kernel
theorem dX2_canBeOneStep_1 : decode cX2_canBeOneStep 1 = .ok (.iload_n 1, 1) := by decide +kernel
theorem dX2_canBeOneStep_2 : decode cX2_canBeOneStep 2 = .ok (.iconst 1, 1) := by decide +kernel
theorem dX2_canBeOneStep_3 : decode cX2_canBeOneStep 3 = .ok (.isub, 1) := by decide +kernel
theorem dX2_canBeOneStep_4 : decode cX2_canBeOneStep 4 = .ok (.iand, 1) := by decide +kernel
theorem dX2_canBeOneStep_5 : decode cX2_canBeOneStep 5 = .ok (.ifCond .ne 7, 3) := by decide +kernel
theorem dX2_canBeOneStep_8 : decode cX2_canBeOneStep 8 = .ok (.iconst 1, 1) := by decide +kernel
theorem dX2_canBeOneStep_9 : decode cX2_canBeOneStep 9 = .ok (.goto 4, 3) := by decide +kernel
theorem dX2_canBeOneStep_12 : decode cX2_canBeOneStep 12 = .ok (.iconst 0, 1) := by decide +kernel
theorem dX2_canBeOneStep_13 : decode cX2_canBeOneStep 13 = .ok (.istore_n 2, 1) := by decide +kernel
theorem dX2_canBeOneStep_14 : decode cX2_canBeOneStep 14 = .ok (.iload_n 2, 1) := by decide +kernel
theorem dX2_canBeOneStep_15 : decode cX2_canBeOneStep 15 = .ok (.ifCond .ne 29, 3) := by decide +kernel
theorem dX2_canBeOneStep_18 : decode cX2_canBeOneStep 18 = .ok (.iload_n 1, 1) := by decide +kernel
theorem dX2_canBeOneStep_19 : decode cX2_canBeOneStep 19 = .ok (.ifCond .le 29, 3) := by decide +kernel
theorem dX2_canBeOneStep_22 : decode cX2_canBeOneStep 22 = .ok (.iload_n 1, 1) := by decide +kernel
theorem dX2_canBeOneStep_23 : decode cX2_canBeOneStep 23 = .ok (.aload_n 0, 1) := by decide +kernel
theorem dX2_canBeOneStep_24 : decode cX2_canBeOneStep 24 = .ok (.getfield 15, 3) := by decide +kernel
theorem dX2_canBeOneStep_27 : decode cX2_canBeOneStep 27 = .ok (.arraylength, 1) := by decide +kernel
theorem dX2_canBeOneStep_28 : decode cX2_canBeOneStep 28 = .ok (.if_icmp .ge 20, 3) := by decide +kernel
theorem dX2_canBeOneStep_31 : decode cX2_canBeOneStep 31 = .ok (.aload_n 0, 1) := by decide +kernel
theorem dX2_canBeOneStep_32 : decode cX2_canBeOneStep 32 = .ok (.getfield 15, 3) := by decide +kernel
theorem dX2_canBeOneStep_35 : decode cX2_canBeOneStep 35 = .ok (.iload_n 1, 1) := by decide +kernel
theorem dX2_canBeOneStep_36 : decode cX2_canBeOneStep 36 = .ok (.iaload, 1) := by decide +kernel
theorem dX2_canBeOneStep_37 : decode cX2_canBeOneStep 37 = .ok (.aload_n 0, 1) := by decide +kernel
theorem dX2_canBeOneStep_38 : decode cX2_canBeOneStep 38 = .ok (.getfield 32, 3) := by decide +kernel
theorem dX2_canBeOneStep_41 : decode cX2_canBeOneStep 41 = .ok (.if_icmp .gt 7, 3) := by decide +kernel
theorem dX2_canBeOneStep_44 : decode cX2_canBeOneStep 44 = .ok (.iconst 1, 1) := by decide +kernel
theorem dX2_canBeOneStep_45 : decode cX2_canBeOneStep 45 = .ok (.goto 4, 3) := by decide +kernel
theorem dX2_canBeOneStep_48 : decode cX2_canBeOneStep 48 = .ok (.iconst 0, 1) := by decide +kernel
theorem dX2_canBeOneStep_49 : decode cX2_canBeOneStep 49 = .ok (.ireturn, 1) := by decide +kernel
set_option maxRecDepth 20000 in
theorem ggX2_setOf_X5_at : GoodIn wsX2_setOf wsX5_at := goodIn_r _ [5] (by decide +kernel) (by decide +kernel)
set_option maxRecDepth 20000 in
theorem gX2_setOf_X5_at_n51 : GoodIn wsX2_setOf (wsX5_at) := ggX2_setOf_X5_at
theorem dX2_setOf_0 : decode cX2_setOf 0 = .ok (.iload_n 1, 1) := by decide +kernel
theorem dX2_setOf_1 : decode cX2_setOf 1 = .ok (.aload_n 0, 1) := by decide +kernel
theorem dX2_setOf_2 : decode cX2_setOf 2 = .ok (.getfield 21, 3) := by decide +kernel
theorem dX2_setOf_5 : decode cX2_setOf 5 = .ok (.if_icmp .ge 14, 3) := by decide +kernel
theorem dX2_setOf_8 : decode cX2_setOf 8 = .ok (.aload_n 0, 1) := by decide +kernel
theorem dX2_setOf_9 : decode cX2_setOf 9 = .ok (.getfield 18, 3) := by decide +kernel
theorem dX2_setOf_12 : decode cX2_setOf 12 = .ok (.iload_n 1, 1) := by decide +kernel
theorem dX2_setOf_13 : decode cX2_setOf 13 = .ok (.invokestatic 51, 3) := by decide +kernel
theorem dX2_setOf_16 : decode cX2_setOf 16 = .ok (.goto 4, 3) := by decide +kernel
theorem dX2_setOf_19 : decode cX2_setOf 19 = .ok (.iconst (-1), 1) := by decide +kernel
theorem dX2_setOf_20 : decode cX2_setOf 20 = .ok (.ireturn, 1) := by decide +kernel
set_option maxRecDepth 20000 in
theorem ggX2_flips_J13_bitCount_95d88 : GoodIn wsX2_flips wsJ13_bitCount_95d88 := goodIn_r _ [7, 8, 9, 10] (by decide +kernel) (by decide +kernel)
set_option maxRecDepth 20000 in
theorem gX2_flips_J13_bitCount_95d88 : GoodIn wsX2_flips (va_wsS RX2 69 yJ13_bitCount_95d88 wsJ13_bitCount_95d88) := goodIn_app (goodIn_of _ (by decide +kernel)) ggX2_flips_J13_bitCount_95d88
theorem dX2_flips_0 : decode cX2_flips 0 = .ok (.aload_n 0, 1) := by decide +kernel
theorem dX2_flips_1 : decode cX2_flips 1 = .ok (.getfield 21, 3) := by decide +kernel
theorem dX2_flips_4 : decode cX2_flips 4 = .ok (.iconst (-1), 1) := by decide +kernel
theorem dX2_flips_5 : decode cX2_flips 5 = .ok (.if_icmp .ne 7, 3) := by decide +kernel
theorem dX2_flips_8 : decode cX2_flips 8 = .ok (.iconst (-1), 1) := by decide +kernel
theorem dX2_flips_9 : decode cX2_flips 9 = .ok (.goto 15, 3) := by decide +kernel
theorem dX2_flips_12 : decode cX2_flips 12 = .ok (.aload_n 0, 1) := by decide +kernel
theorem dX2_flips_13 : decode cX2_flips 13 = .ok (.getfield 25, 3) := by decide +kernel
theorem dX2_flips_16 : decode cX2_flips 16 = .ok (.aload_n 0, 1) := by decide +kernel
theorem dX2_flips_17 : decode cX2_flips 17 = .ok (.getfield 29, 3) := by decide +kernel
theorem dX2_flips_20 : decode cX2_flips 20 = .ok (.lxor, 1) := by decide +kernel
theorem dX2_flips_21 : decode cX2_flips 21 = .ok (.invokestatic 69, 3) := by decide +kernel
theorem dX2_flips_24 : decode cX2_flips 24 = .ok (.ireturn, 1) := by decide +kernel
set_option maxRecDepth 20000 in
theorem ggX2_pictureBehind_X5_bitOf : GoodIn wsX2_pictureBehind wsX5_bitOf := goodIn_r _ [6] (by decide +kernel) (by decide +kernel)
set_option maxRecDepth 20000 in
theorem gX2_pictureBehind_X5_bitOf_n76 : GoodIn wsX2_pictureBehind (wsX5_bitOf) := ggX2_pictureBehind_X5_bitOf
theorem dX2_pictureBehind_0 : decode cX2_pictureBehind 0 = .ok (.aload_n 0, 1) := by decide +kernel
theorem dX2_pictureBehind_1 : decode cX2_pictureBehind 1 = .ok (.getfield 25, 3) := by decide +kernel
theorem dX2_pictureBehind_4 : decode cX2_pictureBehind 4 = .ok (.lstore_n 2, 1) := by decide +kernel
theorem dX2_pictureBehind_5 : decode cX2_pictureBehind 5 = .ok (.iconst 0, 1) := by decide +kernel
theorem dX2_pictureBehind_6 : decode cX2_pictureBehind 6 = .ok (.istore 4, 2) := by decide +kernel
theorem dX2_pictureBehind_8 : decode cX2_pictureBehind 8 = .ok (.iload 4, 2) := by decide +kernel
theorem dX2_pictureBehind_10 : decode cX2_pictureBehind 10 = .ok (.bipush 8, 2) := by decide +kernel
theorem dX2_pictureBehind_12 : decode cX2_pictureBehind 12 = .ok (.if_icmp .ge 41, 3) := by decide +kernel
theorem dX2_pictureBehind_15 : decode cX2_pictureBehind 15 = .ok (.iload_n 1, 1) := by decide +kernel
theorem dX2_pictureBehind_16 : decode cX2_pictureBehind 16 = .ok (.iconst 1, 1) := by decide +kernel
theorem dX2_pictureBehind_17 : decode cX2_pictureBehind 17 = .ok (.iload 4, 2) := by decide +kernel
theorem dX2_pictureBehind_19 : decode cX2_pictureBehind 19 = .ok (.ishl, 1) := by decide +kernel
theorem dX2_pictureBehind_20 : decode cX2_pictureBehind 20 = .ok (.iand, 1) := by decide +kernel
theorem dX2_pictureBehind_21 : decode cX2_pictureBehind 21 = .ok (.ifCond .eq 26, 3) := by decide +kernel
theorem dX2_pictureBehind_24 : decode cX2_pictureBehind 24 = .ok (.lload_n 2, 1) := by decide +kernel
theorem dX2_pictureBehind_25 : decode cX2_pictureBehind 25 = .ok (.aload_n 0, 1) := by decide +kernel
theorem dX2_pictureBehind_26 : decode cX2_pictureBehind 26 = .ok (.getfield 25, 3) := by decide +kernel
theorem dX2_pictureBehind_29 : decode cX2_pictureBehind 29 = .ok (.aload_n 0, 1) := by decide +kernel
theorem dX2_pictureBehind_30 : decode cX2_pictureBehind 30 = .ok (.getfield 29, 3) := by decide +kernel
theorem dX2_pictureBehind_33 : decode cX2_pictureBehind 33 = .ok (.lxor, 1) := by decide +kernel
theorem dX2_pictureBehind_34 : decode cX2_pictureBehind 34 = .ok (.ldc2_w 74, 3) := by decide +kernel
theorem dX2_pictureBehind_37 : decode cX2_pictureBehind 37 = .ok (.iload 4, 2) := by decide +kernel
theorem dX2_pictureBehind_39 : decode cX2_pictureBehind 39 = .ok (.iconst 0, 1) := by decide +kernel
theorem dX2_pictureBehind_40 : decode cX2_pictureBehind 40 = .ok (.invokestatic 76, 3) := by decide +kernel
theorem dX2_pictureBehind_43 : decode cX2_pictureBehind 43 = .ok (.lshl, 1) := by decide +kernel
theorem dX2_pictureBehind_44 : decode cX2_pictureBehind 44 = .ok (.land, 1) := by decide +kernel
theorem dX2_pictureBehind_45 : decode cX2_pictureBehind 45 = .ok (.lxor, 1) := by decide +kernel
theorem dX2_pictureBehind_46 : decode cX2_pictureBehind 46 = .ok (.lstore_n 2, 1) := by decide +kernel
theorem dX2_pictureBehind_47 : decode cX2_pictureBehind 47 = .ok (.iinc 4 1, 3) := by decide +kernel
theorem dX2_pictureBehind_50 : decode cX2_pictureBehind 50 = .ok (.goto (-42), 3) := by decide +kernel
theorem dX2_pictureBehind_53 : decode cX2_pictureBehind 53 = .ok (.lload_n 2, 1) := by decide +kernel
theorem dX2_pictureBehind_54 : decode cX2_pictureBehind 54 = .ok (.lreturn, 1) := by decide +kernel
theorem dX3_init_0 : decode cX3_init 0 = .ok (.aload_n 0, 1) := by decide +kernel
theorem dX3_init_1 : decode cX3_init 1 = .ok (.invokespecial 3, 3) := by decide +kernel
theorem dX3_init_4 : decode cX3_init 4 = .ok (.aload_n 0, 1) := by decide +kernel
theorem dX3_init_5 : decode cX3_init 5 = .ok (.bipush 6, 2) := by decide +kernel
theorem dX3_init_7 : decode cX3_init 7 = .ok (.newarray .int, 2) := by decide +kernel
theorem dX3_init_9 : decode cX3_init 9 = .ok (.putfield 9, 3) := by decide +kernel
theorem dX3_init_12 : decode cX3_init 12 = .ok (.aload_n 0, 1) := by decide +kernel
theorem dX3_init_13 : decode cX3_init 13 = .ok (.bipush 6, 2) := by decide +kernel
theorem dX3_init_15 : decode cX3_init 15 = .ok (.newarray .int, 2) := by decide +kernel
theorem dX3_init_17 : decode cX3_init 17 = .ok (.putfield 15, 3) := by decide +kernel
theorem dX3_init_20 : decode cX3_init 20 = .ok (.return_, 1) := by decide +kernel
theorem dX3_fact_0 : decode cX3_fact 0 = .ok (.iload_n 1, 1) := by decide +kernel
theorem dX3_fact_1 : decode cX3_fact 1 = .ok (.lookupswitch 37 #[(14, 27), (15, 32)], 27) := by decide +kernel
theorem dX3_fact_28 : decode cX3_fact 28 = .ok (.aload_n 0, 1) := by decide +kernel
theorem dX3_fact_29 : decode cX3_fact 29 = .ok (.getfield 18, 3) := by decide +kernel
theorem dX3_fact_32 : decode cX3_fact 32 = .ok (.ireturn, 1) := by decide +kernel
theorem dX3_fact_33 : decode cX3_fact 33 = .ok (.aload_n 0, 1) := by decide +kernel
theorem dX3_fact_34 : decode cX3_fact 34 = .ok (.getfield 29, 3) := by decide +kernel
theorem dX3_fact_37 : decode cX3_fact 37 = .ok (.ireturn, 1) := by decide +kernel
theorem dX3_fact_38 : decode cX3_fact 38 = .ok (.aload_n 0, 1) := by decide +kernel
theorem dX3_fact_39 : decode cX3_fact 39 = .ok (.getfield 26, 3) := by decide +kernel
theorem dX3_fact_42 : decode cX3_fact 42 = .ok (.ireturn, 1) := by decide +kernel
theorem dX3_isTrue_0 : decode cX3_isTrue 0 = .ok (.aload_n 0, 1) := by decide +kernel
theorem dX3_isTrue_1 : decode cX3_isTrue 1 = .ok (.getfield 29, 3) := by decide +kernel
theorem dX3_isTrue_4 : decode cX3_isTrue 4 = .ok (.iconst (-1), 1) := by decide +kernel
theorem dX3_isTrue_5 : decode cX3_isTrue 5 = .ok (.if_icmp .eq 28, 3) := by decide +kernel
theorem dX3_isTrue_8 : decode cX3_isTrue 8 = .ok (.aload_n 0, 1) := by decide +kernel
theorem dX3_isTrue_9 : decode cX3_isTrue 9 = .ok (.getfield 29, 3) := by decide +kernel
theorem dX3_isTrue_12 : decode cX3_isTrue 12 = .ok (.ifCond .eq 21, 3) := by decide +kernel
theorem dX3_isTrue_15 : decode cX3_isTrue 15 = .ok (.aload_n 0, 1) := by decide +kernel
theorem dX3_isTrue_16 : decode cX3_isTrue 16 = .ok (.getfield 29, 3) := by decide +kernel
theorem dX3_isTrue_19 : decode cX3_isTrue 19 = .ok (.ifCond .le 18, 3) := by decide +kernel
theorem dX3_isTrue_22 : decode cX3_isTrue 22 = .ok (.aload_n 0, 1) := by decide +kernel
theorem dX3_isTrue_23 : decode cX3_isTrue 23 = .ok (.getfield 29, 3) := by decide +kernel
theorem dX3_isTrue_26 : decode cX3_isTrue 26 = .ok (.aload_n 0, 1) := by decide +kernel
theorem dX3_isTrue_27 : decode cX3_isTrue 27 = .ok (.getfield 18, 3) := by decide +kernel
theorem dX3_isTrue_30 : decode cX3_isTrue 30 = .ok (.if_icmp .ge 7, 3) := by decide +kernel
theorem dX3_isTrue_33 : decode cX3_isTrue 33 = .ok (.iconst 1, 1) := by decide +kernel
theorem dX3_isTrue_34 : decode cX3_isTrue 34 = .ok (.goto 4, 3) := by decide +kernel
theorem dX3_isTrue_37 : decode cX3_isTrue 37 = .ok (.iconst 0, 1) := by decide +kernel
theorem dX3_isTrue_38 : decode cX3_isTrue 38 = .ok (.ireturn, 1) := by decide +kernel
theorem dX4_init_0 : decode cX4_init 0 = .ok (.aload_n 0, 1) := by decide +kernel
theorem dX4_init_1 : decode cX4_init 1 = .ok (.invokespecial 3, 3) := by decide +kernel
theorem dX4_init_4 : decode cX4_init 4 = .ok (.aload_n 0, 1) := by decide +kernel
theorem dX4_init_5 : decode cX4_init 5 = .ok (.bipush 7, 2) := by decide +kernel
theorem dX4_init_7 : decode cX4_init 7 = .ok (.putfield 9, 3) := by decide +kernel
theorem dX4_init_10 : decode cX4_init 10 = .ok (.return_, 1) := by decide +kernel
theorem dX4_fact_0 : decode cX4_fact 0 = .ok (.iload_n 1, 1) := by decide +kernel
theorem dX4_fact_1 : decode cX4_fact 1 = .ok (.tableswitch 51 9 12 #[31, 36, 41, 46], 31) := by decide +kernel
theorem dX4_fact_32 : decode cX4_fact 32 = .ok (.aload_n 0, 1) := by decide +kernel
theorem dX4_fact_33 : decode cX4_fact 33 = .ok (.getfield 24, 3) := by decide +kernel
theorem dX4_fact_36 : decode cX4_fact 36 = .ok (.ireturn, 1) := by decide +kernel
theorem dX4_fact_37 : decode cX4_fact 37 = .ok (.aload_n 0, 1) := by decide +kernel
theorem dX4_fact_38 : decode cX4_fact 38 = .ok (.getfield 27, 3) := by decide +kernel
theorem dX4_fact_41 : decode cX4_fact 41 = .ok (.ireturn, 1) := by decide +kernel
theorem dX4_fact_42 : decode cX4_fact 42 = .ok (.aload_n 0, 1) := by decide +kernel
theorem dX4_fact_43 : decode cX4_fact 43 = .ok (.getfield 21, 3) := by decide +kernel
theorem dX4_fact_46 : decode cX4_fact 46 = .ok (.ireturn, 1) := by decide +kernel
theorem dX4_fact_47 : decode cX4_fact 47 = .ok (.aload_n 0, 1) := by decide +kernel
theorem dX4_fact_48 : decode cX4_fact 48 = .ok (.getfield 30, 3) := by decide +kernel
theorem dX4_fact_51 : decode cX4_fact 51 = .ok (.ireturn, 1) := by decide +kernel
theorem dX4_fact_52 : decode cX4_fact 52 = .ok (.aload_n 0, 1) := by decide +kernel
theorem dX4_fact_53 : decode cX4_fact 53 = .ok (.getfield 9, 3) := by decide +kernel
theorem dX4_fact_56 : decode cX4_fact 56 = .ok (.ireturn, 1) := by decide +kernel
set_option maxRecDepth 20000 in
theorem ggX5_init_X0_init : GoodIn wsX5_init wsX0_init := goodIn_r _ [28, 29, 2, 3, 30, 31, 32, 33, 59, 60, 61, 62, 63, 64] (by decide +kernel) (by decide +kernel)
set_option maxRecDepth 20000 in
theorem gX5_init_X0_init_n9 : GoodIn wsX5_init (wsX0_init) := ggX5_init_X0_init
set_option maxRecDepth 20000 in
theorem ggX5_init_X1_init : GoodIn wsX5_init wsX1_init := goodIn_r _ [35, 36, 2, 3, 30, 37, 38, 39, 40, 41, 42, 74, 75, 76, 77, 78, 79, 80] (by decide +kernel) (by decide +kernel)
set_option maxRecDepth 20000 in
theorem gX5_init_X1_init_n18 : GoodIn wsX5_init (wsX1_init) := ggX5_init_X1_init
set_option maxRecDepth 20000 in
theorem ggX5_init_X2_init : GoodIn wsX5_init wsX2_init := goodIn_r _ [44, 45, 2, 3, 30, 46, 47, 48, 49, 81, 82, 83, 84, 85, 86, 87, 88] (by decide +kernel) (by decide +kernel)
set_option maxRecDepth 20000 in
theorem gX5_init_X2_init_n25 : GoodIn wsX5_init (wsX2_init) := ggX5_init_X2_init
set_option maxRecDepth 20000 in
theorem ggX5_init_X4_init : GoodIn wsX5_init wsX4_init := goodIn_r _ [51, 52, 2, 3, 53, 89, 90, 91, 92, 93] (by decide +kernel) (by decide +kernel)
set_option maxRecDepth 20000 in
theorem gX5_init_X4_init_n32 : GoodIn wsX5_init (wsX4_init) := ggX5_init_X4_init
set_option maxRecDepth 20000 in
theorem ggX5_init_X3_init : GoodIn wsX5_init wsX3_init := goodIn_r _ [55, 56, 2, 3, 30, 57, 58, 94, 95, 96, 97, 98] (by decide +kernel) (by decide +kernel)
set_option maxRecDepth 20000 in
theorem gX5_init_X3_init_n39 : GoodIn wsX5_init (wsX3_init) := ggX5_init_X3_init
theorem dX5_init_0 : decode cX5_init 0 = .ok (.aload_n 0, 1) := by decide +kernel
theorem dX5_init_1 : decode cX5_init 1 = .ok (.invokespecial 1, 3) := by decide +kernel
theorem dX5_init_4 : decode cX5_init 4 = .ok (.aload_n 0, 1) := by decide +kernel
theorem dX5_init_5 : decode cX5_init 5 = .ok (.new 7, 3) := by decide +kernel
theorem dX5_init_8 : decode cX5_init 8 = .ok (.dup, 1) := by decide +kernel
theorem dX5_init_9 : decode cX5_init 9 = .ok (.invokespecial 9, 3) := by decide +kernel
theorem dX5_init_12 : decode cX5_init 12 = .ok (.putfield 10, 3) := by decide +kernel
theorem dX5_init_15 : decode cX5_init 15 = .ok (.aload_n 0, 1) := by decide +kernel
theorem dX5_init_16 : decode cX5_init 16 = .ok (.new 16, 3) := by decide +kernel
theorem dX5_init_19 : decode cX5_init 19 = .ok (.dup, 1) := by decide +kernel
theorem dX5_init_20 : decode cX5_init 20 = .ok (.invokespecial 18, 3) := by decide +kernel
theorem dX5_init_23 : decode cX5_init 23 = .ok (.putfield 19, 3) := by decide +kernel
theorem dX5_init_26 : decode cX5_init 26 = .ok (.aload_n 0, 1) := by decide +kernel
theorem dX5_init_27 : decode cX5_init 27 = .ok (.new 23, 3) := by decide +kernel
theorem dX5_init_30 : decode cX5_init 30 = .ok (.dup, 1) := by decide +kernel
theorem dX5_init_31 : decode cX5_init 31 = .ok (.invokespecial 25, 3) := by decide +kernel
theorem dX5_init_34 : decode cX5_init 34 = .ok (.putfield 26, 3) := by decide +kernel
theorem dX5_init_37 : decode cX5_init 37 = .ok (.aload_n 0, 1) := by decide +kernel
theorem dX5_init_38 : decode cX5_init 38 = .ok (.new 30, 3) := by decide +kernel
theorem dX5_init_41 : decode cX5_init 41 = .ok (.dup, 1) := by decide +kernel
theorem dX5_init_42 : decode cX5_init 42 = .ok (.invokespecial 32, 3) := by decide +kernel
theorem dX5_init_45 : decode cX5_init 45 = .ok (.putfield 33, 3) := by decide +kernel
theorem dX5_init_48 : decode cX5_init 48 = .ok (.aload_n 0, 1) := by decide +kernel
theorem dX5_init_49 : decode cX5_init 49 = .ok (.new 37, 3) := by decide +kernel
theorem dX5_init_52 : decode cX5_init 52 = .ok (.dup, 1) := by decide +kernel
theorem dX5_init_53 : decode cX5_init 53 = .ok (.invokespecial 39, 3) := by decide +kernel
theorem dX5_init_56 : decode cX5_init 56 = .ok (.putfield 40, 3) := by decide +kernel
theorem dX5_init_59 : decode cX5_init 59 = .ok (.aload_n 0, 1) := by decide +kernel
theorem dX5_init_60 : decode cX5_init 60 = .ok (.bipush 10, 2) := by decide +kernel
theorem dX5_init_62 : decode cX5_init 62 = .ok (.putfield 44, 3) := by decide +kernel
theorem dX5_init_65 : decode cX5_init 65 = .ok (.aload_n 0, 1) := by decide +kernel
theorem dX5_init_66 : decode cX5_init 66 = .ok (.iconst 3, 1) := by decide +kernel
theorem dX5_init_67 : decode cX5_init 67 = .ok (.putfield 48, 3) := by decide +kernel
theorem dX5_init_70 : decode cX5_init 70 = .ok (.aload_n 0, 1) := by decide +kernel
theorem dX5_init_71 : decode cX5_init 71 = .ok (.iconst (-1), 1) := by decide +kernel
theorem dX5_init_72 : decode cX5_init 72 = .ok (.putfield 51, 3) := by decide +kernel
theorem dX5_init_75 : decode cX5_init 75 = .ok (.return_, 1) := by decide +kernel
set_option maxRecDepth 20000 in
theorem ggX5_width_X0_begin : GoodIn wsX5_width wsX0_begin := goodIn_r _ [8, 9, 10, 11, 12, 13, 14, 24, 25, 26, 27, 28, 29] (by decide +kernel) (by decide +kernel)
set_option maxRecDepth 20000 in
theorem gX5_width_X0_begin_n64 : GoodIn wsX5_width (wsX0_begin) := ggX5_width_X0_begin
theorem dX5_width_0 : decode cX5_width 0 = .ok (.iload_n 1, 1) := by decide +kernel
theorem dX5_width_1 : decode cX5_width 1 = .ok (.iconst 4, 1) := by decide +kernel
theorem dX5_width_2 : decode cX5_width 2 = .ok (.if_icmp .lt 9, 3) := by decide +kernel
theorem dX5_width_5 : decode cX5_width 5 = .ok (.iload_n 1, 1) := by decide +kernel
theorem dX5_width_6 : decode cX5_width 6 = .ok (.bipush 8, 2) := by decide +kernel
theorem dX5_width_8 : decode cX5_width 8 = .ok (.if_icmp .le 13, 3) := by decide +kernel
theorem dX5_width_11 : decode cX5_width 11 = .ok (.new 54, 3) := by decide +kernel
theorem dX5_width_14 : decode cX5_width 14 = .ok (.dup, 1) := by decide +kernel
theorem dX5_width_15 : decode cX5_width 15 = .ok (.ldc 56, 2) := by decide +kernel
theorem dX5_width_17 : decode cX5_width 17 = .ok (.invokespecial 58, 3) := by decide +kernel
theorem dX5_width_20 : decode cX5_width 20 = .ok (.athrow, 1) := by decide +kernel
theorem dX5_width_21 : decode cX5_width 21 = .ok (.aload_n 0, 1) := by decide +kernel
theorem dX5_width_22 : decode cX5_width 22 = .ok (.getfield 10, 3) := by decide +kernel
theorem dX5_width_25 : decode cX5_width 25 = .ok (.getfield 61, 3) := by decide +kernel
theorem dX5_width_28 : decode cX5_width 28 = .ok (.istore_n 2, 1) := by decide +kernel
theorem dX5_width_29 : decode cX5_width 29 = .ok (.aload_n 0, 1) := by decide +kernel
theorem dX5_width_30 : decode cX5_width 30 = .ok (.getfield 10, 3) := by decide +kernel
theorem dX5_width_33 : decode cX5_width 33 = .ok (.iload_n 1, 1) := by decide +kernel
theorem dX5_width_34 : decode cX5_width 34 = .ok (.invokevirtual 64, 3) := by decide +kernel
theorem dX5_width_37 : decode cX5_width 37 = .ok (.aload_n 0, 1) := by decide +kernel
theorem dX5_width_38 : decode cX5_width 38 = .ok (.iconst (-1), 1) := by decide +kernel
theorem dX5_width_39 : decode cX5_width 39 = .ok (.putfield 51, 3) := by decide +kernel
theorem dX5_width_42 : decode cX5_width 42 = .ok (.iload_n 2, 1) := by decide +kernel
theorem dX5_width_43 : decode cX5_width 43 = .ok (.ireturn, 1) := by decide +kernel
theorem dX5_power_0 : decode cX5_power 0 = .ok (.iload_n 1, 1) := by decide +kernel
theorem dX5_power_1 : decode cX5_power 1 = .ok (.iconst 1, 1) := by decide +kernel
theorem dX5_power_2 : decode cX5_power 2 = .ok (.if_icmp .lt 19, 3) := by decide +kernel
theorem dX5_power_5 : decode cX5_power 5 = .ok (.iload_n 1, 1) := by decide +kernel
theorem dX5_power_6 : decode cX5_power 6 = .ok (.bipush 40, 2) := by decide +kernel
theorem dX5_power_8 : decode cX5_power 8 = .ok (.if_icmp .gt 13, 3) := by decide +kernel
theorem dX5_power_11 : decode cX5_power 11 = .ok (.iload_n 2, 1) := by decide +kernel
theorem dX5_power_12 : decode cX5_power 12 = .ok (.ifCond .lt 9, 3) := by decide +kernel
theorem dX5_power_15 : decode cX5_power 15 = .ok (.iload_n 2, 1) := by decide +kernel
theorem dX5_power_16 : decode cX5_power 16 = .ok (.bipush 10, 2) := by decide +kernel
theorem dX5_power_18 : decode cX5_power 18 = .ok (.if_icmp .le 13, 3) := by decide +kernel
theorem dX5_power_21 : decode cX5_power 21 = .ok (.new 54, 3) := by decide +kernel
theorem dX5_power_24 : decode cX5_power 24 = .ok (.dup, 1) := by decide +kernel
theorem dX5_power_25 : decode cX5_power 25 = .ok (.ldc 68, 2) := by decide +kernel
theorem dX5_power_27 : decode cX5_power 27 = .ok (.invokespecial 58, 3) := by decide +kernel
theorem dX5_power_30 : decode cX5_power 30 = .ok (.athrow, 1) := by decide +kernel
theorem dX5_power_31 : decode cX5_power 31 = .ok (.aload_n 0, 1) := by decide +kernel
theorem dX5_power_32 : decode cX5_power 32 = .ok (.getfield 44, 3) := by decide +kernel
theorem dX5_power_35 : decode cX5_power 35 = .ok (.istore_n 3, 1) := by decide +kernel
theorem dX5_power_36 : decode cX5_power 36 = .ok (.aload_n 0, 1) := by decide +kernel
theorem dX5_power_37 : decode cX5_power 37 = .ok (.iload_n 1, 1) := by decide +kernel
theorem dX5_power_38 : decode cX5_power 38 = .ok (.putfield 44, 3) := by decide +kernel
theorem dX5_power_41 : decode cX5_power 41 = .ok (.aload_n 0, 1) := by decide +kernel
theorem dX5_power_42 : decode cX5_power 42 = .ok (.iload_n 2, 1) := by decide +kernel
theorem dX5_power_43 : decode cX5_power 43 = .ok (.putfield 48, 3) := by decide +kernel
theorem dX5_power_46 : decode cX5_power 46 = .ok (.iload_n 3, 1) := by decide +kernel
theorem dX5_power_47 : decode cX5_power 47 = .ok (.ireturn, 1) := by decide +kernel
set_option maxRecDepth 20000 in
theorem ggX5_letter_X5_isColumnSet : GoodIn wsX5_letter wsX5_isColumnSet := goodIn_r _ [9] (by decide +kernel) (by decide +kernel)
set_option maxRecDepth 20000 in
theorem gX5_letter_X5_isColumnSet : GoodIn wsX5_letter (va_wsS RX5 70 yX5_isColumnSet wsX5_isColumnSet) := goodIn_app (goodIn_of _ (by decide +kernel)) ggX5_letter_X5_isColumnSet
set_option maxRecDepth 20000 in
theorem ggX5_letter_X1_addLetter : GoodIn wsX5_letter wsX1_addLetter := goodIn_r _ [13, 14, 15, 16, 17, 8, 18, 28, 29, 30, 31, 32, 33, 34] (by decide +kernel) (by decide +kernel)
set_option maxRecDepth 20000 in
theorem gX5_letter_X1_addLetter_n86 : GoodIn wsX5_letter (wsX1_addLetter) := ggX5_letter_X1_addLetter
theorem dX5_letter_0 : decode cX5_letter 0 = .ok (.iload_n 1, 1) := by decide +kernel
theorem dX5_letter_1 : decode cX5_letter 1 = .ok (.iconst 1, 1) := by decide +kernel
theorem dX5_letter_2 : decode cX5_letter 2 = .ok (.if_icmp .lt 30, 3) := by decide +kernel
theorem dX5_letter_5 : decode cX5_letter 5 = .ok (.iload_n 1, 1) := by decide +kernel
theorem dX5_letter_6 : decode cX5_letter 6 = .ok (.iconst 3, 1) := by decide +kernel
theorem dX5_letter_7 : decode cX5_letter 7 = .ok (.if_icmp .gt 25, 3) := by decide +kernel
theorem dX5_letter_10 : decode cX5_letter 10 = .ok (.iload_n 2, 1) := by decide +kernel
theorem dX5_letter_11 : decode cX5_letter 11 = .ok (.invokestatic 70, 3) := by decide +kernel
theorem dX5_letter_14 : decode cX5_letter 14 = .ok (.ifCond .eq 18, 3) := by decide +kernel
theorem dX5_letter_17 : decode cX5_letter 17 = .ok (.iload_n 3, 1) := by decide +kernel
theorem dX5_letter_18 : decode cX5_letter 18 = .ok (.invokestatic 70, 3) := by decide +kernel
theorem dX5_letter_21 : decode cX5_letter 21 = .ok (.ifCond .eq 11, 3) := by decide +kernel
theorem dX5_letter_24 : decode cX5_letter 24 = .ok (.iload 4, 2) := by decide +kernel
theorem dX5_letter_26 : decode cX5_letter 26 = .ok (.invokestatic 70, 3) := by decide +kernel
theorem dX5_letter_29 : decode cX5_letter 29 = .ok (.ifCond .ne 13, 3) := by decide +kernel
theorem dX5_letter_32 : decode cX5_letter 32 = .ok (.new 54, 3) := by decide +kernel
theorem dX5_letter_35 : decode cX5_letter 35 = .ok (.dup, 1) := by decide +kernel
theorem dX5_letter_36 : decode cX5_letter 36 = .ok (.ldc 74, 2) := by decide +kernel
theorem dX5_letter_38 : decode cX5_letter 38 = .ok (.invokespecial 58, 3) := by decide +kernel
theorem dX5_letter_41 : decode cX5_letter 41 = .ok (.athrow, 1) := by decide +kernel
theorem dX5_letter_42 : decode cX5_letter 42 = .ok (.iload_n 1, 1) := by decide +kernel
theorem dX5_letter_43 : decode cX5_letter 43 = .ok (.iconst 2, 1) := by decide +kernel
theorem dX5_letter_44 : decode cX5_letter 44 = .ok (.if_icmp .ge 7, 3) := by decide +kernel
theorem dX5_letter_47 : decode cX5_letter 47 = .ok (.iload_n 3, 1) := by decide +kernel
theorem dX5_letter_48 : decode cX5_letter 48 = .ok (.ifCond .ne 22, 3) := by decide +kernel
theorem dX5_letter_51 : decode cX5_letter 51 = .ok (.iload_n 1, 1) := by decide +kernel
theorem dX5_letter_52 : decode cX5_letter 52 = .ok (.iconst 3, 1) := by decide +kernel
theorem dX5_letter_53 : decode cX5_letter 53 = .ok (.if_icmp .ge 8, 3) := by decide +kernel
theorem dX5_letter_56 : decode cX5_letter 56 = .ok (.iload 4, 2) := by decide +kernel
theorem dX5_letter_58 : decode cX5_letter 58 = .ok (.ifCond .ne 12, 3) := by decide +kernel
theorem dX5_letter_61 : decode cX5_letter 61 = .ok (.iload_n 2, 1) := by decide +kernel
theorem dX5_letter_62 : decode cX5_letter 62 = .ok (.iload_n 3, 1) := by decide +kernel
theorem dX5_letter_63 : decode cX5_letter 63 = .ok (.ior, 1) := by decide +kernel
theorem dX5_letter_64 : decode cX5_letter 64 = .ok (.iload 4, 2) := by decide +kernel
theorem dX5_letter_66 : decode cX5_letter 66 = .ok (.ior, 1) := by decide +kernel
theorem dX5_letter_67 : decode cX5_letter 67 = .ok (.ifCond .ne 13, 3) := by decide +kernel
theorem dX5_letter_70 : decode cX5_letter 70 = .ok (.new 54, 3) := by decide +kernel
theorem dX5_letter_73 : decode cX5_letter 73 = .ok (.dup, 1) := by decide +kernel
theorem dX5_letter_74 : decode cX5_letter 74 = .ok (.ldc 76, 2) := by decide +kernel
theorem dX5_letter_76 : decode cX5_letter 76 = .ok (.invokespecial 58, 3) := by decide +kernel
theorem dX5_letter_79 : decode cX5_letter 79 = .ok (.athrow, 1) := by decide +kernel
theorem dX5_letter_80 : decode cX5_letter 80 = .ok (.aload_n 0, 1) := by decide +kernel
theorem dX5_letter_81 : decode cX5_letter 81 = .ok (.getfield 19, 3) := by decide +kernel
theorem dX5_letter_84 : decode cX5_letter 84 = .ok (.getfield 78, 3) := by decide +kernel
theorem dX5_letter_87 : decode cX5_letter 87 = .ok (.bipush 6, 2) := by decide +kernel
theorem dX5_letter_89 : decode cX5_letter 89 = .ok (.if_icmp .lt 13, 3) := by decide +kernel
theorem dX5_letter_92 : decode cX5_letter 92 = .ok (.new 81, 3) := by decide +kernel
theorem dX5_letter_95 : decode cX5_letter 95 = .ok (.dup, 1) := by decide +kernel
theorem dX5_letter_96 : decode cX5_letter 96 = .ok (.ldc 83, 2) := by decide +kernel
theorem dX5_letter_98 : decode cX5_letter 98 = .ok (.invokespecial 85, 3) := by decide +kernel
theorem dX5_letter_101 : decode cX5_letter 101 = .ok (.athrow, 1) := by decide +kernel
theorem dX5_letter_102 : decode cX5_letter 102 = .ok (.aload_n 0, 1) := by decide +kernel
theorem dX5_letter_103 : decode cX5_letter 103 = .ok (.getfield 19, 3) := by decide +kernel
theorem dX5_letter_106 : decode cX5_letter 106 = .ok (.iload_n 1, 1) := by decide +kernel
theorem dX5_letter_107 : decode cX5_letter 107 = .ok (.iload_n 2, 1) := by decide +kernel
theorem dX5_letter_108 : decode cX5_letter 108 = .ok (.iload_n 3, 1) := by decide +kernel
theorem dX5_letter_109 : decode cX5_letter 109 = .ok (.iconst 5, 1) := by decide +kernel
theorem dX5_letter_110 : decode cX5_letter 110 = .ok (.ishl, 1) := by decide +kernel
theorem dX5_letter_111 : decode cX5_letter 111 = .ok (.ior, 1) := by decide +kernel
theorem dX5_letter_112 : decode cX5_letter 112 = .ok (.iload 4, 2) := by decide +kernel
theorem dX5_letter_114 : decode cX5_letter 114 = .ok (.bipush 10, 2) := by decide +kernel
theorem dX5_letter_116 : decode cX5_letter 116 = .ok (.ishl, 1) := by decide +kernel
theorem dX5_letter_117 : decode cX5_letter 117 = .ok (.ior, 1) := by decide +kernel
theorem dX5_letter_118 : decode cX5_letter 118 = .ok (.invokevirtual 86, 3) := by decide +kernel
theorem dX5_letter_121 : decode cX5_letter 121 = .ok (.ireturn, 1) := by decide +kernel
set_option maxRecDepth 20000 in
theorem ggX5_list_X1_canSpell : GoodIn wsX5_list wsX1_canSpell := goodIn_r _ [9, 10, 45, 46, 47, 48, 49, 50, 51] (by decide +kernel) (by decide +kernel)
set_option maxRecDepth 20000 in
theorem gX5_list_X1_canSpell_n90 : GoodIn wsX5_list (wsX1_canSpell) := ggX5_list_X1_canSpell
set_option maxRecDepth 20000 in
theorem ggX5_list_X1_hasRow : GoodIn wsX5_list wsX1_hasRow := goodIn_r _ [13, 14, 15, 16, 17, 18, 45, 46, 47, 48, 49, 50, 51] (by decide +kernel) (by decide +kernel)
set_option maxRecDepth 20000 in
theorem gX5_list_X1_hasRow_n98 : GoodIn wsX5_list (wsX1_hasRow) := ggX5_list_X1_hasRow
set_option maxRecDepth 20000 in
theorem ggX5_list_X1_addLine : GoodIn wsX5_list wsX1_addLine := goodIn_r _ [21, 22, 15, 14, 23, 24, 25, 26, 27, 7, 28, 29, 16, 17, 18, 30, 31, 32, 33, 34, 35, 45, 46, 47, 48, 49, 50, 51] (by decide +kernel) (by decide +kernel)
set_option maxRecDepth 20000 in
theorem gX5_list_X1_addLine_n103 : GoodIn wsX5_list (wsX1_addLine) := ggX5_list_X1_addLine
theorem dX5_list_0 : decode cX5_list 0 = .ok (.aload_n 0, 1) := by decide +kernel
theorem dX5_list_1 : decode cX5_list 1 = .ok (.getfield 19, 3) := by decide +kernel
theorem dX5_list_4 : decode cX5_list 4 = .ok (.iload_n 1, 1) := by decide +kernel
theorem dX5_list_5 : decode cX5_list 5 = .ok (.invokevirtual 90, 3) := by decide +kernel
theorem dX5_list_8 : decode cX5_list 8 = .ok (.ifCond .ne 13, 3) := by decide +kernel
theorem dX5_list_11 : decode cX5_list 11 = .ok (.new 54, 3) := by decide +kernel
theorem dX5_list_14 : decode cX5_list 14 = .ok (.dup, 1) := by decide +kernel
theorem dX5_list_15 : decode cX5_list 15 = .ok (.ldc 93, 2) := by decide +kernel
theorem dX5_list_17 : decode cX5_list 17 = .ok (.invokespecial 58, 3) := by decide +kernel
theorem dX5_list_20 : decode cX5_list 20 = .ok (.athrow, 1) := by decide +kernel
theorem dX5_list_21 : decode cX5_list 21 = .ok (.aload_n 0, 1) := by decide +kernel
theorem dX5_list_22 : decode cX5_list 22 = .ok (.getfield 19, 3) := by decide +kernel
theorem dX5_list_25 : decode cX5_list 25 = .ok (.getfield 95, 3) := by decide +kernel
theorem dX5_list_28 : decode cX5_list 28 = .ok (.bipush 8, 2) := by decide +kernel
theorem dX5_list_30 : decode cX5_list 30 = .ok (.if_icmp .ge 14, 3) := by decide +kernel
theorem dX5_list_33 : decode cX5_list 33 = .ok (.aload_n 0, 1) := by decide +kernel
theorem dX5_list_34 : decode cX5_list 34 = .ok (.getfield 19, 3) := by decide +kernel
theorem dX5_list_37 : decode cX5_list 37 = .ok (.iload_n 1, 1) := by decide +kernel
theorem dX5_list_38 : decode cX5_list 38 = .ok (.invokevirtual 98, 3) := by decide +kernel
theorem dX5_list_41 : decode cX5_list 41 = .ok (.ifCond .eq 13, 3) := by decide +kernel
theorem dX5_list_44 : decode cX5_list 44 = .ok (.new 81, 3) := by decide +kernel
theorem dX5_list_47 : decode cX5_list 47 = .ok (.dup, 1) := by decide +kernel
theorem dX5_list_48 : decode cX5_list 48 = .ok (.ldc 101, 2) := by decide +kernel
theorem dX5_list_50 : decode cX5_list 50 = .ok (.invokespecial 85, 3) := by decide +kernel
theorem dX5_list_53 : decode cX5_list 53 = .ok (.athrow, 1) := by decide +kernel
theorem dX5_list_54 : decode cX5_list 54 = .ok (.aload_n 0, 1) := by decide +kernel
theorem dX5_list_55 : decode cX5_list 55 = .ok (.getfield 19, 3) := by decide +kernel
theorem dX5_list_58 : decode cX5_list 58 = .ok (.iload_n 1, 1) := by decide +kernel
theorem dX5_list_59 : decode cX5_list 59 = .ok (.invokevirtual 103, 3) := by decide +kernel
theorem dX5_list_62 : decode cX5_list 62 = .ok (.ireturn, 1) := by decide +kernel
set_option maxRecDepth 20000 in
theorem ggX5_stick_X5_needDot : GoodIn wsX5_stick wsX5_needDot := goodIn_ca (goodIn_r _ [8, 9, 10, 11, 12, 13, 7, 14, 3, 15, 16, 17, 38, 39, 40, 41, 42, 43, 44, 45, 46, 47, 48, 49, 50, 51, 52] (by decide +kernel) (by decide +kernel)) (goodIn_sub (fun _ h => List.mem_cons_of_mem _ (List.mem_append_right _ h)) (by decide +kernel))
set_option maxRecDepth 20000 in
theorem gX5_stick_X5_needDot : GoodIn wsX5_stick (wsV RX5 107 RX5 yX5_needDot wsX5_needDot) := goodIn_app (goodIn_of _ (by decide +kernel)) ggX5_stick_X5_needDot
set_option maxRecDepth 20000 in
theorem ggX5_stick_X0_faceOf : GoodIn wsX5_stick wsX0_faceOf := goodIn_r _ [21, 22, 23, 7, 24, 25, 26, 27, 47, 48, 49, 50, 51, 52] (by decide +kernel) (by decide +kernel)
set_option maxRecDepth 20000 in
theorem gX5_stick_X0_faceOf_n113 : GoodIn wsX5_stick (wsX0_faceOf) := ggX5_stick_X0_faceOf
set_option maxRecDepth 20000 in
theorem ggX5_stick_X0_fix : GoodIn wsX5_stick wsX0_fix := goodIn_r _ [30, 31, 32, 33, 22, 23, 7, 24, 25, 26, 27, 34, 35, 36, 19, 37, 47, 48, 49, 50, 51, 52] (by decide +kernel) (by decide +kernel)
set_option maxRecDepth 20000 in
theorem gX5_stick_X0_fix_n116 : GoodIn wsX5_stick (wsX0_fix) := ggX5_stick_X0_fix
theorem dX5_stick_0 : decode cX5_stick 0 = .ok (.aload_n 0, 1) := by decide +kernel
theorem dX5_stick_1 : decode cX5_stick 1 = .ok (.iload_n 1, 1) := by decide +kernel
theorem dX5_stick_2 : decode cX5_stick 2 = .ok (.iload_n 2, 1) := by decide +kernel
theorem dX5_stick_3 : decode cX5_stick 3 = .ok (.invokevirtual 107, 3) := by decide +kernel
theorem dX5_stick_6 : decode cX5_stick 6 = .ok (.iload_n 3, 1) := by decide +kernel
theorem dX5_stick_7 : decode cX5_stick 7 = .ok (.iconst (-1), 1) := by decide +kernel
theorem dX5_stick_8 : decode cX5_stick 8 = .ok (.if_icmp .lt 8, 3) := by decide +kernel
theorem dX5_stick_11 : decode cX5_stick 11 = .ok (.iload_n 3, 1) := by decide +kernel
theorem dX5_stick_12 : decode cX5_stick 12 = .ok (.iconst 1, 1) := by decide +kernel
theorem dX5_stick_13 : decode cX5_stick 13 = .ok (.if_icmp .le 13, 3) := by decide +kernel
theorem dX5_stick_16 : decode cX5_stick 16 = .ok (.new 54, 3) := by decide +kernel
theorem dX5_stick_19 : decode cX5_stick 19 = .ok (.dup, 1) := by decide +kernel
theorem dX5_stick_20 : decode cX5_stick 20 = .ok (.ldc 111, 2) := by decide +kernel
theorem dX5_stick_22 : decode cX5_stick 22 = .ok (.invokespecial 58, 3) := by decide +kernel
theorem dX5_stick_25 : decode cX5_stick 25 = .ok (.athrow, 1) := by decide +kernel
theorem dX5_stick_26 : decode cX5_stick 26 = .ok (.aload_n 0, 1) := by decide +kernel
theorem dX5_stick_27 : decode cX5_stick 27 = .ok (.getfield 10, 3) := by decide +kernel
theorem dX5_stick_30 : decode cX5_stick 30 = .ok (.iload_n 1, 1) := by decide +kernel
theorem dX5_stick_31 : decode cX5_stick 31 = .ok (.iload_n 2, 1) := by decide +kernel
theorem dX5_stick_32 : decode cX5_stick 32 = .ok (.invokevirtual 113, 3) := by decide +kernel
theorem dX5_stick_35 : decode cX5_stick 35 = .ok (.istore 4, 2) := by decide +kernel
theorem dX5_stick_37 : decode cX5_stick 37 = .ok (.aload_n 0, 1) := by decide +kernel
theorem dX5_stick_38 : decode cX5_stick 38 = .ok (.getfield 10, 3) := by decide +kernel
theorem dX5_stick_41 : decode cX5_stick 41 = .ok (.iload_n 1, 1) := by decide +kernel
theorem dX5_stick_42 : decode cX5_stick 42 = .ok (.iload_n 2, 1) := by decide +kernel
theorem dX5_stick_43 : decode cX5_stick 43 = .ok (.iload_n 3, 1) := by decide +kernel
theorem dX5_stick_44 : decode cX5_stick 44 = .ok (.invokevirtual 116, 3) := by decide +kernel
theorem dX5_stick_47 : decode cX5_stick 47 = .ok (.iload 4, 2) := by decide +kernel
theorem dX5_stick_49 : decode cX5_stick 49 = .ok (.ireturn, 1) := by decide +kernel
set_option maxRecDepth 20000 in
theorem ggX5_swap_X5_needColumn : GoodIn wsX5_swap wsX5_needColumn := goodIn_ca (goodIn_r _ [6, 7, 8, 1, 26, 27, 28, 29, 30, 31, 32, 33, 34, 35, 36, 37, 38, 39, 40] (by decide +kernel) (by decide +kernel)) (goodIn_sub (fun _ h => List.mem_cons_of_mem _ (List.mem_append_right _ h)) (by decide +kernel))
set_option maxRecDepth 20000 in
theorem gX5_swap_X5_needColumn : GoodIn wsX5_swap (wsV RX5 120 RX5 yX5_needColumn wsX5_needColumn) := goodIn_app (goodIn_of _ (by decide +kernel)) ggX5_swap_X5_needColumn
set_option maxRecDepth 20000 in
theorem ggX5_swap_X5_at : GoodIn wsX5_swap wsX5_at := goodIn_r _ [11] (by decide +kernel) (by decide +kernel)
set_option maxRecDepth 20000 in
theorem gX5_swap_X5_at : GoodIn wsX5_swap (va_wsS RX5 127 yX5_at wsX5_at) := goodIn_app (goodIn_of _ (by decide +kernel)) ggX5_swap_X5_at
set_option maxRecDepth 20000 in
theorem ggX5_swap_X0_renewColumn : GoodIn wsX5_swap wsX0_renewColumn := goodIn_r _ [15, 16, 17, 18, 19, 20, 21, 22, 5, 23, 24, 25, 35, 36, 37, 38, 39, 40] (by decide +kernel) (by decide +kernel)
set_option maxRecDepth 20000 in
theorem gX5_swap_X0_renewColumn_n131 : GoodIn wsX5_swap (wsX0_renewColumn) := ggX5_swap_X0_renewColumn
theorem dX5_swap_0 : decode cX5_swap 0 = .ok (.aload_n 0, 1) := by decide +kernel
theorem dX5_swap_1 : decode cX5_swap 1 = .ok (.iload_n 1, 1) := by decide +kernel
theorem dX5_swap_2 : decode cX5_swap 2 = .ok (.invokevirtual 120, 3) := by decide +kernel
theorem dX5_swap_5 : decode cX5_swap 5 = .ok (.aload_n 0, 1) := by decide +kernel
theorem dX5_swap_6 : decode cX5_swap 6 = .ok (.getfield 10, 3) := by decide +kernel
theorem dX5_swap_9 : decode cX5_swap 9 = .ok (.getfield 123, 3) := by decide +kernel
theorem dX5_swap_12 : decode cX5_swap 12 = .ok (.iload_n 1, 1) := by decide +kernel
theorem dX5_swap_13 : decode cX5_swap 13 = .ok (.invokestatic 127, 3) := by decide +kernel
theorem dX5_swap_16 : decode cX5_swap 16 = .ok (.istore_n 2, 1) := by decide +kernel
theorem dX5_swap_17 : decode cX5_swap 17 = .ok (.aload_n 0, 1) := by decide +kernel
theorem dX5_swap_18 : decode cX5_swap 18 = .ok (.getfield 10, 3) := by decide +kernel
theorem dX5_swap_21 : decode cX5_swap 21 = .ok (.iload_n 1, 1) := by decide +kernel
theorem dX5_swap_22 : decode cX5_swap 22 = .ok (.invokevirtual 131, 3) := by decide +kernel
theorem dX5_swap_25 : decode cX5_swap 25 = .ok (.iload_n 2, 1) := by decide +kernel
theorem dX5_swap_26 : decode cX5_swap 26 = .ok (.ireturn, 1) := by decide +kernel
set_option maxRecDepth 20000 in
theorem ggX5_show_X5_needLine : GoodIn wsX5_show wsX5_needLine := goodIn_ca (goodIn_r _ [5, 6, 7, 8, 9, 10, 4, 11, 12, 134, 135, 136, 137, 138, 139, 140, 141, 142, 143, 144, 145, 146, 147, 148, 149] (by decide +kernel) (by decide +kernel)) (goodIn_sub (fun _ h => List.mem_cons_of_mem _ (List.mem_append_right _ h)) (by decide +kernel))
set_option maxRecDepth 20000 in
theorem gX5_show_X5_needLine : GoodIn wsX5_show (wsV RX5 134 RX5 yX5_needLine wsX5_needLine) := goodIn_app (goodIn_of _ (by decide +kernel)) ggX5_show_X5_needLine
set_option maxRecDepth 20000 in
theorem ggX5_show_X5_bringUp : GoodIn wsX5_show wsX5_bringUp := goodIn_r _ [16, 17, 18, 19, 20, 21, 22, 23, 4, 24, 25, 12, 26, 27, 28, 29, 30, 31, 32, 33, 34, 35, 36, 37, 38, 39, 40, 41, 42, 43, 44, 45, 46, 47, 48, 49, 50, 51, 52, 53, 54, 55, 56, 57, 58, 59, 60, 61, 62, 63, 64, 65, 66, 67, 68, 69, 70, 71, 72, 73, 74, 75, 76, 77, 78, 79, 80, 81, 82, 83, 84, 85, 86, 87, 88, 89, 90, 91, 92, 93, 94, 95, 96, 97, 98, 99, 100, 101, 102, 103, 104, 105, 106, 107, 108, 109, 110, 111, 112, 113, 114, 115, 116, 117, 118, 119, 120, 121, 122, 123, 124, 125, 126, 127, 128, 129, 130, 131, 132, 133, 134, 135, 136, 137, 138, 139, 140, 141, 142, 150, 151, 152, 153, 154, 155, 156, 157, 158, 159, 160, 161, 162, 163, 143, 144, 145, 146, 147, 148, 149] (by decide +kernel) (by decide +kernel)
set_option maxRecDepth 20000 in
theorem gX5_show_X5_bringUp : GoodIn wsX5_show (wsV RX5 137 RX5 yX5_bringUp wsX5_bringUp) := goodIn_app (goodIn_of _ (by decide +kernel)) ggX5_show_X5_bringUp
theorem dX5_show_0 : decode cX5_show 0 = .ok (.aload_n 0, 1) := by decide +kernel
theorem dX5_show_1 : decode cX5_show 1 = .ok (.iload_n 1, 1) := by decide +kernel
theorem dX5_show_2 : decode cX5_show 2 = .ok (.invokevirtual 134, 3) := by decide +kernel
theorem dX5_show_5 : decode cX5_show 5 = .ok (.aload_n 0, 1) := by decide +kernel
theorem dX5_show_6 : decode cX5_show 6 = .ok (.iload_n 1, 1) := by decide +kernel
theorem dX5_show_7 : decode cX5_show 7 = .ok (.invokevirtual 137, 3) := by decide +kernel
theorem dX5_show_10 : decode cX5_show 10 = .ok (.ireturn, 1) := by decide +kernel
set_option maxRecDepth 20000 in
theorem ggX5_dot_X5_needDot : GoodIn wsX5_dot wsX5_needDot := goodIn_ca (goodIn_r _ [8, 9, 10, 11, 12, 13, 7, 14, 3, 15, 16, 17, 36, 37, 38, 39, 40, 41, 42, 43, 44, 45, 46, 47, 48, 49, 50] (by decide +kernel) (by decide +kernel)) (goodIn_sub (fun _ h => List.mem_cons_of_mem _ (List.mem_append_right _ h)) (by decide +kernel))
set_option maxRecDepth 20000 in
theorem gX5_dot_X5_needDot : GoodIn wsX5_dot (wsV RX5 107 RX5 yX5_needDot wsX5_needDot) := goodIn_app (goodIn_of _ (by decide +kernel)) ggX5_dot_X5_needDot
set_option maxRecDepth 20000 in
theorem ggX5_dot_X0_faceOf : GoodIn wsX5_dot wsX0_faceOf := goodIn_r _ [21, 22, 23, 7, 24, 25, 26, 27, 45, 46, 47, 48, 49, 50] (by decide +kernel) (by decide +kernel)
set_option maxRecDepth 20000 in
theorem gX5_dot_X0_faceOf_n113 : GoodIn wsX5_dot (wsX0_faceOf) := ggX5_dot_X0_faceOf
set_option maxRecDepth 20000 in
theorem ggX5_dot_X5_bitOf : GoodIn wsX5_dot wsX5_bitOf := goodIn_r _ [27] (by decide +kernel) (by decide +kernel)
set_option maxRecDepth 20000 in
theorem gX5_dot_X5_bitOf : GoodIn wsX5_dot (va_wsS RX5 199 yX5_bitOf wsX5_bitOf) := goodIn_app (goodIn_of _ (by decide +kernel)) ggX5_dot_X5_bitOf
set_option maxRecDepth 20000 in
theorem ggX5_dot_X5_at : GoodIn wsX5_dot wsX5_at := goodIn_r _ [30] (by decide +kernel) (by decide +kernel)
set_option maxRecDepth 20000 in
theorem gX5_dot_X5_at : GoodIn wsX5_dot (va_wsS RX5 127 yX5_at wsX5_at) := goodIn_app (goodIn_of _ (by decide +kernel)) ggX5_dot_X5_at
set_option maxRecDepth 20000 in
theorem ggX5_dot_X0_stuckFaceOf : GoodIn wsX5_dot wsX0_stuckFaceOf := goodIn_r _ [33, 34, 35, 23, 7, 24, 25, 26, 27, 45, 46, 47, 48, 49, 50] (by decide +kernel) (by decide +kernel)
set_option maxRecDepth 20000 in
theorem gX5_dot_X0_stuckFaceOf_n202 : GoodIn wsX5_dot (wsX0_stuckFaceOf) := ggX5_dot_X0_stuckFaceOf
theorem dX5_dot_0 : decode cX5_dot 0 = .ok (.aload_n 0, 1) := by decide +kernel
theorem dX5_dot_1 : decode cX5_dot 1 = .ok (.iload_n 1, 1) := by decide +kernel
theorem dX5_dot_2 : decode cX5_dot 2 = .ok (.iload_n 2, 1) := by decide +kernel
theorem dX5_dot_3 : decode cX5_dot 3 = .ok (.invokevirtual 107, 3) := by decide +kernel
theorem dX5_dot_6 : decode cX5_dot 6 = .ok (.iload_n 3, 1) := by decide +kernel
theorem dX5_dot_7 : decode cX5_dot 7 = .ok (.ifCond .lt 8, 3) := by decide +kernel
theorem dX5_dot_10 : decode cX5_dot 10 = .ok (.iload_n 3, 1) := by decide +kernel
theorem dX5_dot_11 : decode cX5_dot 11 = .ok (.iconst 2, 1) := by decide +kernel
theorem dX5_dot_12 : decode cX5_dot 12 = .ok (.if_icmp .le 13, 3) := by decide +kernel
theorem dX5_dot_15 : decode cX5_dot 15 = .ok (.new 54, 3) := by decide +kernel
theorem dX5_dot_18 : decode cX5_dot 18 = .ok (.dup, 1) := by decide +kernel
theorem dX5_dot_19 : decode cX5_dot 19 = .ok (.ldc 194, 2) := by decide +kernel
theorem dX5_dot_21 : decode cX5_dot 21 = .ok (.invokespecial 58, 3) := by decide +kernel
theorem dX5_dot_24 : decode cX5_dot 24 = .ok (.athrow, 1) := by decide +kernel
theorem dX5_dot_25 : decode cX5_dot 25 = .ok (.iload_n 3, 1) := by decide +kernel
theorem dX5_dot_26 : decode cX5_dot 26 = .ok (.ifCond .ne 13, 3) := by decide +kernel
theorem dX5_dot_29 : decode cX5_dot 29 = .ok (.aload_n 0, 1) := by decide +kernel
theorem dX5_dot_30 : decode cX5_dot 30 = .ok (.getfield 10, 3) := by decide +kernel
theorem dX5_dot_33 : decode cX5_dot 33 = .ok (.iload_n 1, 1) := by decide +kernel
theorem dX5_dot_34 : decode cX5_dot 34 = .ok (.iload_n 2, 1) := by decide +kernel
theorem dX5_dot_35 : decode cX5_dot 35 = .ok (.invokevirtual 113, 3) := by decide +kernel
theorem dX5_dot_38 : decode cX5_dot 38 = .ok (.ireturn, 1) := by decide +kernel
theorem dX5_dot_39 : decode cX5_dot 39 = .ok (.iload_n 3, 1) := by decide +kernel
theorem dX5_dot_40 : decode cX5_dot 40 = .ok (.iconst 1, 1) := by decide +kernel
theorem dX5_dot_41 : decode cX5_dot 41 = .ok (.if_icmp .ne 21, 3) := by decide +kernel
theorem dX5_dot_44 : decode cX5_dot 44 = .ok (.aload_n 0, 1) := by decide +kernel
theorem dX5_dot_45 : decode cX5_dot 45 = .ok (.getfield 10, 3) := by decide +kernel
theorem dX5_dot_48 : decode cX5_dot 48 = .ok (.getfield 196, 3) := by decide +kernel
theorem dX5_dot_51 : decode cX5_dot 51 = .ok (.iload_n 1, 1) := by decide +kernel
theorem dX5_dot_52 : decode cX5_dot 52 = .ok (.iload_n 2, 1) := by decide +kernel
theorem dX5_dot_53 : decode cX5_dot 53 = .ok (.invokestatic 199, 3) := by decide +kernel
theorem dX5_dot_56 : decode cX5_dot 56 = .ok (.invokestatic 127, 3) := by decide +kernel
theorem dX5_dot_59 : decode cX5_dot 59 = .ok (.goto 12, 3) := by decide +kernel
theorem dX5_dot_62 : decode cX5_dot 62 = .ok (.aload_n 0, 1) := by decide +kernel
theorem dX5_dot_63 : decode cX5_dot 63 = .ok (.getfield 10, 3) := by decide +kernel
theorem dX5_dot_66 : decode cX5_dot 66 = .ok (.iload_n 1, 1) := by decide +kernel
theorem dX5_dot_67 : decode cX5_dot 67 = .ok (.iload_n 2, 1) := by decide +kernel
theorem dX5_dot_68 : decode cX5_dot 68 = .ok (.invokevirtual 202, 3) := by decide +kernel
theorem dX5_dot_71 : decode cX5_dot 71 = .ok (.ireturn, 1) := by decide +kernel
set_option maxRecDepth 20000 in
theorem ggX5_column_X5_needColumn : GoodIn wsX5_column wsX5_needColumn := goodIn_ca (goodIn_r _ [7, 8, 9, 10, 28, 29, 30, 31, 32, 33, 34, 35, 36, 37, 38, 39, 40, 41, 42] (by decide +kernel) (by decide +kernel)) (goodIn_sub (fun _ h => List.mem_cons_of_mem _ (List.mem_append_right _ h)) (by decide +kernel))
set_option maxRecDepth 20000 in
theorem gX5_column_X5_needColumn : GoodIn wsX5_column (wsV RX5 120 RX5 yX5_needColumn wsX5_needColumn) := goodIn_app (goodIn_of _ (by decide +kernel)) ggX5_column_X5_needColumn
set_option maxRecDepth 20000 in
theorem ggX5_column_X5_columnFact : GoodIn wsX5_column wsX5_columnFact := goodIn_r _ [14, 10, 15, 16, 6, 17, 18, 19, 20, 21, 22, 23, 24, 25, 26, 27, 28, 29, 30, 31, 32, 33, 34, 35, 36, 37, 38, 39, 40, 41, 42] (by decide +kernel) (by decide +kernel)
set_option maxRecDepth 20000 in
theorem gX5_column_X5_columnFact : GoodIn wsX5_column (wsV RX5 205 RX5 yX5_columnFact wsX5_columnFact) := goodIn_app (goodIn_of _ (by decide +kernel)) ggX5_column_X5_columnFact
theorem dX5_column_0 : decode cX5_column 0 = .ok (.aload_n 0, 1) := by decide +kernel
theorem dX5_column_1 : decode cX5_column 1 = .ok (.iload_n 1, 1) := by decide +kernel
theorem dX5_column_2 : decode cX5_column 2 = .ok (.invokevirtual 120, 3) := by decide +kernel
theorem dX5_column_5 : decode cX5_column 5 = .ok (.iload_n 2, 1) := by decide +kernel
theorem dX5_column_6 : decode cX5_column 6 = .ok (.ifCond .lt 8, 3) := by decide +kernel
theorem dX5_column_9 : decode cX5_column 9 = .ok (.iload_n 2, 1) := by decide +kernel
theorem dX5_column_10 : decode cX5_column 10 = .ok (.iconst 2, 1) := by decide +kernel
theorem dX5_column_11 : decode cX5_column 11 = .ok (.if_icmp .le 13, 3) := by decide +kernel
theorem dX5_column_14 : decode cX5_column 14 = .ok (.new 54, 3) := by decide +kernel
theorem dX5_column_17 : decode cX5_column 17 = .ok (.dup, 1) := by decide +kernel
theorem dX5_column_18 : decode cX5_column 18 = .ok (.ldc 194, 2) := by decide +kernel
theorem dX5_column_20 : decode cX5_column 20 = .ok (.invokespecial 58, 3) := by decide +kernel
theorem dX5_column_23 : decode cX5_column 23 = .ok (.athrow, 1) := by decide +kernel
theorem dX5_column_24 : decode cX5_column 24 = .ok (.aload_n 0, 1) := by decide +kernel
theorem dX5_column_25 : decode cX5_column 25 = .ok (.iload_n 1, 1) := by decide +kernel
theorem dX5_column_26 : decode cX5_column 26 = .ok (.iload_n 2, 1) := by decide +kernel
theorem dX5_column_27 : decode cX5_column 27 = .ok (.invokevirtual 205, 3) := by decide +kernel
theorem dX5_column_30 : decode cX5_column 30 = .ok (.ireturn, 1) := by decide +kernel
set_option maxRecDepth 20000 in
theorem ggX5_ofLine_X5_needLine : GoodIn wsX5_ofLine wsX5_needLine := goodIn_ca (goodIn_r _ [7, 8, 9, 10, 11, 12, 6, 13, 14, 135, 136, 137, 138, 139, 140, 141, 142, 143, 144, 145, 146, 147, 148, 149, 150] (by decide +kernel) (by decide +kernel)) (goodIn_sub (fun _ h => List.mem_cons_of_mem _ (List.mem_append_right _ h)) (by decide +kernel))
set_option maxRecDepth 20000 in
theorem gX5_ofLine_X5_needLine : GoodIn wsX5_ofLine (wsV RX5 134 RX5 yX5_needLine wsX5_needLine) := goodIn_app (goodIn_of _ (by decide +kernel)) ggX5_ofLine_X5_needLine
set_option maxRecDepth 20000 in
theorem ggX5_ofLine_X5_makePlan : GoodIn wsX5_ofLine wsX5_makePlan := goodIn_r _ [18, 19, 20, 21, 14, 22, 23, 24, 6, 25, 26, 27, 28, 29, 30, 31, 32, 33, 34, 35, 36, 37, 38, 39, 40, 41, 42, 43, 44, 45, 46, 47, 48, 49, 50, 51, 52, 53, 54, 55, 56, 57, 58, 59, 60, 61, 62, 63, 64, 65, 66, 67, 68, 69, 70, 71, 72, 73, 74, 75, 76, 77, 78, 79, 80, 81, 82, 83, 84, 85, 86, 87, 88, 89, 90, 91, 92, 93, 94, 95, 96, 97, 98, 99, 100, 101, 102, 103, 104, 105, 106, 107, 108, 109, 110, 111, 112, 113, 114, 115, 116, 117, 118, 119, 120, 121, 135, 136, 137, 138, 139, 140, 141, 142, 143, 151, 152, 153, 154, 155, 156, 144, 145, 146, 147, 148, 149, 150, 157, 158, 159, 160, 161, 162, 163, 164] (by decide +kernel) (by decide +kernel)
set_option maxRecDepth 20000 in
theorem gX5_ofLine_X5_makePlan : GoodIn wsX5_ofLine (wsV RX5 210 RX5 yX5_makePlan wsX5_makePlan) := goodIn_app (goodIn_of _ (by decide +kernel)) ggX5_ofLine_X5_makePlan
set_option maxRecDepth 20000 in
theorem ggX5_ofLine_X5_lineFact : GoodIn wsX5_ofLine wsX5_lineFact := goodIn_r _ [125, 14, 20, 19, 126, 84, 6, 85, 22, 23, 24, 25, 26, 27, 28, 29, 30, 31, 32, 33, 34, 35, 36, 37, 38, 39, 40, 41, 42, 43, 44, 45, 127, 128, 129, 130, 90, 91, 92, 93, 94, 95, 96, 86, 87, 88, 89, 131, 47, 132, 133, 50, 65, 66, 134, 135, 136, 137, 138, 139, 140, 141, 142, 143, 144, 145, 146, 147, 148, 149, 150, 151, 152, 153, 154, 155, 156, 157, 158, 159, 160, 161, 162, 163, 164] (by decide +kernel) (by decide +kernel)
set_option maxRecDepth 20000 in
theorem gX5_ofLine_X5_lineFact : GoodIn wsX5_ofLine (wsV RX5 213 RX5 yX5_lineFact wsX5_lineFact) := goodIn_app (goodIn_of _ (by decide +kernel)) ggX5_ofLine_X5_lineFact
theorem dX5_ofLine_0 : decode cX5_ofLine 0 = .ok (.aload_n 0, 1) := by decide +kernel
theorem dX5_ofLine_1 : decode cX5_ofLine 1 = .ok (.iload_n 1, 1) := by decide +kernel
theorem dX5_ofLine_2 : decode cX5_ofLine 2 = .ok (.invokevirtual 134, 3) := by decide +kernel
theorem dX5_ofLine_5 : decode cX5_ofLine 5 = .ok (.iload_n 2, 1) := by decide +kernel
theorem dX5_ofLine_6 : decode cX5_ofLine 6 = .ok (.ifCond .lt 9, 3) := by decide +kernel
theorem dX5_ofLine_9 : decode cX5_ofLine 9 = .ok (.iload_n 2, 1) := by decide +kernel
theorem dX5_ofLine_10 : decode cX5_ofLine 10 = .ok (.bipush 7, 2) := by decide +kernel
theorem dX5_ofLine_12 : decode cX5_ofLine 12 = .ok (.if_icmp .le 13, 3) := by decide +kernel
theorem dX5_ofLine_15 : decode cX5_ofLine 15 = .ok (.new 54, 3) := by decide +kernel
theorem dX5_ofLine_18 : decode cX5_ofLine 18 = .ok (.dup, 1) := by decide +kernel
theorem dX5_ofLine_19 : decode cX5_ofLine 19 = .ok (.ldc 208, 2) := by decide +kernel
theorem dX5_ofLine_21 : decode cX5_ofLine 21 = .ok (.invokespecial 58, 3) := by decide +kernel
theorem dX5_ofLine_24 : decode cX5_ofLine 24 = .ok (.athrow, 1) := by decide +kernel
theorem dX5_ofLine_25 : decode cX5_ofLine 25 = .ok (.iload_n 2, 1) := by decide +kernel
theorem dX5_ofLine_26 : decode cX5_ofLine 26 = .ok (.bipush 6, 2) := by decide +kernel
theorem dX5_ofLine_28 : decode cX5_ofLine 28 = .ok (.if_icmp .lt 8, 3) := by decide +kernel
theorem dX5_ofLine_31 : decode cX5_ofLine 31 = .ok (.aload_n 0, 1) := by decide +kernel
theorem dX5_ofLine_32 : decode cX5_ofLine 32 = .ok (.iload_n 1, 1) := by decide +kernel
theorem dX5_ofLine_33 : decode cX5_ofLine 33 = .ok (.invokevirtual 210, 3) := by decide +kernel
theorem dX5_ofLine_36 : decode cX5_ofLine 36 = .ok (.aload_n 0, 1) := by decide +kernel
theorem dX5_ofLine_37 : decode cX5_ofLine 37 = .ok (.iload_n 1, 1) := by decide +kernel
theorem dX5_ofLine_38 : decode cX5_ofLine 38 = .ok (.iload_n 2, 1) := by decide +kernel
theorem dX5_ofLine_39 : decode cX5_ofLine 39 = .ok (.invokevirtual 213, 3) := by decide +kernel
theorem dX5_ofLine_42 : decode cX5_ofLine 42 = .ok (.ireturn, 1) := by decide +kernel
set_option maxRecDepth 20000 in
theorem ggX5_step_X5_needLine : GoodIn wsX5_step wsX5_needLine := goodIn_ca (goodIn_r _ [8, 9, 10, 11, 12, 13, 7, 14, 15, 125, 126, 127, 128, 129, 130, 131, 132, 133, 134, 135, 136, 137, 138, 139, 140] (by decide +kernel) (by decide +kernel)) (goodIn_sub (fun _ h => List.mem_cons_of_mem _ (List.mem_append_right _ h)) (by decide +kernel))
set_option maxRecDepth 20000 in
theorem gX5_step_X5_needLine : GoodIn wsX5_step (wsV RX5 134 RX5 yX5_needLine wsX5_needLine) := goodIn_app (goodIn_of _ (by decide +kernel)) ggX5_step_X5_needLine
set_option maxRecDepth 20000 in
theorem ggX5_step_X5_makePlan : GoodIn wsX5_step wsX5_makePlan := goodIn_r _ [19, 3, 20, 21, 15, 22, 23, 24, 7, 25, 26, 27, 28, 29, 30, 31, 32, 33, 34, 35, 36, 37, 38, 39, 40, 41, 42, 43, 44, 45, 46, 47, 48, 49, 50, 51, 52, 53, 54, 55, 56, 57, 58, 59, 60, 61, 62, 63, 64, 65, 66, 67, 68, 69, 70, 71, 72, 73, 74, 75, 76, 77, 78, 79, 80, 81, 82, 83, 84, 85, 86, 87, 88, 89, 90, 91, 92, 93, 94, 95, 96, 97, 98, 99, 100, 101, 102, 103, 104, 105, 106, 107, 108, 109, 110, 111, 112, 113, 114, 115, 116, 117, 118, 119, 120, 121, 125, 126, 127, 128, 129, 130, 131, 132, 133, 141, 142, 143, 144, 145, 146, 134, 135, 136, 137, 138, 139, 140, 147, 148, 149, 150, 151, 152, 153, 154] (by decide +kernel) (by decide +kernel)
set_option maxRecDepth 20000 in
theorem gX5_step_X5_makePlan : GoodIn wsX5_step (wsV RX5 210 RX5 yX5_makePlan wsX5_makePlan) := goodIn_app (goodIn_of _ (by decide +kernel)) ggX5_step_X5_makePlan
set_option maxRecDepth 20000 in
theorem ggX5_step_X2_setOf : GoodIn wsX5_step wsX2_setOf := goodIn_r _ [124, 50, 109, 84, 7, 85, 147, 148, 149, 150, 151, 152, 153, 154] (by decide +kernel) (by decide +kernel)
set_option maxRecDepth 20000 in
theorem gX5_step_X2_setOf_n218 : GoodIn wsX5_step (wsX2_setOf) := ggX5_step_X2_setOf
theorem dX5_step_0 : decode cX5_step 0 = .ok (.aload_n 0, 1) := by decide +kernel
theorem dX5_step_1 : decode cX5_step 1 = .ok (.iload_n 1, 1) := by decide +kernel
theorem dX5_step_2 : decode cX5_step 2 = .ok (.invokevirtual 134, 3) := by decide +kernel
theorem dX5_step_5 : decode cX5_step 5 = .ok (.iload_n 2, 1) := by decide +kernel
theorem dX5_step_6 : decode cX5_step 6 = .ok (.ifCond .ge 13, 3) := by decide +kernel
theorem dX5_step_9 : decode cX5_step 9 = .ok (.new 54, 3) := by decide +kernel
theorem dX5_step_12 : decode cX5_step 12 = .ok (.dup, 1) := by decide +kernel
theorem dX5_step_13 : decode cX5_step 13 = .ok (.ldc 216, 2) := by decide +kernel
theorem dX5_step_15 : decode cX5_step 15 = .ok (.invokespecial 58, 3) := by decide +kernel
theorem dX5_step_18 : decode cX5_step 18 = .ok (.athrow, 1) := by decide +kernel
theorem dX5_step_19 : decode cX5_step 19 = .ok (.aload_n 0, 1) := by decide +kernel
theorem dX5_step_20 : decode cX5_step 20 = .ok (.iload_n 1, 1) := by decide +kernel
theorem dX5_step_21 : decode cX5_step 21 = .ok (.invokevirtual 210, 3) := by decide +kernel
theorem dX5_step_24 : decode cX5_step 24 = .ok (.aload_n 0, 1) := by decide +kernel
theorem dX5_step_25 : decode cX5_step 25 = .ok (.getfield 26, 3) := by decide +kernel
theorem dX5_step_28 : decode cX5_step 28 = .ok (.iload_n 2, 1) := by decide +kernel
theorem dX5_step_29 : decode cX5_step 29 = .ok (.invokevirtual 218, 3) := by decide +kernel
theorem dX5_step_32 : decode cX5_step 32 = .ok (.ireturn, 1) := by decide +kernel
set_option maxRecDepth 20000 in
theorem ggX5_sign_X5_signFact : GoodIn wsX5_sign wsX5_signFact := goodIn_r _ [7, 8, 9, 10, 11, 12, 13, 14, 15, 16, 17, 18, 6, 19, 20, 21, 22, 23, 24, 25, 26, 27, 28, 29, 30, 31, 32, 33, 34, 35, 36, 37, 38, 39, 40, 41, 42, 43, 44, 45, 46, 47, 48, 49, 50, 51, 52, 53, 54, 55, 56, 57, 58, 59, 60, 61, 62, 63, 64, 65, 66, 67, 68, 69, 70, 71, 72, 73, 74, 75, 76, 77, 78, 79, 80, 81, 82, 83, 84, 85, 86, 87, 88, 89, 90, 91, 92, 93, 94, 95, 96, 97, 98, 99, 100, 101, 102, 103, 104] (by decide +kernel) (by decide +kernel)
set_option maxRecDepth 20000 in
theorem gX5_sign_X5_signFact : GoodIn wsX5_sign (wsV RX5 242 RX5 yX5_signFact wsX5_signFact) := goodIn_app (goodIn_of _ (by decide +kernel)) ggX5_sign_X5_signFact
theorem dX5_sign_0 : decode cX5_sign 0 = .ok (.iload_n 1, 1) := by decide +kernel
theorem dX5_sign_1 : decode cX5_sign 1 = .ok (.ifCond .lt 9, 3) := by decide +kernel
theorem dX5_sign_4 : decode cX5_sign 4 = .ok (.iload_n 1, 1) := by decide +kernel
theorem dX5_sign_5 : decode cX5_sign 5 = .ok (.bipush 17, 2) := by decide +kernel
theorem dX5_sign_7 : decode cX5_sign 7 = .ok (.if_icmp .le 13, 3) := by decide +kernel
theorem dX5_sign_10 : decode cX5_sign 10 = .ok (.new 54, 3) := by decide +kernel
theorem dX5_sign_13 : decode cX5_sign 13 = .ok (.dup, 1) := by decide +kernel
theorem dX5_sign_14 : decode cX5_sign 14 = .ok (.ldc 240, 2) := by decide +kernel
theorem dX5_sign_16 : decode cX5_sign 16 = .ok (.invokespecial 58, 3) := by decide +kernel
theorem dX5_sign_19 : decode cX5_sign 19 = .ok (.athrow, 1) := by decide +kernel
theorem dX5_sign_20 : decode cX5_sign 20 = .ok (.aload_n 0, 1) := by decide +kernel
theorem dX5_sign_21 : decode cX5_sign 21 = .ok (.iload_n 1, 1) := by decide +kernel
theorem dX5_sign_22 : decode cX5_sign 22 = .ok (.invokevirtual 242, 3) := by decide +kernel
theorem dX5_sign_25 : decode cX5_sign 25 = .ok (.ireturn, 1) := by decide +kernel
set_option maxRecDepth 20000 in
theorem ggX5_isSound_X5_planIsTrue : GoodIn wsX5_isSound wsX5_planIsTrue := goodIn_r _ [8, 9, 10, 11, 12, 7, 13, 2, 14, 1, 15, 16, 17, 18, 19, 20, 21, 22, 23, 24, 25, 26, 27, 28, 29, 30, 31, 32, 33, 34, 35, 36, 37, 38, 39, 40, 41, 42, 43, 44, 45, 46, 47, 48, 49, 50, 51, 52, 53, 54, 55, 56, 57, 58, 59, 60, 61, 62, 63, 64, 65, 66, 67, 68, 69, 70, 71, 72, 73, 74, 75, 76, 77, 78, 79, 80, 81, 82, 83, 84, 85, 86, 87, 88, 89, 90, 91, 92, 93, 94, 95, 96, 97, 98, 99, 100, 101, 102, 103, 104, 105, 106, 107, 108, 109, 110, 111, 112, 113, 114, 115, 116, 117, 118, 119, 120, 121, 122, 123, 124, 125, 126, 127, 146, 147, 148, 149, 150, 151, 152, 153, 154, 162, 163, 164, 165, 166, 167, 168, 169, 170, 171, 172, 173, 174, 175, 155, 156, 157, 158, 159, 160, 161] (by decide +kernel) (by decide +kernel)
set_option maxRecDepth 20000 in
theorem gX5_isSound_X5_planIsTrue : GoodIn wsX5_isSound (wsV RX5 264 RX5 yX5_planIsTrue wsX5_planIsTrue) := goodIn_app (goodIn_of _ (by decide +kernel)) ggX5_isSound_X5_planIsTrue
set_option maxRecDepth 20000 in
theorem ggX5_isSound_X0_isTrue : GoodIn wsX5_isSound wsX0_isTrue := goodIn_r _ [130, 131, 132, 133, 77, 7, 78, 134, 135, 136, 49, 137, 138, 122, 123, 139, 48, 50, 51, 52, 53, 54, 170, 171, 172, 173, 174, 175] (by decide +kernel) (by decide +kernel)
set_option maxRecDepth 20000 in
theorem gX5_isSound_X0_isTrue_n267 : GoodIn wsX5_isSound (wsX0_isTrue) := ggX5_isSound_X0_isTrue
set_option maxRecDepth 20000 in
theorem ggX5_isSound_X3_isTrue : GoodIn wsX5_isSound wsX3_isTrue := goodIn_r _ [143, 144, 145, 176, 177, 178, 179, 180] (by decide +kernel) (by decide +kernel)
set_option maxRecDepth 20000 in
theorem gX5_isSound_X3_isTrue_n271 : GoodIn wsX5_isSound (wsX3_isTrue) := ggX5_isSound_X3_isTrue
theorem dX5_isSound_0 : decode cX5_isSound 0 = .ok (.iconst 0, 1) := by decide +kernel
theorem dX5_isSound_1 : decode cX5_isSound 1 = .ok (.istore_n 1, 1) := by decide +kernel
theorem dX5_isSound_2 : decode cX5_isSound 2 = .ok (.iload_n 1, 1) := by decide +kernel
theorem dX5_isSound_3 : decode cX5_isSound 3 = .ok (.aload_n 0, 1) := by decide +kernel
theorem dX5_isSound_4 : decode cX5_isSound 4 = .ok (.getfield 19, 3) := by decide +kernel
theorem dX5_isSound_7 : decode cX5_isSound 7 = .ok (.getfield 95, 3) := by decide +kernel
theorem dX5_isSound_10 : decode cX5_isSound 10 = .ok (.if_icmp .ge 19, 3) := by decide +kernel
theorem dX5_isSound_13 : decode cX5_isSound 13 = .ok (.aload_n 0, 1) := by decide +kernel
theorem dX5_isSound_14 : decode cX5_isSound 14 = .ok (.iload_n 1, 1) := by decide +kernel
theorem dX5_isSound_15 : decode cX5_isSound 15 = .ok (.invokevirtual 264, 3) := by decide +kernel
theorem dX5_isSound_18 : decode cX5_isSound 18 = .ok (.ifCond .ne 5, 3) := by decide +kernel
theorem dX5_isSound_21 : decode cX5_isSound 21 = .ok (.iconst 0, 1) := by decide +kernel
theorem dX5_isSound_22 : decode cX5_isSound 22 = .ok (.ireturn, 1) := by decide +kernel
theorem dX5_isSound_23 : decode cX5_isSound 23 = .ok (.iinc 1 1, 3) := by decide +kernel
theorem dX5_isSound_26 : decode cX5_isSound 26 = .ok (.goto (-24), 3) := by decide +kernel
theorem dX5_isSound_29 : decode cX5_isSound 29 = .ok (.aload_n 0, 1) := by decide +kernel
theorem dX5_isSound_30 : decode cX5_isSound 30 = .ok (.getfield 10, 3) := by decide +kernel
theorem dX5_isSound_33 : decode cX5_isSound 33 = .ok (.invokevirtual 267, 3) := by decide +kernel
theorem dX5_isSound_36 : decode cX5_isSound 36 = .ok (.ifCond .eq 17, 3) := by decide +kernel
theorem dX5_isSound_39 : decode cX5_isSound 39 = .ok (.aload_n 0, 1) := by decide +kernel
theorem dX5_isSound_40 : decode cX5_isSound 40 = .ok (.getfield 40, 3) := by decide +kernel
theorem dX5_isSound_43 : decode cX5_isSound 43 = .ok (.invokevirtual 271, 3) := by decide +kernel
theorem dX5_isSound_46 : decode cX5_isSound 46 = .ok (.ifCond .eq 7, 3) := by decide +kernel
theorem dX5_isSound_49 : decode cX5_isSound 49 = .ok (.iconst 1, 1) := by decide +kernel
theorem dX5_isSound_50 : decode cX5_isSound 50 = .ok (.goto 4, 3) := by decide +kernel
theorem dX5_isSound_53 : decode cX5_isSound 53 = .ok (.iconst 0, 1) := by decide +kernel
theorem dX5_isSound_54 : decode cX5_isSound 54 = .ok (.ireturn, 1) := by decide +kernel
set_option maxRecDepth 20000 in
theorem ggX5_digest_X5_signFact : GoodIn wsX5_digest wsX5_signFact := goodIn_r _ [9, 3, 10, 11, 4, 12, 13, 14, 15, 16, 17, 18, 8, 19, 20, 21, 22, 23, 24, 25, 26, 27, 28, 29, 30, 31, 32, 33, 34, 35, 36, 37, 38, 39, 40, 41, 42, 43, 44, 45, 46, 47, 48, 49, 50, 51, 52, 53, 54, 55, 56, 57, 58, 59, 60, 61, 62, 63, 64, 65, 66, 67, 68, 69, 70, 71, 72, 207, 208, 209, 210, 211, 212, 213, 214, 215, 216, 217, 218, 219, 220, 221, 222, 223, 224, 225, 226, 227, 228, 229, 230, 231, 232, 233, 234, 235, 236, 237, 238] (by decide +kernel) (by decide +kernel)
set_option maxRecDepth 20000 in
theorem gX5_digest_X5_signFact : GoodIn wsX5_digest (wsV RX5 242 RX5 yX5_signFact wsX5_signFact) := goodIn_app (goodIn_of _ (by decide +kernel)) ggX5_digest_X5_signFact
set_option maxRecDepth 20000 in
theorem ggX5_digest_X5_columnFact : GoodIn wsX5_digest wsX5_columnFact := goodIn_r _ [76, 3, 77, 78, 8, 79, 80, 55, 56, 81, 82, 83, 84, 85, 86, 87, 207, 208, 209, 210, 211, 212, 213, 214, 215, 216, 217, 218, 219, 220, 221] (by decide +kernel) (by decide +kernel)
set_option maxRecDepth 20000 in
theorem gX5_digest_X5_columnFact : GoodIn wsX5_digest (wsV RX5 205 RX5 yX5_columnFact wsX5_columnFact) := goodIn_app (goodIn_of _ (by decide +kernel)) ggX5_digest_X5_columnFact
set_option maxRecDepth 20000 in
theorem ggX5_digest_X5_addLineTo : GoodIn wsX5_digest wsX5_addLineTo := goodIn_r _ [91, 2, 92, 93, 94, 95, 8, 96, 3, 10, 4, 97, 98, 99, 100, 24, 25, 26, 27, 101, 102, 103, 104, 28, 29, 30, 31, 32, 33, 34, 35, 36, 37, 38, 39, 105, 106, 107, 108, 109, 110, 111, 112, 113, 114, 44, 115, 116, 117, 118, 119, 120, 121, 122, 123, 124, 125, 126, 127, 78, 79, 128, 129, 130, 131, 132, 133, 82, 83, 84, 85, 86, 87, 55, 56, 134, 135, 136, 137, 20, 21, 22, 23, 40, 41, 42, 138, 139, 140, 141, 142, 143, 144, 145, 146, 147, 148, 149, 150, 151, 152, 153, 154, 155, 156, 157, 158, 159, 160, 161, 162, 163, 164, 165, 166, 80, 167, 168, 169, 170, 171, 172, 173, 174, 175, 176, 177, 178, 179, 180, 181, 16, 17, 18, 19, 11, 207, 208, 209, 210, 211, 212, 213, 214, 215, 216, 217, 218, 219, 220, 221, 222, 223, 224, 225, 226, 227, 228, 239, 240, 241, 242, 243, 244, 245, 246] (by decide +kernel) (by decide +kernel)
set_option maxRecDepth 20000 in
theorem gX5_digest_X5_addLineTo : GoodIn wsX5_digest (wsV RX5 276 RX5 yX5_addLineTo wsX5_addLineTo) := goodIn_app (goodIn_of _ (by decide +kernel)) ggX5_digest_X5_addLineTo
set_option maxRecDepth 20000 in
theorem ggX5_digest_X5_isSound : GoodIn wsX5_digest wsX5_isSound := goodIn_r _ [185, 4, 3, 15, 186, 187, 188, 8, 189, 92, 93, 94, 95, 96, 10, 97, 98, 99, 100, 24, 25, 26, 27, 101, 102, 103, 104, 28, 29, 30, 31, 32, 33, 34, 35, 36, 37, 38, 39, 105, 106, 107, 108, 109, 110, 111, 112, 113, 114, 44, 115, 116, 117, 118, 119, 120, 121, 122, 123, 124, 125, 126, 127, 78, 79, 128, 129, 130, 131, 132, 133, 82, 83, 84, 85, 86, 87, 55, 56, 134, 135, 136, 137, 20, 21, 22, 23, 40, 41, 42, 138, 139, 140, 141, 142, 143, 144, 145, 146, 147, 148, 149, 150, 151, 152, 153, 154, 155, 156, 157, 158, 159, 160, 161, 162, 175, 176, 177, 190, 191, 192, 193, 53, 54, 194, 195, 196, 197, 198, 199, 200, 47, 201, 202, 48, 49, 50, 51, 52, 203, 204, 67, 205, 206, 71, 70, 207, 208, 209, 210, 211, 212, 213, 214, 215, 222, 223, 224, 225, 226, 227, 228, 239, 240, 241, 242, 243, 244, 245, 246, 216, 217, 218, 219, 220, 221, 234, 235, 236, 237, 238] (by decide +kernel) (by decide +kernel)
set_option maxRecDepth 20000 in
theorem gX5_digest_X5_isSound : GoodIn wsX5_digest (wsV RX5 280 RX5 yX5_isSound wsX5_isSound) := goodIn_app (goodIn_of _ (by decide +kernel)) ggX5_digest_X5_isSound
theorem dX5_digest_0 : decode cX5_digest 0 = .ok (.ldc2_w 272, 3) := by decide +kernel
theorem dX5_digest_3 : decode cX5_digest 3 = .ok (.lstore_n 1, 1) := by decide +kernel
theorem dX5_digest_4 : decode cX5_digest 4 = .ok (.iconst 0, 1) := by decide +kernel
theorem dX5_digest_5 : decode cX5_digest 5 = .ok (.istore_n 3, 1) := by decide +kernel
theorem dX5_digest_6 : decode cX5_digest 6 = .ok (.iload_n 3, 1) := by decide +kernel
theorem dX5_digest_7 : decode cX5_digest 7 = .ok (.bipush 17, 2) := by decide +kernel
theorem dX5_digest_9 : decode cX5_digest 9 = .ok (.if_icmp .gt 22, 3) := by decide +kernel
theorem dX5_digest_12 : decode cX5_digest 12 = .ok (.lload_n 1, 1) := by decide +kernel
theorem dX5_digest_13 : decode cX5_digest 13 = .ok (.ldc2_w 274, 3) := by decide +kernel
theorem dX5_digest_16 : decode cX5_digest 16 = .ok (.lmul, 1) := by decide +kernel
theorem dX5_digest_17 : decode cX5_digest 17 = .ok (.aload_n 0, 1) := by decide +kernel
theorem dX5_digest_18 : decode cX5_digest 18 = .ok (.iload_n 3, 1) := by decide +kernel
theorem dX5_digest_19 : decode cX5_digest 19 = .ok (.invokevirtual 242, 3) := by decide +kernel
theorem dX5_digest_22 : decode cX5_digest 22 = .ok (.i2l, 1) := by decide +kernel
theorem dX5_digest_23 : decode cX5_digest 23 = .ok (.ladd, 1) := by decide +kernel
theorem dX5_digest_24 : decode cX5_digest 24 = .ok (.lstore_n 1, 1) := by decide +kernel
theorem dX5_digest_25 : decode cX5_digest 25 = .ok (.iinc 3 1, 3) := by decide +kernel
theorem dX5_digest_28 : decode cX5_digest 28 = .ok (.goto (-22), 3) := by decide +kernel
theorem dX5_digest_31 : decode cX5_digest 31 = .ok (.iconst 0, 1) := by decide +kernel
theorem dX5_digest_32 : decode cX5_digest 32 = .ok (.istore_n 3, 1) := by decide +kernel
theorem dX5_digest_33 : decode cX5_digest 33 = .ok (.iload_n 3, 1) := by decide +kernel
theorem dX5_digest_34 : decode cX5_digest 34 = .ok (.aload_n 0, 1) := by decide +kernel
theorem dX5_digest_35 : decode cX5_digest 35 = .ok (.getfield 10, 3) := by decide +kernel
theorem dX5_digest_38 : decode cX5_digest 38 = .ok (.getfield 61, 3) := by decide +kernel
theorem dX5_digest_41 : decode cX5_digest 41 = .ok (.if_icmp .ge 39, 3) := by decide +kernel
theorem dX5_digest_44 : decode cX5_digest 44 = .ok (.iconst 0, 1) := by decide +kernel
theorem dX5_digest_45 : decode cX5_digest 45 = .ok (.istore 4, 2) := by decide +kernel
theorem dX5_digest_47 : decode cX5_digest 47 = .ok (.iload 4, 2) := by decide +kernel
theorem dX5_digest_49 : decode cX5_digest 49 = .ok (.iconst 2, 1) := by decide +kernel
theorem dX5_digest_50 : decode cX5_digest 50 = .ok (.if_icmp .gt 24, 3) := by decide +kernel
theorem dX5_digest_53 : decode cX5_digest 53 = .ok (.lload_n 1, 1) := by decide +kernel
theorem dX5_digest_54 : decode cX5_digest 54 = .ok (.ldc2_w 274, 3) := by decide +kernel
theorem dX5_digest_57 : decode cX5_digest 57 = .ok (.lmul, 1) := by decide +kernel
theorem dX5_digest_58 : decode cX5_digest 58 = .ok (.aload_n 0, 1) := by decide +kernel
theorem dX5_digest_59 : decode cX5_digest 59 = .ok (.iload_n 3, 1) := by decide +kernel
theorem dX5_digest_60 : decode cX5_digest 60 = .ok (.iload 4, 2) := by decide +kernel
theorem dX5_digest_62 : decode cX5_digest 62 = .ok (.invokevirtual 205, 3) := by decide +kernel
theorem dX5_digest_65 : decode cX5_digest 65 = .ok (.i2l, 1) := by decide +kernel
theorem dX5_digest_66 : decode cX5_digest 66 = .ok (.ladd, 1) := by decide +kernel
theorem dX5_digest_67 : decode cX5_digest 67 = .ok (.lstore_n 1, 1) := by decide +kernel
theorem dX5_digest_68 : decode cX5_digest 68 = .ok (.iinc 4 1, 3) := by decide +kernel
theorem dX5_digest_71 : decode cX5_digest 71 = .ok (.goto (-24), 3) := by decide +kernel
theorem dX5_digest_74 : decode cX5_digest 74 = .ok (.iinc 3 1, 3) := by decide +kernel
theorem dX5_digest_77 : decode cX5_digest 77 = .ok (.goto (-44), 3) := by decide +kernel
theorem dX5_digest_80 : decode cX5_digest 80 = .ok (.iconst 0, 1) := by decide +kernel
theorem dX5_digest_81 : decode cX5_digest 81 = .ok (.istore_n 3, 1) := by decide +kernel
theorem dX5_digest_82 : decode cX5_digest 82 = .ok (.iload_n 3, 1) := by decide +kernel
theorem dX5_digest_83 : decode cX5_digest 83 = .ok (.aload_n 0, 1) := by decide +kernel
theorem dX5_digest_84 : decode cX5_digest 84 = .ok (.getfield 19, 3) := by decide +kernel
theorem dX5_digest_87 : decode cX5_digest 87 = .ok (.getfield 95, 3) := by decide +kernel
theorem dX5_digest_90 : decode cX5_digest 90 = .ok (.if_icmp .ge 16, 3) := by decide +kernel
theorem dX5_digest_93 : decode cX5_digest 93 = .ok (.aload_n 0, 1) := by decide +kernel
theorem dX5_digest_94 : decode cX5_digest 94 = .ok (.lload_n 1, 1) := by decide +kernel
theorem dX5_digest_95 : decode cX5_digest 95 = .ok (.iload_n 3, 1) := by decide +kernel
theorem dX5_digest_96 : decode cX5_digest 96 = .ok (.invokevirtual 276, 3) := by decide +kernel
theorem dX5_digest_99 : decode cX5_digest 99 = .ok (.lstore_n 1, 1) := by decide +kernel
theorem dX5_digest_100 : decode cX5_digest 100 = .ok (.iinc 3 1, 3) := by decide +kernel
theorem dX5_digest_103 : decode cX5_digest 103 = .ok (.goto (-21), 3) := by decide +kernel
theorem dX5_digest_106 : decode cX5_digest 106 = .ok (.lload_n 1, 1) := by decide +kernel
theorem dX5_digest_107 : decode cX5_digest 107 = .ok (.ldc2_w 274, 3) := by decide +kernel
theorem dX5_digest_110 : decode cX5_digest 110 = .ok (.lmul, 1) := by decide +kernel
theorem dX5_digest_111 : decode cX5_digest 111 = .ok (.aload_n 0, 1) := by decide +kernel
theorem dX5_digest_112 : decode cX5_digest 112 = .ok (.invokevirtual 280, 3) := by decide +kernel
theorem dX5_digest_115 : decode cX5_digest 115 = .ok (.ifCond .eq 7, 3) := by decide +kernel
theorem dX5_digest_118 : decode cX5_digest 118 = .ok (.iconst 1, 1) := by decide +kernel
theorem dX5_digest_119 : decode cX5_digest 119 = .ok (.goto 4, 3) := by decide +kernel
theorem dX5_digest_122 : decode cX5_digest 122 = .ok (.iconst 0, 1) := by decide +kernel
theorem dX5_digest_123 : decode cX5_digest 123 = .ok (.i2l, 1) := by decide +kernel
theorem dX5_digest_124 : decode cX5_digest 124 = .ok (.ladd, 1) := by decide +kernel
theorem dX5_digest_125 : decode cX5_digest 125 = .ok (.lreturn, 1) := by decide +kernel
theorem dX5_needColumn_0 : decode cX5_needColumn 0 = .ok (.iload_n 1, 1) := by decide +kernel
theorem dX5_needColumn_1 : decode cX5_needColumn 1 = .ok (.ifCond .lt 14, 3) := by decide +kernel
theorem dX5_needColumn_4 : decode cX5_needColumn 4 = .ok (.iload_n 1, 1) := by decide +kernel
theorem dX5_needColumn_5 : decode cX5_needColumn 5 = .ok (.aload_n 0, 1) := by decide +kernel
theorem dX5_needColumn_6 : decode cX5_needColumn 6 = .ok (.getfield 10, 3) := by decide +kernel
theorem dX5_needColumn_9 : decode cX5_needColumn 9 = .ok (.getfield 61, 3) := by decide +kernel
theorem dX5_needColumn_12 : decode cX5_needColumn 12 = .ok (.if_icmp .lt 14, 3) := by decide +kernel
theorem dX5_needColumn_15 : decode cX5_needColumn 15 = .ok (.new 224, 3) := by decide +kernel
theorem dX5_needColumn_18 : decode cX5_needColumn 18 = .ok (.dup, 1) := by decide +kernel
theorem dX5_needColumn_19 : decode cX5_needColumn 19 = .ok (.ldc_w 283, 3) := by decide +kernel
theorem dX5_needColumn_22 : decode cX5_needColumn 22 = .ok (.invokespecial 228, 3) := by decide +kernel
theorem dX5_needColumn_25 : decode cX5_needColumn 25 = .ok (.athrow, 1) := by decide +kernel
theorem dX5_needColumn_26 : decode cX5_needColumn 26 = .ok (.return_, 1) := by decide +kernel
set_option maxRecDepth 20000 in
theorem ggX5_needDot_X5_needColumn : GoodIn wsX5_needDot wsX5_needColumn := goodIn_ca (goodIn_r _ [7, 1, 2, 8, 12, 13, 14, 15, 16, 17, 18, 19, 20, 21, 22, 23, 24, 25, 26] (by decide +kernel) (by decide +kernel)) (goodIn_sub (fun _ h => List.mem_cons_of_mem _ (List.mem_append_right _ h)) (by decide +kernel))
set_option maxRecDepth 20000 in
theorem gX5_needDot_X5_needColumn : GoodIn wsX5_needDot (wsV RX5 120 RX5 yX5_needColumn wsX5_needColumn) := goodIn_app (goodIn_of _ (by decide +kernel)) ggX5_needDot_X5_needColumn
set_option maxRecDepth 20000 in
theorem ggX5_needDot_X5_isHeight : GoodIn wsX5_needDot wsX5_isHeight := goodIn_r _ [11] (by decide +kernel) (by decide +kernel)
set_option maxRecDepth 20000 in
theorem gX5_needDot_X5_isHeight : GoodIn wsX5_needDot (va_wsS RX5 221 yX5_isHeight wsX5_isHeight) := goodIn_app (goodIn_of _ (by decide +kernel)) ggX5_needDot_X5_isHeight
theorem dX5_needDot_0 : decode cX5_needDot 0 = .ok (.aload_n 0, 1) := by decide +kernel
theorem dX5_needDot_1 : decode cX5_needDot 1 = .ok (.iload_n 1, 1) := by decide +kernel
theorem dX5_needDot_2 : decode cX5_needDot 2 = .ok (.invokevirtual 120, 3) := by decide +kernel
theorem dX5_needDot_5 : decode cX5_needDot 5 = .ok (.iload_n 2, 1) := by decide +kernel
theorem dX5_needDot_6 : decode cX5_needDot 6 = .ok (.invokestatic 221, 3) := by decide +kernel
theorem dX5_needDot_9 : decode cX5_needDot 9 = .ok (.ifCond .ne 13, 3) := by decide +kernel
