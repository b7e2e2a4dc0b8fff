theorem dX11_init_0 : decode cX11_init 0 = .ok (.aload_n 0, 1) := by decide +kernel
theorem dX11_init_1 : decode cX11_init 1 = .ok (.invokespecial 1, 3) := by decide +kernel
theorem dX11_init_4 : decode cX11_init 4 = .ok (.aload_n 0, 1) := by decide +kernel
theorem dX11_init_5 : decode cX11_init 5 = .ok (.sipush 340, 3) := by decide +kernel
theorem dX11_init_8 : decode cX11_init 8 = .ok (.newarray .long, 2) := by decide +kernel
theorem dX11_init_10 : decode cX11_init 10 = .ok (.putfield 7, 3) := by decide +kernel
theorem dX11_init_13 : decode cX11_init 13 = .ok (.aload_n 0, 1) := by decide +kernel
theorem dX11_init_14 : decode cX11_init 14 = .ok (.sipush 340, 3) := by decide +kernel
theorem dX11_init_17 : decode cX11_init 17 = .ok (.newarray .long, 2) := by decide +kernel
theorem dX11_init_19 : decode cX11_init 19 = .ok (.putfield 13, 3) := by decide +kernel
theorem dX11_init_22 : decode cX11_init 22 = .ok (.aload_n 0, 1) := by decide +kernel
theorem dX11_init_23 : decode cX11_init 23 = .ok (.sipush 2040, 3) := by decide +kernel
theorem dX11_init_26 : decode cX11_init 26 = .ok (.newarray .long, 2) := by decide +kernel
theorem dX11_init_28 : decode cX11_init 28 = .ok (.putfield 16, 3) := by decide +kernel
theorem dX11_init_31 : decode cX11_init 31 = .ok (.aload_n 0, 1) := by decide +kernel
theorem dX11_init_32 : decode cX11_init 32 = .ok (.sipush 680, 3) := by decide +kernel
theorem dX11_init_35 : decode cX11_init 35 = .ok (.newarray .long, 2) := by decide +kernel
theorem dX11_init_37 : decode cX11_init 37 = .ok (.putfield 19, 3) := by decide +kernel
theorem dX11_init_40 : decode cX11_init 40 = .ok (.aload_n 0, 1) := by decide +kernel
theorem dX11_init_41 : decode cX11_init 41 = .ok (.iconst 2, 1) := by decide +kernel
theorem dX11_init_42 : decode cX11_init 42 = .ok (.newarray .boolean, 2) := by decide +kernel
theorem dX11_init_44 : decode cX11_init 44 = .ok (.putfield 22, 3) := by decide +kernel
theorem dX11_init_47 : decode cX11_init 47 = .ok (.aload_n 0, 1) := by decide +kernel
theorem dX11_init_48 : decode cX11_init 48 = .ok (.bipush 80, 2) := by decide +kernel
theorem dX11_init_50 : decode cX11_init 50 = .ok (.newarray .int, 2) := by decide +kernel
theorem dX11_init_52 : decode cX11_init 52 = .ok (.putfield 26, 3) := by decide +kernel
theorem dX11_init_55 : decode cX11_init 55 = .ok (.aload_n 0, 1) := by decide +kernel
theorem dX11_init_56 : decode cX11_init 56 = .ok (.bipush 9, 2) := by decide +kernel
theorem dX11_init_58 : decode cX11_init 58 = .ok (.newarray .int, 2) := by decide +kernel
theorem dX11_init_60 : decode cX11_init 60 = .ok (.putfield 30, 3) := by decide +kernel
theorem dX11_init_63 : decode cX11_init 63 = .ok (.return_, 1) := by decide +kernel
theorem dX11_in_0 : decode cX11_in 0 = .ok (.lload_n 0, 1) := by decide +kernel
theorem dX11_in_1 : decode cX11_in 1 = .ok (.lload_n 2, 1) := by decide +kernel
theorem dX11_in_2 : decode cX11_in 2 = .ok (.lcmp, 1) := by decide +kernel
theorem dX11_in_3 : decode cX11_in 3 = .ok (.ifCond .lt 14, 3) := by decide +kernel
theorem dX11_in_6 : decode cX11_in 6 = .ok (.lload_n 0, 1) := by decide +kernel
theorem dX11_in_7 : decode cX11_in 7 = .ok (.lload 4, 2) := by decide +kernel
theorem dX11_in_9 : decode cX11_in 9 = .ok (.lcmp, 1) := by decide +kernel
theorem dX11_in_10 : decode cX11_in 10 = .ok (.ifCond .gt 7, 3) := by decide +kernel
theorem dX11_in_13 : decode cX11_in 13 = .ok (.iconst 1, 1) := by decide +kernel
theorem dX11_in_14 : decode cX11_in 14 = .ok (.goto 4, 3) := by decide +kernel
theorem dX11_in_17 : decode cX11_in 17 = .ok (.iconst 0, 1) := by decide +kernel
theorem dX11_in_18 : decode cX11_in 18 = .ok (.ireturn, 1) := by decide +kernel
theorem dX11_has_0 : decode cX11_has 0 = .ok (.iload_n 0, 1) := by decide +kernel
theorem dX11_has_1 : decode cX11_has 1 = .ok (.iload_n 1, 1) := by decide +kernel
theorem dX11_has_2 : decode cX11_has 2 = .ok (.ishr, 1) := by decide +kernel
theorem dX11_has_3 : decode cX11_has 3 = .ok (.iconst 1, 1) := by decide +kernel
theorem dX11_has_4 : decode cX11_has 4 = .ok (.iand, 1) := by decide +kernel
theorem dX11_has_5 : decode cX11_has 5 = .ok (.iconst 1, 1) := by decide +kernel
theorem dX11_has_6 : decode cX11_has 6 = .ok (.if_icmp .ne 7, 3) := by decide +kernel
theorem dX11_has_9 : decode cX11_has 9 = .ok (.iconst 1, 1) := by decide +kernel
theorem dX11_has_10 : decode cX11_has 10 = .ok (.goto 4, 3) := by decide +kernel
theorem dX11_has_13 : decode cX11_has 13 = .ok (.iconst 0, 1) := by decide +kernel
theorem dX11_has_14 : decode cX11_has 14 = .ok (.ireturn, 1) := by decide +kernel
set_option maxRecDepth 20000 in
theorem ggX11_ones_X11_has : GoodIn wsX11_ones wsX11_has := goodIn_r _ [4] (by decide +kernel) (by decide +kernel)
set_option maxRecDepth 20000 in
theorem gX11_ones_X11_has : GoodIn wsX11_ones (va_wsS RX11 33 yX11_has wsX11_has) := goodIn_app (goodIn_of _ (by decide +kernel)) ggX11_ones_X11_has
theorem dX11_ones_0 : decode cX11_ones 0 = .ok (.iconst 0, 1) := by decide +kernel
theorem dX11_ones_1 : decode cX11_ones 1 = .ok (.istore_n 1, 1) := by decide +kernel
theorem dX11_ones_2 : decode cX11_ones 2 = .ok (.iconst 0, 1) := by decide +kernel
theorem dX11_ones_3 : decode cX11_ones 3 = .ok (.istore_n 2, 1) := by decide +kernel
theorem dX11_ones_4 : decode cX11_ones 4 = .ok (.iload_n 2, 1) := by decide +kernel
theorem dX11_ones_5 : decode cX11_ones 5 = .ok (.iconst 5, 1) := by decide +kernel
theorem dX11_ones_6 : decode cX11_ones 6 = .ok (.if_icmp .ge 25, 3) := by decide +kernel
theorem dX11_ones_9 : decode cX11_ones 9 = .ok (.iload_n 1, 1) := by decide +kernel
theorem dX11_ones_10 : decode cX11_ones 10 = .ok (.iload_n 0, 1) := by decide +kernel
theorem dX11_ones_11 : decode cX11_ones 11 = .ok (.iload_n 2, 1) := by decide +kernel
theorem dX11_ones_12 : decode cX11_ones 12 = .ok (.invokestatic 33, 3) := by decide +kernel
theorem dX11_ones_15 : decode cX11_ones 15 = .ok (.ifCond .eq 7, 3) := by decide +kernel
theorem dX11_ones_18 : decode cX11_ones 18 = .ok (.iconst 1, 1) := by decide +kernel
theorem dX11_ones_19 : decode cX11_ones 19 = .ok (.goto 4, 3) := by decide +kernel
theorem dX11_ones_22 : decode cX11_ones 22 = .ok (.iconst 0, 1) := by decide +kernel
theorem dX11_ones_23 : decode cX11_ones 23 = .ok (.iadd, 1) := by decide +kernel
theorem dX11_ones_24 : decode cX11_ones 24 = .ok (.istore_n 1, 1) := by decide +kernel
theorem dX11_ones_25 : decode cX11_ones 25 = .ok (.iinc 2 1, 3) := by decide +kernel
theorem dX11_ones_28 : decode cX11_ones 28 = .ok (.goto (-24), 3) := by decide +kernel
theorem dX11_ones_31 : decode cX11_ones 31 = .ok (.iload_n 1, 1) := by decide +kernel
theorem dX11_ones_32 : decode cX11_ones 32 = .ok (.ireturn, 1) := by decide +kernel
theorem dX11_copies_0 : decode cX11_copies 0 = .ok (.iconst 0, 1) := by decide +kernel
theorem dX11_copies_1 : decode cX11_copies 1 = .ok (.istore 4, 2) := by decide +kernel
theorem dX11_copies_3 : decode cX11_copies 3 = .ok (.iload 4, 2) := by decide +kernel
theorem dX11_copies_5 : decode cX11_copies 5 = .ok (.sipush 340, 3) := by decide +kernel
theorem dX11_copies_8 : decode cX11_copies 8 = .ok (.if_icmp .ge 21, 3) := by decide +kernel
theorem dX11_copies_11 : decode cX11_copies 11 = .ok (.aload_n 2, 1) := by decide +kernel
theorem dX11_copies_12 : decode cX11_copies 12 = .ok (.iload_n 3, 1) := by decide +kernel
theorem dX11_copies_13 : decode cX11_copies 13 = .ok (.iload 4, 2) := by decide +kernel
theorem dX11_copies_15 : decode cX11_copies 15 = .ok (.iadd, 1) := by decide +kernel
theorem dX11_copies_16 : decode cX11_copies 16 = .ok (.aload_n 0, 1) := by decide +kernel
theorem dX11_copies_17 : decode cX11_copies 17 = .ok (.iload_n 1, 1) := by decide +kernel
theorem dX11_copies_18 : decode cX11_copies 18 = .ok (.iload 4, 2) := by decide +kernel
theorem dX11_copies_20 : decode cX11_copies 20 = .ok (.iadd, 1) := by decide +kernel
theorem dX11_copies_21 : decode cX11_copies 21 = .ok (.laload, 1) := by decide +kernel
theorem dX11_copies_22 : decode cX11_copies 22 = .ok (.lastore, 1) := by decide +kernel
theorem dX11_copies_23 : decode cX11_copies 23 = .ok (.iinc 4 1, 3) := by decide +kernel
theorem dX11_copies_26 : decode cX11_copies 26 = .ok (.goto (-23), 3) := by decide +kernel
theorem dX11_copies_29 : decode cX11_copies 29 = .ok (.return_, 1) := by decide +kernel
set_option maxRecDepth 20000 in
theorem ggX11_tries_X11_copies : GoodIn wsX11_tries wsX11_copies := goodIn_r _ [6] (by decide +kernel) (by decide +kernel)
set_option maxRecDepth 20000 in
theorem gX11_tries_X11_copies : GoodIn wsX11_tries (va_wsS RX11 37 yX11_copies wsX11_copies) := goodIn_app (goodIn_of _ (by decide +kernel)) ggX11_tries_X11_copies
theorem dX11_tries_0 : decode cX11_tries 0 = .ok (.aload_n 0, 1) := by decide +kernel
theorem dX11_tries_1 : decode cX11_tries 1 = .ok (.getfield 7, 3) := by decide +kernel
theorem dX11_tries_4 : decode cX11_tries 4 = .ok (.iconst 0, 1) := by decide +kernel
theorem dX11_tries_5 : decode cX11_tries 5 = .ok (.aload_n 0, 1) := by decide +kernel
theorem dX11_tries_6 : decode cX11_tries 6 = .ok (.getfield 13, 3) := by decide +kernel
theorem dX11_tries_9 : decode cX11_tries 9 = .ok (.iconst 0, 1) := by decide +kernel
theorem dX11_tries_10 : decode cX11_tries 10 = .ok (.invokestatic 37, 3) := by decide +kernel
theorem dX11_tries_13 : decode cX11_tries 13 = .ok (.return_, 1) := by decide +kernel
theorem dX11_version_0 : decode cX11_version 0 = .ok (.lload_n 0, 1) := by decide +kernel
theorem dX11_version_1 : decode cX11_version 1 = .ok (.bipush 49, 2) := by decide +kernel
theorem dX11_version_3 : decode cX11_version 3 = .ok (.lshr, 1) := by decide +kernel
theorem dX11_version_4 : decode cX11_version 4 = .ok (.ldc2_w 41, 3) := by decide +kernel
theorem dX11_version_7 : decode cX11_version 7 = .ok (.land, 1) := by decide +kernel
theorem dX11_version_8 : decode cX11_version 8 = .ok (.l2i, 1) := by decide +kernel
theorem dX11_version_9 : decode cX11_version 9 = .ok (.ireturn, 1) := by decide +kernel
theorem dX11_filled_0 : decode cX11_filled 0 = .ok (.lload_n 0, 1) := by decide +kernel
theorem dX11_filled_1 : decode cX11_filled 1 = .ok (.bipush 45, 2) := by decide +kernel
theorem dX11_filled_3 : decode cX11_filled 3 = .ok (.lshr, 1) := by decide +kernel
theorem dX11_filled_4 : decode cX11_filled 4 = .ok (.ldc2_w 43, 3) := by decide +kernel
theorem dX11_filled_7 : decode cX11_filled 7 = .ok (.land, 1) := by decide +kernel
theorem dX11_filled_8 : decode cX11_filled 8 = .ok (.l2i, 1) := by decide +kernel
theorem dX11_filled_9 : decode cX11_filled 9 = .ok (.ireturn, 1) := by decide +kernel
theorem dX11_cell_0 : decode cX11_cell 0 = .ok (.lload_n 0, 1) := by decide +kernel
theorem dX11_cell_1 : decode cX11_cell 1 = .ok (.iconst 5, 1) := by decide +kernel
theorem dX11_cell_2 : decode cX11_cell 2 = .ok (.iload_n 2, 1) := by decide +kernel
theorem dX11_cell_3 : decode cX11_cell 3 = .ok (.imul, 1) := by decide +kernel
theorem dX11_cell_4 : decode cX11_cell 4 = .ok (.lshr, 1) := by decide +kernel
theorem dX11_cell_5 : decode cX11_cell 5 = .ok (.ldc2_w 45, 3) := by decide +kernel
theorem dX11_cell_8 : decode cX11_cell 8 = .ok (.land, 1) := by decide +kernel
theorem dX11_cell_9 : decode cX11_cell 9 = .ok (.l2i, 1) := by decide +kernel
theorem dX11_cell_10 : decode cX11_cell 10 = .ok (.ireturn, 1) := by decide +kernel
theorem dX11_withVersion_0 : decode cX11_withVersion 0 = .ok (.lload_n 0, 1) := by decide +kernel
theorem dX11_withVersion_1 : decode cX11_withVersion 1 = .ok (.ldc2_w 47, 3) := by decide +kernel
theorem dX11_withVersion_4 : decode cX11_withVersion 4 = .ok (.land, 1) := by decide +kernel
theorem dX11_withVersion_5 : decode cX11_withVersion 5 = .ok (.lload_n 2, 1) := by decide +kernel
theorem dX11_withVersion_6 : decode cX11_withVersion 6 = .ok (.bipush 49, 2) := by decide +kernel
theorem dX11_withVersion_8 : decode cX11_withVersion 8 = .ok (.lshl, 1) := by decide +kernel
theorem dX11_withVersion_9 : decode cX11_withVersion 9 = .ok (.lor, 1) := by decide +kernel
theorem dX11_withVersion_10 : decode cX11_withVersion 10 = .ok (.lreturn, 1) := by decide +kernel
theorem dX11_withFilled_0 : decode cX11_withFilled 0 = .ok (.lload_n 0, 1) := by decide +kernel
theorem dX11_withFilled_1 : decode cX11_withFilled 1 = .ok (.ldc2_w 49, 3) := by decide +kernel
theorem dX11_withFilled_4 : decode cX11_withFilled 4 = .ok (.land, 1) := by decide +kernel
theorem dX11_withFilled_5 : decode cX11_withFilled 5 = .ok (.lload_n 2, 1) := by decide +kernel
theorem dX11_withFilled_6 : decode cX11_withFilled 6 = .ok (.bipush 45, 2) := by decide +kernel
theorem dX11_withFilled_8 : decode cX11_withFilled 8 = .ok (.lshl, 1) := by decide +kernel
theorem dX11_withFilled_9 : decode cX11_withFilled 9 = .ok (.lor, 1) := by decide +kernel
theorem dX11_withFilled_10 : decode cX11_withFilled 10 = .ok (.lreturn, 1) := by decide +kernel
theorem dX11_withCell_0 : decode cX11_withCell 0 = .ok (.lload_n 0, 1) := by decide +kernel
theorem dX11_withCell_1 : decode cX11_withCell 1 = .ok (.ldc2_w 45, 3) := by decide +kernel
theorem dX11_withCell_4 : decode cX11_withCell 4 = .ok (.iconst 5, 1) := by decide +kernel
theorem dX11_withCell_5 : decode cX11_withCell 5 = .ok (.iload_n 2, 1) := by decide +kernel
theorem dX11_withCell_6 : decode cX11_withCell 6 = .ok (.imul, 1) := by decide +kernel
theorem dX11_withCell_7 : decode cX11_withCell 7 = .ok (.lshl, 1) := by decide +kernel
theorem dX11_withCell_8 : decode cX11_withCell 8 = .ok (.ldc2_w 51, 3) := by decide +kernel
theorem dX11_withCell_11 : decode cX11_withCell 11 = .ok (.lxor, 1) := by decide +kernel
theorem dX11_withCell_12 : decode cX11_withCell 12 = .ok (.land, 1) := by decide +kernel
theorem dX11_withCell_13 : decode cX11_withCell 13 = .ok (.lload_n 3, 1) := by decide +kernel
theorem dX11_withCell_14 : decode cX11_withCell 14 = .ok (.iconst 5, 1) := by decide +kernel
theorem dX11_withCell_15 : decode cX11_withCell 15 = .ok (.iload_n 2, 1) := by decide +kernel
theorem dX11_withCell_16 : decode cX11_withCell 16 = .ok (.imul, 1) := by decide +kernel
theorem dX11_withCell_17 : decode cX11_withCell 17 = .ok (.lshl, 1) := by decide +kernel
theorem dX11_withCell_18 : decode cX11_withCell 18 = .ok (.lor, 1) := by decide +kernel
theorem dX11_withCell_19 : decode cX11_withCell 19 = .ok (.lreturn, 1) := by decide +kernel
theorem dX11_isUp_0 : decode cX11_isUp 0 = .ok (.aload_n 0, 1) := by decide +kernel
theorem dX11_isUp_1 : decode cX11_isUp 1 = .ok (.bipush 7, 2) := by decide +kernel
theorem dX11_isUp_3 : decode cX11_isUp 3 = .ok (.iconst 3, 1) := by decide +kernel
theorem dX11_isUp_4 : decode cX11_isUp 4 = .ok (.iload_n 1, 1) := by decide +kernel
theorem dX11_isUp_5 : decode cX11_isUp 5 = .ok (.imul, 1) := by decide +kernel
theorem dX11_isUp_6 : decode cX11_isUp 6 = .ok (.iadd, 1) := by decide +kernel
theorem dX11_isUp_7 : decode cX11_isUp 7 = .ok (.iconst 0, 1) := by decide +kernel
theorem dX11_isUp_8 : decode cX11_isUp 8 = .ok (.iadd, 1) := by decide +kernel
theorem dX11_isUp_9 : decode cX11_isUp 9 = .ok (.laload, 1) := by decide +kernel
theorem dX11_isUp_10 : decode cX11_isUp 10 = .ok (.lconst 1, 1) := by decide +kernel
theorem dX11_isUp_11 : decode cX11_isUp 11 = .ok (.lcmp, 1) := by decide +kernel
theorem dX11_isUp_12 : decode cX11_isUp 12 = .ok (.ifCond .ne 7, 3) := by decide +kernel
theorem dX11_isUp_15 : decode cX11_isUp 15 = .ok (.iconst 1, 1) := by decide +kernel
theorem dX11_isUp_16 : decode cX11_isUp 16 = .ok (.goto 4, 3) := by decide +kernel
theorem dX11_isUp_19 : decode cX11_isUp 19 = .ok (.iconst 0, 1) := by decide +kernel
theorem dX11_isUp_20 : decode cX11_isUp 20 = .ok (.ireturn, 1) := by decide +kernel
theorem dX11_copy_0 : decode cX11_copy 0 = .ok (.aload_n 0, 1) := by decide +kernel
theorem dX11_copy_1 : decode cX11_copy 1 = .ok (.sipush 190, 3) := by decide +kernel
theorem dX11_copy_4 : decode cX11_copy 4 = .ok (.iconst 5, 1) := by decide +kernel
theorem dX11_copy_5 : decode cX11_copy 5 = .ok (.iload_n 1, 1) := by decide +kernel
theorem dX11_copy_6 : decode cX11_copy 6 = .ok (.imul, 1) := by decide +kernel
theorem dX11_copy_7 : decode cX11_copy 7 = .ok (.iadd, 1) := by decide +kernel
theorem dX11_copy_8 : decode cX11_copy 8 = .ok (.iload_n 2, 1) := by decide +kernel
theorem dX11_copy_9 : decode cX11_copy 9 = .ok (.iadd, 1) := by decide +kernel
theorem dX11_copy_10 : decode cX11_copy 10 = .ok (.laload, 1) := by decide +kernel
theorem dX11_copy_11 : decode cX11_copy 11 = .ok (.lreturn, 1) := by decide +kernel
set_option maxRecDepth 20000 in
theorem ggX11_isGood_X11_copy : GoodIn wsX11_isGood wsX11_copy := goodIn_r _ [4] (by decide +kernel) (by decide +kernel)
set_option maxRecDepth 20000 in
theorem gX11_isGood_X11_copy : GoodIn wsX11_isGood (va_wsS RX11 53 yX11_copy wsX11_copy) := goodIn_app (goodIn_of _ (by decide +kernel)) ggX11_isGood_X11_copy
set_option maxRecDepth 20000 in
theorem ggX11_isGood_X11_version : GoodIn wsX11_isGood wsX11_version := goodIn_r _ [7, 8] (by decide +kernel) (by decide +kernel)
set_option maxRecDepth 20000 in
theorem gX11_isGood_X11_version : GoodIn wsX11_isGood (va_wsS RX11 57 yX11_version wsX11_version) := goodIn_app (goodIn_of _ (by decide +kernel)) ggX11_isGood_X11_version
theorem dX11_isGood_0 : decode cX11_isGood 0 = .ok (.aload_n 0, 1) := by decide +kernel
theorem dX11_isGood_1 : decode cX11_isGood 1 = .ok (.iload_n 1, 1) := by decide +kernel
theorem dX11_isGood_2 : decode cX11_isGood 2 = .ok (.iload_n 2, 1) := by decide +kernel
theorem dX11_isGood_3 : decode cX11_isGood 3 = .ok (.invokestatic 53, 3) := by decide +kernel
theorem dX11_isGood_6 : decode cX11_isGood 6 = .ok (.lconst 0, 1) := by decide +kernel
theorem dX11_isGood_7 : decode cX11_isGood 7 = .ok (.lcmp, 1) := by decide +kernel
theorem dX11_isGood_8 : decode cX11_isGood 8 = .ok (.ifCond .eq 31, 3) := by decide +kernel
theorem dX11_isGood_11 : decode cX11_isGood 11 = .ok (.aload_n 0, 1) := by decide +kernel
theorem dX11_isGood_12 : decode cX11_isGood 12 = .ok (.iload_n 1, 1) := by decide +kernel
theorem dX11_isGood_13 : decode cX11_isGood 13 = .ok (.iload_n 2, 1) := by decide +kernel
theorem dX11_isGood_14 : decode cX11_isGood 14 = .ok (.invokestatic 53, 3) := by decide +kernel
theorem dX11_isGood_17 : decode cX11_isGood 17 = .ok (.invokestatic 57, 3) := by decide +kernel
theorem dX11_isGood_20 : decode cX11_isGood 20 = .ok (.i2l, 1) := by decide +kernel
theorem dX11_isGood_21 : decode cX11_isGood 21 = .ok (.aload_n 0, 1) := by decide +kernel
theorem dX11_isGood_22 : decode cX11_isGood 22 = .ok (.bipush 70, 2) := by decide +kernel
theorem dX11_isGood_24 : decode cX11_isGood 24 = .ok (.iconst 4, 1) := by decide +kernel
theorem dX11_isGood_25 : decode cX11_isGood 25 = .ok (.iload_n 1, 1) := by decide +kernel
theorem dX11_isGood_26 : decode cX11_isGood 26 = .ok (.imul, 1) := by decide +kernel
theorem dX11_isGood_27 : decode cX11_isGood 27 = .ok (.iadd, 1) := by decide +kernel
theorem dX11_isGood_28 : decode cX11_isGood 28 = .ok (.iconst 0, 1) := by decide +kernel
theorem dX11_isGood_29 : decode cX11_isGood 29 = .ok (.iadd, 1) := by decide +kernel
theorem dX11_isGood_30 : decode cX11_isGood 30 = .ok (.laload, 1) := by decide +kernel
theorem dX11_isGood_31 : decode cX11_isGood 31 = .ok (.lcmp, 1) := by decide +kernel
theorem dX11_isGood_32 : decode cX11_isGood 32 = .ok (.ifCond .ne 7, 3) := by decide +kernel
theorem dX11_isGood_35 : decode cX11_isGood 35 = .ok (.iconst 1, 1) := by decide +kernel
theorem dX11_isGood_36 : decode cX11_isGood 36 = .ok (.goto 4, 3) := by decide +kernel
theorem dX11_isGood_39 : decode cX11_isGood 39 = .ok (.iconst 0, 1) := by decide +kernel
theorem dX11_isGood_40 : decode cX11_isGood 40 = .ok (.ireturn, 1) := by decide +kernel
set_option maxRecDepth 20000 in
theorem ggX11_isStale_X11_copy : GoodIn wsX11_isStale wsX11_copy := goodIn_r _ [4] (by decide +kernel) (by decide +kernel)
set_option maxRecDepth 20000 in
theorem gX11_isStale_X11_copy : GoodIn wsX11_isStale (va_wsS RX11 53 yX11_copy wsX11_copy) := goodIn_app (goodIn_of _ (by decide +kernel)) ggX11_isStale_X11_copy
set_option maxRecDepth 20000 in
theorem ggX11_isStale_X11_isGood : GoodIn wsX11_isStale wsX11_isGood := goodIn_r _ [7, 1, 2, 3, 4, 8, 9, 10, 11] (by decide +kernel) (by decide +kernel)
set_option maxRecDepth 20000 in
theorem gX11_isStale_X11_isGood : GoodIn wsX11_isStale (va_wsS RX11 61 yX11_isGood wsX11_isGood) := goodIn_app (goodIn_of _ (by decide +kernel)) ggX11_isStale_X11_isGood
theorem dX11_isStale_0 : decode cX11_isStale 0 = .ok (.aload_n 0, 1) := by decide +kernel
theorem dX11_isStale_1 : decode cX11_isStale 1 = .ok (.iload_n 1, 1) := by decide +kernel
theorem dX11_isStale_2 : decode cX11_isStale 2 = .ok (.iload_n 2, 1) := by decide +kernel
theorem dX11_isStale_3 : decode cX11_isStale 3 = .ok (.invokestatic 53, 3) := by decide +kernel
theorem dX11_isStale_6 : decode cX11_isStale 6 = .ok (.lconst 0, 1) := by decide +kernel
theorem dX11_isStale_7 : decode cX11_isStale 7 = .ok (.lcmp, 1) := by decide +kernel
theorem dX11_isStale_8 : decode cX11_isStale 8 = .ok (.ifCond .eq 16, 3) := by decide +kernel
theorem dX11_isStale_11 : decode cX11_isStale 11 = .ok (.aload_n 0, 1) := by decide +kernel
theorem dX11_isStale_12 : decode cX11_isStale 12 = .ok (.iload_n 1, 1) := by decide +kernel
theorem dX11_isStale_13 : decode cX11_isStale 13 = .ok (.iload_n 2, 1) := by decide +kernel
theorem dX11_isStale_14 : decode cX11_isStale 14 = .ok (.invokestatic 61, 3) := by decide +kernel
theorem dX11_isStale_17 : decode cX11_isStale 17 = .ok (.ifCond .ne 7, 3) := by decide +kernel
theorem dX11_isStale_20 : decode cX11_isStale 20 = .ok (.iconst 1, 1) := by decide +kernel
theorem dX11_isStale_21 : decode cX11_isStale 21 = .ok (.goto 4, 3) := by decide +kernel
theorem dX11_isStale_24 : decode cX11_isStale 24 = .ok (.iconst 0, 1) := by decide +kernel
theorem dX11_isStale_25 : decode cX11_isStale 25 = .ok (.ireturn, 1) := by decide +kernel
set_option maxRecDepth 20000 in
theorem ggX11_isAble_X11_isUp : GoodIn wsX11_isAble wsX11_isUp := goodIn_r _ [4] (by decide +kernel) (by decide +kernel)
set_option maxRecDepth 20000 in
theorem gX11_isAble_X11_isUp : GoodIn wsX11_isAble (va_wsS RX11 65 yX11_isUp wsX11_isUp) := goodIn_app (goodIn_of _ (by decide +kernel)) ggX11_isAble_X11_isUp
set_option maxRecDepth 20000 in
theorem ggX11_isAble_X11_isGood : GoodIn wsX11_isAble wsX11_isGood := goodIn_r _ [7, 8, 9, 3, 10, 11, 12, 13, 14] (by decide +kernel) (by decide +kernel)
set_option maxRecDepth 20000 in
theorem gX11_isAble_X11_isGood : GoodIn wsX11_isAble (va_wsS RX11 61 yX11_isGood wsX11_isGood) := goodIn_app (goodIn_of _ (by decide +kernel)) ggX11_isAble_X11_isGood
theorem dX11_isAble_0 : decode cX11_isAble 0 = .ok (.aload_n 0, 1) := by decide +kernel
theorem dX11_isAble_1 : decode cX11_isAble 1 = .ok (.iload_n 2, 1) := by decide +kernel
theorem dX11_isAble_2 : decode cX11_isAble 2 = .ok (.invokestatic 65, 3) := by decide +kernel
theorem dX11_isAble_5 : decode cX11_isAble 5 = .ok (.ifCond .eq 16, 3) := by decide +kernel
theorem dX11_isAble_8 : decode cX11_isAble 8 = .ok (.aload_n 0, 1) := by decide +kernel
theorem dX11_isAble_9 : decode cX11_isAble 9 = .ok (.iload_n 1, 1) := by decide +kernel
theorem dX11_isAble_10 : decode cX11_isAble 10 = .ok (.iload_n 2, 1) := by decide +kernel
theorem dX11_isAble_11 : decode cX11_isAble 11 = .ok (.invokestatic 61, 3) := by decide +kernel
theorem dX11_isAble_14 : decode cX11_isAble 14 = .ok (.ifCond .eq 7, 3) := by decide +kernel
theorem dX11_isAble_17 : decode cX11_isAble 17 = .ok (.iconst 1, 1) := by decide +kernel
theorem dX11_isAble_18 : decode cX11_isAble 18 = .ok (.goto 4, 3) := by decide +kernel
theorem dX11_isAble_21 : decode cX11_isAble 21 = .ok (.iconst 0, 1) := by decide +kernel
theorem dX11_isAble_22 : decode cX11_isAble 22 = .ok (.ireturn, 1) := by decide +kernel
set_option maxRecDepth 20000 in
theorem ggX11_ups_X11_isUp : GoodIn wsX11_ups wsX11_isUp := goodIn_r _ [4] (by decide +kernel) (by decide +kernel)
set_option maxRecDepth 20000 in
theorem gX11_ups_X11_isUp : GoodIn wsX11_ups (va_wsS RX11 65 yX11_isUp wsX11_isUp) := goodIn_app (goodIn_of _ (by decide +kernel)) ggX11_ups_X11_isUp
theorem dX11_ups_0 : decode cX11_ups 0 = .ok (.iconst 0, 1) := by decide +kernel
theorem dX11_ups_1 : decode cX11_ups 1 = .ok (.istore_n 1, 1) := by decide +kernel
theorem dX11_ups_2 : decode cX11_ups 2 = .ok (.iconst 0, 1) := by decide +kernel
theorem dX11_ups_3 : decode cX11_ups 3 = .ok (.istore_n 2, 1) := by decide +kernel
theorem dX11_ups_4 : decode cX11_ups 4 = .ok (.iload_n 2, 1) := by decide +kernel
theorem dX11_ups_5 : decode cX11_ups 5 = .ok (.i2l, 1) := by decide +kernel
theorem dX11_ups_6 : decode cX11_ups 6 = .ok (.aload_n 0, 1) := by decide +kernel
theorem dX11_ups_7 : decode cX11_ups 7 = .ok (.iconst 0, 1) := by decide +kernel
theorem dX11_ups_8 : decode cX11_ups 8 = .ok (.laload, 1) := by decide +kernel
theorem dX11_ups_9 : decode cX11_ups 9 = .ok (.lcmp, 1) := by decide +kernel
theorem dX11_ups_10 : decode cX11_ups 10 = .ok (.ifCond .ge 27, 3) := by decide +kernel
theorem dX11_ups_13 : decode cX11_ups 13 = .ok (.iload_n 1, 1) := by decide +kernel
theorem dX11_ups_14 : decode cX11_ups 14 = .ok (.aload_n 0, 1) := by decide +kernel
theorem dX11_ups_15 : decode cX11_ups 15 = .ok (.iload_n 2, 1) := by decide +kernel
theorem dX11_ups_16 : decode cX11_ups 16 = .ok (.invokestatic 65, 3) := by decide +kernel
theorem dX11_ups_19 : decode cX11_ups 19 = .ok (.ifCond .eq 9, 3) := by decide +kernel
theorem dX11_ups_22 : decode cX11_ups 22 = .ok (.iconst 1, 1) := by decide +kernel
theorem dX11_ups_23 : decode cX11_ups 23 = .ok (.iload_n 2, 1) := by decide +kernel
theorem dX11_ups_24 : decode cX11_ups 24 = .ok (.ishl, 1) := by decide +kernel
theorem dX11_ups_25 : decode cX11_ups 25 = .ok (.goto 4, 3) := by decide +kernel
theorem dX11_ups_28 : decode cX11_ups 28 = .ok (.iconst 0, 1) := by decide +kernel
theorem dX11_ups_29 : decode cX11_ups 29 = .ok (.ior, 1) := by decide +kernel
theorem dX11_ups_30 : decode cX11_ups 30 = .ok (.istore_n 1, 1) := by decide +kernel
theorem dX11_ups_31 : decode cX11_ups 31 = .ok (.iinc 2 1, 3) := by decide +kernel
theorem dX11_ups_34 : decode cX11_ups 34 = .ok (.goto (-30), 3) := by decide +kernel
theorem dX11_ups_37 : decode cX11_ups 37 = .ok (.iload_n 1, 1) := by decide +kernel
theorem dX11_ups_38 : decode cX11_ups 38 = .ok (.ireturn, 1) := by decide +kernel
set_option maxRecDepth 20000 in
theorem ggX11_ables_X11_isAble : GoodIn wsX11_ables wsX11_isAble := goodIn_r _ [4, 5, 6, 3, 7, 8, 9, 10, 11, 12, 13, 14, 15, 16, 17] (by decide +kernel) (by decide +kernel)
set_option maxRecDepth 20000 in
theorem gX11_ables_X11_isAble : GoodIn wsX11_ables (va_wsS RX11 69 yX11_isAble wsX11_isAble) := goodIn_app (goodIn_of _ (by decide +kernel)) ggX11_ables_X11_isAble
theorem dX11_ables_0 : decode cX11_ables 0 = .ok (.iconst 0, 1) := by decide +kernel
theorem dX11_ables_1 : decode cX11_ables 1 = .ok (.istore_n 2, 1) := by decide +kernel
theorem dX11_ables_2 : decode cX11_ables 2 = .ok (.iconst 0, 1) := by decide +kernel
theorem dX11_ables_3 : decode cX11_ables 3 = .ok (.istore_n 3, 1) := by decide +kernel
theorem dX11_ables_4 : decode cX11_ables 4 = .ok (.iload_n 3, 1) := by decide +kernel
theorem dX11_ables_5 : decode cX11_ables 5 = .ok (.i2l, 1) := by decide +kernel
theorem dX11_ables_6 : decode cX11_ables 6 = .ok (.aload_n 0, 1) := by decide +kernel
theorem dX11_ables_7 : decode cX11_ables 7 = .ok (.iconst 0, 1) := by decide +kernel
theorem dX11_ables_8 : decode cX11_ables 8 = .ok (.laload, 1) := by decide +kernel
theorem dX11_ables_9 : decode cX11_ables 9 = .ok (.lcmp, 1) := by decide +kernel
theorem dX11_ables_10 : decode cX11_ables 10 = .ok (.ifCond .ge 28, 3) := by decide +kernel
theorem dX11_ables_13 : decode cX11_ables 13 = .ok (.iload_n 2, 1) := by decide +kernel
theorem dX11_ables_14 : decode cX11_ables 14 = .ok (.aload_n 0, 1) := by decide +kernel
theorem dX11_ables_15 : decode cX11_ables 15 = .ok (.iload_n 1, 1) := by decide +kernel
theorem dX11_ables_16 : decode cX11_ables 16 = .ok (.iload_n 3, 1) := by decide +kernel
theorem dX11_ables_17 : decode cX11_ables 17 = .ok (.invokestatic 69, 3) := by decide +kernel
theorem dX11_ables_20 : decode cX11_ables 20 = .ok (.ifCond .eq 9, 3) := by decide +kernel
theorem dX11_ables_23 : decode cX11_ables 23 = .ok (.iconst 1, 1) := by decide +kernel
theorem dX11_ables_24 : decode cX11_ables 24 = .ok (.iload_n 3, 1) := by decide +kernel
theorem dX11_ables_25 : decode cX11_ables 25 = .ok (.ishl, 1) := by decide +kernel
theorem dX11_ables_26 : decode cX11_ables 26 = .ok (.goto 4, 3) := by decide +kernel
theorem dX11_ables_29 : decode cX11_ables 29 = .ok (.iconst 0, 1) := by decide +kernel
theorem dX11_ables_30 : decode cX11_ables 30 = .ok (.ior, 1) := by decide +kernel
theorem dX11_ables_31 : decode cX11_ables 31 = .ok (.istore_n 2, 1) := by decide +kernel
theorem dX11_ables_32 : decode cX11_ables 32 = .ok (.iinc 3 1, 3) := by decide +kernel
theorem dX11_ables_35 : decode cX11_ables 35 = .ok (.goto (-31), 3) := by decide +kernel
theorem dX11_ables_38 : decode cX11_ables 38 = .ok (.iload_n 2, 1) := by decide +kernel
theorem dX11_ables_39 : decode cX11_ables 39 = .ok (.ireturn, 1) := by decide +kernel
set_option maxRecDepth 20000 in
theorem ggX11_least_X11_has : GoodIn wsX11_least wsX11_has := goodIn_r _ [4] (by decide +kernel) (by decide +kernel)
set_option maxRecDepth 20000 in
theorem gX11_least_X11_has : GoodIn wsX11_least (va_wsS RX11 33 yX11_has wsX11_has) := goodIn_app (goodIn_of _ (by decide +kernel)) ggX11_least_X11_has
theorem dX11_least_0 : decode cX11_least 0 = .ok (.iconst 0, 1) := by decide +kernel
theorem dX11_least_1 : decode cX11_least 1 = .ok (.istore_n 1, 1) := by decide +kernel
theorem dX11_least_2 : decode cX11_least 2 = .ok (.iload_n 1, 1) := by decide +kernel
theorem dX11_least_3 : decode cX11_least 3 = .ok (.iconst 5, 1) := by decide +kernel
theorem dX11_least_4 : decode cX11_least 4 = .ok (.if_icmp .ge 17, 3) := by decide +kernel
theorem dX11_least_7 : decode cX11_least 7 = .ok (.iload_n 0, 1) := by decide +kernel
theorem dX11_least_8 : decode cX11_least 8 = .ok (.iload_n 1, 1) := by decide +kernel
theorem dX11_least_9 : decode cX11_least 9 = .ok (.invokestatic 33, 3) := by decide +kernel
theorem dX11_least_12 : decode cX11_least 12 = .ok (.ifCond .ne 9, 3) := by decide +kernel
theorem dX11_least_15 : decode cX11_least 15 = .ok (.iinc 1 1, 3) := by decide +kernel
theorem dX11_least_18 : decode cX11_least 18 = .ok (.goto (-16), 3) := by decide +kernel
theorem dX11_least_21 : decode cX11_least 21 = .ok (.iload_n 1, 1) := by decide +kernel
theorem dX11_least_22 : decode cX11_least 22 = .ok (.ireturn, 1) := by decide +kernel
set_option maxRecDepth 20000 in
theorem ggX11_lying_X11_copy : GoodIn wsX11_lying wsX11_copy := goodIn_r _ [4] (by decide +kernel) (by decide +kernel)
set_option maxRecDepth 20000 in
theorem gX11_lying_X11_copy : GoodIn wsX11_lying (va_wsS RX11 53 yX11_copy wsX11_copy) := goodIn_app (goodIn_of _ (by decide +kernel)) ggX11_lying_X11_copy
theorem dX11_lying_0 : decode cX11_lying 0 = .ok (.iconst 0, 1) := by decide +kernel
theorem dX11_lying_1 : decode cX11_lying 1 = .ok (.istore_n 2, 1) := by decide +kernel
theorem dX11_lying_2 : decode cX11_lying 2 = .ok (.iconst 0, 1) := by decide +kernel
theorem dX11_lying_3 : decode cX11_lying 3 = .ok (.istore_n 3, 1) := by decide +kernel
theorem dX11_lying_4 : decode cX11_lying 4 = .ok (.iload_n 3, 1) := by decide +kernel
theorem dX11_lying_5 : decode cX11_lying 5 = .ok (.i2l, 1) := by decide +kernel
theorem dX11_lying_6 : decode cX11_lying 6 = .ok (.aload_n 0, 1) := by decide +kernel
theorem dX11_lying_7 : decode cX11_lying 7 = .ok (.bipush 6, 2) := by decide +kernel
theorem dX11_lying_9 : decode cX11_lying 9 = .ok (.laload, 1) := by decide +kernel
theorem dX11_lying_10 : decode cX11_lying 10 = .ok (.lcmp, 1) := by decide +kernel
theorem dX11_lying_11 : decode cX11_lying 11 = .ok (.ifCond .ge 28, 3) := by decide +kernel
theorem dX11_lying_14 : decode cX11_lying 14 = .ok (.iload_n 2, 1) := by decide +kernel
theorem dX11_lying_15 : decode cX11_lying 15 = .ok (.aload_n 0, 1) := by decide +kernel
theorem dX11_lying_16 : decode cX11_lying 16 = .ok (.iload_n 3, 1) := by decide +kernel
theorem dX11_lying_17 : decode cX11_lying 17 = .ok (.iload_n 1, 1) := by decide +kernel
theorem dX11_lying_18 : decode cX11_lying 18 = .ok (.invokestatic 53, 3) := by decide +kernel
theorem dX11_lying_21 : decode cX11_lying 21 = .ok (.lconst 0, 1) := by decide +kernel
theorem dX11_lying_22 : decode cX11_lying 22 = .ok (.lcmp, 1) := by decide +kernel
theorem dX11_lying_23 : decode cX11_lying 23 = .ok (.ifCond .eq 7, 3) := by decide +kernel
theorem dX11_lying_26 : decode cX11_lying 26 = .ok (.iconst 1, 1) := by decide +kernel
theorem dX11_lying_27 : decode cX11_lying 27 = .ok (.goto 4, 3) := by decide +kernel
theorem dX11_lying_30 : decode cX11_lying 30 = .ok (.iconst 0, 1) := by decide +kernel
theorem dX11_lying_31 : decode cX11_lying 31 = .ok (.iadd, 1) := by decide +kernel
theorem dX11_lying_32 : decode cX11_lying 32 = .ok (.istore_n 2, 1) := by decide +kernel
theorem dX11_lying_33 : decode cX11_lying 33 = .ok (.iinc 3 1, 3) := by decide +kernel
theorem dX11_lying_36 : decode cX11_lying 36 = .ok (.goto (-32), 3) := by decide +kernel
theorem dX11_lying_39 : decode cX11_lying 39 = .ok (.iload_n 2, 1) := by decide +kernel
theorem dX11_lying_40 : decode cX11_lying 40 = .ok (.ireturn, 1) := by decide +kernel
set_option maxRecDepth 20000 in
theorem ggX11_load_X11_lying : GoodIn wsX11_load wsX11_lying := goodIn_r _ [4, 5, 6, 3, 7] (by decide +kernel) (by decide +kernel)
set_option maxRecDepth 20000 in
theorem gX11_load_X11_lying : GoodIn wsX11_load (va_wsS RX11 72 yX11_lying wsX11_lying) := goodIn_app (goodIn_of _ (by decide +kernel)) ggX11_load_X11_lying
theorem dX11_load_0 : decode cX11_load 0 = .ok (.aload_n 0, 1) := by decide +kernel
theorem dX11_load_1 : decode cX11_load 1 = .ok (.iload_n 1, 1) := by decide +kernel
theorem dX11_load_2 : decode cX11_load 2 = .ok (.invokestatic 72, 3) := by decide +kernel
theorem dX11_load_5 : decode cX11_load 5 = .ok (.i2f, 1) := by decide +kernel
theorem dX11_load_6 : decode cX11_load 6 = .ok (.aload_n 0, 1) := by decide +kernel
theorem dX11_load_7 : decode cX11_load 7 = .ok (.bipush 7, 2) := by decide +kernel
theorem dX11_load_9 : decode cX11_load 9 = .ok (.iconst 3, 1) := by decide +kernel
theorem dX11_load_10 : decode cX11_load 10 = .ok (.iload_n 1, 1) := by decide +kernel
theorem dX11_load_11 : decode cX11_load 11 = .ok (.imul, 1) := by decide +kernel
theorem dX11_load_12 : decode cX11_load 12 = .ok (.iadd, 1) := by decide +kernel
theorem dX11_load_13 : decode cX11_load 13 = .ok (.iconst 1, 1) := by decide +kernel
theorem dX11_load_14 : decode cX11_load 14 = .ok (.iadd, 1) := by decide +kernel
theorem dX11_load_15 : decode cX11_load 15 = .ok (.laload, 1) := by decide +kernel
theorem dX11_load_16 : decode cX11_load 16 = .ok (.l2f, 1) := by decide +kernel
theorem dX11_load_17 : decode cX11_load 17 = .ok (.fdiv, 1) := by decide +kernel
theorem dX11_load_18 : decode cX11_load 18 = .ok (.freturn, 1) := by decide +kernel
set_option maxRecDepth 20000 in
theorem ggX11_best_X11_least : GoodIn wsX11_best wsX11_least := goodIn_r _ [4, 5, 6, 3, 7] (by decide +kernel) (by decide +kernel)
set_option maxRecDepth 20000 in
theorem gX11_best_X11_least : GoodIn wsX11_best (va_wsS RX11 76 yX11_least wsX11_least) := goodIn_app (goodIn_of _ (by decide +kernel)) ggX11_best_X11_least
set_option maxRecDepth 20000 in
theorem ggX11_best_X11_has : GoodIn wsX11_best wsX11_has := goodIn_r _ [7] (by decide +kernel) (by decide +kernel)
set_option maxRecDepth 20000 in
theorem gX11_best_X11_has : GoodIn wsX11_best (va_wsS RX11 33 yX11_has wsX11_has) := goodIn_app (goodIn_of _ (by decide +kernel)) ggX11_best_X11_has
set_option maxRecDepth 20000 in
theorem ggX11_best_X11_load : GoodIn wsX11_best wsX11_load := goodIn_r _ [10, 11, 12, 3, 13, 14, 15, 16] (by decide +kernel) (by decide +kernel)
set_option maxRecDepth 20000 in
theorem gX11_best_X11_load : GoodIn wsX11_best (va_wsS RX11 80 yX11_load wsX11_load) := goodIn_app (goodIn_of _ (by decide +kernel)) ggX11_best_X11_load
theorem dX11_best_0 : decode cX11_best 0 = .ok (.iload_n 1, 1) := by decide +kernel
theorem dX11_best_1 : decode cX11_best 1 = .ok (.invokestatic 76, 3) := by decide +kernel
theorem dX11_best_4 : decode cX11_best 4 = .ok (.istore_n 2, 1) := by decide +kernel
theorem dX11_best_5 : decode cX11_best 5 = .ok (.iload_n 2, 1) := by decide +kernel
theorem dX11_best_6 : decode cX11_best 6 = .ok (.iconst 1, 1) := by decide +kernel
theorem dX11_best_7 : decode cX11_best 7 = .ok (.iadd, 1) := by decide +kernel
theorem dX11_best_8 : decode cX11_best 8 = .ok (.istore_n 3, 1) := by decide +kernel
theorem dX11_best_9 : decode cX11_best 9 = .ok (.iload_n 3, 1) := by decide +kernel
theorem dX11_best_10 : decode cX11_best 10 = .ok (.iconst 5, 1) := by decide +kernel
theorem dX11_best_11 : decode cX11_best 11 = .ok (.if_icmp .ge 37, 3) := by decide +kernel
theorem dX11_best_14 : decode cX11_best 14 = .ok (.iload_n 1, 1) := by decide +kernel
theorem dX11_best_15 : decode cX11_best 15 = .ok (.iload_n 3, 1) := by decide +kernel
theorem dX11_best_16 : decode cX11_best 16 = .ok (.invokestatic 33, 3) := by decide +kernel
theorem dX11_best_19 : decode cX11_best 19 = .ok (.ifCond .eq 21, 3) := by decide +kernel
theorem dX11_best_22 : decode cX11_best 22 = .ok (.aload_n 0, 1) := by decide +kernel
theorem dX11_best_23 : decode cX11_best 23 = .ok (.iload_n 3, 1) := by decide +kernel
theorem dX11_best_24 : decode cX11_best 24 = .ok (.invokestatic 80, 3) := by decide +kernel
theorem dX11_best_27 : decode cX11_best 27 = .ok (.aload_n 0, 1) := by decide +kernel
theorem dX11_best_28 : decode cX11_best 28 = .ok (.iload_n 2, 1) := by decide +kernel
theorem dX11_best_29 : decode cX11_best 29 = .ok (.invokestatic 80, 3) := by decide +kernel
theorem dX11_best_32 : decode cX11_best 32 = .ok (.fcmp .g, 1) := by decide +kernel
theorem dX11_best_33 : decode cX11_best 33 = .ok (.ifCond .ge 7, 3) := by decide +kernel
theorem dX11_best_36 : decode cX11_best 36 = .ok (.iload_n 3, 1) := by decide +kernel
theorem dX11_best_37 : decode cX11_best 37 = .ok (.goto 4, 3) := by decide +kernel
theorem dX11_best_40 : decode cX11_best 40 = .ok (.iload_n 2, 1) := by decide +kernel
theorem dX11_best_41 : decode cX11_best 41 = .ok (.istore_n 2, 1) := by decide +kernel
theorem dX11_best_42 : decode cX11_best 42 = .ok (.iinc 3 1, 3) := by decide +kernel
theorem dX11_best_45 : decode cX11_best 45 = .ok (.goto (-36), 3) := by decide +kernel
theorem dX11_best_48 : decode cX11_best 48 = .ok (.iload_n 2, 1) := by decide +kernel
theorem dX11_best_49 : decode cX11_best 49 = .ok (.ireturn, 1) := by decide +kernel
theorem dX11_fails_0 : decode cX11_fails 0 = .ok (.aload_n 0, 1) := by decide +kernel
theorem dX11_fails_1 : decode cX11_fails 1 = .ok (.bipush 7, 2) := by decide +kernel
theorem dX11_fails_3 : decode cX11_fails 3 = .ok (.iconst 3, 1) := by decide +kernel
theorem dX11_fails_4 : decode cX11_fails 4 = .ok (.iload_n 1, 1) := by decide +kernel
theorem dX11_fails_5 : decode cX11_fails 5 = .ok (.imul, 1) := by decide +kernel
theorem dX11_fails_6 : decode cX11_fails 6 = .ok (.iadd, 1) := by decide +kernel
theorem dX11_fails_7 : decode cX11_fails 7 = .ok (.iconst 2, 1) := by decide +kernel
theorem dX11_fails_8 : decode cX11_fails 8 = .ok (.iadd, 1) := by decide +kernel
theorem dX11_fails_9 : decode cX11_fails 9 = .ok (.laload, 1) := by decide +kernel
theorem dX11_fails_10 : decode cX11_fails 10 = .ok (.lconst 0, 1) := by decide +kernel
theorem dX11_fails_11 : decode cX11_fails 11 = .ok (.lcmp, 1) := by decide +kernel
theorem dX11_fails_12 : decode cX11_fails 12 = .ok (.ifCond .le 7, 3) := by decide +kernel
theorem dX11_fails_15 : decode cX11_fails 15 = .ok (.iconst 1, 1) := by decide +kernel
theorem dX11_fails_16 : decode cX11_fails 16 = .ok (.goto 4, 3) := by decide +kernel
theorem dX11_fails_19 : decode cX11_fails 19 = .ok (.iconst 0, 1) := by decide +kernel
theorem dX11_fails_20 : decode cX11_fails 20 = .ok (.istore_n 2, 1) := by decide +kernel
theorem dX11_fails_21 : decode cX11_fails 21 = .ok (.aload_n 0, 1) := by decide +kernel
theorem dX11_fails_22 : decode cX11_fails 22 = .ok (.bipush 7, 2) := by decide +kernel
theorem dX11_fails_24 : decode cX11_fails 24 = .ok (.iconst 3, 1) := by decide +kernel
theorem dX11_fails_25 : decode cX11_fails 25 = .ok (.iload_n 1, 1) := by decide +kernel
theorem dX11_fails_26 : decode cX11_fails 26 = .ok (.imul, 1) := by decide +kernel
theorem dX11_fails_27 : decode cX11_fails 27 = .ok (.iadd, 1) := by decide +kernel
theorem dX11_fails_28 : decode cX11_fails 28 = .ok (.iconst 2, 1) := by decide +kernel
theorem dX11_fails_29 : decode cX11_fails 29 = .ok (.iadd, 1) := by decide +kernel
theorem dX11_fails_30 : decode cX11_fails 30 = .ok (.dup2, 1) := by decide +kernel
theorem dX11_fails_31 : decode cX11_fails 31 = .ok (.laload, 1) := by decide +kernel
theorem dX11_fails_32 : decode cX11_fails 32 = .ok (.iload_n 2, 1) := by decide +kernel
theorem dX11_fails_33 : decode cX11_fails 33 = .ok (.ifCond .eq 7, 3) := by decide +kernel
theorem dX11_fails_36 : decode cX11_fails 36 = .ok (.lconst 1, 1) := by decide +kernel
theorem dX11_fails_37 : decode cX11_fails 37 = .ok (.goto 4, 3) := by decide +kernel
theorem dX11_fails_40 : decode cX11_fails 40 = .ok (.lconst 0, 1) := by decide +kernel
theorem dX11_fails_41 : decode cX11_fails 41 = .ok (.lsub, 1) := by decide +kernel
theorem dX11_fails_42 : decode cX11_fails 42 = .ok (.lastore, 1) := by decide +kernel
theorem dX11_fails_43 : decode cX11_fails 43 = .ok (.iload_n 2, 1) := by decide +kernel
theorem dX11_fails_44 : decode cX11_fails 44 = .ok (.ireturn, 1) := by decide +kernel
theorem dX11_wanted_0 : decode cX11_wanted 0 = .ok (.lload_n 1, 1) := by decide +kernel
theorem dX11_wanted_1 : decode cX11_wanted 1 = .ok (.ldc2_w 84, 3) := by decide +kernel
theorem dX11_wanted_4 : decode cX11_wanted 4 = .ok (.lcmp, 1) := by decide +kernel
theorem dX11_wanted_5 : decode cX11_wanted 5 = .ok (.ifCond .ne 7, 3) := by decide +kernel
theorem dX11_wanted_8 : decode cX11_wanted 8 = .ok (.iconst 1, 1) := by decide +kernel
theorem dX11_wanted_9 : decode cX11_wanted 9 = .ok (.goto 21, 3) := by decide +kernel
theorem dX11_wanted_12 : decode cX11_wanted 12 = .ok (.aload_n 0, 1) := by decide +kernel
theorem dX11_wanted_13 : decode cX11_wanted 13 = .ok (.iconst 1, 1) := by decide +kernel
theorem dX11_wanted_14 : decode cX11_wanted 14 = .ok (.laload, 1) := by decide +kernel
theorem dX11_wanted_15 : decode cX11_wanted 15 = .ok (.l2i, 1) := by decide +kernel
theorem dX11_wanted_16 : decode cX11_wanted 16 = .ok (.lload_n 1, 1) := by decide +kernel
theorem dX11_wanted_17 : decode cX11_wanted 17 = .ok (.ldc2_w 86, 3) := by decide +kernel
theorem dX11_wanted_20 : decode cX11_wanted 20 = .ok (.lcmp, 1) := by decide +kernel
theorem dX11_wanted_21 : decode cX11_wanted 21 = .ok (.ifCond .ne 7, 3) := by decide +kernel
theorem dX11_wanted_24 : decode cX11_wanted 24 = .ok (.iconst 1, 1) := by decide +kernel
theorem dX11_wanted_25 : decode cX11_wanted 25 = .ok (.goto 4, 3) := by decide +kernel
theorem dX11_wanted_28 : decode cX11_wanted 28 = .ok (.iconst 0, 1) := by decide +kernel
theorem dX11_wanted_29 : decode cX11_wanted 29 = .ok (.iadd, 1) := by decide +kernel
theorem dX11_wanted_30 : decode cX11_wanted 30 = .ok (.ireturn, 1) := by decide +kernel
theorem dX11_grace_0 : decode cX11_grace 0 = .ok (.aload_n 0, 1) := by decide +kernel
theorem dX11_grace_1 : decode cX11_grace 1 = .ok (.bipush 22, 2) := by decide +kernel
theorem dX11_grace_3 : decode cX11_grace 3 = .ok (.bipush 8, 2) := by decide +kernel
theorem dX11_grace_5 : decode cX11_grace 5 = .ok (.iload_n 1, 1) := by decide +kernel
theorem dX11_grace_6 : decode cX11_grace 6 = .ok (.imul, 1) := by decide +kernel
theorem dX11_grace_7 : decode cX11_grace 7 = .ok (.iadd, 1) := by decide +kernel
theorem dX11_grace_8 : decode cX11_grace 8 = .ok (.iconst 1, 1) := by decide +kernel
theorem dX11_grace_9 : decode cX11_grace 9 = .ok (.iadd, 1) := by decide +kernel
theorem dX11_grace_10 : decode cX11_grace 10 = .ok (.laload, 1) := by decide +kernel
theorem dX11_grace_11 : decode cX11_grace 11 = .ok (.ldc2_w 88, 3) := by decide +kernel
theorem dX11_grace_14 : decode cX11_grace 14 = .ok (.lcmp, 1) := by decide +kernel
theorem dX11_grace_15 : decode cX11_grace 15 = .ok (.ifCond .lt 7, 3) := by decide +kernel
theorem dX11_grace_18 : decode cX11_grace 18 = .ok (.lconst 0, 1) := by decide +kernel
theorem dX11_grace_19 : decode cX11_grace 19 = .ok (.goto 6, 3) := by decide +kernel
theorem dX11_grace_22 : decode cX11_grace 22 = .ok (.aload_n 0, 1) := by decide +kernel
theorem dX11_grace_23 : decode cX11_grace 23 = .ok (.iconst 4, 1) := by decide +kernel
theorem dX11_grace_24 : decode cX11_grace 24 = .ok (.laload, 1) := by decide +kernel
theorem dX11_grace_25 : decode cX11_grace 25 = .ok (.lreturn, 1) := by decide +kernel
theorem dX11_chunkOf_0 : decode cX11_chunkOf 0 = .ok (.aload_n 0, 1) := by decide +kernel
theorem dX11_chunkOf_1 : decode cX11_chunkOf 1 = .ok (.bipush 22, 2) := by decide +kernel
theorem dX11_chunkOf_3 : decode cX11_chunkOf 3 = .ok (.bipush 8, 2) := by decide +kernel
theorem dX11_chunkOf_5 : decode cX11_chunkOf 5 = .ok (.iload_n 1, 1) := by decide +kernel
theorem dX11_chunkOf_6 : decode cX11_chunkOf 6 = .ok (.imul, 1) := by decide +kernel
theorem dX11_chunkOf_7 : decode cX11_chunkOf 7 = .ok (.iadd, 1) := by decide +kernel
theorem dX11_chunkOf_8 : decode cX11_chunkOf 8 = .ok (.iconst 4, 1) := by decide +kernel
theorem dX11_chunkOf_9 : decode cX11_chunkOf 9 = .ok (.iadd, 1) := by decide +kernel
theorem dX11_chunkOf_10 : decode cX11_chunkOf 10 = .ok (.iload_n 2, 1) := by decide +kernel
theorem dX11_chunkOf_11 : decode cX11_chunkOf 11 = .ok (.iadd, 1) := by decide +kernel
theorem dX11_chunkOf_12 : decode cX11_chunkOf 12 = .ok (.laload, 1) := by decide +kernel
theorem dX11_chunkOf_13 : decode cX11_chunkOf 13 = .ok (.l2i, 1) := by decide +kernel
theorem dX11_chunkOf_14 : decode cX11_chunkOf 14 = .ok (.ireturn, 1) := by decide +kernel
theorem dX11_many_0 : decode cX11_many 0 = .ok (.aload_n 0, 1) := by decide +kernel
theorem dX11_many_1 : decode cX11_many 1 = .ok (.bipush 22, 2) := by decide +kernel
theorem dX11_many_3 : decode cX11_many 3 = .ok (.bipush 8, 2) := by decide +kernel
theorem dX11_many_5 : decode cX11_many 5 = .ok (.iload_n 1, 1) := by decide +kernel
theorem dX11_many_6 : decode cX11_many 6 = .ok (.imul, 1) := by decide +kernel
theorem dX11_many_7 : decode cX11_many 7 = .ok (.iadd, 1) := by decide +kernel
theorem dX11_many_8 : decode cX11_many 8 = .ok (.iconst 2, 1) := by decide +kernel
theorem dX11_many_9 : decode cX11_many 9 = .ok (.iadd, 1) := by decide +kernel
theorem dX11_many_10 : decode cX11_many 10 = .ok (.laload, 1) := by decide +kernel
theorem dX11_many_11 : decode cX11_many 11 = .ok (.l2i, 1) := by decide +kernel
theorem dX11_many_12 : decode cX11_many 12 = .ok (.ireturn, 1) := by decide +kernel
set_option maxRecDepth 20000 in
theorem ggX11_lastOf_X11_many : GoodIn wsX11_lastOf wsX11_many := goodIn_r _ [4] (by decide +kernel) (by decide +kernel)
set_option maxRecDepth 20000 in
theorem gX11_lastOf_X11_many : GoodIn wsX11_lastOf (va_wsS RX11 90 yX11_many wsX11_many) := goodIn_app (goodIn_of _ (by decide +kernel)) ggX11_lastOf_X11_many
set_option maxRecDepth 20000 in
theorem ggX11_lastOf_X11_chunkOf : GoodIn wsX11_lastOf wsX11_chunkOf := goodIn_r _ [7] (by decide +kernel) (by decide +kernel)
set_option maxRecDepth 20000 in
theorem gX11_lastOf_X11_chunkOf : GoodIn wsX11_lastOf (va_wsS RX11 93 yX11_chunkOf wsX11_chunkOf) := goodIn_app (goodIn_of _ (by decide +kernel)) ggX11_lastOf_X11_chunkOf
theorem dX11_lastOf_0 : decode cX11_lastOf 0 = .ok (.aload_n 0, 1) := by decide +kernel
theorem dX11_lastOf_1 : decode cX11_lastOf 1 = .ok (.iload_n 1, 1) := by decide +kernel
theorem dX11_lastOf_2 : decode cX11_lastOf 2 = .ok (.aload_n 0, 1) := by decide +kernel
theorem dX11_lastOf_3 : decode cX11_lastOf 3 = .ok (.iload_n 1, 1) := by decide +kernel
theorem dX11_lastOf_4 : decode cX11_lastOf 4 = .ok (.invokestatic 90, 3) := by decide +kernel
theorem dX11_lastOf_7 : decode cX11_lastOf 7 = .ok (.iconst 1, 1) := by decide +kernel
theorem dX11_lastOf_8 : decode cX11_lastOf 8 = .ok (.isub, 1) := by decide +kernel
theorem dX11_lastOf_9 : decode cX11_lastOf 9 = .ok (.invokestatic 93, 3) := by decide +kernel
theorem dX11_lastOf_12 : decode cX11_lastOf 12 = .ok (.ireturn, 1) := by decide +kernel
theorem dX11_adds_0 : decode cX11_adds 0 = .ok (.aload_n 0, 1) := by decide +kernel
theorem dX11_adds_1 : decode cX11_adds 1 = .ok (.bipush 6, 2) := by decide +kernel
theorem dX11_adds_3 : decode cX11_adds 3 = .ok (.laload, 1) := by decide +kernel
theorem dX11_adds_4 : decode cX11_adds 4 = .ok (.l2i, 1) := by decide +kernel
theorem dX11_adds_5 : decode cX11_adds 5 = .ok (.istore_n 1, 1) := by decide +kernel
theorem dX11_adds_6 : decode cX11_adds 6 = .ok (.aload_n 0, 1) := by decide +kernel
theorem dX11_adds_7 : decode cX11_adds 7 = .ok (.bipush 70, 2) := by decide +kernel
theorem dX11_adds_9 : decode cX11_adds 9 = .ok (.iconst 4, 1) := by decide +kernel
theorem dX11_adds_10 : decode cX11_adds 10 = .ok (.iload_n 1, 1) := by decide +kernel
theorem dX11_adds_11 : decode cX11_adds 11 = .ok (.imul, 1) := by decide +kernel
theorem dX11_adds_12 : decode cX11_adds 12 = .ok (.iadd, 1) := by decide +kernel
theorem dX11_adds_13 : decode cX11_adds 13 = .ok (.iconst 0, 1) := by decide +kernel
theorem dX11_adds_14 : decode cX11_adds 14 = .ok (.iadd, 1) := by decide +kernel
theorem dX11_adds_15 : decode cX11_adds 15 = .ok (.lconst 1, 1) := by decide +kernel
theorem dX11_adds_16 : decode cX11_adds 16 = .ok (.lastore, 1) := by decide +kernel
theorem dX11_adds_17 : decode cX11_adds 17 = .ok (.aload_n 0, 1) := by decide +kernel
theorem dX11_adds_18 : decode cX11_adds 18 = .ok (.bipush 70, 2) := by decide +kernel
theorem dX11_adds_20 : decode cX11_adds 20 = .ok (.iconst 4, 1) := by decide +kernel
theorem dX11_adds_21 : decode cX11_adds 21 = .ok (.iload_n 1, 1) := by decide +kernel
theorem dX11_adds_22 : decode cX11_adds 22 = .ok (.imul, 1) := by decide +kernel
theorem dX11_adds_23 : decode cX11_adds 23 = .ok (.iadd, 1) := by decide +kernel
theorem dX11_adds_24 : decode cX11_adds 24 = .ok (.iconst 1, 1) := by decide +kernel
theorem dX11_adds_25 : decode cX11_adds 25 = .ok (.iadd, 1) := by decide +kernel
theorem dX11_adds_26 : decode cX11_adds 26 = .ok (.lconst 1, 1) := by decide +kernel
theorem dX11_adds_27 : decode cX11_adds 27 = .ok (.lastore, 1) := by decide +kernel
theorem dX11_adds_28 : decode cX11_adds 28 = .ok (.aload_n 0, 1) := by decide +kernel
theorem dX11_adds_29 : decode cX11_adds 29 = .ok (.bipush 70, 2) := by decide +kernel
theorem dX11_adds_31 : decode cX11_adds 31 = .ok (.iconst 4, 1) := by decide +kernel
theorem dX11_adds_32 : decode cX11_adds 32 = .ok (.iload_n 1, 1) := by decide +kernel
theorem dX11_adds_33 : decode cX11_adds 33 = .ok (.imul, 1) := by decide +kernel
theorem dX11_adds_34 : decode cX11_adds 34 = .ok (.iadd, 1) := by decide +kernel
theorem dX11_adds_35 : decode cX11_adds 35 = .ok (.iconst 2, 1) := by decide +kernel
theorem dX11_adds_36 : decode cX11_adds 36 = .ok (.iadd, 1) := by decide +kernel
theorem dX11_adds_37 : decode cX11_adds 37 = .ok (.ldc2_w 51, 3) := by decide +kernel
theorem dX11_adds_40 : decode cX11_adds 40 = .ok (.lastore, 1) := by decide +kernel
theorem dX11_adds_41 : decode cX11_adds 41 = .ok (.aload_n 0, 1) := by decide +kernel
theorem dX11_adds_42 : decode cX11_adds 42 = .ok (.bipush 70, 2) := by decide +kernel
theorem dX11_adds_44 : decode cX11_adds 44 = .ok (.iconst 4, 1) := by decide +kernel
theorem dX11_adds_45 : decode cX11_adds 45 = .ok (.iload_n 1, 1) := by decide +kernel
theorem dX11_adds_46 : decode cX11_adds 46 = .ok (.imul, 1) := by decide +kernel
theorem dX11_adds_47 : decode cX11_adds 47 = .ok (.iadd, 1) := by decide +kernel
theorem dX11_adds_48 : decode cX11_adds 48 = .ok (.iconst 3, 1) := by decide +kernel
theorem dX11_adds_49 : decode cX11_adds 49 = .ok (.iadd, 1) := by decide +kernel
theorem dX11_adds_50 : decode cX11_adds 50 = .ok (.lconst 0, 1) := by decide +kernel
theorem dX11_adds_51 : decode cX11_adds 51 = .ok (.lastore, 1) := by decide +kernel
theorem dX11_adds_52 : decode cX11_adds 52 = .ok (.iconst 0, 1) := by decide +kernel
theorem dX11_adds_53 : decode cX11_adds 53 = .ok (.istore_n 2, 1) := by decide +kernel
theorem dX11_adds_54 : decode cX11_adds 54 = .ok (.iload_n 2, 1) := by decide +kernel
theorem dX11_adds_55 : decode cX11_adds 55 = .ok (.iconst 5, 1) := by decide +kernel
theorem dX11_adds_56 : decode cX11_adds 56 = .ok (.if_icmp .ge 21, 3) := by decide +kernel
theorem dX11_adds_59 : decode cX11_adds 59 = .ok (.aload_n 0, 1) := by decide +kernel
theorem dX11_adds_60 : decode cX11_adds 60 = .ok (.sipush 190, 3) := by decide +kernel
theorem dX11_adds_63 : decode cX11_adds 63 = .ok (.iconst 5, 1) := by decide +kernel
theorem dX11_adds_64 : decode cX11_adds 64 = .ok (.iload_n 1, 1) := by decide +kernel
theorem dX11_adds_65 : decode cX11_adds 65 = .ok (.imul, 1) := by decide +kernel
theorem dX11_adds_66 : decode cX11_adds 66 = .ok (.iadd, 1) := by decide +kernel
theorem dX11_adds_67 : decode cX11_adds 67 = .ok (.iload_n 2, 1) := by decide +kernel
theorem dX11_adds_68 : decode cX11_adds 68 = .ok (.iadd, 1) := by decide +kernel
theorem dX11_adds_69 : decode cX11_adds 69 = .ok (.lconst 0, 1) := by decide +kernel
theorem dX11_adds_70 : decode cX11_adds 70 = .ok (.lastore, 1) := by decide +kernel
theorem dX11_adds_71 : decode cX11_adds 71 = .ok (.iinc 2 1, 3) := by decide +kernel
theorem dX11_adds_74 : decode cX11_adds 74 = .ok (.goto (-20), 3) := by decide +kernel
theorem dX11_adds_77 : decode cX11_adds 77 = .ok (.aload_n 0, 1) := by decide +kernel
theorem dX11_adds_78 : decode cX11_adds 78 = .ok (.bipush 6, 2) := by decide +kernel
theorem dX11_adds_80 : decode cX11_adds 80 = .ok (.dup2, 1) := by decide +kernel
theorem dX11_adds_81 : decode cX11_adds 81 = .ok (.laload, 1) := by decide +kernel
theorem dX11_adds_82 : decode cX11_adds 82 = .ok (.lconst 1, 1) := by decide +kernel
theorem dX11_adds_83 : decode cX11_adds 83 = .ok (.ladd, 1) := by decide +kernel
theorem dX11_adds_84 : decode cX11_adds 84 = .ok (.lastore, 1) := by decide +kernel
theorem dX11_adds_85 : decode cX11_adds 85 = .ok (.iload_n 1, 1) := by decide +kernel
theorem dX11_adds_86 : decode cX11_adds 86 = .ok (.ireturn, 1) := by decide +kernel
set_option maxRecDepth 20000 in
theorem ggX11_targets_X11_ups : GoodIn wsX11_targets wsX11_ups := goodIn_r _ [4, 5, 6, 3, 7] (by decide +kernel) (by decide +kernel)
set_option maxRecDepth 20000 in
theorem gX11_targets_X11_ups : GoodIn wsX11_targets (va_wsS RX11 97 yX11_ups wsX11_ups) := goodIn_app (goodIn_of _ (by decide +kernel)) ggX11_targets_X11_ups
set_option maxRecDepth 20000 in
theorem ggX11_targets_X11_best : GoodIn wsX11_targets wsX11_best := goodIn_r _ [10, 11, 12, 3, 13, 14, 15, 16, 17, 18, 19, 20, 21, 22, 23, 24, 25] (by decide +kernel) (by decide +kernel)
set_option maxRecDepth 20000 in
theorem gX11_targets_X11_best : GoodIn wsX11_targets (va_wsS RX11 101 yX11_best wsX11_best) := goodIn_app (goodIn_of _ (by decide +kernel)) ggX11_targets_X11_best
theorem dX11_targets_0 : decode cX11_targets 0 = .ok (.aload_n 0, 1) := by decide +kernel
theorem dX11_targets_1 : decode cX11_targets 1 = .ok (.invokestatic 97, 3) := by decide +kernel
theorem dX11_targets_4 : decode cX11_targets 4 = .ok (.istore_n 2, 1) := by decide +kernel
theorem dX11_targets_5 : decode cX11_targets 5 = .ok (.iconst 0, 1) := by decide +kernel
theorem dX11_targets_6 : decode cX11_targets 6 = .ok (.istore_n 3, 1) := by decide +kernel
theorem dX11_targets_7 : decode cX11_targets 7 = .ok (.iconst 0, 1) := by decide +kernel
theorem dX11_targets_8 : decode cX11_targets 8 = .ok (.istore 4, 2) := by decide +kernel
theorem dX11_targets_10 : decode cX11_targets 10 = .ok (.iload 4, 2) := by decide +kernel
theorem dX11_targets_12 : decode cX11_targets 12 = .ok (.iload_n 1, 1) := by decide +kernel
theorem dX11_targets_13 : decode cX11_targets 13 = .ok (.if_icmp .ge 36, 3) := by decide +kernel
theorem dX11_targets_16 : decode cX11_targets 16 = .ok (.iload_n 2, 1) := by decide +kernel
theorem dX11_targets_17 : decode cX11_targets 17 = .ok (.ifCond .eq 32, 3) := by decide +kernel
theorem dX11_targets_20 : decode cX11_targets 20 = .ok (.aload_n 0, 1) := by decide +kernel
theorem dX11_targets_21 : decode cX11_targets 21 = .ok (.iload_n 2, 1) := by decide +kernel
theorem dX11_targets_22 : decode cX11_targets 22 = .ok (.invokestatic 101, 3) := by decide +kernel
theorem dX11_targets_25 : decode cX11_targets 25 = .ok (.istore 5, 2) := by decide +kernel
theorem dX11_targets_27 : decode cX11_targets 27 = .ok (.iload_n 3, 1) := by decide +kernel
theorem dX11_targets_28 : decode cX11_targets 28 = .ok (.iconst 1, 1) := by decide +kernel
theorem dX11_targets_29 : decode cX11_targets 29 = .ok (.iload 5, 2) := by decide +kernel
theorem dX11_targets_31 : decode cX11_targets 31 = .ok (.ishl, 1) := by decide +kernel
theorem dX11_targets_32 : decode cX11_targets 32 = .ok (.ior, 1) := by decide +kernel
theorem dX11_targets_33 : decode cX11_targets 33 = .ok (.istore_n 3, 1) := by decide +kernel
theorem dX11_targets_34 : decode cX11_targets 34 = .ok (.iload_n 2, 1) := by decide +kernel
theorem dX11_targets_35 : decode cX11_targets 35 = .ok (.iconst 1, 1) := by decide +kernel
theorem dX11_targets_36 : decode cX11_targets 36 = .ok (.iload 5, 2) := by decide +kernel
theorem dX11_targets_38 : decode cX11_targets 38 = .ok (.ishl, 1) := by decide +kernel
theorem dX11_targets_39 : decode cX11_targets 39 = .ok (.iconst (-1), 1) := by decide +kernel
theorem dX11_targets_40 : decode cX11_targets 40 = .ok (.ixor, 1) := by decide +kernel
theorem dX11_targets_41 : decode cX11_targets 41 = .ok (.iand, 1) := by decide +kernel
theorem dX11_targets_42 : decode cX11_targets 42 = .ok (.istore_n 2, 1) := by decide +kernel
theorem dX11_targets_43 : decode cX11_targets 43 = .ok (.iinc 4 1, 3) := by decide +kernel
theorem dX11_targets_46 : decode cX11_targets 46 = .ok (.goto (-36), 3) := by decide +kernel
theorem dX11_targets_49 : decode cX11_targets 49 = .ok (.iload_n 3, 1) := by decide +kernel
theorem dX11_targets_50 : decode cX11_targets 50 = .ok (.ireturn, 1) := by decide +kernel
set_option maxRecDepth 20000 in
theorem ggX11_makes_X11_many : GoodIn wsX11_makes wsX11_many := goodIn_r _ [8] (by decide +kernel) (by decide +kernel)
set_option maxRecDepth 20000 in
theorem gX11_makes_X11_many : GoodIn wsX11_makes (va_wsS RX11 90 yX11_many wsX11_many) := goodIn_app (goodIn_of _ (by decide +kernel)) ggX11_makes_X11_many
set_option maxRecDepth 20000 in
theorem ggX11_makes_X11_ups : GoodIn wsX11_makes wsX11_ups := goodIn_r _ [11, 12, 13, 7, 14] (by decide +kernel) (by decide +kernel)
set_option maxRecDepth 20000 in
theorem gX11_makes_X11_ups : GoodIn wsX11_makes (va_wsS RX11 97 yX11_ups wsX11_ups) := goodIn_app (goodIn_of _ (by decide +kernel)) ggX11_makes_X11_ups
set_option maxRecDepth 20000 in
theorem ggX11_makes_X11_wanted : GoodIn wsX11_makes wsX11_wanted := goodIn_r _ [17, 18, 19] (by decide +kernel) (by decide +kernel)
set_option maxRecDepth 20000 in
theorem gX11_makes_X11_wanted : GoodIn wsX11_makes (va_wsS RX11 108 yX11_wanted wsX11_wanted) := goodIn_app (goodIn_of _ (by decide +kernel)) ggX11_makes_X11_wanted
set_option maxRecDepth 20000 in
theorem ggX11_makes_X11_targets : GoodIn wsX11_makes wsX11_targets := goodIn_r _ [22, 9, 10, 7, 11, 12, 13, 14, 23, 24, 25, 26, 27, 28, 29, 30, 31, 32, 33, 34, 35, 36, 37, 38, 39, 40] (by decide +kernel) (by decide +kernel)
set_option maxRecDepth 20000 in
theorem gX11_makes_X11_targets : GoodIn wsX11_makes (va_wsS RX11 112 yX11_targets wsX11_targets) := goodIn_app (goodIn_of _ (by decide +kernel)) ggX11_makes_X11_targets
set_option maxRecDepth 20000 in
theorem ggX11_makes_X11_adds : GoodIn wsX11_makes wsX11_adds := goodIn_r _ [43, 44] (by decide +kernel) (by decide +kernel)
set_option maxRecDepth 20000 in
theorem gX11_makes_X11_adds : GoodIn wsX11_makes (va_wsS RX11 115 yX11_adds wsX11_adds) := goodIn_app (goodIn_of _ (by decide +kernel)) ggX11_makes_X11_adds
set_option maxRecDepth 20000 in
theorem ggX11_makes_X11_has : GoodIn wsX11_makes wsX11_has := goodIn_r _ [31] (by decide +kernel) (by decide +kernel)
set_option maxRecDepth 20000 in
theorem gX11_makes_X11_has : GoodIn wsX11_makes (va_wsS RX11 33 yX11_has wsX11_has) := goodIn_app (goodIn_of _ (by decide +kernel)) ggX11_makes_X11_has
set_option maxRecDepth 20000 in
theorem ggX11_makes_X11_withVersion : GoodIn wsX11_makes wsX11_withVersion := goodIn_r _ [47, 48] (by decide +kernel) (by decide +kernel)
set_option maxRecDepth 20000 in
theorem gX11_makes_X11_withVersion : GoodIn wsX11_makes (va_wsS RX11 120 yX11_withVersion wsX11_withVersion) := goodIn_app (goodIn_of _ (by decide +kernel)) ggX11_makes_X11_withVersion
theorem dX11_makes_0 : decode cX11_makes 0 = .ok (.aload_n 0, 1) := by decide +kernel
theorem dX11_makes_1 : decode cX11_makes 1 = .ok (.bipush 6, 2) := by decide +kernel
theorem dX11_makes_3 : decode cX11_makes 3 = .ok (.laload, 1) := by decide +kernel
theorem dX11_makes_4 : decode cX11_makes 4 = .ok (.ldc2_w 104, 3) := by decide +kernel
theorem dX11_makes_7 : decode cX11_makes 7 = .ok (.lcmp, 1) := by decide +kernel
theorem dX11_makes_8 : decode cX11_makes 8 = .ok (.ifCond .eq 12, 3) := by decide +kernel
theorem dX11_makes_11 : decode cX11_makes 11 = .ok (.aload_n 0, 1) := by decide +kernel
theorem dX11_makes_12 : decode cX11_makes 12 = .ok (.iload_n 1, 1) := by decide +kernel
theorem dX11_makes_13 : decode cX11_makes 13 = .ok (.invokestatic 90, 3) := by decide +kernel
theorem dX11_makes_16 : decode cX11_makes 16 = .ok (.iconst 4, 1) := by decide +kernel
theorem dX11_makes_17 : decode cX11_makes 17 = .ok (.if_icmp .ne 6, 3) := by decide +kernel
theorem dX11_makes_20 : decode cX11_makes 20 = .ok (.ldc 106, 2) := by decide +kernel
theorem dX11_makes_22 : decode cX11_makes 22 = .ok (.ireturn, 1) := by decide +kernel
theorem dX11_makes_23 : decode cX11_makes 23 = .ok (.aload_n 0, 1) := by decide +kernel
theorem dX11_makes_24 : decode cX11_makes 24 = .ok (.invokestatic 97, 3) := by decide +kernel
theorem dX11_makes_27 : decode cX11_makes 27 = .ok (.ifCond .ne 6, 3) := by decide +kernel
theorem dX11_makes_30 : decode cX11_makes 30 = .ok (.ldc 107, 2) := by decide +kernel
theorem dX11_makes_32 : decode cX11_makes 32 = .ok (.ireturn, 1) := by decide +kernel
theorem dX11_makes_33 : decode cX11_makes 33 = .ok (.aload_n 0, 1) := by decide +kernel
theorem dX11_makes_34 : decode cX11_makes 34 = .ok (.aload_n 0, 1) := by decide +kernel
theorem dX11_makes_35 : decode cX11_makes 35 = .ok (.aload_n 0, 1) := by decide +kernel
theorem dX11_makes_36 : decode cX11_makes 36 = .ok (.bipush 22, 2) := by decide +kernel
theorem dX11_makes_38 : decode cX11_makes 38 = .ok (.bipush 8, 2) := by decide +kernel
theorem dX11_makes_40 : decode cX11_makes 40 = .ok (.iload_n 1, 1) := by decide +kernel
theorem dX11_makes_41 : decode cX11_makes 41 = .ok (.imul, 1) := by decide +kernel
theorem dX11_makes_42 : decode cX11_makes 42 = .ok (.iadd, 1) := by decide +kernel
theorem dX11_makes_43 : decode cX11_makes 43 = .ok (.iconst 1, 1) := by decide +kernel
theorem dX11_makes_44 : decode cX11_makes 44 = .ok (.iadd, 1) := by decide +kernel
theorem dX11_makes_45 : decode cX11_makes 45 = .ok (.laload, 1) := by decide +kernel
theorem dX11_makes_46 : decode cX11_makes 46 = .ok (.invokestatic 108, 3) := by decide +kernel
theorem dX11_makes_49 : decode cX11_makes 49 = .ok (.invokestatic 112, 3) := by decide +kernel
theorem dX11_makes_52 : decode cX11_makes 52 = .ok (.istore_n 2, 1) := by decide +kernel
theorem dX11_makes_53 : decode cX11_makes 53 = .ok (.aload_n 0, 1) := by decide +kernel
theorem dX11_makes_54 : decode cX11_makes 54 = .ok (.invokestatic 115, 3) := by decide +kernel
theorem dX11_makes_57 : decode cX11_makes 57 = .ok (.istore_n 3, 1) := by decide +kernel
theorem dX11_makes_58 : decode cX11_makes 58 = .ok (.iconst 0, 1) := by decide +kernel
theorem dX11_makes_59 : decode cX11_makes 59 = .ok (.istore 4, 2) := by decide +kernel
theorem dX11_makes_61 : decode cX11_makes 61 = .ok (.iload 4, 2) := by decide +kernel
theorem dX11_makes_63 : decode cX11_makes 63 = .ok (.iconst 5, 1) := by decide +kernel
theorem dX11_makes_64 : decode cX11_makes 64 = .ok (.if_icmp .ge 41, 3) := by decide +kernel
theorem dX11_makes_67 : decode cX11_makes 67 = .ok (.aload_n 0, 1) := by decide +kernel
theorem dX11_makes_68 : decode cX11_makes 68 = .ok (.sipush 190, 3) := by decide +kernel
theorem dX11_makes_71 : decode cX11_makes 71 = .ok (.iconst 5, 1) := by decide +kernel
theorem dX11_makes_72 : decode cX11_makes 72 = .ok (.iload_n 3, 1) := by decide +kernel
theorem dX11_makes_73 : decode cX11_makes 73 = .ok (.imul, 1) := by decide +kernel
theorem dX11_makes_74 : decode cX11_makes 74 = .ok (.iadd, 1) := by decide +kernel
theorem dX11_makes_75 : decode cX11_makes 75 = .ok (.iload 4, 2) := by decide +kernel
theorem dX11_makes_77 : decode cX11_makes 77 = .ok (.iadd, 1) := by decide +kernel
theorem dX11_makes_78 : decode cX11_makes 78 = .ok (.iload_n 2, 1) := by decide +kernel
theorem dX11_makes_79 : decode cX11_makes 79 = .ok (.iload 4, 2) := by decide +kernel
theorem dX11_makes_81 : decode cX11_makes 81 = .ok (.invokestatic 33, 3) := by decide +kernel
theorem dX11_makes_84 : decode cX11_makes 84 = .ok (.ifCond .eq 13, 3) := by decide +kernel
theorem dX11_makes_87 : decode cX11_makes 87 = .ok (.ldc2_w 118, 3) := by decide +kernel
theorem dX11_makes_90 : decode cX11_makes 90 = .ok (.lconst 1, 1) := by decide +kernel
theorem dX11_makes_91 : decode cX11_makes 91 = .ok (.invokestatic 120, 3) := by decide +kernel
theorem dX11_makes_94 : decode cX11_makes 94 = .ok (.goto 4, 3) := by decide +kernel
theorem dX11_makes_97 : decode cX11_makes 97 = .ok (.lconst 0, 1) := by decide +kernel
theorem dX11_makes_98 : decode cX11_makes 98 = .ok (.lastore, 1) := by decide +kernel
theorem dX11_makes_99 : decode cX11_makes 99 = .ok (.iinc 4 1, 3) := by decide +kernel
theorem dX11_makes_102 : decode cX11_makes 102 = .ok (.goto (-41), 3) := by decide +kernel
theorem dX11_makes_105 : decode cX11_makes 105 = .ok (.aload_n 0, 1) := by decide +kernel
theorem dX11_makes_106 : decode cX11_makes 106 = .ok (.bipush 22, 2) := by decide +kernel
theorem dX11_makes_108 : decode cX11_makes 108 = .ok (.bipush 8, 2) := by decide +kernel
theorem dX11_makes_110 : decode cX11_makes 110 = .ok (.iload_n 1, 1) := by decide +kernel
theorem dX11_makes_111 : decode cX11_makes 111 = .ok (.imul, 1) := by decide +kernel
theorem dX11_makes_112 : decode cX11_makes 112 = .ok (.iadd, 1) := by decide +kernel
theorem dX11_makes_113 : decode cX11_makes 113 = .ok (.iconst 4, 1) := by decide +kernel
theorem dX11_makes_114 : decode cX11_makes 114 = .ok (.iadd, 1) := by decide +kernel
theorem dX11_makes_115 : decode cX11_makes 115 = .ok (.aload_n 0, 1) := by decide +kernel
theorem dX11_makes_116 : decode cX11_makes 116 = .ok (.iload_n 1, 1) := by decide +kernel
theorem dX11_makes_117 : decode cX11_makes 117 = .ok (.invokestatic 90, 3) := by decide +kernel
theorem dX11_makes_120 : decode cX11_makes 120 = .ok (.iadd, 1) := by decide +kernel
theorem dX11_makes_121 : decode cX11_makes 121 = .ok (.iload_n 3, 1) := by decide +kernel
theorem dX11_makes_122 : decode cX11_makes 122 = .ok (.i2l, 1) := by decide +kernel
theorem dX11_makes_123 : decode cX11_makes 123 = .ok (.lastore, 1) := by decide +kernel
theorem dX11_makes_124 : decode cX11_makes 124 = .ok (.aload_n 0, 1) := by decide +kernel
theorem dX11_makes_125 : decode cX11_makes 125 = .ok (.bipush 22, 2) := by decide +kernel
theorem dX11_makes_127 : decode cX11_makes 127 = .ok (.bipush 8, 2) := by decide +kernel
theorem dX11_makes_129 : decode cX11_makes 129 = .ok (.iload_n 1, 1) := by decide +kernel
theorem dX11_makes_130 : decode cX11_makes 130 = .ok (.imul, 1) := by decide +kernel
theorem dX11_makes_131 : decode cX11_makes 131 = .ok (.iadd, 1) := by decide +kernel
theorem dX11_makes_132 : decode cX11_makes 132 = .ok (.iconst 2, 1) := by decide +kernel
theorem dX11_makes_133 : decode cX11_makes 133 = .ok (.iadd, 1) := by decide +kernel
theorem dX11_makes_134 : decode cX11_makes 134 = .ok (.dup2, 1) := by decide +kernel
theorem dX11_makes_135 : decode cX11_makes 135 = .ok (.laload, 1) := by decide +kernel
theorem dX11_makes_136 : decode cX11_makes 136 = .ok (.lconst 1, 1) := by decide +kernel
theorem dX11_makes_137 : decode cX11_makes 137 = .ok (.ladd, 1) := by decide +kernel
theorem dX11_makes_138 : decode cX11_makes 138 = .ok (.lastore, 1) := by decide +kernel
theorem dX11_makes_139 : decode cX11_makes 139 = .ok (.iconst 0, 1) := by decide +kernel
theorem dX11_makes_140 : decode cX11_makes 140 = .ok (.ireturn, 1) := by decide +kernel
set_option maxRecDepth 20000 in
theorem ggX11_owns_X11_chunkOf : GoodIn wsX11_owns wsX11_chunkOf := goodIn_r _ [7] (by decide +kernel) (by decide +kernel)
set_option maxRecDepth 20000 in
theorem gX11_owns_X11_chunkOf : GoodIn wsX11_owns (va_wsS RX11 93 yX11_chunkOf wsX11_chunkOf) := goodIn_app (goodIn_of _ (by decide +kernel)) ggX11_owns_X11_chunkOf
set_option maxRecDepth 20000 in
theorem ggX11_owns_X11_ables : GoodIn wsX11_owns wsX11_ables := goodIn_r _ [10, 11, 12, 6, 13, 14, 15, 16, 17, 18, 19, 20, 21, 22, 23, 24, 25, 26] (by decide +kernel) (by decide +kernel)
set_option maxRecDepth 20000 in
theorem gX11_owns_X11_ables : GoodIn wsX11_owns (va_wsS RX11 124 yX11_ables wsX11_ables) := goodIn_app (goodIn_of _ (by decide +kernel)) ggX11_owns_X11_ables
set_option maxRecDepth 20000 in
theorem ggX11_owns_X11_adds : GoodIn wsX11_owns wsX11_adds := goodIn_r _ [29, 30] (by decide +kernel) (by decide +kernel)
set_option maxRecDepth 20000 in
theorem gX11_owns_X11_adds : GoodIn wsX11_owns (va_wsS RX11 115 yX11_adds wsX11_adds) := goodIn_app (goodIn_of _ (by decide +kernel)) ggX11_owns_X11_adds
set_option maxRecDepth 20000 in
theorem ggX11_owns_X11_has : GoodIn wsX11_owns wsX11_has := goodIn_r _ [33] (by decide +kernel) (by decide +kernel)
set_option maxRecDepth 20000 in
theorem gX11_owns_X11_has : GoodIn wsX11_owns (va_wsS RX11 33 yX11_has wsX11_has) := goodIn_app (goodIn_of _ (by decide +kernel)) ggX11_owns_X11_has
set_option maxRecDepth 20000 in
theorem ggX11_owns_X11_copy : GoodIn wsX11_owns wsX11_copy := goodIn_r _ [22] (by decide +kernel) (by decide +kernel)
set_option maxRecDepth 20000 in
theorem gX11_owns_X11_copy : GoodIn wsX11_owns (va_wsS RX11 53 yX11_copy wsX11_copy) := goodIn_app (goodIn_of _ (by decide +kernel)) ggX11_owns_X11_copy
set_option maxRecDepth 20000 in
theorem ggX11_owns_X11_withVersion : GoodIn wsX11_owns wsX11_withVersion := goodIn_r _ [36, 37] (by decide +kernel) (by decide +kernel)
set_option maxRecDepth 20000 in
theorem gX11_owns_X11_withVersion : GoodIn wsX11_owns (va_wsS RX11 120 yX11_withVersion wsX11_withVersion) := goodIn_app (goodIn_of _ (by decide +kernel)) ggX11_owns_X11_withVersion
theorem dX11_owns_0 : decode cX11_owns 0 = .ok (.aload_n 0, 1) := by decide +kernel
theorem dX11_owns_1 : decode cX11_owns 1 = .ok (.iload_n 1, 1) := by decide +kernel
theorem dX11_owns_2 : decode cX11_owns 2 = .ok (.iload_n 2, 1) := by decide +kernel
theorem dX11_owns_3 : decode cX11_owns 3 = .ok (.invokestatic 93, 3) := by decide +kernel
theorem dX11_owns_6 : decode cX11_owns 6 = .ok (.istore_n 3, 1) := by decide +kernel
theorem dX11_owns_7 : decode cX11_owns 7 = .ok (.aload_n 0, 1) := by decide +kernel
theorem dX11_owns_8 : decode cX11_owns 8 = .ok (.bipush 70, 2) := by decide +kernel
theorem dX11_owns_10 : decode cX11_owns 10 = .ok (.iconst 4, 1) := by decide +kernel
theorem dX11_owns_11 : decode cX11_owns 11 = .ok (.iload_n 3, 1) := by decide +kernel
theorem dX11_owns_12 : decode cX11_owns 12 = .ok (.imul, 1) := by decide +kernel
theorem dX11_owns_13 : decode cX11_owns 13 = .ok (.iadd, 1) := by decide +kernel
theorem dX11_owns_14 : decode cX11_owns 14 = .ok (.iconst 1, 1) := by decide +kernel
theorem dX11_owns_15 : decode cX11_owns 15 = .ok (.iadd, 1) := by decide +kernel
theorem dX11_owns_16 : decode cX11_owns 16 = .ok (.laload, 1) := by decide +kernel
theorem dX11_owns_17 : decode cX11_owns 17 = .ok (.lconst 1, 1) := by decide +kernel
theorem dX11_owns_18 : decode cX11_owns 18 = .ok (.lcmp, 1) := by decide +kernel
theorem dX11_owns_19 : decode cX11_owns 19 = .ok (.ifCond .ne 5, 3) := by decide +kernel
theorem dX11_owns_22 : decode cX11_owns 22 = .ok (.iconst 0, 1) := by decide +kernel
theorem dX11_owns_23 : decode cX11_owns 23 = .ok (.ireturn, 1) := by decide +kernel
theorem dX11_owns_24 : decode cX11_owns 24 = .ok (.aload_n 0, 1) := by decide +kernel
theorem dX11_owns_25 : decode cX11_owns 25 = .ok (.bipush 6, 2) := by decide +kernel
theorem dX11_owns_27 : decode cX11_owns 27 = .ok (.laload, 1) := by decide +kernel
theorem dX11_owns_28 : decode cX11_owns 28 = .ok (.ldc2_w 104, 3) := by decide +kernel
theorem dX11_owns_31 : decode cX11_owns 31 = .ok (.lcmp, 1) := by decide +kernel
theorem dX11_owns_32 : decode cX11_owns 32 = .ok (.ifCond .ne 6, 3) := by decide +kernel
theorem dX11_owns_35 : decode cX11_owns 35 = .ok (.ldc 106, 2) := by decide +kernel
theorem dX11_owns_37 : decode cX11_owns 37 = .ok (.ireturn, 1) := by decide +kernel
theorem dX11_owns_38 : decode cX11_owns 38 = .ok (.aload_n 0, 1) := by decide +kernel
theorem dX11_owns_39 : decode cX11_owns 39 = .ok (.iload_n 3, 1) := by decide +kernel
theorem dX11_owns_40 : decode cX11_owns 40 = .ok (.invokestatic 124, 3) := by decide +kernel
theorem dX11_owns_43 : decode cX11_owns 43 = .ok (.istore 4, 2) := by decide +kernel
theorem dX11_owns_45 : decode cX11_owns 45 = .ok (.iload 4, 2) := by decide +kernel
theorem dX11_owns_47 : decode cX11_owns 47 = .ok (.ifCond .ne 6, 3) := by decide +kernel
theorem dX11_owns_50 : decode cX11_owns 50 = .ok (.ldc 107, 2) := by decide +kernel
theorem dX11_owns_52 : decode cX11_owns 52 = .ok (.ireturn, 1) := by decide +kernel
theorem dX11_owns_53 : decode cX11_owns 53 = .ok (.aload_n 0, 1) := by decide +kernel
theorem dX11_owns_54 : decode cX11_owns 54 = .ok (.invokestatic 115, 3) := by decide +kernel
theorem dX11_owns_57 : decode cX11_owns 57 = .ok (.istore 5, 2) := by decide +kernel
theorem dX11_owns_59 : decode cX11_owns 59 = .ok (.iconst 0, 1) := by decide +kernel
theorem dX11_owns_60 : decode cX11_owns 60 = .ok (.istore 6, 2) := by decide +kernel
theorem dX11_owns_62 : decode cX11_owns 62 = .ok (.iload 6, 2) := by decide +kernel
theorem dX11_owns_64 : decode cX11_owns 64 = .ok (.iconst 5, 1) := by decide +kernel
theorem dX11_owns_65 : decode cX11_owns 65 = .ok (.if_icmp .ge 47, 3) := by decide +kernel
theorem dX11_owns_68 : decode cX11_owns 68 = .ok (.aload_n 0, 1) := by decide +kernel
theorem dX11_owns_69 : decode cX11_owns 69 = .ok (.sipush 190, 3) := by decide +kernel
theorem dX11_owns_72 : decode cX11_owns 72 = .ok (.iconst 5, 1) := by decide +kernel
theorem dX11_owns_73 : decode cX11_owns 73 = .ok (.iload 5, 2) := by decide +kernel
theorem dX11_owns_75 : decode cX11_owns 75 = .ok (.imul, 1) := by decide +kernel
theorem dX11_owns_76 : decode cX11_owns 76 = .ok (.iadd, 1) := by decide +kernel
theorem dX11_owns_77 : decode cX11_owns 77 = .ok (.iload 6, 2) := by decide +kernel
theorem dX11_owns_79 : decode cX11_owns 79 = .ok (.iadd, 1) := by decide +kernel
theorem dX11_owns_80 : decode cX11_owns 80 = .ok (.iload 4, 2) := by decide +kernel
theorem dX11_owns_82 : decode cX11_owns 82 = .ok (.iload 6, 2) := by decide +kernel
theorem dX11_owns_84 : decode cX11_owns 84 = .ok (.invokestatic 33, 3) := by decide +kernel
theorem dX11_owns_87 : decode cX11_owns 87 = .ok (.ifCond .eq 17, 3) := by decide +kernel
theorem dX11_owns_90 : decode cX11_owns 90 = .ok (.aload_n 0, 1) := by decide +kernel
theorem dX11_owns_91 : decode cX11_owns 91 = .ok (.iload_n 3, 1) := by decide +kernel
theorem dX11_owns_92 : decode cX11_owns 92 = .ok (.iload 6, 2) := by decide +kernel
theorem dX11_owns_94 : decode cX11_owns 94 = .ok (.invokestatic 53, 3) := by decide +kernel
theorem dX11_owns_97 : decode cX11_owns 97 = .ok (.lconst 1, 1) := by decide +kernel
theorem dX11_owns_98 : decode cX11_owns 98 = .ok (.invokestatic 120, 3) := by decide +kernel
theorem dX11_owns_101 : decode cX11_owns 101 = .ok (.goto 4, 3) := by decide +kernel
theorem dX11_owns_104 : decode cX11_owns 104 = .ok (.lconst 0, 1) := by decide +kernel
theorem dX11_owns_105 : decode cX11_owns 105 = .ok (.lastore, 1) := by decide +kernel
theorem dX11_owns_106 : decode cX11_owns 106 = .ok (.iinc 6 1, 3) := by decide +kernel
theorem dX11_owns_109 : decode cX11_owns 109 = .ok (.goto (-47), 3) := by decide +kernel
theorem dX11_owns_112 : decode cX11_owns 112 = .ok (.aload_n 0, 1) := by decide +kernel
theorem dX11_owns_113 : decode cX11_owns 113 = .ok (.bipush 70, 2) := by decide +kernel
theorem dX11_owns_115 : decode cX11_owns 115 = .ok (.iconst 4, 1) := by decide +kernel
theorem dX11_owns_116 : decode cX11_owns 116 = .ok (.iload_n 3, 1) := by decide +kernel
theorem dX11_owns_117 : decode cX11_owns 117 = .ok (.imul, 1) := by decide +kernel
theorem dX11_owns_118 : decode cX11_owns 118 = .ok (.iadd, 1) := by decide +kernel
theorem dX11_owns_119 : decode cX11_owns 119 = .ok (.iconst 1, 1) := by decide +kernel
theorem dX11_owns_120 : decode cX11_owns 120 = .ok (.iadd, 1) := by decide +kernel
theorem dX11_owns_121 : decode cX11_owns 121 = .ok (.dup2, 1) := by decide +kernel
theorem dX11_owns_122 : decode cX11_owns 122 = .ok (.laload, 1) := by decide +kernel
theorem dX11_owns_123 : decode cX11_owns 123 = .ok (.lconst 1, 1) := by decide +kernel
theorem dX11_owns_124 : decode cX11_owns 124 = .ok (.lsub, 1) := by decide +kernel
theorem dX11_owns_125 : decode cX11_owns 125 = .ok (.lastore, 1) := by decide +kernel
theorem dX11_owns_126 : decode cX11_owns 126 = .ok (.aload_n 0, 1) := by decide +kernel
theorem dX11_owns_127 : decode cX11_owns 127 = .ok (.bipush 22, 2) := by decide +kernel
theorem dX11_owns_129 : decode cX11_owns 129 = .ok (.bipush 8, 2) := by decide +kernel
theorem dX11_owns_131 : decode cX11_owns 131 = .ok (.iload_n 1, 1) := by decide +kernel
theorem dX11_owns_132 : decode cX11_owns 132 = .ok (.imul, 1) := by decide +kernel
theorem dX11_owns_133 : decode cX11_owns 133 = .ok (.iadd, 1) := by decide +kernel
theorem dX11_owns_134 : decode cX11_owns 134 = .ok (.iconst 4, 1) := by decide +kernel
theorem dX11_owns_135 : decode cX11_owns 135 = .ok (.iadd, 1) := by decide +kernel
theorem dX11_owns_136 : decode cX11_owns 136 = .ok (.iload_n 2, 1) := by decide +kernel
theorem dX11_owns_137 : decode cX11_owns 137 = .ok (.iadd, 1) := by decide +kernel
theorem dX11_owns_138 : decode cX11_owns 138 = .ok (.iload 5, 2) := by decide +kernel
theorem dX11_owns_140 : decode cX11_owns 140 = .ok (.i2l, 1) := by decide +kernel
theorem dX11_owns_141 : decode cX11_owns 141 = .ok (.lastore, 1) := by decide +kernel
theorem dX11_owns_142 : decode cX11_owns 142 = .ok (.iconst 0, 1) := by decide +kernel
theorem dX11_owns_143 : decode cX11_owns 143 = .ok (.ireturn, 1) := by decide +kernel
set_option maxRecDepth 20000 in
theorem ggX11_holds_X11_isAble : GoodIn wsX11_holds wsX11_isAble := goodIn_r _ [4, 5, 6, 3, 7, 8, 9, 10, 11, 12, 13, 14, 15, 16, 17] (by decide +kernel) (by decide +kernel)
set_option maxRecDepth 20000 in
theorem gX11_holds_X11_isAble : GoodIn wsX11_holds (va_wsS RX11 69 yX11_isAble wsX11_isAble) := goodIn_app (goodIn_of _ (by decide +kernel)) ggX11_holds_X11_isAble
theorem dX11_holds_0 : decode cX11_holds 0 = .ok (.aload_n 0, 1) := by decide +kernel
theorem dX11_holds_1 : decode cX11_holds 1 = .ok (.bipush 70, 2) := by decide +kernel
theorem dX11_holds_3 : decode cX11_holds 3 = .ok (.iconst 4, 1) := by decide +kernel
theorem dX11_holds_4 : decode cX11_holds 4 = .ok (.iload_n 1, 1) := by decide +kernel
theorem dX11_holds_5 : decode cX11_holds 5 = .ok (.imul, 1) := by decide +kernel
theorem dX11_holds_6 : decode cX11_holds 6 = .ok (.iadd, 1) := by decide +kernel
theorem dX11_holds_7 : decode cX11_holds 7 = .ok (.iconst 2, 1) := by decide +kernel
theorem dX11_holds_8 : decode cX11_holds 8 = .ok (.iadd, 1) := by decide +kernel
theorem dX11_holds_9 : decode cX11_holds 9 = .ok (.laload, 1) := by decide +kernel
theorem dX11_holds_10 : decode cX11_holds 10 = .ok (.l2i, 1) := by decide +kernel
theorem dX11_holds_11 : decode cX11_holds 11 = .ok (.istore_n 2, 1) := by decide +kernel
theorem dX11_holds_12 : decode cX11_holds 12 = .ok (.iload_n 2, 1) := by decide +kernel
theorem dX11_holds_13 : decode cX11_holds 13 = .ok (.ifCond .lt 33, 3) := by decide +kernel
theorem dX11_holds_16 : decode cX11_holds 16 = .ok (.aload_n 0, 1) := by decide +kernel
theorem dX11_holds_17 : decode cX11_holds 17 = .ok (.iconst 5, 1) := by decide +kernel
theorem dX11_holds_18 : decode cX11_holds 18 = .ok (.laload, 1) := by decide +kernel
theorem dX11_holds_19 : decode cX11_holds 19 = .ok (.aload_n 0, 1) := by decide +kernel
theorem dX11_holds_20 : decode cX11_holds 20 = .ok (.bipush 70, 2) := by decide +kernel
theorem dX11_holds_22 : decode cX11_holds 22 = .ok (.iconst 4, 1) := by decide +kernel
theorem dX11_holds_23 : decode cX11_holds 23 = .ok (.iload_n 1, 1) := by decide +kernel
theorem dX11_holds_24 : decode cX11_holds 24 = .ok (.imul, 1) := by decide +kernel
theorem dX11_holds_25 : decode cX11_holds 25 = .ok (.iadd, 1) := by decide +kernel
theorem dX11_holds_26 : decode cX11_holds 26 = .ok (.iconst 3, 1) := by decide +kernel
theorem dX11_holds_27 : decode cX11_holds 27 = .ok (.iadd, 1) := by decide +kernel
theorem dX11_holds_28 : decode cX11_holds 28 = .ok (.laload, 1) := by decide +kernel
theorem dX11_holds_29 : decode cX11_holds 29 = .ok (.lcmp, 1) := by decide +kernel
theorem dX11_holds_30 : decode cX11_holds 30 = .ok (.ifCond .ge 16, 3) := by decide +kernel
theorem dX11_holds_33 : decode cX11_holds 33 = .ok (.aload_n 0, 1) := by decide +kernel
theorem dX11_holds_34 : decode cX11_holds 34 = .ok (.iload_n 1, 1) := by decide +kernel
theorem dX11_holds_35 : decode cX11_holds 35 = .ok (.iload_n 2, 1) := by decide +kernel
theorem dX11_holds_36 : decode cX11_holds 36 = .ok (.invokestatic 69, 3) := by decide +kernel
theorem dX11_holds_39 : decode cX11_holds 39 = .ok (.ifCond .eq 7, 3) := by decide +kernel
theorem dX11_holds_42 : decode cX11_holds 42 = .ok (.iconst 1, 1) := by decide +kernel
theorem dX11_holds_43 : decode cX11_holds 43 = .ok (.goto 4, 3) := by decide +kernel
theorem dX11_holds_46 : decode cX11_holds 46 = .ok (.iconst 0, 1) := by decide +kernel
theorem dX11_holds_47 : decode cX11_holds 47 = .ok (.ireturn, 1) := by decide +kernel
set_option maxRecDepth 20000 in
theorem ggX11_leases_X11_ables : GoodIn wsX11_leases wsX11_ables := goodIn_r _ [5, 6, 7, 4, 8, 9, 10, 11, 12, 13, 14, 15, 16, 17, 18, 19, 20, 21] (by decide +kernel) (by decide +kernel)
set_option maxRecDepth 20000 in
theorem gX11_leases_X11_ables : GoodIn wsX11_leases (va_wsS RX11 124 yX11_ables wsX11_ables) := goodIn_app (goodIn_of _ (by decide +kernel)) ggX11_leases_X11_ables
set_option maxRecDepth 20000 in
theorem ggX11_leases_X11_has : GoodIn wsX11_leases wsX11_has := goodIn_r _ [24] (by decide +kernel) (by decide +kernel)
set_option maxRecDepth 20000 in
theorem gX11_leases_X11_has : GoodIn wsX11_leases (va_wsS RX11 33 yX11_has wsX11_has) := goodIn_app (goodIn_of _ (by decide +kernel)) ggX11_leases_X11_has
set_option maxRecDepth 20000 in
theorem ggX11_leases_X11_copy : GoodIn wsX11_leases wsX11_copy := goodIn_r _ [17] (by decide +kernel) (by decide +kernel)
set_option maxRecDepth 20000 in
theorem gX11_leases_X11_copy : GoodIn wsX11_leases (va_wsS RX11 53 yX11_copy wsX11_copy) := goodIn_app (goodIn_of _ (by decide +kernel)) ggX11_leases_X11_copy
set_option maxRecDepth 20000 in
theorem ggX11_leases_X11_withVersion : GoodIn wsX11_leases wsX11_withVersion := goodIn_r _ [27, 28] (by decide +kernel) (by decide +kernel)
set_option maxRecDepth 20000 in
theorem gX11_leases_X11_withVersion : GoodIn wsX11_leases (va_wsS RX11 120 yX11_withVersion wsX11_withVersion) := goodIn_app (goodIn_of _ (by decide +kernel)) ggX11_leases_X11_withVersion
set_option maxRecDepth 20000 in
theorem ggX11_leases_X11_best : GoodIn wsX11_leases wsX11_best := goodIn_r _ [31, 32, 33, 4, 34, 22, 23, 24, 35, 36, 37, 38, 39, 40, 15, 16, 17] (by decide +kernel) (by decide +kernel)
set_option maxRecDepth 20000 in
theorem gX11_leases_X11_best : GoodIn wsX11_leases (va_wsS RX11 101 yX11_best wsX11_best) := goodIn_app (goodIn_of _ (by decide +kernel)) ggX11_leases_X11_best
theorem dX11_leases_0 : decode cX11_leases 0 = .ok (.aload_n 0, 1) := by decide +kernel
theorem dX11_leases_1 : decode cX11_leases 1 = .ok (.iload_n 1, 1) := by decide +kernel
theorem dX11_leases_2 : decode cX11_leases 2 = .ok (.invokestatic 124, 3) := by decide +kernel
theorem dX11_leases_5 : decode cX11_leases 5 = .ok (.istore_n 2, 1) := by decide +kernel
theorem dX11_leases_6 : decode cX11_leases 6 = .ok (.iload_n 2, 1) := by decide +kernel
theorem dX11_leases_7 : decode cX11_leases 7 = .ok (.ifCond .ne 6, 3) := by decide +kernel
theorem dX11_leases_10 : decode cX11_leases 10 = .ok (.ldc 107, 2) := by decide +kernel
theorem dX11_leases_12 : decode cX11_leases 12 = .ok (.ireturn, 1) := by decide +kernel
theorem dX11_leases_13 : decode cX11_leases 13 = .ok (.aload_n 0, 1) := by decide +kernel
theorem dX11_leases_14 : decode cX11_leases 14 = .ok (.bipush 70, 2) := by decide +kernel
theorem dX11_leases_16 : decode cX11_leases 16 = .ok (.iconst 4, 1) := by decide +kernel
theorem dX11_leases_17 : decode cX11_leases 17 = .ok (.iload_n 1, 1) := by decide +kernel
theorem dX11_leases_18 : decode cX11_leases 18 = .ok (.imul, 1) := by decide +kernel
theorem dX11_leases_19 : decode cX11_leases 19 = .ok (.iadd, 1) := by decide +kernel
theorem dX11_leases_20 : decode cX11_leases 20 = .ok (.iconst 0, 1) := by decide +kernel
theorem dX11_leases_21 : decode cX11_leases 21 = .ok (.iadd, 1) := by decide +kernel
theorem dX11_leases_22 : decode cX11_leases 22 = .ok (.dup2, 1) := by decide +kernel
theorem dX11_leases_23 : decode cX11_leases 23 = .ok (.laload, 1) := by decide +kernel
theorem dX11_leases_24 : decode cX11_leases 24 = .ok (.lconst 1, 1) := by decide +kernel
theorem dX11_leases_25 : decode cX11_leases 25 = .ok (.ladd, 1) := by decide +kernel
theorem dX11_leases_26 : decode cX11_leases 26 = .ok (.lastore, 1) := by decide +kernel
theorem dX11_leases_27 : decode cX11_leases 27 = .ok (.iconst 0, 1) := by decide +kernel
theorem dX11_leases_28 : decode cX11_leases 28 = .ok (.istore_n 3, 1) := by decide +kernel
theorem dX11_leases_29 : decode cX11_leases 29 = .ok (.iload_n 3, 1) := by decide +kernel
theorem dX11_leases_30 : decode cX11_leases 30 = .ok (.iconst 5, 1) := by decide +kernel
theorem dX11_leases_31 : decode cX11_leases 31 = .ok (.if_icmp .ge 47, 3) := by decide +kernel
theorem dX11_leases_34 : decode cX11_leases 34 = .ok (.iload_n 2, 1) := by decide +kernel
theorem dX11_leases_35 : decode cX11_leases 35 = .ok (.iload_n 3, 1) := by decide +kernel
theorem dX11_leases_36 : decode cX11_leases 36 = .ok (.invokestatic 33, 3) := by decide +kernel
theorem dX11_leases_39 : decode cX11_leases 39 = .ok (.ifCond .eq 33, 3) := by decide +kernel
theorem dX11_leases_42 : decode cX11_leases 42 = .ok (.aload_n 0, 1) := by decide +kernel
theorem dX11_leases_43 : decode cX11_leases 43 = .ok (.sipush 190, 3) := by decide +kernel
theorem dX11_leases_46 : decode cX11_leases 46 = .ok (.iconst 5, 1) := by decide +kernel
theorem dX11_leases_47 : decode cX11_leases 47 = .ok (.iload_n 1, 1) := by decide +kernel
theorem dX11_leases_48 : decode cX11_leases 48 = .ok (.imul, 1) := by decide +kernel
theorem dX11_leases_49 : decode cX11_leases 49 = .ok (.iadd, 1) := by decide +kernel
theorem dX11_leases_50 : decode cX11_leases 50 = .ok (.iload_n 3, 1) := by decide +kernel
theorem dX11_leases_51 : decode cX11_leases 51 = .ok (.iadd, 1) := by decide +kernel
theorem dX11_leases_52 : decode cX11_leases 52 = .ok (.aload_n 0, 1) := by decide +kernel
theorem dX11_leases_53 : decode cX11_leases 53 = .ok (.iload_n 1, 1) := by decide +kernel
theorem dX11_leases_54 : decode cX11_leases 54 = .ok (.iload_n 3, 1) := by decide +kernel
theorem dX11_leases_55 : decode cX11_leases 55 = .ok (.invokestatic 53, 3) := by decide +kernel
theorem dX11_leases_58 : decode cX11_leases 58 = .ok (.aload_n 0, 1) := by decide +kernel
theorem dX11_leases_59 : decode cX11_leases 59 = .ok (.bipush 70, 2) := by decide +kernel
theorem dX11_leases_61 : decode cX11_leases 61 = .ok (.iconst 4, 1) := by decide +kernel
theorem dX11_leases_62 : decode cX11_leases 62 = .ok (.iload_n 1, 1) := by decide +kernel
theorem dX11_leases_63 : decode cX11_leases 63 = .ok (.imul, 1) := by decide +kernel
theorem dX11_leases_64 : decode cX11_leases 64 = .ok (.iadd, 1) := by decide +kernel
theorem dX11_leases_65 : decode cX11_leases 65 = .ok (.iconst 0, 1) := by decide +kernel
theorem dX11_leases_66 : decode cX11_leases 66 = .ok (.iadd, 1) := by decide +kernel
theorem dX11_leases_67 : decode cX11_leases 67 = .ok (.laload, 1) := by decide +kernel
theorem dX11_leases_68 : decode cX11_leases 68 = .ok (.invokestatic 120, 3) := by decide +kernel
theorem dX11_leases_71 : decode cX11_leases 71 = .ok (.lastore, 1) := by decide +kernel
theorem dX11_leases_72 : decode cX11_leases 72 = .ok (.iinc 3 1, 3) := by decide +kernel
theorem dX11_leases_75 : decode cX11_leases 75 = .ok (.goto (-46), 3) := by decide +kernel
theorem dX11_leases_78 : decode cX11_leases 78 = .ok (.aload_n 0, 1) := by decide +kernel
theorem dX11_leases_79 : decode cX11_leases 79 = .ok (.bipush 70, 2) := by decide +kernel
theorem dX11_leases_81 : decode cX11_leases 81 = .ok (.iconst 4, 1) := by decide +kernel
theorem dX11_leases_82 : decode cX11_leases 82 = .ok (.iload_n 1, 1) := by decide +kernel
theorem dX11_leases_83 : decode cX11_leases 83 = .ok (.imul, 1) := by decide +kernel
theorem dX11_leases_84 : decode cX11_leases 84 = .ok (.iadd, 1) := by decide +kernel
theorem dX11_leases_85 : decode cX11_leases 85 = .ok (.iconst 2, 1) := by decide +kernel
theorem dX11_leases_86 : decode cX11_leases 86 = .ok (.iadd, 1) := by decide +kernel
theorem dX11_leases_87 : decode cX11_leases 87 = .ok (.aload_n 0, 1) := by decide +kernel
theorem dX11_leases_88 : decode cX11_leases 88 = .ok (.iload_n 2, 1) := by decide +kernel
theorem dX11_leases_89 : decode cX11_leases 89 = .ok (.invokestatic 101, 3) := by decide +kernel
theorem dX11_leases_92 : decode cX11_leases 92 = .ok (.i2l, 1) := by decide +kernel
theorem dX11_leases_93 : decode cX11_leases 93 = .ok (.lastore, 1) := by decide +kernel
theorem dX11_leases_94 : decode cX11_leases 94 = .ok (.aload_n 0, 1) := by decide +kernel
theorem dX11_leases_95 : decode cX11_leases 95 = .ok (.bipush 70, 2) := by decide +kernel
theorem dX11_leases_97 : decode cX11_leases 97 = .ok (.iconst 4, 1) := by decide +kernel
theorem dX11_leases_98 : decode cX11_leases 98 = .ok (.iload_n 1, 1) := by decide +kernel
theorem dX11_leases_99 : decode cX11_leases 99 = .ok (.imul, 1) := by decide +kernel
theorem dX11_leases_100 : decode cX11_leases 100 = .ok (.iadd, 1) := by decide +kernel
theorem dX11_leases_101 : decode cX11_leases 101 = .ok (.iconst 3, 1) := by decide +kernel
theorem dX11_leases_102 : decode cX11_leases 102 = .ok (.iadd, 1) := by decide +kernel
theorem dX11_leases_103 : decode cX11_leases 103 = .ok (.aload_n 0, 1) := by decide +kernel
theorem dX11_leases_104 : decode cX11_leases 104 = .ok (.iconst 5, 1) := by decide +kernel
theorem dX11_leases_105 : decode cX11_leases 105 = .ok (.laload, 1) := by decide +kernel
theorem dX11_leases_106 : decode cX11_leases 106 = .ok (.aload_n 0, 1) := by decide +kernel
theorem dX11_leases_107 : decode cX11_leases 107 = .ok (.iconst 3, 1) := by decide +kernel
theorem dX11_leases_108 : decode cX11_leases 108 = .ok (.laload, 1) := by decide +kernel
theorem dX11_leases_109 : decode cX11_leases 109 = .ok (.ladd, 1) := by decide +kernel
theorem dX11_leases_110 : decode cX11_leases 110 = .ok (.lastore, 1) := by decide +kernel
theorem dX11_leases_111 : decode cX11_leases 111 = .ok (.iconst 0, 1) := by decide +kernel
theorem dX11_leases_112 : decode cX11_leases 112 = .ok (.ireturn, 1) := by decide +kernel
set_option maxRecDepth 20000 in
theorem ggX11_greatestFilled_X11_isAble : GoodIn wsX11_greatestFilled wsX11_isAble := goodIn_r _ [4, 5, 6, 3, 7, 8, 9, 10, 11, 12, 13, 14, 15, 16, 17] (by decide +kernel) (by decide +kernel)
set_option maxRecDepth 20000 in
theorem gX11_greatestFilled_X11_isAble : GoodIn wsX11_greatestFilled (va_wsS RX11 69 yX11_isAble wsX11_isAble) := goodIn_app (goodIn_of _ (by decide +kernel)) ggX11_greatestFilled_X11_isAble
set_option maxRecDepth 20000 in
theorem ggX11_greatestFilled_X11_copy : GoodIn wsX11_greatestFilled wsX11_copy := goodIn_r _ [13] (by decide +kernel) (by decide +kernel)
set_option maxRecDepth 20000 in
theorem gX11_greatestFilled_X11_copy : GoodIn wsX11_greatestFilled (va_wsS RX11 53 yX11_copy wsX11_copy) := goodIn_app (goodIn_of _ (by decide +kernel)) ggX11_greatestFilled_X11_copy
set_option maxRecDepth 20000 in
theorem ggX11_greatestFilled_X11_filled : GoodIn wsX11_greatestFilled wsX11_filled := goodIn_r _ [20, 21] (by decide +kernel) (by decide +kernel)
set_option maxRecDepth 20000 in
theorem gX11_greatestFilled_X11_filled : GoodIn wsX11_greatestFilled (va_wsS RX11 127 yX11_filled wsX11_filled) := goodIn_app (goodIn_of _ (by decide +kernel)) ggX11_greatestFilled_X11_filled
theorem dX11_greatestFilled_0 : decode cX11_greatestFilled 0 = .ok (.iconst 0, 1) := by decide +kernel
theorem dX11_greatestFilled_1 : decode cX11_greatestFilled 1 = .ok (.istore_n 2, 1) := by decide +kernel
theorem dX11_greatestFilled_2 : decode cX11_greatestFilled 2 = .ok (.iconst 0, 1) := by decide +kernel
theorem dX11_greatestFilled_3 : decode cX11_greatestFilled 3 = .ok (.istore_n 3, 1) := by decide +kernel
theorem dX11_greatestFilled_4 : decode cX11_greatestFilled 4 = .ok (.iload_n 3, 1) := by decide +kernel
theorem dX11_greatestFilled_5 : decode cX11_greatestFilled 5 = .ok (.iconst 5, 1) := by decide +kernel
theorem dX11_greatestFilled_6 : decode cX11_greatestFilled 6 = .ok (.if_icmp .ge 66, 3) := by decide +kernel
theorem dX11_greatestFilled_9 : decode cX11_greatestFilled 9 = .ok (.iload_n 3, 1) := by decide +kernel
theorem dX11_greatestFilled_10 : decode cX11_greatestFilled 10 = .ok (.i2l, 1) := by decide +kernel
theorem dX11_greatestFilled_11 : decode cX11_greatestFilled 11 = .ok (.aload_n 0, 1) := by decide +kernel
theorem dX11_greatestFilled_12 : decode cX11_greatestFilled 12 = .ok (.iconst 0, 1) := by decide +kernel
theorem dX11_greatestFilled_13 : decode cX11_greatestFilled 13 = .ok (.laload, 1) := by decide +kernel
theorem dX11_greatestFilled_14 : decode cX11_greatestFilled 14 = .ok (.lcmp, 1) := by decide +kernel
theorem dX11_greatestFilled_15 : decode cX11_greatestFilled 15 = .ok (.ifCond .ge 29, 3) := by decide +kernel
theorem dX11_greatestFilled_18 : decode cX11_greatestFilled 18 = .ok (.aload_n 0, 1) := by decide +kernel
theorem dX11_greatestFilled_19 : decode cX11_greatestFilled 19 = .ok (.iload_n 1, 1) := by decide +kernel
theorem dX11_greatestFilled_20 : decode cX11_greatestFilled 20 = .ok (.iload_n 3, 1) := by decide +kernel
theorem dX11_greatestFilled_21 : decode cX11_greatestFilled 21 = .ok (.invokestatic 69, 3) := by decide +kernel
theorem dX11_greatestFilled_24 : decode cX11_greatestFilled 24 = .ok (.ifCond .eq 20, 3) := by decide +kernel
theorem dX11_greatestFilled_27 : decode cX11_greatestFilled 27 = .ok (.aload_n 0, 1) := by decide +kernel
theorem dX11_greatestFilled_28 : decode cX11_greatestFilled 28 = .ok (.iload_n 1, 1) := by decide +kernel
theorem dX11_greatestFilled_29 : decode cX11_greatestFilled 29 = .ok (.iload_n 3, 1) := by decide +kernel
theorem dX11_greatestFilled_30 : decode cX11_greatestFilled 30 = .ok (.invokestatic 53, 3) := by decide +kernel
theorem dX11_greatestFilled_33 : decode cX11_greatestFilled 33 = .ok (.invokestatic 127, 3) := by decide +kernel
theorem dX11_greatestFilled_36 : decode cX11_greatestFilled 36 = .ok (.iload_n 2, 1) := by decide +kernel
theorem dX11_greatestFilled_37 : decode cX11_greatestFilled 37 = .ok (.if_icmp .le 7, 3) := by decide +kernel
theorem dX11_greatestFilled_40 : decode cX11_greatestFilled 40 = .ok (.iconst 1, 1) := by decide +kernel
theorem dX11_greatestFilled_41 : decode cX11_greatestFilled 41 = .ok (.goto 4, 3) := by decide +kernel
theorem dX11_greatestFilled_44 : decode cX11_greatestFilled 44 = .ok (.iconst 0, 1) := by decide +kernel
theorem dX11_greatestFilled_45 : decode cX11_greatestFilled 45 = .ok (.istore 4, 2) := by decide +kernel
theorem dX11_greatestFilled_47 : decode cX11_greatestFilled 47 = .ok (.iload 4, 2) := by decide +kernel
theorem dX11_greatestFilled_49 : decode cX11_greatestFilled 49 = .ok (.ifCond .eq 15, 3) := by decide +kernel
theorem dX11_greatestFilled_52 : decode cX11_greatestFilled 52 = .ok (.aload_n 0, 1) := by decide +kernel
theorem dX11_greatestFilled_53 : decode cX11_greatestFilled 53 = .ok (.iload_n 1, 1) := by decide +kernel
theorem dX11_greatestFilled_54 : decode cX11_greatestFilled 54 = .ok (.iload_n 3, 1) := by decide +kernel
theorem dX11_greatestFilled_55 : decode cX11_greatestFilled 55 = .ok (.invokestatic 53, 3) := by decide +kernel
theorem dX11_greatestFilled_58 : decode cX11_greatestFilled 58 = .ok (.invokestatic 127, 3) := by decide +kernel
theorem dX11_greatestFilled_61 : decode cX11_greatestFilled 61 = .ok (.goto 4, 3) := by decide +kernel
theorem dX11_greatestFilled_64 : decode cX11_greatestFilled 64 = .ok (.iload_n 2, 1) := by decide +kernel
theorem dX11_greatestFilled_65 : decode cX11_greatestFilled 65 = .ok (.istore_n 2, 1) := by decide +kernel
theorem dX11_greatestFilled_66 : decode cX11_greatestFilled 66 = .ok (.iinc 3 1, 3) := by decide +kernel
theorem dX11_greatestFilled_69 : decode cX11_greatestFilled 69 = .ok (.goto (-65), 3) := by decide +kernel
theorem dX11_greatestFilled_72 : decode cX11_greatestFilled 72 = .ok (.iload_n 2, 1) := by decide +kernel
theorem dX11_greatestFilled_73 : decode cX11_greatestFilled 73 = .ok (.ireturn, 1) := by decide +kernel
set_option maxRecDepth 20000 in
theorem ggX11_pads_X11_isAble : GoodIn wsX11_pads wsX11_isAble := goodIn_r _ [5, 6, 7, 4, 8, 9, 10, 11, 12, 13, 14, 15, 16, 17, 18] (by decide +kernel) (by decide +kernel)
set_option maxRecDepth 20000 in
theorem gX11_pads_X11_isAble : GoodIn wsX11_pads (va_wsS RX11 69 yX11_isAble wsX11_isAble) := goodIn_app (goodIn_of _ (by decide +kernel)) ggX11_pads_X11_isAble
set_option maxRecDepth 20000 in
theorem ggX11_pads_X11_copy : GoodIn wsX11_pads wsX11_copy := goodIn_r _ [14] (by decide +kernel) (by decide +kernel)
set_option maxRecDepth 20000 in
theorem gX11_pads_X11_copy : GoodIn wsX11_pads (va_wsS RX11 53 yX11_copy wsX11_copy) := goodIn_app (goodIn_of _ (by decide +kernel)) ggX11_pads_X11_copy
set_option maxRecDepth 20000 in
theorem ggX11_pads_X11_withFilled : GoodIn wsX11_pads wsX11_withFilled := goodIn_r _ [21, 22] (by decide +kernel) (by decide +kernel)
set_option maxRecDepth 20000 in
theorem gX11_pads_X11_withFilled : GoodIn wsX11_pads (va_wsS RX11 130 yX11_withFilled wsX11_withFilled) := goodIn_app (goodIn_of _ (by decide +kernel)) ggX11_pads_X11_withFilled
set_option maxRecDepth 20000 in
theorem ggX11_pads_X11_cell : GoodIn wsX11_pads wsX11_cell := goodIn_r _ [25, 26] (by decide +kernel) (by decide +kernel)
set_option maxRecDepth 20000 in
theorem gX11_pads_X11_cell : GoodIn wsX11_pads (va_wsS RX11 133 yX11_cell wsX11_cell) := goodIn_app (goodIn_of _ (by decide +kernel)) ggX11_pads_X11_cell
set_option maxRecDepth 20000 in
theorem ggX11_pads_X11_withCell : GoodIn wsX11_pads wsX11_withCell := goodIn_r _ [29, 26, 30] (by decide +kernel) (by decide +kernel)
set_option maxRecDepth 20000 in
theorem gX11_pads_X11_withCell : GoodIn wsX11_pads (va_wsS RX11 139 yX11_withCell wsX11_withCell) := goodIn_app (goodIn_of _ (by decide +kernel)) ggX11_pads_X11_withCell
theorem dX11_pads_0 : decode cX11_pads 0 = .ok (.iconst 0, 1) := by decide +kernel
theorem dX11_pads_1 : decode cX11_pads 1 = .ok (.istore_n 3, 1) := by decide +kernel
theorem dX11_pads_2 : decode cX11_pads 2 = .ok (.iload_n 3, 1) := by decide +kernel
theorem dX11_pads_3 : decode cX11_pads 3 = .ok (.i2l, 1) := by decide +kernel
theorem dX11_pads_4 : decode cX11_pads 4 = .ok (.aload_n 0, 1) := by decide +kernel
theorem dX11_pads_5 : decode cX11_pads 5 = .ok (.iconst 0, 1) := by decide +kernel
theorem dX11_pads_6 : decode cX11_pads 6 = .ok (.laload, 1) := by decide +kernel
theorem dX11_pads_7 : decode cX11_pads 7 = .ok (.lcmp, 1) := by decide +kernel
theorem dX11_pads_8 : decode cX11_pads 8 = .ok (.ifCond .ge 91, 3) := by decide +kernel
theorem dX11_pads_11 : decode cX11_pads 11 = .ok (.aload_n 0, 1) := by decide +kernel
theorem dX11_pads_12 : decode cX11_pads 12 = .ok (.iload_n 1, 1) := by decide +kernel
theorem dX11_pads_13 : decode cX11_pads 13 = .ok (.iload_n 3, 1) := by decide +kernel
theorem dX11_pads_14 : decode cX11_pads 14 = .ok (.invokestatic 69, 3) := by decide +kernel
theorem dX11_pads_17 : decode cX11_pads 17 = .ok (.ifCond .eq 76, 3) := by decide +kernel
theorem dX11_pads_20 : decode cX11_pads 20 = .ok (.aload_n 0, 1) := by decide +kernel
theorem dX11_pads_21 : decode cX11_pads 21 = .ok (.iload_n 1, 1) := by decide +kernel
theorem dX11_pads_22 : decode cX11_pads 22 = .ok (.iload_n 3, 1) := by decide +kernel
theorem dX11_pads_23 : decode cX11_pads 23 = .ok (.invokestatic 53, 3) := by decide +kernel
theorem dX11_pads_26 : decode cX11_pads 26 = .ok (.aload_n 0, 1) := by decide +kernel
theorem dX11_pads_27 : decode cX11_pads 27 = .ok (.iconst 2, 1) := by decide +kernel
theorem dX11_pads_28 : decode cX11_pads 28 = .ok (.laload, 1) := by decide +kernel
theorem dX11_pads_29 : decode cX11_pads 29 = .ok (.invokestatic 130, 3) := by decide +kernel
theorem dX11_pads_32 : decode cX11_pads 32 = .ok (.lstore 4, 2) := by decide +kernel
theorem dX11_pads_34 : decode cX11_pads 34 = .ok (.iload_n 2, 1) := by decide +kernel
theorem dX11_pads_35 : decode cX11_pads 35 = .ok (.istore 6, 2) := by decide +kernel
theorem dX11_pads_37 : decode cX11_pads 37 = .ok (.iload 6, 2) := by decide +kernel
theorem dX11_pads_39 : decode cX11_pads 39 = .ok (.i2l, 1) := by decide +kernel
theorem dX11_pads_40 : decode cX11_pads 40 = .ok (.aload_n 0, 1) := by decide +kernel
theorem dX11_pads_41 : decode cX11_pads 41 = .ok (.iconst 2, 1) := by decide +kernel
theorem dX11_pads_42 : decode cX11_pads 42 = .ok (.laload, 1) := by decide +kernel
theorem dX11_pads_43 : decode cX11_pads 43 = .ok (.lcmp, 1) := by decide +kernel
theorem dX11_pads_44 : decode cX11_pads 44 = .ok (.ifCond .ge 36, 3) := by decide +kernel
theorem dX11_pads_47 : decode cX11_pads 47 = .ok (.lload 4, 2) := by decide +kernel
theorem dX11_pads_49 : decode cX11_pads 49 = .ok (.iload 6, 2) := by decide +kernel
theorem dX11_pads_51 : decode cX11_pads 51 = .ok (.invokestatic 133, 3) := by decide +kernel
theorem dX11_pads_54 : decode cX11_pads 54 = .ok (.ifCond .ne 16, 3) := by decide +kernel
theorem dX11_pads_57 : decode cX11_pads 57 = .ok (.lload 4, 2) := by decide +kernel
theorem dX11_pads_59 : decode cX11_pads 59 = .ok (.iload 6, 2) := by decide +kernel
theorem dX11_pads_61 : decode cX11_pads 61 = .ok (.ldc2_w 137, 3) := by decide +kernel
theorem dX11_pads_64 : decode cX11_pads 64 = .ok (.invokestatic 139, 3) := by decide +kernel
theorem dX11_pads_67 : decode cX11_pads 67 = .ok (.goto 5, 3) := by decide +kernel
theorem dX11_pads_70 : decode cX11_pads 70 = .ok (.lload 4, 2) := by decide +kernel
theorem dX11_pads_72 : decode cX11_pads 72 = .ok (.lstore 4, 2) := by decide +kernel
theorem dX11_pads_74 : decode cX11_pads 74 = .ok (.iinc 6 1, 3) := by decide +kernel
theorem dX11_pads_77 : decode cX11_pads 77 = .ok (.goto (-40), 3) := by decide +kernel
theorem dX11_pads_80 : decode cX11_pads 80 = .ok (.aload_n 0, 1) := by decide +kernel
theorem dX11_pads_81 : decode cX11_pads 81 = .ok (.sipush 190, 3) := by decide +kernel
theorem dX11_pads_84 : decode cX11_pads 84 = .ok (.iconst 5, 1) := by decide +kernel
theorem dX11_pads_85 : decode cX11_pads 85 = .ok (.iload_n 1, 1) := by decide +kernel
theorem dX11_pads_86 : decode cX11_pads 86 = .ok (.imul, 1) := by decide +kernel
theorem dX11_pads_87 : decode cX11_pads 87 = .ok (.iadd, 1) := by decide +kernel
theorem dX11_pads_88 : decode cX11_pads 88 = .ok (.iload_n 3, 1) := by decide +kernel
theorem dX11_pads_89 : decode cX11_pads 89 = .ok (.iadd, 1) := by decide +kernel
theorem dX11_pads_90 : decode cX11_pads 90 = .ok (.lload 4, 2) := by decide +kernel
theorem dX11_pads_92 : decode cX11_pads 92 = .ok (.lastore, 1) := by decide +kernel
theorem dX11_pads_93 : decode cX11_pads 93 = .ok (.iinc 3 1, 3) := by decide +kernel
theorem dX11_pads_96 : decode cX11_pads 96 = .ok (.goto (-94), 3) := by decide +kernel
theorem dX11_pads_99 : decode cX11_pads 99 = .ok (.return_, 1) := by decide +kernel
set_option maxRecDepth 20000 in
theorem ggX11_writes_X11_copy : GoodIn wsX11_writes wsX11_copy := goodIn_r _ [6] (by decide +kernel) (by decide +kernel)
set_option maxRecDepth 20000 in
theorem gX11_writes_X11_copy : GoodIn wsX11_writes (va_wsS RX11 53 yX11_copy wsX11_copy) := goodIn_app (goodIn_of _ (by decide +kernel)) ggX11_writes_X11_copy
set_option maxRecDepth 20000 in
theorem ggX11_writes_X11_withFilled : GoodIn wsX11_writes wsX11_withFilled := goodIn_r _ [9, 10] (by decide +kernel) (by decide +kernel)
set_option maxRecDepth 20000 in
theorem gX11_writes_X11_withFilled : GoodIn wsX11_writes (va_wsS RX11 130 yX11_withFilled wsX11_withFilled) := goodIn_app (goodIn_of _ (by decide +kernel)) ggX11_writes_X11_withFilled
set_option maxRecDepth 20000 in
theorem ggX11_writes_X11_withCell : GoodIn wsX11_writes wsX11_withCell := goodIn_r _ [13, 14, 15] (by decide +kernel) (by decide +kernel)
set_option maxRecDepth 20000 in
theorem gX11_writes_X11_withCell : GoodIn wsX11_writes (va_wsS RX11 139 yX11_withCell wsX11_withCell) := goodIn_app (goodIn_of _ (by decide +kernel)) ggX11_writes_X11_withCell
theorem dX11_writes_0 : decode cX11_writes 0 = .ok (.aload_n 1, 1) := by decide +kernel
theorem dX11_writes_1 : decode cX11_writes 1 = .ok (.iload_n 2, 1) := by decide +kernel
theorem dX11_writes_2 : decode cX11_writes 2 = .ok (.iload_n 3, 1) := by decide +kernel
theorem dX11_writes_3 : decode cX11_writes 3 = .ok (.invokestatic 53, 3) := by decide +kernel
theorem dX11_writes_6 : decode cX11_writes 6 = .ok (.iload 4, 2) := by decide +kernel
theorem dX11_writes_8 : decode cX11_writes 8 = .ok (.aload_n 0, 1) := by decide +kernel
theorem dX11_writes_9 : decode cX11_writes 9 = .ok (.getfield 143, 3) := by decide +kernel
theorem dX11_writes_12 : decode cX11_writes 12 = .ok (.iadd, 1) := by decide +kernel
theorem dX11_writes_13 : decode cX11_writes 13 = .ok (.i2l, 1) := by decide +kernel
theorem dX11_writes_14 : decode cX11_writes 14 = .ok (.invokestatic 130, 3) := by decide +kernel
theorem dX11_writes_17 : decode cX11_writes 17 = .ok (.lstore 5, 2) := by decide +kernel
theorem dX11_writes_19 : decode cX11_writes 19 = .ok (.iconst 0, 1) := by decide +kernel
theorem dX11_writes_20 : decode cX11_writes 20 = .ok (.istore 7, 2) := by decide +kernel
theorem dX11_writes_22 : decode cX11_writes 22 = .ok (.iload 7, 2) := by decide +kernel
theorem dX11_writes_24 : decode cX11_writes 24 = .ok (.aload_n 0, 1) := by decide +kernel
theorem dX11_writes_25 : decode cX11_writes 25 = .ok (.getfield 143, 3) := by decide +kernel
theorem dX11_writes_28 : decode cX11_writes 28 = .ok (.if_icmp .ge 29, 3) := by decide +kernel
theorem dX11_writes_31 : decode cX11_writes 31 = .ok (.lload 5, 2) := by decide +kernel
theorem dX11_writes_33 : decode cX11_writes 33 = .ok (.iload 4, 2) := by decide +kernel
theorem dX11_writes_35 : decode cX11_writes 35 = .ok (.iload 7, 2) := by decide +kernel
theorem dX11_writes_37 : decode cX11_writes 37 = .ok (.iadd, 1) := by decide +kernel
theorem dX11_writes_38 : decode cX11_writes 38 = .ok (.aload_n 0, 1) := by decide +kernel
theorem dX11_writes_39 : decode cX11_writes 39 = .ok (.getfield 30, 3) := by decide +kernel
theorem dX11_writes_42 : decode cX11_writes 42 = .ok (.iload 7, 2) := by decide +kernel
theorem dX11_writes_44 : decode cX11_writes 44 = .ok (.iaload, 1) := by decide +kernel
theorem dX11_writes_45 : decode cX11_writes 45 = .ok (.i2l, 1) := by decide +kernel
theorem dX11_writes_46 : decode cX11_writes 46 = .ok (.invokestatic 139, 3) := by decide +kernel
theorem dX11_writes_49 : decode cX11_writes 49 = .ok (.lstore 5, 2) := by decide +kernel
theorem dX11_writes_51 : decode cX11_writes 51 = .ok (.iinc 7 1, 3) := by decide +kernel
theorem dX11_writes_54 : decode cX11_writes 54 = .ok (.goto (-32), 3) := by decide +kernel
theorem dX11_writes_57 : decode cX11_writes 57 = .ok (.aload_n 1, 1) := by decide +kernel
theorem dX11_writes_58 : decode cX11_writes 58 = .ok (.sipush 190, 3) := by decide +kernel
theorem dX11_writes_61 : decode cX11_writes 61 = .ok (.iconst 5, 1) := by decide +kernel
theorem dX11_writes_62 : decode cX11_writes 62 = .ok (.iload_n 2, 1) := by decide +kernel
theorem dX11_writes_63 : decode cX11_writes 63 = .ok (.imul, 1) := by decide +kernel
theorem dX11_writes_64 : decode cX11_writes 64 = .ok (.iadd, 1) := by decide +kernel
theorem dX11_writes_65 : decode cX11_writes 65 = .ok (.iload_n 3, 1) := by decide +kernel
theorem dX11_writes_66 : decode cX11_writes 66 = .ok (.iadd, 1) := by decide +kernel
theorem dX11_writes_67 : decode cX11_writes 67 = .ok (.lload 5, 2) := by decide +kernel
theorem dX11_writes_69 : decode cX11_writes 69 = .ok (.lastore, 1) := by decide +kernel
theorem dX11_writes_70 : decode cX11_writes 70 = .ok (.return_, 1) := by decide +kernel
set_option maxRecDepth 20000 in
theorem ggX11_writesAll_X11_fails : GoodIn wsX11_writesAll wsX11_fails := goodIn_r _ [5] (by decide +kernel) (by decide +kernel)
set_option maxRecDepth 20000 in
theorem gX11_writesAll_X11_fails : GoodIn wsX11_writesAll (va_wsS RX11 147 yX11_fails wsX11_fails) := goodIn_app (goodIn_of _ (by decide +kernel)) ggX11_writesAll_X11_fails
set_option maxRecDepth 20000 in
theorem ggX11_writesAll_X11_writes : GoodIn wsX11_writesAll wsX11_writes := goodIn_r _ [9, 10, 11, 12, 13, 4, 14, 15, 16, 17, 18, 19, 20, 21, 22, 1, 33, 34, 35, 36, 37, 38, 39, 40, 41, 42, 43, 44, 45, 46, 47, 48, 49] (by decide +kernel) (by decide +kernel)
set_option maxRecDepth 20000 in
theorem gX11_writesAll_X11_writes : GoodIn wsX11_writesAll (wsV RX11 150 RX11 yX11_writes wsX11_writes) := goodIn_app (goodIn_of _ (by decide +kernel)) ggX11_writesAll_X11_writes
set_option maxRecDepth 20000 in
theorem ggX11_writesAll_X11_isGood : GoodIn wsX11_writesAll wsX11_isGood := goodIn_r _ [25, 12, 13, 4, 14, 26, 27, 28, 29] (by decide +kernel) (by decide +kernel)
set_option maxRecDepth 20000 in
theorem gX11_writesAll_X11_isGood : GoodIn wsX11_writesAll (va_wsS RX11 61 yX11_isGood wsX11_isGood) := goodIn_app (goodIn_of _ (by decide +kernel)) ggX11_writesAll_X11_isGood
set_option maxRecDepth 20000 in
theorem ggX11_writesAll_X11_isUp : GoodIn wsX11_writesAll wsX11_isUp := goodIn_r _ [32] (by decide +kernel) (by decide +kernel)
set_option maxRecDepth 20000 in
theorem gX11_writesAll_X11_isUp : GoodIn wsX11_writesAll (va_wsS RX11 65 yX11_isUp wsX11_isUp) := goodIn_app (goodIn_of _ (by decide +kernel)) ggX11_writesAll_X11_isUp
theorem dX11_writesAll_0 : decode cX11_writesAll 0 = .ok (.aload_n 1, 1) := by decide +kernel
theorem dX11_writesAll_1 : decode cX11_writesAll 1 = .ok (.bipush 70, 2) := by decide +kernel
theorem dX11_writesAll_3 : decode cX11_writesAll 3 = .ok (.iconst 4, 1) := by decide +kernel
theorem dX11_writesAll_4 : decode cX11_writesAll 4 = .ok (.iload_n 2, 1) := by decide +kernel
theorem dX11_writesAll_5 : decode cX11_writesAll 5 = .ok (.imul, 1) := by decide +kernel
theorem dX11_writesAll_6 : decode cX11_writesAll 6 = .ok (.iadd, 1) := by decide +kernel
theorem dX11_writesAll_7 : decode cX11_writesAll 7 = .ok (.iconst 2, 1) := by decide +kernel
theorem dX11_writesAll_8 : decode cX11_writesAll 8 = .ok (.iadd, 1) := by decide +kernel
theorem dX11_writesAll_9 : decode cX11_writesAll 9 = .ok (.laload, 1) := by decide +kernel
theorem dX11_writesAll_10 : decode cX11_writesAll 10 = .ok (.l2i, 1) := by decide +kernel
theorem dX11_writesAll_11 : decode cX11_writesAll 11 = .ok (.istore 4, 2) := by decide +kernel
theorem dX11_writesAll_13 : decode cX11_writesAll 13 = .ok (.aload_n 1, 1) := by decide +kernel
theorem dX11_writesAll_14 : decode cX11_writesAll 14 = .ok (.iload 4, 2) := by decide +kernel
theorem dX11_writesAll_16 : decode cX11_writesAll 16 = .ok (.invokestatic 147, 3) := by decide +kernel
theorem dX11_writesAll_19 : decode cX11_writesAll 19 = .ok (.ifCond .eq 5, 3) := by decide +kernel
theorem dX11_writesAll_22 : decode cX11_writesAll 22 = .ok (.iconst 0, 1) := by decide +kernel
theorem dX11_writesAll_23 : decode cX11_writesAll 23 = .ok (.ireturn, 1) := by decide +kernel
theorem dX11_writesAll_24 : decode cX11_writesAll 24 = .ok (.aload_n 0, 1) := by decide +kernel
theorem dX11_writesAll_25 : decode cX11_writesAll 25 = .ok (.aload_n 1, 1) := by decide +kernel
theorem dX11_writesAll_26 : decode cX11_writesAll 26 = .ok (.iload_n 2, 1) := by decide +kernel
theorem dX11_writesAll_27 : decode cX11_writesAll 27 = .ok (.iload 4, 2) := by decide +kernel
theorem dX11_writesAll_29 : decode cX11_writesAll 29 = .ok (.iload_n 3, 1) := by decide +kernel
theorem dX11_writesAll_30 : decode cX11_writesAll 30 = .ok (.invokevirtual 150, 3) := by decide +kernel
theorem dX11_writesAll_33 : decode cX11_writesAll 33 = .ok (.iconst 1, 1) := by decide +kernel
theorem dX11_writesAll_34 : decode cX11_writesAll 34 = .ok (.istore 5, 2) := by decide +kernel
theorem dX11_writesAll_36 : decode cX11_writesAll 36 = .ok (.iconst 0, 1) := by decide +kernel
theorem dX11_writesAll_37 : decode cX11_writesAll 37 = .ok (.istore 6, 2) := by decide +kernel
theorem dX11_writesAll_39 : decode cX11_writesAll 39 = .ok (.iload 6, 2) := by decide +kernel
theorem dX11_writesAll_41 : decode cX11_writesAll 41 = .ok (.i2l, 1) := by decide +kernel
theorem dX11_writesAll_42 : decode cX11_writesAll 42 = .ok (.aload_n 1, 1) := by decide +kernel
theorem dX11_writesAll_43 : decode cX11_writesAll 43 = .ok (.iconst 0, 1) := by decide +kernel
theorem dX11_writesAll_44 : decode cX11_writesAll 44 = .ok (.laload, 1) := by decide +kernel
theorem dX11_writesAll_45 : decode cX11_writesAll 45 = .ok (.lcmp, 1) := by decide +kernel
theorem dX11_writesAll_46 : decode cX11_writesAll 46 = .ok (.ifCond .ge 117, 3) := by decide +kernel
theorem dX11_writesAll_49 : decode cX11_writesAll 49 = .ok (.iload 6, 2) := by decide +kernel
theorem dX11_writesAll_51 : decode cX11_writesAll 51 = .ok (.iload 4, 2) := by decide +kernel
theorem dX11_writesAll_53 : decode cX11_writesAll 53 = .ok (.if_icmp .eq 104, 3) := by decide +kernel
theorem dX11_writesAll_56 : decode cX11_writesAll 56 = .ok (.aload_n 1, 1) := by decide +kernel
theorem dX11_writesAll_57 : decode cX11_writesAll 57 = .ok (.iload_n 2, 1) := by decide +kernel
theorem dX11_writesAll_58 : decode cX11_writesAll 58 = .ok (.iload 6, 2) := by decide +kernel
theorem dX11_writesAll_60 : decode cX11_writesAll 60 = .ok (.invokestatic 61, 3) := by decide +kernel
theorem dX11_writesAll_63 : decode cX11_writesAll 63 = .ok (.ifCond .eq 94, 3) := by decide +kernel
theorem dX11_writesAll_66 : decode cX11_writesAll 66 = .ok (.aload_n 1, 1) := by decide +kernel
theorem dX11_writesAll_67 : decode cX11_writesAll 67 = .ok (.iload 6, 2) := by decide +kernel
theorem dX11_writesAll_69 : decode cX11_writesAll 69 = .ok (.invokestatic 65, 3) := by decide +kernel
theorem dX11_writesAll_72 : decode cX11_writesAll 72 = .ok (.istore 7, 2) := by decide +kernel
theorem dX11_writesAll_74 : decode cX11_writesAll 74 = .ok (.aload_n 1, 1) := by decide +kernel
theorem dX11_writesAll_75 : decode cX11_writesAll 75 = .ok (.bipush 70, 2) := by decide +kernel
theorem dX11_writesAll_77 : decode cX11_writesAll 77 = .ok (.iconst 4, 1) := by decide +kernel
theorem dX11_writesAll_78 : decode cX11_writesAll 78 = .ok (.iload_n 2, 1) := by decide +kernel
theorem dX11_writesAll_79 : decode cX11_writesAll 79 = .ok (.imul, 1) := by decide +kernel
theorem dX11_writesAll_80 : decode cX11_writesAll 80 = .ok (.iadd, 1) := by decide +kernel
theorem dX11_writesAll_81 : decode cX11_writesAll 81 = .ok (.iconst 2, 1) := by decide +kernel
theorem dX11_writesAll_82 : decode cX11_writesAll 82 = .ok (.iadd, 1) := by decide +kernel
theorem dX11_writesAll_83 : decode cX11_writesAll 83 = .ok (.iload 7, 2) := by decide +kernel
theorem dX11_writesAll_85 : decode cX11_writesAll 85 = .ok (.ifCond .eq 16, 3) := by decide +kernel
theorem dX11_writesAll_88 : decode cX11_writesAll 88 = .ok (.aload_n 1, 1) := by decide +kernel
theorem dX11_writesAll_89 : decode cX11_writesAll 89 = .ok (.bipush 70, 2) := by decide +kernel
theorem dX11_writesAll_91 : decode cX11_writesAll 91 = .ok (.iconst 4, 1) := by decide +kernel
theorem dX11_writesAll_92 : decode cX11_writesAll 92 = .ok (.iload_n 2, 1) := by decide +kernel
theorem dX11_writesAll_93 : decode cX11_writesAll 93 = .ok (.imul, 1) := by decide +kernel
theorem dX11_writesAll_94 : decode cX11_writesAll 94 = .ok (.iadd, 1) := by decide +kernel
theorem dX11_writesAll_95 : decode cX11_writesAll 95 = .ok (.iconst 2, 1) := by decide +kernel
theorem dX11_writesAll_96 : decode cX11_writesAll 96 = .ok (.iadd, 1) := by decide +kernel
theorem dX11_writesAll_97 : decode cX11_writesAll 97 = .ok (.laload, 1) := by decide +kernel
theorem dX11_writesAll_98 : decode cX11_writesAll 98 = .ok (.goto 6, 3) := by decide +kernel
theorem dX11_writesAll_101 : decode cX11_writesAll 101 = .ok (.ldc2_w 51, 3) := by decide +kernel
theorem dX11_writesAll_104 : decode cX11_writesAll 104 = .ok (.lastore, 1) := by decide +kernel
theorem dX11_writesAll_105 : decode cX11_writesAll 105 = .ok (.iload 7, 2) := by decide +kernel
theorem dX11_writesAll_107 : decode cX11_writesAll 107 = .ok (.ifCond .eq 12, 3) := by decide +kernel
theorem dX11_writesAll_110 : decode cX11_writesAll 110 = .ok (.aload_n 1, 1) := by decide +kernel
theorem dX11_writesAll_111 : decode cX11_writesAll 111 = .ok (.iload 6, 2) := by decide +kernel
theorem dX11_writesAll_113 : decode cX11_writesAll 113 = .ok (.invokestatic 147, 3) := by decide +kernel
theorem dX11_writesAll_116 : decode cX11_writesAll 116 = .ok (.ifCond .eq 7, 3) := by decide +kernel
theorem dX11_writesAll_119 : decode cX11_writesAll 119 = .ok (.iconst 1, 1) := by decide +kernel
theorem dX11_writesAll_120 : decode cX11_writesAll 120 = .ok (.goto 4, 3) := by decide +kernel
theorem dX11_writesAll_123 : decode cX11_writesAll 123 = .ok (.iconst 0, 1) := by decide +kernel
theorem dX11_writesAll_124 : decode cX11_writesAll 124 = .ok (.istore 8, 2) := by decide +kernel
theorem dX11_writesAll_126 : decode cX11_writesAll 126 = .ok (.iload 8, 2) := by decide +kernel
theorem dX11_writesAll_128 : decode cX11_writesAll 128 = .ok (.ifCond .ne 12, 3) := by decide +kernel
theorem dX11_writesAll_131 : decode cX11_writesAll 131 = .ok (.aload_n 0, 1) := by decide +kernel
theorem dX11_writesAll_132 : decode cX11_writesAll 132 = .ok (.aload_n 1, 1) := by decide +kernel
theorem dX11_writesAll_133 : decode cX11_writesAll 133 = .ok (.iload_n 2, 1) := by decide +kernel
theorem dX11_writesAll_134 : decode cX11_writesAll 134 = .ok (.iload 6, 2) := by decide +kernel
theorem dX11_writesAll_136 : decode cX11_writesAll 136 = .ok (.iload_n 3, 1) := by decide +kernel
theorem dX11_writesAll_137 : decode cX11_writesAll 137 = .ok (.invokevirtual 150, 3) := by decide +kernel
theorem dX11_writesAll_140 : decode cX11_writesAll 140 = .ok (.iload 5, 2) := by decide +kernel
theorem dX11_writesAll_142 : decode cX11_writesAll 142 = .ok (.ifCond .eq 12, 3) := by decide +kernel
theorem dX11_writesAll_145 : decode cX11_writesAll 145 = .ok (.iload 8, 2) := by decide +kernel
theorem dX11_writesAll_147 : decode cX11_writesAll 147 = .ok (.ifCond .ne 7, 3) := by decide +kernel
theorem dX11_writesAll_150 : decode cX11_writesAll 150 = .ok (.iconst 1, 1) := by decide +kernel
theorem dX11_writesAll_151 : decode cX11_writesAll 151 = .ok (.goto 4, 3) := by decide +kernel
theorem dX11_writesAll_154 : decode cX11_writesAll 154 = .ok (.iconst 0, 1) := by decide +kernel
theorem dX11_writesAll_155 : decode cX11_writesAll 155 = .ok (.istore 5, 2) := by decide +kernel
theorem dX11_writesAll_157 : decode cX11_writesAll 157 = .ok (.iinc 6 1, 3) := by decide +kernel
theorem dX11_writesAll_160 : decode cX11_writesAll 160 = .ok (.goto (-121), 3) := by decide +kernel
theorem dX11_writesAll_163 : decode cX11_writesAll 163 = .ok (.iload 5, 2) := by decide +kernel
theorem dX11_writesAll_165 : decode cX11_writesAll 165 = .ok (.ireturn, 1) := by decide +kernel
set_option maxRecDepth 20000 in
theorem ggX11_appends_X11_many : GoodIn wsX11_appends wsX11_many := goodIn_r _ [6] (by decide +kernel) (by decide +kernel)
set_option maxRecDepth 20000 in
theorem gX11_appends_X11_many : GoodIn wsX11_appends (va_wsS RX11 90 yX11_many wsX11_many) := goodIn_app (goodIn_of _ (by decide +kernel)) ggX11_appends_X11_many
set_option maxRecDepth 20000 in
theorem ggX11_appends_X11_makes : GoodIn wsX11_appends wsX11_makes := goodIn_r _ [9, 10, 11, 12, 13, 3, 4, 5, 6, 14, 15, 16, 17, 18, 19, 20, 21, 22, 23, 24, 25, 26, 27, 28, 29, 30, 31, 32, 33, 34, 35, 36, 37, 38, 39, 40, 41, 42, 43, 44, 45, 46, 47, 48, 49, 50, 51, 52, 53] (by decide +kernel) (by decide +kernel)
set_option maxRecDepth 20000 in
theorem gX11_appends_X11_makes : GoodIn wsX11_appends (va_wsS RX11 154 yX11_makes wsX11_makes) := goodIn_app (goodIn_of _ (by decide +kernel)) ggX11_appends_X11_makes
set_option maxRecDepth 20000 in
theorem ggX11_appends_X11_owns : GoodIn wsX11_appends wsX11_owns := goodIn_r _ [56, 10, 11, 12, 57, 58, 5, 59, 60, 61, 62, 63, 64, 65, 17, 18, 19, 66, 67, 68, 43, 44, 45, 69, 70, 71, 72, 46, 47, 48, 49, 34, 35, 36, 50, 51, 52, 53] (by decide +kernel) (by decide +kernel)
set_option maxRecDepth 20000 in
theorem gX11_appends_X11_owns : GoodIn wsX11_appends (va_wsS RX11 157 yX11_owns wsX11_owns) := goodIn_app (goodIn_of _ (by decide +kernel)) ggX11_appends_X11_owns
set_option maxRecDepth 20000 in
theorem ggX11_appends_X11_lastOf : GoodIn wsX11_appends wsX11_lastOf := goodIn_r _ [75, 3, 4, 5, 6, 57, 58, 59] (by decide +kernel) (by decide +kernel)
set_option maxRecDepth 20000 in
theorem gX11_appends_X11_lastOf : GoodIn wsX11_appends (va_wsS RX11 160 yX11_lastOf wsX11_lastOf) := goodIn_app (goodIn_of _ (by decide +kernel)) ggX11_appends_X11_lastOf
set_option maxRecDepth 20000 in
theorem ggX11_appends_X11_holds : GoodIn wsX11_appends wsX11_holds := goodIn_r _ [78, 63, 64, 5, 65, 17, 18, 19, 66, 67, 68, 43, 44, 45, 69, 70, 71, 72] (by decide +kernel) (by decide +kernel)
set_option maxRecDepth 20000 in
theorem gX11_appends_X11_holds : GoodIn wsX11_appends (va_wsS RX11 163 yX11_holds wsX11_holds) := goodIn_app (goodIn_of _ (by decide +kernel)) ggX11_appends_X11_holds
set_option maxRecDepth 20000 in
theorem ggX11_appends_X11_leases : GoodIn wsX11_appends wsX11_leases := goodIn_r _ [81, 12, 60, 61, 5, 62, 63, 64, 65, 17, 18, 19, 66, 67, 68, 43, 44, 45, 69, 70, 71, 72, 34, 35, 36, 50, 51, 52, 53, 28, 29, 30, 31, 32, 33, 37, 38, 39, 40, 41, 42] (by decide +kernel) (by decide +kernel)
set_option maxRecDepth 20000 in
theorem gX11_appends_X11_leases : GoodIn wsX11_appends (va_wsS RX11 166 yX11_leases wsX11_leases) := goodIn_app (goodIn_of _ (by decide +kernel)) ggX11_appends_X11_leases
set_option maxRecDepth 20000 in
theorem ggX11_appends_X11_greatestFilled : GoodIn wsX11_appends wsX11_greatestFilled := goodIn_r _ [84, 63, 64, 5, 65, 17, 18, 19, 66, 67, 68, 43, 44, 45, 69, 70, 71, 72, 85, 86, 87, 88] (by decide +kernel) (by decide +kernel)
set_option maxRecDepth 20000 in
theorem gX11_appends_X11_greatestFilled : GoodIn wsX11_appends (va_wsS RX11 169 yX11_greatestFilled wsX11_greatestFilled) := goodIn_app (goodIn_of _ (by decide +kernel)) ggX11_appends_X11_greatestFilled
set_option maxRecDepth 20000 in
theorem ggX11_appends_X11_pads : GoodIn wsX11_appends wsX11_pads := goodIn_r _ [91, 92, 63, 64, 5, 65, 17, 18, 19, 66, 67, 68, 43, 44, 45, 69, 70, 71, 72, 93, 94, 95, 96, 97, 98, 99, 100, 101, 102, 103, 49] (by decide +kernel) (by decide +kernel)
set_option maxRecDepth 20000 in
theorem gX11_appends_X11_pads : GoodIn wsX11_appends (va_wsS RX11 172 yX11_pads wsX11_pads) := goodIn_app (goodIn_of _ (by decide +kernel)) ggX11_appends_X11_pads
set_option maxRecDepth 20000 in
theorem ggX11_appends_X11_writesAll : GoodIn wsX11_appends wsX11_writesAll := goodIn_r _ [107, 49, 108, 109, 5, 110, 111, 112, 113, 114, 1, 115, 43, 44, 45, 93, 94, 95, 96, 101, 102, 103, 100, 66, 67, 68, 69, 70, 71, 72, 17, 18, 19, 116, 117, 118, 119, 120, 121, 122, 123, 124, 125, 126, 127, 128, 129, 130, 131, 132] (by decide +kernel) (by decide +kernel)
set_option maxRecDepth 20000 in
theorem gX11_appends_X11_writesAll : GoodIn wsX11_appends (wsV RX11 176 RX11 yX11_writesAll wsX11_writesAll) := goodIn_app (goodIn_of _ (by decide +kernel)) ggX11_appends_X11_writesAll
theorem dX11_appends_0 : decode cX11_appends 0 = .ok (.aload_n 1, 1) := by decide +kernel
theorem dX11_appends_1 : decode cX11_appends 1 = .ok (.iload_n 2, 1) := by decide +kernel
theorem dX11_appends_2 : decode cX11_appends 2 = .ok (.invokestatic 90, 3) := by decide +kernel
theorem dX11_appends_5 : decode cX11_appends 5 = .ok (.ifCond .ne 11, 3) := by decide +kernel
theorem dX11_appends_8 : decode cX11_appends 8 = .ok (.aload_n 1, 1) := by decide +kernel
theorem dX11_appends_9 : decode cX11_appends 9 = .ok (.iload_n 2, 1) := by decide +kernel
theorem dX11_appends_10 : decode cX11_appends 10 = .ok (.invokestatic 154, 3) := by decide +kernel
theorem dX11_appends_13 : decode cX11_appends 13 = .ok (.goto 15, 3) := by decide +kernel
theorem dX11_appends_16 : decode cX11_appends 16 = .ok (.aload_n 1, 1) := by decide +kernel
theorem dX11_appends_17 : decode cX11_appends 17 = .ok (.iload_n 2, 1) := by decide +kernel
theorem dX11_appends_18 : decode cX11_appends 18 = .ok (.aload_n 1, 1) := by decide +kernel
theorem dX11_appends_19 : decode cX11_appends 19 = .ok (.iload_n 2, 1) := by decide +kernel
theorem dX11_appends_20 : decode cX11_appends 20 = .ok (.invokestatic 90, 3) := by decide +kernel
theorem dX11_appends_23 : decode cX11_appends 23 = .ok (.iconst 1, 1) := by decide +kernel
theorem dX11_appends_24 : decode cX11_appends 24 = .ok (.isub, 1) := by decide +kernel
theorem dX11_appends_25 : decode cX11_appends 25 = .ok (.invokestatic 157, 3) := by decide +kernel
theorem dX11_appends_28 : decode cX11_appends 28 = .ok (.istore_n 3, 1) := by decide +kernel
theorem dX11_appends_29 : decode cX11_appends 29 = .ok (.iconst 0, 1) := by decide +kernel
theorem dX11_appends_30 : decode cX11_appends 30 = .ok (.istore 4, 2) := by decide +kernel
theorem dX11_appends_32 : decode cX11_appends 32 = .ok (.iload_n 3, 1) := by decide +kernel
theorem dX11_appends_33 : decode cX11_appends 33 = .ok (.ifCond .ne 118, 3) := by decide +kernel
theorem dX11_appends_36 : decode cX11_appends 36 = .ok (.iload 4, 2) := by decide +kernel
theorem dX11_appends_38 : decode cX11_appends 38 = .ok (.iconst 3, 1) := by decide +kernel
theorem dX11_appends_39 : decode cX11_appends 39 = .ok (.if_icmp .ge 112, 3) := by decide +kernel
theorem dX11_appends_42 : decode cX11_appends 42 = .ok (.aload_n 1, 1) := by decide +kernel
theorem dX11_appends_43 : decode cX11_appends 43 = .ok (.iload_n 2, 1) := by decide +kernel
theorem dX11_appends_44 : decode cX11_appends 44 = .ok (.invokestatic 160, 3) := by decide +kernel
theorem dX11_appends_47 : decode cX11_appends 47 = .ok (.istore 5, 2) := by decide +kernel
theorem dX11_appends_49 : decode cX11_appends 49 = .ok (.aload_n 1, 1) := by decide +kernel
theorem dX11_appends_50 : decode cX11_appends 50 = .ok (.iload 5, 2) := by decide +kernel
theorem dX11_appends_52 : decode cX11_appends 52 = .ok (.invokestatic 163, 3) := by decide +kernel
theorem dX11_appends_55 : decode cX11_appends 55 = .ok (.ifCond .eq 7, 3) := by decide +kernel
theorem dX11_appends_58 : decode cX11_appends 58 = .ok (.iconst 0, 1) := by decide +kernel
theorem dX11_appends_59 : decode cX11_appends 59 = .ok (.goto 9, 3) := by decide +kernel
theorem dX11_appends_62 : decode cX11_appends 62 = .ok (.aload_n 1, 1) := by decide +kernel
theorem dX11_appends_63 : decode cX11_appends 63 = .ok (.iload 5, 2) := by decide +kernel
theorem dX11_appends_65 : decode cX11_appends 65 = .ok (.invokestatic 166, 3) := by decide +kernel
theorem dX11_appends_68 : decode cX11_appends 68 = .ok (.istore_n 3, 1) := by decide +kernel
theorem dX11_appends_69 : decode cX11_appends 69 = .ok (.aload_n 1, 1) := by decide +kernel
theorem dX11_appends_70 : decode cX11_appends 70 = .ok (.iload 5, 2) := by decide +kernel
theorem dX11_appends_72 : decode cX11_appends 72 = .ok (.invokestatic 169, 3) := by decide +kernel
theorem dX11_appends_75 : decode cX11_appends 75 = .ok (.istore 6, 2) := by decide +kernel
theorem dX11_appends_77 : decode cX11_appends 77 = .ok (.iload_n 3, 1) := by decide +kernel
theorem dX11_appends_78 : decode cX11_appends 78 = .ok (.ifCond .ne 35, 3) := by decide +kernel
theorem dX11_appends_81 : decode cX11_appends 81 = .ok (.iload 6, 2) := by decide +kernel
theorem dX11_appends_83 : decode cX11_appends 83 = .ok (.aload_n 0, 1) := by decide +kernel
theorem dX11_appends_84 : decode cX11_appends 84 = .ok (.getfield 143, 3) := by decide +kernel
theorem dX11_appends_87 : decode cX11_appends 87 = .ok (.iadd, 1) := by decide +kernel
theorem dX11_appends_88 : decode cX11_appends 88 = .ok (.i2l, 1) := by decide +kernel
theorem dX11_appends_89 : decode cX11_appends 89 = .ok (.aload_n 1, 1) := by decide +kernel
theorem dX11_appends_90 : decode cX11_appends 90 = .ok (.iconst 2, 1) := by decide +kernel
theorem dX11_appends_91 : decode cX11_appends 91 = .ok (.laload, 1) := by decide +kernel
theorem dX11_appends_92 : decode cX11_appends 92 = .ok (.lcmp, 1) := by decide +kernel
theorem dX11_appends_93 : decode cX11_appends 93 = .ok (.ifCond .le 20, 3) := by decide +kernel
theorem dX11_appends_96 : decode cX11_appends 96 = .ok (.aload_n 1, 1) := by decide +kernel
theorem dX11_appends_97 : decode cX11_appends 97 = .ok (.iload 5, 2) := by decide +kernel
theorem dX11_appends_99 : decode cX11_appends 99 = .ok (.iload 6, 2) := by decide +kernel
theorem dX11_appends_101 : decode cX11_appends 101 = .ok (.invokestatic 172, 3) := by decide +kernel
theorem dX11_appends_104 : decode cX11_appends 104 = .ok (.aload_n 1, 1) := by decide +kernel
theorem dX11_appends_105 : decode cX11_appends 105 = .ok (.iload_n 2, 1) := by decide +kernel
theorem dX11_appends_106 : decode cX11_appends 106 = .ok (.invokestatic 154, 3) := by decide +kernel
theorem dX11_appends_109 : decode cX11_appends 109 = .ok (.istore_n 3, 1) := by decide +kernel
theorem dX11_appends_110 : decode cX11_appends 110 = .ok (.goto 38, 3) := by decide +kernel
theorem dX11_appends_113 : decode cX11_appends 113 = .ok (.iload_n 3, 1) := by decide +kernel
theorem dX11_appends_114 : decode cX11_appends 114 = .ok (.ifCond .ne 34, 3) := by decide +kernel
theorem dX11_appends_117 : decode cX11_appends 117 = .ok (.iinc 4 1, 3) := by decide +kernel
theorem dX11_appends_120 : decode cX11_appends 120 = .ok (.aload_n 0, 1) := by decide +kernel
theorem dX11_appends_121 : decode cX11_appends 121 = .ok (.aload_n 1, 1) := by decide +kernel
theorem dX11_appends_122 : decode cX11_appends 122 = .ok (.iload 5, 2) := by decide +kernel
theorem dX11_appends_124 : decode cX11_appends 124 = .ok (.iload 6, 2) := by decide +kernel
theorem dX11_appends_126 : decode cX11_appends 126 = .ok (.invokevirtual 176, 3) := by decide +kernel
theorem dX11_appends_129 : decode cX11_appends 129 = .ok (.ifCond .eq 19, 3) := by decide +kernel
theorem dX11_appends_132 : decode cX11_appends 132 = .ok (.aload_n 1, 1) := by decide +kernel
theorem dX11_appends_133 : decode cX11_appends 133 = .ok (.iconst 2, 1) := by decide +kernel
theorem dX11_appends_134 : decode cX11_appends 134 = .ok (.laload, 1) := by decide +kernel
theorem dX11_appends_135 : decode cX11_appends 135 = .ok (.l2i, 1) := by decide +kernel
theorem dX11_appends_136 : decode cX11_appends 136 = .ok (.aload_n 1, 1) := by decide +kernel
theorem dX11_appends_137 : decode cX11_appends 137 = .ok (.iload_n 2, 1) := by decide +kernel
theorem dX11_appends_138 : decode cX11_appends 138 = .ok (.invokestatic 90, 3) := by decide +kernel
theorem dX11_appends_141 : decode cX11_appends 141 = .ok (.iconst 1, 1) := by decide +kernel
theorem dX11_appends_142 : decode cX11_appends 142 = .ok (.isub, 1) := by decide +kernel
theorem dX11_appends_143 : decode cX11_appends 143 = .ok (.imul, 1) := by decide +kernel
theorem dX11_appends_144 : decode cX11_appends 144 = .ok (.iload 6, 2) := by decide +kernel
theorem dX11_appends_146 : decode cX11_appends 146 = .ok (.iadd, 1) := by decide +kernel
theorem dX11_appends_147 : decode cX11_appends 147 = .ok (.ireturn, 1) := by decide +kernel
theorem dX11_appends_148 : decode cX11_appends 148 = .ok (.goto (-116), 3) := by decide +kernel
theorem dX11_appends_151 : decode cX11_appends 151 = .ok (.iload_n 3, 1) := by decide +kernel
theorem dX11_appends_152 : decode cX11_appends 152 = .ok (.ifCond .ne 8, 3) := by decide +kernel
theorem dX11_appends_155 : decode cX11_appends 155 = .ok (.ldc 179, 2) := by decide +kernel
theorem dX11_appends_157 : decode cX11_appends 157 = .ok (.goto 4, 3) := by decide +kernel
theorem dX11_appends_160 : decode cX11_appends 160 = .ok (.iload_n 3, 1) := by decide +kernel
theorem dX11_appends_161 : decode cX11_appends 161 = .ok (.ireturn, 1) := by decide +kernel
set_option maxRecDepth 20000 in
theorem ggX11_puts_X11_owns : GoodIn wsX11_puts wsX11_owns := goodIn_r _ [5, 6, 7, 1, 8, 9, 4, 10, 11, 12, 13, 14, 15, 16, 17, 18, 19, 20, 21, 22, 23, 24, 25, 26, 27, 28, 29, 30, 31, 32, 33, 34, 35, 36, 37, 38, 39, 40] (by decide +kernel) (by decide +kernel)
set_option maxRecDepth 20000 in
theorem gX11_puts_X11_owns : GoodIn wsX11_puts (va_wsS RX11 157 yX11_owns wsX11_owns) := goodIn_app (goodIn_of _ (by decide +kernel)) ggX11_puts_X11_owns
set_option maxRecDepth 20000 in
theorem ggX11_puts_X11_chunkOf : GoodIn wsX11_puts wsX11_chunkOf := goodIn_r _ [10] (by decide +kernel) (by decide +kernel)
set_option maxRecDepth 20000 in
theorem gX11_puts_X11_chunkOf : GoodIn wsX11_puts (va_wsS RX11 93 yX11_chunkOf wsX11_chunkOf) := goodIn_app (goodIn_of _ (by decide +kernel)) ggX11_puts_X11_chunkOf
set_option maxRecDepth 20000 in
theorem ggX11_puts_X11_leases : GoodIn wsX11_puts wsX11_leases := goodIn_r _ [43, 1, 11, 12, 4, 13, 14, 15, 16, 17, 18, 19, 20, 21, 22, 23, 24, 25, 26, 27, 28, 29, 34, 35, 36, 37, 38, 39, 40, 44, 45, 46, 47, 48, 49, 50, 51, 52, 53, 54, 55] (by decide +kernel) (by decide +kernel)
set_option maxRecDepth 20000 in
theorem gX11_puts_X11_leases : GoodIn wsX11_puts (va_wsS RX11 166 yX11_leases wsX11_leases) := goodIn_app (goodIn_of _ (by decide +kernel)) ggX11_puts_X11_leases
set_option maxRecDepth 20000 in
theorem ggX11_puts_X11_ables : GoodIn wsX11_puts wsX11_ables := goodIn_r _ [13, 14, 15, 4, 16, 17, 18, 19, 20, 21, 22, 23, 24, 25, 26, 27, 28, 29] (by decide +kernel) (by decide +kernel)
set_option maxRecDepth 20000 in
theorem gX11_puts_X11_ables : GoodIn wsX11_puts (va_wsS RX11 124 yX11_ables wsX11_ables) := goodIn_app (goodIn_of _ (by decide +kernel)) ggX11_puts_X11_ables
set_option maxRecDepth 20000 in
theorem ggX11_puts_X11_has : GoodIn wsX11_puts wsX11_has := goodIn_r _ [36] (by decide +kernel) (by decide +kernel)
set_option maxRecDepth 20000 in
theorem gX11_puts_X11_has : GoodIn wsX11_puts (va_wsS RX11 33 yX11_has wsX11_has) := goodIn_app (goodIn_of _ (by decide +kernel)) ggX11_puts_X11_has
set_option maxRecDepth 20000 in
theorem ggX11_puts_X11_copy : GoodIn wsX11_puts wsX11_copy := goodIn_r _ [25] (by decide +kernel) (by decide +kernel)
set_option maxRecDepth 20000 in
theorem gX11_puts_X11_copy : GoodIn wsX11_puts (va_wsS RX11 53 yX11_copy wsX11_copy) := goodIn_app (goodIn_of _ (by decide +kernel)) ggX11_puts_X11_copy
set_option maxRecDepth 20000 in
theorem ggX11_puts_X11_fails : GoodIn wsX11_puts wsX11_fails := goodIn_r _ [58] (by decide +kernel) (by decide +kernel)
set_option maxRecDepth 20000 in
theorem gX11_puts_X11_fails : GoodIn wsX11_puts (va_wsS RX11 147 yX11_fails wsX11_fails) := goodIn_app (goodIn_of _ (by decide +kernel)) ggX11_puts_X11_fails
set_option maxRecDepth 20000 in
theorem ggX11_puts_X11_withVersion : GoodIn wsX11_puts wsX11_withVersion := goodIn_r _ [39, 40] (by decide +kernel) (by decide +kernel)
set_option maxRecDepth 20000 in
theorem gX11_puts_X11_withVersion : GoodIn wsX11_puts (va_wsS RX11 120 yX11_withVersion wsX11_withVersion) := goodIn_app (goodIn_of _ (by decide +kernel)) ggX11_puts_X11_withVersion
set_option maxRecDepth 20000 in
theorem ggX11_puts_X11_withCell : GoodIn wsX11_puts wsX11_withCell := goodIn_r _ [61, 62, 33] (by decide +kernel) (by decide +kernel)
set_option maxRecDepth 20000 in
theorem gX11_puts_X11_withCell : GoodIn wsX11_puts (va_wsS RX11 139 yX11_withCell wsX11_withCell) := goodIn_app (goodIn_of _ (by decide +kernel)) ggX11_puts_X11_withCell
set_option maxRecDepth 20000 in
theorem ggX11_puts_X11_filled : GoodIn wsX11_puts wsX11_filled := goodIn_r _ [65, 66] (by decide +kernel) (by decide +kernel)
set_option maxRecDepth 20000 in
theorem gX11_puts_X11_filled : GoodIn wsX11_puts (va_wsS RX11 127 yX11_filled wsX11_filled) := goodIn_app (goodIn_of _ (by decide +kernel)) ggX11_puts_X11_filled
set_option maxRecDepth 20000 in
theorem ggX11_puts_X11_withFilled : GoodIn wsX11_puts wsX11_withFilled := goodIn_r _ [69, 70] (by decide +kernel) (by decide +kernel)
set_option maxRecDepth 20000 in
theorem gX11_puts_X11_withFilled : GoodIn wsX11_puts (va_wsS RX11 130 yX11_withFilled wsX11_withFilled) := goodIn_app (goodIn_of _ (by decide +kernel)) ggX11_puts_X11_withFilled
theorem dX11_puts_0 : decode cX11_puts 0 = .ok (.iload_n 2, 1) := by decide +kernel
theorem dX11_puts_1 : decode cX11_puts 1 = .ok (.aload_n 0, 1) := by decide +kernel
theorem dX11_puts_2 : decode cX11_puts 2 = .ok (.iconst 2, 1) := by decide +kernel
theorem dX11_puts_3 : decode cX11_puts 3 = .ok (.laload, 1) := by decide +kernel
theorem dX11_puts_4 : decode cX11_puts 4 = .ok (.l2i, 1) := by decide +kernel
theorem dX11_puts_5 : decode cX11_puts 5 = .ok (.idiv, 1) := by decide +kernel
theorem dX11_puts_6 : decode cX11_puts 6 = .ok (.istore 4, 2) := by decide +kernel
theorem dX11_puts_8 : decode cX11_puts 8 = .ok (.aload_n 0, 1) := by decide +kernel
theorem dX11_puts_9 : decode cX11_puts 9 = .ok (.iload_n 1, 1) := by decide +kernel
theorem dX11_puts_10 : decode cX11_puts 10 = .ok (.iload 4, 2) := by decide +kernel
theorem dX11_puts_12 : decode cX11_puts 12 = .ok (.invokestatic 157, 3) := by decide +kernel
theorem dX11_puts_15 : decode cX11_puts 15 = .ok (.istore 5, 2) := by decide +kernel
theorem dX11_puts_17 : decode cX11_puts 17 = .ok (.aload_n 0, 1) := by decide +kernel
theorem dX11_puts_18 : decode cX11_puts 18 = .ok (.iload_n 1, 1) := by decide +kernel
theorem dX11_puts_19 : decode cX11_puts 19 = .ok (.iload 4, 2) := by decide +kernel
theorem dX11_puts_21 : decode cX11_puts 21 = .ok (.invokestatic 93, 3) := by decide +kernel
theorem dX11_puts_24 : decode cX11_puts 24 = .ok (.istore 6, 2) := by decide +kernel
theorem dX11_puts_26 : decode cX11_puts 26 = .ok (.iload 5, 2) := by decide +kernel
theorem dX11_puts_28 : decode cX11_puts 28 = .ok (.ifCond .ne 12, 3) := by decide +kernel
theorem dX11_puts_31 : decode cX11_puts 31 = .ok (.aload_n 0, 1) := by decide +kernel
theorem dX11_puts_32 : decode cX11_puts 32 = .ok (.iload 6, 2) := by decide +kernel
theorem dX11_puts_34 : decode cX11_puts 34 = .ok (.invokestatic 166, 3) := by decide +kernel
theorem dX11_puts_37 : decode cX11_puts 37 = .ok (.goto 5, 3) := by decide +kernel
theorem dX11_puts_40 : decode cX11_puts 40 = .ok (.iload 5, 2) := by decide +kernel
theorem dX11_puts_42 : decode cX11_puts 42 = .ok (.istore 5, 2) := by decide +kernel
theorem dX11_puts_44 : decode cX11_puts 44 = .ok (.iload 5, 2) := by decide +kernel
theorem dX11_puts_46 : decode cX11_puts 46 = .ok (.ifCond .eq 6, 3) := by decide +kernel
theorem dX11_puts_49 : decode cX11_puts 49 = .ok (.iload 5, 2) := by decide +kernel
theorem dX11_puts_51 : decode cX11_puts 51 = .ok (.ireturn, 1) := by decide +kernel
theorem dX11_puts_52 : decode cX11_puts 52 = .ok (.iconst 0, 1) := by decide +kernel
theorem dX11_puts_53 : decode cX11_puts 53 = .ok (.istore 7, 2) := by decide +kernel
theorem dX11_puts_55 : decode cX11_puts 55 = .ok (.iload_n 2, 1) := by decide +kernel
theorem dX11_puts_56 : decode cX11_puts 56 = .ok (.aload_n 0, 1) := by decide +kernel
theorem dX11_puts_57 : decode cX11_puts 57 = .ok (.iconst 2, 1) := by decide +kernel
theorem dX11_puts_58 : decode cX11_puts 58 = .ok (.laload, 1) := by decide +kernel
theorem dX11_puts_59 : decode cX11_puts 59 = .ok (.l2i, 1) := by decide +kernel
theorem dX11_puts_60 : decode cX11_puts 60 = .ok (.irem, 1) := by decide +kernel
theorem dX11_puts_61 : decode cX11_puts 61 = .ok (.istore 8, 2) := by decide +kernel
theorem dX11_puts_63 : decode cX11_puts 63 = .ok (.aload_n 0, 1) := by decide +kernel
theorem dX11_puts_64 : decode cX11_puts 64 = .ok (.iload 6, 2) := by decide +kernel
theorem dX11_puts_66 : decode cX11_puts 66 = .ok (.invokestatic 124, 3) := by decide +kernel
theorem dX11_puts_69 : decode cX11_puts 69 = .ok (.istore 9, 2) := by decide +kernel
theorem dX11_puts_71 : decode cX11_puts 71 = .ok (.iconst 0, 1) := by decide +kernel
theorem dX11_puts_72 : decode cX11_puts 72 = .ok (.istore 10, 2) := by decide +kernel
theorem dX11_puts_74 : decode cX11_puts 74 = .ok (.iload 10, 2) := by decide +kernel
theorem dX11_puts_76 : decode cX11_puts 76 = .ok (.iconst 5, 1) := by decide +kernel
theorem dX11_puts_77 : decode cX11_puts 77 = .ok (.if_icmp .ge 123, 3) := by decide +kernel
theorem dX11_puts_80 : decode cX11_puts 80 = .ok (.iload 9, 2) := by decide +kernel
theorem dX11_puts_82 : decode cX11_puts 82 = .ok (.iload 10, 2) := by decide +kernel
theorem dX11_puts_84 : decode cX11_puts 84 = .ok (.invokestatic 33, 3) := by decide +kernel
theorem dX11_puts_87 : decode cX11_puts 87 = .ok (.ifCond .eq 107, 3) := by decide +kernel
theorem dX11_puts_90 : decode cX11_puts 90 = .ok (.aload_n 0, 1) := by decide +kernel
theorem dX11_puts_91 : decode cX11_puts 91 = .ok (.iload 6, 2) := by decide +kernel
theorem dX11_puts_93 : decode cX11_puts 93 = .ok (.iload 10, 2) := by decide +kernel
theorem dX11_puts_95 : decode cX11_puts 95 = .ok (.invokestatic 53, 3) := by decide +kernel
theorem dX11_puts_98 : decode cX11_puts 98 = .ok (.lstore 11, 2) := by decide +kernel
theorem dX11_puts_100 : decode cX11_puts 100 = .ok (.aload_n 0, 1) := by decide +kernel
theorem dX11_puts_101 : decode cX11_puts 101 = .ok (.iload 10, 2) := by decide +kernel
theorem dX11_puts_103 : decode cX11_puts 103 = .ok (.invokestatic 147, 3) := by decide +kernel
theorem dX11_puts_106 : decode cX11_puts 106 = .ok (.istore 13, 2) := by decide +kernel
theorem dX11_puts_108 : decode cX11_puts 108 = .ok (.iload 13, 2) := by decide +kernel
theorem dX11_puts_110 : decode cX11_puts 110 = .ok (.ifCond .eq 12, 3) := by decide +kernel
theorem dX11_puts_113 : decode cX11_puts 113 = .ok (.lload 11, 2) := by decide +kernel
theorem dX11_puts_115 : decode cX11_puts 115 = .ok (.lconst 0, 1) := by decide +kernel
theorem dX11_puts_116 : decode cX11_puts 116 = .ok (.invokestatic 120, 3) := by decide +kernel
theorem dX11_puts_119 : decode cX11_puts 119 = .ok (.goto 15, 3) := by decide +kernel
theorem dX11_puts_122 : decode cX11_puts 122 = .ok (.lload 11, 2) := by decide +kernel
theorem dX11_puts_124 : decode cX11_puts 124 = .ok (.iload 8, 2) := by decide +kernel
theorem dX11_puts_126 : decode cX11_puts 126 = .ok (.iload_n 3, 1) := by decide +kernel
theorem dX11_puts_127 : decode cX11_puts 127 = .ok (.bipush 96, 2) := by decide +kernel
theorem dX11_puts_129 : decode cX11_puts 129 = .ok (.isub, 1) := by decide +kernel
theorem dX11_puts_130 : decode cX11_puts 130 = .ok (.i2l, 1) := by decide +kernel
theorem dX11_puts_131 : decode cX11_puts 131 = .ok (.invokestatic 139, 3) := by decide +kernel
theorem dX11_puts_134 : decode cX11_puts 134 = .ok (.lstore 11, 2) := by decide +kernel
theorem dX11_puts_136 : decode cX11_puts 136 = .ok (.aload_n 0, 1) := by decide +kernel
theorem dX11_puts_137 : decode cX11_puts 137 = .ok (.sipush 190, 3) := by decide +kernel
theorem dX11_puts_140 : decode cX11_puts 140 = .ok (.iconst 5, 1) := by decide +kernel
theorem dX11_puts_141 : decode cX11_puts 141 = .ok (.iload 6, 2) := by decide +kernel
theorem dX11_puts_143 : decode cX11_puts 143 = .ok (.imul, 1) := by decide +kernel
theorem dX11_puts_144 : decode cX11_puts 144 = .ok (.iadd, 1) := by decide +kernel
theorem dX11_puts_145 : decode cX11_puts 145 = .ok (.iload 10, 2) := by decide +kernel
theorem dX11_puts_147 : decode cX11_puts 147 = .ok (.iadd, 1) := by decide +kernel
theorem dX11_puts_148 : decode cX11_puts 148 = .ok (.iload 13, 2) := by decide +kernel
theorem dX11_puts_150 : decode cX11_puts 150 = .ok (.ifCond .ne 13, 3) := by decide +kernel
theorem dX11_puts_153 : decode cX11_puts 153 = .ok (.lload 11, 2) := by decide +kernel
theorem dX11_puts_155 : decode cX11_puts 155 = .ok (.invokestatic 127, 3) := by decide +kernel
theorem dX11_puts_158 : decode cX11_puts 158 = .ok (.iload 8, 2) := by decide +kernel
theorem dX11_puts_160 : decode cX11_puts 160 = .ok (.if_icmp .le 8, 3) := by decide +kernel
theorem dX11_puts_163 : decode cX11_puts 163 = .ok (.lload 11, 2) := by decide +kernel
theorem dX11_puts_165 : decode cX11_puts 165 = .ok (.goto 13, 3) := by decide +kernel
theorem dX11_puts_168 : decode cX11_puts 168 = .ok (.lload 11, 2) := by decide +kernel
theorem dX11_puts_170 : decode cX11_puts 170 = .ok (.iload 8, 2) := by decide +kernel
theorem dX11_puts_172 : decode cX11_puts 172 = .ok (.iconst 1, 1) := by decide +kernel
theorem dX11_puts_173 : decode cX11_puts 173 = .ok (.iadd, 1) := by decide +kernel
theorem dX11_puts_174 : decode cX11_puts 174 = .ok (.i2l, 1) := by decide +kernel
theorem dX11_puts_175 : decode cX11_puts 175 = .ok (.invokestatic 130, 3) := by decide +kernel
theorem dX11_puts_178 : decode cX11_puts 178 = .ok (.lastore, 1) := by decide +kernel
theorem dX11_puts_179 : decode cX11_puts 179 = .ok (.iload 7, 2) := by decide +kernel
theorem dX11_puts_181 : decode cX11_puts 181 = .ok (.iload 13, 2) := by decide +kernel
theorem dX11_puts_183 : decode cX11_puts 183 = .ok (.ifCond .eq 7, 3) := by decide +kernel
theorem dX11_puts_186 : decode cX11_puts 186 = .ok (.iconst 0, 1) := by decide +kernel
theorem dX11_puts_187 : decode cX11_puts 187 = .ok (.goto 4, 3) := by decide +kernel
theorem dX11_puts_190 : decode cX11_puts 190 = .ok (.iconst 1, 1) := by decide +kernel
theorem dX11_puts_191 : decode cX11_puts 191 = .ok (.iadd, 1) := by decide +kernel
theorem dX11_puts_192 : decode cX11_puts 192 = .ok (.istore 7, 2) := by decide +kernel
theorem dX11_puts_194 : decode cX11_puts 194 = .ok (.iinc 10 1, 3) := by decide +kernel
theorem dX11_puts_197 : decode cX11_puts 197 = .ok (.goto (-123), 3) := by decide +kernel
theorem dX11_puts_200 : decode cX11_puts 200 = .ok (.iload 7, 2) := by decide +kernel
theorem dX11_puts_202 : decode cX11_puts 202 = .ok (.ifCond .ne 8, 3) := by decide +kernel
theorem dX11_puts_205 : decode cX11_puts 205 = .ok (.ldc 107, 2) := by decide +kernel
theorem dX11_puts_207 : decode cX11_puts 207 = .ok (.goto 5, 3) := by decide +kernel
theorem dX11_puts_210 : decode cX11_puts 210 = .ok (.iload 7, 2) := by decide +kernel
theorem dX11_puts_212 : decode cX11_puts 212 = .ok (.ireturn, 1) := by decide +kernel
set_option maxRecDepth 20000 in
theorem ggX11_goes_X11_many : GoodIn wsX11_goes wsX11_many := goodIn_r _ [4] (by decide +kernel) (by decide +kernel)
set_option maxRecDepth 20000 in
theorem gX11_goes_X11_many : GoodIn wsX11_goes (va_wsS RX11 90 yX11_many wsX11_many) := goodIn_app (goodIn_of _ (by decide +kernel)) ggX11_goes_X11_many
set_option maxRecDepth 20000 in
theorem ggX11_goes_X11_chunkOf : GoodIn wsX11_goes wsX11_chunkOf := goodIn_r _ [7] (by decide +kernel) (by decide +kernel)
set_option maxRecDepth 20000 in
theorem gX11_goes_X11_chunkOf : GoodIn wsX11_goes (va_wsS RX11 93 yX11_chunkOf wsX11_chunkOf) := goodIn_app (goodIn_of _ (by decide +kernel)) ggX11_goes_X11_chunkOf
theorem dX11_goes_0 : decode cX11_goes 0 = .ok (.aload_n 0, 1) := by decide +kernel
theorem dX11_goes_1 : decode cX11_goes 1 = .ok (.bipush 22, 2) := by decide +kernel
theorem dX11_goes_3 : decode cX11_goes 3 = .ok (.bipush 8, 2) := by decide +kernel
theorem dX11_goes_5 : decode cX11_goes 5 = .ok (.iload_n 1, 1) := by decide +kernel
theorem dX11_goes_6 : decode cX11_goes 6 = .ok (.imul, 1) := by decide +kernel
theorem dX11_goes_7 : decode cX11_goes 7 = .ok (.iadd, 1) := by decide +kernel
theorem dX11_goes_8 : decode cX11_goes 8 = .ok (.iconst 0, 1) := by decide +kernel
theorem dX11_goes_9 : decode cX11_goes 9 = .ok (.iadd, 1) := by decide +kernel
theorem dX11_goes_10 : decode cX11_goes 10 = .ok (.lconst 0, 1) := by decide +kernel
theorem dX11_goes_11 : decode cX11_goes 11 = .ok (.lastore, 1) := by decide +kernel
theorem dX11_goes_12 : decode cX11_goes 12 = .ok (.iconst 0, 1) := by decide +kernel
theorem dX11_goes_13 : decode cX11_goes 13 = .ok (.istore_n 2, 1) := by decide +kernel
theorem dX11_goes_14 : decode cX11_goes 14 = .ok (.iload_n 2, 1) := by decide +kernel
theorem dX11_goes_15 : decode cX11_goes 15 = .ok (.aload_n 0, 1) := by decide +kernel
theorem dX11_goes_16 : decode cX11_goes 16 = .ok (.iload_n 1, 1) := by decide +kernel
theorem dX11_goes_17 : decode cX11_goes 17 = .ok (.invokestatic 90, 3) := by decide +kernel
theorem dX11_goes_20 : decode cX11_goes 20 = .ok (.if_icmp .ge 28, 3) := by decide +kernel
theorem dX11_goes_23 : decode cX11_goes 23 = .ok (.aload_n 0, 1) := by decide +kernel
theorem dX11_goes_24 : decode cX11_goes 24 = .ok (.bipush 70, 2) := by decide +kernel
theorem dX11_goes_26 : decode cX11_goes 26 = .ok (.iconst 4, 1) := by decide +kernel
theorem dX11_goes_27 : decode cX11_goes 27 = .ok (.aload_n 0, 1) := by decide +kernel
theorem dX11_goes_28 : decode cX11_goes 28 = .ok (.iload_n 1, 1) := by decide +kernel
theorem dX11_goes_29 : decode cX11_goes 29 = .ok (.iload_n 2, 1) := by decide +kernel
theorem dX11_goes_30 : decode cX11_goes 30 = .ok (.invokestatic 93, 3) := by decide +kernel
theorem dX11_goes_33 : decode cX11_goes 33 = .ok (.imul, 1) := by decide +kernel
theorem dX11_goes_34 : decode cX11_goes 34 = .ok (.iadd, 1) := by decide +kernel
theorem dX11_goes_35 : decode cX11_goes 35 = .ok (.iconst 1, 1) := by decide +kernel
theorem dX11_goes_36 : decode cX11_goes 36 = .ok (.iadd, 1) := by decide +kernel
theorem dX11_goes_37 : decode cX11_goes 37 = .ok (.dup2, 1) := by decide +kernel
theorem dX11_goes_38 : decode cX11_goes 38 = .ok (.laload, 1) := by decide +kernel
theorem dX11_goes_39 : decode cX11_goes 39 = .ok (.lconst 1, 1) := by decide +kernel
theorem dX11_goes_40 : decode cX11_goes 40 = .ok (.lsub, 1) := by decide +kernel
theorem dX11_goes_41 : decode cX11_goes 41 = .ok (.lastore, 1) := by decide +kernel
theorem dX11_goes_42 : decode cX11_goes 42 = .ok (.iinc 2 1, 3) := by decide +kernel
theorem dX11_goes_45 : decode cX11_goes 45 = .ok (.goto (-31), 3) := by decide +kernel
theorem dX11_goes_48 : decode cX11_goes 48 = .ok (.aload_n 0, 1) := by decide +kernel
theorem dX11_goes_49 : decode cX11_goes 49 = .ok (.bipush 22, 2) := by decide +kernel
theorem dX11_goes_51 : decode cX11_goes 51 = .ok (.bipush 8, 2) := by decide +kernel
theorem dX11_goes_53 : decode cX11_goes 53 = .ok (.iload_n 1, 1) := by decide +kernel
theorem dX11_goes_54 : decode cX11_goes 54 = .ok (.imul, 1) := by decide +kernel
theorem dX11_goes_55 : decode cX11_goes 55 = .ok (.iadd, 1) := by decide +kernel
theorem dX11_goes_56 : decode cX11_goes 56 = .ok (.iconst 2, 1) := by decide +kernel
theorem dX11_goes_57 : decode cX11_goes 57 = .ok (.iadd, 1) := by decide +kernel
theorem dX11_goes_58 : decode cX11_goes 58 = .ok (.lconst 0, 1) := by decide +kernel
theorem dX11_goes_59 : decode cX11_goes 59 = .ok (.lastore, 1) := by decide +kernel
theorem dX11_goes_60 : decode cX11_goes 60 = .ok (.return_, 1) := by decide +kernel
set_option maxRecDepth 20000 in
theorem ggX11_wantedOf_X11_many : GoodIn wsX11_wantedOf wsX11_many := goodIn_r _ [4] (by decide +kernel) (by decide +kernel)
set_option maxRecDepth 20000 in
theorem gX11_wantedOf_X11_many : GoodIn wsX11_wantedOf (va_wsS RX11 90 yX11_many wsX11_many) := goodIn_app (goodIn_of _ (by decide +kernel)) ggX11_wantedOf_X11_many
set_option maxRecDepth 20000 in
theorem ggX11_wantedOf_X11_chunkOf : GoodIn wsX11_wantedOf wsX11_chunkOf := goodIn_r _ [7] (by decide +kernel) (by decide +kernel)
set_option maxRecDepth 20000 in
theorem gX11_wantedOf_X11_chunkOf : GoodIn wsX11_wantedOf (va_wsS RX11 93 yX11_chunkOf wsX11_chunkOf) := goodIn_app (goodIn_of _ (by decide +kernel)) ggX11_wantedOf_X11_chunkOf
set_option maxRecDepth 20000 in
theorem ggX11_wantedOf_X11_wanted : GoodIn wsX11_wantedOf wsX11_wanted := goodIn_r _ [10, 11, 12] (by decide +kernel) (by decide +kernel)
set_option maxRecDepth 20000 in
theorem gX11_wantedOf_X11_wanted : GoodIn wsX11_wantedOf (va_wsS RX11 108 yX11_wanted wsX11_wanted) := goodIn_app (goodIn_of _ (by decide +kernel)) ggX11_wantedOf_X11_wanted
theorem dX11_wantedOf_0 : decode cX11_wantedOf 0 = .ok (.iconst 0, 1) := by decide +kernel
theorem dX11_wantedOf_1 : decode cX11_wantedOf 1 = .ok (.istore_n 2, 1) := by decide +kernel
theorem dX11_wantedOf_2 : decode cX11_wantedOf 2 = .ok (.iconst 0, 1) := by decide +kernel
theorem dX11_wantedOf_3 : decode cX11_wantedOf 3 = .ok (.istore_n 3, 1) := by decide +kernel
theorem dX11_wantedOf_4 : decode cX11_wantedOf 4 = .ok (.iload_n 3, 1) := by decide +kernel
theorem dX11_wantedOf_5 : decode cX11_wantedOf 5 = .ok (.bipush 6, 2) := by decide +kernel
theorem dX11_wantedOf_7 : decode cX11_wantedOf 7 = .ok (.if_icmp .ge 89, 3) := by decide +kernel
theorem dX11_wantedOf_10 : decode cX11_wantedOf 10 = .ok (.iconst 0, 1) := by decide +kernel
theorem dX11_wantedOf_11 : decode cX11_wantedOf 11 = .ok (.istore 4, 2) := by decide +kernel
theorem dX11_wantedOf_13 : decode cX11_wantedOf 13 = .ok (.iload 4, 2) := by decide +kernel
theorem dX11_wantedOf_15 : decode cX11_wantedOf 15 = .ok (.aload_n 0, 1) := by decide +kernel
theorem dX11_wantedOf_16 : decode cX11_wantedOf 16 = .ok (.iload_n 3, 1) := by decide +kernel
theorem dX11_wantedOf_17 : decode cX11_wantedOf 17 = .ok (.invokestatic 90, 3) := by decide +kernel
theorem dX11_wantedOf_20 : decode cX11_wantedOf 20 = .ok (.if_icmp .ge 70, 3) := by decide +kernel
theorem dX11_wantedOf_23 : decode cX11_wantedOf 23 = .ok (.aload_n 0, 1) := by decide +kernel
theorem dX11_wantedOf_24 : decode cX11_wantedOf 24 = .ok (.iload_n 3, 1) := by decide +kernel
theorem dX11_wantedOf_25 : decode cX11_wantedOf 25 = .ok (.iload 4, 2) := by decide +kernel
theorem dX11_wantedOf_27 : decode cX11_wantedOf 27 = .ok (.invokestatic 93, 3) := by decide +kernel
theorem dX11_wantedOf_30 : decode cX11_wantedOf 30 = .ok (.iload_n 1, 1) := by decide +kernel
theorem dX11_wantedOf_31 : decode cX11_wantedOf 31 = .ok (.if_icmp .ne 37, 3) := by decide +kernel
theorem dX11_wantedOf_34 : decode cX11_wantedOf 34 = .ok (.aload_n 0, 1) := by decide +kernel
theorem dX11_wantedOf_35 : decode cX11_wantedOf 35 = .ok (.bipush 22, 2) := by decide +kernel
theorem dX11_wantedOf_37 : decode cX11_wantedOf 37 = .ok (.bipush 8, 2) := by decide +kernel
theorem dX11_wantedOf_39 : decode cX11_wantedOf 39 = .ok (.iload_n 3, 1) := by decide +kernel
theorem dX11_wantedOf_40 : decode cX11_wantedOf 40 = .ok (.imul, 1) := by decide +kernel
theorem dX11_wantedOf_41 : decode cX11_wantedOf 41 = .ok (.iadd, 1) := by decide +kernel
theorem dX11_wantedOf_42 : decode cX11_wantedOf 42 = .ok (.iconst 0, 1) := by decide +kernel
theorem dX11_wantedOf_43 : decode cX11_wantedOf 43 = .ok (.iadd, 1) := by decide +kernel
theorem dX11_wantedOf_44 : decode cX11_wantedOf 44 = .ok (.laload, 1) := by decide +kernel
theorem dX11_wantedOf_45 : decode cX11_wantedOf 45 = .ok (.lconst 0, 1) := by decide +kernel
theorem dX11_wantedOf_46 : decode cX11_wantedOf 46 = .ok (.lcmp, 1) := by decide +kernel
theorem dX11_wantedOf_47 : decode cX11_wantedOf 47 = .ok (.ifCond .eq 21, 3) := by decide +kernel
theorem dX11_wantedOf_50 : decode cX11_wantedOf 50 = .ok (.aload_n 0, 1) := by decide +kernel
theorem dX11_wantedOf_51 : decode cX11_wantedOf 51 = .ok (.aload_n 0, 1) := by decide +kernel
theorem dX11_wantedOf_52 : decode cX11_wantedOf 52 = .ok (.bipush 22, 2) := by decide +kernel
theorem dX11_wantedOf_54 : decode cX11_wantedOf 54 = .ok (.bipush 8, 2) := by decide +kernel
theorem dX11_wantedOf_56 : decode cX11_wantedOf 56 = .ok (.iload_n 3, 1) := by decide +kernel
theorem dX11_wantedOf_57 : decode cX11_wantedOf 57 = .ok (.imul, 1) := by decide +kernel
theorem dX11_wantedOf_58 : decode cX11_wantedOf 58 = .ok (.iadd, 1) := by decide +kernel
theorem dX11_wantedOf_59 : decode cX11_wantedOf 59 = .ok (.iconst 1, 1) := by decide +kernel
theorem dX11_wantedOf_60 : decode cX11_wantedOf 60 = .ok (.iadd, 1) := by decide +kernel
theorem dX11_wantedOf_61 : decode cX11_wantedOf 61 = .ok (.laload, 1) := by decide +kernel
theorem dX11_wantedOf_62 : decode cX11_wantedOf 62 = .ok (.invokestatic 108, 3) := by decide +kernel
theorem dX11_wantedOf_65 : decode cX11_wantedOf 65 = .ok (.goto 4, 3) := by decide +kernel
theorem dX11_wantedOf_68 : decode cX11_wantedOf 68 = .ok (.iconst 0, 1) := by decide +kernel
theorem dX11_wantedOf_69 : decode cX11_wantedOf 69 = .ok (.istore 5, 2) := by decide +kernel
theorem dX11_wantedOf_71 : decode cX11_wantedOf 71 = .ok (.iload 5, 2) := by decide +kernel
theorem dX11_wantedOf_73 : decode cX11_wantedOf 73 = .ok (.iload_n 2, 1) := by decide +kernel
theorem dX11_wantedOf_74 : decode cX11_wantedOf 74 = .ok (.if_icmp .le 8, 3) := by decide +kernel
theorem dX11_wantedOf_77 : decode cX11_wantedOf 77 = .ok (.iload 5, 2) := by decide +kernel
theorem dX11_wantedOf_79 : decode cX11_wantedOf 79 = .ok (.goto 4, 3) := by decide +kernel
theorem dX11_wantedOf_82 : decode cX11_wantedOf 82 = .ok (.iload_n 2, 1) := by decide +kernel
theorem dX11_wantedOf_83 : decode cX11_wantedOf 83 = .ok (.istore_n 2, 1) := by decide +kernel
theorem dX11_wantedOf_84 : decode cX11_wantedOf 84 = .ok (.iinc 4 1, 3) := by decide +kernel
theorem dX11_wantedOf_87 : decode cX11_wantedOf 87 = .ok (.goto (-74), 3) := by decide +kernel
theorem dX11_wantedOf_90 : decode cX11_wantedOf 90 = .ok (.iinc 3 1, 3) := by decide +kernel
theorem dX11_wantedOf_93 : decode cX11_wantedOf 93 = .ok (.goto (-89), 3) := by decide +kernel
theorem dX11_wantedOf_96 : decode cX11_wantedOf 96 = .ok (.iload_n 2, 1) := by decide +kernel
theorem dX11_wantedOf_97 : decode cX11_wantedOf 97 = .ok (.ireturn, 1) := by decide +kernel
set_option maxRecDepth 20000 in
theorem ggX11_poor_X11_ables : GoodIn wsX11_poor wsX11_ables := goodIn_r _ [5, 6, 7, 4, 8, 9, 10, 11, 12, 13, 14, 15, 16, 17, 18, 19, 20, 21] (by decide +kernel) (by decide +kernel)
set_option maxRecDepth 20000 in
theorem gX11_poor_X11_ables : GoodIn wsX11_poor (va_wsS RX11 124 yX11_ables wsX11_ables) := goodIn_app (goodIn_of _ (by decide +kernel)) ggX11_poor_X11_ables
set_option maxRecDepth 20000 in
theorem ggX11_poor_X11_ones : GoodIn wsX11_poor wsX11_ones := goodIn_r _ [24, 25, 26, 4, 27] (by decide +kernel) (by decide +kernel)
set_option maxRecDepth 20000 in
theorem gX11_poor_X11_ones : GoodIn wsX11_poor (va_wsS RX11 180 yX11_ones wsX11_ones) := goodIn_app (goodIn_of _ (by decide +kernel)) ggX11_poor_X11_ones
set_option maxRecDepth 20000 in
theorem ggX11_poor_X11_wantedOf : GoodIn wsX11_poor wsX11_wantedOf := goodIn_r _ [30, 31, 32, 4, 33, 34, 35, 36, 37, 38, 39, 40, 41] (by decide +kernel) (by decide +kernel)
set_option maxRecDepth 20000 in
theorem gX11_poor_X11_wantedOf : GoodIn wsX11_poor (va_wsS RX11 183 yX11_wantedOf wsX11_wantedOf) := goodIn_app (goodIn_of _ (by decide +kernel)) ggX11_poor_X11_wantedOf
set_option maxRecDepth 20000 in
theorem ggX11_poor_X11_ups : GoodIn wsX11_poor wsX11_ups := goodIn_r _ [44, 9, 10, 4, 11] (by decide +kernel) (by decide +kernel)
set_option maxRecDepth 20000 in
theorem gX11_poor_X11_ups : GoodIn wsX11_poor (va_wsS RX11 97 yX11_ups wsX11_ups) := goodIn_app (goodIn_of _ (by decide +kernel)) ggX11_poor_X11_ups
theorem dX11_poor_0 : decode cX11_poor 0 = .ok (.iconst 0, 1) := by decide +kernel
theorem dX11_poor_1 : decode cX11_poor 1 = .ok (.istore_n 1, 1) := by decide +kernel
theorem dX11_poor_2 : decode cX11_poor 2 = .ok (.iload_n 1, 1) := by decide +kernel
theorem dX11_poor_3 : decode cX11_poor 3 = .ok (.i2l, 1) := by decide +kernel
theorem dX11_poor_4 : decode cX11_poor 4 = .ok (.aload_n 0, 1) := by decide +kernel
theorem dX11_poor_5 : decode cX11_poor 5 = .ok (.bipush 6, 2) := by decide +kernel
theorem dX11_poor_7 : decode cX11_poor 7 = .ok (.laload, 1) := by decide +kernel
theorem dX11_poor_8 : decode cX11_poor 8 = .ok (.lcmp, 1) := by decide +kernel
theorem dX11_poor_9 : decode cX11_poor 9 = .ok (.ifCond .ge 59, 3) := by decide +kernel
theorem dX11_poor_12 : decode cX11_poor 12 = .ok (.aload_n 0, 1) := by decide +kernel
theorem dX11_poor_13 : decode cX11_poor 13 = .ok (.iload_n 1, 1) := by decide +kernel
theorem dX11_poor_14 : decode cX11_poor 14 = .ok (.invokestatic 124, 3) := by decide +kernel
theorem dX11_poor_17 : decode cX11_poor 17 = .ok (.istore_n 2, 1) := by decide +kernel
theorem dX11_poor_18 : decode cX11_poor 18 = .ok (.aload_n 0, 1) := by decide +kernel
theorem dX11_poor_19 : decode cX11_poor 19 = .ok (.bipush 70, 2) := by decide +kernel
theorem dX11_poor_21 : decode cX11_poor 21 = .ok (.iconst 4, 1) := by decide +kernel
theorem dX11_poor_22 : decode cX11_poor 22 = .ok (.iload_n 1, 1) := by decide +kernel
theorem dX11_poor_23 : decode cX11_poor 23 = .ok (.imul, 1) := by decide +kernel
theorem dX11_poor_24 : decode cX11_poor 24 = .ok (.iadd, 1) := by decide +kernel
theorem dX11_poor_25 : decode cX11_poor 25 = .ok (.iconst 1, 1) := by decide +kernel
theorem dX11_poor_26 : decode cX11_poor 26 = .ok (.iadd, 1) := by decide +kernel
theorem dX11_poor_27 : decode cX11_poor 27 = .ok (.laload, 1) := by decide +kernel
theorem dX11_poor_28 : decode cX11_poor 28 = .ok (.lconst 0, 1) := by decide +kernel
theorem dX11_poor_29 : decode cX11_poor 29 = .ok (.lcmp, 1) := by decide +kernel
theorem dX11_poor_30 : decode cX11_poor 30 = .ok (.ifCond .le 32, 3) := by decide +kernel
theorem dX11_poor_33 : decode cX11_poor 33 = .ok (.iload_n 2, 1) := by decide +kernel
theorem dX11_poor_34 : decode cX11_poor 34 = .ok (.ifCond .eq 28, 3) := by decide +kernel
theorem dX11_poor_37 : decode cX11_poor 37 = .ok (.iload_n 2, 1) := by decide +kernel
theorem dX11_poor_38 : decode cX11_poor 38 = .ok (.invokestatic 180, 3) := by decide +kernel
theorem dX11_poor_41 : decode cX11_poor 41 = .ok (.aload_n 0, 1) := by decide +kernel
theorem dX11_poor_42 : decode cX11_poor 42 = .ok (.iload_n 1, 1) := by decide +kernel
theorem dX11_poor_43 : decode cX11_poor 43 = .ok (.invokestatic 183, 3) := by decide +kernel
theorem dX11_poor_46 : decode cX11_poor 46 = .ok (.if_icmp .ge 16, 3) := by decide +kernel
theorem dX11_poor_49 : decode cX11_poor 49 = .ok (.aload_n 0, 1) := by decide +kernel
theorem dX11_poor_50 : decode cX11_poor 50 = .ok (.invokestatic 97, 3) := by decide +kernel
theorem dX11_poor_53 : decode cX11_poor 53 = .ok (.iload_n 2, 1) := by decide +kernel
theorem dX11_poor_54 : decode cX11_poor 54 = .ok (.iconst (-1), 1) := by decide +kernel
theorem dX11_poor_55 : decode cX11_poor 55 = .ok (.ixor, 1) := by decide +kernel
theorem dX11_poor_56 : decode cX11_poor 56 = .ok (.iand, 1) := by decide +kernel
theorem dX11_poor_57 : decode cX11_poor 57 = .ok (.ifCond .eq 5, 3) := by decide +kernel
theorem dX11_poor_60 : decode cX11_poor 60 = .ok (.iload_n 1, 1) := by decide +kernel
theorem dX11_poor_61 : decode cX11_poor 61 = .ok (.ireturn, 1) := by decide +kernel
theorem dX11_poor_62 : decode cX11_poor 62 = .ok (.iinc 1 1, 3) := by decide +kernel
theorem dX11_poor_65 : decode cX11_poor 65 = .ok (.goto (-63), 3) := by decide +kernel
theorem dX11_poor_68 : decode cX11_poor 68 = .ok (.ldc 186, 2) := by decide +kernel
theorem dX11_poor_70 : decode cX11_poor 70 = .ok (.ireturn, 1) := by decide +kernel
set_option maxRecDepth 20000 in
theorem ggX11_gives_X11_ables : GoodIn wsX11_gives wsX11_ables := goodIn_r _ [4, 5, 6, 3, 7, 8, 9, 10, 11, 12, 13, 14, 15, 16, 17, 18, 19, 20] (by decide +kernel) (by decide +kernel)
set_option maxRecDepth 20000 in
theorem gX11_gives_X11_ables : GoodIn wsX11_gives (va_wsS RX11 124 yX11_ables wsX11_ables) := goodIn_app (goodIn_of _ (by decide +kernel)) ggX11_gives_X11_ables
set_option maxRecDepth 20000 in
theorem ggX11_gives_X11_ups : GoodIn wsX11_gives wsX11_ups := goodIn_r _ [23, 8, 9, 3, 10] (by decide +kernel) (by decide +kernel)
set_option maxRecDepth 20000 in
theorem gX11_gives_X11_ups : GoodIn wsX11_gives (va_wsS RX11 97 yX11_ups wsX11_ups) := goodIn_app (goodIn_of _ (by decide +kernel)) ggX11_gives_X11_ups
set_option maxRecDepth 20000 in
theorem ggX11_gives_X11_best : GoodIn wsX11_gives wsX11_best := goodIn_r _ [26, 27, 28, 3, 29, 30, 31, 32, 33, 34, 35, 36, 37, 38, 14, 15, 16] (by decide +kernel) (by decide +kernel)
set_option maxRecDepth 20000 in
theorem gX11_gives_X11_best : GoodIn wsX11_gives (va_wsS RX11 101 yX11_best wsX11_best) := goodIn_app (goodIn_of _ (by decide +kernel)) ggX11_gives_X11_best
set_option maxRecDepth 20000 in
theorem ggX11_gives_X11_least : GoodIn wsX11_gives wsX11_least := goodIn_r _ [29, 30, 31, 3, 32] (by decide +kernel) (by decide +kernel)
set_option maxRecDepth 20000 in
theorem gX11_gives_X11_least : GoodIn wsX11_gives (va_wsS RX11 76 yX11_least wsX11_least) := goodIn_app (goodIn_of _ (by decide +kernel)) ggX11_gives_X11_least
set_option maxRecDepth 20000 in
theorem ggX11_gives_X11_copy : GoodIn wsX11_gives wsX11_copy := goodIn_r _ [16] (by decide +kernel) (by decide +kernel)
set_option maxRecDepth 20000 in
theorem gX11_gives_X11_copy : GoodIn wsX11_gives (va_wsS RX11 53 yX11_copy wsX11_copy) := goodIn_app (goodIn_of _ (by decide +kernel)) ggX11_gives_X11_copy
theorem dX11_gives_0 : decode cX11_gives 0 = .ok (.aload_n 0, 1) := by decide +kernel
theorem dX11_gives_1 : decode cX11_gives 1 = .ok (.iload_n 1, 1) := by decide +kernel
theorem dX11_gives_2 : decode cX11_gives 2 = .ok (.invokestatic 124, 3) := by decide +kernel
theorem dX11_gives_5 : decode cX11_gives 5 = .ok (.istore_n 2, 1) := by decide +kernel
theorem dX11_gives_6 : decode cX11_gives 6 = .ok (.aload_n 0, 1) := by decide +kernel
theorem dX11_gives_7 : decode cX11_gives 7 = .ok (.sipush 190, 3) := by decide +kernel
theorem dX11_gives_10 : decode cX11_gives 10 = .ok (.iconst 5, 1) := by decide +kernel
theorem dX11_gives_11 : decode cX11_gives 11 = .ok (.iload_n 1, 1) := by decide +kernel
theorem dX11_gives_12 : decode cX11_gives 12 = .ok (.imul, 1) := by decide +kernel
theorem dX11_gives_13 : decode cX11_gives 13 = .ok (.iadd, 1) := by decide +kernel
theorem dX11_gives_14 : decode cX11_gives 14 = .ok (.aload_n 0, 1) := by decide +kernel
theorem dX11_gives_15 : decode cX11_gives 15 = .ok (.aload_n 0, 1) := by decide +kernel
theorem dX11_gives_16 : decode cX11_gives 16 = .ok (.invokestatic 97, 3) := by decide +kernel
theorem dX11_gives_19 : decode cX11_gives 19 = .ok (.iload_n 2, 1) := by decide +kernel
theorem dX11_gives_20 : decode cX11_gives 20 = .ok (.iconst (-1), 1) := by decide +kernel
theorem dX11_gives_21 : decode cX11_gives 21 = .ok (.ixor, 1) := by decide +kernel
theorem dX11_gives_22 : decode cX11_gives 22 = .ok (.iand, 1) := by decide +kernel
theorem dX11_gives_23 : decode cX11_gives 23 = .ok (.invokestatic 101, 3) := by decide +kernel
theorem dX11_gives_26 : decode cX11_gives 26 = .ok (.iadd, 1) := by decide +kernel
theorem dX11_gives_27 : decode cX11_gives 27 = .ok (.aload_n 0, 1) := by decide +kernel
theorem dX11_gives_28 : decode cX11_gives 28 = .ok (.iload_n 1, 1) := by decide +kernel
theorem dX11_gives_29 : decode cX11_gives 29 = .ok (.iload_n 2, 1) := by decide +kernel
theorem dX11_gives_30 : decode cX11_gives 30 = .ok (.invokestatic 76, 3) := by decide +kernel
theorem dX11_gives_33 : decode cX11_gives 33 = .ok (.invokestatic 53, 3) := by decide +kernel
theorem dX11_gives_36 : decode cX11_gives 36 = .ok (.lastore, 1) := by decide +kernel
theorem dX11_gives_37 : decode cX11_gives 37 = .ok (.return_, 1) := by decide +kernel
theorem dX11_byteAt_0 : decode cX11_byteAt 0 = .ok (.iload_n 1, 1) := by decide +kernel
theorem dX11_byteAt_1 : decode cX11_byteAt 1 = .ok (.aload_n 0, 1) := by decide +kernel
theorem dX11_byteAt_2 : decode cX11_byteAt 2 = .ok (.getfield 187, 3) := by decide +kernel
theorem dX11_byteAt_5 : decode cX11_byteAt 5 = .ok (.if_icmp .ge 12, 3) := by decide +kernel
theorem dX11_byteAt_8 : decode cX11_byteAt 8 = .ok (.aload_n 0, 1) := by decide +kernel
theorem dX11_byteAt_9 : decode cX11_byteAt 9 = .ok (.getfield 26, 3) := by decide +kernel
theorem dX11_byteAt_12 : decode cX11_byteAt 12 = .ok (.iload_n 1, 1) := by decide +kernel
theorem dX11_byteAt_13 : decode cX11_byteAt 13 = .ok (.iaload, 1) := by decide +kernel
theorem dX11_byteAt_14 : decode cX11_byteAt 14 = .ok (.goto 4, 3) := by decide +kernel
theorem dX11_byteAt_17 : decode cX11_byteAt 17 = .ok (.iconst (-1), 1) := by decide +kernel
theorem dX11_byteAt_18 : decode cX11_byteAt 18 = .ok (.ireturn, 1) := by decide +kernel
set_option maxRecDepth 20000 in
theorem ggX11_reads_X11_byteAt : GoodIn wsX11_reads wsX11_byteAt := goodIn_r _ [13, 14, 15, 19, 20, 21, 22, 23, 24, 25, 26, 27, 28, 29, 30, 31, 32, 33, 34, 35] (by decide +kernel) (by decide +kernel)
set_option maxRecDepth 20000 in
theorem gX11_reads_X11_byteAt : GoodIn wsX11_reads (wsV RX11 196 RX11 yX11_byteAt wsX11_byteAt) := goodIn_app (goodIn_of _ (by decide +kernel)) ggX11_reads_X11_byteAt
set_option maxRecDepth 20000 in
theorem ggX11_reads_X11_in : GoodIn wsX11_reads wsX11_in := goodIn_r _ [18] (by decide +kernel) (by decide +kernel)
set_option maxRecDepth 20000 in
theorem gX11_reads_X11_in : GoodIn wsX11_reads (va_wsS RX11 206 yX11_in wsX11_in) := goodIn_app (goodIn_of _ (by decide +kernel)) ggX11_reads_X11_in
theorem dX11_reads_0 : decode cX11_reads 0 = .ok (.aload_n 0, 1) := by decide +kernel
theorem dX11_reads_1 : decode cX11_reads 1 = .ok (.aload_n 0, 1) := by decide +kernel
theorem dX11_reads_2 : decode cX11_reads 2 = .ok (.getfield 190, 3) := by decide +kernel
theorem dX11_reads_5 : decode cX11_reads 5 = .ok (.putfield 193, 3) := by decide +kernel
theorem dX11_reads_8 : decode cX11_reads 8 = .ok (.aload_n 0, 1) := by decide +kernel
theorem dX11_reads_9 : decode cX11_reads 9 = .ok (.aload_n 0, 1) := by decide +kernel
theorem dX11_reads_10 : decode cX11_reads 10 = .ok (.getfield 190, 3) := by decide +kernel
theorem dX11_reads_13 : decode cX11_reads 13 = .ok (.invokevirtual 196, 3) := by decide +kernel
theorem dX11_reads_16 : decode cX11_reads 16 = .ok (.istore_n 1, 1) := by decide +kernel
theorem dX11_reads_17 : decode cX11_reads 17 = .ok (.aload_n 0, 1) := by decide +kernel
theorem dX11_reads_18 : decode cX11_reads 18 = .ok (.iload_n 1, 1) := by decide +kernel
theorem dX11_reads_19 : decode cX11_reads 19 = .ok (.putfield 199, 3) := by decide +kernel
theorem dX11_reads_22 : decode cX11_reads 22 = .ok (.aload_n 0, 1) := by decide +kernel
theorem dX11_reads_23 : decode cX11_reads 23 = .ok (.dup, 1) := by decide +kernel
theorem dX11_reads_24 : decode cX11_reads 24 = .ok (.getfield 190, 3) := by decide +kernel
theorem dX11_reads_27 : decode cX11_reads 27 = .ok (.iload_n 1, 1) := by decide +kernel
theorem dX11_reads_28 : decode cX11_reads 28 = .ok (.ifCond .ge 7, 3) := by decide +kernel
theorem dX11_reads_31 : decode cX11_reads 31 = .ok (.iconst 0, 1) := by decide +kernel
theorem dX11_reads_32 : decode cX11_reads 32 = .ok (.goto 4, 3) := by decide +kernel
theorem dX11_reads_35 : decode cX11_reads 35 = .ok (.iconst 1, 1) := by decide +kernel
theorem dX11_reads_36 : decode cX11_reads 36 = .ok (.iadd, 1) := by decide +kernel
theorem dX11_reads_37 : decode cX11_reads 37 = .ok (.putfield 190, 3) := by decide +kernel
theorem dX11_reads_40 : decode cX11_reads 40 = .ok (.aload_n 0, 1) := by decide +kernel
theorem dX11_reads_41 : decode cX11_reads 41 = .ok (.iload_n 1, 1) := by decide +kernel
theorem dX11_reads_42 : decode cX11_reads 42 = .ok (.ifCond .ge 7, 3) := by decide +kernel
theorem dX11_reads_45 : decode cX11_reads 45 = .ok (.iconst 0, 1) := by decide +kernel
theorem dX11_reads_46 : decode cX11_reads 46 = .ok (.goto 56, 3) := by decide +kernel
theorem dX11_reads_49 : decode cX11_reads 49 = .ok (.iload_n 1, 1) := by decide +kernel
theorem dX11_reads_50 : decode cX11_reads 50 = .ok (.i2l, 1) := by decide +kernel
theorem dX11_reads_51 : decode cX11_reads 51 = .ok (.ldc2_w 202, 3) := by decide +kernel
theorem dX11_reads_54 : decode cX11_reads 54 = .ok (.ldc2_w 204, 3) := by decide +kernel
theorem dX11_reads_57 : decode cX11_reads 57 = .ok (.invokestatic 206, 3) := by decide +kernel
theorem dX11_reads_60 : decode cX11_reads 60 = .ok (.ifCond .eq 7, 3) := by decide +kernel
theorem dX11_reads_63 : decode cX11_reads 63 = .ok (.iconst 1, 1) := by decide +kernel
theorem dX11_reads_64 : decode cX11_reads 64 = .ok (.goto 38, 3) := by decide +kernel
theorem dX11_reads_67 : decode cX11_reads 67 = .ok (.iload_n 1, 1) := by decide +kernel
theorem dX11_reads_68 : decode cX11_reads 68 = .ok (.i2l, 1) := by decide +kernel
theorem dX11_reads_69 : decode cX11_reads 69 = .ok (.ldc2_w 210, 3) := by decide +kernel
theorem dX11_reads_72 : decode cX11_reads 72 = .ok (.ldc2_w 212, 3) := by decide +kernel
theorem dX11_reads_75 : decode cX11_reads 75 = .ok (.invokestatic 206, 3) := by decide +kernel
theorem dX11_reads_78 : decode cX11_reads 78 = .ok (.ifCond .eq 7, 3) := by decide +kernel
theorem dX11_reads_81 : decode cX11_reads 81 = .ok (.iconst 2, 1) := by decide +kernel
theorem dX11_reads_82 : decode cX11_reads 82 = .ok (.goto 20, 3) := by decide +kernel
theorem dX11_reads_85 : decode cX11_reads 85 = .ok (.iload_n 1, 1) := by decide +kernel
theorem dX11_reads_86 : decode cX11_reads 86 = .ok (.bipush 44, 2) := by decide +kernel
theorem dX11_reads_88 : decode cX11_reads 88 = .ok (.if_icmp .eq 9, 3) := by decide +kernel
theorem dX11_reads_91 : decode cX11_reads 91 = .ok (.iload_n 1, 1) := by decide +kernel
theorem dX11_reads_92 : decode cX11_reads 92 = .ok (.bipush 59, 2) := by decide +kernel
theorem dX11_reads_94 : decode cX11_reads 94 = .ok (.if_icmp .ne 7, 3) := by decide +kernel
theorem dX11_reads_97 : decode cX11_reads 97 = .ok (.iconst 3, 1) := by decide +kernel
theorem dX11_reads_98 : decode cX11_reads 98 = .ok (.goto 4, 3) := by decide +kernel
theorem dX11_reads_101 : decode cX11_reads 101 = .ok (.iconst 4, 1) := by decide +kernel
theorem dX11_reads_102 : decode cX11_reads 102 = .ok (.putfield 214, 3) := by decide +kernel
theorem dX11_reads_105 : decode cX11_reads 105 = .ok (.aload_n 0, 1) := by decide +kernel
theorem dX11_reads_106 : decode cX11_reads 106 = .ok (.getfield 214, 3) := by decide +kernel
theorem dX11_reads_109 : decode cX11_reads 109 = .ok (.iconst 2, 1) := by decide +kernel
theorem dX11_reads_110 : decode cX11_reads 110 = .ok (.if_icmp .ne 110, 3) := by decide +kernel
theorem dX11_reads_113 : decode cX11_reads 113 = .ok (.aload_n 0, 1) := by decide +kernel
theorem dX11_reads_114 : decode cX11_reads 114 = .ok (.iload_n 1, 1) := by decide +kernel
theorem dX11_reads_115 : decode cX11_reads 115 = .ok (.bipush 48, 2) := by decide +kernel
theorem dX11_reads_117 : decode cX11_reads 117 = .ok (.isub, 1) := by decide +kernel
theorem dX11_reads_118 : decode cX11_reads 118 = .ok (.putfield 199, 3) := by decide +kernel
theorem dX11_reads_121 : decode cX11_reads 121 = .ok (.aload_n 0, 1) := by decide +kernel
theorem dX11_reads_122 : decode cX11_reads 122 = .ok (.aload_n 0, 1) := by decide +kernel
theorem dX11_reads_123 : decode cX11_reads 123 = .ok (.getfield 190, 3) := by decide +kernel
theorem dX11_reads_126 : decode cX11_reads 126 = .ok (.invokevirtual 196, 3) := by decide +kernel
theorem dX11_reads_129 : decode cX11_reads 129 = .ok (.i2l, 1) := by decide +kernel
theorem dX11_reads_130 : decode cX11_reads 130 = .ok (.ldc2_w 210, 3) := by decide +kernel
theorem dX11_reads_133 : decode cX11_reads 133 = .ok (.ldc2_w 212, 3) := by decide +kernel
theorem dX11_reads_136 : decode cX11_reads 136 = .ok (.invokestatic 206, 3) := by decide +kernel
theorem dX11_reads_139 : decode cX11_reads 139 = .ok (.ifCond .eq 59, 3) := by decide +kernel
theorem dX11_reads_142 : decode cX11_reads 142 = .ok (.aload_n 0, 1) := by decide +kernel
theorem dX11_reads_143 : decode cX11_reads 143 = .ok (.aload_n 0, 1) := by decide +kernel
theorem dX11_reads_144 : decode cX11_reads 144 = .ok (.getfield 190, 3) := by decide +kernel
theorem dX11_reads_147 : decode cX11_reads 147 = .ok (.aload_n 0, 1) := by decide +kernel
theorem dX11_reads_148 : decode cX11_reads 148 = .ok (.getfield 193, 3) := by decide +kernel
theorem dX11_reads_151 : decode cX11_reads 151 = .ok (.isub, 1) := by decide +kernel
theorem dX11_reads_152 : decode cX11_reads 152 = .ok (.iconst 2, 1) := by decide +kernel
theorem dX11_reads_153 : decode cX11_reads 153 = .ok (.if_icmp .ge 25, 3) := by decide +kernel
theorem dX11_reads_156 : decode cX11_reads 156 = .ok (.bipush 10, 2) := by decide +kernel
theorem dX11_reads_158 : decode cX11_reads 158 = .ok (.aload_n 0, 1) := by decide +kernel
theorem dX11_reads_159 : decode cX11_reads 159 = .ok (.getfield 199, 3) := by decide +kernel
theorem dX11_reads_162 : decode cX11_reads 162 = .ok (.imul, 1) := by decide +kernel
theorem dX11_reads_163 : decode cX11_reads 163 = .ok (.aload_n 0, 1) := by decide +kernel
theorem dX11_reads_164 : decode cX11_reads 164 = .ok (.aload_n 0, 1) := by decide +kernel
theorem dX11_reads_165 : decode cX11_reads 165 = .ok (.getfield 190, 3) := by decide +kernel
theorem dX11_reads_168 : decode cX11_reads 168 = .ok (.invokevirtual 196, 3) := by decide +kernel
theorem dX11_reads_171 : decode cX11_reads 171 = .ok (.iadd, 1) := by decide +kernel
theorem dX11_reads_172 : decode cX11_reads 172 = .ok (.bipush 48, 2) := by decide +kernel
theorem dX11_reads_174 : decode cX11_reads 174 = .ok (.isub, 1) := by decide +kernel
theorem dX11_reads_175 : decode cX11_reads 175 = .ok (.goto 7, 3) := by decide +kernel
theorem dX11_reads_178 : decode cX11_reads 178 = .ok (.aload_n 0, 1) := by decide +kernel
theorem dX11_reads_179 : decode cX11_reads 179 = .ok (.getfield 199, 3) := by decide +kernel
theorem dX11_reads_182 : decode cX11_reads 182 = .ok (.putfield 199, 3) := by decide +kernel
theorem dX11_reads_185 : decode cX11_reads 185 = .ok (.aload_n 0, 1) := by decide +kernel
theorem dX11_reads_186 : decode cX11_reads 186 = .ok (.dup, 1) := by decide +kernel
theorem dX11_reads_187 : decode cX11_reads 187 = .ok (.getfield 190, 3) := by decide +kernel
theorem dX11_reads_190 : decode cX11_reads 190 = .ok (.iconst 1, 1) := by decide +kernel
theorem dX11_reads_191 : decode cX11_reads 191 = .ok (.iadd, 1) := by decide +kernel
theorem dX11_reads_192 : decode cX11_reads 192 = .ok (.putfield 190, 3) := by decide +kernel
theorem dX11_reads_195 : decode cX11_reads 195 = .ok (.goto (-74), 3) := by decide +kernel
theorem dX11_reads_198 : decode cX11_reads 198 = .ok (.aload_n 0, 1) := by decide +kernel
theorem dX11_reads_199 : decode cX11_reads 199 = .ok (.aload_n 0, 1) := by decide +kernel
theorem dX11_reads_200 : decode cX11_reads 200 = .ok (.getfield 190, 3) := by decide +kernel
theorem dX11_reads_203 : decode cX11_reads 203 = .ok (.aload_n 0, 1) := by decide +kernel
theorem dX11_reads_204 : decode cX11_reads 204 = .ok (.getfield 193, 3) := by decide +kernel
theorem dX11_reads_207 : decode cX11_reads 207 = .ok (.isub, 1) := by decide +kernel
theorem dX11_reads_208 : decode cX11_reads 208 = .ok (.iconst 2, 1) := by decide +kernel
theorem dX11_reads_209 : decode cX11_reads 209 = .ok (.if_icmp .le 7, 3) := by decide +kernel
theorem dX11_reads_212 : decode cX11_reads 212 = .ok (.iconst 4, 1) := by decide +kernel
theorem dX11_reads_213 : decode cX11_reads 213 = .ok (.goto 4, 3) := by decide +kernel
theorem dX11_reads_216 : decode cX11_reads 216 = .ok (.iconst 2, 1) := by decide +kernel
theorem dX11_reads_217 : decode cX11_reads 217 = .ok (.putfield 214, 3) := by decide +kernel
theorem dX11_reads_220 : decode cX11_reads 220 = .ok (.return_, 1) := by decide +kernel
theorem dX11_bad_0 : decode cX11_bad 0 = .ok (.aload_n 0, 1) := by decide +kernel
theorem dX11_bad_1 : decode cX11_bad 1 = .ok (.getfield 217, 3) := by decide +kernel
theorem dX11_bad_4 : decode cX11_bad 4 = .ok (.ifCond .ne 16, 3) := by decide +kernel
theorem dX11_bad_7 : decode cX11_bad 7 = .ok (.aload_n 0, 1) := by decide +kernel
theorem dX11_bad_8 : decode cX11_bad 8 = .ok (.iload_n 1, 1) := by decide +kernel
theorem dX11_bad_9 : decode cX11_bad 9 = .ok (.putfield 217, 3) := by decide +kernel
theorem dX11_bad_12 : decode cX11_bad 12 = .ok (.aload_n 0, 1) := by decide +kernel
theorem dX11_bad_13 : decode cX11_bad 13 = .ok (.aload_n 0, 1) := by decide +kernel
theorem dX11_bad_14 : decode cX11_bad 14 = .ok (.getfield 193, 3) := by decide +kernel
theorem dX11_bad_17 : decode cX11_bad 17 = .ok (.putfield 220, 3) := by decide +kernel
theorem dX11_bad_20 : decode cX11_bad 20 = .ok (.return_, 1) := by decide +kernel
set_option maxRecDepth 20000 in
theorem ggX11_goesOn_X11_reads : GoodIn wsX11_goesOn wsX11_reads := goodIn_r _ [6, 7, 8, 9, 10, 11, 12, 13, 14, 15, 16, 17, 5, 18, 19, 20, 21, 22, 23, 24, 25, 26, 27, 28, 29, 30, 31, 32, 33, 34, 35, 36, 37, 38, 39, 40] (by decide +kernel) (by decide +kernel)
set_option maxRecDepth 20000 in
theorem gX11_goesOn_X11_reads : GoodIn wsX11_goesOn (wsV RX11 223 RX11 yX11_reads wsX11_reads) := goodIn_app (goodIn_of _ (by decide +kernel)) ggX11_goesOn_X11_reads
theorem dX11_goesOn_0 : decode cX11_goesOn 0 = .ok (.aload_n 0, 1) := by decide +kernel
theorem dX11_goesOn_1 : decode cX11_goesOn 1 = .ok (.getfield 217, 3) := by decide +kernel
theorem dX11_goesOn_4 : decode cX11_goesOn 4 = .ok (.ifCond .ne 7, 3) := by decide +kernel
theorem dX11_goesOn_7 : decode cX11_goesOn 7 = .ok (.aload_n 0, 1) := by decide +kernel
theorem dX11_goesOn_8 : decode cX11_goesOn 8 = .ok (.invokevirtual 223, 3) := by decide +kernel
theorem dX11_goesOn_11 : decode cX11_goesOn 11 = .ok (.return_, 1) := by decide +kernel
set_option maxRecDepth 20000 in
theorem ggX11_number_X11_bad : GoodIn wsX11_number wsX11_bad := goodIn_r _ [8, 3, 9, 10, 33, 34, 35, 36, 37, 38, 39, 40, 41, 42, 43, 44, 45, 46, 47, 48, 49] (by decide +kernel) (by decide +kernel)
set_option maxRecDepth 20000 in
theorem gX11_number_X11_bad : GoodIn wsX11_number (wsV RX11 226 RX11 yX11_bad wsX11_bad) := goodIn_app (goodIn_of _ (by decide +kernel)) ggX11_number_X11_bad
set_option maxRecDepth 20000 in
theorem ggX11_number_X11_in : GoodIn wsX11_number wsX11_in := goodIn_r _ [13] (by decide +kernel) (by decide +kernel)
set_option maxRecDepth 20000 in
theorem gX11_number_X11_in : GoodIn wsX11_number (va_wsS RX11 206 yX11_in wsX11_in) := goodIn_app (goodIn_of _ (by decide +kernel)) ggX11_number_X11_in
set_option maxRecDepth 20000 in
theorem ggX11_number_X11_goesOn : GoodIn wsX11_number wsX11_goesOn := goodIn_r _ [17, 3, 18, 19, 20, 7, 21, 22, 9, 2, 23, 24, 25, 26, 1, 27, 28, 29, 30, 31, 32, 11, 12, 13, 33, 34, 35, 36, 37, 38, 39, 40, 41, 42, 43, 44, 45, 46, 47, 48, 49] (by decide +kernel) (by decide +kernel)
set_option maxRecDepth 20000 in
theorem gX11_number_X11_goesOn : GoodIn wsX11_number (wsV RX11 230 RX11 yX11_goesOn wsX11_goesOn) := goodIn_app (goodIn_of _ (by decide +kernel)) ggX11_number_X11_goesOn
theorem dX11_number_0 : decode cX11_number 0 = .ok (.aload_n 0, 1) := by decide +kernel
theorem dX11_number_1 : decode cX11_number 1 = .ok (.getfield 214, 3) := by decide +kernel
theorem dX11_number_4 : decode cX11_number 4 = .ok (.iconst 2, 1) := by decide +kernel
theorem dX11_number_5 : decode cX11_number 5 = .ok (.if_icmp .eq 11, 3) := by decide +kernel
theorem dX11_number_8 : decode cX11_number 8 = .ok (.aload_n 0, 1) := by decide +kernel
theorem dX11_number_9 : decode cX11_number 9 = .ok (.iconst 1, 1) := by decide +kernel
theorem dX11_number_10 : decode cX11_number 10 = .ok (.invokevirtual 226, 3) := by decide +kernel
theorem dX11_number_13 : decode cX11_number 13 = .ok (.goto 23, 3) := by decide +kernel
theorem dX11_number_16 : decode cX11_number 16 = .ok (.aload_n 0, 1) := by decide +kernel
theorem dX11_number_17 : decode cX11_number 17 = .ok (.getfield 199, 3) := by decide +kernel
theorem dX11_number_20 : decode cX11_number 20 = .ok (.i2l, 1) := by decide +kernel
theorem dX11_number_21 : decode cX11_number 21 = .ok (.iload_n 1, 1) := by decide +kernel
theorem dX11_number_22 : decode cX11_number 22 = .ok (.i2l, 1) := by decide +kernel
theorem dX11_number_23 : decode cX11_number 23 = .ok (.iload_n 2, 1) := by decide +kernel
theorem dX11_number_24 : decode cX11_number 24 = .ok (.i2l, 1) := by decide +kernel
theorem dX11_number_25 : decode cX11_number 25 = .ok (.invokestatic 206, 3) := by decide +kernel
theorem dX11_number_28 : decode cX11_number 28 = .ok (.ifCond .ne 8, 3) := by decide +kernel
theorem dX11_number_31 : decode cX11_number 31 = .ok (.aload_n 0, 1) := by decide +kernel
theorem dX11_number_32 : decode cX11_number 32 = .ok (.iconst 2, 1) := by decide +kernel
theorem dX11_number_33 : decode cX11_number 33 = .ok (.invokevirtual 226, 3) := by decide +kernel
theorem dX11_number_36 : decode cX11_number 36 = .ok (.aload_n 0, 1) := by decide +kernel
theorem dX11_number_37 : decode cX11_number 37 = .ok (.getfield 217, 3) := by decide +kernel
theorem dX11_number_40 : decode cX11_number 40 = .ok (.ifCond .ne 10, 3) := by decide +kernel
theorem dX11_number_43 : decode cX11_number 43 = .ok (.aload_n 0, 1) := by decide +kernel
theorem dX11_number_44 : decode cX11_number 44 = .ok (.getfield 199, 3) := by decide +kernel
theorem dX11_number_47 : decode cX11_number 47 = .ok (.goto 4, 3) := by decide +kernel
theorem dX11_number_50 : decode cX11_number 50 = .ok (.iload_n 1, 1) := by decide +kernel
theorem dX11_number_51 : decode cX11_number 51 = .ok (.istore_n 3, 1) := by decide +kernel
theorem dX11_number_52 : decode cX11_number 52 = .ok (.aload_n 0, 1) := by decide +kernel
theorem dX11_number_53 : decode cX11_number 53 = .ok (.invokevirtual 230, 3) := by decide +kernel
theorem dX11_number_56 : decode cX11_number 56 = .ok (.iload_n 3, 1) := by decide +kernel
theorem dX11_number_57 : decode cX11_number 57 = .ok (.ireturn, 1) := by decide +kernel
set_option maxRecDepth 20000 in
theorem ggX11_sign_X11_bad : GoodIn wsX11_sign wsX11_bad := goodIn_r _ [7, 8, 9, 10, 33, 34, 35, 36, 37, 38, 39, 40, 41, 42, 43, 44, 45, 46, 47, 48, 49] (by decide +kernel) (by decide +kernel)
set_option maxRecDepth 20000 in
theorem gX11_sign_X11_bad : GoodIn wsX11_sign (wsV RX11 226 RX11 yX11_bad wsX11_bad) := goodIn_app (goodIn_of _ (by decide +kernel)) ggX11_sign_X11_bad
set_option maxRecDepth 20000 in
theorem ggX11_sign_X11_goesOn : GoodIn wsX11_sign wsX11_goesOn := goodIn_r _ [14, 8, 15, 16, 17, 6, 18, 19, 9, 2, 20, 21, 22, 23, 1, 24, 25, 26, 27, 28, 29, 30, 31, 32, 33, 34, 35, 36, 37, 38, 39, 40, 41, 42, 43, 44, 45, 46, 47, 48, 49] (by decide +kernel) (by decide +kernel)
set_option maxRecDepth 20000 in
theorem gX11_sign_X11_goesOn : GoodIn wsX11_sign (wsV RX11 230 RX11 yX11_goesOn wsX11_goesOn) := goodIn_app (goodIn_of _ (by decide +kernel)) ggX11_sign_X11_goesOn
theorem dX11_sign_0 : decode cX11_sign 0 = .ok (.aload_n 0, 1) := by decide +kernel
theorem dX11_sign_1 : decode cX11_sign 1 = .ok (.getfield 214, 3) := by decide +kernel
theorem dX11_sign_4 : decode cX11_sign 4 = .ok (.iconst 3, 1) := by decide +kernel
theorem dX11_sign_5 : decode cX11_sign 5 = .ok (.if_icmp .ne 11, 3) := by decide +kernel
theorem dX11_sign_8 : decode cX11_sign 8 = .ok (.aload_n 0, 1) := by decide +kernel
theorem dX11_sign_9 : decode cX11_sign 9 = .ok (.getfield 199, 3) := by decide +kernel
theorem dX11_sign_12 : decode cX11_sign 12 = .ok (.iload_n 1, 1) := by decide +kernel
theorem dX11_sign_13 : decode cX11_sign 13 = .ok (.if_icmp .eq 8, 3) := by decide +kernel
theorem dX11_sign_16 : decode cX11_sign 16 = .ok (.aload_n 0, 1) := by decide +kernel
theorem dX11_sign_17 : decode cX11_sign 17 = .ok (.iconst 1, 1) := by decide +kernel
theorem dX11_sign_18 : decode cX11_sign 18 = .ok (.invokevirtual 226, 3) := by decide +kernel
theorem dX11_sign_21 : decode cX11_sign 21 = .ok (.aload_n 0, 1) := by decide +kernel
theorem dX11_sign_22 : decode cX11_sign 22 = .ok (.invokevirtual 230, 3) := by decide +kernel
theorem dX11_sign_25 : decode cX11_sign 25 = .ok (.return_, 1) := by decide +kernel
theorem dX11_isLetter_0 : decode cX11_isLetter 0 = .ok (.aload_n 0, 1) := by decide +kernel
theorem dX11_isLetter_1 : decode cX11_isLetter 1 = .ok (.getfield 217, 3) := by decide +kernel
theorem dX11_isLetter_4 : decode cX11_isLetter 4 = .ok (.ifCond .ne 23, 3) := by decide +kernel
theorem dX11_isLetter_7 : decode cX11_isLetter 7 = .ok (.aload_n 0, 1) := by decide +kernel
theorem dX11_isLetter_8 : decode cX11_isLetter 8 = .ok (.getfield 214, 3) := by decide +kernel
theorem dX11_isLetter_11 : decode cX11_isLetter 11 = .ok (.iconst 1, 1) := by decide +kernel
theorem dX11_isLetter_12 : decode cX11_isLetter 12 = .ok (.if_icmp .ne 15, 3) := by decide +kernel
theorem dX11_isLetter_15 : decode cX11_isLetter 15 = .ok (.aload_n 0, 1) := by decide +kernel
theorem dX11_isLetter_16 : decode cX11_isLetter 16 = .ok (.getfield 199, 3) := by decide +kernel
theorem dX11_isLetter_19 : decode cX11_isLetter 19 = .ok (.iload_n 1, 1) := by decide +kernel
theorem dX11_isLetter_20 : decode cX11_isLetter 20 = .ok (.if_icmp .ne 7, 3) := by decide +kernel
theorem dX11_isLetter_23 : decode cX11_isLetter 23 = .ok (.iconst 1, 1) := by decide +kernel
theorem dX11_isLetter_24 : decode cX11_isLetter 24 = .ok (.goto 4, 3) := by decide +kernel
theorem dX11_isLetter_27 : decode cX11_isLetter 27 = .ok (.iconst 0, 1) := by decide +kernel
theorem dX11_isLetter_28 : decode cX11_isLetter 28 = .ok (.ireturn, 1) := by decide +kernel
set_option maxRecDepth 20000 in
theorem ggX11_feed_X11_in : GoodIn wsX11_feed wsX11_in := goodIn_r _ [9] (by decide +kernel) (by decide +kernel)
set_option maxRecDepth 20000 in
theorem gX11_feed_X11_in : GoodIn wsX11_feed (va_wsS RX11 206 yX11_in wsX11_in) := goodIn_app (goodIn_of _ (by decide +kernel)) ggX11_feed_X11_in
theorem dX11_feed_0 : decode cX11_feed 0 = .ok (.iload_n 1, 1) := by decide +kernel
theorem dX11_feed_1 : decode cX11_feed 1 = .ok (.i2l, 1) := by decide +kernel
theorem dX11_feed_2 : decode cX11_feed 2 = .ok (.lconst 0, 1) := by decide +kernel
theorem dX11_feed_3 : decode cX11_feed 3 = .ok (.ldc2_w 233, 3) := by decide +kernel
theorem dX11_feed_6 : decode cX11_feed 6 = .ok (.invokestatic 206, 3) := by decide +kernel
theorem dX11_feed_9 : decode cX11_feed 9 = .ok (.ifCond .ne 6, 3) := by decide +kernel
theorem dX11_feed_12 : decode cX11_feed 12 = .ok (.ldc 235, 2) := by decide +kernel
theorem dX11_feed_14 : decode cX11_feed 14 = .ok (.ireturn, 1) := by decide +kernel
theorem dX11_feed_15 : decode cX11_feed 15 = .ok (.aload_n 0, 1) := by decide +kernel
theorem dX11_feed_16 : decode cX11_feed 16 = .ok (.getfield 187, 3) := by decide +kernel
theorem dX11_feed_19 : decode cX11_feed 19 = .ok (.bipush 80, 2) := by decide +kernel
theorem dX11_feed_21 : decode cX11_feed 21 = .ok (.if_icmp .ne 6, 3) := by decide +kernel
theorem dX11_feed_24 : decode cX11_feed 24 = .ok (.ldc 106, 2) := by decide +kernel
theorem dX11_feed_26 : decode cX11_feed 26 = .ok (.ireturn, 1) := by decide +kernel
theorem dX11_feed_27 : decode cX11_feed 27 = .ok (.aload_n 0, 1) := by decide +kernel
theorem dX11_feed_28 : decode cX11_feed 28 = .ok (.getfield 26, 3) := by decide +kernel
theorem dX11_feed_31 : decode cX11_feed 31 = .ok (.aload_n 0, 1) := by decide +kernel
theorem dX11_feed_32 : decode cX11_feed 32 = .ok (.getfield 187, 3) := by decide +kernel
theorem dX11_feed_35 : decode cX11_feed 35 = .ok (.iload_n 1, 1) := by decide +kernel
theorem dX11_feed_36 : decode cX11_feed 36 = .ok (.iastore, 1) := by decide +kernel
theorem dX11_feed_37 : decode cX11_feed 37 = .ok (.aload_n 0, 1) := by decide +kernel
theorem dX11_feed_38 : decode cX11_feed 38 = .ok (.dup, 1) := by decide +kernel
theorem dX11_feed_39 : decode cX11_feed 39 = .ok (.getfield 187, 3) := by decide +kernel
theorem dX11_feed_42 : decode cX11_feed 42 = .ok (.iconst 1, 1) := by decide +kernel
theorem dX11_feed_43 : decode cX11_feed 43 = .ok (.iadd, 1) := by decide +kernel
theorem dX11_feed_44 : decode cX11_feed 44 = .ok (.putfield 187, 3) := by decide +kernel
theorem dX11_feed_47 : decode cX11_feed 47 = .ok (.aload_n 0, 1) := by decide +kernel
theorem dX11_feed_48 : decode cX11_feed 48 = .ok (.getfield 187, 3) := by decide +kernel
theorem dX11_feed_51 : decode cX11_feed 51 = .ok (.ireturn, 1) := by decide +kernel
set_option maxRecDepth 20000 in
theorem ggX11_readsServers_X11_isLetter : GoodIn wsX11_readsServers wsX11_isLetter := goodIn_r _ [7, 2, 8, 9, 46, 47, 48, 49, 50, 51, 52, 53, 54, 55, 56, 57, 58, 59, 60, 61, 62] (by decide +kernel) (by decide +kernel)
set_option maxRecDepth 20000 in
theorem gX11_readsServers_X11_isLetter : GoodIn wsX11_readsServers (wsV RX11 236 RX11 yX11_isLetter wsX11_isLetter) := goodIn_app (goodIn_of _ (by decide +kernel)) ggX11_readsServers_X11_isLetter
set_option maxRecDepth 20000 in
theorem ggX11_readsServers_X11_bad : GoodIn wsX11_readsServers wsX11_bad := goodIn_r _ [13, 2, 14, 15, 46, 47, 48, 49, 50, 51, 52, 53, 54, 55, 56, 57, 58, 59, 60, 61, 62] (by decide +kernel) (by decide +kernel)
set_option maxRecDepth 20000 in
theorem gX11_readsServers_X11_bad : GoodIn wsX11_readsServers (wsV RX11 226 RX11 yX11_bad wsX11_bad) := goodIn_app (goodIn_of _ (by decide +kernel)) ggX11_readsServers_X11_bad
set_option maxRecDepth 20000 in
theorem ggX11_readsServers_X11_goesOn : GoodIn wsX11_readsServers wsX11_goesOn := goodIn_r _ [19, 2, 20, 21, 22, 6, 23, 24, 14, 9, 25, 26, 27, 28, 8, 29, 30, 31, 32, 33, 34, 35, 36, 37, 46, 47, 48, 49, 50, 51, 52, 53, 54, 55, 56, 57, 58, 59, 60, 61, 62] (by decide +kernel) (by decide +kernel)
set_option maxRecDepth 20000 in
theorem gX11_readsServers_X11_goesOn : GoodIn wsX11_readsServers (wsV RX11 230 RX11 yX11_goesOn wsX11_goesOn) := goodIn_app (goodIn_of _ (by decide +kernel)) ggX11_readsServers_X11_goesOn
set_option maxRecDepth 20000 in
theorem ggX11_readsServers_X11_number : GoodIn wsX11_readsServers wsX11_number := goodIn_r _ [41, 8, 9, 2, 10, 11, 12, 6, 13, 14, 15, 35, 36, 37, 16, 17, 18, 19, 20, 21, 22, 23, 24, 25, 26, 27, 28, 29, 30, 31, 32, 33, 34, 46, 47, 48, 49, 50, 51, 52, 53, 54, 55, 56, 57, 58, 59, 60, 61, 62] (by decide +kernel) (by decide +kernel)
set_option maxRecDepth 20000 in
theorem gX11_readsServers_X11_number : GoodIn wsX11_readsServers (wsV RX11 240 RX11 yX11_number wsX11_number) := goodIn_app (goodIn_of _ (by decide +kernel)) ggX11_readsServers_X11_number
set_option maxRecDepth 20000 in
theorem ggX11_readsServers_X11_sign : GoodIn wsX11_readsServers wsX11_sign := goodIn_r _ [45, 8, 9, 10, 11, 12, 6, 13, 2, 14, 15, 16, 17, 18, 19, 20, 21, 22, 23, 24, 25, 26, 27, 28, 29, 30, 31, 32, 33, 34, 35, 36, 37, 46, 47, 48, 49, 50, 51, 52, 53, 54, 55, 56, 57, 58, 59, 60, 61, 62] (by decide +kernel) (by decide +kernel)
set_option maxRecDepth 20000 in
theorem gX11_readsServers_X11_sign : GoodIn wsX11_readsServers (wsV RX11 244 RX11 yX11_sign wsX11_sign) := goodIn_app (goodIn_of _ (by decide +kernel)) ggX11_readsServers_X11_sign
theorem dX11_readsServers_0 : decode cX11_readsServers 0 = .ok (.iconst 0, 1) := by decide +kernel
theorem dX11_readsServers_1 : decode cX11_readsServers 1 = .ok (.istore_n 1, 1) := by decide +kernel
theorem dX11_readsServers_2 : decode cX11_readsServers 2 = .ok (.aload_n 0, 1) := by decide +kernel
theorem dX11_readsServers_3 : decode cX11_readsServers 3 = .ok (.bipush 115, 2) := by decide +kernel
theorem dX11_readsServers_5 : decode cX11_readsServers 5 = .ok (.invokevirtual 236, 3) := by decide +kernel
theorem dX11_readsServers_8 : decode cX11_readsServers 8 = .ok (.ifCond .eq 66, 3) := by decide +kernel
theorem dX11_readsServers_11 : decode cX11_readsServers 11 = .ok (.iload_n 1, 1) := by decide +kernel
theorem dX11_readsServers_12 : decode cX11_readsServers 12 = .ok (.i2l, 1) := by decide +kernel
theorem dX11_readsServers_13 : decode cX11_readsServers 13 = .ok (.aload_n 0, 1) := by decide +kernel
theorem dX11_readsServers_14 : decode cX11_readsServers 14 = .ok (.getfield 13, 3) := by decide +kernel
theorem dX11_readsServers_17 : decode cX11_readsServers 17 = .ok (.iconst 0, 1) := by decide +kernel
theorem dX11_readsServers_18 : decode cX11_readsServers 18 = .ok (.laload, 1) := by decide +kernel
theorem dX11_readsServers_19 : decode cX11_readsServers 19 = .ok (.lcmp, 1) := by decide +kernel
theorem dX11_readsServers_20 : decode cX11_readsServers 20 = .ok (.ifCond .ne 8, 3) := by decide +kernel
theorem dX11_readsServers_23 : decode cX11_readsServers 23 = .ok (.aload_n 0, 1) := by decide +kernel
theorem dX11_readsServers_24 : decode cX11_readsServers 24 = .ok (.iconst 3, 1) := by decide +kernel
theorem dX11_readsServers_25 : decode cX11_readsServers 25 = .ok (.invokevirtual 226, 3) := by decide +kernel
theorem dX11_readsServers_28 : decode cX11_readsServers 28 = .ok (.aload_n 0, 1) := by decide +kernel
theorem dX11_readsServers_29 : decode cX11_readsServers 29 = .ok (.invokevirtual 230, 3) := by decide +kernel
theorem dX11_readsServers_32 : decode cX11_readsServers 32 = .ok (.aload_n 0, 1) := by decide +kernel
theorem dX11_readsServers_33 : decode cX11_readsServers 33 = .ok (.iconst 1, 1) := by decide +kernel
theorem dX11_readsServers_34 : decode cX11_readsServers 34 = .ok (.bipush 9, 2) := by decide +kernel
theorem dX11_readsServers_36 : decode cX11_readsServers 36 = .ok (.invokevirtual 240, 3) := by decide +kernel
theorem dX11_readsServers_39 : decode cX11_readsServers 39 = .ok (.istore_n 2, 1) := by decide +kernel
theorem dX11_readsServers_40 : decode cX11_readsServers 40 = .ok (.aload_n 0, 1) := by decide +kernel
theorem dX11_readsServers_41 : decode cX11_readsServers 41 = .ok (.bipush 59, 2) := by decide +kernel
theorem dX11_readsServers_43 : decode cX11_readsServers 43 = .ok (.invokevirtual 244, 3) := by decide +kernel
theorem dX11_readsServers_46 : decode cX11_readsServers 46 = .ok (.aload_n 0, 1) := by decide +kernel
theorem dX11_readsServers_47 : decode cX11_readsServers 47 = .ok (.getfield 217, 3) := by decide +kernel
theorem dX11_readsServers_50 : decode cX11_readsServers 50 = .ok (.ifCond .ne 21, 3) := by decide +kernel
theorem dX11_readsServers_53 : decode cX11_readsServers 53 = .ok (.aload_n 0, 1) := by decide +kernel
theorem dX11_readsServers_54 : decode cX11_readsServers 54 = .ok (.getfield 13, 3) := by decide +kernel
theorem dX11_readsServers_57 : decode cX11_readsServers 57 = .ok (.bipush 7, 2) := by decide +kernel
theorem dX11_readsServers_59 : decode cX11_readsServers 59 = .ok (.iconst 3, 1) := by decide +kernel
theorem dX11_readsServers_60 : decode cX11_readsServers 60 = .ok (.iload_n 1, 1) := by decide +kernel
theorem dX11_readsServers_61 : decode cX11_readsServers 61 = .ok (.imul, 1) := by decide +kernel
theorem dX11_readsServers_62 : decode cX11_readsServers 62 = .ok (.iadd, 1) := by decide +kernel
theorem dX11_readsServers_63 : decode cX11_readsServers 63 = .ok (.iconst 1, 1) := by decide +kernel
theorem dX11_readsServers_64 : decode cX11_readsServers 64 = .ok (.iadd, 1) := by decide +kernel
theorem dX11_readsServers_65 : decode cX11_readsServers 65 = .ok (.iload_n 2, 1) := by decide +kernel
theorem dX11_readsServers_66 : decode cX11_readsServers 66 = .ok (.i2l, 1) := by decide +kernel
theorem dX11_readsServers_67 : decode cX11_readsServers 67 = .ok (.lastore, 1) := by decide +kernel
theorem dX11_readsServers_68 : decode cX11_readsServers 68 = .ok (.iinc 1 1, 3) := by decide +kernel
theorem dX11_readsServers_71 : decode cX11_readsServers 71 = .ok (.goto (-69), 3) := by decide +kernel
theorem dX11_readsServers_74 : decode cX11_readsServers 74 = .ok (.return_, 1) := by decide +kernel
set_option maxRecDepth 20000 in
theorem ggX11_readsFiles_X11_isLetter : GoodIn wsX11_readsFiles wsX11_isLetter := goodIn_r _ [7, 1, 8, 9, 46, 47, 48, 49, 50, 51, 52, 53, 54, 55, 56, 57, 58, 59, 60, 61, 62] (by decide +kernel) (by decide +kernel)
set_option maxRecDepth 20000 in
theorem gX11_readsFiles_X11_isLetter : GoodIn wsX11_readsFiles (wsV RX11 236 RX11 yX11_isLetter wsX11_isLetter) := goodIn_app (goodIn_of _ (by decide +kernel)) ggX11_readsFiles_X11_isLetter
set_option maxRecDepth 20000 in
theorem ggX11_readsFiles_X11_bad : GoodIn wsX11_readsFiles wsX11_bad := goodIn_r _ [13, 1, 14, 15, 46, 47, 48, 49, 50, 51, 52, 53, 54, 55, 56, 57, 58, 59, 60, 61, 62] (by decide +kernel) (by decide +kernel)
set_option maxRecDepth 20000 in
theorem gX11_readsFiles_X11_bad : GoodIn wsX11_readsFiles (wsV RX11 226 RX11 yX11_bad wsX11_bad) := goodIn_app (goodIn_of _ (by decide +kernel)) ggX11_readsFiles_X11_bad
set_option maxRecDepth 20000 in
theorem ggX11_readsFiles_X11_goesOn : GoodIn wsX11_readsFiles wsX11_goesOn := goodIn_r _ [19, 1, 20, 21, 22, 6, 23, 24, 14, 9, 25, 26, 27, 28, 8, 29, 30, 31, 32, 33, 34, 35, 36, 37, 46, 47, 48, 49, 50, 51, 52, 53, 54, 55, 56, 57, 58, 59, 60, 61, 62] (by decide +kernel) (by decide +kernel)
set_option maxRecDepth 20000 in
theorem gX11_readsFiles_X11_goesOn : GoodIn wsX11_readsFiles (wsV RX11 230 RX11 yX11_goesOn wsX11_goesOn) := goodIn_app (goodIn_of _ (by decide +kernel)) ggX11_readsFiles_X11_goesOn
set_option maxRecDepth 20000 in
theorem ggX11_readsFiles_X11_number : GoodIn wsX11_readsFiles wsX11_number := goodIn_r _ [41, 8, 9, 1, 10, 11, 12, 6, 13, 14, 15, 35, 36, 37, 16, 17, 18, 19, 20, 21, 22, 23, 24, 25, 26, 27, 28, 29, 30, 31, 32, 33, 34, 46, 47, 48, 49, 50, 51, 52, 53, 54, 55, 56, 57, 58, 59, 60, 61, 62] (by decide +kernel) (by decide +kernel)
set_option maxRecDepth 20000 in
theorem gX11_readsFiles_X11_number : GoodIn wsX11_readsFiles (wsV RX11 240 RX11 yX11_number wsX11_number) := goodIn_app (goodIn_of _ (by decide +kernel)) ggX11_readsFiles_X11_number
set_option maxRecDepth 20000 in
theorem ggX11_readsFiles_X11_sign : GoodIn wsX11_readsFiles wsX11_sign := goodIn_r _ [45, 8, 9, 10, 11, 12, 6, 13, 1, 14, 15, 16, 17, 18, 19, 20, 21, 22, 23, 24, 25, 26, 27, 28, 29, 30, 31, 32, 33, 34, 35, 36, 37, 46, 47, 48, 49, 50, 51, 52, 53, 54, 55, 56, 57, 58, 59, 60, 61, 62] (by decide +kernel) (by decide +kernel)
set_option maxRecDepth 20000 in
theorem gX11_readsFiles_X11_sign : GoodIn wsX11_readsFiles (wsV RX11 244 RX11 yX11_sign wsX11_sign) := goodIn_app (goodIn_of _ (by decide +kernel)) ggX11_readsFiles_X11_sign
theorem dX11_readsFiles_0 : decode cX11_readsFiles 0 = .ok (.iconst 0, 1) := by decide +kernel
theorem dX11_readsFiles_1 : decode cX11_readsFiles 1 = .ok (.istore_n 1, 1) := by decide +kernel
theorem dX11_readsFiles_2 : decode cX11_readsFiles 2 = .ok (.aload_n 0, 1) := by decide +kernel
theorem dX11_readsFiles_3 : decode cX11_readsFiles 3 = .ok (.bipush 102, 2) := by decide +kernel
theorem dX11_readsFiles_5 : decode cX11_readsFiles 5 = .ok (.invokevirtual 236, 3) := by decide +kernel
theorem dX11_readsFiles_8 : decode cX11_readsFiles 8 = .ok (.ifCond .eq 75, 3) := by decide +kernel
theorem dX11_readsFiles_11 : decode cX11_readsFiles 11 = .ok (.iload_n 1, 1) := by decide +kernel
theorem dX11_readsFiles_12 : decode cX11_readsFiles 12 = .ok (.bipush 6, 2) := by decide +kernel
theorem dX11_readsFiles_14 : decode cX11_readsFiles 14 = .ok (.if_icmp .ne 8, 3) := by decide +kernel
theorem dX11_readsFiles_17 : decode cX11_readsFiles 17 = .ok (.aload_n 0, 1) := by decide +kernel
theorem dX11_readsFiles_18 : decode cX11_readsFiles 18 = .ok (.iconst 3, 1) := by decide +kernel
theorem dX11_readsFiles_19 : decode cX11_readsFiles 19 = .ok (.invokevirtual 226, 3) := by decide +kernel
theorem dX11_readsFiles_22 : decode cX11_readsFiles 22 = .ok (.aload_n 0, 1) := by decide +kernel
theorem dX11_readsFiles_23 : decode cX11_readsFiles 23 = .ok (.invokevirtual 230, 3) := by decide +kernel
theorem dX11_readsFiles_26 : decode cX11_readsFiles 26 = .ok (.aload_n 0, 1) := by decide +kernel
theorem dX11_readsFiles_27 : decode cX11_readsFiles 27 = .ok (.iconst 1, 1) := by decide +kernel
theorem dX11_readsFiles_28 : decode cX11_readsFiles 28 = .ok (.iconst 5, 1) := by decide +kernel
theorem dX11_readsFiles_29 : decode cX11_readsFiles 29 = .ok (.invokevirtual 240, 3) := by decide +kernel
theorem dX11_readsFiles_32 : decode cX11_readsFiles 32 = .ok (.istore_n 2, 1) := by decide +kernel
theorem dX11_readsFiles_33 : decode cX11_readsFiles 33 = .ok (.aload_n 0, 1) := by decide +kernel
theorem dX11_readsFiles_34 : decode cX11_readsFiles 34 = .ok (.bipush 59, 2) := by decide +kernel
theorem dX11_readsFiles_36 : decode cX11_readsFiles 36 = .ok (.invokevirtual 244, 3) := by decide +kernel
theorem dX11_readsFiles_39 : decode cX11_readsFiles 39 = .ok (.aload_n 0, 1) := by decide +kernel
theorem dX11_readsFiles_40 : decode cX11_readsFiles 40 = .ok (.getfield 217, 3) := by decide +kernel
theorem dX11_readsFiles_43 : decode cX11_readsFiles 43 = .ok (.ifCond .ne 37, 3) := by decide +kernel
theorem dX11_readsFiles_46 : decode cX11_readsFiles 46 = .ok (.aload_n 0, 1) := by decide +kernel
theorem dX11_readsFiles_47 : decode cX11_readsFiles 47 = .ok (.getfield 13, 3) := by decide +kernel
theorem dX11_readsFiles_50 : decode cX11_readsFiles 50 = .ok (.bipush 22, 2) := by decide +kernel
theorem dX11_readsFiles_52 : decode cX11_readsFiles 52 = .ok (.bipush 8, 2) := by decide +kernel
theorem dX11_readsFiles_54 : decode cX11_readsFiles 54 = .ok (.iload_n 1, 1) := by decide +kernel
theorem dX11_readsFiles_55 : decode cX11_readsFiles 55 = .ok (.imul, 1) := by decide +kernel
theorem dX11_readsFiles_56 : decode cX11_readsFiles 56 = .ok (.iadd, 1) := by decide +kernel
theorem dX11_readsFiles_57 : decode cX11_readsFiles 57 = .ok (.iconst 0, 1) := by decide +kernel
theorem dX11_readsFiles_58 : decode cX11_readsFiles 58 = .ok (.iadd, 1) := by decide +kernel
theorem dX11_readsFiles_59 : decode cX11_readsFiles 59 = .ok (.lconst 1, 1) := by decide +kernel
theorem dX11_readsFiles_60 : decode cX11_readsFiles 60 = .ok (.lastore, 1) := by decide +kernel
theorem dX11_readsFiles_61 : decode cX11_readsFiles 61 = .ok (.aload_n 0, 1) := by decide +kernel
theorem dX11_readsFiles_62 : decode cX11_readsFiles 62 = .ok (.getfield 13, 3) := by decide +kernel
theorem dX11_readsFiles_65 : decode cX11_readsFiles 65 = .ok (.bipush 22, 2) := by decide +kernel
theorem dX11_readsFiles_67 : decode cX11_readsFiles 67 = .ok (.bipush 8, 2) := by decide +kernel
theorem dX11_readsFiles_69 : decode cX11_readsFiles 69 = .ok (.iload_n 1, 1) := by decide +kernel
theorem dX11_readsFiles_70 : decode cX11_readsFiles 70 = .ok (.imul, 1) := by decide +kernel
theorem dX11_readsFiles_71 : decode cX11_readsFiles 71 = .ok (.iadd, 1) := by decide +kernel
theorem dX11_readsFiles_72 : decode cX11_readsFiles 72 = .ok (.iconst 1, 1) := by decide +kernel
theorem dX11_readsFiles_73 : decode cX11_readsFiles 73 = .ok (.iadd, 1) := by decide +kernel
theorem dX11_readsFiles_74 : decode cX11_readsFiles 74 = .ok (.iload_n 2, 1) := by decide +kernel
theorem dX11_readsFiles_75 : decode cX11_readsFiles 75 = .ok (.i2l, 1) := by decide +kernel
theorem dX11_readsFiles_76 : decode cX11_readsFiles 76 = .ok (.lastore, 1) := by decide +kernel
theorem dX11_readsFiles_77 : decode cX11_readsFiles 77 = .ok (.iinc 1 1, 3) := by decide +kernel
theorem dX11_readsFiles_80 : decode cX11_readsFiles 80 = .ok (.goto (-78), 3) := by decide +kernel
theorem dX11_readsFiles_83 : decode cX11_readsFiles 83 = .ok (.iload_n 1, 1) := by decide +kernel
theorem dX11_readsFiles_84 : decode cX11_readsFiles 84 = .ok (.ireturn, 1) := by decide +kernel
set_option maxRecDepth 20000 in
theorem ggX11_house_X11_reads : GoodIn wsX11_house wsX11_reads := goodIn_r _ [15, 2, 16, 17, 18, 19, 20, 21, 4, 22, 23, 24, 14, 25, 5, 26, 27, 28, 29, 61, 62, 63, 64, 65, 66, 67, 68, 69, 70, 71, 72, 73, 74, 75, 76, 77] (by decide +kernel) (by decide +kernel)
set_option maxRecDepth 20000 in
theorem gX11_house_X11_reads : GoodIn wsX11_house (wsV RX11 223 RX11 yX11_reads wsX11_reads) := goodIn_app (goodIn_of _ (by decide +kernel)) ggX11_house_X11_reads
set_option maxRecDepth 20000 in
theorem ggX11_house_X11_isLetter : GoodIn wsX11_house wsX11_isLetter := goodIn_r _ [33, 3, 4, 17, 61, 62, 63, 64, 65, 66, 67, 68, 69, 70, 71, 72, 73, 74, 75, 76, 77] (by decide +kernel) (by decide +kernel)
set_option maxRecDepth 20000 in
theorem gX11_house_X11_isLetter : GoodIn wsX11_house (wsV RX11 236 RX11 yX11_isLetter wsX11_isLetter) := goodIn_app (goodIn_of _ (by decide +kernel)) ggX11_house_X11_isLetter
set_option maxRecDepth 20000 in
theorem ggX11_house_X11_bad : GoodIn wsX11_house wsX11_bad := goodIn_r _ [37, 3, 16, 8, 61, 62, 63, 64, 65, 66, 67, 68, 69, 70, 71, 72, 73, 74, 75, 76, 77] (by decide +kernel) (by decide +kernel)
set_option maxRecDepth 20000 in
theorem gX11_house_X11_bad : GoodIn wsX11_house (wsV RX11 226 RX11 yX11_bad wsX11_bad) := goodIn_app (goodIn_of _ (by decide +kernel)) ggX11_house_X11_bad
set_option maxRecDepth 20000 in
theorem ggX11_house_X11_goesOn : GoodIn wsX11_house wsX11_goesOn := goodIn_r _ [41, 3, 11, 12, 13, 14, 15, 2, 16, 17, 18, 19, 20, 21, 4, 22, 23, 24, 25, 5, 26, 27, 28, 29, 61, 62, 63, 64, 65, 66, 67, 68, 69, 70, 71, 72, 73, 74, 75, 76, 77] (by decide +kernel) (by decide +kernel)
set_option maxRecDepth 20000 in
theorem gX11_house_X11_goesOn : GoodIn wsX11_house (wsV RX11 230 RX11 yX11_goesOn wsX11_goesOn) := goodIn_app (goodIn_of _ (by decide +kernel)) ggX11_house_X11_goesOn
set_option maxRecDepth 20000 in
theorem ggX11_house_X11_number : GoodIn wsX11_house wsX11_number := goodIn_r _ [45, 4, 17, 3, 34, 35, 36, 14, 37, 16, 8, 27, 28, 29, 38, 39, 40, 41, 11, 12, 13, 15, 2, 18, 19, 20, 21, 22, 23, 24, 25, 5, 26, 61, 62, 63, 64, 65, 66, 67, 68, 69, 70, 71, 72, 73, 74, 75, 76, 77] (by decide +kernel) (by decide +kernel)
set_option maxRecDepth 20000 in
theorem gX11_house_X11_number : GoodIn wsX11_house (wsV RX11 240 RX11 yX11_number wsX11_number) := goodIn_app (goodIn_of _ (by decide +kernel)) ggX11_house_X11_number
set_option maxRecDepth 20000 in
theorem ggX11_house_X11_sign : GoodIn wsX11_house wsX11_sign := goodIn_r _ [49, 4, 17, 34, 35, 36, 14, 37, 3, 16, 8, 38, 39, 40, 41, 11, 12, 13, 15, 2, 18, 19, 20, 21, 22, 23, 24, 25, 5, 26, 27, 28, 29, 61, 62, 63, 64, 65, 66, 67, 68, 69, 70, 71, 72, 73, 74, 75, 76, 77] (by decide +kernel) (by decide +kernel)
set_option maxRecDepth 20000 in
theorem gX11_house_X11_sign : GoodIn wsX11_house (wsV RX11 244 RX11 yX11_sign wsX11_sign) := goodIn_app (goodIn_of _ (by decide +kernel)) ggX11_house_X11_sign
set_option maxRecDepth 20000 in
theorem ggX11_house_X11_readsServers : GoodIn wsX11_house wsX11_readsServers := goodIn_r _ [53, 1, 3, 30, 31, 32, 14, 33, 4, 17, 34, 35, 36, 37, 16, 8, 38, 39, 40, 41, 11, 12, 13, 15, 2, 18, 19, 20, 21, 22, 23, 24, 25, 5, 26, 27, 28, 29, 42, 43, 44, 45, 46, 47, 48, 49, 61, 62, 63, 64, 65, 66, 67, 68, 69, 70, 71, 72, 73, 74, 75, 76, 77] (by decide +kernel) (by decide +kernel)
set_option maxRecDepth 20000 in
theorem gX11_house_X11_readsServers : GoodIn wsX11_house (wsV RX11 247 RX11 yX11_readsServers wsX11_readsServers) := goodIn_app (goodIn_of _ (by decide +kernel)) ggX11_house_X11_readsServers
set_option maxRecDepth 20000 in
theorem ggX11_house_X11_readsFiles : GoodIn wsX11_house wsX11_readsFiles := goodIn_r _ [57, 3, 1, 30, 31, 32, 14, 33, 4, 17, 34, 35, 36, 37, 16, 8, 38, 39, 40, 41, 11, 12, 13, 15, 2, 18, 19, 20, 21, 22, 23, 24, 25, 5, 26, 27, 28, 29, 42, 43, 44, 45, 46, 47, 48, 49, 61, 62, 63, 64, 65, 66, 67, 68, 69, 70, 71, 72, 73, 74, 75, 76, 77] (by decide +kernel) (by decide +kernel)
set_option maxRecDepth 20000 in
theorem gX11_house_X11_readsFiles : GoodIn wsX11_house (wsV RX11 250 RX11 yX11_readsFiles wsX11_readsFiles) := goodIn_app (goodIn_of _ (by decide +kernel)) ggX11_house_X11_readsFiles
set_option maxRecDepth 20000 in
theorem ggX11_house_X11_copies : GoodIn wsX11_house wsX11_copies := goodIn_r _ [60] (by decide +kernel) (by decide +kernel)
set_option maxRecDepth 20000 in
theorem gX11_house_X11_copies : GoodIn wsX11_house (va_wsS RX11 37 yX11_copies wsX11_copies) := goodIn_app (goodIn_of _ (by decide +kernel)) ggX11_house_X11_copies
theorem dX11_house_0 : decode cX11_house 0 = .ok (.iconst 0, 1) := by decide +kernel
theorem dX11_house_1 : decode cX11_house 1 = .ok (.istore_n 1, 1) := by decide +kernel
theorem dX11_house_2 : decode cX11_house 2 = .ok (.iload_n 1, 1) := by decide +kernel
theorem dX11_house_3 : decode cX11_house 3 = .ok (.sipush 340, 3) := by decide +kernel
theorem dX11_house_6 : decode cX11_house 6 = .ok (.if_icmp .ge 16, 3) := by decide +kernel
theorem dX11_house_9 : decode cX11_house 9 = .ok (.aload_n 0, 1) := by decide +kernel
theorem dX11_house_10 : decode cX11_house 10 = .ok (.getfield 13, 3) := by decide +kernel
theorem dX11_house_13 : decode cX11_house 13 = .ok (.iload_n 1, 1) := by decide +kernel
theorem dX11_house_14 : decode cX11_house 14 = .ok (.lconst 0, 1) := by decide +kernel
theorem dX11_house_15 : decode cX11_house 15 = .ok (.lastore, 1) := by decide +kernel
theorem dX11_house_16 : decode cX11_house 16 = .ok (.iinc 1 1, 3) := by decide +kernel
theorem dX11_house_19 : decode cX11_house 19 = .ok (.goto (-17), 3) := by decide +kernel
theorem dX11_house_22 : decode cX11_house 22 = .ok (.aload_n 0, 1) := by decide +kernel
theorem dX11_house_23 : decode cX11_house 23 = .ok (.iconst 0, 1) := by decide +kernel
theorem dX11_house_24 : decode cX11_house 24 = .ok (.putfield 190, 3) := by decide +kernel
theorem dX11_house_27 : decode cX11_house 27 = .ok (.aload_n 0, 1) := by decide +kernel
theorem dX11_house_28 : decode cX11_house 28 = .ok (.iconst 0, 1) := by decide +kernel
theorem dX11_house_29 : decode cX11_house 29 = .ok (.putfield 217, 3) := by decide +kernel
theorem dX11_house_32 : decode cX11_house 32 = .ok (.aload_n 0, 1) := by decide +kernel
theorem dX11_house_33 : decode cX11_house 33 = .ok (.invokevirtual 223, 3) := by decide +kernel
theorem dX11_house_36 : decode cX11_house 36 = .ok (.aload_n 0, 1) := by decide +kernel
theorem dX11_house_37 : decode cX11_house 37 = .ok (.bipush 104, 2) := by decide +kernel
theorem dX11_house_39 : decode cX11_house 39 = .ok (.invokevirtual 236, 3) := by decide +kernel
theorem dX11_house_42 : decode cX11_house 42 = .ok (.ifCond .ne 8, 3) := by decide +kernel
theorem dX11_house_45 : decode cX11_house 45 = .ok (.aload_n 0, 1) := by decide +kernel
theorem dX11_house_46 : decode cX11_house 46 = .ok (.iconst 1, 1) := by decide +kernel
theorem dX11_house_47 : decode cX11_house 47 = .ok (.invokevirtual 226, 3) := by decide +kernel
theorem dX11_house_50 : decode cX11_house 50 = .ok (.aload_n 0, 1) := by decide +kernel
theorem dX11_house_51 : decode cX11_house 51 = .ok (.invokevirtual 230, 3) := by decide +kernel
theorem dX11_house_54 : decode cX11_house 54 = .ok (.aload_n 0, 1) := by decide +kernel
theorem dX11_house_55 : decode cX11_house 55 = .ok (.getfield 13, 3) := by decide +kernel
theorem dX11_house_58 : decode cX11_house 58 = .ok (.iconst 0, 1) := by decide +kernel
theorem dX11_house_59 : decode cX11_house 59 = .ok (.aload_n 0, 1) := by decide +kernel
theorem dX11_house_60 : decode cX11_house 60 = .ok (.iconst 2, 1) := by decide +kernel
theorem dX11_house_61 : decode cX11_house 61 = .ok (.iconst 5, 1) := by decide +kernel
theorem dX11_house_62 : decode cX11_house 62 = .ok (.invokevirtual 240, 3) := by decide +kernel
theorem dX11_house_65 : decode cX11_house 65 = .ok (.i2l, 1) := by decide +kernel
theorem dX11_house_66 : decode cX11_house 66 = .ok (.lastore, 1) := by decide +kernel
theorem dX11_house_67 : decode cX11_house 67 = .ok (.aload_n 0, 1) := by decide +kernel
theorem dX11_house_68 : decode cX11_house 68 = .ok (.bipush 44, 2) := by decide +kernel
theorem dX11_house_70 : decode cX11_house 70 = .ok (.invokevirtual 244, 3) := by decide +kernel
theorem dX11_house_73 : decode cX11_house 73 = .ok (.aload_n 0, 1) := by decide +kernel
theorem dX11_house_74 : decode cX11_house 74 = .ok (.getfield 13, 3) := by decide +kernel
theorem dX11_house_77 : decode cX11_house 77 = .ok (.iconst 1, 1) := by decide +kernel
theorem dX11_house_78 : decode cX11_house 78 = .ok (.aload_n 0, 1) := by decide +kernel
theorem dX11_house_79 : decode cX11_house 79 = .ok (.iconst 1, 1) := by decide +kernel
theorem dX11_house_80 : decode cX11_house 80 = .ok (.iconst 3, 1) := by decide +kernel
theorem dX11_house_81 : decode cX11_house 81 = .ok (.invokevirtual 240, 3) := by decide +kernel
theorem dX11_house_84 : decode cX11_house 84 = .ok (.i2l, 1) := by decide +kernel
theorem dX11_house_85 : decode cX11_house 85 = .ok (.lastore, 1) := by decide +kernel
theorem dX11_house_86 : decode cX11_house 86 = .ok (.aload_n 0, 1) := by decide +kernel
theorem dX11_house_87 : decode cX11_house 87 = .ok (.bipush 44, 2) := by decide +kernel
theorem dX11_house_89 : decode cX11_house 89 = .ok (.invokevirtual 244, 3) := by decide +kernel
theorem dX11_house_92 : decode cX11_house 92 = .ok (.aload_n 0, 1) := by decide +kernel
theorem dX11_house_93 : decode cX11_house 93 = .ok (.getfield 13, 3) := by decide +kernel
theorem dX11_house_96 : decode cX11_house 96 = .ok (.iconst 2, 1) := by decide +kernel
theorem dX11_house_97 : decode cX11_house 97 = .ok (.aload_n 0, 1) := by decide +kernel
theorem dX11_house_98 : decode cX11_house 98 = .ok (.iconst 4, 1) := by decide +kernel
theorem dX11_house_99 : decode cX11_house 99 = .ok (.bipush 9, 2) := by decide +kernel
theorem dX11_house_101 : decode cX11_house 101 = .ok (.invokevirtual 240, 3) := by decide +kernel
theorem dX11_house_104 : decode cX11_house 104 = .ok (.i2l, 1) := by decide +kernel
theorem dX11_house_105 : decode cX11_house 105 = .ok (.lastore, 1) := by decide +kernel
theorem dX11_house_106 : decode cX11_house 106 = .ok (.aload_n 0, 1) := by decide +kernel
theorem dX11_house_107 : decode cX11_house 107 = .ok (.bipush 44, 2) := by decide +kernel
theorem dX11_house_109 : decode cX11_house 109 = .ok (.invokevirtual 244, 3) := by decide +kernel
theorem dX11_house_112 : decode cX11_house 112 = .ok (.aload_n 0, 1) := by decide +kernel
theorem dX11_house_113 : decode cX11_house 113 = .ok (.getfield 13, 3) := by decide +kernel
theorem dX11_house_116 : decode cX11_house 116 = .ok (.iconst 3, 1) := by decide +kernel
theorem dX11_house_117 : decode cX11_house 117 = .ok (.aload_n 0, 1) := by decide +kernel
theorem dX11_house_118 : decode cX11_house 118 = .ok (.iconst 1, 1) := by decide +kernel
theorem dX11_house_119 : decode cX11_house 119 = .ok (.bipush 20, 2) := by decide +kernel
theorem dX11_house_121 : decode cX11_house 121 = .ok (.invokevirtual 240, 3) := by decide +kernel
theorem dX11_house_124 : decode cX11_house 124 = .ok (.i2l, 1) := by decide +kernel
theorem dX11_house_125 : decode cX11_house 125 = .ok (.lastore, 1) := by decide +kernel
theorem dX11_house_126 : decode cX11_house 126 = .ok (.aload_n 0, 1) := by decide +kernel
theorem dX11_house_127 : decode cX11_house 127 = .ok (.bipush 44, 2) := by decide +kernel
theorem dX11_house_129 : decode cX11_house 129 = .ok (.invokevirtual 244, 3) := by decide +kernel
theorem dX11_house_132 : decode cX11_house 132 = .ok (.aload_n 0, 1) := by decide +kernel
theorem dX11_house_133 : decode cX11_house 133 = .ok (.getfield 13, 3) := by decide +kernel
theorem dX11_house_136 : decode cX11_house 136 = .ok (.iconst 4, 1) := by decide +kernel
theorem dX11_house_137 : decode cX11_house 137 = .ok (.aload_n 0, 1) := by decide +kernel
theorem dX11_house_138 : decode cX11_house 138 = .ok (.iconst 0, 1) := by decide +kernel
theorem dX11_house_139 : decode cX11_house 139 = .ok (.bipush 20, 2) := by decide +kernel
theorem dX11_house_141 : decode cX11_house 141 = .ok (.invokevirtual 240, 3) := by decide +kernel
theorem dX11_house_144 : decode cX11_house 144 = .ok (.i2l, 1) := by decide +kernel
theorem dX11_house_145 : decode cX11_house 145 = .ok (.lastore, 1) := by decide +kernel
theorem dX11_house_146 : decode cX11_house 146 = .ok (.aload_n 0, 1) := by decide +kernel
theorem dX11_house_147 : decode cX11_house 147 = .ok (.bipush 59, 2) := by decide +kernel
theorem dX11_house_149 : decode cX11_house 149 = .ok (.invokevirtual 244, 3) := by decide +kernel
theorem dX11_house_152 : decode cX11_house 152 = .ok (.iconst 0, 1) := by decide +kernel
theorem dX11_house_153 : decode cX11_house 153 = .ok (.istore_n 1, 1) := by decide +kernel
theorem dX11_house_154 : decode cX11_house 154 = .ok (.iload_n 1, 1) := by decide +kernel
theorem dX11_house_155 : decode cX11_house 155 = .ok (.i2l, 1) := by decide +kernel
theorem dX11_house_156 : decode cX11_house 156 = .ok (.aload_n 0, 1) := by decide +kernel
theorem dX11_house_157 : decode cX11_house 157 = .ok (.getfield 13, 3) := by decide +kernel
theorem dX11_house_160 : decode cX11_house 160 = .ok (.iconst 0, 1) := by decide +kernel
theorem dX11_house_161 : decode cX11_house 161 = .ok (.laload, 1) := by decide +kernel
theorem dX11_house_162 : decode cX11_house 162 = .ok (.lcmp, 1) := by decide +kernel
theorem dX11_house_163 : decode cX11_house 163 = .ok (.ifCond .ge 37, 3) := by decide +kernel
theorem dX11_house_166 : decode cX11_house 166 = .ok (.aload_n 0, 1) := by decide +kernel
theorem dX11_house_167 : decode cX11_house 167 = .ok (.getfield 13, 3) := by decide +kernel
theorem dX11_house_170 : decode cX11_house 170 = .ok (.bipush 7, 2) := by decide +kernel
theorem dX11_house_172 : decode cX11_house 172 = .ok (.iconst 3, 1) := by decide +kernel
theorem dX11_house_173 : decode cX11_house 173 = .ok (.iload_n 1, 1) := by decide +kernel
theorem dX11_house_174 : decode cX11_house 174 = .ok (.imul, 1) := by decide +kernel
theorem dX11_house_175 : decode cX11_house 175 = .ok (.iadd, 1) := by decide +kernel
theorem dX11_house_176 : decode cX11_house 176 = .ok (.iconst 0, 1) := by decide +kernel
theorem dX11_house_177 : decode cX11_house 177 = .ok (.iadd, 1) := by decide +kernel
theorem dX11_house_178 : decode cX11_house 178 = .ok (.lconst 1, 1) := by decide +kernel
theorem dX11_house_179 : decode cX11_house 179 = .ok (.lastore, 1) := by decide +kernel
theorem dX11_house_180 : decode cX11_house 180 = .ok (.aload_n 0, 1) := by decide +kernel
theorem dX11_house_181 : decode cX11_house 181 = .ok (.getfield 13, 3) := by decide +kernel
theorem dX11_house_184 : decode cX11_house 184 = .ok (.bipush 7, 2) := by decide +kernel
theorem dX11_house_186 : decode cX11_house 186 = .ok (.iconst 3, 1) := by decide +kernel
theorem dX11_house_187 : decode cX11_house 187 = .ok (.iload_n 1, 1) := by decide +kernel
theorem dX11_house_188 : decode cX11_house 188 = .ok (.imul, 1) := by decide +kernel
theorem dX11_house_189 : decode cX11_house 189 = .ok (.iadd, 1) := by decide +kernel
theorem dX11_house_190 : decode cX11_house 190 = .ok (.iconst 1, 1) := by decide +kernel
theorem dX11_house_191 : decode cX11_house 191 = .ok (.iadd, 1) := by decide +kernel
theorem dX11_house_192 : decode cX11_house 192 = .ok (.lconst 1, 1) := by decide +kernel
theorem dX11_house_193 : decode cX11_house 193 = .ok (.lastore, 1) := by decide +kernel
theorem dX11_house_194 : decode cX11_house 194 = .ok (.iinc 1 1, 3) := by decide +kernel
theorem dX11_house_197 : decode cX11_house 197 = .ok (.goto (-43), 3) := by decide +kernel
theorem dX11_house_200 : decode cX11_house 200 = .ok (.aload_n 0, 1) := by decide +kernel
theorem dX11_house_201 : decode cX11_house 201 = .ok (.invokevirtual 247, 3) := by decide +kernel
theorem dX11_house_204 : decode cX11_house 204 = .ok (.aload_n 0, 1) := by decide +kernel
theorem dX11_house_205 : decode cX11_house 205 = .ok (.invokevirtual 250, 3) := by decide +kernel
theorem dX11_house_208 : decode cX11_house 208 = .ok (.istore_n 1, 1) := by decide +kernel
theorem dX11_house_209 : decode cX11_house 209 = .ok (.aload_n 0, 1) := by decide +kernel
theorem dX11_house_210 : decode cX11_house 210 = .ok (.getfield 214, 3) := by decide +kernel
theorem dX11_house_213 : decode cX11_house 213 = .ok (.ifCond .eq 8, 3) := by decide +kernel
theorem dX11_house_216 : decode cX11_house 216 = .ok (.aload_n 0, 1) := by decide +kernel
theorem dX11_house_217 : decode cX11_house 217 = .ok (.iconst 1, 1) := by decide +kernel
theorem dX11_house_218 : decode cX11_house 218 = .ok (.invokevirtual 226, 3) := by decide +kernel
theorem dX11_house_221 : decode cX11_house 221 = .ok (.aload_n 0, 1) := by decide +kernel
theorem dX11_house_222 : decode cX11_house 222 = .ok (.iconst 0, 1) := by decide +kernel
theorem dX11_house_223 : decode cX11_house 223 = .ok (.putfield 187, 3) := by decide +kernel
theorem dX11_house_226 : decode cX11_house 226 = .ok (.aload_n 0, 1) := by decide +kernel
theorem dX11_house_227 : decode cX11_house 227 = .ok (.getfield 217, 3) := by decide +kernel
theorem dX11_house_230 : decode cX11_house 230 = .ok (.ifCond .le 20, 3) := by decide +kernel
theorem dX11_house_233 : decode cX11_house 233 = .ok (.aload_n 0, 1) := by decide +kernel
theorem dX11_house_234 : decode cX11_house 234 = .ok (.aload_n 0, 1) := by decide +kernel
theorem dX11_house_235 : decode cX11_house 235 = .ok (.getfield 217, 3) := by decide +kernel
theorem dX11_house_238 : decode cX11_house 238 = .ok (.putfield 254, 3) := by decide +kernel
theorem dX11_house_241 : decode cX11_house 241 = .ok (.ldc_w 257, 3) := by decide +kernel
theorem dX11_house_244 : decode cX11_house 244 = .ok (.aload_n 0, 1) := by decide +kernel
theorem dX11_house_245 : decode cX11_house 245 = .ok (.getfield 220, 3) := by decide +kernel
theorem dX11_house_248 : decode cX11_house 248 = .ok (.isub, 1) := by decide +kernel
theorem dX11_house_249 : decode cX11_house 249 = .ok (.ireturn, 1) := by decide +kernel
theorem dX11_house_250 : decode cX11_house 250 = .ok (.aload_n 0, 1) := by decide +kernel
theorem dX11_house_251 : decode cX11_house 251 = .ok (.getfield 13, 3) := by decide +kernel
theorem dX11_house_254 : decode cX11_house 254 = .ok (.iconst 0, 1) := by decide +kernel
theorem dX11_house_255 : decode cX11_house 255 = .ok (.aload_n 0, 1) := by decide +kernel
theorem dX11_house_256 : decode cX11_house 256 = .ok (.getfield 7, 3) := by decide +kernel
theorem dX11_house_259 : decode cX11_house 259 = .ok (.iconst 0, 1) := by decide +kernel
theorem dX11_house_260 : decode cX11_house 260 = .ok (.invokestatic 37, 3) := by decide +kernel
theorem dX11_house_263 : decode cX11_house 263 = .ok (.aload_n 0, 1) := by decide +kernel
theorem dX11_house_264 : decode cX11_house 264 = .ok (.iconst 0, 1) := by decide +kernel
theorem dX11_house_265 : decode cX11_house 265 = .ok (.putfield 258, 3) := by decide +kernel
theorem dX11_house_268 : decode cX11_house 268 = .ok (.iload_n 1, 1) := by decide +kernel
theorem dX11_house_269 : decode cX11_house 269 = .ok (.ireturn, 1) := by decide +kernel
theorem dX11_fault_0 : decode cX11_fault 0 = .ok (.aload_n 0, 1) := by decide +kernel
theorem dX11_fault_1 : decode cX11_fault 1 = .ok (.getfield 254, 3) := by decide +kernel
theorem dX11_fault_4 : decode cX11_fault 4 = .ok (.ireturn, 1) := by decide +kernel
set_option maxRecDepth 20000 in
theorem ggX11_notes_X11_copies : GoodIn wsX11_notes wsX11_copies := goodIn_r _ [7] (by decide +kernel) (by decide +kernel)
set_option maxRecDepth 20000 in
theorem gX11_notes_X11_copies : GoodIn wsX11_notes (va_wsS RX11 37 yX11_copies wsX11_copies) := goodIn_app (goodIn_of _ (by decide +kernel)) ggX11_notes_X11_copies
theorem dX11_notes_0 : decode cX11_notes 0 = .ok (.aload_n 0, 1) := by decide +kernel
theorem dX11_notes_1 : decode cX11_notes 1 = .ok (.getfield 258, 3) := by decide +kernel
theorem dX11_notes_4 : decode cX11_notes 4 = .ok (.bipush 6, 2) := by decide +kernel
theorem dX11_notes_6 : decode cX11_notes 6 = .ok (.if_icmp .ne 44, 3) := by decide +kernel
theorem dX11_notes_9 : decode cX11_notes 9 = .ok (.iconst 0, 1) := by decide +kernel
theorem dX11_notes_10 : decode cX11_notes 10 = .ok (.istore_n 1, 1) := by decide +kernel
theorem dX11_notes_11 : decode cX11_notes 11 = .ok (.iload_n 1, 1) := by decide +kernel
theorem dX11_notes_12 : decode cX11_notes 12 = .ok (.sipush 1700, 3) := by decide +kernel
theorem dX11_notes_15 : decode cX11_notes 15 = .ok (.if_icmp .ge 25, 3) := by decide +kernel
theorem dX11_notes_18 : decode cX11_notes 18 = .ok (.aload_n 0, 1) := by decide +kernel
theorem dX11_notes_19 : decode cX11_notes 19 = .ok (.getfield 16, 3) := by decide +kernel
theorem dX11_notes_22 : decode cX11_notes 22 = .ok (.iload_n 1, 1) := by decide +kernel
theorem dX11_notes_23 : decode cX11_notes 23 = .ok (.aload_n 0, 1) := by decide +kernel
theorem dX11_notes_24 : decode cX11_notes 24 = .ok (.getfield 16, 3) := by decide +kernel
theorem dX11_notes_27 : decode cX11_notes 27 = .ok (.iload_n 1, 1) := by decide +kernel
theorem dX11_notes_28 : decode cX11_notes 28 = .ok (.sipush 340, 3) := by decide +kernel
theorem dX11_notes_31 : decode cX11_notes 31 = .ok (.iadd, 1) := by decide +kernel
theorem dX11_notes_32 : decode cX11_notes 32 = .ok (.laload, 1) := by decide +kernel
theorem dX11_notes_33 : decode cX11_notes 33 = .ok (.lastore, 1) := by decide +kernel
theorem dX11_notes_34 : decode cX11_notes 34 = .ok (.iinc 1 1, 3) := by decide +kernel
theorem dX11_notes_37 : decode cX11_notes 37 = .ok (.goto (-26), 3) := by decide +kernel
theorem dX11_notes_40 : decode cX11_notes 40 = .ok (.aload_n 0, 1) := by decide +kernel
theorem dX11_notes_41 : decode cX11_notes 41 = .ok (.dup, 1) := by decide +kernel
theorem dX11_notes_42 : decode cX11_notes 42 = .ok (.getfield 258, 3) := by decide +kernel
theorem dX11_notes_45 : decode cX11_notes 45 = .ok (.iconst 1, 1) := by decide +kernel
theorem dX11_notes_46 : decode cX11_notes 46 = .ok (.isub, 1) := by decide +kernel
theorem dX11_notes_47 : decode cX11_notes 47 = .ok (.putfield 258, 3) := by decide +kernel
theorem dX11_notes_50 : decode cX11_notes 50 = .ok (.aload_n 0, 1) := by decide +kernel
theorem dX11_notes_51 : decode cX11_notes 51 = .ok (.getfield 7, 3) := by decide +kernel
theorem dX11_notes_54 : decode cX11_notes 54 = .ok (.iconst 0, 1) := by decide +kernel
theorem dX11_notes_55 : decode cX11_notes 55 = .ok (.aload_n 0, 1) := by decide +kernel
theorem dX11_notes_56 : decode cX11_notes 56 = .ok (.getfield 16, 3) := by decide +kernel
theorem dX11_notes_59 : decode cX11_notes 59 = .ok (.sipush 340, 3) := by decide +kernel
theorem dX11_notes_62 : decode cX11_notes 62 = .ok (.aload_n 0, 1) := by decide +kernel
theorem dX11_notes_63 : decode cX11_notes 63 = .ok (.getfield 258, 3) := by decide +kernel
theorem dX11_notes_66 : decode cX11_notes 66 = .ok (.imul, 1) := by decide +kernel
theorem dX11_notes_67 : decode cX11_notes 67 = .ok (.invokestatic 37, 3) := by decide +kernel
theorem dX11_notes_70 : decode cX11_notes 70 = .ok (.aload_n 0, 1) := by decide +kernel
theorem dX11_notes_71 : decode cX11_notes 71 = .ok (.dup, 1) := by decide +kernel
theorem dX11_notes_72 : decode cX11_notes 72 = .ok (.getfield 258, 3) := by decide +kernel
theorem dX11_notes_75 : decode cX11_notes 75 = .ok (.iconst 1, 1) := by decide +kernel
theorem dX11_notes_76 : decode cX11_notes 76 = .ok (.iadd, 1) := by decide +kernel
theorem dX11_notes_77 : decode cX11_notes 77 = .ok (.putfield 258, 3) := by decide +kernel
theorem dX11_notes_80 : decode cX11_notes 80 = .ok (.return_, 1) := by decide +kernel
set_option maxRecDepth 20000 in
theorem ggX11_undo_X11_copies : GoodIn wsX11_undo wsX11_copies := goodIn_r _ [8] (by decide +kernel) (by decide +kernel)
set_option maxRecDepth 20000 in
theorem gX11_undo_X11_copies : GoodIn wsX11_undo (va_wsS RX11 37 yX11_copies wsX11_copies) := goodIn_app (goodIn_of _ (by decide +kernel)) ggX11_undo_X11_copies
theorem dX11_undo_0 : decode cX11_undo 0 = .ok (.aload_n 0, 1) := by decide +kernel
theorem dX11_undo_1 : decode cX11_undo 1 = .ok (.getfield 258, 3) := by decide +kernel
theorem dX11_undo_4 : decode cX11_undo 4 = .ok (.ifCond .ne 7, 3) := by decide +kernel
theorem dX11_undo_7 : decode cX11_undo 7 = .ok (.ldc_w 261, 3) := by decide +kernel
theorem dX11_undo_10 : decode cX11_undo 10 = .ok (.ireturn, 1) := by decide +kernel
theorem dX11_undo_11 : decode cX11_undo 11 = .ok (.aload_n 0, 1) := by decide +kernel
theorem dX11_undo_12 : decode cX11_undo 12 = .ok (.dup, 1) := by decide +kernel
theorem dX11_undo_13 : decode cX11_undo 13 = .ok (.getfield 258, 3) := by decide +kernel
theorem dX11_undo_16 : decode cX11_undo 16 = .ok (.iconst 1, 1) := by decide +kernel
theorem dX11_undo_17 : decode cX11_undo 17 = .ok (.isub, 1) := by decide +kernel
theorem dX11_undo_18 : decode cX11_undo 18 = .ok (.putfield 258, 3) := by decide +kernel
theorem dX11_undo_21 : decode cX11_undo 21 = .ok (.aload_n 0, 1) := by decide +kernel
theorem dX11_undo_22 : decode cX11_undo 22 = .ok (.getfield 16, 3) := by decide +kernel
theorem dX11_undo_25 : decode cX11_undo 25 = .ok (.sipush 340, 3) := by decide +kernel
theorem dX11_undo_28 : decode cX11_undo 28 = .ok (.aload_n 0, 1) := by decide +kernel
theorem dX11_undo_29 : decode cX11_undo 29 = .ok (.getfield 258, 3) := by decide +kernel
theorem dX11_undo_32 : decode cX11_undo 32 = .ok (.imul, 1) := by decide +kernel
theorem dX11_undo_33 : decode cX11_undo 33 = .ok (.aload_n 0, 1) := by decide +kernel
theorem dX11_undo_34 : decode cX11_undo 34 = .ok (.getfield 7, 3) := by decide +kernel
theorem dX11_undo_37 : decode cX11_undo 37 = .ok (.iconst 0, 1) := by decide +kernel
theorem dX11_undo_38 : decode cX11_undo 38 = .ok (.invokestatic 37, 3) := by decide +kernel
theorem dX11_undo_41 : decode cX11_undo 41 = .ok (.aload_n 0, 1) := by decide +kernel
theorem dX11_undo_42 : decode cX11_undo 42 = .ok (.getfield 258, 3) := by decide +kernel
theorem dX11_undo_45 : decode cX11_undo 45 = .ok (.ireturn, 1) := by decide +kernel
theorem dX11_isHouse_0 : decode cX11_isHouse 0 = .ok (.aload_n 0, 1) := by decide +kernel
theorem dX11_isHouse_1 : decode cX11_isHouse 1 = .ok (.getfield 7, 3) := by decide +kernel
theorem dX11_isHouse_4 : decode cX11_isHouse 4 = .ok (.iconst 0, 1) := by decide +kernel
theorem dX11_isHouse_5 : decode cX11_isHouse 5 = .ok (.laload, 1) := by decide +kernel
theorem dX11_isHouse_6 : decode cX11_isHouse 6 = .ok (.lconst 0, 1) := by decide +kernel
theorem dX11_isHouse_7 : decode cX11_isHouse 7 = .ok (.lcmp, 1) := by decide +kernel
theorem dX11_isHouse_8 : decode cX11_isHouse 8 = .ok (.ifCond .le 7, 3) := by decide +kernel
theorem dX11_isHouse_11 : decode cX11_isHouse 11 = .ok (.iconst 1, 1) := by decide +kernel
theorem dX11_isHouse_12 : decode cX11_isHouse 12 = .ok (.goto 4, 3) := by decide +kernel
theorem dX11_isHouse_15 : decode cX11_isHouse 15 = .ok (.iconst 0, 1) := by decide +kernel
theorem dX11_isHouse_16 : decode cX11_isHouse 16 = .ok (.ireturn, 1) := by decide +kernel
set_option maxRecDepth 20000 in
theorem ggX11_isFile_X11_in : GoodIn wsX11_isFile wsX11_in := goodIn_r _ [5] (by decide +kernel) (by decide +kernel)
set_option maxRecDepth 20000 in
theorem gX11_isFile_X11_in : GoodIn wsX11_isFile (va_wsS RX11 206 yX11_in wsX11_in) := goodIn_app (goodIn_of _ (by decide +kernel)) ggX11_isFile_X11_in
theorem dX11_isFile_0 : decode cX11_isFile 0 = .ok (.iload_n 0, 1) := by decide +kernel
theorem dX11_isFile_1 : decode cX11_isFile 1 = .ok (.i2l, 1) := by decide +kernel
theorem dX11_isFile_2 : decode cX11_isFile 2 = .ok (.lconst 0, 1) := by decide +kernel
theorem dX11_isFile_3 : decode cX11_isFile 3 = .ok (.ldc2_w 84, 3) := by decide +kernel
theorem dX11_isFile_6 : decode cX11_isFile 6 = .ok (.invokestatic 206, 3) := by decide +kernel
theorem dX11_isFile_9 : decode cX11_isFile 9 = .ok (.ireturn, 1) := by decide +kernel
set_option maxRecDepth 20000 in
theorem ggX11_isServer_X11_in : GoodIn wsX11_isServer wsX11_in := goodIn_r _ [5] (by decide +kernel) (by decide +kernel)
set_option maxRecDepth 20000 in
theorem gX11_isServer_X11_in : GoodIn wsX11_isServer (va_wsS RX11 206 yX11_in wsX11_in) := goodIn_app (goodIn_of _ (by decide +kernel)) ggX11_isServer_X11_in
theorem dX11_isServer_0 : decode cX11_isServer 0 = .ok (.iload_n 1, 1) := by decide +kernel
theorem dX11_isServer_1 : decode cX11_isServer 1 = .ok (.i2l, 1) := by decide +kernel
theorem dX11_isServer_2 : decode cX11_isServer 2 = .ok (.lconst 0, 1) := by decide +kernel
theorem dX11_isServer_3 : decode cX11_isServer 3 = .ok (.aload_n 0, 1) := by decide +kernel
theorem dX11_isServer_4 : decode cX11_isServer 4 = .ok (.getfield 7, 3) := by decide +kernel
theorem dX11_isServer_7 : decode cX11_isServer 7 = .ok (.iconst 0, 1) := by decide +kernel
theorem dX11_isServer_8 : decode cX11_isServer 8 = .ok (.laload, 1) := by decide +kernel
theorem dX11_isServer_9 : decode cX11_isServer 9 = .ok (.lconst 1, 1) := by decide +kernel
theorem dX11_isServer_10 : decode cX11_isServer 10 = .ok (.lsub, 1) := by decide +kernel
theorem dX11_isServer_11 : decode cX11_isServer 11 = .ok (.invokestatic 206, 3) := by decide +kernel
theorem dX11_isServer_14 : decode cX11_isServer 14 = .ok (.ireturn, 1) := by decide +kernel
theorem dX11_isThere_0 : decode cX11_isThere 0 = .ok (.aload_n 0, 1) := by decide +kernel
theorem dX11_isThere_1 : decode cX11_isThere 1 = .ok (.getfield 7, 3) := by decide +kernel
theorem dX11_isThere_4 : decode cX11_isThere 4 = .ok (.bipush 22, 2) := by decide +kernel
theorem dX11_isThere_6 : decode cX11_isThere 6 = .ok (.bipush 8, 2) := by decide +kernel
theorem dX11_isThere_8 : decode cX11_isThere 8 = .ok (.iload_n 1, 1) := by decide +kernel
theorem dX11_isThere_9 : decode cX11_isThere 9 = .ok (.imul, 1) := by decide +kernel
theorem dX11_isThere_10 : decode cX11_isThere 10 = .ok (.iadd, 1) := by decide +kernel
theorem dX11_isThere_11 : decode cX11_isThere 11 = .ok (.iconst 0, 1) := by decide +kernel
theorem dX11_isThere_12 : decode cX11_isThere 12 = .ok (.iadd, 1) := by decide +kernel
theorem dX11_isThere_13 : decode cX11_isThere 13 = .ok (.laload, 1) := by decide +kernel
theorem dX11_isThere_14 : decode cX11_isThere 14 = .ok (.lconst 1, 1) := by decide +kernel
theorem dX11_isThere_15 : decode cX11_isThere 15 = .ok (.lcmp, 1) := by decide +kernel
theorem dX11_isThere_16 : decode cX11_isThere 16 = .ok (.ifCond .ne 7, 3) := by decide +kernel
theorem dX11_isThere_19 : decode cX11_isThere 19 = .ok (.iconst 1, 1) := by decide +kernel
theorem dX11_isThere_20 : decode cX11_isThere 20 = .ok (.goto 4, 3) := by decide +kernel
theorem dX11_isThere_23 : decode cX11_isThere 23 = .ok (.iconst 0, 1) := by decide +kernel
theorem dX11_isThere_24 : decode cX11_isThere 24 = .ok (.ireturn, 1) := by decide +kernel
theorem dX11_filesThat_0 : decode cX11_filesThat 0 = .ok (.iconst 0, 1) := by decide +kernel
theorem dX11_filesThat_1 : decode cX11_filesThat 1 = .ok (.istore_n 2, 1) := by decide +kernel
theorem dX11_filesThat_2 : decode cX11_filesThat 2 = .ok (.iconst 0, 1) := by decide +kernel
theorem dX11_filesThat_3 : decode cX11_filesThat 3 = .ok (.istore_n 3, 1) := by decide +kernel
theorem dX11_filesThat_4 : decode cX11_filesThat 4 = .ok (.iload_n 3, 1) := by decide +kernel
theorem dX11_filesThat_5 : decode cX11_filesThat 5 = .ok (.bipush 6, 2) := by decide +kernel
theorem dX11_filesThat_7 : decode cX11_filesThat 7 = .ok (.if_icmp .ge 37, 3) := by decide +kernel
theorem dX11_filesThat_10 : decode cX11_filesThat 10 = .ok (.iload_n 2, 1) := by decide +kernel
theorem dX11_filesThat_11 : decode cX11_filesThat 11 = .ok (.aload_n 0, 1) := by decide +kernel
theorem dX11_filesThat_12 : decode cX11_filesThat 12 = .ok (.getfield 7, 3) := by decide +kernel
theorem dX11_filesThat_15 : decode cX11_filesThat 15 = .ok (.bipush 22, 2) := by decide +kernel
theorem dX11_filesThat_17 : decode cX11_filesThat 17 = .ok (.bipush 8, 2) := by decide +kernel
theorem dX11_filesThat_19 : decode cX11_filesThat 19 = .ok (.iload_n 3, 1) := by decide +kernel
theorem dX11_filesThat_20 : decode cX11_filesThat 20 = .ok (.imul, 1) := by decide +kernel
theorem dX11_filesThat_21 : decode cX11_filesThat 21 = .ok (.iadd, 1) := by decide +kernel
theorem dX11_filesThat_22 : decode cX11_filesThat 22 = .ok (.iconst 0, 1) := by decide +kernel
theorem dX11_filesThat_23 : decode cX11_filesThat 23 = .ok (.iadd, 1) := by decide +kernel
theorem dX11_filesThat_24 : decode cX11_filesThat 24 = .ok (.laload, 1) := by decide +kernel
theorem dX11_filesThat_25 : decode cX11_filesThat 25 = .ok (.iload_n 1, 1) := by decide +kernel
theorem dX11_filesThat_26 : decode cX11_filesThat 26 = .ok (.i2l, 1) := by decide +kernel
theorem dX11_filesThat_27 : decode cX11_filesThat 27 = .ok (.lcmp, 1) := by decide +kernel
theorem dX11_filesThat_28 : decode cX11_filesThat 28 = .ok (.ifCond .ne 7, 3) := by decide +kernel
theorem dX11_filesThat_31 : decode cX11_filesThat 31 = .ok (.iconst 1, 1) := by decide +kernel
theorem dX11_filesThat_32 : decode cX11_filesThat 32 = .ok (.goto 4, 3) := by decide +kernel
theorem dX11_filesThat_35 : decode cX11_filesThat 35 = .ok (.iconst 0, 1) := by decide +kernel
theorem dX11_filesThat_36 : decode cX11_filesThat 36 = .ok (.iadd, 1) := by decide +kernel
theorem dX11_filesThat_37 : decode cX11_filesThat 37 = .ok (.istore_n 2, 1) := by decide +kernel
theorem dX11_filesThat_38 : decode cX11_filesThat 38 = .ok (.iinc 3 1, 3) := by decide +kernel
theorem dX11_filesThat_41 : decode cX11_filesThat 41 = .ok (.goto (-37), 3) := by decide +kernel
theorem dX11_filesThat_44 : decode cX11_filesThat 44 = .ok (.iload_n 2, 1) := by decide +kernel
theorem dX11_filesThat_45 : decode cX11_filesThat 45 = .ok (.ireturn, 1) := by decide +kernel
set_option maxRecDepth 20000 in
theorem ggX11_isRecord_X11_in : GoodIn wsX11_isRecord wsX11_in := goodIn_r _ [11] (by decide +kernel) (by decide +kernel)
set_option maxRecDepth 20000 in
theorem gX11_isRecord_X11_in : GoodIn wsX11_isRecord (va_wsS RX11 206 yX11_in wsX11_in) := goodIn_app (goodIn_of _ (by decide +kernel)) ggX11_isRecord_X11_in
theorem dX11_isRecord_0 : decode cX11_isRecord 0 = .ok (.aload_n 0, 1) := by decide +kernel
theorem dX11_isRecord_1 : decode cX11_isRecord 1 = .ok (.getfield 187, 3) := by decide +kernel
theorem dX11_isRecord_4 : decode cX11_isRecord 4 = .ok (.i2l, 1) := by decide +kernel
theorem dX11_isRecord_5 : decode cX11_isRecord 5 = .ok (.lconst 1, 1) := by decide +kernel
theorem dX11_isRecord_6 : decode cX11_isRecord 6 = .ok (.aload_n 0, 1) := by decide +kernel
theorem dX11_isRecord_7 : decode cX11_isRecord 7 = .ok (.getfield 7, 3) := by decide +kernel
theorem dX11_isRecord_10 : decode cX11_isRecord 10 = .ok (.iconst 2, 1) := by decide +kernel
theorem dX11_isRecord_11 : decode cX11_isRecord 11 = .ok (.laload, 1) := by decide +kernel
theorem dX11_isRecord_12 : decode cX11_isRecord 12 = .ok (.invokestatic 206, 3) := by decide +kernel
theorem dX11_isRecord_15 : decode cX11_isRecord 15 = .ok (.istore_n 1, 1) := by decide +kernel
theorem dX11_isRecord_16 : decode cX11_isRecord 16 = .ok (.aload_n 0, 1) := by decide +kernel
theorem dX11_isRecord_17 : decode cX11_isRecord 17 = .ok (.iload_n 1, 1) := by decide +kernel
theorem dX11_isRecord_18 : decode cX11_isRecord 18 = .ok (.ifCond .eq 10, 3) := by decide +kernel
theorem dX11_isRecord_21 : decode cX11_isRecord 21 = .ok (.aload_n 0, 1) := by decide +kernel
theorem dX11_isRecord_22 : decode cX11_isRecord 22 = .ok (.getfield 187, 3) := by decide +kernel
theorem dX11_isRecord_25 : decode cX11_isRecord 25 = .ok (.goto 4, 3) := by decide +kernel
theorem dX11_isRecord_28 : decode cX11_isRecord 28 = .ok (.iconst 0, 1) := by decide +kernel
theorem dX11_isRecord_29 : decode cX11_isRecord 29 = .ok (.putfield 143, 3) := by decide +kernel
theorem dX11_isRecord_32 : decode cX11_isRecord 32 = .ok (.iconst 0, 1) := by decide +kernel
theorem dX11_isRecord_33 : decode cX11_isRecord 33 = .ok (.istore_n 2, 1) := by decide +kernel
theorem dX11_isRecord_34 : decode cX11_isRecord 34 = .ok (.iload_n 2, 1) := by decide +kernel
theorem dX11_isRecord_35 : decode cX11_isRecord 35 = .ok (.aload_n 0, 1) := by decide +kernel
theorem dX11_isRecord_36 : decode cX11_isRecord 36 = .ok (.getfield 143, 3) := by decide +kernel
theorem dX11_isRecord_39 : decode cX11_isRecord 39 = .ok (.if_icmp .ge 53, 3) := by decide +kernel
theorem dX11_isRecord_42 : decode cX11_isRecord 42 = .ok (.iload_n 1, 1) := by decide +kernel
theorem dX11_isRecord_43 : decode cX11_isRecord 43 = .ok (.ifCond .eq 26, 3) := by decide +kernel
theorem dX11_isRecord_46 : decode cX11_isRecord 46 = .ok (.aload_n 0, 1) := by decide +kernel
theorem dX11_isRecord_47 : decode cX11_isRecord 47 = .ok (.getfield 26, 3) := by decide +kernel
theorem dX11_isRecord_50 : decode cX11_isRecord 50 = .ok (.iload_n 2, 1) := by decide +kernel
theorem dX11_isRecord_51 : decode cX11_isRecord 51 = .ok (.iaload, 1) := by decide +kernel
theorem dX11_isRecord_52 : decode cX11_isRecord 52 = .ok (.i2l, 1) := by decide +kernel
theorem dX11_isRecord_53 : decode cX11_isRecord 53 = .ok (.ldc2_w 202, 3) := by decide +kernel
theorem dX11_isRecord_56 : decode cX11_isRecord 56 = .ok (.ldc2_w 204, 3) := by decide +kernel
theorem dX11_isRecord_59 : decode cX11_isRecord 59 = .ok (.invokestatic 206, 3) := by decide +kernel
theorem dX11_isRecord_62 : decode cX11_isRecord 62 = .ok (.ifCond .eq 7, 3) := by decide +kernel
theorem dX11_isRecord_65 : decode cX11_isRecord 65 = .ok (.iconst 1, 1) := by decide +kernel
theorem dX11_isRecord_66 : decode cX11_isRecord 66 = .ok (.goto 4, 3) := by decide +kernel
theorem dX11_isRecord_69 : decode cX11_isRecord 69 = .ok (.iconst 0, 1) := by decide +kernel
theorem dX11_isRecord_70 : decode cX11_isRecord 70 = .ok (.istore_n 1, 1) := by decide +kernel
theorem dX11_isRecord_71 : decode cX11_isRecord 71 = .ok (.aload_n 0, 1) := by decide +kernel
theorem dX11_isRecord_72 : decode cX11_isRecord 72 = .ok (.getfield 30, 3) := by decide +kernel
theorem dX11_isRecord_75 : decode cX11_isRecord 75 = .ok (.iload_n 2, 1) := by decide +kernel
theorem dX11_isRecord_76 : decode cX11_isRecord 76 = .ok (.aload_n 0, 1) := by decide +kernel
theorem dX11_isRecord_77 : decode cX11_isRecord 77 = .ok (.getfield 26, 3) := by decide +kernel
theorem dX11_isRecord_80 : decode cX11_isRecord 80 = .ok (.iload_n 2, 1) := by decide +kernel
theorem dX11_isRecord_81 : decode cX11_isRecord 81 = .ok (.iaload, 1) := by decide +kernel
theorem dX11_isRecord_82 : decode cX11_isRecord 82 = .ok (.bipush 96, 2) := by decide +kernel
theorem dX11_isRecord_84 : decode cX11_isRecord 84 = .ok (.isub, 1) := by decide +kernel
theorem dX11_isRecord_85 : decode cX11_isRecord 85 = .ok (.iastore, 1) := by decide +kernel
theorem dX11_isRecord_86 : decode cX11_isRecord 86 = .ok (.iinc 2 1, 3) := by decide +kernel
theorem dX11_isRecord_89 : decode cX11_isRecord 89 = .ok (.goto (-55), 3) := by decide +kernel
theorem dX11_isRecord_92 : decode cX11_isRecord 92 = .ok (.aload_n 0, 1) := by decide +kernel
theorem dX11_isRecord_93 : decode cX11_isRecord 93 = .ok (.iconst 0, 1) := by decide +kernel
theorem dX11_isRecord_94 : decode cX11_isRecord 94 = .ok (.putfield 187, 3) := by decide +kernel
theorem dX11_isRecord_97 : decode cX11_isRecord 97 = .ok (.iload_n 1, 1) := by decide +kernel
theorem dX11_isRecord_98 : decode cX11_isRecord 98 = .ok (.ireturn, 1) := by decide +kernel
set_option maxRecDepth 20000 in
theorem ggX11_create_X11_isHouse : GoodIn wsX11_create wsX11_isHouse := goodIn_r _ [9, 4, 29, 30, 31, 32, 33, 34, 35, 36, 37, 38, 39, 40, 41, 42, 43, 44, 45] (by decide +kernel) (by decide +kernel)
set_option maxRecDepth 20000 in
theorem gX11_create_X11_isHouse : GoodIn wsX11_create (wsV RX11 262 RX11 yX11_isHouse wsX11_isHouse) := goodIn_app (goodIn_of _ (by decide +kernel)) ggX11_create_X11_isHouse
set_option maxRecDepth 20000 in
theorem ggX11_create_X11_isFile : GoodIn wsX11_create wsX11_isFile := goodIn_r _ [12, 2, 13, 14, 8, 15] (by decide +kernel) (by decide +kernel)
set_option maxRecDepth 20000 in
theorem gX11_create_X11_isFile : GoodIn wsX11_create (va_wsS RX11 266 yX11_isFile wsX11_isFile) := goodIn_app (goodIn_of _ (by decide +kernel)) ggX11_create_X11_isFile
set_option maxRecDepth 20000 in
theorem ggX11_create_X11_in : GoodIn wsX11_create wsX11_in := goodIn_r _ [15] (by decide +kernel) (by decide +kernel)
set_option maxRecDepth 20000 in
theorem gX11_create_X11_in : GoodIn wsX11_create (va_wsS RX11 206 yX11_in wsX11_in) := goodIn_app (goodIn_of _ (by decide +kernel)) ggX11_create_X11_in
set_option maxRecDepth 20000 in
theorem ggX11_create_X11_notes : GoodIn wsX11_create wsX11_notes := goodIn_r _ [19, 20, 21, 4, 22, 23, 8, 24, 29, 30, 31, 32, 33, 34, 35, 36, 37, 38, 39, 40, 41, 42, 43, 44, 45] (by decide +kernel) (by decide +kernel)
set_option maxRecDepth 20000 in
theorem gX11_create_X11_notes : GoodIn wsX11_create (wsV RX11 269 RX11 yX11_notes wsX11_notes) := goodIn_app (goodIn_of _ (by decide +kernel)) ggX11_create_X11_notes
set_option maxRecDepth 20000 in
theorem ggX11_create_X11_filesThat : GoodIn wsX11_create wsX11_filesThat := goodIn_r _ [28, 4, 29, 30, 31, 32, 33, 34, 35, 36, 37, 38, 39, 40, 41, 42, 43, 44, 45] (by decide +kernel) (by decide +kernel)
set_option maxRecDepth 20000 in
theorem gX11_create_X11_filesThat : GoodIn wsX11_create (wsV RX11 272 RX11 yX11_filesThat wsX11_filesThat) := goodIn_app (goodIn_of _ (by decide +kernel)) ggX11_create_X11_filesThat
theorem dX11_create_0 : decode cX11_create 0 = .ok (.aload_n 0, 1) := by decide +kernel
theorem dX11_create_1 : decode cX11_create 1 = .ok (.invokevirtual 262, 3) := by decide +kernel
theorem dX11_create_4 : decode cX11_create 4 = .ok (.ifCond .ne 7, 3) := by decide +kernel
theorem dX11_create_7 : decode cX11_create 7 = .ok (.ldc_w 261, 3) := by decide +kernel
theorem dX11_create_10 : decode cX11_create 10 = .ok (.ireturn, 1) := by decide +kernel
theorem dX11_create_11 : decode cX11_create 11 = .ok (.iload_n 1, 1) := by decide +kernel
theorem dX11_create_12 : decode cX11_create 12 = .ok (.invokestatic 266, 3) := by decide +kernel
theorem dX11_create_15 : decode cX11_create 15 = .ok (.ifCond .eq 15, 3) := by decide +kernel
theorem dX11_create_18 : decode cX11_create 18 = .ok (.iload_n 2, 1) := by decide +kernel
theorem dX11_create_19 : decode cX11_create 19 = .ok (.i2l, 1) := by decide +kernel
theorem dX11_create_20 : decode cX11_create 20 = .ok (.lconst 1, 1) := by decide +kernel
theorem dX11_create_21 : decode cX11_create 21 = .ok (.ldc2_w 84, 3) := by decide +kernel
theorem dX11_create_24 : decode cX11_create 24 = .ok (.invokestatic 206, 3) := by decide +kernel
theorem dX11_create_27 : decode cX11_create 27 = .ok (.ifCond .ne 6, 3) := by decide +kernel
theorem dX11_create_30 : decode cX11_create 30 = .ok (.ldc 235, 2) := by decide +kernel
theorem dX11_create_32 : decode cX11_create 32 = .ok (.ireturn, 1) := by decide +kernel
theorem dX11_create_33 : decode cX11_create 33 = .ok (.aload_n 0, 1) := by decide +kernel
theorem dX11_create_34 : decode cX11_create 34 = .ok (.getfield 7, 3) := by decide +kernel
theorem dX11_create_37 : decode cX11_create 37 = .ok (.bipush 22, 2) := by decide +kernel
theorem dX11_create_39 : decode cX11_create 39 = .ok (.bipush 8, 2) := by decide +kernel
theorem dX11_create_41 : decode cX11_create 41 = .ok (.iload_n 1, 1) := by decide +kernel
theorem dX11_create_42 : decode cX11_create 42 = .ok (.imul, 1) := by decide +kernel
theorem dX11_create_43 : decode cX11_create 43 = .ok (.iadd, 1) := by decide +kernel
theorem dX11_create_44 : decode cX11_create 44 = .ok (.iconst 0, 1) := by decide +kernel
theorem dX11_create_45 : decode cX11_create 45 = .ok (.iadd, 1) := by decide +kernel
theorem dX11_create_46 : decode cX11_create 46 = .ok (.laload, 1) := by decide +kernel
theorem dX11_create_47 : decode cX11_create 47 = .ok (.lconst 0, 1) := by decide +kernel
theorem dX11_create_48 : decode cX11_create 48 = .ok (.lcmp, 1) := by decide +kernel
theorem dX11_create_49 : decode cX11_create 49 = .ok (.ifCond .eq 7, 3) := by decide +kernel
theorem dX11_create_52 : decode cX11_create 52 = .ok (.ldc_w 261, 3) := by decide +kernel
theorem dX11_create_55 : decode cX11_create 55 = .ok (.ireturn, 1) := by decide +kernel
theorem dX11_create_56 : decode cX11_create 56 = .ok (.aload_n 0, 1) := by decide +kernel
theorem dX11_create_57 : decode cX11_create 57 = .ok (.invokevirtual 269, 3) := by decide +kernel
theorem dX11_create_60 : decode cX11_create 60 = .ok (.aload_n 0, 1) := by decide +kernel
theorem dX11_create_61 : decode cX11_create 61 = .ok (.getfield 7, 3) := by decide +kernel
theorem dX11_create_64 : decode cX11_create 64 = .ok (.bipush 22, 2) := by decide +kernel
theorem dX11_create_66 : decode cX11_create 66 = .ok (.bipush 8, 2) := by decide +kernel
theorem dX11_create_68 : decode cX11_create 68 = .ok (.iload_n 1, 1) := by decide +kernel
theorem dX11_create_69 : decode cX11_create 69 = .ok (.imul, 1) := by decide +kernel
theorem dX11_create_70 : decode cX11_create 70 = .ok (.iadd, 1) := by decide +kernel
theorem dX11_create_71 : decode cX11_create 71 = .ok (.iconst 0, 1) := by decide +kernel
theorem dX11_create_72 : decode cX11_create 72 = .ok (.iadd, 1) := by decide +kernel
theorem dX11_create_73 : decode cX11_create 73 = .ok (.lconst 1, 1) := by decide +kernel
theorem dX11_create_74 : decode cX11_create 74 = .ok (.lastore, 1) := by decide +kernel
theorem dX11_create_75 : decode cX11_create 75 = .ok (.aload_n 0, 1) := by decide +kernel
theorem dX11_create_76 : decode cX11_create 76 = .ok (.getfield 7, 3) := by decide +kernel
theorem dX11_create_79 : decode cX11_create 79 = .ok (.bipush 22, 2) := by decide +kernel
theorem dX11_create_81 : decode cX11_create 81 = .ok (.bipush 8, 2) := by decide +kernel
theorem dX11_create_83 : decode cX11_create 83 = .ok (.iload_n 1, 1) := by decide +kernel
theorem dX11_create_84 : decode cX11_create 84 = .ok (.imul, 1) := by decide +kernel
theorem dX11_create_85 : decode cX11_create 85 = .ok (.iadd, 1) := by decide +kernel
theorem dX11_create_86 : decode cX11_create 86 = .ok (.iconst 1, 1) := by decide +kernel
theorem dX11_create_87 : decode cX11_create 87 = .ok (.iadd, 1) := by decide +kernel
theorem dX11_create_88 : decode cX11_create 88 = .ok (.iload_n 2, 1) := by decide +kernel
theorem dX11_create_89 : decode cX11_create 89 = .ok (.i2l, 1) := by decide +kernel
theorem dX11_create_90 : decode cX11_create 90 = .ok (.lastore, 1) := by decide +kernel
theorem dX11_create_91 : decode cX11_create 91 = .ok (.aload_n 0, 1) := by decide +kernel
theorem dX11_create_92 : decode cX11_create 92 = .ok (.getfield 7, 3) := by decide +kernel
theorem dX11_create_95 : decode cX11_create 95 = .ok (.bipush 22, 2) := by decide +kernel
theorem dX11_create_97 : decode cX11_create 97 = .ok (.bipush 8, 2) := by decide +kernel
theorem dX11_create_99 : decode cX11_create 99 = .ok (.iload_n 1, 1) := by decide +kernel
theorem dX11_create_100 : decode cX11_create 100 = .ok (.imul, 1) := by decide +kernel
theorem dX11_create_101 : decode cX11_create 101 = .ok (.iadd, 1) := by decide +kernel
theorem dX11_create_102 : decode cX11_create 102 = .ok (.iconst 2, 1) := by decide +kernel
theorem dX11_create_103 : decode cX11_create 103 = .ok (.iadd, 1) := by decide +kernel
theorem dX11_create_104 : decode cX11_create 104 = .ok (.lconst 0, 1) := by decide +kernel
theorem dX11_create_105 : decode cX11_create 105 = .ok (.lastore, 1) := by decide +kernel
theorem dX11_create_106 : decode cX11_create 106 = .ok (.aload_n 0, 1) := by decide +kernel
theorem dX11_create_107 : decode cX11_create 107 = .ok (.iconst 1, 1) := by decide +kernel
theorem dX11_create_108 : decode cX11_create 108 = .ok (.invokevirtual 272, 3) := by decide +kernel
theorem dX11_create_111 : decode cX11_create 111 = .ok (.ireturn, 1) := by decide +kernel
set_option maxRecDepth 20000 in
theorem ggX11_append_X11_isRecord : GoodIn wsX11_append wsX11_isRecord := goodIn_r _ [8, 9, 3, 10, 11, 12, 13, 14, 15, 16, 7, 17, 154, 155, 156, 157, 158, 159, 160, 161, 162, 163, 164, 165, 166, 167, 168, 169, 170] (by decide +kernel) (by decide +kernel)
set_option maxRecDepth 20000 in
theorem gX11_append_X11_isRecord : GoodIn wsX11_append (wsV RX11 275 RX11 yX11_isRecord wsX11_isRecord) := goodIn_app (goodIn_of _ (by decide +kernel)) ggX11_append_X11_isRecord
set_option maxRecDepth 20000 in
theorem ggX11_append_X11_isHouse : GoodIn wsX11_append wsX11_isHouse := goodIn_r _ [21, 3, 154, 155, 156, 157, 158, 159, 160, 161, 162, 163, 164, 165, 166, 167, 168, 169, 170] (by decide +kernel) (by decide +kernel)
set_option maxRecDepth 20000 in
theorem gX11_append_X11_isHouse : GoodIn wsX11_append (wsV RX11 262 RX11 yX11_isHouse wsX11_isHouse) := goodIn_app (goodIn_of _ (by decide +kernel)) ggX11_append_X11_isHouse
set_option maxRecDepth 20000 in
theorem ggX11_append_X11_isFile : GoodIn wsX11_append wsX11_isFile := goodIn_r _ [24, 25, 15, 16, 7, 17] (by decide +kernel) (by decide +kernel)
set_option maxRecDepth 20000 in
theorem gX11_append_X11_isFile : GoodIn wsX11_append (va_wsS RX11 266 yX11_isFile wsX11_isFile) := goodIn_app (goodIn_of _ (by decide +kernel)) ggX11_append_X11_isFile
set_option maxRecDepth 20000 in
theorem ggX11_append_X11_isThere : GoodIn wsX11_append wsX11_isThere := goodIn_r _ [29, 3, 154, 155, 156, 157, 158, 159, 160, 161, 162, 163, 164, 165, 166, 167, 168, 169, 170] (by decide +kernel) (by decide +kernel)
set_option maxRecDepth 20000 in
theorem gX11_append_X11_isThere : GoodIn wsX11_append (wsV RX11 278 RX11 yX11_isThere wsX11_isThere) := goodIn_app (goodIn_of _ (by decide +kernel)) ggX11_append_X11_isThere
set_option maxRecDepth 20000 in
theorem ggX11_append_X11_notes : GoodIn wsX11_append wsX11_notes := goodIn_r _ [33, 34, 35, 3, 36, 37, 7, 38, 154, 155, 156, 157, 158, 159, 160, 161, 162, 163, 164, 165, 166, 167, 168, 169, 170] (by decide +kernel) (by decide +kernel)
set_option maxRecDepth 20000 in
theorem gX11_append_X11_notes : GoodIn wsX11_append (wsV RX11 269 RX11 yX11_notes wsX11_notes) := goodIn_app (goodIn_of _ (by decide +kernel)) ggX11_append_X11_notes
set_option maxRecDepth 20000 in
theorem ggX11_append_X11_appends : GoodIn wsX11_append wsX11_appends := goodIn_r _ [42, 10, 43, 44, 45, 7, 46, 47, 48, 49, 50, 51, 52, 53, 54, 55, 56, 57, 58, 59, 60, 61, 62, 25, 63, 64, 65, 66, 67, 68, 69, 70, 71, 72, 73, 74, 75, 76, 77, 78, 79, 80, 81, 82, 83, 84, 85, 86, 87, 88, 89, 90, 91, 92, 93, 94, 95, 96, 97, 98, 99, 100, 101, 102, 103, 104, 105, 106, 107, 108, 109, 110, 111, 112, 113, 114, 115, 116, 117, 118, 119, 120, 121, 122, 123, 124, 125, 126, 127, 128, 129, 130, 131, 132, 133, 134, 135, 136, 137, 138, 139, 140, 141, 142, 143, 144, 145, 146, 147, 148, 149, 150, 151, 152, 153, 14, 154, 155, 156, 157, 158, 159, 160, 161, 162, 163, 164, 165, 166, 167, 168, 169, 170] (by decide +kernel) (by decide +kernel)
set_option maxRecDepth 20000 in
theorem gX11_append_X11_appends : GoodIn wsX11_append (wsV RX11 281 RX11 yX11_appends wsX11_appends) := goodIn_app (goodIn_of _ (by decide +kernel)) ggX11_append_X11_appends
theorem dX11_append_0 : decode cX11_append 0 = .ok (.aload_n 0, 1) := by decide +kernel
theorem dX11_append_1 : decode cX11_append 1 = .ok (.invokevirtual 275, 3) := by decide +kernel
theorem dX11_append_4 : decode cX11_append 4 = .ok (.istore_n 2, 1) := by decide +kernel
theorem dX11_append_5 : decode cX11_append 5 = .ok (.aload_n 0, 1) := by decide +kernel
theorem dX11_append_6 : decode cX11_append 6 = .ok (.invokevirtual 262, 3) := by decide +kernel
theorem dX11_append_9 : decode cX11_append 9 = .ok (.ifCond .ne 7, 3) := by decide +kernel
theorem dX11_append_12 : decode cX11_append 12 = .ok (.ldc_w 261, 3) := by decide +kernel
theorem dX11_append_15 : decode cX11_append 15 = .ok (.ireturn, 1) := by decide +kernel
theorem dX11_append_16 : decode cX11_append 16 = .ok (.iload_n 1, 1) := by decide +kernel
theorem dX11_append_17 : decode cX11_append 17 = .ok (.invokestatic 266, 3) := by decide +kernel
theorem dX11_append_20 : decode cX11_append 20 = .ok (.ifCond .eq 7, 3) := by decide +kernel
theorem dX11_append_23 : decode cX11_append 23 = .ok (.iload_n 2, 1) := by decide +kernel
theorem dX11_append_24 : decode cX11_append 24 = .ok (.ifCond .ne 6, 3) := by decide +kernel
theorem dX11_append_27 : decode cX11_append 27 = .ok (.ldc 235, 2) := by decide +kernel
theorem dX11_append_29 : decode cX11_append 29 = .ok (.ireturn, 1) := by decide +kernel
theorem dX11_append_30 : decode cX11_append 30 = .ok (.aload_n 0, 1) := by decide +kernel
theorem dX11_append_31 : decode cX11_append 31 = .ok (.iload_n 1, 1) := by decide +kernel
theorem dX11_append_32 : decode cX11_append 32 = .ok (.invokevirtual 278, 3) := by decide +kernel
theorem dX11_append_35 : decode cX11_append 35 = .ok (.ifCond .ne 7, 3) := by decide +kernel
theorem dX11_append_38 : decode cX11_append 38 = .ok (.ldc_w 261, 3) := by decide +kernel
theorem dX11_append_41 : decode cX11_append 41 = .ok (.ireturn, 1) := by decide +kernel
theorem dX11_append_42 : decode cX11_append 42 = .ok (.aload_n 0, 1) := by decide +kernel
theorem dX11_append_43 : decode cX11_append 43 = .ok (.invokevirtual 269, 3) := by decide +kernel
theorem dX11_append_46 : decode cX11_append 46 = .ok (.aload_n 0, 1) := by decide +kernel
theorem dX11_append_47 : decode cX11_append 47 = .ok (.aload_n 0, 1) := by decide +kernel
theorem dX11_append_48 : decode cX11_append 48 = .ok (.getfield 7, 3) := by decide +kernel
theorem dX11_append_51 : decode cX11_append 51 = .ok (.iload_n 1, 1) := by decide +kernel
theorem dX11_append_52 : decode cX11_append 52 = .ok (.invokevirtual 281, 3) := by decide +kernel
theorem dX11_append_55 : decode cX11_append 55 = .ok (.ireturn, 1) := by decide +kernel
set_option maxRecDepth 20000 in
theorem ggX11_isCell_X11_many : GoodIn wsX11_isCell wsX11_many := goodIn_r _ [5] (by decide +kernel) (by decide +kernel)
set_option maxRecDepth 20000 in
theorem gX11_isCell_X11_many : GoodIn wsX11_isCell (va_wsS RX11 90 yX11_many wsX11_many) := goodIn_app (goodIn_of _ (by decide +kernel)) ggX11_isCell_X11_many
set_option maxRecDepth 20000 in
theorem ggX11_isCell_X11_in : GoodIn wsX11_isCell wsX11_in := goodIn_r _ [8] (by decide +kernel) (by decide +kernel)
set_option maxRecDepth 20000 in
theorem gX11_isCell_X11_in : GoodIn wsX11_isCell (va_wsS RX11 206 yX11_in wsX11_in) := goodIn_app (goodIn_of _ (by decide +kernel)) ggX11_isCell_X11_in
theorem dX11_isCell_0 : decode cX11_isCell 0 = .ok (.iload_n 2, 1) := by decide +kernel
theorem dX11_isCell_1 : decode cX11_isCell 1 = .ok (.i2l, 1) := by decide +kernel
theorem dX11_isCell_2 : decode cX11_isCell 2 = .ok (.lconst 0, 1) := by decide +kernel
theorem dX11_isCell_3 : decode cX11_isCell 3 = .ok (.aload_n 0, 1) := by decide +kernel
theorem dX11_isCell_4 : decode cX11_isCell 4 = .ok (.getfield 7, 3) := by decide +kernel
theorem dX11_isCell_7 : decode cX11_isCell 7 = .ok (.iconst 2, 1) := by decide +kernel
theorem dX11_isCell_8 : decode cX11_isCell 8 = .ok (.laload, 1) := by decide +kernel
theorem dX11_isCell_9 : decode cX11_isCell 9 = .ok (.aload_n 0, 1) := by decide +kernel
theorem dX11_isCell_10 : decode cX11_isCell 10 = .ok (.getfield 7, 3) := by decide +kernel
theorem dX11_isCell_13 : decode cX11_isCell 13 = .ok (.iload_n 1, 1) := by decide +kernel
theorem dX11_isCell_14 : decode cX11_isCell 14 = .ok (.invokestatic 90, 3) := by decide +kernel
theorem dX11_isCell_17 : decode cX11_isCell 17 = .ok (.i2l, 1) := by decide +kernel
theorem dX11_isCell_18 : decode cX11_isCell 18 = .ok (.lmul, 1) := by decide +kernel
theorem dX11_isCell_19 : decode cX11_isCell 19 = .ok (.lconst 1, 1) := by decide +kernel
theorem dX11_isCell_20 : decode cX11_isCell 20 = .ok (.lsub, 1) := by decide +kernel
theorem dX11_isCell_21 : decode cX11_isCell 21 = .ok (.invokestatic 206, 3) := by decide +kernel
theorem dX11_isCell_24 : decode cX11_isCell 24 = .ok (.ireturn, 1) := by decide +kernel
set_option maxRecDepth 20000 in
theorem ggX11_put_X11_isHouse : GoodIn wsX11_put wsX11_isHouse := goodIn_r _ [11, 3, 111, 112, 113, 114, 115, 116, 117, 118, 119, 120, 121, 122, 123, 124, 125, 126, 127] (by decide +kernel) (by decide +kernel)
set_option maxRecDepth 20000 in
theorem gX11_put_X11_isHouse : GoodIn wsX11_put (wsV RX11 262 RX11 yX11_isHouse wsX11_isHouse) := goodIn_app (goodIn_of _ (by decide +kernel)) ggX11_put_X11_isHouse
set_option maxRecDepth 20000 in
theorem ggX11_put_X11_isFile : GoodIn wsX11_put wsX11_isFile := goodIn_r _ [14, 15, 16, 17, 10, 18] (by decide +kernel) (by decide +kernel)
set_option maxRecDepth 20000 in
theorem gX11_put_X11_isFile : GoodIn wsX11_put (va_wsS RX11 266 yX11_isFile wsX11_isFile) := goodIn_app (goodIn_of _ (by decide +kernel)) ggX11_put_X11_isFile
set_option maxRecDepth 20000 in
theorem ggX11_put_X11_isThere : GoodIn wsX11_put wsX11_isThere := goodIn_r _ [22, 3, 111, 112, 113, 114, 115, 116, 117, 118, 119, 120, 121, 122, 123, 124, 125, 126, 127] (by decide +kernel) (by decide +kernel)
set_option maxRecDepth 20000 in
theorem gX11_put_X11_isThere : GoodIn wsX11_put (wsV RX11 278 RX11 yX11_isThere wsX11_isThere) := goodIn_app (goodIn_of _ (by decide +kernel)) ggX11_put_X11_isThere
set_option maxRecDepth 20000 in
theorem ggX11_put_X11_isCell : GoodIn wsX11_put wsX11_isCell := goodIn_r _ [26, 3, 27, 28, 10, 29, 16, 17, 18, 111, 112, 113, 114, 115, 116, 117, 118, 119, 120, 121, 122, 123, 124, 125, 126, 127] (by decide +kernel) (by decide +kernel)
set_option maxRecDepth 20000 in
theorem gX11_put_X11_isCell : GoodIn wsX11_put (wsV RX11 286 RX11 yX11_isCell wsX11_isCell) := goodIn_app (goodIn_of _ (by decide +kernel)) ggX11_put_X11_isCell
set_option maxRecDepth 20000 in
theorem ggX11_put_X11_in : GoodIn wsX11_put wsX11_in := goodIn_r _ [18] (by decide +kernel) (by decide +kernel)
set_option maxRecDepth 20000 in
theorem gX11_put_X11_in : GoodIn wsX11_put (va_wsS RX11 206 yX11_in wsX11_in) := goodIn_app (goodIn_of _ (by decide +kernel)) ggX11_put_X11_in
set_option maxRecDepth 20000 in
theorem ggX11_put_X11_notes : GoodIn wsX11_put wsX11_notes := goodIn_r _ [33, 34, 35, 3, 36, 37, 10, 38, 111, 112, 113, 114, 115, 116, 117, 118, 119, 120, 121, 122, 123, 124, 125, 126, 127] (by decide +kernel) (by decide +kernel)
set_option maxRecDepth 20000 in
theorem gX11_put_X11_notes : GoodIn wsX11_put (wsV RX11 269 RX11 yX11_notes wsX11_notes) := goodIn_app (goodIn_of _ (by decide +kernel)) ggX11_put_X11_notes
set_option maxRecDepth 20000 in
theorem ggX11_put_X11_puts : GoodIn wsX11_put wsX11_puts := goodIn_r _ [41, 42, 43, 44, 10, 45, 46, 47, 48, 49, 50, 51, 52, 53, 54, 55, 56, 57, 58, 59, 60, 61, 62, 63, 64, 65, 66, 67, 68, 69, 70, 71, 72, 73, 74, 75, 76, 77, 78, 79, 80, 81, 82, 83, 84, 85, 86, 87, 88, 89, 90, 91, 92, 93, 94, 95, 96, 97, 98, 99, 100, 101, 102, 103, 104, 105, 106, 107, 108, 109, 110] (by decide +kernel) (by decide +kernel)
set_option maxRecDepth 20000 in
theorem gX11_put_X11_puts : GoodIn wsX11_put (va_wsS RX11 289 yX11_puts wsX11_puts) := goodIn_app (goodIn_of _ (by decide +kernel)) ggX11_put_X11_puts
theorem dX11_put_0 : decode cX11_put 0 = .ok (.aload_n 0, 1) := by decide +kernel
theorem dX11_put_1 : decode cX11_put 1 = .ok (.invokevirtual 262, 3) := by decide +kernel
theorem dX11_put_4 : decode cX11_put 4 = .ok (.ifCond .ne 7, 3) := by decide +kernel
theorem dX11_put_7 : decode cX11_put 7 = .ok (.ldc_w 261, 3) := by decide +kernel
theorem dX11_put_10 : decode cX11_put 10 = .ok (.ireturn, 1) := by decide +kernel
theorem dX11_put_11 : decode cX11_put 11 = .ok (.iload_n 1, 1) := by decide +kernel
theorem dX11_put_12 : decode cX11_put 12 = .ok (.invokestatic 266, 3) := by decide +kernel
theorem dX11_put_15 : decode cX11_put 15 = .ok (.ifCond .ne 6, 3) := by decide +kernel
theorem dX11_put_18 : decode cX11_put 18 = .ok (.ldc 235, 2) := by decide +kernel
theorem dX11_put_20 : decode cX11_put 20 = .ok (.ireturn, 1) := by decide +kernel
theorem dX11_put_21 : decode cX11_put 21 = .ok (.aload_n 0, 1) := by decide +kernel
theorem dX11_put_22 : decode cX11_put 22 = .ok (.iload_n 1, 1) := by decide +kernel
theorem dX11_put_23 : decode cX11_put 23 = .ok (.invokevirtual 278, 3) := by decide +kernel
theorem dX11_put_26 : decode cX11_put 26 = .ok (.ifCond .eq 24, 3) := by decide +kernel
theorem dX11_put_29 : decode cX11_put 29 = .ok (.aload_n 0, 1) := by decide +kernel
theorem dX11_put_30 : decode cX11_put 30 = .ok (.getfield 7, 3) := by decide +kernel
theorem dX11_put_33 : decode cX11_put 33 = .ok (.bipush 22, 2) := by decide +kernel
theorem dX11_put_35 : decode cX11_put 35 = .ok (.bipush 8, 2) := by decide +kernel
theorem dX11_put_37 : decode cX11_put 37 = .ok (.iload_n 1, 1) := by decide +kernel
theorem dX11_put_38 : decode cX11_put 38 = .ok (.imul, 1) := by decide +kernel
theorem dX11_put_39 : decode cX11_put 39 = .ok (.iadd, 1) := by decide +kernel
theorem dX11_put_40 : decode cX11_put 40 = .ok (.iconst 1, 1) := by decide +kernel
theorem dX11_put_41 : decode cX11_put 41 = .ok (.iadd, 1) := by decide +kernel
theorem dX11_put_42 : decode cX11_put 42 = .ok (.laload, 1) := by decide +kernel
theorem dX11_put_43 : decode cX11_put 43 = .ok (.ldc2_w 284, 3) := by decide +kernel
theorem dX11_put_46 : decode cX11_put 46 = .ok (.lcmp, 1) := by decide +kernel
theorem dX11_put_47 : decode cX11_put 47 = .ok (.ifCond .ne 7, 3) := by decide +kernel
theorem dX11_put_50 : decode cX11_put 50 = .ok (.ldc_w 261, 3) := by decide +kernel
theorem dX11_put_53 : decode cX11_put 53 = .ok (.ireturn, 1) := by decide +kernel
theorem dX11_put_54 : decode cX11_put 54 = .ok (.aload_n 0, 1) := by decide +kernel
theorem dX11_put_55 : decode cX11_put 55 = .ok (.iload_n 1, 1) := by decide +kernel
theorem dX11_put_56 : decode cX11_put 56 = .ok (.iload_n 2, 1) := by decide +kernel
theorem dX11_put_57 : decode cX11_put 57 = .ok (.invokevirtual 286, 3) := by decide +kernel
theorem dX11_put_60 : decode cX11_put 60 = .ok (.ifCond .eq 17, 3) := by decide +kernel
theorem dX11_put_63 : decode cX11_put 63 = .ok (.iload_n 3, 1) := by decide +kernel
theorem dX11_put_64 : decode cX11_put 64 = .ok (.i2l, 1) := by decide +kernel
theorem dX11_put_65 : decode cX11_put 65 = .ok (.ldc2_w 202, 3) := by decide +kernel
theorem dX11_put_68 : decode cX11_put 68 = .ok (.ldc2_w 204, 3) := by decide +kernel
theorem dX11_put_71 : decode cX11_put 71 = .ok (.invokestatic 206, 3) := by decide +kernel
theorem dX11_put_74 : decode cX11_put 74 = .ok (.ifCond .ne 6, 3) := by decide +kernel
theorem dX11_put_77 : decode cX11_put 77 = .ok (.ldc 235, 2) := by decide +kernel
theorem dX11_put_79 : decode cX11_put 79 = .ok (.ireturn, 1) := by decide +kernel
theorem dX11_put_80 : decode cX11_put 80 = .ok (.aload_n 0, 1) := by decide +kernel
theorem dX11_put_81 : decode cX11_put 81 = .ok (.invokevirtual 269, 3) := by decide +kernel
theorem dX11_put_84 : decode cX11_put 84 = .ok (.aload_n 0, 1) := by decide +kernel
theorem dX11_put_85 : decode cX11_put 85 = .ok (.getfield 7, 3) := by decide +kernel
theorem dX11_put_88 : decode cX11_put 88 = .ok (.iload_n 1, 1) := by decide +kernel
theorem dX11_put_89 : decode cX11_put 89 = .ok (.iload_n 2, 1) := by decide +kernel
theorem dX11_put_90 : decode cX11_put 90 = .ok (.iload_n 3, 1) := by decide +kernel
theorem dX11_put_91 : decode cX11_put 91 = .ok (.invokestatic 289, 3) := by decide +kernel
theorem dX11_put_94 : decode cX11_put 94 = .ok (.ireturn, 1) := by decide +kernel
set_option maxRecDepth 20000 in
theorem ggX11_both_X11_isHouse : GoodIn wsX11_both wsX11_isHouse := goodIn_r _ [9, 3, 36, 37, 38, 39, 40, 41, 42, 43, 44, 45, 46, 47, 48, 49, 50, 51, 52] (by decide +kernel) (by decide +kernel)
set_option maxRecDepth 20000 in
theorem gX11_both_X11_isHouse : GoodIn wsX11_both (wsV RX11 262 RX11 yX11_isHouse wsX11_isHouse) := goodIn_app (goodIn_of _ (by decide +kernel)) ggX11_both_X11_isHouse
set_option maxRecDepth 20000 in
theorem ggX11_both_X11_isFile : GoodIn wsX11_both wsX11_isFile := goodIn_r _ [12, 13, 14, 15, 8, 16] (by decide +kernel) (by decide +kernel)
set_option maxRecDepth 20000 in
theorem gX11_both_X11_isFile : GoodIn wsX11_both (va_wsS RX11 266 yX11_isFile wsX11_isFile) := goodIn_app (goodIn_of _ (by decide +kernel)) ggX11_both_X11_isFile
set_option maxRecDepth 20000 in
theorem ggX11_both_X11_isThere : GoodIn wsX11_both wsX11_isThere := goodIn_r _ [20, 3, 36, 37, 38, 39, 40, 41, 42, 43, 44, 45, 46, 47, 48, 49, 50, 51, 52] (by decide +kernel) (by decide +kernel)
set_option maxRecDepth 20000 in
theorem gX11_both_X11_isThere : GoodIn wsX11_both (wsV RX11 278 RX11 yX11_isThere wsX11_isThere) := goodIn_app (goodIn_of _ (by decide +kernel)) ggX11_both_X11_isThere
set_option maxRecDepth 20000 in
theorem ggX11_both_X11_notes : GoodIn wsX11_both wsX11_notes := goodIn_r _ [24, 25, 26, 3, 27, 28, 8, 29, 36, 37, 38, 39, 40, 41, 42, 43, 44, 45, 46, 47, 48, 49, 50, 51, 52] (by decide +kernel) (by decide +kernel)
set_option maxRecDepth 20000 in
theorem gX11_both_X11_notes : GoodIn wsX11_both (wsV RX11 269 RX11 yX11_notes wsX11_notes) := goodIn_app (goodIn_of _ (by decide +kernel)) ggX11_both_X11_notes
set_option maxRecDepth 20000 in
theorem ggX11_both_X11_many : GoodIn wsX11_both wsX11_many := goodIn_r _ [32] (by decide +kernel) (by decide +kernel)
set_option maxRecDepth 20000 in
theorem gX11_both_X11_many : GoodIn wsX11_both (va_wsS RX11 90 yX11_many wsX11_many) := goodIn_app (goodIn_of _ (by decide +kernel)) ggX11_both_X11_many
set_option maxRecDepth 20000 in
theorem ggX11_both_X11_chunkOf : GoodIn wsX11_both wsX11_chunkOf := goodIn_r _ [35] (by decide +kernel) (by decide +kernel)
set_option maxRecDepth 20000 in
theorem gX11_both_X11_chunkOf : GoodIn wsX11_both (va_wsS RX11 93 yX11_chunkOf wsX11_chunkOf) := goodIn_app (goodIn_of _ (by decide +kernel)) ggX11_both_X11_chunkOf
theorem dX11_both_0 : decode cX11_both 0 = .ok (.aload_n 0, 1) := by decide +kernel
theorem dX11_both_1 : decode cX11_both 1 = .ok (.invokevirtual 262, 3) := by decide +kernel
theorem dX11_both_4 : decode cX11_both 4 = .ok (.ifCond .ne 7, 3) := by decide +kernel
theorem dX11_both_7 : decode cX11_both 7 = .ok (.ldc_w 261, 3) := by decide +kernel
theorem dX11_both_10 : decode cX11_both 10 = .ok (.ireturn, 1) := by decide +kernel
theorem dX11_both_11 : decode cX11_both 11 = .ok (.iload_n 1, 1) := by decide +kernel
theorem dX11_both_12 : decode cX11_both 12 = .ok (.invokestatic 266, 3) := by decide +kernel
theorem dX11_both_15 : decode cX11_both 15 = .ok (.ifCond .eq 10, 3) := by decide +kernel
theorem dX11_both_18 : decode cX11_both 18 = .ok (.iload_n 2, 1) := by decide +kernel
theorem dX11_both_19 : decode cX11_both 19 = .ok (.invokestatic 266, 3) := by decide +kernel
theorem dX11_both_22 : decode cX11_both 22 = .ok (.ifCond .ne 6, 3) := by decide +kernel
theorem dX11_both_25 : decode cX11_both 25 = .ok (.ldc 235, 2) := by decide +kernel
theorem dX11_both_27 : decode cX11_both 27 = .ok (.ireturn, 1) := by decide +kernel
theorem dX11_both_28 : decode cX11_both 28 = .ok (.aload_n 0, 1) := by decide +kernel
theorem dX11_both_29 : decode cX11_both 29 = .ok (.iload_n 1, 1) := by decide +kernel
theorem dX11_both_30 : decode cX11_both 30 = .ok (.invokevirtual 278, 3) := by decide +kernel
theorem dX11_both_33 : decode cX11_both 33 = .ok (.ifCond .eq 22, 3) := by decide +kernel
theorem dX11_both_36 : decode cX11_both 36 = .ok (.aload_n 0, 1) := by decide +kernel
theorem dX11_both_37 : decode cX11_both 37 = .ok (.getfield 7, 3) := by decide +kernel
theorem dX11_both_40 : decode cX11_both 40 = .ok (.bipush 22, 2) := by decide +kernel
theorem dX11_both_42 : decode cX11_both 42 = .ok (.bipush 8, 2) := by decide +kernel
theorem dX11_both_44 : decode cX11_both 44 = .ok (.iload_n 2, 1) := by decide +kernel
theorem dX11_both_45 : decode cX11_both 45 = .ok (.imul, 1) := by decide +kernel
theorem dX11_both_46 : decode cX11_both 46 = .ok (.iadd, 1) := by decide +kernel
theorem dX11_both_47 : decode cX11_both 47 = .ok (.iconst 0, 1) := by decide +kernel
theorem dX11_both_48 : decode cX11_both 48 = .ok (.iadd, 1) := by decide +kernel
theorem dX11_both_49 : decode cX11_both 49 = .ok (.laload, 1) := by decide +kernel
theorem dX11_both_50 : decode cX11_both 50 = .ok (.lconst 0, 1) := by decide +kernel
theorem dX11_both_51 : decode cX11_both 51 = .ok (.lcmp, 1) := by decide +kernel
theorem dX11_both_52 : decode cX11_both 52 = .ok (.ifCond .eq 7, 3) := by decide +kernel
theorem dX11_both_55 : decode cX11_both 55 = .ok (.ldc_w 261, 3) := by decide +kernel
theorem dX11_both_58 : decode cX11_both 58 = .ok (.ireturn, 1) := by decide +kernel
theorem dX11_both_59 : decode cX11_both 59 = .ok (.aload_n 0, 1) := by decide +kernel
theorem dX11_both_60 : decode cX11_both 60 = .ok (.invokevirtual 269, 3) := by decide +kernel
theorem dX11_both_63 : decode cX11_both 63 = .ok (.aload_n 0, 1) := by decide +kernel
theorem dX11_both_64 : decode cX11_both 64 = .ok (.getfield 7, 3) := by decide +kernel
theorem dX11_both_67 : decode cX11_both 67 = .ok (.bipush 22, 2) := by decide +kernel
theorem dX11_both_69 : decode cX11_both 69 = .ok (.bipush 8, 2) := by decide +kernel
theorem dX11_both_71 : decode cX11_both 71 = .ok (.iload_n 2, 1) := by decide +kernel
theorem dX11_both_72 : decode cX11_both 72 = .ok (.imul, 1) := by decide +kernel
theorem dX11_both_73 : decode cX11_both 73 = .ok (.iadd, 1) := by decide +kernel
theorem dX11_both_74 : decode cX11_both 74 = .ok (.iconst 0, 1) := by decide +kernel
theorem dX11_both_75 : decode cX11_both 75 = .ok (.iadd, 1) := by decide +kernel
theorem dX11_both_76 : decode cX11_both 76 = .ok (.lconst 1, 1) := by decide +kernel
theorem dX11_both_77 : decode cX11_both 77 = .ok (.lastore, 1) := by decide +kernel
theorem dX11_both_78 : decode cX11_both 78 = .ok (.aload_n 0, 1) := by decide +kernel
theorem dX11_both_79 : decode cX11_both 79 = .ok (.getfield 7, 3) := by decide +kernel
theorem dX11_both_82 : decode cX11_both 82 = .ok (.bipush 22, 2) := by decide +kernel
theorem dX11_both_84 : decode cX11_both 84 = .ok (.bipush 8, 2) := by decide +kernel
theorem dX11_both_86 : decode cX11_both 86 = .ok (.iload_n 2, 1) := by decide +kernel
theorem dX11_both_87 : decode cX11_both 87 = .ok (.imul, 1) := by decide +kernel
theorem dX11_both_88 : decode cX11_both 88 = .ok (.iadd, 1) := by decide +kernel
theorem dX11_both_89 : decode cX11_both 89 = .ok (.iconst 1, 1) := by decide +kernel
theorem dX11_both_90 : decode cX11_both 90 = .ok (.iadd, 1) := by decide +kernel
theorem dX11_both_91 : decode cX11_both 91 = .ok (.aload_n 0, 1) := by decide +kernel
theorem dX11_both_92 : decode cX11_both 92 = .ok (.getfield 7, 3) := by decide +kernel
theorem dX11_both_95 : decode cX11_both 95 = .ok (.bipush 22, 2) := by decide +kernel
theorem dX11_both_97 : decode cX11_both 97 = .ok (.bipush 8, 2) := by decide +kernel
theorem dX11_both_99 : decode cX11_both 99 = .ok (.iload_n 1, 1) := by decide +kernel
theorem dX11_both_100 : decode cX11_both 100 = .ok (.imul, 1) := by decide +kernel
theorem dX11_both_101 : decode cX11_both 101 = .ok (.iadd, 1) := by decide +kernel
theorem dX11_both_102 : decode cX11_both 102 = .ok (.iconst 1, 1) := by decide +kernel
theorem dX11_both_103 : decode cX11_both 103 = .ok (.iadd, 1) := by decide +kernel
theorem dX11_both_104 : decode cX11_both 104 = .ok (.laload, 1) := by decide +kernel
theorem dX11_both_105 : decode cX11_both 105 = .ok (.lastore, 1) := by decide +kernel
theorem dX11_both_106 : decode cX11_both 106 = .ok (.aload_n 0, 1) := by decide +kernel
theorem dX11_both_107 : decode cX11_both 107 = .ok (.getfield 7, 3) := by decide +kernel
theorem dX11_both_110 : decode cX11_both 110 = .ok (.bipush 22, 2) := by decide +kernel
theorem dX11_both_112 : decode cX11_both 112 = .ok (.bipush 8, 2) := by decide +kernel
theorem dX11_both_114 : decode cX11_both 114 = .ok (.iload_n 2, 1) := by decide +kernel
theorem dX11_both_115 : decode cX11_both 115 = .ok (.imul, 1) := by decide +kernel
theorem dX11_both_116 : decode cX11_both 116 = .ok (.iadd, 1) := by decide +kernel
theorem dX11_both_117 : decode cX11_both 117 = .ok (.iconst 2, 1) := by decide +kernel
theorem dX11_both_118 : decode cX11_both 118 = .ok (.iadd, 1) := by decide +kernel
theorem dX11_both_119 : decode cX11_both 119 = .ok (.aload_n 0, 1) := by decide +kernel
theorem dX11_both_120 : decode cX11_both 120 = .ok (.getfield 7, 3) := by decide +kernel
theorem dX11_both_123 : decode cX11_both 123 = .ok (.iload_n 1, 1) := by decide +kernel
theorem dX11_both_124 : decode cX11_both 124 = .ok (.invokestatic 90, 3) := by decide +kernel
theorem dX11_both_127 : decode cX11_both 127 = .ok (.i2l, 1) := by decide +kernel
theorem dX11_both_128 : decode cX11_both 128 = .ok (.lastore, 1) := by decide +kernel
theorem dX11_both_129 : decode cX11_both 129 = .ok (.iconst 0, 1) := by decide +kernel
theorem dX11_both_130 : decode cX11_both 130 = .ok (.istore_n 3, 1) := by decide +kernel
theorem dX11_both_131 : decode cX11_both 131 = .ok (.iload_n 3, 1) := by decide +kernel
theorem dX11_both_132 : decode cX11_both 132 = .ok (.aload_n 0, 1) := by decide +kernel
theorem dX11_both_133 : decode cX11_both 133 = .ok (.getfield 7, 3) := by decide +kernel
theorem dX11_both_136 : decode cX11_both 136 = .ok (.iload_n 1, 1) := by decide +kernel
theorem dX11_both_137 : decode cX11_both 137 = .ok (.invokestatic 90, 3) := by decide +kernel
theorem dX11_both_140 : decode cX11_both 140 = .ok (.if_icmp .ge 74, 3) := by decide +kernel
theorem dX11_both_143 : decode cX11_both 143 = .ok (.aload_n 0, 1) := by decide +kernel
theorem dX11_both_144 : decode cX11_both 144 = .ok (.getfield 7, 3) := by decide +kernel
theorem dX11_both_147 : decode cX11_both 147 = .ok (.iload_n 1, 1) := by decide +kernel
theorem dX11_both_148 : decode cX11_both 148 = .ok (.iload_n 3, 1) := by decide +kernel
theorem dX11_both_149 : decode cX11_both 149 = .ok (.invokestatic 93, 3) := by decide +kernel
theorem dX11_both_152 : decode cX11_both 152 = .ok (.istore 4, 2) := by decide +kernel
theorem dX11_both_154 : decode cX11_both 154 = .ok (.aload_n 0, 1) := by decide +kernel
theorem dX11_both_155 : decode cX11_both 155 = .ok (.getfield 7, 3) := by decide +kernel
theorem dX11_both_158 : decode cX11_both 158 = .ok (.bipush 22, 2) := by decide +kernel
theorem dX11_both_160 : decode cX11_both 160 = .ok (.bipush 8, 2) := by decide +kernel
theorem dX11_both_162 : decode cX11_both 162 = .ok (.iload_n 2, 1) := by decide +kernel
theorem dX11_both_163 : decode cX11_both 163 = .ok (.imul, 1) := by decide +kernel
theorem dX11_both_164 : decode cX11_both 164 = .ok (.iadd, 1) := by decide +kernel
theorem dX11_both_165 : decode cX11_both 165 = .ok (.iconst 4, 1) := by decide +kernel
theorem dX11_both_166 : decode cX11_both 166 = .ok (.iadd, 1) := by decide +kernel
theorem dX11_both_167 : decode cX11_both 167 = .ok (.iload_n 3, 1) := by decide +kernel
theorem dX11_both_168 : decode cX11_both 168 = .ok (.iadd, 1) := by decide +kernel
theorem dX11_both_169 : decode cX11_both 169 = .ok (.iload 4, 2) := by decide +kernel
theorem dX11_both_171 : decode cX11_both 171 = .ok (.i2l, 1) := by decide +kernel
theorem dX11_both_172 : decode cX11_both 172 = .ok (.lastore, 1) := by decide +kernel
theorem dX11_both_173 : decode cX11_both 173 = .ok (.aload_n 0, 1) := by decide +kernel
theorem dX11_both_174 : decode cX11_both 174 = .ok (.getfield 7, 3) := by decide +kernel
theorem dX11_both_177 : decode cX11_both 177 = .ok (.bipush 70, 2) := by decide +kernel
theorem dX11_both_179 : decode cX11_both 179 = .ok (.iconst 4, 1) := by decide +kernel
theorem dX11_both_180 : decode cX11_both 180 = .ok (.iload 4, 2) := by decide +kernel
theorem dX11_both_182 : decode cX11_both 182 = .ok (.imul, 1) := by decide +kernel
theorem dX11_both_183 : decode cX11_both 183 = .ok (.iadd, 1) := by decide +kernel
theorem dX11_both_184 : decode cX11_both 184 = .ok (.iconst 1, 1) := by decide +kernel
theorem dX11_both_185 : decode cX11_both 185 = .ok (.iadd, 1) := by decide +kernel
theorem dX11_both_186 : decode cX11_both 186 = .ok (.dup2, 1) := by decide +kernel
theorem dX11_both_187 : decode cX11_both 187 = .ok (.laload, 1) := by decide +kernel
theorem dX11_both_188 : decode cX11_both 188 = .ok (.lconst 1, 1) := by decide +kernel
theorem dX11_both_189 : decode cX11_both 189 = .ok (.ladd, 1) := by decide +kernel
theorem dX11_both_190 : decode cX11_both 190 = .ok (.lastore, 1) := by decide +kernel
theorem dX11_both_191 : decode cX11_both 191 = .ok (.aload_n 0, 1) := by decide +kernel
theorem dX11_both_192 : decode cX11_both 192 = .ok (.getfield 7, 3) := by decide +kernel
theorem dX11_both_195 : decode cX11_both 195 = .ok (.bipush 70, 2) := by decide +kernel
theorem dX11_both_197 : decode cX11_both 197 = .ok (.iconst 4, 1) := by decide +kernel
theorem dX11_both_198 : decode cX11_both 198 = .ok (.iload 4, 2) := by decide +kernel
theorem dX11_both_200 : decode cX11_both 200 = .ok (.imul, 1) := by decide +kernel
theorem dX11_both_201 : decode cX11_both 201 = .ok (.iadd, 1) := by decide +kernel
theorem dX11_both_202 : decode cX11_both 202 = .ok (.iconst 2, 1) := by decide +kernel
theorem dX11_both_203 : decode cX11_both 203 = .ok (.iadd, 1) := by decide +kernel
theorem dX11_both_204 : decode cX11_both 204 = .ok (.ldc2_w 51, 3) := by decide +kernel
theorem dX11_both_207 : decode cX11_both 207 = .ok (.lastore, 1) := by decide +kernel
theorem dX11_both_208 : decode cX11_both 208 = .ok (.iinc 3 1, 3) := by decide +kernel
theorem dX11_both_211 : decode cX11_both 211 = .ok (.goto (-80), 3) := by decide +kernel
theorem dX11_both_214 : decode cX11_both 214 = .ok (.aload_n 0, 1) := by decide +kernel
theorem dX11_both_215 : decode cX11_both 215 = .ok (.getfield 7, 3) := by decide +kernel
theorem dX11_both_218 : decode cX11_both 218 = .ok (.iload_n 1, 1) := by decide +kernel
theorem dX11_both_219 : decode cX11_both 219 = .ok (.invokestatic 90, 3) := by decide +kernel
theorem dX11_both_222 : decode cX11_both 222 = .ok (.ireturn, 1) := by decide +kernel
set_option maxRecDepth 20000 in
theorem ggX11_remove_X11_isHouse : GoodIn wsX11_remove wsX11_isHouse := goodIn_r _ [9, 3, 43, 44, 45, 46, 47, 48, 49, 50, 51, 52, 53, 54, 55, 56, 57, 58, 59] (by decide +kernel) (by decide +kernel)
set_option maxRecDepth 20000 in
theorem gX11_remove_X11_isHouse : GoodIn wsX11_remove (wsV RX11 262 RX11 yX11_isHouse wsX11_isHouse) := goodIn_app (goodIn_of _ (by decide +kernel)) ggX11_remove_X11_isHouse
set_option maxRecDepth 20000 in
theorem ggX11_remove_X11_isFile : GoodIn wsX11_remove wsX11_isFile := goodIn_r _ [12, 13, 14, 15, 8, 16] (by decide +kernel) (by decide +kernel)
set_option maxRecDepth 20000 in
theorem gX11_remove_X11_isFile : GoodIn wsX11_remove (va_wsS RX11 266 yX11_isFile wsX11_isFile) := goodIn_app (goodIn_of _ (by decide +kernel)) ggX11_remove_X11_isFile
set_option maxRecDepth 20000 in
theorem ggX11_remove_X11_isThere : GoodIn wsX11_remove wsX11_isThere := goodIn_r _ [20, 3, 43, 44, 45, 46, 47, 48, 49, 50, 51, 52, 53, 54, 55, 56, 57, 58, 59] (by decide +kernel) (by decide +kernel)
set_option maxRecDepth 20000 in
theorem gX11_remove_X11_isThere : GoodIn wsX11_remove (wsV RX11 278 RX11 yX11_isThere wsX11_isThere) := goodIn_app (goodIn_of _ (by decide +kernel)) ggX11_remove_X11_isThere
set_option maxRecDepth 20000 in
theorem ggX11_remove_X11_notes : GoodIn wsX11_remove wsX11_notes := goodIn_r _ [24, 25, 26, 3, 27, 28, 8, 29, 43, 44, 45, 46, 47, 48, 49, 50, 51, 52, 53, 54, 55, 56, 57, 58, 59] (by decide +kernel) (by decide +kernel)
set_option maxRecDepth 20000 in
theorem gX11_remove_X11_notes : GoodIn wsX11_remove (wsV RX11 269 RX11 yX11_notes wsX11_notes) := goodIn_app (goodIn_of _ (by decide +kernel)) ggX11_remove_X11_notes
set_option maxRecDepth 20000 in
theorem ggX11_remove_X11_grace : GoodIn wsX11_remove wsX11_grace := goodIn_r _ [32, 33] (by decide +kernel) (by decide +kernel)
set_option maxRecDepth 20000 in
theorem gX11_remove_X11_grace : GoodIn wsX11_remove (va_wsS RX11 293 yX11_grace wsX11_grace) := goodIn_app (goodIn_of _ (by decide +kernel)) ggX11_remove_X11_grace
set_option maxRecDepth 20000 in
theorem ggX11_remove_X11_goes : GoodIn wsX11_remove wsX11_goes := goodIn_r _ [36, 37, 38, 8, 39, 40, 41, 42] (by decide +kernel) (by decide +kernel)
set_option maxRecDepth 20000 in
theorem gX11_remove_X11_goes : GoodIn wsX11_remove (va_wsS RX11 297 yX11_goes wsX11_goes) := goodIn_app (goodIn_of _ (by decide +kernel)) ggX11_remove_X11_goes
theorem dX11_remove_0 : decode cX11_remove 0 = .ok (.aload_n 0, 1) := by decide +kernel
theorem dX11_remove_1 : decode cX11_remove 1 = .ok (.invokevirtual 262, 3) := by decide +kernel
theorem dX11_remove_4 : decode cX11_remove 4 = .ok (.ifCond .ne 7, 3) := by decide +kernel
theorem dX11_remove_7 : decode cX11_remove 7 = .ok (.ldc_w 261, 3) := by decide +kernel
theorem dX11_remove_10 : decode cX11_remove 10 = .ok (.ireturn, 1) := by decide +kernel
theorem dX11_remove_11 : decode cX11_remove 11 = .ok (.iload_n 1, 1) := by decide +kernel
theorem dX11_remove_12 : decode cX11_remove 12 = .ok (.invokestatic 266, 3) := by decide +kernel
theorem dX11_remove_15 : decode cX11_remove 15 = .ok (.ifCond .ne 6, 3) := by decide +kernel
theorem dX11_remove_18 : decode cX11_remove 18 = .ok (.ldc 235, 2) := by decide +kernel
theorem dX11_remove_20 : decode cX11_remove 20 = .ok (.ireturn, 1) := by decide +kernel
theorem dX11_remove_21 : decode cX11_remove 21 = .ok (.aload_n 0, 1) := by decide +kernel
theorem dX11_remove_22 : decode cX11_remove 22 = .ok (.iload_n 1, 1) := by decide +kernel
theorem dX11_remove_23 : decode cX11_remove 23 = .ok (.invokevirtual 278, 3) := by decide +kernel
theorem dX11_remove_26 : decode cX11_remove 26 = .ok (.ifCond .ne 7, 3) := by decide +kernel
theorem dX11_remove_29 : decode cX11_remove 29 = .ok (.ldc_w 261, 3) := by decide +kernel
theorem dX11_remove_32 : decode cX11_remove 32 = .ok (.ireturn, 1) := by decide +kernel
theorem dX11_remove_33 : decode cX11_remove 33 = .ok (.aload_n 0, 1) := by decide +kernel
theorem dX11_remove_34 : decode cX11_remove 34 = .ok (.invokevirtual 269, 3) := by decide +kernel
theorem dX11_remove_37 : decode cX11_remove 37 = .ok (.aload_n 0, 1) := by decide +kernel
theorem dX11_remove_38 : decode cX11_remove 38 = .ok (.getfield 7, 3) := by decide +kernel
theorem dX11_remove_41 : decode cX11_remove 41 = .ok (.bipush 22, 2) := by decide +kernel
theorem dX11_remove_43 : decode cX11_remove 43 = .ok (.bipush 8, 2) := by decide +kernel
theorem dX11_remove_45 : decode cX11_remove 45 = .ok (.iload_n 1, 1) := by decide +kernel
theorem dX11_remove_46 : decode cX11_remove 46 = .ok (.imul, 1) := by decide +kernel
theorem dX11_remove_47 : decode cX11_remove 47 = .ok (.iadd, 1) := by decide +kernel
theorem dX11_remove_48 : decode cX11_remove 48 = .ok (.iconst 0, 1) := by decide +kernel
theorem dX11_remove_49 : decode cX11_remove 49 = .ok (.iadd, 1) := by decide +kernel
theorem dX11_remove_50 : decode cX11_remove 50 = .ok (.ldc2_w 284, 3) := by decide +kernel
theorem dX11_remove_53 : decode cX11_remove 53 = .ok (.lastore, 1) := by decide +kernel
theorem dX11_remove_54 : decode cX11_remove 54 = .ok (.aload_n 0, 1) := by decide +kernel
theorem dX11_remove_55 : decode cX11_remove 55 = .ok (.getfield 7, 3) := by decide +kernel
theorem dX11_remove_58 : decode cX11_remove 58 = .ok (.bipush 22, 2) := by decide +kernel
theorem dX11_remove_60 : decode cX11_remove 60 = .ok (.bipush 8, 2) := by decide +kernel
theorem dX11_remove_62 : decode cX11_remove 62 = .ok (.iload_n 1, 1) := by decide +kernel
theorem dX11_remove_63 : decode cX11_remove 63 = .ok (.imul, 1) := by decide +kernel
theorem dX11_remove_64 : decode cX11_remove 64 = .ok (.iadd, 1) := by decide +kernel
theorem dX11_remove_65 : decode cX11_remove 65 = .ok (.iconst 3, 1) := by decide +kernel
theorem dX11_remove_66 : decode cX11_remove 66 = .ok (.iadd, 1) := by decide +kernel
theorem dX11_remove_67 : decode cX11_remove 67 = .ok (.aload_n 0, 1) := by decide +kernel
theorem dX11_remove_68 : decode cX11_remove 68 = .ok (.getfield 7, 3) := by decide +kernel
theorem dX11_remove_71 : decode cX11_remove 71 = .ok (.iconst 5, 1) := by decide +kernel
theorem dX11_remove_72 : decode cX11_remove 72 = .ok (.laload, 1) := by decide +kernel
theorem dX11_remove_73 : decode cX11_remove 73 = .ok (.lastore, 1) := by decide +kernel
theorem dX11_remove_74 : decode cX11_remove 74 = .ok (.aload_n 0, 1) := by decide +kernel
theorem dX11_remove_75 : decode cX11_remove 75 = .ok (.getfield 7, 3) := by decide +kernel
theorem dX11_remove_78 : decode cX11_remove 78 = .ok (.iconst 5, 1) := by decide +kernel
theorem dX11_remove_79 : decode cX11_remove 79 = .ok (.laload, 1) := by decide +kernel
theorem dX11_remove_80 : decode cX11_remove 80 = .ok (.aload_n 0, 1) := by decide +kernel
theorem dX11_remove_81 : decode cX11_remove 81 = .ok (.getfield 7, 3) := by decide +kernel
theorem dX11_remove_84 : decode cX11_remove 84 = .ok (.iload_n 1, 1) := by decide +kernel
theorem dX11_remove_85 : decode cX11_remove 85 = .ok (.invokestatic 293, 3) := by decide +kernel
theorem dX11_remove_88 : decode cX11_remove 88 = .ok (.ladd, 1) := by decide +kernel
theorem dX11_remove_89 : decode cX11_remove 89 = .ok (.lstore_n 2, 1) := by decide +kernel
theorem dX11_remove_90 : decode cX11_remove 90 = .ok (.lload_n 2, 1) := by decide +kernel
theorem dX11_remove_91 : decode cX11_remove 91 = .ok (.aload_n 0, 1) := by decide +kernel
theorem dX11_remove_92 : decode cX11_remove 92 = .ok (.getfield 7, 3) := by decide +kernel
theorem dX11_remove_95 : decode cX11_remove 95 = .ok (.iconst 5, 1) := by decide +kernel
theorem dX11_remove_96 : decode cX11_remove 96 = .ok (.laload, 1) := by decide +kernel
theorem dX11_remove_97 : decode cX11_remove 97 = .ok (.lcmp, 1) := by decide +kernel
theorem dX11_remove_98 : decode cX11_remove 98 = .ok (.ifCond .ne 11, 3) := by decide +kernel
theorem dX11_remove_101 : decode cX11_remove 101 = .ok (.aload_n 0, 1) := by decide +kernel
theorem dX11_remove_102 : decode cX11_remove 102 = .ok (.getfield 7, 3) := by decide +kernel
theorem dX11_remove_105 : decode cX11_remove 105 = .ok (.iload_n 1, 1) := by decide +kernel
theorem dX11_remove_106 : decode cX11_remove 106 = .ok (.invokestatic 297, 3) := by decide +kernel
theorem dX11_remove_109 : decode cX11_remove 109 = .ok (.lload_n 2, 1) := by decide +kernel
theorem dX11_remove_110 : decode cX11_remove 110 = .ok (.l2i, 1) := by decide +kernel
theorem dX11_remove_111 : decode cX11_remove 111 = .ok (.ireturn, 1) := by decide +kernel
set_option maxRecDepth 20000 in
theorem ggX11_bring_X11_isHouse : GoodIn wsX11_bring wsX11_isHouse := goodIn_r _ [9, 3, 26, 27, 28, 29, 30, 31, 32, 33, 34, 35, 36, 37, 38, 39, 40, 41, 42] (by decide +kernel) (by decide +kernel)
set_option maxRecDepth 20000 in
theorem gX11_bring_X11_isHouse : GoodIn wsX11_bring (wsV RX11 262 RX11 yX11_isHouse wsX11_isHouse) := goodIn_app (goodIn_of _ (by decide +kernel)) ggX11_bring_X11_isHouse
set_option maxRecDepth 20000 in
theorem ggX11_bring_X11_isFile : GoodIn wsX11_bring wsX11_isFile := goodIn_r _ [12, 13, 14, 15, 8, 16] (by decide +kernel) (by decide +kernel)
set_option maxRecDepth 20000 in
theorem gX11_bring_X11_isFile : GoodIn wsX11_bring (va_wsS RX11 266 yX11_isFile wsX11_isFile) := goodIn_app (goodIn_of _ (by decide +kernel)) ggX11_bring_X11_isFile
set_option maxRecDepth 20000 in
theorem ggX11_bring_X11_notes : GoodIn wsX11_bring wsX11_notes := goodIn_r _ [20, 21, 22, 3, 23, 24, 8, 25, 26, 27, 28, 29, 30, 31, 32, 33, 34, 35, 36, 37, 38, 39, 40, 41, 42] (by decide +kernel) (by decide +kernel)
set_option maxRecDepth 20000 in
theorem gX11_bring_X11_notes : GoodIn wsX11_bring (wsV RX11 269 RX11 yX11_notes wsX11_notes) := goodIn_app (goodIn_of _ (by decide +kernel)) ggX11_bring_X11_notes
theorem dX11_bring_0 : decode cX11_bring 0 = .ok (.aload_n 0, 1) := by decide +kernel
theorem dX11_bring_1 : decode cX11_bring 1 = .ok (.invokevirtual 262, 3) := by decide +kernel
theorem dX11_bring_4 : decode cX11_bring 4 = .ok (.ifCond .ne 7, 3) := by decide +kernel
theorem dX11_bring_7 : decode cX11_bring 7 = .ok (.ldc_w 261, 3) := by decide +kernel
theorem dX11_bring_10 : decode cX11_bring 10 = .ok (.ireturn, 1) := by decide +kernel
theorem dX11_bring_11 : decode cX11_bring 11 = .ok (.iload_n 1, 1) := by decide +kernel
theorem dX11_bring_12 : decode cX11_bring 12 = .ok (.invokestatic 266, 3) := by decide +kernel
theorem dX11_bring_15 : decode cX11_bring 15 = .ok (.ifCond .ne 6, 3) := by decide +kernel
theorem dX11_bring_18 : decode cX11_bring 18 = .ok (.ldc 235, 2) := by decide +kernel
theorem dX11_bring_20 : decode cX11_bring 20 = .ok (.ireturn, 1) := by decide +kernel
theorem dX11_bring_21 : decode cX11_bring 21 = .ok (.aload_n 0, 1) := by decide +kernel
theorem dX11_bring_22 : decode cX11_bring 22 = .ok (.getfield 7, 3) := by decide +kernel
theorem dX11_bring_25 : decode cX11_bring 25 = .ok (.bipush 22, 2) := by decide +kernel
theorem dX11_bring_27 : decode cX11_bring 27 = .ok (.bipush 8, 2) := by decide +kernel
theorem dX11_bring_29 : decode cX11_bring 29 = .ok (.iload_n 1, 1) := by decide +kernel
theorem dX11_bring_30 : decode cX11_bring 30 = .ok (.imul, 1) := by decide +kernel
theorem dX11_bring_31 : decode cX11_bring 31 = .ok (.iadd, 1) := by decide +kernel
theorem dX11_bring_32 : decode cX11_bring 32 = .ok (.iconst 0, 1) := by decide +kernel
theorem dX11_bring_33 : decode cX11_bring 33 = .ok (.iadd, 1) := by decide +kernel
theorem dX11_bring_34 : decode cX11_bring 34 = .ok (.laload, 1) := by decide +kernel
theorem dX11_bring_35 : decode cX11_bring 35 = .ok (.ldc2_w 284, 3) := by decide +kernel
theorem dX11_bring_38 : decode cX11_bring 38 = .ok (.lcmp, 1) := by decide +kernel
theorem dX11_bring_39 : decode cX11_bring 39 = .ok (.ifCond .eq 7, 3) := by decide +kernel
theorem dX11_bring_42 : decode cX11_bring 42 = .ok (.ldc_w 261, 3) := by decide +kernel
theorem dX11_bring_45 : decode cX11_bring 45 = .ok (.ireturn, 1) := by decide +kernel
theorem dX11_bring_46 : decode cX11_bring 46 = .ok (.aload_n 0, 1) := by decide +kernel
theorem dX11_bring_47 : decode cX11_bring 47 = .ok (.invokevirtual 269, 3) := by decide +kernel
theorem dX11_bring_50 : decode cX11_bring 50 = .ok (.aload_n 0, 1) := by decide +kernel
theorem dX11_bring_51 : decode cX11_bring 51 = .ok (.getfield 7, 3) := by decide +kernel
theorem dX11_bring_54 : decode cX11_bring 54 = .ok (.bipush 22, 2) := by decide +kernel
theorem dX11_bring_56 : decode cX11_bring 56 = .ok (.bipush 8, 2) := by decide +kernel
theorem dX11_bring_58 : decode cX11_bring 58 = .ok (.iload_n 1, 1) := by decide +kernel
theorem dX11_bring_59 : decode cX11_bring 59 = .ok (.imul, 1) := by decide +kernel
theorem dX11_bring_60 : decode cX11_bring 60 = .ok (.iadd, 1) := by decide +kernel
theorem dX11_bring_61 : decode cX11_bring 61 = .ok (.iconst 0, 1) := by decide +kernel
theorem dX11_bring_62 : decode cX11_bring 62 = .ok (.iadd, 1) := by decide +kernel
theorem dX11_bring_63 : decode cX11_bring 63 = .ok (.lconst 1, 1) := by decide +kernel
theorem dX11_bring_64 : decode cX11_bring 64 = .ok (.lastore, 1) := by decide +kernel
theorem dX11_bring_65 : decode cX11_bring 65 = .ok (.aload_n 0, 1) := by decide +kernel
theorem dX11_bring_66 : decode cX11_bring 66 = .ok (.getfield 7, 3) := by decide +kernel
theorem dX11_bring_69 : decode cX11_bring 69 = .ok (.bipush 22, 2) := by decide +kernel
theorem dX11_bring_71 : decode cX11_bring 71 = .ok (.bipush 8, 2) := by decide +kernel
theorem dX11_bring_73 : decode cX11_bring 73 = .ok (.iload_n 1, 1) := by decide +kernel
theorem dX11_bring_74 : decode cX11_bring 74 = .ok (.imul, 1) := by decide +kernel
theorem dX11_bring_75 : decode cX11_bring 75 = .ok (.iadd, 1) := by decide +kernel
theorem dX11_bring_76 : decode cX11_bring 76 = .ok (.iconst 3, 1) := by decide +kernel
theorem dX11_bring_77 : decode cX11_bring 77 = .ok (.iadd, 1) := by decide +kernel
theorem dX11_bring_78 : decode cX11_bring 78 = .ok (.laload, 1) := by decide +kernel
theorem dX11_bring_79 : decode cX11_bring 79 = .ok (.l2i, 1) := by decide +kernel
theorem dX11_bring_80 : decode cX11_bring 80 = .ok (.ireturn, 1) := by decide +kernel
set_option maxRecDepth 20000 in
theorem ggX11_tick_X11_isHouse : GoodIn wsX11_tick wsX11_isHouse := goodIn_r _ [10, 4, 36, 37, 38, 39, 40, 41, 42, 43, 44, 45, 46, 47, 48, 49, 50, 51, 52] (by decide +kernel) (by decide +kernel)
set_option maxRecDepth 20000 in
theorem gX11_tick_X11_isHouse : GoodIn wsX11_tick (wsV RX11 262 RX11 yX11_isHouse wsX11_isHouse) := goodIn_app (goodIn_of _ (by decide +kernel)) ggX11_tick_X11_isHouse
set_option maxRecDepth 20000 in
theorem ggX11_tick_X11_in : GoodIn wsX11_tick wsX11_in := goodIn_r _ [13] (by decide +kernel) (by decide +kernel)
set_option maxRecDepth 20000 in
theorem gX11_tick_X11_in : GoodIn wsX11_tick (va_wsS RX11 206 yX11_in wsX11_in) := goodIn_app (goodIn_of _ (by decide +kernel)) ggX11_tick_X11_in
set_option maxRecDepth 20000 in
theorem ggX11_tick_X11_notes : GoodIn wsX11_tick wsX11_notes := goodIn_r _ [17, 18, 19, 4, 20, 21, 9, 22, 36, 37, 38, 39, 40, 41, 42, 43, 44, 45, 46, 47, 48, 49, 50, 51, 52] (by decide +kernel) (by decide +kernel)
set_option maxRecDepth 20000 in
theorem gX11_tick_X11_notes : GoodIn wsX11_tick (wsV RX11 269 RX11 yX11_notes wsX11_notes) := goodIn_app (goodIn_of _ (by decide +kernel)) ggX11_tick_X11_notes
set_option maxRecDepth 20000 in
theorem ggX11_tick_X11_grace : GoodIn wsX11_tick wsX11_grace := goodIn_r _ [25, 26] (by decide +kernel) (by decide +kernel)
set_option maxRecDepth 20000 in
theorem gX11_tick_X11_grace : GoodIn wsX11_tick (va_wsS RX11 293 yX11_grace wsX11_grace) := goodIn_app (goodIn_of _ (by decide +kernel)) ggX11_tick_X11_grace
set_option maxRecDepth 20000 in
theorem ggX11_tick_X11_goes : GoodIn wsX11_tick wsX11_goes := goodIn_r _ [29, 30, 31, 9, 32, 33, 34, 35] (by decide +kernel) (by decide +kernel)
set_option maxRecDepth 20000 in
theorem gX11_tick_X11_goes : GoodIn wsX11_tick (va_wsS RX11 297 yX11_goes wsX11_goes) := goodIn_app (goodIn_of _ (by decide +kernel)) ggX11_tick_X11_goes
theorem dX11_tick_0 : decode cX11_tick 0 = .ok (.aload_n 0, 1) := by decide +kernel
theorem dX11_tick_1 : decode cX11_tick 1 = .ok (.invokevirtual 262, 3) := by decide +kernel
theorem dX11_tick_4 : decode cX11_tick 4 = .ok (.ifCond .ne 7, 3) := by decide +kernel
theorem dX11_tick_7 : decode cX11_tick 7 = .ok (.ldc_w 261, 3) := by decide +kernel
theorem dX11_tick_10 : decode cX11_tick 10 = .ok (.ireturn, 1) := by decide +kernel
theorem dX11_tick_11 : decode cX11_tick 11 = .ok (.iload_n 1, 1) := by decide +kernel
theorem dX11_tick_12 : decode cX11_tick 12 = .ok (.i2l, 1) := by decide +kernel
theorem dX11_tick_13 : decode cX11_tick 13 = .ok (.lconst 1, 1) := by decide +kernel
theorem dX11_tick_14 : decode cX11_tick 14 = .ok (.ldc2_w 301, 3) := by decide +kernel
theorem dX11_tick_17 : decode cX11_tick 17 = .ok (.invokestatic 206, 3) := by decide +kernel
theorem dX11_tick_20 : decode cX11_tick 20 = .ok (.ifCond .ne 6, 3) := by decide +kernel
theorem dX11_tick_23 : decode cX11_tick 23 = .ok (.ldc 235, 2) := by decide +kernel
theorem dX11_tick_25 : decode cX11_tick 25 = .ok (.ireturn, 1) := by decide +kernel
theorem dX11_tick_26 : decode cX11_tick 26 = .ok (.aload_n 0, 1) := by decide +kernel
theorem dX11_tick_27 : decode cX11_tick 27 = .ok (.invokevirtual 269, 3) := by decide +kernel
theorem dX11_tick_30 : decode cX11_tick 30 = .ok (.aload_n 0, 1) := by decide +kernel
theorem dX11_tick_31 : decode cX11_tick 31 = .ok (.getfield 7, 3) := by decide +kernel
theorem dX11_tick_34 : decode cX11_tick 34 = .ok (.iconst 5, 1) := by decide +kernel
theorem dX11_tick_35 : decode cX11_tick 35 = .ok (.dup2, 1) := by decide +kernel
theorem dX11_tick_36 : decode cX11_tick 36 = .ok (.laload, 1) := by decide +kernel
theorem dX11_tick_37 : decode cX11_tick 37 = .ok (.iload_n 1, 1) := by decide +kernel
theorem dX11_tick_38 : decode cX11_tick 38 = .ok (.i2l, 1) := by decide +kernel
theorem dX11_tick_39 : decode cX11_tick 39 = .ok (.ladd, 1) := by decide +kernel
theorem dX11_tick_40 : decode cX11_tick 40 = .ok (.lastore, 1) := by decide +kernel
theorem dX11_tick_41 : decode cX11_tick 41 = .ok (.iconst 0, 1) := by decide +kernel
theorem dX11_tick_42 : decode cX11_tick 42 = .ok (.istore_n 2, 1) := by decide +kernel
theorem dX11_tick_43 : decode cX11_tick 43 = .ok (.iconst 0, 1) := by decide +kernel
theorem dX11_tick_44 : decode cX11_tick 44 = .ok (.istore_n 3, 1) := by decide +kernel
theorem dX11_tick_45 : decode cX11_tick 45 = .ok (.iload_n 3, 1) := by decide +kernel
theorem dX11_tick_46 : decode cX11_tick 46 = .ok (.bipush 6, 2) := by decide +kernel
theorem dX11_tick_48 : decode cX11_tick 48 = .ok (.if_icmp .ge 74, 3) := by decide +kernel
theorem dX11_tick_51 : decode cX11_tick 51 = .ok (.aload_n 0, 1) := by decide +kernel
theorem dX11_tick_52 : decode cX11_tick 52 = .ok (.getfield 7, 3) := by decide +kernel
theorem dX11_tick_55 : decode cX11_tick 55 = .ok (.bipush 22, 2) := by decide +kernel
theorem dX11_tick_57 : decode cX11_tick 57 = .ok (.bipush 8, 2) := by decide +kernel
theorem dX11_tick_59 : decode cX11_tick 59 = .ok (.iload_n 3, 1) := by decide +kernel
theorem dX11_tick_60 : decode cX11_tick 60 = .ok (.imul, 1) := by decide +kernel
theorem dX11_tick_61 : decode cX11_tick 61 = .ok (.iadd, 1) := by decide +kernel
theorem dX11_tick_62 : decode cX11_tick 62 = .ok (.iconst 0, 1) := by decide +kernel
theorem dX11_tick_63 : decode cX11_tick 63 = .ok (.iadd, 1) := by decide +kernel
theorem dX11_tick_64 : decode cX11_tick 64 = .ok (.laload, 1) := by decide +kernel
theorem dX11_tick_65 : decode cX11_tick 65 = .ok (.ldc2_w 284, 3) := by decide +kernel
theorem dX11_tick_68 : decode cX11_tick 68 = .ok (.lcmp, 1) := by decide +kernel
theorem dX11_tick_69 : decode cX11_tick 69 = .ok (.ifCond .ne 47, 3) := by decide +kernel
theorem dX11_tick_72 : decode cX11_tick 72 = .ok (.aload_n 0, 1) := by decide +kernel
theorem dX11_tick_73 : decode cX11_tick 73 = .ok (.getfield 7, 3) := by decide +kernel
theorem dX11_tick_76 : decode cX11_tick 76 = .ok (.iconst 5, 1) := by decide +kernel
theorem dX11_tick_77 : decode cX11_tick 77 = .ok (.laload, 1) := by decide +kernel
theorem dX11_tick_78 : decode cX11_tick 78 = .ok (.aload_n 0, 1) := by decide +kernel
theorem dX11_tick_79 : decode cX11_tick 79 = .ok (.getfield 7, 3) := by decide +kernel
theorem dX11_tick_82 : decode cX11_tick 82 = .ok (.bipush 22, 2) := by decide +kernel
theorem dX11_tick_84 : decode cX11_tick 84 = .ok (.bipush 8, 2) := by decide +kernel
theorem dX11_tick_86 : decode cX11_tick 86 = .ok (.iload_n 3, 1) := by decide +kernel
theorem dX11_tick_87 : decode cX11_tick 87 = .ok (.imul, 1) := by decide +kernel
theorem dX11_tick_88 : decode cX11_tick 88 = .ok (.iadd, 1) := by decide +kernel
theorem dX11_tick_89 : decode cX11_tick 89 = .ok (.iconst 3, 1) := by decide +kernel
theorem dX11_tick_90 : decode cX11_tick 90 = .ok (.iadd, 1) := by decide +kernel
theorem dX11_tick_91 : decode cX11_tick 91 = .ok (.laload, 1) := by decide +kernel
theorem dX11_tick_92 : decode cX11_tick 92 = .ok (.lsub, 1) := by decide +kernel
theorem dX11_tick_93 : decode cX11_tick 93 = .ok (.aload_n 0, 1) := by decide +kernel
theorem dX11_tick_94 : decode cX11_tick 94 = .ok (.getfield 7, 3) := by decide +kernel
theorem dX11_tick_97 : decode cX11_tick 97 = .ok (.iload_n 3, 1) := by decide +kernel
theorem dX11_tick_98 : decode cX11_tick 98 = .ok (.invokestatic 293, 3) := by decide +kernel
theorem dX11_tick_101 : decode cX11_tick 101 = .ok (.lcmp, 1) := by decide +kernel
theorem dX11_tick_102 : decode cX11_tick 102 = .ok (.ifCond .lt 14, 3) := by decide +kernel
theorem dX11_tick_105 : decode cX11_tick 105 = .ok (.aload_n 0, 1) := by decide +kernel
theorem dX11_tick_106 : decode cX11_tick 106 = .ok (.getfield 7, 3) := by decide +kernel
theorem dX11_tick_109 : decode cX11_tick 109 = .ok (.iload_n 3, 1) := by decide +kernel
theorem dX11_tick_110 : decode cX11_tick 110 = .ok (.invokestatic 297, 3) := by decide +kernel
theorem dX11_tick_113 : decode cX11_tick 113 = .ok (.iinc 2 1, 3) := by decide +kernel
theorem dX11_tick_116 : decode cX11_tick 116 = .ok (.iinc 3 1, 3) := by decide +kernel
theorem dX11_tick_119 : decode cX11_tick 119 = .ok (.goto (-74), 3) := by decide +kernel
theorem dX11_tick_122 : decode cX11_tick 122 = .ok (.iload_n 2, 1) := by decide +kernel
theorem dX11_tick_123 : decode cX11_tick 123 = .ok (.ireturn, 1) := by decide +kernel
set_option maxRecDepth 20000 in
theorem ggX11_turns_X11_isServer : GoodIn wsX11_turns wsX11_isServer := goodIn_r _ [8, 2, 9, 10, 7, 11, 33, 34, 35, 36, 37, 38, 39, 40, 41, 42, 43, 44, 45, 46, 47, 48, 49] (by decide +kernel) (by decide +kernel)
set_option maxRecDepth 20000 in
theorem gX11_turns_X11_isServer : GoodIn wsX11_turns (wsV RX11 303 RX11 yX11_isServer wsX11_isServer) := goodIn_app (goodIn_of _ (by decide +kernel)) ggX11_turns_X11_isServer
set_option maxRecDepth 20000 in
theorem ggX11_turns_X11_notes : GoodIn wsX11_turns wsX11_notes := goodIn_r _ [15, 16, 17, 2, 18, 19, 7, 20, 33, 34, 35, 36, 37, 38, 39, 40, 41, 42, 43, 44, 45, 46, 47, 48, 49] (by decide +kernel) (by decide +kernel)
set_option maxRecDepth 20000 in
theorem gX11_turns_X11_notes : GoodIn wsX11_turns (wsV RX11 269 RX11 yX11_notes wsX11_notes) := goodIn_app (goodIn_of _ (by decide +kernel)) ggX11_turns_X11_notes
set_option maxRecDepth 20000 in
theorem ggX11_turns_X11_ups : GoodIn wsX11_turns wsX11_ups := goodIn_r _ [23, 24, 25, 7, 26] (by decide +kernel) (by decide +kernel)
set_option maxRecDepth 20000 in
theorem gX11_turns_X11_ups : GoodIn wsX11_turns (va_wsS RX11 97 yX11_ups wsX11_ups) := goodIn_app (goodIn_of _ (by decide +kernel)) ggX11_turns_X11_ups
set_option maxRecDepth 20000 in
theorem ggX11_turns_X11_ones : GoodIn wsX11_turns wsX11_ones := goodIn_r _ [29, 30, 31, 7, 32] (by decide +kernel) (by decide +kernel)
set_option maxRecDepth 20000 in
theorem gX11_turns_X11_ones : GoodIn wsX11_turns (va_wsS RX11 180 yX11_ones wsX11_ones) := goodIn_app (goodIn_of _ (by decide +kernel)) ggX11_turns_X11_ones
theorem dX11_turns_0 : decode cX11_turns 0 = .ok (.aload_n 0, 1) := by decide +kernel
theorem dX11_turns_1 : decode cX11_turns 1 = .ok (.iload_n 1, 1) := by decide +kernel
theorem dX11_turns_2 : decode cX11_turns 2 = .ok (.invokevirtual 303, 3) := by decide +kernel
theorem dX11_turns_5 : decode cX11_turns 5 = .ok (.ifCond .ne 6, 3) := by decide +kernel
theorem dX11_turns_8 : decode cX11_turns 8 = .ok (.ldc 235, 2) := by decide +kernel
theorem dX11_turns_10 : decode cX11_turns 10 = .ok (.ireturn, 1) := by decide +kernel
theorem dX11_turns_11 : decode cX11_turns 11 = .ok (.aload_n 0, 1) := by decide +kernel
theorem dX11_turns_12 : decode cX11_turns 12 = .ok (.getfield 7, 3) := by decide +kernel
theorem dX11_turns_15 : decode cX11_turns 15 = .ok (.bipush 7, 2) := by decide +kernel
theorem dX11_turns_17 : decode cX11_turns 17 = .ok (.iconst 3, 1) := by decide +kernel
theorem dX11_turns_18 : decode cX11_turns 18 = .ok (.iload_n 1, 1) := by decide +kernel
theorem dX11_turns_19 : decode cX11_turns 19 = .ok (.imul, 1) := by decide +kernel
theorem dX11_turns_20 : decode cX11_turns 20 = .ok (.iadd, 1) := by decide +kernel
theorem dX11_turns_21 : decode cX11_turns 21 = .ok (.iconst 0, 1) := by decide +kernel
theorem dX11_turns_22 : decode cX11_turns 22 = .ok (.iadd, 1) := by decide +kernel
theorem dX11_turns_23 : decode cX11_turns 23 = .ok (.laload, 1) := by decide +kernel
theorem dX11_turns_24 : decode cX11_turns 24 = .ok (.lload_n 2, 1) := by decide +kernel
theorem dX11_turns_25 : decode cX11_turns 25 = .ok (.lcmp, 1) := by decide +kernel
theorem dX11_turns_26 : decode cX11_turns 26 = .ok (.ifCond .ne 7, 3) := by decide +kernel
theorem dX11_turns_29 : decode cX11_turns 29 = .ok (.ldc_w 261, 3) := by decide +kernel
theorem dX11_turns_32 : decode cX11_turns 32 = .ok (.ireturn, 1) := by decide +kernel
theorem dX11_turns_33 : decode cX11_turns 33 = .ok (.aload_n 0, 1) := by decide +kernel
theorem dX11_turns_34 : decode cX11_turns 34 = .ok (.invokevirtual 269, 3) := by decide +kernel
theorem dX11_turns_37 : decode cX11_turns 37 = .ok (.aload_n 0, 1) := by decide +kernel
theorem dX11_turns_38 : decode cX11_turns 38 = .ok (.getfield 7, 3) := by decide +kernel
theorem dX11_turns_41 : decode cX11_turns 41 = .ok (.bipush 7, 2) := by decide +kernel
theorem dX11_turns_43 : decode cX11_turns 43 = .ok (.iconst 3, 1) := by decide +kernel
theorem dX11_turns_44 : decode cX11_turns 44 = .ok (.iload_n 1, 1) := by decide +kernel
theorem dX11_turns_45 : decode cX11_turns 45 = .ok (.imul, 1) := by decide +kernel
theorem dX11_turns_46 : decode cX11_turns 46 = .ok (.iadd, 1) := by decide +kernel
theorem dX11_turns_47 : decode cX11_turns 47 = .ok (.iconst 0, 1) := by decide +kernel
theorem dX11_turns_48 : decode cX11_turns 48 = .ok (.iadd, 1) := by decide +kernel
theorem dX11_turns_49 : decode cX11_turns 49 = .ok (.lload_n 2, 1) := by decide +kernel
theorem dX11_turns_50 : decode cX11_turns 50 = .ok (.lastore, 1) := by decide +kernel
theorem dX11_turns_51 : decode cX11_turns 51 = .ok (.aload_n 0, 1) := by decide +kernel
theorem dX11_turns_52 : decode cX11_turns 52 = .ok (.getfield 7, 3) := by decide +kernel
theorem dX11_turns_55 : decode cX11_turns 55 = .ok (.invokestatic 97, 3) := by decide +kernel
theorem dX11_turns_58 : decode cX11_turns 58 = .ok (.invokestatic 180, 3) := by decide +kernel
theorem dX11_turns_61 : decode cX11_turns 61 = .ok (.ireturn, 1) := by decide +kernel
set_option maxRecDepth 20000 in
theorem ggX11_down_X11_turns : GoodIn wsX11_down wsX11_turns := goodIn_r _ [5, 6, 7, 8, 9, 10, 11, 4, 12, 13, 14, 15, 16, 17, 18, 19, 20, 21, 22, 23, 24, 25, 26, 27, 28, 29, 30, 31, 32, 33, 34, 35, 36, 37, 38, 39, 40, 41, 42, 43, 44, 45, 46, 47, 48, 49, 50, 51, 52, 53] (by decide +kernel) (by decide +kernel)
set_option maxRecDepth 20000 in
theorem gX11_down_X11_turns : GoodIn wsX11_down (wsV RX11 306 RX11 yX11_turns wsX11_turns) := goodIn_app (goodIn_of _ (by decide +kernel)) ggX11_down_X11_turns
theorem dX11_down_0 : decode cX11_down 0 = .ok (.aload_n 0, 1) := by decide +kernel
theorem dX11_down_1 : decode cX11_down 1 = .ok (.iload_n 1, 1) := by decide +kernel
theorem dX11_down_2 : decode cX11_down 2 = .ok (.lconst 0, 1) := by decide +kernel
theorem dX11_down_3 : decode cX11_down 3 = .ok (.invokevirtual 306, 3) := by decide +kernel
theorem dX11_down_6 : decode cX11_down 6 = .ok (.ireturn, 1) := by decide +kernel
set_option maxRecDepth 20000 in
theorem ggX11_up_X11_turns : GoodIn wsX11_up wsX11_turns := goodIn_r _ [5, 6, 7, 8, 9, 10, 11, 4, 12, 13, 14, 15, 16, 17, 18, 19, 20, 21, 22, 23, 24, 25, 26, 27, 28, 29, 30, 31, 32, 33, 34, 35, 36, 37, 38, 39, 40, 41, 42, 43, 44, 45, 46, 47, 48, 49, 50, 51, 52, 53] (by decide +kernel) (by decide +kernel)
set_option maxRecDepth 20000 in
theorem gX11_up_X11_turns : GoodIn wsX11_up (wsV RX11 306 RX11 yX11_turns wsX11_turns) := goodIn_app (goodIn_of _ (by decide +kernel)) ggX11_up_X11_turns
theorem dX11_up_0 : decode cX11_up 0 = .ok (.aload_n 0, 1) := by decide +kernel
theorem dX11_up_1 : decode cX11_up 1 = .ok (.iload_n 1, 1) := by decide +kernel
theorem dX11_up_2 : decode cX11_up 2 = .ok (.lconst 1, 1) := by decide +kernel
theorem dX11_up_3 : decode cX11_up 3 = .ok (.invokevirtual 306, 3) := by decide +kernel
theorem dX11_up_6 : decode cX11_up 6 = .ok (.ireturn, 1) := by decide +kernel
set_option maxRecDepth 20000 in
theorem ggX11_spoil_X11_isServer : GoodIn wsX11_spoil wsX11_isServer := goodIn_r _ [8, 3, 9, 10, 7, 11, 21, 22, 23, 24, 25, 26, 27, 28, 29, 30, 31, 32, 33, 34, 35, 36, 37] (by decide +kernel) (by decide +kernel)
set_option maxRecDepth 20000 in
theorem gX11_spoil_X11_isServer : GoodIn wsX11_spoil (wsV RX11 303 RX11 yX11_isServer wsX11_isServer) := goodIn_app (goodIn_of _ (by decide +kernel)) ggX11_spoil_X11_isServer
set_option maxRecDepth 20000 in
theorem ggX11_spoil_X11_in : GoodIn wsX11_spoil wsX11_in := goodIn_r _ [11] (by decide +kernel) (by decide +kernel)
set_option maxRecDepth 20000 in
theorem gX11_spoil_X11_in : GoodIn wsX11_spoil (va_wsS RX11 206 yX11_in wsX11_in) := goodIn_app (goodIn_of _ (by decide +kernel)) ggX11_spoil_X11_in
set_option maxRecDepth 20000 in
theorem ggX11_spoil_X11_notes : GoodIn wsX11_spoil wsX11_notes := goodIn_r _ [15, 16, 17, 3, 18, 19, 7, 20, 21, 22, 23, 24, 25, 26, 27, 28, 29, 30, 31, 32, 33, 34, 35, 36, 37] (by decide +kernel) (by decide +kernel)
set_option maxRecDepth 20000 in
theorem gX11_spoil_X11_notes : GoodIn wsX11_spoil (wsV RX11 269 RX11 yX11_notes wsX11_notes) := goodIn_app (goodIn_of _ (by decide +kernel)) ggX11_spoil_X11_notes
theorem dX11_spoil_0 : decode cX11_spoil 0 = .ok (.aload_n 0, 1) := by decide +kernel
theorem dX11_spoil_1 : decode cX11_spoil 1 = .ok (.iload_n 1, 1) := by decide +kernel
theorem dX11_spoil_2 : decode cX11_spoil 2 = .ok (.invokevirtual 303, 3) := by decide +kernel
theorem dX11_spoil_5 : decode cX11_spoil 5 = .ok (.ifCond .eq 15, 3) := by decide +kernel
theorem dX11_spoil_8 : decode cX11_spoil 8 = .ok (.iload_n 2, 1) := by decide +kernel
theorem dX11_spoil_9 : decode cX11_spoil 9 = .ok (.i2l, 1) := by decide +kernel
theorem dX11_spoil_10 : decode cX11_spoil 10 = .ok (.lconst 0, 1) := by decide +kernel
theorem dX11_spoil_11 : decode cX11_spoil 11 = .ok (.ldc2_w 310, 3) := by decide +kernel
theorem dX11_spoil_14 : decode cX11_spoil 14 = .ok (.invokestatic 206, 3) := by decide +kernel
theorem dX11_spoil_17 : decode cX11_spoil 17 = .ok (.ifCond .ne 6, 3) := by decide +kernel
theorem dX11_spoil_20 : decode cX11_spoil 20 = .ok (.ldc 235, 2) := by decide +kernel
theorem dX11_spoil_22 : decode cX11_spoil 22 = .ok (.ireturn, 1) := by decide +kernel
theorem dX11_spoil_23 : decode cX11_spoil 23 = .ok (.aload_n 0, 1) := by decide +kernel
theorem dX11_spoil_24 : decode cX11_spoil 24 = .ok (.invokevirtual 269, 3) := by decide +kernel
theorem dX11_spoil_27 : decode cX11_spoil 27 = .ok (.aload_n 0, 1) := by decide +kernel
theorem dX11_spoil_28 : decode cX11_spoil 28 = .ok (.getfield 7, 3) := by decide +kernel
theorem dX11_spoil_31 : decode cX11_spoil 31 = .ok (.bipush 7, 2) := by decide +kernel
theorem dX11_spoil_33 : decode cX11_spoil 33 = .ok (.iconst 3, 1) := by decide +kernel
theorem dX11_spoil_34 : decode cX11_spoil 34 = .ok (.iload_n 1, 1) := by decide +kernel
theorem dX11_spoil_35 : decode cX11_spoil 35 = .ok (.imul, 1) := by decide +kernel
theorem dX11_spoil_36 : decode cX11_spoil 36 = .ok (.iadd, 1) := by decide +kernel
theorem dX11_spoil_37 : decode cX11_spoil 37 = .ok (.iconst 2, 1) := by decide +kernel
theorem dX11_spoil_38 : decode cX11_spoil 38 = .ok (.iadd, 1) := by decide +kernel
theorem dX11_spoil_39 : decode cX11_spoil 39 = .ok (.laload, 1) := by decide +kernel
theorem dX11_spoil_40 : decode cX11_spoil 40 = .ok (.l2i, 1) := by decide +kernel
theorem dX11_spoil_41 : decode cX11_spoil 41 = .ok (.istore_n 3, 1) := by decide +kernel
theorem dX11_spoil_42 : decode cX11_spoil 42 = .ok (.aload_n 0, 1) := by decide +kernel
theorem dX11_spoil_43 : decode cX11_spoil 43 = .ok (.getfield 7, 3) := by decide +kernel
theorem dX11_spoil_46 : decode cX11_spoil 46 = .ok (.bipush 7, 2) := by decide +kernel
theorem dX11_spoil_48 : decode cX11_spoil 48 = .ok (.iconst 3, 1) := by decide +kernel
theorem dX11_spoil_49 : decode cX11_spoil 49 = .ok (.iload_n 1, 1) := by decide +kernel
theorem dX11_spoil_50 : decode cX11_spoil 50 = .ok (.imul, 1) := by decide +kernel
theorem dX11_spoil_51 : decode cX11_spoil 51 = .ok (.iadd, 1) := by decide +kernel
theorem dX11_spoil_52 : decode cX11_spoil 52 = .ok (.iconst 2, 1) := by decide +kernel
theorem dX11_spoil_53 : decode cX11_spoil 53 = .ok (.iadd, 1) := by decide +kernel
theorem dX11_spoil_54 : decode cX11_spoil 54 = .ok (.iload_n 2, 1) := by decide +kernel
theorem dX11_spoil_55 : decode cX11_spoil 55 = .ok (.i2l, 1) := by decide +kernel
theorem dX11_spoil_56 : decode cX11_spoil 56 = .ok (.lastore, 1) := by decide +kernel
theorem dX11_spoil_57 : decode cX11_spoil 57 = .ok (.iload_n 3, 1) := by decide +kernel
theorem dX11_spoil_58 : decode cX11_spoil 58 = .ok (.ireturn, 1) := by decide +kernel
set_option maxRecDepth 20000 in
theorem ggX11_beat_X11_isServer : GoodIn wsX11_beat wsX11_isServer := goodIn_r _ [8, 2, 9, 10, 7, 11, 34, 35, 36, 37, 38, 39, 40, 41, 42, 43, 44, 45, 46, 47, 48, 49, 50] (by decide +kernel) (by decide +kernel)
set_option maxRecDepth 20000 in
theorem gX11_beat_X11_isServer : GoodIn wsX11_beat (wsV RX11 303 RX11 yX11_isServer wsX11_isServer) := goodIn_app (goodIn_of _ (by decide +kernel)) ggX11_beat_X11_isServer
set_option maxRecDepth 20000 in
theorem ggX11_beat_X11_isUp : GoodIn wsX11_beat wsX11_isUp := goodIn_r _ [14] (by decide +kernel) (by decide +kernel)
set_option maxRecDepth 20000 in
theorem gX11_beat_X11_isUp : GoodIn wsX11_beat (va_wsS RX11 65 yX11_isUp wsX11_isUp) := goodIn_app (goodIn_of _ (by decide +kernel)) ggX11_beat_X11_isUp
set_option maxRecDepth 20000 in
theorem ggX11_beat_X11_notes : GoodIn wsX11_beat wsX11_notes := goodIn_r _ [18, 19, 20, 2, 21, 22, 7, 23, 34, 35, 36, 37, 38, 39, 40, 41, 42, 43, 44, 45, 46, 47, 48, 49, 50] (by decide +kernel) (by decide +kernel)
set_option maxRecDepth 20000 in
theorem gX11_beat_X11_notes : GoodIn wsX11_beat (wsV RX11 269 RX11 yX11_notes wsX11_notes) := goodIn_app (goodIn_of _ (by decide +kernel)) ggX11_beat_X11_notes
set_option maxRecDepth 20000 in
theorem ggX11_beat_X11_copy : GoodIn wsX11_beat wsX11_copy := goodIn_r _ [26] (by decide +kernel) (by decide +kernel)
set_option maxRecDepth 20000 in
theorem gX11_beat_X11_copy : GoodIn wsX11_beat (va_wsS RX11 53 yX11_copy wsX11_copy) := goodIn_app (goodIn_of _ (by decide +kernel)) ggX11_beat_X11_copy
set_option maxRecDepth 20000 in
theorem ggX11_beat_X11_isGood : GoodIn wsX11_beat wsX11_isGood := goodIn_r _ [29, 24, 25, 7, 26, 30, 31, 32, 33] (by decide +kernel) (by decide +kernel)
set_option maxRecDepth 20000 in
theorem gX11_beat_X11_isGood : GoodIn wsX11_beat (va_wsS RX11 61 yX11_isGood wsX11_isGood) := goodIn_app (goodIn_of _ (by decide +kernel)) ggX11_beat_X11_isGood
theorem dX11_beat_0 : decode cX11_beat 0 = .ok (.aload_n 0, 1) := by decide +kernel
theorem dX11_beat_1 : decode cX11_beat 1 = .ok (.iload_n 1, 1) := by decide +kernel
theorem dX11_beat_2 : decode cX11_beat 2 = .ok (.invokevirtual 303, 3) := by decide +kernel
theorem dX11_beat_5 : decode cX11_beat 5 = .ok (.ifCond .ne 6, 3) := by decide +kernel
theorem dX11_beat_8 : decode cX11_beat 8 = .ok (.ldc 235, 2) := by decide +kernel
theorem dX11_beat_10 : decode cX11_beat 10 = .ok (.ireturn, 1) := by decide +kernel
theorem dX11_beat_11 : decode cX11_beat 11 = .ok (.aload_n 0, 1) := by decide +kernel
theorem dX11_beat_12 : decode cX11_beat 12 = .ok (.getfield 7, 3) := by decide +kernel
theorem dX11_beat_15 : decode cX11_beat 15 = .ok (.iload_n 1, 1) := by decide +kernel
theorem dX11_beat_16 : decode cX11_beat 16 = .ok (.invokestatic 65, 3) := by decide +kernel
theorem dX11_beat_19 : decode cX11_beat 19 = .ok (.ifCond .ne 7, 3) := by decide +kernel
theorem dX11_beat_22 : decode cX11_beat 22 = .ok (.ldc_w 261, 3) := by decide +kernel
theorem dX11_beat_25 : decode cX11_beat 25 = .ok (.ireturn, 1) := by decide +kernel
theorem dX11_beat_26 : decode cX11_beat 26 = .ok (.aload_n 0, 1) := by decide +kernel
theorem dX11_beat_27 : decode cX11_beat 27 = .ok (.invokevirtual 269, 3) := by decide +kernel
theorem dX11_beat_30 : decode cX11_beat 30 = .ok (.iconst 0, 1) := by decide +kernel
theorem dX11_beat_31 : decode cX11_beat 31 = .ok (.istore_n 2, 1) := by decide +kernel
theorem dX11_beat_32 : decode cX11_beat 32 = .ok (.iconst 0, 1) := by decide +kernel
theorem dX11_beat_33 : decode cX11_beat 33 = .ok (.istore_n 3, 1) := by decide +kernel
theorem dX11_beat_34 : decode cX11_beat 34 = .ok (.iload_n 3, 1) := by decide +kernel
theorem dX11_beat_35 : decode cX11_beat 35 = .ok (.i2l, 1) := by decide +kernel
theorem dX11_beat_36 : decode cX11_beat 36 = .ok (.aload_n 0, 1) := by decide +kernel
theorem dX11_beat_37 : decode cX11_beat 37 = .ok (.getfield 7, 3) := by decide +kernel
theorem dX11_beat_40 : decode cX11_beat 40 = .ok (.bipush 6, 2) := by decide +kernel
theorem dX11_beat_42 : decode cX11_beat 42 = .ok (.laload, 1) := by decide +kernel
theorem dX11_beat_43 : decode cX11_beat 43 = .ok (.lcmp, 1) := by decide +kernel
theorem dX11_beat_44 : decode cX11_beat 44 = .ok (.ifCond .ge 105, 3) := by decide +kernel
theorem dX11_beat_47 : decode cX11_beat 47 = .ok (.aload_n 0, 1) := by decide +kernel
theorem dX11_beat_48 : decode cX11_beat 48 = .ok (.getfield 7, 3) := by decide +kernel
theorem dX11_beat_51 : decode cX11_beat 51 = .ok (.iload_n 3, 1) := by decide +kernel
theorem dX11_beat_52 : decode cX11_beat 52 = .ok (.iload_n 1, 1) := by decide +kernel
theorem dX11_beat_53 : decode cX11_beat 53 = .ok (.invokestatic 53, 3) := by decide +kernel
theorem dX11_beat_56 : decode cX11_beat 56 = .ok (.lconst 0, 1) := by decide +kernel
theorem dX11_beat_57 : decode cX11_beat 57 = .ok (.lcmp, 1) := by decide +kernel
theorem dX11_beat_58 : decode cX11_beat 58 = .ok (.ifCond .eq 37, 3) := by decide +kernel
theorem dX11_beat_61 : decode cX11_beat 61 = .ok (.aload_n 0, 1) := by decide +kernel
theorem dX11_beat_62 : decode cX11_beat 62 = .ok (.getfield 7, 3) := by decide +kernel
theorem dX11_beat_65 : decode cX11_beat 65 = .ok (.bipush 70, 2) := by decide +kernel
theorem dX11_beat_67 : decode cX11_beat 67 = .ok (.iconst 4, 1) := by decide +kernel
theorem dX11_beat_68 : decode cX11_beat 68 = .ok (.iload_n 3, 1) := by decide +kernel
theorem dX11_beat_69 : decode cX11_beat 69 = .ok (.imul, 1) := by decide +kernel
theorem dX11_beat_70 : decode cX11_beat 70 = .ok (.iadd, 1) := by decide +kernel
theorem dX11_beat_71 : decode cX11_beat 71 = .ok (.iconst 1, 1) := by decide +kernel
theorem dX11_beat_72 : decode cX11_beat 72 = .ok (.iadd, 1) := by decide +kernel
theorem dX11_beat_73 : decode cX11_beat 73 = .ok (.laload, 1) := by decide +kernel
theorem dX11_beat_74 : decode cX11_beat 74 = .ok (.lconst 0, 1) := by decide +kernel
theorem dX11_beat_75 : decode cX11_beat 75 = .ok (.lcmp, 1) := by decide +kernel
theorem dX11_beat_76 : decode cX11_beat 76 = .ok (.ifCond .eq 15, 3) := by decide +kernel
theorem dX11_beat_79 : decode cX11_beat 79 = .ok (.aload_n 0, 1) := by decide +kernel
theorem dX11_beat_80 : decode cX11_beat 80 = .ok (.getfield 7, 3) := by decide +kernel
theorem dX11_beat_83 : decode cX11_beat 83 = .ok (.iload_n 3, 1) := by decide +kernel
theorem dX11_beat_84 : decode cX11_beat 84 = .ok (.iload_n 1, 1) := by decide +kernel
theorem dX11_beat_85 : decode cX11_beat 85 = .ok (.invokestatic 61, 3) := by decide +kernel
theorem dX11_beat_88 : decode cX11_beat 88 = .ok (.ifCond .ne 7, 3) := by decide +kernel
theorem dX11_beat_91 : decode cX11_beat 91 = .ok (.iconst 1, 1) := by decide +kernel
theorem dX11_beat_92 : decode cX11_beat 92 = .ok (.goto 4, 3) := by decide +kernel
theorem dX11_beat_95 : decode cX11_beat 95 = .ok (.iconst 0, 1) := by decide +kernel
theorem dX11_beat_96 : decode cX11_beat 96 = .ok (.istore 4, 2) := by decide +kernel
theorem dX11_beat_98 : decode cX11_beat 98 = .ok (.aload_n 0, 1) := by decide +kernel
theorem dX11_beat_99 : decode cX11_beat 99 = .ok (.getfield 7, 3) := by decide +kernel
theorem dX11_beat_102 : decode cX11_beat 102 = .ok (.sipush 190, 3) := by decide +kernel
theorem dX11_beat_105 : decode cX11_beat 105 = .ok (.iconst 5, 1) := by decide +kernel
theorem dX11_beat_106 : decode cX11_beat 106 = .ok (.iload_n 3, 1) := by decide +kernel
theorem dX11_beat_107 : decode cX11_beat 107 = .ok (.imul, 1) := by decide +kernel
theorem dX11_beat_108 : decode cX11_beat 108 = .ok (.iadd, 1) := by decide +kernel
theorem dX11_beat_109 : decode cX11_beat 109 = .ok (.iload_n 1, 1) := by decide +kernel
theorem dX11_beat_110 : decode cX11_beat 110 = .ok (.iadd, 1) := by decide +kernel
theorem dX11_beat_111 : decode cX11_beat 111 = .ok (.iload 4, 2) := by decide +kernel
theorem dX11_beat_113 : decode cX11_beat 113 = .ok (.ifCond .eq 7, 3) := by decide +kernel
theorem dX11_beat_116 : decode cX11_beat 116 = .ok (.lconst 0, 1) := by decide +kernel
theorem dX11_beat_117 : decode cX11_beat 117 = .ok (.goto 12, 3) := by decide +kernel
theorem dX11_beat_120 : decode cX11_beat 120 = .ok (.aload_n 0, 1) := by decide +kernel
theorem dX11_beat_121 : decode cX11_beat 121 = .ok (.getfield 7, 3) := by decide +kernel
theorem dX11_beat_124 : decode cX11_beat 124 = .ok (.iload_n 3, 1) := by decide +kernel
theorem dX11_beat_125 : decode cX11_beat 125 = .ok (.iload_n 1, 1) := by decide +kernel
theorem dX11_beat_126 : decode cX11_beat 126 = .ok (.invokestatic 53, 3) := by decide +kernel
theorem dX11_beat_129 : decode cX11_beat 129 = .ok (.lastore, 1) := by decide +kernel
theorem dX11_beat_130 : decode cX11_beat 130 = .ok (.iload_n 2, 1) := by decide +kernel
theorem dX11_beat_131 : decode cX11_beat 131 = .ok (.iload 4, 2) := by decide +kernel
theorem dX11_beat_133 : decode cX11_beat 133 = .ok (.ifCond .eq 7, 3) := by decide +kernel
theorem dX11_beat_136 : decode cX11_beat 136 = .ok (.iconst 1, 1) := by decide +kernel
theorem dX11_beat_137 : decode cX11_beat 137 = .ok (.goto 4, 3) := by decide +kernel
theorem dX11_beat_140 : decode cX11_beat 140 = .ok (.iconst 0, 1) := by decide +kernel
theorem dX11_beat_141 : decode cX11_beat 141 = .ok (.iadd, 1) := by decide +kernel
theorem dX11_beat_142 : decode cX11_beat 142 = .ok (.istore_n 2, 1) := by decide +kernel
theorem dX11_beat_143 : decode cX11_beat 143 = .ok (.iinc 3 1, 3) := by decide +kernel
theorem dX11_beat_146 : decode cX11_beat 146 = .ok (.goto (-112), 3) := by decide +kernel
theorem dX11_beat_149 : decode cX11_beat 149 = .ok (.iload_n 2, 1) := by decide +kernel
theorem dX11_beat_150 : decode cX11_beat 150 = .ok (.ireturn, 1) := by decide +kernel
set_option maxRecDepth 20000 in
theorem ggX11_mend_X11_isHouse : GoodIn wsX11_mend wsX11_isHouse := goodIn_r _ [8, 2, 78, 79, 80, 81, 82, 83, 84, 85, 86, 87, 88, 89, 90, 91, 92, 93, 94] (by decide +kernel) (by decide +kernel)
set_option maxRecDepth 20000 in
theorem gX11_mend_X11_isHouse : GoodIn wsX11_mend (wsV RX11 262 RX11 yX11_isHouse wsX11_isHouse) := goodIn_app (goodIn_of _ (by decide +kernel)) ggX11_mend_X11_isHouse
set_option maxRecDepth 20000 in
theorem ggX11_mend_X11_poor : GoodIn wsX11_mend wsX11_poor := goodIn_r _ [11, 3, 12, 13, 7, 14, 15, 16, 17, 18, 19, 20, 21, 22, 23, 24, 25, 26, 27, 28, 29, 30, 31, 32, 33, 34, 35, 36, 37, 38, 39, 40, 41, 42, 43, 44, 45, 46, 47, 48, 49, 50, 51, 52, 53] (by decide +kernel) (by decide +kernel)
set_option maxRecDepth 20000 in
theorem gX11_mend_X11_poor : GoodIn wsX11_mend (va_wsS RX11 312 yX11_poor wsX11_poor) := goodIn_app (goodIn_of _ (by decide +kernel)) ggX11_mend_X11_poor
set_option maxRecDepth 20000 in
theorem ggX11_mend_X11_notes : GoodIn wsX11_mend wsX11_notes := goodIn_r _ [57, 58, 59, 2, 60, 61, 7, 62, 78, 79, 80, 81, 82, 83, 84, 85, 86, 87, 88, 89, 90, 91, 92, 93, 94] (by decide +kernel) (by decide +kernel)
set_option maxRecDepth 20000 in
theorem gX11_mend_X11_notes : GoodIn wsX11_mend (wsV RX11 269 RX11 yX11_notes wsX11_notes) := goodIn_app (goodIn_of _ (by decide +kernel)) ggX11_mend_X11_notes
set_option maxRecDepth 20000 in
theorem ggX11_mend_X11_gives : GoodIn wsX11_mend wsX11_gives := goodIn_r _ [65, 12, 13, 7, 14, 15, 16, 17, 18, 19, 20, 21, 22, 23, 24, 25, 26, 27, 28, 29, 30, 51, 52, 53, 66, 67, 68, 69, 70, 71, 34, 35, 36, 72, 73, 74, 75, 76, 77] (by decide +kernel) (by decide +kernel)
set_option maxRecDepth 20000 in
theorem gX11_mend_X11_gives : GoodIn wsX11_mend (va_wsS RX11 315 yX11_gives wsX11_gives) := goodIn_app (goodIn_of _ (by decide +kernel)) ggX11_mend_X11_gives
theorem dX11_mend_0 : decode cX11_mend 0 = .ok (.aload_n 0, 1) := by decide +kernel
theorem dX11_mend_1 : decode cX11_mend 1 = .ok (.invokevirtual 262, 3) := by decide +kernel
theorem dX11_mend_4 : decode cX11_mend 4 = .ok (.ifCond .ne 7, 3) := by decide +kernel
theorem dX11_mend_7 : decode cX11_mend 7 = .ok (.ldc_w 261, 3) := by decide +kernel
theorem dX11_mend_10 : decode cX11_mend 10 = .ok (.ireturn, 1) := by decide +kernel
theorem dX11_mend_11 : decode cX11_mend 11 = .ok (.aload_n 0, 1) := by decide +kernel
theorem dX11_mend_12 : decode cX11_mend 12 = .ok (.getfield 7, 3) := by decide +kernel
theorem dX11_mend_15 : decode cX11_mend 15 = .ok (.invokestatic 312, 3) := by decide +kernel
theorem dX11_mend_18 : decode cX11_mend 18 = .ok (.istore_n 1, 1) := by decide +kernel
theorem dX11_mend_19 : decode cX11_mend 19 = .ok (.iload_n 1, 1) := by decide +kernel
theorem dX11_mend_20 : decode cX11_mend 20 = .ok (.ldc 186, 2) := by decide +kernel
theorem dX11_mend_22 : decode cX11_mend 22 = .ok (.if_icmp .eq 15, 3) := by decide +kernel
theorem dX11_mend_25 : decode cX11_mend 25 = .ok (.aload_n 0, 1) := by decide +kernel
theorem dX11_mend_26 : decode cX11_mend 26 = .ok (.invokevirtual 269, 3) := by decide +kernel
theorem dX11_mend_29 : decode cX11_mend 29 = .ok (.aload_n 0, 1) := by decide +kernel
theorem dX11_mend_30 : decode cX11_mend 30 = .ok (.getfield 7, 3) := by decide +kernel
theorem dX11_mend_33 : decode cX11_mend 33 = .ok (.iload_n 1, 1) := by decide +kernel
theorem dX11_mend_34 : decode cX11_mend 34 = .ok (.invokestatic 315, 3) := by decide +kernel
theorem dX11_mend_37 : decode cX11_mend 37 = .ok (.iload_n 1, 1) := by decide +kernel
theorem dX11_mend_38 : decode cX11_mend 38 = .ok (.ireturn, 1) := by decide +kernel
set_option maxRecDepth 20000 in
theorem ggX11_lyingAs_X11_copy : GoodIn wsX11_lyingAs wsX11_copy := goodIn_r _ [5] (by decide +kernel) (by decide +kernel)
set_option maxRecDepth 20000 in
theorem gX11_lyingAs_X11_copy : GoodIn wsX11_lyingAs (va_wsS RX11 53 yX11_copy wsX11_copy) := goodIn_app (goodIn_of _ (by decide +kernel)) ggX11_lyingAs_X11_copy
set_option maxRecDepth 20000 in
theorem ggX11_lyingAs_X11_isStale : GoodIn wsX11_lyingAs wsX11_isStale := goodIn_r _ [8, 2, 3, 4, 5, 9, 10, 11, 12, 13, 14, 15] (by decide +kernel) (by decide +kernel)
set_option maxRecDepth 20000 in
theorem gX11_lyingAs_X11_isStale : GoodIn wsX11_lyingAs (va_wsS RX11 318 yX11_isStale wsX11_isStale) := goodIn_app (goodIn_of _ (by decide +kernel)) ggX11_lyingAs_X11_isStale
theorem dX11_lyingAs_0 : decode cX11_lyingAs 0 = .ok (.iconst 0, 1) := by decide +kernel
theorem dX11_lyingAs_1 : decode cX11_lyingAs 1 = .ok (.istore_n 3, 1) := by decide +kernel
theorem dX11_lyingAs_2 : decode cX11_lyingAs 2 = .ok (.iconst 0, 1) := by decide +kernel
theorem dX11_lyingAs_3 : decode cX11_lyingAs 3 = .ok (.istore 4, 2) := by decide +kernel
theorem dX11_lyingAs_5 : decode cX11_lyingAs 5 = .ok (.iload 4, 2) := by decide +kernel
theorem dX11_lyingAs_7 : decode cX11_lyingAs 7 = .ok (.i2l, 1) := by decide +kernel
theorem dX11_lyingAs_8 : decode cX11_lyingAs 8 = .ok (.aload_n 0, 1) := by decide +kernel
theorem dX11_lyingAs_9 : decode cX11_lyingAs 9 = .ok (.getfield 7, 3) := by decide +kernel
theorem dX11_lyingAs_12 : decode cX11_lyingAs 12 = .ok (.bipush 6, 2) := by decide +kernel
theorem dX11_lyingAs_14 : decode cX11_lyingAs 14 = .ok (.laload, 1) := by decide +kernel
theorem dX11_lyingAs_15 : decode cX11_lyingAs 15 = .ok (.lcmp, 1) := by decide +kernel
theorem dX11_lyingAs_16 : decode cX11_lyingAs 16 = .ok (.ifCond .ge 80, 3) := by decide +kernel
theorem dX11_lyingAs_19 : decode cX11_lyingAs 19 = .ok (.iload_n 2, 1) := by decide +kernel
theorem dX11_lyingAs_20 : decode cX11_lyingAs 20 = .ok (.ifCond .eq 45, 3) := by decide +kernel
theorem dX11_lyingAs_23 : decode cX11_lyingAs 23 = .ok (.aload_n 0, 1) := by decide +kernel
theorem dX11_lyingAs_24 : decode cX11_lyingAs 24 = .ok (.getfield 7, 3) := by decide +kernel
theorem dX11_lyingAs_27 : decode cX11_lyingAs 27 = .ok (.bipush 70, 2) := by decide +kernel
theorem dX11_lyingAs_29 : decode cX11_lyingAs 29 = .ok (.iconst 4, 1) := by decide +kernel
theorem dX11_lyingAs_30 : decode cX11_lyingAs 30 = .ok (.iload 4, 2) := by decide +kernel
theorem dX11_lyingAs_32 : decode cX11_lyingAs 32 = .ok (.imul, 1) := by decide +kernel
theorem dX11_lyingAs_33 : decode cX11_lyingAs 33 = .ok (.iadd, 1) := by decide +kernel
theorem dX11_lyingAs_34 : decode cX11_lyingAs 34 = .ok (.iconst 1, 1) := by decide +kernel
theorem dX11_lyingAs_35 : decode cX11_lyingAs 35 = .ok (.iadd, 1) := by decide +kernel
theorem dX11_lyingAs_36 : decode cX11_lyingAs 36 = .ok (.laload, 1) := by decide +kernel
theorem dX11_lyingAs_37 : decode cX11_lyingAs 37 = .ok (.lconst 0, 1) := by decide +kernel
theorem dX11_lyingAs_38 : decode cX11_lyingAs 38 = .ok (.lcmp, 1) := by decide +kernel
theorem dX11_lyingAs_39 : decode cX11_lyingAs 39 = .ok (.ifCond .ne 22, 3) := by decide +kernel
theorem dX11_lyingAs_42 : decode cX11_lyingAs 42 = .ok (.aload_n 0, 1) := by decide +kernel
theorem dX11_lyingAs_43 : decode cX11_lyingAs 43 = .ok (.getfield 7, 3) := by decide +kernel
theorem dX11_lyingAs_46 : decode cX11_lyingAs 46 = .ok (.iload 4, 2) := by decide +kernel
theorem dX11_lyingAs_48 : decode cX11_lyingAs 48 = .ok (.iload_n 1, 1) := by decide +kernel
theorem dX11_lyingAs_49 : decode cX11_lyingAs 49 = .ok (.invokestatic 53, 3) := by decide +kernel
theorem dX11_lyingAs_52 : decode cX11_lyingAs 52 = .ok (.lconst 0, 1) := by decide +kernel
theorem dX11_lyingAs_53 : decode cX11_lyingAs 53 = .ok (.lcmp, 1) := by decide +kernel
theorem dX11_lyingAs_54 : decode cX11_lyingAs 54 = .ok (.ifCond .eq 7, 3) := by decide +kernel
theorem dX11_lyingAs_57 : decode cX11_lyingAs 57 = .ok (.iconst 1, 1) := by decide +kernel
theorem dX11_lyingAs_58 : decode cX11_lyingAs 58 = .ok (.goto 17, 3) := by decide +kernel
theorem dX11_lyingAs_61 : decode cX11_lyingAs 61 = .ok (.iconst 0, 1) := by decide +kernel
theorem dX11_lyingAs_62 : decode cX11_lyingAs 62 = .ok (.goto 13, 3) := by decide +kernel
theorem dX11_lyingAs_65 : decode cX11_lyingAs 65 = .ok (.aload_n 0, 1) := by decide +kernel
theorem dX11_lyingAs_66 : decode cX11_lyingAs 66 = .ok (.getfield 7, 3) := by decide +kernel
theorem dX11_lyingAs_69 : decode cX11_lyingAs 69 = .ok (.iload 4, 2) := by decide +kernel
theorem dX11_lyingAs_71 : decode cX11_lyingAs 71 = .ok (.iload_n 1, 1) := by decide +kernel
theorem dX11_lyingAs_72 : decode cX11_lyingAs 72 = .ok (.invokestatic 318, 3) := by decide +kernel
theorem dX11_lyingAs_75 : decode cX11_lyingAs 75 = .ok (.istore 5, 2) := by decide +kernel
theorem dX11_lyingAs_77 : decode cX11_lyingAs 77 = .ok (.iload_n 3, 1) := by decide +kernel
theorem dX11_lyingAs_78 : decode cX11_lyingAs 78 = .ok (.iload 5, 2) := by decide +kernel
theorem dX11_lyingAs_80 : decode cX11_lyingAs 80 = .ok (.ifCond .eq 7, 3) := by decide +kernel
theorem dX11_lyingAs_83 : decode cX11_lyingAs 83 = .ok (.iconst 1, 1) := by decide +kernel
theorem dX11_lyingAs_84 : decode cX11_lyingAs 84 = .ok (.goto 4, 3) := by decide +kernel
theorem dX11_lyingAs_87 : decode cX11_lyingAs 87 = .ok (.iconst 0, 1) := by decide +kernel
theorem dX11_lyingAs_88 : decode cX11_lyingAs 88 = .ok (.iadd, 1) := by decide +kernel
theorem dX11_lyingAs_89 : decode cX11_lyingAs 89 = .ok (.istore_n 3, 1) := by decide +kernel
theorem dX11_lyingAs_90 : decode cX11_lyingAs 90 = .ok (.iinc 4 1, 3) := by decide +kernel
theorem dX11_lyingAs_93 : decode cX11_lyingAs 93 = .ok (.goto (-88), 3) := by decide +kernel
theorem dX11_lyingAs_96 : decode cX11_lyingAs 96 = .ok (.iload_n 3, 1) := by decide +kernel
theorem dX11_lyingAs_97 : decode cX11_lyingAs 97 = .ok (.ireturn, 1) := by decide +kernel
set_option maxRecDepth 20000 in
theorem ggX11_server_X11_isServer : GoodIn wsX11_server wsX11_isServer := goodIn_r _ [8, 2, 9, 10, 7, 11, 38, 39, 40, 41, 42, 43, 44, 45, 46, 47, 48, 49, 50, 51, 52, 53, 54] (by decide +kernel) (by decide +kernel)
set_option maxRecDepth 20000 in
theorem gX11_server_X11_isServer : GoodIn wsX11_server (wsV RX11 303 RX11 yX11_isServer wsX11_isServer) := goodIn_app (goodIn_of _ (by decide +kernel)) ggX11_server_X11_isServer
set_option maxRecDepth 20000 in
theorem ggX11_server_X11_isUp : GoodIn wsX11_server wsX11_isUp := goodIn_r _ [14] (by decide +kernel) (by decide +kernel)
set_option maxRecDepth 20000 in
theorem gX11_server_X11_isUp : GoodIn wsX11_server (va_wsS RX11 65 yX11_isUp wsX11_isUp) := goodIn_app (goodIn_of _ (by decide +kernel)) ggX11_server_X11_isUp
set_option maxRecDepth 20000 in
theorem ggX11_server_X11_lying : GoodIn wsX11_server wsX11_lying := goodIn_r _ [17, 18, 19, 7, 20] (by decide +kernel) (by decide +kernel)
set_option maxRecDepth 20000 in
theorem gX11_server_X11_lying : GoodIn wsX11_server (va_wsS RX11 72 yX11_lying wsX11_lying) := goodIn_app (goodIn_of _ (by decide +kernel)) ggX11_server_X11_lying
set_option maxRecDepth 20000 in
theorem ggX11_server_X11_lyingAs : GoodIn wsX11_server wsX11_lyingAs := goodIn_r _ [24, 2, 18, 19, 7, 20, 25, 26, 27, 28, 29, 30, 31, 32, 33, 34, 38, 39, 40, 41, 42, 43, 44, 45, 46, 47, 48, 49, 50, 51, 52, 53, 54] (by decide +kernel) (by decide +kernel)
set_option maxRecDepth 20000 in
theorem gX11_server_X11_lyingAs : GoodIn wsX11_server (wsV RX11 321 RX11 yX11_lyingAs wsX11_lyingAs) := goodIn_app (goodIn_of _ (by decide +kernel)) ggX11_server_X11_lyingAs
set_option maxRecDepth 20000 in
theorem ggX11_server_X11_load : GoodIn wsX11_server wsX11_load := goodIn_r _ [37, 15, 16, 7, 17, 18, 19, 20] (by decide +kernel) (by decide +kernel)
set_option maxRecDepth 20000 in
theorem gX11_server_X11_load : GoodIn wsX11_server (va_wsS RX11 80 yX11_load wsX11_load) := goodIn_app (goodIn_of _ (by decide +kernel)) ggX11_server_X11_load
theorem dX11_server_0 : decode cX11_server 0 = .ok (.aload_n 0, 1) := by decide +kernel
theorem dX11_server_1 : decode cX11_server 1 = .ok (.iload_n 1, 1) := by decide +kernel
theorem dX11_server_2 : decode cX11_server 2 = .ok (.invokevirtual 303, 3) := by decide +kernel
theorem dX11_server_5 : decode cX11_server 5 = .ok (.ifCond .ne 6, 3) := by decide +kernel
theorem dX11_server_8 : decode cX11_server 8 = .ok (.ldc 235, 2) := by decide +kernel
theorem dX11_server_10 : decode cX11_server 10 = .ok (.ireturn, 1) := by decide +kernel
theorem dX11_server_11 : decode cX11_server 11 = .ok (.iload_n 2, 1) := by decide +kernel
theorem dX11_server_12 : decode cX11_server 12 = .ok (.tableswitch 128 0 6 #[44, 61, 76, 85, 92, 99, 114], 44) := by decide +kernel
theorem dX11_server_56 : decode cX11_server 56 = .ok (.aload_n 0, 1) := by decide +kernel
theorem dX11_server_57 : decode cX11_server 57 = .ok (.getfield 7, 3) := by decide +kernel
theorem dX11_server_60 : decode cX11_server 60 = .ok (.iload_n 1, 1) := by decide +kernel
theorem dX11_server_61 : decode cX11_server 61 = .ok (.invokestatic 65, 3) := by decide +kernel
theorem dX11_server_64 : decode cX11_server 64 = .ok (.ifCond .eq 7, 3) := by decide +kernel
theorem dX11_server_67 : decode cX11_server 67 = .ok (.iconst 1, 1) := by decide +kernel
theorem dX11_server_68 : decode cX11_server 68 = .ok (.goto 4, 3) := by decide +kernel
theorem dX11_server_71 : decode cX11_server 71 = .ok (.iconst 0, 1) := by decide +kernel
theorem dX11_server_72 : decode cX11_server 72 = .ok (.ireturn, 1) := by decide +kernel
theorem dX11_server_73 : decode cX11_server 73 = .ok (.aload_n 0, 1) := by decide +kernel
theorem dX11_server_74 : decode cX11_server 74 = .ok (.getfield 7, 3) := by decide +kernel
theorem dX11_server_77 : decode cX11_server 77 = .ok (.bipush 7, 2) := by decide +kernel
theorem dX11_server_79 : decode cX11_server 79 = .ok (.iconst 3, 1) := by decide +kernel
theorem dX11_server_80 : decode cX11_server 80 = .ok (.iload_n 1, 1) := by decide +kernel
theorem dX11_server_81 : decode cX11_server 81 = .ok (.imul, 1) := by decide +kernel
theorem dX11_server_82 : decode cX11_server 82 = .ok (.iadd, 1) := by decide +kernel
theorem dX11_server_83 : decode cX11_server 83 = .ok (.iconst 1, 1) := by decide +kernel
theorem dX11_server_84 : decode cX11_server 84 = .ok (.iadd, 1) := by decide +kernel
theorem dX11_server_85 : decode cX11_server 85 = .ok (.laload, 1) := by decide +kernel
theorem dX11_server_86 : decode cX11_server 86 = .ok (.l2i, 1) := by decide +kernel
theorem dX11_server_87 : decode cX11_server 87 = .ok (.ireturn, 1) := by decide +kernel
theorem dX11_server_88 : decode cX11_server 88 = .ok (.aload_n 0, 1) := by decide +kernel
theorem dX11_server_89 : decode cX11_server 89 = .ok (.getfield 7, 3) := by decide +kernel
theorem dX11_server_92 : decode cX11_server 92 = .ok (.iload_n 1, 1) := by decide +kernel
theorem dX11_server_93 : decode cX11_server 93 = .ok (.invokestatic 72, 3) := by decide +kernel
theorem dX11_server_96 : decode cX11_server 96 = .ok (.ireturn, 1) := by decide +kernel
theorem dX11_server_97 : decode cX11_server 97 = .ok (.aload_n 0, 1) := by decide +kernel
theorem dX11_server_98 : decode cX11_server 98 = .ok (.iload_n 1, 1) := by decide +kernel
theorem dX11_server_99 : decode cX11_server 99 = .ok (.iconst 0, 1) := by decide +kernel
theorem dX11_server_100 : decode cX11_server 100 = .ok (.invokevirtual 321, 3) := by decide +kernel
theorem dX11_server_103 : decode cX11_server 103 = .ok (.ireturn, 1) := by decide +kernel
theorem dX11_server_104 : decode cX11_server 104 = .ok (.aload_n 0, 1) := by decide +kernel
theorem dX11_server_105 : decode cX11_server 105 = .ok (.iload_n 1, 1) := by decide +kernel
theorem dX11_server_106 : decode cX11_server 106 = .ok (.iconst 1, 1) := by decide +kernel
theorem dX11_server_107 : decode cX11_server 107 = .ok (.invokevirtual 321, 3) := by decide +kernel
theorem dX11_server_110 : decode cX11_server 110 = .ok (.ireturn, 1) := by decide +kernel
theorem dX11_server_111 : decode cX11_server 111 = .ok (.aload_n 0, 1) := by decide +kernel
theorem dX11_server_112 : decode cX11_server 112 = .ok (.getfield 7, 3) := by decide +kernel
theorem dX11_server_115 : decode cX11_server 115 = .ok (.bipush 7, 2) := by decide +kernel
theorem dX11_server_117 : decode cX11_server 117 = .ok (.iconst 3, 1) := by decide +kernel
theorem dX11_server_118 : decode cX11_server 118 = .ok (.iload_n 1, 1) := by decide +kernel
theorem dX11_server_119 : decode cX11_server 119 = .ok (.imul, 1) := by decide +kernel
theorem dX11_server_120 : decode cX11_server 120 = .ok (.iadd, 1) := by decide +kernel
theorem dX11_server_121 : decode cX11_server 121 = .ok (.iconst 2, 1) := by decide +kernel
theorem dX11_server_122 : decode cX11_server 122 = .ok (.iadd, 1) := by decide +kernel
theorem dX11_server_123 : decode cX11_server 123 = .ok (.laload, 1) := by decide +kernel
theorem dX11_server_124 : decode cX11_server 124 = .ok (.l2i, 1) := by decide +kernel
theorem dX11_server_125 : decode cX11_server 125 = .ok (.ireturn, 1) := by decide +kernel
theorem dX11_server_126 : decode cX11_server 126 = .ok (.aload_n 0, 1) := by decide +kernel
theorem dX11_server_127 : decode cX11_server 127 = .ok (.getfield 7, 3) := by decide +kernel
theorem dX11_server_130 : decode cX11_server 130 = .ok (.iload_n 1, 1) := by decide +kernel
theorem dX11_server_131 : decode cX11_server 131 = .ok (.invokestatic 80, 3) := by decide +kernel
theorem dX11_server_134 : decode cX11_server 134 = .ok (.ldc_w 325, 3) := by decide +kernel
theorem dX11_server_137 : decode cX11_server 137 = .ok (.fmul, 1) := by decide +kernel
theorem dX11_server_138 : decode cX11_server 138 = .ok (.f2i, 1) := by decide +kernel
theorem dX11_server_139 : decode cX11_server 139 = .ok (.ireturn, 1) := by decide +kernel
theorem dX11_server_140 : decode cX11_server 140 = .ok (.ldc 235, 2) := by decide +kernel
theorem dX11_server_142 : decode cX11_server 142 = .ok (.ireturn, 1) := by decide +kernel
set_option maxRecDepth 20000 in
theorem ggX11_isChunk_X11_in : GoodIn wsX11_isChunk wsX11_in := goodIn_r _ [5] (by decide +kernel) (by decide +kernel)
set_option maxRecDepth 20000 in
theorem gX11_isChunk_X11_in : GoodIn wsX11_isChunk (va_wsS RX11 206 yX11_in wsX11_in) := goodIn_app (goodIn_of _ (by decide +kernel)) ggX11_isChunk_X11_in
theorem dX11_isChunk_0 : decode cX11_isChunk 0 = .ok (.iload_n 1, 1) := by decide +kernel
theorem dX11_isChunk_1 : decode cX11_isChunk 1 = .ok (.i2l, 1) := by decide +kernel
theorem dX11_isChunk_2 : decode cX11_isChunk 2 = .ok (.lconst 0, 1) := by decide +kernel
theorem dX11_isChunk_3 : decode cX11_isChunk 3 = .ok (.aload_n 0, 1) := by decide +kernel
theorem dX11_isChunk_4 : decode cX11_isChunk 4 = .ok (.getfield 7, 3) := by decide +kernel
theorem dX11_isChunk_7 : decode cX11_isChunk 7 = .ok (.bipush 6, 2) := by decide +kernel
theorem dX11_isChunk_9 : decode cX11_isChunk 9 = .ok (.laload, 1) := by decide +kernel
theorem dX11_isChunk_10 : decode cX11_isChunk 10 = .ok (.lconst 1, 1) := by decide +kernel
theorem dX11_isChunk_11 : decode cX11_isChunk 11 = .ok (.lsub, 1) := by decide +kernel
theorem dX11_isChunk_12 : decode cX11_isChunk 12 = .ok (.invokestatic 206, 3) := by decide +kernel
theorem dX11_isChunk_15 : decode cX11_isChunk 15 = .ok (.ireturn, 1) := by decide +kernel
set_option maxRecDepth 20000 in
theorem ggX11_thoseWith_X11_isGood : GoodIn wsX11_thoseWith wsX11_isGood := goodIn_r _ [5, 6, 7, 4, 8, 9, 10, 11, 12] (by decide +kernel) (by decide +kernel)
set_option maxRecDepth 20000 in
theorem gX11_thoseWith_X11_isGood : GoodIn wsX11_thoseWith (va_wsS RX11 61 yX11_isGood wsX11_isGood) := goodIn_app (goodIn_of _ (by decide +kernel)) ggX11_thoseWith_X11_isGood
set_option maxRecDepth 20000 in
theorem ggX11_thoseWith_X11_isStale : GoodIn wsX11_thoseWith wsX11_isStale := goodIn_r _ [15, 6, 7, 4, 8, 2, 3, 5, 9, 10, 11, 12] (by decide +kernel) (by decide +kernel)
set_option maxRecDepth 20000 in
theorem gX11_thoseWith_X11_isStale : GoodIn wsX11_thoseWith (va_wsS RX11 318 yX11_isStale wsX11_isStale) := goodIn_app (goodIn_of _ (by decide +kernel)) ggX11_thoseWith_X11_isStale
theorem dX11_thoseWith_0 : decode cX11_thoseWith 0 = .ok (.iconst 0, 1) := by decide +kernel
theorem dX11_thoseWith_1 : decode cX11_thoseWith 1 = .ok (.istore_n 3, 1) := by decide +kernel
theorem dX11_thoseWith_2 : decode cX11_thoseWith 2 = .ok (.iconst 0, 1) := by decide +kernel
theorem dX11_thoseWith_3 : decode cX11_thoseWith 3 = .ok (.istore 4, 2) := by decide +kernel
theorem dX11_thoseWith_5 : decode cX11_thoseWith 5 = .ok (.iload 4, 2) := by decide +kernel
theorem dX11_thoseWith_7 : decode cX11_thoseWith 7 = .ok (.i2l, 1) := by decide +kernel
theorem dX11_thoseWith_8 : decode cX11_thoseWith 8 = .ok (.aload_n 0, 1) := by decide +kernel
theorem dX11_thoseWith_9 : decode cX11_thoseWith 9 = .ok (.getfield 7, 3) := by decide +kernel
theorem dX11_thoseWith_12 : decode cX11_thoseWith 12 = .ok (.iconst 0, 1) := by decide +kernel
theorem dX11_thoseWith_13 : decode cX11_thoseWith 13 = .ok (.laload, 1) := by decide +kernel
theorem dX11_thoseWith_14 : decode cX11_thoseWith 14 = .ok (.lcmp, 1) := by decide +kernel
theorem dX11_thoseWith_15 : decode cX11_thoseWith 15 = .ok (.ifCond .ge 53, 3) := by decide +kernel
theorem dX11_thoseWith_18 : decode cX11_thoseWith 18 = .ok (.iload_n 3, 1) := by decide +kernel
theorem dX11_thoseWith_19 : decode cX11_thoseWith 19 = .ok (.iload_n 2, 1) := by decide +kernel
theorem dX11_thoseWith_20 : decode cX11_thoseWith 20 = .ok (.ifCond .eq 19, 3) := by decide +kernel
theorem dX11_thoseWith_23 : decode cX11_thoseWith 23 = .ok (.aload_n 0, 1) := by decide +kernel
theorem dX11_thoseWith_24 : decode cX11_thoseWith 24 = .ok (.getfield 7, 3) := by decide +kernel
theorem dX11_thoseWith_27 : decode cX11_thoseWith 27 = .ok (.iload_n 1, 1) := by decide +kernel
theorem dX11_thoseWith_28 : decode cX11_thoseWith 28 = .ok (.iload 4, 2) := by decide +kernel
theorem dX11_thoseWith_30 : decode cX11_thoseWith 30 = .ok (.invokestatic 61, 3) := by decide +kernel
theorem dX11_thoseWith_33 : decode cX11_thoseWith 33 = .ok (.ifCond .eq 26, 3) := by decide +kernel
theorem dX11_thoseWith_36 : decode cX11_thoseWith 36 = .ok (.goto 16, 3) := by decide +kernel
theorem dX11_thoseWith_39 : decode cX11_thoseWith 39 = .ok (.aload_n 0, 1) := by decide +kernel
theorem dX11_thoseWith_40 : decode cX11_thoseWith 40 = .ok (.getfield 7, 3) := by decide +kernel
theorem dX11_thoseWith_43 : decode cX11_thoseWith 43 = .ok (.iload_n 1, 1) := by decide +kernel
theorem dX11_thoseWith_44 : decode cX11_thoseWith 44 = .ok (.iload 4, 2) := by decide +kernel
theorem dX11_thoseWith_46 : decode cX11_thoseWith 46 = .ok (.invokestatic 318, 3) := by decide +kernel
theorem dX11_thoseWith_49 : decode cX11_thoseWith 49 = .ok (.ifCond .eq 10, 3) := by decide +kernel
theorem dX11_thoseWith_52 : decode cX11_thoseWith 52 = .ok (.iconst 1, 1) := by decide +kernel
theorem dX11_thoseWith_53 : decode cX11_thoseWith 53 = .ok (.iload 4, 2) := by decide +kernel
theorem dX11_thoseWith_55 : decode cX11_thoseWith 55 = .ok (.ishl, 1) := by decide +kernel
theorem dX11_thoseWith_56 : decode cX11_thoseWith 56 = .ok (.goto 4, 3) := by decide +kernel
theorem dX11_thoseWith_59 : decode cX11_thoseWith 59 = .ok (.iconst 0, 1) := by decide +kernel
theorem dX11_thoseWith_60 : decode cX11_thoseWith 60 = .ok (.ior, 1) := by decide +kernel
theorem dX11_thoseWith_61 : decode cX11_thoseWith 61 = .ok (.istore_n 3, 1) := by decide +kernel
theorem dX11_thoseWith_62 : decode cX11_thoseWith 62 = .ok (.iinc 4 1, 3) := by decide +kernel
theorem dX11_thoseWith_65 : decode cX11_thoseWith 65 = .ok (.goto (-60), 3) := by decide +kernel
theorem dX11_thoseWith_68 : decode cX11_thoseWith 68 = .ok (.iload_n 3, 1) := by decide +kernel
theorem dX11_thoseWith_69 : decode cX11_thoseWith 69 = .ok (.ireturn, 1) := by decide +kernel
set_option maxRecDepth 20000 in
theorem ggX11_chunk_X11_isChunk : GoodIn wsX11_chunk wsX11_isChunk := goodIn_r _ [8, 2, 9, 10, 7, 11, 41, 42, 43, 44, 45, 46, 47, 48, 49, 50, 51, 52, 53, 54, 55, 56, 57] (by decide +kernel) (by decide +kernel)
set_option maxRecDepth 20000 in
theorem gX11_chunk_X11_isChunk : GoodIn wsX11_chunk (wsV RX11 326 RX11 yX11_isChunk wsX11_isChunk) := goodIn_app (goodIn_of _ (by decide +kernel)) ggX11_chunk_X11_isChunk
set_option maxRecDepth 20000 in
theorem ggX11_chunk_X11_holds : GoodIn wsX11_chunk wsX11_holds := goodIn_r _ [14, 15, 16, 7, 17, 18, 19, 20, 21, 22, 23, 24, 25, 26, 27, 28, 29, 30] (by decide +kernel) (by decide +kernel)
set_option maxRecDepth 20000 in
theorem gX11_chunk_X11_holds : GoodIn wsX11_chunk (va_wsS RX11 163 yX11_holds wsX11_holds) := goodIn_app (goodIn_of _ (by decide +kernel)) ggX11_chunk_X11_holds
set_option maxRecDepth 20000 in
theorem ggX11_chunk_X11_thoseWith : GoodIn wsX11_chunk wsX11_thoseWith := goodIn_r _ [34, 2, 21, 22, 7, 23, 24, 25, 26, 27, 28, 29, 30, 35, 36, 37, 41, 42, 43, 44, 45, 46, 47, 48, 49, 50, 51, 52, 53, 54, 55, 56, 57] (by decide +kernel) (by decide +kernel)
set_option maxRecDepth 20000 in
theorem gX11_chunk_X11_thoseWith : GoodIn wsX11_chunk (wsV RX11 329 RX11 yX11_thoseWith wsX11_thoseWith) := goodIn_app (goodIn_of _ (by decide +kernel)) ggX11_chunk_X11_thoseWith
set_option maxRecDepth 20000 in
theorem ggX11_chunk_X11_ables : GoodIn wsX11_chunk wsX11_ables := goodIn_r _ [40, 15, 16, 7, 17, 18, 19, 20, 21, 22, 23, 24, 25, 26, 27, 28, 29, 30] (by decide +kernel) (by decide +kernel)
set_option maxRecDepth 20000 in
theorem gX11_chunk_X11_ables : GoodIn wsX11_chunk (va_wsS RX11 124 yX11_ables wsX11_ables) := goodIn_app (goodIn_of _ (by decide +kernel)) ggX11_chunk_X11_ables
theorem dX11_chunk_0 : decode cX11_chunk 0 = .ok (.aload_n 0, 1) := by decide +kernel
theorem dX11_chunk_1 : decode cX11_chunk 1 = .ok (.iload_n 1, 1) := by decide +kernel
theorem dX11_chunk_2 : decode cX11_chunk 2 = .ok (.invokevirtual 326, 3) := by decide +kernel
theorem dX11_chunk_5 : decode cX11_chunk 5 = .ok (.ifCond .ne 6, 3) := by decide +kernel
theorem dX11_chunk_8 : decode cX11_chunk 8 = .ok (.ldc 235, 2) := by decide +kernel
theorem dX11_chunk_10 : decode cX11_chunk 10 = .ok (.ireturn, 1) := by decide +kernel
theorem dX11_chunk_11 : decode cX11_chunk 11 = .ok (.iload_n 2, 1) := by decide +kernel
theorem dX11_chunk_12 : decode cX11_chunk 12 = .ok (.tableswitch 159 0 6 #[44, 59, 74, 105, 136, 143, 150], 44) := by decide +kernel
theorem dX11_chunk_56 : decode cX11_chunk 56 = .ok (.aload_n 0, 1) := by decide +kernel
theorem dX11_chunk_57 : decode cX11_chunk 57 = .ok (.getfield 7, 3) := by decide +kernel
theorem dX11_chunk_60 : decode cX11_chunk 60 = .ok (.bipush 70, 2) := by decide +kernel
theorem dX11_chunk_62 : decode cX11_chunk 62 = .ok (.iconst 4, 1) := by decide +kernel
theorem dX11_chunk_63 : decode cX11_chunk 63 = .ok (.iload_n 1, 1) := by decide +kernel
theorem dX11_chunk_64 : decode cX11_chunk 64 = .ok (.imul, 1) := by decide +kernel
theorem dX11_chunk_65 : decode cX11_chunk 65 = .ok (.iadd, 1) := by decide +kernel
theorem dX11_chunk_66 : decode cX11_chunk 66 = .ok (.iconst 0, 1) := by decide +kernel
theorem dX11_chunk_67 : decode cX11_chunk 67 = .ok (.iadd, 1) := by decide +kernel
theorem dX11_chunk_68 : decode cX11_chunk 68 = .ok (.laload, 1) := by decide +kernel
theorem dX11_chunk_69 : decode cX11_chunk 69 = .ok (.l2i, 1) := by decide +kernel
theorem dX11_chunk_70 : decode cX11_chunk 70 = .ok (.ireturn, 1) := by decide +kernel
theorem dX11_chunk_71 : decode cX11_chunk 71 = .ok (.aload_n 0, 1) := by decide +kernel
theorem dX11_chunk_72 : decode cX11_chunk 72 = .ok (.getfield 7, 3) := by decide +kernel
theorem dX11_chunk_75 : decode cX11_chunk 75 = .ok (.bipush 70, 2) := by decide +kernel
theorem dX11_chunk_77 : decode cX11_chunk 77 = .ok (.iconst 4, 1) := by decide +kernel
theorem dX11_chunk_78 : decode cX11_chunk 78 = .ok (.iload_n 1, 1) := by decide +kernel
theorem dX11_chunk_79 : decode cX11_chunk 79 = .ok (.imul, 1) := by decide +kernel
theorem dX11_chunk_80 : decode cX11_chunk 80 = .ok (.iadd, 1) := by decide +kernel
theorem dX11_chunk_81 : decode cX11_chunk 81 = .ok (.iconst 1, 1) := by decide +kernel
theorem dX11_chunk_82 : decode cX11_chunk 82 = .ok (.iadd, 1) := by decide +kernel
theorem dX11_chunk_83 : decode cX11_chunk 83 = .ok (.laload, 1) := by decide +kernel
theorem dX11_chunk_84 : decode cX11_chunk 84 = .ok (.l2i, 1) := by decide +kernel
theorem dX11_chunk_85 : decode cX11_chunk 85 = .ok (.ireturn, 1) := by decide +kernel
theorem dX11_chunk_86 : decode cX11_chunk 86 = .ok (.aload_n 0, 1) := by decide +kernel
theorem dX11_chunk_87 : decode cX11_chunk 87 = .ok (.getfield 7, 3) := by decide +kernel
theorem dX11_chunk_90 : decode cX11_chunk 90 = .ok (.iload_n 1, 1) := by decide +kernel
theorem dX11_chunk_91 : decode cX11_chunk 91 = .ok (.invokestatic 163, 3) := by decide +kernel
theorem dX11_chunk_94 : decode cX11_chunk 94 = .ok (.ifCond .eq 20, 3) := by decide +kernel
theorem dX11_chunk_97 : decode cX11_chunk 97 = .ok (.aload_n 0, 1) := by decide +kernel
theorem dX11_chunk_98 : decode cX11_chunk 98 = .ok (.getfield 7, 3) := by decide +kernel
theorem dX11_chunk_101 : decode cX11_chunk 101 = .ok (.bipush 70, 2) := by decide +kernel
theorem dX11_chunk_103 : decode cX11_chunk 103 = .ok (.iconst 4, 1) := by decide +kernel
theorem dX11_chunk_104 : decode cX11_chunk 104 = .ok (.iload_n 1, 1) := by decide +kernel
theorem dX11_chunk_105 : decode cX11_chunk 105 = .ok (.imul, 1) := by decide +kernel
theorem dX11_chunk_106 : decode cX11_chunk 106 = .ok (.iadd, 1) := by decide +kernel
theorem dX11_chunk_107 : decode cX11_chunk 107 = .ok (.iconst 2, 1) := by decide +kernel
theorem dX11_chunk_108 : decode cX11_chunk 108 = .ok (.iadd, 1) := by decide +kernel
theorem dX11_chunk_109 : decode cX11_chunk 109 = .ok (.laload, 1) := by decide +kernel
theorem dX11_chunk_110 : decode cX11_chunk 110 = .ok (.l2i, 1) := by decide +kernel
theorem dX11_chunk_111 : decode cX11_chunk 111 = .ok (.goto 5, 3) := by decide +kernel
theorem dX11_chunk_114 : decode cX11_chunk 114 = .ok (.ldc 186, 2) := by decide +kernel
theorem dX11_chunk_116 : decode cX11_chunk 116 = .ok (.ireturn, 1) := by decide +kernel
theorem dX11_chunk_117 : decode cX11_chunk 117 = .ok (.aload_n 0, 1) := by decide +kernel
theorem dX11_chunk_118 : decode cX11_chunk 118 = .ok (.getfield 7, 3) := by decide +kernel
theorem dX11_chunk_121 : decode cX11_chunk 121 = .ok (.iload_n 1, 1) := by decide +kernel
theorem dX11_chunk_122 : decode cX11_chunk 122 = .ok (.invokestatic 163, 3) := by decide +kernel
theorem dX11_chunk_125 : decode cX11_chunk 125 = .ok (.ifCond .eq 20, 3) := by decide +kernel
theorem dX11_chunk_128 : decode cX11_chunk 128 = .ok (.aload_n 0, 1) := by decide +kernel
theorem dX11_chunk_129 : decode cX11_chunk 129 = .ok (.getfield 7, 3) := by decide +kernel
theorem dX11_chunk_132 : decode cX11_chunk 132 = .ok (.bipush 70, 2) := by decide +kernel
theorem dX11_chunk_134 : decode cX11_chunk 134 = .ok (.iconst 4, 1) := by decide +kernel
theorem dX11_chunk_135 : decode cX11_chunk 135 = .ok (.iload_n 1, 1) := by decide +kernel
theorem dX11_chunk_136 : decode cX11_chunk 136 = .ok (.imul, 1) := by decide +kernel
theorem dX11_chunk_137 : decode cX11_chunk 137 = .ok (.iadd, 1) := by decide +kernel
theorem dX11_chunk_138 : decode cX11_chunk 138 = .ok (.iconst 3, 1) := by decide +kernel
theorem dX11_chunk_139 : decode cX11_chunk 139 = .ok (.iadd, 1) := by decide +kernel
theorem dX11_chunk_140 : decode cX11_chunk 140 = .ok (.laload, 1) := by decide +kernel
theorem dX11_chunk_141 : decode cX11_chunk 141 = .ok (.l2i, 1) := by decide +kernel
theorem dX11_chunk_142 : decode cX11_chunk 142 = .ok (.goto 5, 3) := by decide +kernel
theorem dX11_chunk_145 : decode cX11_chunk 145 = .ok (.ldc 186, 2) := by decide +kernel
theorem dX11_chunk_147 : decode cX11_chunk 147 = .ok (.ireturn, 1) := by decide +kernel
theorem dX11_chunk_148 : decode cX11_chunk 148 = .ok (.aload_n 0, 1) := by decide +kernel
theorem dX11_chunk_149 : decode cX11_chunk 149 = .ok (.iload_n 1, 1) := by decide +kernel
theorem dX11_chunk_150 : decode cX11_chunk 150 = .ok (.iconst 1, 1) := by decide +kernel
theorem dX11_chunk_151 : decode cX11_chunk 151 = .ok (.invokevirtual 329, 3) := by decide +kernel
theorem dX11_chunk_154 : decode cX11_chunk 154 = .ok (.ireturn, 1) := by decide +kernel
theorem dX11_chunk_155 : decode cX11_chunk 155 = .ok (.aload_n 0, 1) := by decide +kernel
theorem dX11_chunk_156 : decode cX11_chunk 156 = .ok (.iload_n 1, 1) := by decide +kernel
theorem dX11_chunk_157 : decode cX11_chunk 157 = .ok (.iconst 0, 1) := by decide +kernel
theorem dX11_chunk_158 : decode cX11_chunk 158 = .ok (.invokevirtual 329, 3) := by decide +kernel
theorem dX11_chunk_161 : decode cX11_chunk 161 = .ok (.ireturn, 1) := by decide +kernel
theorem dX11_chunk_162 : decode cX11_chunk 162 = .ok (.aload_n 0, 1) := by decide +kernel
theorem dX11_chunk_163 : decode cX11_chunk 163 = .ok (.getfield 7, 3) := by decide +kernel
theorem dX11_chunk_166 : decode cX11_chunk 166 = .ok (.iload_n 1, 1) := by decide +kernel
theorem dX11_chunk_167 : decode cX11_chunk 167 = .ok (.invokestatic 124, 3) := by decide +kernel
theorem dX11_chunk_170 : decode cX11_chunk 170 = .ok (.ireturn, 1) := by decide +kernel
theorem dX11_chunk_171 : decode cX11_chunk 171 = .ok (.ldc 235, 2) := by decide +kernel
theorem dX11_chunk_173 : decode cX11_chunk 173 = .ok (.ireturn, 1) := by decide +kernel
set_option maxRecDepth 20000 in
theorem ggX11_file_X11_isHouse : GoodIn wsX11_file wsX11_isHouse := goodIn_r _ [11, 3, 25, 26, 27, 28, 29, 30, 31, 32, 33, 34, 35, 36, 37, 38, 39, 40, 41] (by decide +kernel) (by decide +kernel)
set_option maxRecDepth 20000 in
theorem gX11_file_X11_isHouse : GoodIn wsX11_file (wsV RX11 262 RX11 yX11_isHouse wsX11_isHouse) := goodIn_app (goodIn_of _ (by decide +kernel)) ggX11_file_X11_isHouse
set_option maxRecDepth 20000 in
theorem ggX11_file_X11_isFile : GoodIn wsX11_file wsX11_isFile := goodIn_r _ [14, 15, 16, 17, 10, 18] (by decide +kernel) (by decide +kernel)
set_option maxRecDepth 20000 in
theorem gX11_file_X11_isFile : GoodIn wsX11_file (va_wsS RX11 266 yX11_isFile wsX11_isFile) := goodIn_app (goodIn_of _ (by decide +kernel)) ggX11_file_X11_isFile
set_option maxRecDepth 20000 in
theorem ggX11_file_X11_many : GoodIn wsX11_file wsX11_many := goodIn_r _ [21] (by decide +kernel) (by decide +kernel)
set_option maxRecDepth 20000 in
theorem gX11_file_X11_many : GoodIn wsX11_file (va_wsS RX11 90 yX11_many wsX11_many) := goodIn_app (goodIn_of _ (by decide +kernel)) ggX11_file_X11_many
set_option maxRecDepth 20000 in
theorem ggX11_file_X11_in : GoodIn wsX11_file wsX11_in := goodIn_r _ [18] (by decide +kernel) (by decide +kernel)
set_option maxRecDepth 20000 in
theorem gX11_file_X11_in : GoodIn wsX11_file (va_wsS RX11 206 yX11_in wsX11_in) := goodIn_app (goodIn_of _ (by decide +kernel)) ggX11_file_X11_in
set_option maxRecDepth 20000 in
theorem ggX11_file_X11_chunkOf : GoodIn wsX11_file wsX11_chunkOf := goodIn_r _ [24] (by decide +kernel) (by decide +kernel)
set_option maxRecDepth 20000 in
theorem gX11_file_X11_chunkOf : GoodIn wsX11_file (va_wsS RX11 93 yX11_chunkOf wsX11_chunkOf) := goodIn_app (goodIn_of _ (by decide +kernel)) ggX11_file_X11_chunkOf
theorem dX11_file_0 : decode cX11_file 0 = .ok (.aload_n 0, 1) := by decide +kernel
theorem dX11_file_1 : decode cX11_file 1 = .ok (.invokevirtual 262, 3) := by decide +kernel
theorem dX11_file_4 : decode cX11_file 4 = .ok (.ifCond .ne 7, 3) := by decide +kernel
theorem dX11_file_7 : decode cX11_file 7 = .ok (.ldc_w 261, 3) := by decide +kernel
theorem dX11_file_10 : decode cX11_file 10 = .ok (.ireturn, 1) := by decide +kernel
theorem dX11_file_11 : decode cX11_file 11 = .ok (.iload_n 1, 1) := by decide +kernel
theorem dX11_file_12 : decode cX11_file 12 = .ok (.invokestatic 266, 3) := by decide +kernel
theorem dX11_file_15 : decode cX11_file 15 = .ok (.ifCond .ne 6, 3) := by decide +kernel
theorem dX11_file_18 : decode cX11_file 18 = .ok (.ldc 235, 2) := by decide +kernel
theorem dX11_file_20 : decode cX11_file 20 = .ok (.ireturn, 1) := by decide +kernel
theorem dX11_file_21 : decode cX11_file 21 = .ok (.aload_n 0, 1) := by decide +kernel
theorem dX11_file_22 : decode cX11_file 22 = .ok (.getfield 7, 3) := by decide +kernel
theorem dX11_file_25 : decode cX11_file 25 = .ok (.bipush 22, 2) := by decide +kernel
theorem dX11_file_27 : decode cX11_file 27 = .ok (.bipush 8, 2) := by decide +kernel
theorem dX11_file_29 : decode cX11_file 29 = .ok (.iload_n 1, 1) := by decide +kernel
theorem dX11_file_30 : decode cX11_file 30 = .ok (.imul, 1) := by decide +kernel
theorem dX11_file_31 : decode cX11_file 31 = .ok (.iadd, 1) := by decide +kernel
theorem dX11_file_32 : decode cX11_file 32 = .ok (.iconst 0, 1) := by decide +kernel
theorem dX11_file_33 : decode cX11_file 33 = .ok (.iadd, 1) := by decide +kernel
theorem dX11_file_34 : decode cX11_file 34 = .ok (.laload, 1) := by decide +kernel
theorem dX11_file_35 : decode cX11_file 35 = .ok (.l2i, 1) := by decide +kernel
theorem dX11_file_36 : decode cX11_file 36 = .ok (.istore_n 3, 1) := by decide +kernel
theorem dX11_file_37 : decode cX11_file 37 = .ok (.iload_n 2, 1) := by decide +kernel
theorem dX11_file_38 : decode cX11_file 38 = .ok (.tableswitch 92 0 3 #[30, 32, 57, 66], 30) := by decide +kernel
theorem dX11_file_68 : decode cX11_file 68 = .ok (.iload_n 3, 1) := by decide +kernel
theorem dX11_file_69 : decode cX11_file 69 = .ok (.ireturn, 1) := by decide +kernel
theorem dX11_file_70 : decode cX11_file 70 = .ok (.iload_n 3, 1) := by decide +kernel
theorem dX11_file_71 : decode cX11_file 71 = .ok (.ifCond .ne 8, 3) := by decide +kernel
theorem dX11_file_74 : decode cX11_file 74 = .ok (.ldc 186, 2) := by decide +kernel
theorem dX11_file_76 : decode cX11_file 76 = .ok (.goto 18, 3) := by decide +kernel
theorem dX11_file_79 : decode cX11_file 79 = .ok (.aload_n 0, 1) := by decide +kernel
theorem dX11_file_80 : decode cX11_file 80 = .ok (.getfield 7, 3) := by decide +kernel
theorem dX11_file_83 : decode cX11_file 83 = .ok (.bipush 22, 2) := by decide +kernel
theorem dX11_file_85 : decode cX11_file 85 = .ok (.bipush 8, 2) := by decide +kernel
theorem dX11_file_87 : decode cX11_file 87 = .ok (.iload_n 1, 1) := by decide +kernel
theorem dX11_file_88 : decode cX11_file 88 = .ok (.imul, 1) := by decide +kernel
theorem dX11_file_89 : decode cX11_file 89 = .ok (.iadd, 1) := by decide +kernel
theorem dX11_file_90 : decode cX11_file 90 = .ok (.iconst 1, 1) := by decide +kernel
theorem dX11_file_91 : decode cX11_file 91 = .ok (.iadd, 1) := by decide +kernel
theorem dX11_file_92 : decode cX11_file 92 = .ok (.laload, 1) := by decide +kernel
theorem dX11_file_93 : decode cX11_file 93 = .ok (.l2i, 1) := by decide +kernel
theorem dX11_file_94 : decode cX11_file 94 = .ok (.ireturn, 1) := by decide +kernel
theorem dX11_file_95 : decode cX11_file 95 = .ok (.aload_n 0, 1) := by decide +kernel
theorem dX11_file_96 : decode cX11_file 96 = .ok (.getfield 7, 3) := by decide +kernel
theorem dX11_file_99 : decode cX11_file 99 = .ok (.iload_n 1, 1) := by decide +kernel
theorem dX11_file_100 : decode cX11_file 100 = .ok (.invokestatic 90, 3) := by decide +kernel
theorem dX11_file_103 : decode cX11_file 103 = .ok (.ireturn, 1) := by decide +kernel
theorem dX11_file_104 : decode cX11_file 104 = .ok (.iload_n 3, 1) := by decide +kernel
theorem dX11_file_105 : decode cX11_file 105 = .ok (.iconst 2, 1) := by decide +kernel
theorem dX11_file_106 : decode cX11_file 106 = .ok (.if_icmp .ne 21, 3) := by decide +kernel
theorem dX11_file_109 : decode cX11_file 109 = .ok (.aload_n 0, 1) := by decide +kernel
theorem dX11_file_110 : decode cX11_file 110 = .ok (.getfield 7, 3) := by decide +kernel
theorem dX11_file_113 : decode cX11_file 113 = .ok (.bipush 22, 2) := by decide +kernel
theorem dX11_file_115 : decode cX11_file 115 = .ok (.bipush 8, 2) := by decide +kernel
theorem dX11_file_117 : decode cX11_file 117 = .ok (.iload_n 1, 1) := by decide +kernel
theorem dX11_file_118 : decode cX11_file 118 = .ok (.imul, 1) := by decide +kernel
theorem dX11_file_119 : decode cX11_file 119 = .ok (.iadd, 1) := by decide +kernel
theorem dX11_file_120 : decode cX11_file 120 = .ok (.iconst 3, 1) := by decide +kernel
theorem dX11_file_121 : decode cX11_file 121 = .ok (.iadd, 1) := by decide +kernel
theorem dX11_file_122 : decode cX11_file 122 = .ok (.laload, 1) := by decide +kernel
theorem dX11_file_123 : decode cX11_file 123 = .ok (.l2i, 1) := by decide +kernel
theorem dX11_file_124 : decode cX11_file 124 = .ok (.goto 5, 3) := by decide +kernel
theorem dX11_file_127 : decode cX11_file 127 = .ok (.ldc 186, 2) := by decide +kernel
theorem dX11_file_129 : decode cX11_file 129 = .ok (.ireturn, 1) := by decide +kernel
theorem dX11_file_130 : decode cX11_file 130 = .ok (.iload_n 2, 1) := by decide +kernel
theorem dX11_file_131 : decode cX11_file 131 = .ok (.i2l, 1) := by decide +kernel
theorem dX11_file_132 : decode cX11_file 132 = .ok (.ldc2_w 332, 3) := by decide +kernel
theorem dX11_file_135 : decode cX11_file 135 = .ok (.ldc2_w 334, 3) := by decide +kernel
theorem dX11_file_138 : decode cX11_file 138 = .ok (.invokestatic 206, 3) := by decide +kernel
theorem dX11_file_141 : decode cX11_file 141 = .ok (.ifCond .ne 8, 3) := by decide +kernel
theorem dX11_file_144 : decode cX11_file 144 = .ok (.ldc 235, 2) := by decide +kernel
theorem dX11_file_146 : decode cX11_file 146 = .ok (.goto 35, 3) := by decide +kernel
theorem dX11_file_149 : decode cX11_file 149 = .ok (.iload_n 2, 1) := by decide +kernel
theorem dX11_file_150 : decode cX11_file 150 = .ok (.bipush 10, 2) := by decide +kernel
theorem dX11_file_152 : decode cX11_file 152 = .ok (.isub, 1) := by decide +kernel
theorem dX11_file_153 : decode cX11_file 153 = .ok (.aload_n 0, 1) := by decide +kernel
theorem dX11_file_154 : decode cX11_file 154 = .ok (.getfield 7, 3) := by decide +kernel
theorem dX11_file_157 : decode cX11_file 157 = .ok (.iload_n 1, 1) := by decide +kernel
theorem dX11_file_158 : decode cX11_file 158 = .ok (.invokestatic 90, 3) := by decide +kernel
theorem dX11_file_161 : decode cX11_file 161 = .ok (.if_icmp .ge 18, 3) := by decide +kernel
theorem dX11_file_164 : decode cX11_file 164 = .ok (.aload_n 0, 1) := by decide +kernel
theorem dX11_file_165 : decode cX11_file 165 = .ok (.getfield 7, 3) := by decide +kernel
theorem dX11_file_168 : decode cX11_file 168 = .ok (.iload_n 1, 1) := by decide +kernel
theorem dX11_file_169 : decode cX11_file 169 = .ok (.iload_n 2, 1) := by decide +kernel
theorem dX11_file_170 : decode cX11_file 170 = .ok (.bipush 10, 2) := by decide +kernel
theorem dX11_file_172 : decode cX11_file 172 = .ok (.isub, 1) := by decide +kernel
theorem dX11_file_173 : decode cX11_file 173 = .ok (.invokestatic 93, 3) := by decide +kernel
theorem dX11_file_176 : decode cX11_file 176 = .ok (.goto 5, 3) := by decide +kernel
theorem dX11_file_179 : decode cX11_file 179 = .ok (.ldc 186, 2) := by decide +kernel
theorem dX11_file_181 : decode cX11_file 181 = .ok (.ireturn, 1) := by decide +kernel
theorem dX11_told_0 : decode cX11_told 0 = .ok (.iload_n 0, 1) := by decide +kernel
theorem dX11_told_1 : decode cX11_told 1 = .ok (.ifCond .ne 8, 3) := by decide +kernel
theorem dX11_told_4 : decode cX11_told 4 = .ok (.ldc 186, 2) := by decide +kernel
theorem dX11_told_6 : decode cX11_told 6 = .ok (.goto 17, 3) := by decide +kernel
theorem dX11_told_9 : decode cX11_told 9 = .ok (.iload_n 0, 1) := by decide +kernel
theorem dX11_told_10 : decode cX11_told 10 = .ok (.bipush 27, 2) := by decide +kernel
theorem dX11_told_12 : decode cX11_told 12 = .ok (.if_icmp .ne 7, 3) := by decide +kernel
theorem dX11_told_15 : decode cX11_told 15 = .ok (.iconst 0, 1) := by decide +kernel
theorem dX11_told_16 : decode cX11_told 16 = .ok (.goto 7, 3) := by decide +kernel
theorem dX11_told_19 : decode cX11_told 19 = .ok (.iload_n 0, 1) := by decide +kernel
theorem dX11_told_20 : decode cX11_told 20 = .ok (.bipush 96, 2) := by decide +kernel
theorem dX11_told_22 : decode cX11_told 22 = .ok (.iadd, 1) := by decide +kernel
theorem dX11_told_23 : decode cX11_told 23 = .ok (.ireturn, 1) := by decide +kernel
set_option maxRecDepth 20000 in
theorem ggX11_part_X11_isServer : GoodIn wsX11_part wsX11_isServer := goodIn_r _ [10, 3, 11, 12, 9, 13, 36, 37, 38, 39, 40, 41, 42, 43, 44, 45, 46, 47, 48, 49, 50, 51, 52] (by decide +kernel) (by decide +kernel)
set_option maxRecDepth 20000 in
theorem gX11_part_X11_isServer : GoodIn wsX11_part (wsV RX11 303 RX11 yX11_isServer wsX11_isServer) := goodIn_app (goodIn_of _ (by decide +kernel)) ggX11_part_X11_isServer
set_option maxRecDepth 20000 in
theorem ggX11_part_X11_isChunk : GoodIn wsX11_part wsX11_isChunk := goodIn_r _ [17, 3, 11, 12, 9, 13, 36, 37, 38, 39, 40, 41, 42, 43, 44, 45, 46, 47, 48, 49, 50, 51, 52] (by decide +kernel) (by decide +kernel)
set_option maxRecDepth 20000 in
theorem gX11_part_X11_isChunk : GoodIn wsX11_part (wsV RX11 326 RX11 yX11_isChunk wsX11_isChunk) := goodIn_app (goodIn_of _ (by decide +kernel)) ggX11_part_X11_isChunk
set_option maxRecDepth 20000 in
theorem ggX11_part_X11_in : GoodIn wsX11_part wsX11_in := goodIn_r _ [13] (by decide +kernel) (by decide +kernel)
set_option maxRecDepth 20000 in
theorem gX11_part_X11_in : GoodIn wsX11_part (va_wsS RX11 206 yX11_in wsX11_in) := goodIn_app (goodIn_of _ (by decide +kernel)) ggX11_part_X11_in
set_option maxRecDepth 20000 in
theorem ggX11_part_X11_copy : GoodIn wsX11_part wsX11_copy := goodIn_r _ [20] (by decide +kernel) (by decide +kernel)
set_option maxRecDepth 20000 in
theorem gX11_part_X11_copy : GoodIn wsX11_part (va_wsS RX11 53 yX11_copy wsX11_copy) := goodIn_app (goodIn_of _ (by decide +kernel)) ggX11_part_X11_copy
set_option maxRecDepth 20000 in
theorem ggX11_part_X11_version : GoodIn wsX11_part wsX11_version := goodIn_r _ [23, 24] (by decide +kernel) (by decide +kernel)
set_option maxRecDepth 20000 in
theorem gX11_part_X11_version : GoodIn wsX11_part (va_wsS RX11 57 yX11_version wsX11_version) := goodIn_app (goodIn_of _ (by decide +kernel)) ggX11_part_X11_version
set_option maxRecDepth 20000 in
theorem ggX11_part_X11_filled : GoodIn wsX11_part wsX11_filled := goodIn_r _ [27, 28] (by decide +kernel) (by decide +kernel)
set_option maxRecDepth 20000 in
theorem gX11_part_X11_filled : GoodIn wsX11_part (va_wsS RX11 127 yX11_filled wsX11_filled) := goodIn_app (goodIn_of _ (by decide +kernel)) ggX11_part_X11_filled
set_option maxRecDepth 20000 in
theorem ggX11_part_X11_cell : GoodIn wsX11_part wsX11_cell := goodIn_r _ [31, 32] (by decide +kernel) (by decide +kernel)
set_option maxRecDepth 20000 in
theorem gX11_part_X11_cell : GoodIn wsX11_part (va_wsS RX11 133 yX11_cell wsX11_cell) := goodIn_app (goodIn_of _ (by decide +kernel)) ggX11_part_X11_cell
set_option maxRecDepth 20000 in
theorem ggX11_part_X11_told : GoodIn wsX11_part wsX11_told := goodIn_r _ [35, 5] (by decide +kernel) (by decide +kernel)
set_option maxRecDepth 20000 in
theorem gX11_part_X11_told : GoodIn wsX11_part (va_wsS RX11 336 yX11_told wsX11_told) := goodIn_app (goodIn_of _ (by decide +kernel)) ggX11_part_X11_told
theorem dX11_part_0 : decode cX11_part 0 = .ok (.aload_n 0, 1) := by decide +kernel
theorem dX11_part_1 : decode cX11_part 1 = .ok (.iload_n 1, 1) := by decide +kernel
theorem dX11_part_2 : decode cX11_part 2 = .ok (.invokevirtual 303, 3) := by decide +kernel
theorem dX11_part_5 : decode cX11_part 5 = .ok (.ifCond .eq 42, 3) := by decide +kernel
theorem dX11_part_8 : decode cX11_part 8 = .ok (.aload_n 0, 1) := by decide +kernel
theorem dX11_part_9 : decode cX11_part 9 = .ok (.iload_n 2, 1) := by decide +kernel
theorem dX11_part_10 : decode cX11_part 10 = .ok (.invokevirtual 326, 3) := by decide +kernel
theorem dX11_part_13 : decode cX11_part 13 = .ok (.ifCond .eq 34, 3) := by decide +kernel
theorem dX11_part_16 : decode cX11_part 16 = .ok (.iload_n 3, 1) := by decide +kernel
theorem dX11_part_17 : decode cX11_part 17 = .ok (.i2l, 1) := by decide +kernel
theorem dX11_part_18 : decode cX11_part 18 = .ok (.lconst 0, 1) := by decide +kernel
theorem dX11_part_19 : decode cX11_part 19 = .ok (.lconst 1, 1) := by decide +kernel
theorem dX11_part_20 : decode cX11_part 20 = .ok (.invokestatic 206, 3) := by decide +kernel
theorem dX11_part_23 : decode cX11_part 23 = .ok (.ifCond .ne 27, 3) := by decide +kernel
theorem dX11_part_26 : decode cX11_part 26 = .ok (.iload_n 3, 1) := by decide +kernel
theorem dX11_part_27 : decode cX11_part 27 = .ok (.i2l, 1) := by decide +kernel
theorem dX11_part_28 : decode cX11_part 28 = .ok (.ldc2_w 332, 3) := by decide +kernel
theorem dX11_part_31 : decode cX11_part 31 = .ok (.ldc2_w 310, 3) := by decide +kernel
theorem dX11_part_34 : decode cX11_part 34 = .ok (.aload_n 0, 1) := by decide +kernel
theorem dX11_part_35 : decode cX11_part 35 = .ok (.getfield 7, 3) := by decide +kernel
theorem dX11_part_38 : decode cX11_part 38 = .ok (.iconst 2, 1) := by decide +kernel
theorem dX11_part_39 : decode cX11_part 39 = .ok (.laload, 1) := by decide +kernel
theorem dX11_part_40 : decode cX11_part 40 = .ok (.ladd, 1) := by decide +kernel
theorem dX11_part_41 : decode cX11_part 41 = .ok (.invokestatic 206, 3) := by decide +kernel
theorem dX11_part_44 : decode cX11_part 44 = .ok (.ifCond .ne 6, 3) := by decide +kernel
theorem dX11_part_47 : decode cX11_part 47 = .ok (.ldc 235, 2) := by decide +kernel
theorem dX11_part_49 : decode cX11_part 49 = .ok (.ireturn, 1) := by decide +kernel
theorem dX11_part_50 : decode cX11_part 50 = .ok (.aload_n 0, 1) := by decide +kernel
theorem dX11_part_51 : decode cX11_part 51 = .ok (.getfield 7, 3) := by decide +kernel
theorem dX11_part_54 : decode cX11_part 54 = .ok (.iload_n 2, 1) := by decide +kernel
theorem dX11_part_55 : decode cX11_part 55 = .ok (.iload_n 1, 1) := by decide +kernel
theorem dX11_part_56 : decode cX11_part 56 = .ok (.invokestatic 53, 3) := by decide +kernel
theorem dX11_part_59 : decode cX11_part 59 = .ok (.lstore 4, 2) := by decide +kernel
theorem dX11_part_61 : decode cX11_part 61 = .ok (.lload 4, 2) := by decide +kernel
theorem dX11_part_63 : decode cX11_part 63 = .ok (.lconst 0, 1) := by decide +kernel
theorem dX11_part_64 : decode cX11_part 64 = .ok (.lcmp, 1) := by decide +kernel
theorem dX11_part_65 : decode cX11_part 65 = .ok (.ifCond .ne 6, 3) := by decide +kernel
theorem dX11_part_68 : decode cX11_part 68 = .ok (.ldc 186, 2) := by decide +kernel
theorem dX11_part_70 : decode cX11_part 70 = .ok (.ireturn, 1) := by decide +kernel
theorem dX11_part_71 : decode cX11_part 71 = .ok (.iload_n 3, 1) := by decide +kernel
theorem dX11_part_72 : decode cX11_part 72 = .ok (.ifCond .ne 11, 3) := by decide +kernel
theorem dX11_part_75 : decode cX11_part 75 = .ok (.lload 4, 2) := by decide +kernel
theorem dX11_part_77 : decode cX11_part 77 = .ok (.invokestatic 57, 3) := by decide +kernel
theorem dX11_part_80 : decode cX11_part 80 = .ok (.goto 28, 3) := by decide +kernel
theorem dX11_part_83 : decode cX11_part 83 = .ok (.iload_n 3, 1) := by decide +kernel
theorem dX11_part_84 : decode cX11_part 84 = .ok (.iconst 1, 1) := by decide +kernel
theorem dX11_part_85 : decode cX11_part 85 = .ok (.if_icmp .ne 11, 3) := by decide +kernel
theorem dX11_part_88 : decode cX11_part 88 = .ok (.lload 4, 2) := by decide +kernel
theorem dX11_part_90 : decode cX11_part 90 = .ok (.invokestatic 127, 3) := by decide +kernel
theorem dX11_part_93 : decode cX11_part 93 = .ok (.goto 15, 3) := by decide +kernel
theorem dX11_part_96 : decode cX11_part 96 = .ok (.lload 4, 2) := by decide +kernel
theorem dX11_part_98 : decode cX11_part 98 = .ok (.iload_n 3, 1) := by decide +kernel
theorem dX11_part_99 : decode cX11_part 99 = .ok (.bipush 10, 2) := by decide +kernel
theorem dX11_part_101 : decode cX11_part 101 = .ok (.isub, 1) := by decide +kernel
theorem dX11_part_102 : decode cX11_part 102 = .ok (.invokestatic 133, 3) := by decide +kernel
theorem dX11_part_105 : decode cX11_part 105 = .ok (.invokestatic 336, 3) := by decide +kernel
theorem dX11_part_108 : decode cX11_part 108 = .ok (.ireturn, 1) := by decide +kernel
set_option maxRecDepth 20000 in
theorem ggX11_read_X11_isHouse : GoodIn wsX11_read wsX11_isHouse := goodIn_r _ [11, 3, 57, 58, 59, 60, 61, 62, 63, 64, 65, 66, 67, 68, 69, 70, 71, 72, 73] (by decide +kernel) (by decide +kernel)
set_option maxRecDepth 20000 in
theorem gX11_read_X11_isHouse : GoodIn wsX11_read (wsV RX11 262 RX11 yX11_isHouse wsX11_isHouse) := goodIn_app (goodIn_of _ (by decide +kernel)) ggX11_read_X11_isHouse
set_option maxRecDepth 20000 in
theorem ggX11_read_X11_isFile : GoodIn wsX11_read wsX11_isFile := goodIn_r _ [14, 15, 16, 17, 10, 18] (by decide +kernel) (by decide +kernel)
set_option maxRecDepth 20000 in
theorem gX11_read_X11_isFile : GoodIn wsX11_read (va_wsS RX11 266 yX11_isFile wsX11_isFile) := goodIn_app (goodIn_of _ (by decide +kernel)) ggX11_read_X11_isFile
set_option maxRecDepth 20000 in
theorem ggX11_read_X11_isServer : GoodIn wsX11_read wsX11_isServer := goodIn_r _ [22, 3, 16, 17, 10, 18, 57, 58, 59, 60, 61, 62, 63, 64, 65, 66, 67, 68, 69, 70, 71, 72, 73] (by decide +kernel) (by decide +kernel)
set_option maxRecDepth 20000 in
theorem gX11_read_X11_isServer : GoodIn wsX11_read (wsV RX11 303 RX11 yX11_isServer wsX11_isServer) := goodIn_app (goodIn_of _ (by decide +kernel)) ggX11_read_X11_isServer
set_option maxRecDepth 20000 in
theorem ggX11_read_X11_isThere : GoodIn wsX11_read wsX11_isThere := goodIn_r _ [26, 3, 57, 58, 59, 60, 61, 62, 63, 64, 65, 66, 67, 68, 69, 70, 71, 72, 73] (by decide +kernel) (by decide +kernel)
set_option maxRecDepth 20000 in
theorem gX11_read_X11_isThere : GoodIn wsX11_read (wsV RX11 278 RX11 yX11_isThere wsX11_isThere) := goodIn_app (goodIn_of _ (by decide +kernel)) ggX11_read_X11_isThere
set_option maxRecDepth 20000 in
theorem ggX11_read_X11_isCell : GoodIn wsX11_read wsX11_isCell := goodIn_r _ [30, 3, 31, 32, 10, 33, 16, 17, 18, 57, 58, 59, 60, 61, 62, 63, 64, 65, 66, 67, 68, 69, 70, 71, 72, 73] (by decide +kernel) (by decide +kernel)
set_option maxRecDepth 20000 in
theorem gX11_read_X11_isCell : GoodIn wsX11_read (wsV RX11 286 RX11 yX11_isCell wsX11_isCell) := goodIn_app (goodIn_of _ (by decide +kernel)) ggX11_read_X11_isCell
set_option maxRecDepth 20000 in
theorem ggX11_read_X11_chunkOf : GoodIn wsX11_read wsX11_chunkOf := goodIn_r _ [36] (by decide +kernel) (by decide +kernel)
set_option maxRecDepth 20000 in
theorem gX11_read_X11_chunkOf : GoodIn wsX11_read (va_wsS RX11 93 yX11_chunkOf wsX11_chunkOf) := goodIn_app (goodIn_of _ (by decide +kernel)) ggX11_read_X11_chunkOf
set_option maxRecDepth 20000 in
theorem ggX11_read_X11_isUp : GoodIn wsX11_read wsX11_isUp := goodIn_r _ [39] (by decide +kernel) (by decide +kernel)
set_option maxRecDepth 20000 in
theorem gX11_read_X11_isUp : GoodIn wsX11_read (va_wsS RX11 65 yX11_isUp wsX11_isUp) := goodIn_app (goodIn_of _ (by decide +kernel)) ggX11_read_X11_isUp
set_option maxRecDepth 20000 in
theorem ggX11_read_X11_copy : GoodIn wsX11_read wsX11_copy := goodIn_r _ [42] (by decide +kernel) (by decide +kernel)
set_option maxRecDepth 20000 in
theorem gX11_read_X11_copy : GoodIn wsX11_read (va_wsS RX11 53 yX11_copy wsX11_copy) := goodIn_app (goodIn_of _ (by decide +kernel)) ggX11_read_X11_copy
set_option maxRecDepth 20000 in
theorem ggX11_read_X11_isGood : GoodIn wsX11_read wsX11_isGood := goodIn_r _ [45, 40, 41, 10, 42, 46, 47, 48, 49] (by decide +kernel) (by decide +kernel)
set_option maxRecDepth 20000 in
theorem gX11_read_X11_isGood : GoodIn wsX11_read (va_wsS RX11 61 yX11_isGood wsX11_isGood) := goodIn_app (goodIn_of _ (by decide +kernel)) ggX11_read_X11_isGood
set_option maxRecDepth 20000 in
theorem ggX11_read_X11_cell : GoodIn wsX11_read wsX11_cell := goodIn_r _ [52, 53] (by decide +kernel) (by decide +kernel)
set_option maxRecDepth 20000 in
theorem gX11_read_X11_cell : GoodIn wsX11_read (va_wsS RX11 133 yX11_cell wsX11_cell) := goodIn_app (goodIn_of _ (by decide +kernel)) ggX11_read_X11_cell
set_option maxRecDepth 20000 in
theorem ggX11_read_X11_told : GoodIn wsX11_read wsX11_told := goodIn_r _ [56, 5] (by decide +kernel) (by decide +kernel)
set_option maxRecDepth 20000 in
theorem gX11_read_X11_told : GoodIn wsX11_read (va_wsS RX11 336 yX11_told wsX11_told) := goodIn_app (goodIn_of _ (by decide +kernel)) ggX11_read_X11_told
theorem dX11_read_0 : decode cX11_read 0 = .ok (.aload_n 0, 1) := by decide +kernel
theorem dX11_read_1 : decode cX11_read 1 = .ok (.invokevirtual 262, 3) := by decide +kernel
theorem dX11_read_4 : decode cX11_read 4 = .ok (.ifCond .ne 7, 3) := by decide +kernel
theorem dX11_read_7 : decode cX11_read 7 = .ok (.ldc_w 261, 3) := by decide +kernel
theorem dX11_read_10 : decode cX11_read 10 = .ok (.ireturn, 1) := by decide +kernel
theorem dX11_read_11 : decode cX11_read 11 = .ok (.iload_n 1, 1) := by decide +kernel
theorem dX11_read_12 : decode cX11_read 12 = .ok (.invokestatic 266, 3) := by decide +kernel
theorem dX11_read_15 : decode cX11_read 15 = .ok (.ifCond .eq 11, 3) := by decide +kernel
theorem dX11_read_18 : decode cX11_read 18 = .ok (.aload_n 0, 1) := by decide +kernel
theorem dX11_read_19 : decode cX11_read 19 = .ok (.iload_n 3, 1) := by decide +kernel
theorem dX11_read_20 : decode cX11_read 20 = .ok (.invokevirtual 303, 3) := by decide +kernel
theorem dX11_read_23 : decode cX11_read 23 = .ok (.ifCond .ne 6, 3) := by decide +kernel
theorem dX11_read_26 : decode cX11_read 26 = .ok (.ldc 235, 2) := by decide +kernel
theorem dX11_read_28 : decode cX11_read 28 = .ok (.ireturn, 1) := by decide +kernel
theorem dX11_read_29 : decode cX11_read 29 = .ok (.aload_n 0, 1) := by decide +kernel
theorem dX11_read_30 : decode cX11_read 30 = .ok (.iload_n 1, 1) := by decide +kernel
theorem dX11_read_31 : decode cX11_read 31 = .ok (.invokevirtual 278, 3) := by decide +kernel
theorem dX11_read_34 : decode cX11_read 34 = .ok (.ifCond .ne 7, 3) := by decide +kernel
theorem dX11_read_37 : decode cX11_read 37 = .ok (.ldc_w 261, 3) := by decide +kernel
theorem dX11_read_40 : decode cX11_read 40 = .ok (.ireturn, 1) := by decide +kernel
theorem dX11_read_41 : decode cX11_read 41 = .ok (.aload_n 0, 1) := by decide +kernel
theorem dX11_read_42 : decode cX11_read 42 = .ok (.iload_n 1, 1) := by decide +kernel
theorem dX11_read_43 : decode cX11_read 43 = .ok (.iload_n 2, 1) := by decide +kernel
theorem dX11_read_44 : decode cX11_read 44 = .ok (.invokevirtual 286, 3) := by decide +kernel
theorem dX11_read_47 : decode cX11_read 47 = .ok (.ifCond .ne 6, 3) := by decide +kernel
theorem dX11_read_50 : decode cX11_read 50 = .ok (.ldc 235, 2) := by decide +kernel
theorem dX11_read_52 : decode cX11_read 52 = .ok (.ireturn, 1) := by decide +kernel
theorem dX11_read_53 : decode cX11_read 53 = .ok (.aload_n 0, 1) := by decide +kernel
theorem dX11_read_54 : decode cX11_read 54 = .ok (.getfield 7, 3) := by decide +kernel
theorem dX11_read_57 : decode cX11_read 57 = .ok (.iload_n 1, 1) := by decide +kernel
theorem dX11_read_58 : decode cX11_read 58 = .ok (.iload_n 2, 1) := by decide +kernel
theorem dX11_read_59 : decode cX11_read 59 = .ok (.aload_n 0, 1) := by decide +kernel
theorem dX11_read_60 : decode cX11_read 60 = .ok (.getfield 7, 3) := by decide +kernel
theorem dX11_read_63 : decode cX11_read 63 = .ok (.iconst 2, 1) := by decide +kernel
theorem dX11_read_64 : decode cX11_read 64 = .ok (.laload, 1) := by decide +kernel
theorem dX11_read_65 : decode cX11_read 65 = .ok (.l2i, 1) := by decide +kernel
theorem dX11_read_66 : decode cX11_read 66 = .ok (.idiv, 1) := by decide +kernel
theorem dX11_read_67 : decode cX11_read 67 = .ok (.invokestatic 93, 3) := by decide +kernel
theorem dX11_read_70 : decode cX11_read 70 = .ok (.istore 4, 2) := by decide +kernel
theorem dX11_read_72 : decode cX11_read 72 = .ok (.aload_n 0, 1) := by decide +kernel
theorem dX11_read_73 : decode cX11_read 73 = .ok (.getfield 7, 3) := by decide +kernel
theorem dX11_read_76 : decode cX11_read 76 = .ok (.iload_n 3, 1) := by decide +kernel
theorem dX11_read_77 : decode cX11_read 77 = .ok (.invokestatic 65, 3) := by decide +kernel
theorem dX11_read_80 : decode cX11_read 80 = .ok (.ifCond .ne 7, 3) := by decide +kernel
theorem dX11_read_83 : decode cX11_read 83 = .ok (.ldc_w 339, 3) := by decide +kernel
theorem dX11_read_86 : decode cX11_read 86 = .ok (.ireturn, 1) := by decide +kernel
theorem dX11_read_87 : decode cX11_read 87 = .ok (.aload_n 0, 1) := by decide +kernel
theorem dX11_read_88 : decode cX11_read 88 = .ok (.getfield 7, 3) := by decide +kernel
theorem dX11_read_91 : decode cX11_read 91 = .ok (.iload 4, 2) := by decide +kernel
theorem dX11_read_93 : decode cX11_read 93 = .ok (.iload_n 3, 1) := by decide +kernel
theorem dX11_read_94 : decode cX11_read 94 = .ok (.invokestatic 53, 3) := by decide +kernel
theorem dX11_read_97 : decode cX11_read 97 = .ok (.lstore 5, 2) := by decide +kernel
theorem dX11_read_99 : decode cX11_read 99 = .ok (.lload 5, 2) := by decide +kernel
theorem dX11_read_101 : decode cX11_read 101 = .ok (.lconst 0, 1) := by decide +kernel
theorem dX11_read_102 : decode cX11_read 102 = .ok (.lcmp, 1) := by decide +kernel
theorem dX11_read_103 : decode cX11_read 103 = .ok (.ifCond .ne 8, 3) := by decide +kernel
theorem dX11_read_106 : decode cX11_read 106 = .ok (.ldc 186, 2) := by decide +kernel
theorem dX11_read_108 : decode cX11_read 108 = .ok (.goto 39, 3) := by decide +kernel
theorem dX11_read_111 : decode cX11_read 111 = .ok (.aload_n 0, 1) := by decide +kernel
theorem dX11_read_112 : decode cX11_read 112 = .ok (.getfield 7, 3) := by decide +kernel
theorem dX11_read_115 : decode cX11_read 115 = .ok (.iload 4, 2) := by decide +kernel
theorem dX11_read_117 : decode cX11_read 117 = .ok (.iload_n 3, 1) := by decide +kernel
theorem dX11_read_118 : decode cX11_read 118 = .ok (.invokestatic 61, 3) := by decide +kernel
theorem dX11_read_121 : decode cX11_read 121 = .ok (.ifCond .ne 9, 3) := by decide +kernel
theorem dX11_read_124 : decode cX11_read 124 = .ok (.ldc_w 340, 3) := by decide +kernel
theorem dX11_read_127 : decode cX11_read 127 = .ok (.goto 20, 3) := by decide +kernel
theorem dX11_read_130 : decode cX11_read 130 = .ok (.lload 5, 2) := by decide +kernel
theorem dX11_read_132 : decode cX11_read 132 = .ok (.iload_n 2, 1) := by decide +kernel
theorem dX11_read_133 : decode cX11_read 133 = .ok (.aload_n 0, 1) := by decide +kernel
theorem dX11_read_134 : decode cX11_read 134 = .ok (.getfield 7, 3) := by decide +kernel
theorem dX11_read_137 : decode cX11_read 137 = .ok (.iconst 2, 1) := by decide +kernel
theorem dX11_read_138 : decode cX11_read 138 = .ok (.laload, 1) := by decide +kernel
theorem dX11_read_139 : decode cX11_read 139 = .ok (.l2i, 1) := by decide +kernel
theorem dX11_read_140 : decode cX11_read 140 = .ok (.irem, 1) := by decide +kernel
theorem dX11_read_141 : decode cX11_read 141 = .ok (.invokestatic 133, 3) := by decide +kernel
theorem dX11_read_144 : decode cX11_read 144 = .ok (.invokestatic 336, 3) := by decide +kernel
theorem dX11_read_147 : decode cX11_read 147 = .ok (.ireturn, 1) := by decide +kernel
set_option maxRecDepth 20000 in
theorem ggX11_foundIn_X11_cell : GoodIn wsX11_foundIn wsX11_cell := goodIn_r _ [7, 8] (by decide +kernel) (by decide +kernel)
set_option maxRecDepth 20000 in
theorem gX11_foundIn_X11_cell : GoodIn wsX11_foundIn (va_wsS RX11 133 yX11_cell wsX11_cell) := goodIn_app (goodIn_of _ (by decide +kernel)) ggX11_foundIn_X11_cell
theorem dX11_foundIn_0 : decode cX11_foundIn 0 = .ok (.iconst 0, 1) := by decide +kernel
theorem dX11_foundIn_1 : decode cX11_foundIn 1 = .ok (.istore_n 3, 1) := by decide +kernel
theorem dX11_foundIn_2 : decode cX11_foundIn 2 = .ok (.iconst 0, 1) := by decide +kernel
theorem dX11_foundIn_3 : decode cX11_foundIn 3 = .ok (.istore 4, 2) := by decide +kernel
theorem dX11_foundIn_5 : decode cX11_foundIn 5 = .ok (.iload 4, 2) := by decide +kernel
theorem dX11_foundIn_7 : decode cX11_foundIn 7 = .ok (.aload_n 0, 1) := by decide +kernel
theorem dX11_foundIn_8 : decode cX11_foundIn 8 = .ok (.getfield 143, 3) := by decide +kernel
theorem dX11_foundIn_11 : decode cX11_foundIn 11 = .ok (.iadd, 1) := by decide +kernel
theorem dX11_foundIn_12 : decode cX11_foundIn 12 = .ok (.i2l, 1) := by decide +kernel
theorem dX11_foundIn_13 : decode cX11_foundIn 13 = .ok (.aload_n 0, 1) := by decide +kernel
theorem dX11_foundIn_14 : decode cX11_foundIn 14 = .ok (.getfield 7, 3) := by decide +kernel
theorem dX11_foundIn_17 : decode cX11_foundIn 17 = .ok (.iconst 2, 1) := by decide +kernel
theorem dX11_foundIn_18 : decode cX11_foundIn 18 = .ok (.laload, 1) := by decide +kernel
theorem dX11_foundIn_19 : decode cX11_foundIn 19 = .ok (.lcmp, 1) := by decide +kernel
theorem dX11_foundIn_20 : decode cX11_foundIn 20 = .ok (.ifCond .gt 74, 3) := by decide +kernel
theorem dX11_foundIn_23 : decode cX11_foundIn 23 = .ok (.iconst 1, 1) := by decide +kernel
theorem dX11_foundIn_24 : decode cX11_foundIn 24 = .ok (.istore 5, 2) := by decide +kernel
theorem dX11_foundIn_26 : decode cX11_foundIn 26 = .ok (.iconst 0, 1) := by decide +kernel
theorem dX11_foundIn_27 : decode cX11_foundIn 27 = .ok (.istore 6, 2) := by decide +kernel
theorem dX11_foundIn_29 : decode cX11_foundIn 29 = .ok (.iload 6, 2) := by decide +kernel
theorem dX11_foundIn_31 : decode cX11_foundIn 31 = .ok (.aload_n 0, 1) := by decide +kernel
theorem dX11_foundIn_32 : decode cX11_foundIn 32 = .ok (.getfield 143, 3) := by decide +kernel
theorem dX11_foundIn_35 : decode cX11_foundIn 35 = .ok (.if_icmp .ge 40, 3) := by decide +kernel
theorem dX11_foundIn_38 : decode cX11_foundIn 38 = .ok (.iload 5, 2) := by decide +kernel
theorem dX11_foundIn_40 : decode cX11_foundIn 40 = .ok (.ifCond .eq 26, 3) := by decide +kernel
theorem dX11_foundIn_43 : decode cX11_foundIn 43 = .ok (.lload_n 1, 1) := by decide +kernel
theorem dX11_foundIn_44 : decode cX11_foundIn 44 = .ok (.iload 4, 2) := by decide +kernel
theorem dX11_foundIn_46 : decode cX11_foundIn 46 = .ok (.iload 6, 2) := by decide +kernel
theorem dX11_foundIn_48 : decode cX11_foundIn 48 = .ok (.iadd, 1) := by decide +kernel
theorem dX11_foundIn_49 : decode cX11_foundIn 49 = .ok (.invokestatic 133, 3) := by decide +kernel
theorem dX11_foundIn_52 : decode cX11_foundIn 52 = .ok (.aload_n 0, 1) := by decide +kernel
theorem dX11_foundIn_53 : decode cX11_foundIn 53 = .ok (.getfield 30, 3) := by decide +kernel
theorem dX11_foundIn_56 : decode cX11_foundIn 56 = .ok (.iload 6, 2) := by decide +kernel
theorem dX11_foundIn_58 : decode cX11_foundIn 58 = .ok (.iaload, 1) := by decide +kernel
theorem dX11_foundIn_59 : decode cX11_foundIn 59 = .ok (.if_icmp .ne 7, 3) := by decide +kernel
theorem dX11_foundIn_62 : decode cX11_foundIn 62 = .ok (.iconst 1, 1) := by decide +kernel
theorem dX11_foundIn_63 : decode cX11_foundIn 63 = .ok (.goto 4, 3) := by decide +kernel
theorem dX11_foundIn_66 : decode cX11_foundIn 66 = .ok (.iconst 0, 1) := by decide +kernel
theorem dX11_foundIn_67 : decode cX11_foundIn 67 = .ok (.istore 5, 2) := by decide +kernel
theorem dX11_foundIn_69 : decode cX11_foundIn 69 = .ok (.iinc 6 1, 3) := by decide +kernel
theorem dX11_foundIn_72 : decode cX11_foundIn 72 = .ok (.goto (-43), 3) := by decide +kernel
theorem dX11_foundIn_75 : decode cX11_foundIn 75 = .ok (.iload_n 3, 1) := by decide +kernel
theorem dX11_foundIn_76 : decode cX11_foundIn 76 = .ok (.iload 5, 2) := by decide +kernel
theorem dX11_foundIn_78 : decode cX11_foundIn 78 = .ok (.ifCond .eq 7, 3) := by decide +kernel
theorem dX11_foundIn_81 : decode cX11_foundIn 81 = .ok (.iconst 1, 1) := by decide +kernel
theorem dX11_foundIn_82 : decode cX11_foundIn 82 = .ok (.goto 4, 3) := by decide +kernel
theorem dX11_foundIn_85 : decode cX11_foundIn 85 = .ok (.iconst 0, 1) := by decide +kernel
theorem dX11_foundIn_86 : decode cX11_foundIn 86 = .ok (.iadd, 1) := by decide +kernel
theorem dX11_foundIn_87 : decode cX11_foundIn 87 = .ok (.istore_n 3, 1) := by decide +kernel
theorem dX11_foundIn_88 : decode cX11_foundIn 88 = .ok (.iinc 4 1, 3) := by decide +kernel
theorem dX11_foundIn_91 : decode cX11_foundIn 91 = .ok (.goto (-86), 3) := by decide +kernel
theorem dX11_foundIn_94 : decode cX11_foundIn 94 = .ok (.iload_n 3, 1) := by decide +kernel
theorem dX11_foundIn_95 : decode cX11_foundIn 95 = .ok (.ireturn, 1) := by decide +kernel
set_option maxRecDepth 20000 in
theorem ggX11_find_X11_isRecord : GoodIn wsX11_find wsX11_isRecord := goodIn_r _ [9, 10, 3, 11, 12, 13, 14, 15, 16, 17, 8, 18, 70, 71, 72, 73, 74, 75, 76, 77, 78, 79, 80, 81, 82, 83, 84, 85, 86] (by decide +kernel) (by decide +kernel)
set_option maxRecDepth 20000 in
theorem gX11_find_X11_isRecord : GoodIn wsX11_find (wsV RX11 275 RX11 yX11_isRecord wsX11_isRecord) := goodIn_app (goodIn_of _ (by decide +kernel)) ggX11_find_X11_isRecord
set_option maxRecDepth 20000 in
theorem ggX11_find_X11_isHouse : GoodIn wsX11_find wsX11_isHouse := goodIn_r _ [22, 3, 70, 71, 72, 73, 74, 75, 76, 77, 78, 79, 80, 81, 82, 83, 84, 85, 86] (by decide +kernel) (by decide +kernel)
set_option maxRecDepth 20000 in
theorem gX11_find_X11_isHouse : GoodIn wsX11_find (wsV RX11 262 RX11 yX11_isHouse wsX11_isHouse) := goodIn_app (goodIn_of _ (by decide +kernel)) ggX11_find_X11_isHouse
set_option maxRecDepth 20000 in
theorem ggX11_find_X11_isFile : GoodIn wsX11_find wsX11_isFile := goodIn_r _ [25, 26, 16, 17, 8, 18] (by decide +kernel) (by decide +kernel)
set_option maxRecDepth 20000 in
theorem gX11_find_X11_isFile : GoodIn wsX11_find (va_wsS RX11 266 yX11_isFile wsX11_isFile) := goodIn_app (goodIn_of _ (by decide +kernel)) ggX11_find_X11_isFile
set_option maxRecDepth 20000 in
theorem ggX11_find_X11_isThere : GoodIn wsX11_find wsX11_isThere := goodIn_r _ [30, 3, 70, 71, 72, 73, 74, 75, 76, 77, 78, 79, 80, 81, 82, 83, 84, 85, 86] (by decide +kernel) (by decide +kernel)
set_option maxRecDepth 20000 in
theorem gX11_find_X11_isThere : GoodIn wsX11_find (wsV RX11 278 RX11 yX11_isThere wsX11_isThere) := goodIn_app (goodIn_of _ (by decide +kernel)) ggX11_find_X11_isThere
set_option maxRecDepth 20000 in
theorem ggX11_find_X11_many : GoodIn wsX11_find wsX11_many := goodIn_r _ [33] (by decide +kernel) (by decide +kernel)
set_option maxRecDepth 20000 in
theorem gX11_find_X11_many : GoodIn wsX11_find (va_wsS RX11 90 yX11_many wsX11_many) := goodIn_app (goodIn_of _ (by decide +kernel)) ggX11_find_X11_many
set_option maxRecDepth 20000 in
theorem ggX11_find_X11_chunkOf : GoodIn wsX11_find wsX11_chunkOf := goodIn_r _ [36] (by decide +kernel) (by decide +kernel)
set_option maxRecDepth 20000 in
theorem gX11_find_X11_chunkOf : GoodIn wsX11_find (va_wsS RX11 93 yX11_chunkOf wsX11_chunkOf) := goodIn_app (goodIn_of _ (by decide +kernel)) ggX11_find_X11_chunkOf
set_option maxRecDepth 20000 in
theorem ggX11_find_X11_ables : GoodIn wsX11_find wsX11_ables := goodIn_r _ [39, 40, 41, 8, 42, 43, 44, 45, 46, 47, 48, 49, 50, 51, 52, 53, 54, 55] (by decide +kernel) (by decide +kernel)
set_option maxRecDepth 20000 in
theorem gX11_find_X11_ables : GoodIn wsX11_find (va_wsS RX11 124 yX11_ables wsX11_ables) := goodIn_app (goodIn_of _ (by decide +kernel)) ggX11_find_X11_ables
set_option maxRecDepth 20000 in
theorem ggX11_find_X11_least : GoodIn wsX11_find wsX11_least := goodIn_r _ [58, 59, 60, 8, 61] (by decide +kernel) (by decide +kernel)
set_option maxRecDepth 20000 in
theorem gX11_find_X11_least : GoodIn wsX11_find (va_wsS RX11 76 yX11_least wsX11_least) := goodIn_app (goodIn_of _ (by decide +kernel)) ggX11_find_X11_least
set_option maxRecDepth 20000 in
theorem ggX11_find_X11_copy : GoodIn wsX11_find wsX11_copy := goodIn_r _ [51] (by decide +kernel) (by decide +kernel)
set_option maxRecDepth 20000 in
theorem gX11_find_X11_copy : GoodIn wsX11_find (va_wsS RX11 53 yX11_copy wsX11_copy) := goodIn_app (goodIn_of _ (by decide +kernel)) ggX11_find_X11_copy
set_option maxRecDepth 20000 in
theorem ggX11_find_X11_foundIn : GoodIn wsX11_find wsX11_foundIn := goodIn_r _ [65, 11, 3, 15, 66, 67, 8, 68, 69, 70, 71, 72, 73, 74, 75, 76, 77, 78, 79, 80, 81, 82, 83, 84, 85, 86] (by decide +kernel) (by decide +kernel)
set_option maxRecDepth 20000 in
theorem gX11_find_X11_foundIn : GoodIn wsX11_find (wsV RX11 341 RX11 yX11_foundIn wsX11_foundIn) := goodIn_app (goodIn_of _ (by decide +kernel)) ggX11_find_X11_foundIn
theorem dX11_find_0 : decode cX11_find 0 = .ok (.aload_n 0, 1) := by decide +kernel
theorem dX11_find_1 : decode cX11_find 1 = .ok (.invokevirtual 275, 3) := by decide +kernel
theorem dX11_find_4 : decode cX11_find 4 = .ok (.istore_n 2, 1) := by decide +kernel
theorem dX11_find_5 : decode cX11_find 5 = .ok (.aload_n 0, 1) := by decide +kernel
theorem dX11_find_6 : decode cX11_find 6 = .ok (.invokevirtual 262, 3) := by decide +kernel
theorem dX11_find_9 : decode cX11_find 9 = .ok (.ifCond .ne 7, 3) := by decide +kernel
theorem dX11_find_12 : decode cX11_find 12 = .ok (.ldc_w 261, 3) := by decide +kernel
theorem dX11_find_15 : decode cX11_find 15 = .ok (.ireturn, 1) := by decide +kernel
theorem dX11_find_16 : decode cX11_find 16 = .ok (.iload_n 1, 1) := by decide +kernel
theorem dX11_find_17 : decode cX11_find 17 = .ok (.invokestatic 266, 3) := by decide +kernel
theorem dX11_find_20 : decode cX11_find 20 = .ok (.ifCond .eq 7, 3) := by decide +kernel
theorem dX11_find_23 : decode cX11_find 23 = .ok (.iload_n 2, 1) := by decide +kernel
theorem dX11_find_24 : decode cX11_find 24 = .ok (.ifCond .ne 6, 3) := by decide +kernel
theorem dX11_find_27 : decode cX11_find 27 = .ok (.ldc 235, 2) := by decide +kernel
theorem dX11_find_29 : decode cX11_find 29 = .ok (.ireturn, 1) := by decide +kernel
theorem dX11_find_30 : decode cX11_find 30 = .ok (.aload_n 0, 1) := by decide +kernel
theorem dX11_find_31 : decode cX11_find 31 = .ok (.iload_n 1, 1) := by decide +kernel
theorem dX11_find_32 : decode cX11_find 32 = .ok (.invokevirtual 278, 3) := by decide +kernel
theorem dX11_find_35 : decode cX11_find 35 = .ok (.ifCond .ne 7, 3) := by decide +kernel
theorem dX11_find_38 : decode cX11_find 38 = .ok (.ldc_w 261, 3) := by decide +kernel
theorem dX11_find_41 : decode cX11_find 41 = .ok (.ireturn, 1) := by decide +kernel
theorem dX11_find_42 : decode cX11_find 42 = .ok (.iconst 0, 1) := by decide +kernel
theorem dX11_find_43 : decode cX11_find 43 = .ok (.istore_n 3, 1) := by decide +kernel
theorem dX11_find_44 : decode cX11_find 44 = .ok (.iconst 0, 1) := by decide +kernel
theorem dX11_find_45 : decode cX11_find 45 = .ok (.istore 4, 2) := by decide +kernel
theorem dX11_find_47 : decode cX11_find 47 = .ok (.iload 4, 2) := by decide +kernel
theorem dX11_find_49 : decode cX11_find 49 = .ok (.aload_n 0, 1) := by decide +kernel
theorem dX11_find_50 : decode cX11_find 50 = .ok (.getfield 7, 3) := by decide +kernel
theorem dX11_find_53 : decode cX11_find 53 = .ok (.iload_n 1, 1) := by decide +kernel
theorem dX11_find_54 : decode cX11_find 54 = .ok (.invokestatic 90, 3) := by decide +kernel
theorem dX11_find_57 : decode cX11_find 57 = .ok (.if_icmp .ge 61, 3) := by decide +kernel
theorem dX11_find_60 : decode cX11_find 60 = .ok (.aload_n 0, 1) := by decide +kernel
theorem dX11_find_61 : decode cX11_find 61 = .ok (.getfield 7, 3) := by decide +kernel
theorem dX11_find_64 : decode cX11_find 64 = .ok (.iload_n 1, 1) := by decide +kernel
theorem dX11_find_65 : decode cX11_find 65 = .ok (.iload 4, 2) := by decide +kernel
theorem dX11_find_67 : decode cX11_find 67 = .ok (.invokestatic 93, 3) := by decide +kernel
theorem dX11_find_70 : decode cX11_find 70 = .ok (.istore 5, 2) := by decide +kernel
theorem dX11_find_72 : decode cX11_find 72 = .ok (.aload_n 0, 1) := by decide +kernel
theorem dX11_find_73 : decode cX11_find 73 = .ok (.getfield 7, 3) := by decide +kernel
theorem dX11_find_76 : decode cX11_find 76 = .ok (.iload 5, 2) := by decide +kernel
theorem dX11_find_78 : decode cX11_find 78 = .ok (.invokestatic 124, 3) := by decide +kernel
theorem dX11_find_81 : decode cX11_find 81 = .ok (.istore 6, 2) := by decide +kernel
theorem dX11_find_83 : decode cX11_find 83 = .ok (.iload 6, 2) := by decide +kernel
theorem dX11_find_85 : decode cX11_find 85 = .ok (.ifCond .ne 6, 3) := by decide +kernel
theorem dX11_find_88 : decode cX11_find 88 = .ok (.ldc 107, 2) := by decide +kernel
theorem dX11_find_90 : decode cX11_find 90 = .ok (.ireturn, 1) := by decide +kernel
theorem dX11_find_91 : decode cX11_find 91 = .ok (.iload_n 3, 1) := by decide +kernel
theorem dX11_find_92 : decode cX11_find 92 = .ok (.aload_n 0, 1) := by decide +kernel
theorem dX11_find_93 : decode cX11_find 93 = .ok (.aload_n 0, 1) := by decide +kernel
theorem dX11_find_94 : decode cX11_find 94 = .ok (.getfield 7, 3) := by decide +kernel
theorem dX11_find_97 : decode cX11_find 97 = .ok (.iload 5, 2) := by decide +kernel
theorem dX11_find_99 : decode cX11_find 99 = .ok (.iload 6, 2) := by decide +kernel
theorem dX11_find_101 : decode cX11_find 101 = .ok (.invokestatic 76, 3) := by decide +kernel
theorem dX11_find_104 : decode cX11_find 104 = .ok (.invokestatic 53, 3) := by decide +kernel
theorem dX11_find_107 : decode cX11_find 107 = .ok (.invokevirtual 341, 3) := by decide +kernel
theorem dX11_find_110 : decode cX11_find 110 = .ok (.iadd, 1) := by decide +kernel
theorem dX11_find_111 : decode cX11_find 111 = .ok (.istore_n 3, 1) := by decide +kernel
theorem dX11_find_112 : decode cX11_find 112 = .ok (.iinc 4 1, 3) := by decide +kernel
theorem dX11_find_115 : decode cX11_find 115 = .ok (.goto (-68), 3) := by decide +kernel
theorem dX11_find_118 : decode cX11_find 118 = .ok (.iload_n 3, 1) := by decide +kernel
theorem dX11_find_119 : decode cX11_find 119 = .ok (.ireturn, 1) := by decide +kernel
set_option maxRecDepth 20000 in
theorem ggX11_cells_X11_isGood : GoodIn wsX11_cells wsX11_isGood := goodIn_r _ [6, 7, 8, 5, 9, 10, 11, 12, 13] (by decide +kernel) (by decide +kernel)
set_option maxRecDepth 20000 in
theorem gX11_cells_X11_isGood : GoodIn wsX11_cells (va_wsS RX11 61 yX11_isGood wsX11_isGood) := goodIn_app (goodIn_of _ (by decide +kernel)) ggX11_cells_X11_isGood
set_option maxRecDepth 20000 in
theorem ggX11_cells_X11_copy : GoodIn wsX11_cells wsX11_copy := goodIn_r _ [9] (by decide +kernel) (by decide +kernel)
set_option maxRecDepth 20000 in
theorem gX11_cells_X11_copy : GoodIn wsX11_cells (va_wsS RX11 53 yX11_copy wsX11_copy) := goodIn_app (goodIn_of _ (by decide +kernel)) ggX11_cells_X11_copy
set_option maxRecDepth 20000 in
theorem ggX11_cells_X11_cell : GoodIn wsX11_cells wsX11_cell := goodIn_r _ [16, 17] (by decide +kernel) (by decide +kernel)
set_option maxRecDepth 20000 in
theorem gX11_cells_X11_cell : GoodIn wsX11_cells (va_wsS RX11 133 yX11_cell wsX11_cell) := goodIn_app (goodIn_of _ (by decide +kernel)) ggX11_cells_X11_cell
theorem dX11_cells_0 : decode cX11_cells 0 = .ok (.iconst 0, 1) := by decide +kernel
theorem dX11_cells_1 : decode cX11_cells 1 = .ok (.istore_n 2, 1) := by decide +kernel
theorem dX11_cells_2 : decode cX11_cells 2 = .ok (.iconst 0, 1) := by decide +kernel
theorem dX11_cells_3 : decode cX11_cells 3 = .ok (.istore_n 3, 1) := by decide +kernel
theorem dX11_cells_4 : decode cX11_cells 4 = .ok (.iload_n 3, 1) := by decide +kernel
theorem dX11_cells_5 : decode cX11_cells 5 = .ok (.i2l, 1) := by decide +kernel
theorem dX11_cells_6 : decode cX11_cells 6 = .ok (.ldc2_w 84, 3) := by decide +kernel
theorem dX11_cells_9 : decode cX11_cells 9 = .ok (.aload_n 0, 1) := by decide +kernel
theorem dX11_cells_10 : decode cX11_cells 10 = .ok (.getfield 7, 3) := by decide +kernel
theorem dX11_cells_13 : decode cX11_cells 13 = .ok (.bipush 6, 2) := by decide +kernel
theorem dX11_cells_15 : decode cX11_cells 15 = .ok (.laload, 1) := by decide +kernel
theorem dX11_cells_16 : decode cX11_cells 16 = .ok (.lmul, 1) := by decide +kernel
theorem dX11_cells_17 : decode cX11_cells 17 = .ok (.lcmp, 1) := by decide +kernel
theorem dX11_cells_18 : decode cX11_cells 18 = .ok (.ifCond .ge 106, 3) := by decide +kernel
theorem dX11_cells_21 : decode cX11_cells 21 = .ok (.iconst 0, 1) := by decide +kernel
theorem dX11_cells_22 : decode cX11_cells 22 = .ok (.istore 4, 2) := by decide +kernel
theorem dX11_cells_24 : decode cX11_cells 24 = .ok (.iload 4, 2) := by decide +kernel
theorem dX11_cells_26 : decode cX11_cells 26 = .ok (.i2l, 1) := by decide +kernel
theorem dX11_cells_27 : decode cX11_cells 27 = .ok (.aload_n 0, 1) := by decide +kernel
theorem dX11_cells_28 : decode cX11_cells 28 = .ok (.getfield 7, 3) := by decide +kernel
theorem dX11_cells_31 : decode cX11_cells 31 = .ok (.iconst 2, 1) := by decide +kernel
theorem dX11_cells_32 : decode cX11_cells 32 = .ok (.laload, 1) := by decide +kernel
theorem dX11_cells_33 : decode cX11_cells 33 = .ok (.lcmp, 1) := by decide +kernel
theorem dX11_cells_34 : decode cX11_cells 34 = .ok (.ifCond .ge 84, 3) := by decide +kernel
theorem dX11_cells_37 : decode cX11_cells 37 = .ok (.aload_n 0, 1) := by decide +kernel
theorem dX11_cells_38 : decode cX11_cells 38 = .ok (.getfield 7, 3) := by decide +kernel
theorem dX11_cells_41 : decode cX11_cells 41 = .ok (.iload_n 3, 1) := by decide +kernel
theorem dX11_cells_42 : decode cX11_cells 42 = .ok (.iconst 5, 1) := by decide +kernel
theorem dX11_cells_43 : decode cX11_cells 43 = .ok (.idiv, 1) := by decide +kernel
theorem dX11_cells_44 : decode cX11_cells 44 = .ok (.iload_n 3, 1) := by decide +kernel
theorem dX11_cells_45 : decode cX11_cells 45 = .ok (.iconst 5, 1) := by decide +kernel
theorem dX11_cells_46 : decode cX11_cells 46 = .ok (.irem, 1) := by decide +kernel
theorem dX11_cells_47 : decode cX11_cells 47 = .ok (.invokestatic 61, 3) := by decide +kernel
theorem dX11_cells_50 : decode cX11_cells 50 = .ok (.ifCond .eq 68, 3) := by decide +kernel
theorem dX11_cells_53 : decode cX11_cells 53 = .ok (.aload_n 0, 1) := by decide +kernel
theorem dX11_cells_54 : decode cX11_cells 54 = .ok (.getfield 7, 3) := by decide +kernel
theorem dX11_cells_57 : decode cX11_cells 57 = .ok (.iload_n 3, 1) := by decide +kernel
theorem dX11_cells_58 : decode cX11_cells 58 = .ok (.iconst 5, 1) := by decide +kernel
theorem dX11_cells_59 : decode cX11_cells 59 = .ok (.idiv, 1) := by decide +kernel
theorem dX11_cells_60 : decode cX11_cells 60 = .ok (.iload_n 3, 1) := by decide +kernel
theorem dX11_cells_61 : decode cX11_cells 61 = .ok (.iconst 5, 1) := by decide +kernel
theorem dX11_cells_62 : decode cX11_cells 62 = .ok (.irem, 1) := by decide +kernel
theorem dX11_cells_63 : decode cX11_cells 63 = .ok (.invokestatic 53, 3) := by decide +kernel
theorem dX11_cells_66 : decode cX11_cells 66 = .ok (.iload 4, 2) := by decide +kernel
theorem dX11_cells_68 : decode cX11_cells 68 = .ok (.invokestatic 133, 3) := by decide +kernel
theorem dX11_cells_71 : decode cX11_cells 71 = .ok (.istore 5, 2) := by decide +kernel
theorem dX11_cells_73 : decode cX11_cells 73 = .ok (.iload_n 2, 1) := by decide +kernel
theorem dX11_cells_74 : decode cX11_cells 74 = .ok (.iload_n 1, 1) := by decide +kernel
theorem dX11_cells_75 : decode cX11_cells 75 = .ok (.ifCond .eq 18, 3) := by decide +kernel
theorem dX11_cells_78 : decode cX11_cells 78 = .ok (.iload 5, 2) := by decide +kernel
theorem dX11_cells_80 : decode cX11_cells 80 = .ok (.bipush 27, 2) := by decide +kernel
theorem dX11_cells_82 : decode cX11_cells 82 = .ok (.if_icmp .ne 7, 3) := by decide +kernel
theorem dX11_cells_85 : decode cX11_cells 85 = .ok (.iconst 1, 1) := by decide +kernel
theorem dX11_cells_86 : decode cX11_cells 86 = .ok (.goto 24, 3) := by decide +kernel
theorem dX11_cells_89 : decode cX11_cells 89 = .ok (.iconst 0, 1) := by decide +kernel
theorem dX11_cells_90 : decode cX11_cells 90 = .ok (.goto 20, 3) := by decide +kernel
theorem dX11_cells_93 : decode cX11_cells 93 = .ok (.iload 5, 2) := by decide +kernel
theorem dX11_cells_95 : decode cX11_cells 95 = .ok (.ifCond .eq 14, 3) := by decide +kernel
theorem dX11_cells_98 : decode cX11_cells 98 = .ok (.iload 5, 2) := by decide +kernel
theorem dX11_cells_100 : decode cX11_cells 100 = .ok (.bipush 27, 2) := by decide +kernel
theorem dX11_cells_102 : decode cX11_cells 102 = .ok (.if_icmp .eq 7, 3) := by decide +kernel
theorem dX11_cells_105 : decode cX11_cells 105 = .ok (.iconst 1, 1) := by decide +kernel
theorem dX11_cells_106 : decode cX11_cells 106 = .ok (.goto 4, 3) := by decide +kernel
theorem dX11_cells_109 : decode cX11_cells 109 = .ok (.iconst 0, 1) := by decide +kernel
theorem dX11_cells_110 : decode cX11_cells 110 = .ok (.iadd, 1) := by decide +kernel
theorem dX11_cells_111 : decode cX11_cells 111 = .ok (.istore_n 2, 1) := by decide +kernel
theorem dX11_cells_112 : decode cX11_cells 112 = .ok (.iinc 4 1, 3) := by decide +kernel
theorem dX11_cells_115 : decode cX11_cells 115 = .ok (.goto (-91), 3) := by decide +kernel
theorem dX11_cells_118 : decode cX11_cells 118 = .ok (.iinc 3 1, 3) := by decide +kernel
theorem dX11_cells_121 : decode cX11_cells 121 = .ok (.goto (-117), 3) := by decide +kernel
theorem dX11_cells_124 : decode cX11_cells 124 = .ok (.iload_n 2, 1) := by decide +kernel
theorem dX11_cells_125 : decode cX11_cells 125 = .ok (.ireturn, 1) := by decide +kernel
set_option maxRecDepth 20000 in
theorem ggX11_allLying_X11_lying : GoodIn wsX11_allLying wsX11_lying := goodIn_r _ [4, 5, 6, 3, 7] (by decide +kernel) (by decide +kernel)
set_option maxRecDepth 20000 in
theorem gX11_allLying_X11_lying : GoodIn wsX11_allLying (va_wsS RX11 72 yX11_lying wsX11_lying) := goodIn_app (goodIn_of _ (by decide +kernel)) ggX11_allLying_X11_lying
theorem dX11_allLying_0 : decode cX11_allLying 0 = .ok (.iconst 0, 1) := by decide +kernel
theorem dX11_allLying_1 : decode cX11_allLying 1 = .ok (.istore_n 1, 1) := by decide +kernel
theorem dX11_allLying_2 : decode cX11_allLying 2 = .ok (.iconst 0, 1) := by decide +kernel
theorem dX11_allLying_3 : decode cX11_allLying 3 = .ok (.istore_n 2, 1) := by decide +kernel
theorem dX11_allLying_4 : decode cX11_allLying 4 = .ok (.iload_n 2, 1) := by decide +kernel
theorem dX11_allLying_5 : decode cX11_allLying 5 = .ok (.i2l, 1) := by decide +kernel
theorem dX11_allLying_6 : decode cX11_allLying 6 = .ok (.aload_n 0, 1) := by decide +kernel
theorem dX11_allLying_7 : decode cX11_allLying 7 = .ok (.iconst 0, 1) := by decide +kernel
theorem dX11_allLying_8 : decode cX11_allLying 8 = .ok (.laload, 1) := by decide +kernel
theorem dX11_allLying_9 : decode cX11_allLying 9 = .ok (.lcmp, 1) := by decide +kernel
theorem dX11_allLying_10 : decode cX11_allLying 10 = .ok (.ifCond .ge 17, 3) := by decide +kernel
theorem dX11_allLying_13 : decode cX11_allLying 13 = .ok (.iload_n 1, 1) := by decide +kernel
theorem dX11_allLying_14 : decode cX11_allLying 14 = .ok (.aload_n 0, 1) := by decide +kernel
theorem dX11_allLying_15 : decode cX11_allLying 15 = .ok (.iload_n 2, 1) := by decide +kernel
theorem dX11_allLying_16 : decode cX11_allLying 16 = .ok (.invokestatic 72, 3) := by decide +kernel
theorem dX11_allLying_19 : decode cX11_allLying 19 = .ok (.iadd, 1) := by decide +kernel
theorem dX11_allLying_20 : decode cX11_allLying 20 = .ok (.istore_n 1, 1) := by decide +kernel
theorem dX11_allLying_21 : decode cX11_allLying 21 = .ok (.iinc 2 1, 3) := by decide +kernel
theorem dX11_allLying_24 : decode cX11_allLying 24 = .ok (.goto (-20), 3) := by decide +kernel
theorem dX11_allLying_27 : decode cX11_allLying 27 = .ok (.iload_n 1, 1) := by decide +kernel
theorem dX11_allLying_28 : decode cX11_allLying 28 = .ok (.ireturn, 1) := by decide +kernel
set_option maxRecDepth 20000 in
theorem ggX11_stales_X11_lyingAs : GoodIn wsX11_stales wsX11_lyingAs := goodIn_r _ [6, 1, 7, 8, 5, 9, 10, 11, 12, 13, 14, 15, 16, 17, 18, 19, 20, 21, 22, 23, 24, 25, 26, 27, 28, 29, 30, 31, 32, 33, 34, 35, 36] (by decide +kernel) (by decide +kernel)
set_option maxRecDepth 20000 in
theorem gX11_stales_X11_lyingAs : GoodIn wsX11_stales (wsV RX11 321 RX11 yX11_lyingAs wsX11_lyingAs) := goodIn_app (goodIn_of _ (by decide +kernel)) ggX11_stales_X11_lyingAs
theorem dX11_stales_0 : decode cX11_stales 0 = .ok (.iconst 0, 1) := by decide +kernel
theorem dX11_stales_1 : decode cX11_stales 1 = .ok (.istore_n 1, 1) := by decide +kernel
theorem dX11_stales_2 : decode cX11_stales 2 = .ok (.iconst 0, 1) := by decide +kernel
theorem dX11_stales_3 : decode cX11_stales 3 = .ok (.istore_n 2, 1) := by decide +kernel
theorem dX11_stales_4 : decode cX11_stales 4 = .ok (.iload_n 2, 1) := by decide +kernel
theorem dX11_stales_5 : decode cX11_stales 5 = .ok (.i2l, 1) := by decide +kernel
theorem dX11_stales_6 : decode cX11_stales 6 = .ok (.aload_n 0, 1) := by decide +kernel
theorem dX11_stales_7 : decode cX11_stales 7 = .ok (.getfield 7, 3) := by decide +kernel
theorem dX11_stales_10 : decode cX11_stales 10 = .ok (.iconst 0, 1) := by decide +kernel
theorem dX11_stales_11 : decode cX11_stales 11 = .ok (.laload, 1) := by decide +kernel
theorem dX11_stales_12 : decode cX11_stales 12 = .ok (.lcmp, 1) := by decide +kernel
theorem dX11_stales_13 : decode cX11_stales 13 = .ok (.ifCond .ge 18, 3) := by decide +kernel
theorem dX11_stales_16 : decode cX11_stales 16 = .ok (.iload_n 1, 1) := by decide +kernel
theorem dX11_stales_17 : decode cX11_stales 17 = .ok (.aload_n 0, 1) := by decide +kernel
theorem dX11_stales_18 : decode cX11_stales 18 = .ok (.iload_n 2, 1) := by decide +kernel
theorem dX11_stales_19 : decode cX11_stales 19 = .ok (.iconst 0, 1) := by decide +kernel
theorem dX11_stales_20 : decode cX11_stales 20 = .ok (.invokevirtual 321, 3) := by decide +kernel
theorem dX11_stales_23 : decode cX11_stales 23 = .ok (.iadd, 1) := by decide +kernel
theorem dX11_stales_24 : decode cX11_stales 24 = .ok (.istore_n 1, 1) := by decide +kernel
theorem dX11_stales_25 : decode cX11_stales 25 = .ok (.iinc 2 1, 3) := by decide +kernel
theorem dX11_stales_28 : decode cX11_stales 28 = .ok (.goto (-24), 3) := by decide +kernel
theorem dX11_stales_31 : decode cX11_stales 31 = .ok (.iload_n 1, 1) := by decide +kernel
theorem dX11_stales_32 : decode cX11_stales 32 = .ok (.ireturn, 1) := by decide +kernel
theorem dX11_forgotten_0 : decode cX11_forgotten 0 = .ok (.iconst 0, 1) := by decide +kernel
theorem dX11_forgotten_1 : decode cX11_forgotten 1 = .ok (.istore_n 1, 1) := by decide +kernel
theorem dX11_forgotten_2 : decode cX11_forgotten 2 = .ok (.iconst 0, 1) := by decide +kernel
theorem dX11_forgotten_3 : decode cX11_forgotten 3 = .ok (.istore_n 2, 1) := by decide +kernel
theorem dX11_forgotten_4 : decode cX11_forgotten 4 = .ok (.iload_n 2, 1) := by decide +kernel
theorem dX11_forgotten_5 : decode cX11_forgotten 5 = .ok (.i2l, 1) := by decide +kernel
theorem dX11_forgotten_6 : decode cX11_forgotten 6 = .ok (.aload_n 0, 1) := by decide +kernel
theorem dX11_forgotten_7 : decode cX11_forgotten 7 = .ok (.getfield 7, 3) := by decide +kernel
theorem dX11_forgotten_10 : decode cX11_forgotten 10 = .ok (.bipush 6, 2) := by decide +kernel
theorem dX11_forgotten_12 : decode cX11_forgotten 12 = .ok (.laload, 1) := by decide +kernel
theorem dX11_forgotten_13 : decode cX11_forgotten 13 = .ok (.lcmp, 1) := by decide +kernel
theorem dX11_forgotten_14 : decode cX11_forgotten 14 = .ok (.ifCond .ge 35, 3) := by decide +kernel
theorem dX11_forgotten_17 : decode cX11_forgotten 17 = .ok (.iload_n 1, 1) := by decide +kernel
theorem dX11_forgotten_18 : decode cX11_forgotten 18 = .ok (.aload_n 0, 1) := by decide +kernel
theorem dX11_forgotten_19 : decode cX11_forgotten 19 = .ok (.getfield 7, 3) := by decide +kernel
theorem dX11_forgotten_22 : decode cX11_forgotten 22 = .ok (.bipush 70, 2) := by decide +kernel
theorem dX11_forgotten_24 : decode cX11_forgotten 24 = .ok (.iconst 4, 1) := by decide +kernel
theorem dX11_forgotten_25 : decode cX11_forgotten 25 = .ok (.iload_n 2, 1) := by decide +kernel
theorem dX11_forgotten_26 : decode cX11_forgotten 26 = .ok (.imul, 1) := by decide +kernel
theorem dX11_forgotten_27 : decode cX11_forgotten 27 = .ok (.iadd, 1) := by decide +kernel
theorem dX11_forgotten_28 : decode cX11_forgotten 28 = .ok (.iconst 1, 1) := by decide +kernel
theorem dX11_forgotten_29 : decode cX11_forgotten 29 = .ok (.iadd, 1) := by decide +kernel
theorem dX11_forgotten_30 : decode cX11_forgotten 30 = .ok (.laload, 1) := by decide +kernel
theorem dX11_forgotten_31 : decode cX11_forgotten 31 = .ok (.lconst 0, 1) := by decide +kernel
theorem dX11_forgotten_32 : decode cX11_forgotten 32 = .ok (.lcmp, 1) := by decide +kernel
theorem dX11_forgotten_33 : decode cX11_forgotten 33 = .ok (.ifCond .ne 7, 3) := by decide +kernel
theorem dX11_forgotten_36 : decode cX11_forgotten 36 = .ok (.iconst 1, 1) := by decide +kernel
theorem dX11_forgotten_37 : decode cX11_forgotten 37 = .ok (.goto 4, 3) := by decide +kernel
theorem dX11_forgotten_40 : decode cX11_forgotten 40 = .ok (.iconst 0, 1) := by decide +kernel
theorem dX11_forgotten_41 : decode cX11_forgotten 41 = .ok (.iadd, 1) := by decide +kernel
theorem dX11_forgotten_42 : decode cX11_forgotten 42 = .ok (.istore_n 1, 1) := by decide +kernel
theorem dX11_forgotten_43 : decode cX11_forgotten 43 = .ok (.iinc 2 1, 3) := by decide +kernel
theorem dX11_forgotten_46 : decode cX11_forgotten 46 = .ok (.goto (-42), 3) := by decide +kernel
theorem dX11_forgotten_49 : decode cX11_forgotten 49 = .ok (.iload_n 1, 1) := by decide +kernel
theorem dX11_forgotten_50 : decode cX11_forgotten 50 = .ok (.ireturn, 1) := by decide +kernel
set_option maxRecDepth 20000 in
theorem ggX11_sums_X11_isHouse : GoodIn wsX11_sums wsX11_isHouse := goodIn_r _ [8, 2, 49, 50, 51, 52, 53, 54, 55, 56, 57, 58, 59, 60, 61, 62, 63, 64, 65] (by decide +kernel) (by decide +kernel)
set_option maxRecDepth 20000 in
theorem gX11_sums_X11_isHouse : GoodIn wsX11_sums (wsV RX11 262 RX11 yX11_isHouse wsX11_isHouse) := goodIn_app (goodIn_of _ (by decide +kernel)) ggX11_sums_X11_isHouse
set_option maxRecDepth 20000 in
theorem ggX11_sums_X11_forgotten : GoodIn wsX11_sums wsX11_forgotten := goodIn_r _ [12, 2, 49, 50, 51, 52, 53, 54, 55, 56, 57, 58, 59, 60, 61, 62, 63, 64, 65] (by decide +kernel) (by decide +kernel)
set_option maxRecDepth 20000 in
theorem gX11_sums_X11_forgotten : GoodIn wsX11_sums (wsV RX11 344 RX11 yX11_forgotten wsX11_forgotten) := goodIn_app (goodIn_of _ (by decide +kernel)) ggX11_sums_X11_forgotten
set_option maxRecDepth 20000 in
theorem ggX11_sums_X11_allLying : GoodIn wsX11_sums wsX11_allLying := goodIn_r _ [15, 16, 17, 7, 18, 19, 20, 21] (by decide +kernel) (by decide +kernel)
set_option maxRecDepth 20000 in
theorem gX11_sums_X11_allLying : GoodIn wsX11_sums (va_wsS RX11 347 yX11_allLying wsX11_allLying) := goodIn_app (goodIn_of _ (by decide +kernel)) ggX11_sums_X11_allLying
set_option maxRecDepth 20000 in
theorem ggX11_sums_X11_stales : GoodIn wsX11_sums wsX11_stales := goodIn_r _ [25, 2, 26, 27, 28, 7, 29, 19, 20, 21, 30, 31, 32, 33, 34, 35, 36, 37, 38, 39, 49, 50, 51, 52, 53, 54, 55, 56, 57, 58, 59, 60, 61, 62, 63, 64, 65] (by decide +kernel) (by decide +kernel)
set_option maxRecDepth 20000 in
theorem gX11_sums_X11_stales : GoodIn wsX11_sums (wsV RX11 350 RX11 yX11_stales wsX11_stales) := goodIn_app (goodIn_of _ (by decide +kernel)) ggX11_sums_X11_stales
set_option maxRecDepth 20000 in
theorem ggX11_sums_X11_cells : GoodIn wsX11_sums wsX11_cells := goodIn_r _ [43, 44, 2, 33, 34, 7, 35, 19, 20, 21, 36, 37, 38, 39, 45, 46, 47, 48, 49, 50, 51, 52, 53, 54, 55, 56, 57, 58, 59, 60, 61, 62, 63, 64, 65] (by decide +kernel) (by decide +kernel)
set_option maxRecDepth 20000 in
theorem gX11_sums_X11_cells : GoodIn wsX11_sums (wsV RX11 353 RX11 yX11_cells wsX11_cells) := goodIn_app (goodIn_of _ (by decide +kernel)) ggX11_sums_X11_cells
theorem dX11_sums_0 : decode cX11_sums 0 = .ok (.aload_n 0, 1) := by decide +kernel
theorem dX11_sums_1 : decode cX11_sums 1 = .ok (.invokevirtual 262, 3) := by decide +kernel
theorem dX11_sums_4 : decode cX11_sums 4 = .ok (.ifCond .ne 7, 3) := by decide +kernel
theorem dX11_sums_7 : decode cX11_sums 7 = .ok (.ldc_w 261, 3) := by decide +kernel
theorem dX11_sums_10 : decode cX11_sums 10 = .ok (.ireturn, 1) := by decide +kernel
theorem dX11_sums_11 : decode cX11_sums 11 = .ok (.iload_n 1, 1) := by decide +kernel
theorem dX11_sums_12 : decode cX11_sums 12 = .ok (.tableswitch 91 0 6 #[44, 52, 61, 66, 74, 79, 85], 44) := by decide +kernel
theorem dX11_sums_56 : decode cX11_sums 56 = .ok (.aload_n 0, 1) := by decide +kernel
theorem dX11_sums_57 : decode cX11_sums 57 = .ok (.getfield 7, 3) := by decide +kernel
theorem dX11_sums_60 : decode cX11_sums 60 = .ok (.iconst 5, 1) := by decide +kernel
theorem dX11_sums_61 : decode cX11_sums 61 = .ok (.laload, 1) := by decide +kernel
theorem dX11_sums_62 : decode cX11_sums 62 = .ok (.l2i, 1) := by decide +kernel
theorem dX11_sums_63 : decode cX11_sums 63 = .ok (.ireturn, 1) := by decide +kernel
theorem dX11_sums_64 : decode cX11_sums 64 = .ok (.aload_n 0, 1) := by decide +kernel
theorem dX11_sums_65 : decode cX11_sums 65 = .ok (.getfield 7, 3) := by decide +kernel
theorem dX11_sums_68 : decode cX11_sums 68 = .ok (.bipush 6, 2) := by decide +kernel
theorem dX11_sums_70 : decode cX11_sums 70 = .ok (.laload, 1) := by decide +kernel
theorem dX11_sums_71 : decode cX11_sums 71 = .ok (.l2i, 1) := by decide +kernel
theorem dX11_sums_72 : decode cX11_sums 72 = .ok (.ireturn, 1) := by decide +kernel
theorem dX11_sums_73 : decode cX11_sums 73 = .ok (.aload_n 0, 1) := by decide +kernel
theorem dX11_sums_74 : decode cX11_sums 74 = .ok (.invokevirtual 344, 3) := by decide +kernel
theorem dX11_sums_77 : decode cX11_sums 77 = .ok (.ireturn, 1) := by decide +kernel
theorem dX11_sums_78 : decode cX11_sums 78 = .ok (.aload_n 0, 1) := by decide +kernel
theorem dX11_sums_79 : decode cX11_sums 79 = .ok (.getfield 7, 3) := by decide +kernel
theorem dX11_sums_82 : decode cX11_sums 82 = .ok (.invokestatic 347, 3) := by decide +kernel
theorem dX11_sums_85 : decode cX11_sums 85 = .ok (.ireturn, 1) := by decide +kernel
theorem dX11_sums_86 : decode cX11_sums 86 = .ok (.aload_n 0, 1) := by decide +kernel
theorem dX11_sums_87 : decode cX11_sums 87 = .ok (.invokevirtual 350, 3) := by decide +kernel
theorem dX11_sums_90 : decode cX11_sums 90 = .ok (.ireturn, 1) := by decide +kernel
theorem dX11_sums_91 : decode cX11_sums 91 = .ok (.aload_n 0, 1) := by decide +kernel
theorem dX11_sums_92 : decode cX11_sums 92 = .ok (.iconst 0, 1) := by decide +kernel
theorem dX11_sums_93 : decode cX11_sums 93 = .ok (.invokevirtual 353, 3) := by decide +kernel
theorem dX11_sums_96 : decode cX11_sums 96 = .ok (.ireturn, 1) := by decide +kernel
theorem dX11_sums_97 : decode cX11_sums 97 = .ok (.aload_n 0, 1) := by decide +kernel
theorem dX11_sums_98 : decode cX11_sums 98 = .ok (.iconst 1, 1) := by decide +kernel
theorem dX11_sums_99 : decode cX11_sums 99 = .ok (.invokevirtual 353, 3) := by decide +kernel
theorem dX11_sums_102 : decode cX11_sums 102 = .ok (.ireturn, 1) := by decide +kernel
theorem dX11_sums_103 : decode cX11_sums 103 = .ok (.ldc 235, 2) := by decide +kernel
theorem dX11_sums_105 : decode cX11_sums 105 = .ok (.ireturn, 1) := by decide +kernel
theorem dX11_isOf_0 : decode cX11_isOf 0 = .ok (.iload_n 2, 1) := by decide +kernel
theorem dX11_isOf_1 : decode cX11_isOf 1 = .ok (.ifCond .eq 36, 3) := by decide +kernel
theorem dX11_isOf_4 : decode cX11_isOf 4 = .ok (.lload_n 0, 1) := by decide +kernel
theorem dX11_isOf_5 : decode cX11_isOf 5 = .ok (.iload_n 2, 1) := by decide +kernel
theorem dX11_isOf_6 : decode cX11_isOf 6 = .ok (.i2l, 1) := by decide +kernel
theorem dX11_isOf_7 : decode cX11_isOf 7 = .ok (.lcmp, 1) := by decide +kernel
theorem dX11_isOf_8 : decode cX11_isOf 8 = .ok (.ifCond .eq 29, 3) := by decide +kernel
theorem dX11_isOf_11 : decode cX11_isOf 11 = .ok (.iload_n 2, 1) := by decide +kernel
theorem dX11_isOf_12 : decode cX11_isOf 12 = .ok (.iconst 1, 1) := by decide +kernel
theorem dX11_isOf_13 : decode cX11_isOf 13 = .ok (.if_icmp .ne 11, 3) := by decide +kernel
theorem dX11_isOf_16 : decode cX11_isOf 16 = .ok (.lload_n 0, 1) := by decide +kernel
theorem dX11_isOf_17 : decode cX11_isOf 17 = .ok (.ldc2_w 88, 3) := by decide +kernel
theorem dX11_isOf_20 : decode cX11_isOf 20 = .ok (.lcmp, 1) := by decide +kernel
theorem dX11_isOf_21 : decode cX11_isOf 21 = .ok (.ifCond .lt 16, 3) := by decide +kernel
theorem dX11_isOf_24 : decode cX11_isOf 24 = .ok (.iload_n 2, 1) := by decide +kernel
theorem dX11_isOf_25 : decode cX11_isOf 25 = .ok (.iconst 4, 1) := by decide +kernel
theorem dX11_isOf_26 : decode cX11_isOf 26 = .ok (.if_icmp .ne 15, 3) := by decide +kernel
theorem dX11_isOf_29 : decode cX11_isOf 29 = .ok (.lload_n 0, 1) := by decide +kernel
theorem dX11_isOf_30 : decode cX11_isOf 30 = .ok (.ldc2_w 84, 3) := by decide +kernel
theorem dX11_isOf_33 : decode cX11_isOf 33 = .ok (.lcmp, 1) := by decide +kernel
theorem dX11_isOf_34 : decode cX11_isOf 34 = .ok (.ifCond .ne 7, 3) := by decide +kernel
theorem dX11_isOf_37 : decode cX11_isOf 37 = .ok (.iconst 1, 1) := by decide +kernel
theorem dX11_isOf_38 : decode cX11_isOf 38 = .ok (.goto 4, 3) := by decide +kernel
theorem dX11_isOf_41 : decode cX11_isOf 41 = .ok (.iconst 0, 1) := by decide +kernel
theorem dX11_isOf_42 : decode cX11_isOf 42 = .ok (.ireturn, 1) := by decide +kernel
set_option maxRecDepth 20000 in
theorem ggX11_as_X11_isHouse : GoodIn wsX11_as wsX11_isHouse := goodIn_r _ [10, 4, 21, 22, 23, 24, 25, 26, 27, 28, 29, 30, 31, 32, 33, 34, 35, 36, 37] (by decide +kernel) (by decide +kernel)
set_option maxRecDepth 20000 in
theorem gX11_as_X11_isHouse : GoodIn wsX11_as (wsV RX11 262 RX11 yX11_isHouse wsX11_isHouse) := goodIn_app (goodIn_of _ (by decide +kernel)) ggX11_as_X11_isHouse
set_option maxRecDepth 20000 in
theorem ggX11_as_X11_isFile : GoodIn wsX11_as wsX11_isFile := goodIn_r _ [13, 2, 14, 15, 9, 16] (by decide +kernel) (by decide +kernel)
set_option maxRecDepth 20000 in
theorem gX11_as_X11_isFile : GoodIn wsX11_as (va_wsS RX11 266 yX11_isFile wsX11_isFile) := goodIn_app (goodIn_of _ (by decide +kernel)) ggX11_as_X11_isFile
set_option maxRecDepth 20000 in
theorem ggX11_as_X11_in : GoodIn wsX11_as wsX11_in := goodIn_r _ [16] (by decide +kernel) (by decide +kernel)
set_option maxRecDepth 20000 in
theorem gX11_as_X11_in : GoodIn wsX11_as (va_wsS RX11 206 yX11_in wsX11_in) := goodIn_app (goodIn_of _ (by decide +kernel)) ggX11_as_X11_in
set_option maxRecDepth 20000 in
theorem ggX11_as_X11_isOf : GoodIn wsX11_as wsX11_isOf := goodIn_r _ [19, 20, 2] (by decide +kernel) (by decide +kernel)
set_option maxRecDepth 20000 in
theorem gX11_as_X11_isOf : GoodIn wsX11_as (va_wsS RX11 357 yX11_isOf wsX11_isOf) := goodIn_app (goodIn_of _ (by decide +kernel)) ggX11_as_X11_isOf
theorem dX11_as_0 : decode cX11_as 0 = .ok (.aload_n 0, 1) := by decide +kernel
theorem dX11_as_1 : decode cX11_as 1 = .ok (.invokevirtual 262, 3) := by decide +kernel
theorem dX11_as_4 : decode cX11_as 4 = .ok (.ifCond .ne 7, 3) := by decide +kernel
theorem dX11_as_7 : decode cX11_as 7 = .ok (.ldc_w 261, 3) := by decide +kernel
theorem dX11_as_10 : decode cX11_as 10 = .ok (.ireturn, 1) := by decide +kernel
theorem dX11_as_11 : decode cX11_as 11 = .ok (.iload_n 1, 1) := by decide +kernel
theorem dX11_as_12 : decode cX11_as 12 = .ok (.invokestatic 266, 3) := by decide +kernel
theorem dX11_as_15 : decode cX11_as 15 = .ok (.ifCond .eq 15, 3) := by decide +kernel
theorem dX11_as_18 : decode cX11_as 18 = .ok (.iload_n 2, 1) := by decide +kernel
theorem dX11_as_19 : decode cX11_as 19 = .ok (.i2l, 1) := by decide +kernel
theorem dX11_as_20 : decode cX11_as 20 = .ok (.lconst 0, 1) := by decide +kernel
theorem dX11_as_21 : decode cX11_as 21 = .ok (.ldc2_w 84, 3) := by decide +kernel
theorem dX11_as_24 : decode cX11_as 24 = .ok (.invokestatic 206, 3) := by decide +kernel
theorem dX11_as_27 : decode cX11_as 27 = .ok (.ifCond .ne 6, 3) := by decide +kernel
theorem dX11_as_30 : decode cX11_as 30 = .ok (.ldc 235, 2) := by decide +kernel
theorem dX11_as_32 : decode cX11_as 32 = .ok (.ireturn, 1) := by decide +kernel
theorem dX11_as_33 : decode cX11_as 33 = .ok (.aload_n 0, 1) := by decide +kernel
theorem dX11_as_34 : decode cX11_as 34 = .ok (.getfield 7, 3) := by decide +kernel
theorem dX11_as_37 : decode cX11_as 37 = .ok (.bipush 22, 2) := by decide +kernel
theorem dX11_as_39 : decode cX11_as 39 = .ok (.bipush 8, 2) := by decide +kernel
theorem dX11_as_41 : decode cX11_as 41 = .ok (.iload_n 1, 1) := by decide +kernel
theorem dX11_as_42 : decode cX11_as 42 = .ok (.imul, 1) := by decide +kernel
theorem dX11_as_43 : decode cX11_as 43 = .ok (.iadd, 1) := by decide +kernel
theorem dX11_as_44 : decode cX11_as 44 = .ok (.iconst 0, 1) := by decide +kernel
theorem dX11_as_45 : decode cX11_as 45 = .ok (.iadd, 1) := by decide +kernel
theorem dX11_as_46 : decode cX11_as 46 = .ok (.laload, 1) := by decide +kernel
theorem dX11_as_47 : decode cX11_as 47 = .ok (.lconst 0, 1) := by decide +kernel
theorem dX11_as_48 : decode cX11_as 48 = .ok (.lcmp, 1) := by decide +kernel
theorem dX11_as_49 : decode cX11_as 49 = .ok (.ifCond .ne 7, 3) := by decide +kernel
theorem dX11_as_52 : decode cX11_as 52 = .ok (.ldc_w 261, 3) := by decide +kernel
theorem dX11_as_55 : decode cX11_as 55 = .ok (.ireturn, 1) := by decide +kernel
theorem dX11_as_56 : decode cX11_as 56 = .ok (.aload_n 0, 1) := by decide +kernel
theorem dX11_as_57 : decode cX11_as 57 = .ok (.getfield 7, 3) := by decide +kernel
theorem dX11_as_60 : decode cX11_as 60 = .ok (.bipush 22, 2) := by decide +kernel
theorem dX11_as_62 : decode cX11_as 62 = .ok (.bipush 8, 2) := by decide +kernel
theorem dX11_as_64 : decode cX11_as 64 = .ok (.iload_n 1, 1) := by decide +kernel
theorem dX11_as_65 : decode cX11_as 65 = .ok (.imul, 1) := by decide +kernel
theorem dX11_as_66 : decode cX11_as 66 = .ok (.iadd, 1) := by decide +kernel
theorem dX11_as_67 : decode cX11_as 67 = .ok (.iconst 1, 1) := by decide +kernel
theorem dX11_as_68 : decode cX11_as 68 = .ok (.iadd, 1) := by decide +kernel
theorem dX11_as_69 : decode cX11_as 69 = .ok (.laload, 1) := by decide +kernel
theorem dX11_as_70 : decode cX11_as 70 = .ok (.iload_n 2, 1) := by decide +kernel
theorem dX11_as_71 : decode cX11_as 71 = .ok (.invokestatic 357, 3) := by decide +kernel
theorem dX11_as_74 : decode cX11_as 74 = .ok (.ifCond .eq 7, 3) := by decide +kernel
theorem dX11_as_77 : decode cX11_as 77 = .ok (.iload_n 1, 1) := by decide +kernel
theorem dX11_as_78 : decode cX11_as 78 = .ok (.goto 5, 3) := by decide +kernel
theorem dX11_as_81 : decode cX11_as 81 = .ok (.ldc 186, 2) := by decide +kernel
theorem dX11_as_83 : decode cX11_as 83 = .ok (.ireturn, 1) := by decide +kernel
set_option maxRecDepth 20000 in
theorem ggX11_target_X11_isHouse : GoodIn wsX11_target wsX11_isHouse := goodIn_r _ [9, 3, 44, 45, 46, 47, 48, 49, 50, 51, 52, 53, 54, 55, 56, 57, 58, 59, 60] (by decide +kernel) (by decide +kernel)
set_option maxRecDepth 20000 in
theorem gX11_target_X11_isHouse : GoodIn wsX11_target (wsV RX11 262 RX11 yX11_isHouse wsX11_isHouse) := goodIn_app (goodIn_of _ (by decide +kernel)) ggX11_target_X11_isHouse
set_option maxRecDepth 20000 in
theorem ggX11_target_X11_in : GoodIn wsX11_target wsX11_in := goodIn_r _ [12] (by decide +kernel) (by decide +kernel)
set_option maxRecDepth 20000 in
theorem gX11_target_X11_in : GoodIn wsX11_target (va_wsS RX11 206 yX11_in wsX11_in) := goodIn_app (goodIn_of _ (by decide +kernel)) ggX11_target_X11_in
set_option maxRecDepth 20000 in
theorem ggX11_target_X11_wanted : GoodIn wsX11_target wsX11_wanted := goodIn_r _ [15, 2, 16] (by decide +kernel) (by decide +kernel)
set_option maxRecDepth 20000 in
theorem gX11_target_X11_wanted : GoodIn wsX11_target (va_wsS RX11 108 yX11_wanted wsX11_wanted) := goodIn_app (goodIn_of _ (by decide +kernel)) ggX11_target_X11_wanted
set_option maxRecDepth 20000 in
theorem ggX11_target_X11_targets : GoodIn wsX11_target wsX11_targets := goodIn_r _ [19, 20, 21, 8, 22, 23, 24, 25, 26, 27, 28, 29, 30, 31, 32, 33, 34, 35, 36, 37, 38, 39, 40, 41, 42, 43] (by decide +kernel) (by decide +kernel)
set_option maxRecDepth 20000 in
theorem gX11_target_X11_targets : GoodIn wsX11_target (va_wsS RX11 112 yX11_targets wsX11_targets) := goodIn_app (goodIn_of _ (by decide +kernel)) ggX11_target_X11_targets
theorem dX11_target_0 : decode cX11_target 0 = .ok (.aload_n 0, 1) := by decide +kernel
theorem dX11_target_1 : decode cX11_target 1 = .ok (.invokevirtual 262, 3) := by decide +kernel
theorem dX11_target_4 : decode cX11_target 4 = .ok (.ifCond .ne 7, 3) := by decide +kernel
theorem dX11_target_7 : decode cX11_target 7 = .ok (.ldc_w 261, 3) := by decide +kernel
theorem dX11_target_10 : decode cX11_target 10 = .ok (.ireturn, 1) := by decide +kernel
theorem dX11_target_11 : decode cX11_target 11 = .ok (.iload_n 1, 1) := by decide +kernel
theorem dX11_target_12 : decode cX11_target 12 = .ok (.i2l, 1) := by decide +kernel
theorem dX11_target_13 : decode cX11_target 13 = .ok (.lconst 1, 1) := by decide +kernel
theorem dX11_target_14 : decode cX11_target 14 = .ok (.ldc2_w 84, 3) := by decide +kernel
theorem dX11_target_17 : decode cX11_target 17 = .ok (.invokestatic 206, 3) := by decide +kernel
theorem dX11_target_20 : decode cX11_target 20 = .ok (.ifCond .eq 22, 3) := by decide +kernel
theorem dX11_target_23 : decode cX11_target 23 = .ok (.aload_n 0, 1) := by decide +kernel
theorem dX11_target_24 : decode cX11_target 24 = .ok (.getfield 7, 3) := by decide +kernel
theorem dX11_target_27 : decode cX11_target 27 = .ok (.aload_n 0, 1) := by decide +kernel
theorem dX11_target_28 : decode cX11_target 28 = .ok (.getfield 7, 3) := by decide +kernel
theorem dX11_target_31 : decode cX11_target 31 = .ok (.iload_n 1, 1) := by decide +kernel
theorem dX11_target_32 : decode cX11_target 32 = .ok (.i2l, 1) := by decide +kernel
theorem dX11_target_33 : decode cX11_target 33 = .ok (.invokestatic 108, 3) := by decide +kernel
theorem dX11_target_36 : decode cX11_target 36 = .ok (.invokestatic 112, 3) := by decide +kernel
theorem dX11_target_39 : decode cX11_target 39 = .ok (.goto 5, 3) := by decide +kernel
theorem dX11_target_42 : decode cX11_target 42 = .ok (.ldc 235, 2) := by decide +kernel
theorem dX11_target_44 : decode cX11_target 44 = .ok (.ireturn, 1) := by decide +kernel
set_option maxRecDepth 20000 in
theorem ggX11_left_X11_isHouse : GoodIn wsX11_left wsX11_isHouse := goodIn_r _ [9, 3, 56, 57, 58, 59, 60, 61, 62, 63, 64, 65, 66, 67, 68, 69, 70, 71, 72] (by decide +kernel) (by decide +kernel)
set_option maxRecDepth 20000 in
theorem gX11_left_X11_isHouse : GoodIn wsX11_left (wsV RX11 262 RX11 yX11_isHouse wsX11_isHouse) := goodIn_app (goodIn_of _ (by decide +kernel)) ggX11_left_X11_isHouse
set_option maxRecDepth 20000 in
theorem ggX11_left_X11_isFile : GoodIn wsX11_left wsX11_isFile := goodIn_r _ [12, 13, 14, 15, 8, 16] (by decide +kernel) (by decide +kernel)
set_option maxRecDepth 20000 in
theorem gX11_left_X11_isFile : GoodIn wsX11_left (va_wsS RX11 266 yX11_isFile wsX11_isFile) := goodIn_app (goodIn_of _ (by decide +kernel)) ggX11_left_X11_isFile
set_option maxRecDepth 20000 in
theorem ggX11_left_X11_isThere : GoodIn wsX11_left wsX11_isThere := goodIn_r _ [20, 3, 56, 57, 58, 59, 60, 61, 62, 63, 64, 65, 66, 67, 68, 69, 70, 71, 72] (by decide +kernel) (by decide +kernel)
set_option maxRecDepth 20000 in
theorem gX11_left_X11_isThere : GoodIn wsX11_left (wsV RX11 278 RX11 yX11_isThere wsX11_isThere) := goodIn_app (goodIn_of _ (by decide +kernel)) ggX11_left_X11_isThere
set_option maxRecDepth 20000 in
theorem ggX11_left_X11_many : GoodIn wsX11_left wsX11_many := goodIn_r _ [23] (by decide +kernel) (by decide +kernel)
set_option maxRecDepth 20000 in
theorem gX11_left_X11_many : GoodIn wsX11_left (va_wsS RX11 90 yX11_many wsX11_many) := goodIn_app (goodIn_of _ (by decide +kernel)) ggX11_left_X11_many
set_option maxRecDepth 20000 in
theorem ggX11_left_X11_lastOf : GoodIn wsX11_left wsX11_lastOf := goodIn_r _ [26, 21, 22, 8, 23, 27, 28, 29] (by decide +kernel) (by decide +kernel)
set_option maxRecDepth 20000 in
theorem gX11_left_X11_lastOf : GoodIn wsX11_left (va_wsS RX11 160 yX11_lastOf wsX11_lastOf) := goodIn_app (goodIn_of _ (by decide +kernel)) ggX11_left_X11_lastOf
set_option maxRecDepth 20000 in
theorem ggX11_left_X11_ables : GoodIn wsX11_left wsX11_ables := goodIn_r _ [32, 33, 34, 8, 35, 36, 37, 38, 39, 40, 41, 42, 43, 44, 45, 46, 47, 48] (by decide +kernel) (by decide +kernel)
set_option maxRecDepth 20000 in
theorem gX11_left_X11_ables : GoodIn wsX11_left (va_wsS RX11 124 yX11_ables wsX11_ables) := goodIn_app (goodIn_of _ (by decide +kernel)) ggX11_left_X11_ables
set_option maxRecDepth 20000 in
theorem ggX11_left_X11_greatestFilled : GoodIn wsX11_left wsX11_greatestFilled := goodIn_r _ [51, 33, 34, 8, 35, 36, 37, 38, 39, 40, 41, 42, 43, 44, 45, 46, 47, 48, 52, 53, 54, 55] (by decide +kernel) (by decide +kernel)
set_option maxRecDepth 20000 in
theorem gX11_left_X11_greatestFilled : GoodIn wsX11_left (va_wsS RX11 169 yX11_greatestFilled wsX11_greatestFilled) := goodIn_app (goodIn_of _ (by decide +kernel)) ggX11_left_X11_greatestFilled
theorem dX11_left_0 : decode cX11_left 0 = .ok (.aload_n 0, 1) := by decide +kernel
theorem dX11_left_1 : decode cX11_left 1 = .ok (.invokevirtual 262, 3) := by decide +kernel
theorem dX11_left_4 : decode cX11_left 4 = .ok (.ifCond .ne 7, 3) := by decide +kernel
theorem dX11_left_7 : decode cX11_left 7 = .ok (.ldc_w 261, 3) := by decide +kernel
theorem dX11_left_10 : decode cX11_left 10 = .ok (.ireturn, 1) := by decide +kernel
theorem dX11_left_11 : decode cX11_left 11 = .ok (.iload_n 1, 1) := by decide +kernel
theorem dX11_left_12 : decode cX11_left 12 = .ok (.invokestatic 266, 3) := by decide +kernel
theorem dX11_left_15 : decode cX11_left 15 = .ok (.ifCond .ne 6, 3) := by decide +kernel
theorem dX11_left_18 : decode cX11_left 18 = .ok (.ldc 235, 2) := by decide +kernel
theorem dX11_left_20 : decode cX11_left 20 = .ok (.ireturn, 1) := by decide +kernel
theorem dX11_left_21 : decode cX11_left 21 = .ok (.aload_n 0, 1) := by decide +kernel
theorem dX11_left_22 : decode cX11_left 22 = .ok (.iload_n 1, 1) := by decide +kernel
theorem dX11_left_23 : decode cX11_left 23 = .ok (.invokevirtual 278, 3) := by decide +kernel
theorem dX11_left_26 : decode cX11_left 26 = .ok (.ifCond .ne 7, 3) := by decide +kernel
theorem dX11_left_29 : decode cX11_left 29 = .ok (.ldc_w 261, 3) := by decide +kernel
theorem dX11_left_32 : decode cX11_left 32 = .ok (.ireturn, 1) := by decide +kernel
theorem dX11_left_33 : decode cX11_left 33 = .ok (.aload_n 0, 1) := by decide +kernel
theorem dX11_left_34 : decode cX11_left 34 = .ok (.getfield 7, 3) := by decide +kernel
theorem dX11_left_37 : decode cX11_left 37 = .ok (.iload_n 1, 1) := by decide +kernel
theorem dX11_left_38 : decode cX11_left 38 = .ok (.invokestatic 90, 3) := by decide +kernel
theorem dX11_left_41 : decode cX11_left 41 = .ok (.ifCond .eq 21, 3) := by decide +kernel
theorem dX11_left_44 : decode cX11_left 44 = .ok (.aload_n 0, 1) := by decide +kernel
theorem dX11_left_45 : decode cX11_left 45 = .ok (.getfield 7, 3) := by decide +kernel
theorem dX11_left_48 : decode cX11_left 48 = .ok (.aload_n 0, 1) := by decide +kernel
theorem dX11_left_49 : decode cX11_left 49 = .ok (.getfield 7, 3) := by decide +kernel
theorem dX11_left_52 : decode cX11_left 52 = .ok (.iload_n 1, 1) := by decide +kernel
theorem dX11_left_53 : decode cX11_left 53 = .ok (.invokestatic 160, 3) := by decide +kernel
theorem dX11_left_56 : decode cX11_left 56 = .ok (.invokestatic 124, 3) := by decide +kernel
theorem dX11_left_59 : decode cX11_left 59 = .ok (.ifCond .ne 6, 3) := by decide +kernel
theorem dX11_left_62 : decode cX11_left 62 = .ok (.ldc 186, 2) := by decide +kernel
theorem dX11_left_64 : decode cX11_left 64 = .ok (.ireturn, 1) := by decide +kernel
theorem dX11_left_65 : decode cX11_left 65 = .ok (.aload_n 0, 1) := by decide +kernel
theorem dX11_left_66 : decode cX11_left 66 = .ok (.getfield 7, 3) := by decide +kernel
theorem dX11_left_69 : decode cX11_left 69 = .ok (.iconst 2, 1) := by decide +kernel
theorem dX11_left_70 : decode cX11_left 70 = .ok (.laload, 1) := by decide +kernel
theorem dX11_left_71 : decode cX11_left 71 = .ok (.l2i, 1) := by decide +kernel
theorem dX11_left_72 : decode cX11_left 72 = .ok (.aload_n 0, 1) := by decide +kernel
theorem dX11_left_73 : decode cX11_left 73 = .ok (.getfield 7, 3) := by decide +kernel
theorem dX11_left_76 : decode cX11_left 76 = .ok (.aload_n 0, 1) := by decide +kernel
theorem dX11_left_77 : decode cX11_left 77 = .ok (.getfield 7, 3) := by decide +kernel
theorem dX11_left_80 : decode cX11_left 80 = .ok (.iload_n 1, 1) := by decide +kernel
theorem dX11_left_81 : decode cX11_left 81 = .ok (.invokestatic 160, 3) := by decide +kernel
theorem dX11_left_84 : decode cX11_left 84 = .ok (.invokestatic 169, 3) := by decide +kernel
theorem dX11_left_87 : decode cX11_left 87 = .ok (.isub, 1) := by decide +kernel
theorem dX11_left_88 : decode cX11_left 88 = .ok (.ireturn, 1) := by decide +kernel
set_option maxRecDepth 20000 in
theorem ggX11_strength_X11_isHouse : GoodIn wsX11_strength wsX11_isHouse := goodIn_r _ [9, 3, 52, 53, 54, 55, 56, 57, 58, 59, 60, 61, 62, 63, 64, 65, 66, 67, 68] (by decide +kernel) (by decide +kernel)
set_option maxRecDepth 20000 in
theorem gX11_strength_X11_isHouse : GoodIn wsX11_strength (wsV RX11 262 RX11 yX11_isHouse wsX11_isHouse) := goodIn_app (goodIn_of _ (by decide +kernel)) ggX11_strength_X11_isHouse
set_option maxRecDepth 20000 in
theorem ggX11_strength_X11_isFile : GoodIn wsX11_strength wsX11_isFile := goodIn_r _ [12, 13, 14, 15, 8, 16] (by decide +kernel) (by decide +kernel)
set_option maxRecDepth 20000 in
theorem gX11_strength_X11_isFile : GoodIn wsX11_strength (va_wsS RX11 266 yX11_isFile wsX11_isFile) := goodIn_app (goodIn_of _ (by decide +kernel)) ggX11_strength_X11_isFile
set_option maxRecDepth 20000 in
theorem ggX11_strength_X11_isThere : GoodIn wsX11_strength wsX11_isThere := goodIn_r _ [20, 3, 52, 53, 54, 55, 56, 57, 58, 59, 60, 61, 62, 63, 64, 65, 66, 67, 68] (by decide +kernel) (by decide +kernel)
set_option maxRecDepth 20000 in
theorem gX11_strength_X11_isThere : GoodIn wsX11_strength (wsV RX11 278 RX11 yX11_isThere wsX11_isThere) := goodIn_app (goodIn_of _ (by decide +kernel)) ggX11_strength_X11_isThere
set_option maxRecDepth 20000 in
theorem ggX11_strength_X11_many : GoodIn wsX11_strength wsX11_many := goodIn_r _ [23] (by decide +kernel) (by decide +kernel)
set_option maxRecDepth 20000 in
theorem gX11_strength_X11_many : GoodIn wsX11_strength (va_wsS RX11 90 yX11_many wsX11_many) := goodIn_app (goodIn_of _ (by decide +kernel)) ggX11_strength_X11_many
set_option maxRecDepth 20000 in
theorem ggX11_strength_X11_chunkOf : GoodIn wsX11_strength wsX11_chunkOf := goodIn_r _ [26] (by decide +kernel) (by decide +kernel)
set_option maxRecDepth 20000 in
theorem gX11_strength_X11_chunkOf : GoodIn wsX11_strength (va_wsS RX11 93 yX11_chunkOf wsX11_chunkOf) := goodIn_app (goodIn_of _ (by decide +kernel)) ggX11_strength_X11_chunkOf
set_option maxRecDepth 20000 in
theorem ggX11_strength_X11_ables : GoodIn wsX11_strength wsX11_ables := goodIn_r _ [29, 30, 31, 8, 32, 33, 34, 35, 36, 37, 38, 39, 40, 41, 42, 43, 44, 45] (by decide +kernel) (by decide +kernel)
set_option maxRecDepth 20000 in
theorem gX11_strength_X11_ables : GoodIn wsX11_strength (va_wsS RX11 124 yX11_ables wsX11_ables) := goodIn_app (goodIn_of _ (by decide +kernel)) ggX11_strength_X11_ables
set_option maxRecDepth 20000 in
theorem ggX11_strength_X11_ones : GoodIn wsX11_strength wsX11_ones := goodIn_r _ [48, 49, 50, 8, 51] (by decide +kernel) (by decide +kernel)
set_option maxRecDepth 20000 in
theorem gX11_strength_X11_ones : GoodIn wsX11_strength (va_wsS RX11 180 yX11_ones wsX11_ones) := goodIn_app (goodIn_of _ (by decide +kernel)) ggX11_strength_X11_ones
theorem dX11_strength_0 : decode cX11_strength 0 = .ok (.aload_n 0, 1) := by decide +kernel
theorem dX11_strength_1 : decode cX11_strength 1 = .ok (.invokevirtual 262, 3) := by decide +kernel
theorem dX11_strength_4 : decode cX11_strength 4 = .ok (.ifCond .ne 7, 3) := by decide +kernel
theorem dX11_strength_7 : decode cX11_strength 7 = .ok (.ldc_w 261, 3) := by decide +kernel
theorem dX11_strength_10 : decode cX11_strength 10 = .ok (.ireturn, 1) := by decide +kernel
theorem dX11_strength_11 : decode cX11_strength 11 = .ok (.iload_n 1, 1) := by decide +kernel
theorem dX11_strength_12 : decode cX11_strength 12 = .ok (.invokestatic 266, 3) := by decide +kernel
theorem dX11_strength_15 : decode cX11_strength 15 = .ok (.ifCond .ne 6, 3) := by decide +kernel
theorem dX11_strength_18 : decode cX11_strength 18 = .ok (.ldc 235, 2) := by decide +kernel
theorem dX11_strength_20 : decode cX11_strength 20 = .ok (.ireturn, 1) := by decide +kernel
theorem dX11_strength_21 : decode cX11_strength 21 = .ok (.aload_n 0, 1) := by decide +kernel
theorem dX11_strength_22 : decode cX11_strength 22 = .ok (.iload_n 1, 1) := by decide +kernel
theorem dX11_strength_23 : decode cX11_strength 23 = .ok (.invokevirtual 278, 3) := by decide +kernel
theorem dX11_strength_26 : decode cX11_strength 26 = .ok (.ifCond .ne 7, 3) := by decide +kernel
theorem dX11_strength_29 : decode cX11_strength 29 = .ok (.ldc_w 261, 3) := by decide +kernel
theorem dX11_strength_32 : decode cX11_strength 32 = .ok (.ireturn, 1) := by decide +kernel
theorem dX11_strength_33 : decode cX11_strength 33 = .ok (.aload_n 0, 1) := by decide +kernel
theorem dX11_strength_34 : decode cX11_strength 34 = .ok (.getfield 7, 3) := by decide +kernel
theorem dX11_strength_37 : decode cX11_strength 37 = .ok (.iload_n 1, 1) := by decide +kernel
theorem dX11_strength_38 : decode cX11_strength 38 = .ok (.invokestatic 90, 3) := by decide +kernel
theorem dX11_strength_41 : decode cX11_strength 41 = .ok (.ifCond .ne 7, 3) := by decide +kernel
theorem dX11_strength_44 : decode cX11_strength 44 = .ok (.iconst 0, 1) := by decide +kernel
theorem dX11_strength_45 : decode cX11_strength 45 = .ok (.goto 5, 3) := by decide +kernel
theorem dX11_strength_48 : decode cX11_strength 48 = .ok (.bipush 9, 2) := by decide +kernel
theorem dX11_strength_50 : decode cX11_strength 50 = .ok (.istore_n 2, 1) := by decide +kernel
theorem dX11_strength_51 : decode cX11_strength 51 = .ok (.iconst 0, 1) := by decide +kernel
theorem dX11_strength_52 : decode cX11_strength 52 = .ok (.istore_n 3, 1) := by decide +kernel
theorem dX11_strength_53 : decode cX11_strength 53 = .ok (.iload_n 3, 1) := by decide +kernel
theorem dX11_strength_54 : decode cX11_strength 54 = .ok (.aload_n 0, 1) := by decide +kernel
theorem dX11_strength_55 : decode cX11_strength 55 = .ok (.getfield 7, 3) := by decide +kernel
theorem dX11_strength_58 : decode cX11_strength 58 = .ok (.iload_n 1, 1) := by decide +kernel
theorem dX11_strength_59 : decode cX11_strength 59 = .ok (.invokestatic 90, 3) := by decide +kernel
theorem dX11_strength_62 : decode cX11_strength 62 = .ok (.if_icmp .ge 43, 3) := by decide +kernel
theorem dX11_strength_65 : decode cX11_strength 65 = .ok (.aload_n 0, 1) := by decide +kernel
theorem dX11_strength_66 : decode cX11_strength 66 = .ok (.getfield 7, 3) := by decide +kernel
theorem dX11_strength_69 : decode cX11_strength 69 = .ok (.aload_n 0, 1) := by decide +kernel
theorem dX11_strength_70 : decode cX11_strength 70 = .ok (.getfield 7, 3) := by decide +kernel
theorem dX11_strength_73 : decode cX11_strength 73 = .ok (.iload_n 1, 1) := by decide +kernel
theorem dX11_strength_74 : decode cX11_strength 74 = .ok (.iload_n 3, 1) := by decide +kernel
theorem dX11_strength_75 : decode cX11_strength 75 = .ok (.invokestatic 93, 3) := by decide +kernel
theorem dX11_strength_78 : decode cX11_strength 78 = .ok (.invokestatic 124, 3) := by decide +kernel
theorem dX11_strength_81 : decode cX11_strength 81 = .ok (.invokestatic 180, 3) := by decide +kernel
theorem dX11_strength_84 : decode cX11_strength 84 = .ok (.istore 4, 2) := by decide +kernel
theorem dX11_strength_86 : decode cX11_strength 86 = .ok (.iload 4, 2) := by decide +kernel
theorem dX11_strength_88 : decode cX11_strength 88 = .ok (.iload_n 2, 1) := by decide +kernel
theorem dX11_strength_89 : decode cX11_strength 89 = .ok (.if_icmp .ge 8, 3) := by decide +kernel
theorem dX11_strength_92 : decode cX11_strength 92 = .ok (.iload 4, 2) := by decide +kernel
theorem dX11_strength_94 : decode cX11_strength 94 = .ok (.goto 4, 3) := by decide +kernel
theorem dX11_strength_97 : decode cX11_strength 97 = .ok (.iload_n 2, 1) := by decide +kernel
theorem dX11_strength_98 : decode cX11_strength 98 = .ok (.istore_n 2, 1) := by decide +kernel
theorem dX11_strength_99 : decode cX11_strength 99 = .ok (.iinc 3 1, 3) := by decide +kernel
theorem dX11_strength_102 : decode cX11_strength 102 = .ok (.goto (-49), 3) := by decide +kernel
theorem dX11_strength_105 : decode cX11_strength 105 = .ok (.iload_n 2, 1) := by decide +kernel
theorem dX11_strength_106 : decode cX11_strength 106 = .ok (.ifCond .ne 8, 3) := by decide +kernel
theorem dX11_strength_109 : decode cX11_strength 109 = .ok (.ldc 186, 2) := by decide +kernel
theorem dX11_strength_111 : decode cX11_strength 111 = .ok (.goto 6, 3) := by decide +kernel
theorem dX11_strength_114 : decode cX11_strength 114 = .ok (.iload_n 2, 1) := by decide +kernel
theorem dX11_strength_115 : decode cX11_strength 115 = .ok (.iconst 1, 1) := by decide +kernel
theorem dX11_strength_116 : decode cX11_strength 116 = .ok (.isub, 1) := by decide +kernel
theorem dX11_strength_117 : decode cX11_strength 117 = .ok (.ireturn, 1) := by decide +kernel
set_option maxRecDepth 20000 in
theorem ggX11_mends_X11_isHouse : GoodIn wsX11_mends wsX11_isHouse := goodIn_r _ [8, 9, 77, 78, 79, 80, 81, 82, 83, 84, 85, 86, 87, 88, 89, 90, 91, 92, 93] (by decide +kernel) (by decide +kernel)
set_option maxRecDepth 20000 in
theorem gX11_mends_X11_isHouse : GoodIn wsX11_mends (wsV RX11 262 RX11 yX11_isHouse wsX11_isHouse) := goodIn_app (goodIn_of _ (by decide +kernel)) ggX11_mends_X11_isHouse
set_option maxRecDepth 20000 in
theorem ggX11_mends_X11_tries : GoodIn wsX11_mends wsX11_tries := goodIn_r _ [13, 9, 2, 14, 15, 7, 16, 77, 78, 79, 80, 81, 82, 83, 84, 85, 86, 87, 88, 89, 90, 91, 92, 93] (by decide +kernel) (by decide +kernel)
set_option maxRecDepth 20000 in
theorem gX11_mends_X11_tries : GoodIn wsX11_mends (wsV RX11 361 RX11 yX11_tries wsX11_tries) := goodIn_app (goodIn_of _ (by decide +kernel)) ggX11_mends_X11_tries
set_option maxRecDepth 20000 in
theorem ggX11_mends_X11_poor : GoodIn wsX11_mends wsX11_poor := goodIn_r _ [19, 3, 20, 21, 7, 22, 23, 24, 25, 26, 27, 28, 29, 30, 31, 32, 33, 34, 35, 36, 37, 38, 39, 40, 41, 42, 43, 44, 45, 46, 47, 48, 49, 50, 51, 52, 53, 54, 55, 56, 57, 58, 59, 60, 61] (by decide +kernel) (by decide +kernel)
set_option maxRecDepth 20000 in
theorem gX11_mends_X11_poor : GoodIn wsX11_mends (va_wsS RX11 312 yX11_poor wsX11_poor) := goodIn_app (goodIn_of _ (by decide +kernel)) ggX11_mends_X11_poor
set_option maxRecDepth 20000 in
theorem ggX11_mends_X11_gives : GoodIn wsX11_mends wsX11_gives := goodIn_r _ [64, 20, 21, 7, 22, 23, 24, 25, 26, 27, 28, 29, 30, 31, 32, 33, 34, 35, 36, 37, 38, 59, 60, 61, 65, 66, 67, 68, 69, 70, 42, 43, 44, 71, 72, 73, 74, 75, 76] (by decide +kernel) (by decide +kernel)
set_option maxRecDepth 20000 in
theorem gX11_mends_X11_gives : GoodIn wsX11_mends (va_wsS RX11 315 yX11_gives wsX11_gives) := goodIn_app (goodIn_of _ (by decide +kernel)) ggX11_mends_X11_gives
theorem dX11_mends_0 : decode cX11_mends 0 = .ok (.aload_n 0, 1) := by decide +kernel
theorem dX11_mends_1 : decode cX11_mends 1 = .ok (.invokevirtual 262, 3) := by decide +kernel
theorem dX11_mends_4 : decode cX11_mends 4 = .ok (.ifCond .ne 7, 3) := by decide +kernel
theorem dX11_mends_7 : decode cX11_mends 7 = .ok (.ldc_w 261, 3) := by decide +kernel
theorem dX11_mends_10 : decode cX11_mends 10 = .ok (.ireturn, 1) := by decide +kernel
theorem dX11_mends_11 : decode cX11_mends 11 = .ok (.aload_n 0, 1) := by decide +kernel
theorem dX11_mends_12 : decode cX11_mends 12 = .ok (.invokevirtual 361, 3) := by decide +kernel
theorem dX11_mends_15 : decode cX11_mends 15 = .ok (.iconst 0, 1) := by decide +kernel
theorem dX11_mends_16 : decode cX11_mends 16 = .ok (.istore_n 1, 1) := by decide +kernel
theorem dX11_mends_17 : decode cX11_mends 17 = .ok (.aload_n 0, 1) := by decide +kernel
theorem dX11_mends_18 : decode cX11_mends 18 = .ok (.getfield 13, 3) := by decide +kernel
theorem dX11_mends_21 : decode cX11_mends 21 = .ok (.invokestatic 312, 3) := by decide +kernel
theorem dX11_mends_24 : decode cX11_mends 24 = .ok (.istore_n 2, 1) := by decide +kernel
theorem dX11_mends_25 : decode cX11_mends 25 = .ok (.iload_n 2, 1) := by decide +kernel
theorem dX11_mends_26 : decode cX11_mends 26 = .ok (.ldc 186, 2) := by decide +kernel
theorem dX11_mends_28 : decode cX11_mends 28 = .ok (.if_icmp .eq 25, 3) := by decide +kernel
theorem dX11_mends_31 : decode cX11_mends 31 = .ok (.aload_n 0, 1) := by decide +kernel
theorem dX11_mends_32 : decode cX11_mends 32 = .ok (.getfield 13, 3) := by decide +kernel
theorem dX11_mends_35 : decode cX11_mends 35 = .ok (.iload_n 2, 1) := by decide +kernel
theorem dX11_mends_36 : decode cX11_mends 36 = .ok (.invokestatic 315, 3) := by decide +kernel
theorem dX11_mends_39 : decode cX11_mends 39 = .ok (.iinc 1 1, 3) := by decide +kernel
theorem dX11_mends_42 : decode cX11_mends 42 = .ok (.aload_n 0, 1) := by decide +kernel
theorem dX11_mends_43 : decode cX11_mends 43 = .ok (.getfield 13, 3) := by decide +kernel
theorem dX11_mends_46 : decode cX11_mends 46 = .ok (.invokestatic 312, 3) := by decide +kernel
theorem dX11_mends_49 : decode cX11_mends 49 = .ok (.istore_n 2, 1) := by decide +kernel
theorem dX11_mends_50 : decode cX11_mends 50 = .ok (.goto (-25), 3) := by decide +kernel
theorem dX11_mends_53 : decode cX11_mends 53 = .ok (.iload_n 1, 1) := by decide +kernel
theorem dX11_mends_54 : decode cX11_mends 54 = .ok (.ireturn, 1) := by decide +kernel
theorem dX11_gcd_0 : decode cX11_gcd 0 = .ok (.lload_n 0, 1) := by decide +kernel
theorem dX11_gcd_1 : decode cX11_gcd 1 = .ok (.lstore 4, 2) := by decide +kernel
theorem dX11_gcd_3 : decode cX11_gcd 3 = .ok (.lload_n 2, 1) := by decide +kernel
theorem dX11_gcd_4 : decode cX11_gcd 4 = .ok (.lstore 6, 2) := by decide +kernel
theorem dX11_gcd_6 : decode cX11_gcd 6 = .ok (.lload 6, 2) := by decide +kernel
theorem dX11_gcd_8 : decode cX11_gcd 8 = .ok (.lconst 0, 1) := by decide +kernel
theorem dX11_gcd_9 : decode cX11_gcd 9 = .ok (.lcmp, 1) := by decide +kernel
theorem dX11_gcd_10 : decode cX11_gcd 10 = .ok (.ifCond .eq 21, 3) := by decide +kernel
theorem dX11_gcd_13 : decode cX11_gcd 13 = .ok (.lload 4, 2) := by decide +kernel
theorem dX11_gcd_15 : decode cX11_gcd 15 = .ok (.lload 6, 2) := by decide +kernel
theorem dX11_gcd_17 : decode cX11_gcd 17 = .ok (.lrem, 1) := by decide +kernel
theorem dX11_gcd_18 : decode cX11_gcd 18 = .ok (.lstore 8, 2) := by decide +kernel
theorem dX11_gcd_20 : decode cX11_gcd 20 = .ok (.lload 6, 2) := by decide +kernel
theorem dX11_gcd_22 : decode cX11_gcd 22 = .ok (.lstore 4, 2) := by decide +kernel
theorem dX11_gcd_24 : decode cX11_gcd 24 = .ok (.lload 8, 2) := by decide +kernel
theorem dX11_gcd_26 : decode cX11_gcd 26 = .ok (.lstore 6, 2) := by decide +kernel
theorem dX11_gcd_28 : decode cX11_gcd 28 = .ok (.goto (-22), 3) := by decide +kernel
theorem dX11_gcd_31 : decode cX11_gcd 31 = .ok (.lload 4, 2) := by decide +kernel
theorem dX11_gcd_33 : decode cX11_gcd 33 = .ok (.lreturn, 1) := by decide +kernel
set_option maxRecDepth 20000 in
theorem ggX11_isReadable_X11_many : GoodIn wsX11_isReadable wsX11_many := goodIn_r _ [5] (by decide +kernel) (by decide +kernel)
set_option maxRecDepth 20000 in
theorem gX11_isReadable_X11_many : GoodIn wsX11_isReadable (va_wsS RX11 90 yX11_many wsX11_many) := goodIn_app (goodIn_of _ (by decide +kernel)) ggX11_isReadable_X11_many
set_option maxRecDepth 20000 in
theorem ggX11_isReadable_X11_chunkOf : GoodIn wsX11_isReadable wsX11_chunkOf := goodIn_r _ [8] (by decide +kernel) (by decide +kernel)
set_option maxRecDepth 20000 in
theorem gX11_isReadable_X11_chunkOf : GoodIn wsX11_isReadable (va_wsS RX11 93 yX11_chunkOf wsX11_chunkOf) := goodIn_app (goodIn_of _ (by decide +kernel)) ggX11_isReadable_X11_chunkOf
set_option maxRecDepth 20000 in
theorem ggX11_isReadable_X11_ables : GoodIn wsX11_isReadable wsX11_ables := goodIn_r _ [11, 12, 13, 4, 14, 15, 16, 17, 18, 19, 20, 21, 22, 23, 24, 25, 26, 27] (by decide +kernel) (by decide +kernel)
set_option maxRecDepth 20000 in
theorem gX11_isReadable_X11_ables : GoodIn wsX11_isReadable (va_wsS RX11 124 yX11_ables wsX11_ables) := goodIn_app (goodIn_of _ (by decide +kernel)) ggX11_isReadable_X11_ables
theorem dX11_isReadable_0 : decode cX11_isReadable 0 = .ok (.iconst 1, 1) := by decide +kernel
theorem dX11_isReadable_1 : decode cX11_isReadable 1 = .ok (.istore_n 3, 1) := by decide +kernel
theorem dX11_isReadable_2 : decode cX11_isReadable 2 = .ok (.iconst 0, 1) := by decide +kernel
theorem dX11_isReadable_3 : decode cX11_isReadable 3 = .ok (.istore 4, 2) := by decide +kernel
theorem dX11_isReadable_5 : decode cX11_isReadable 5 = .ok (.iload 4, 2) := by decide +kernel
theorem dX11_isReadable_7 : decode cX11_isReadable 7 = .ok (.aload_n 0, 1) := by decide +kernel
theorem dX11_isReadable_8 : decode cX11_isReadable 8 = .ok (.getfield 7, 3) := by decide +kernel
theorem dX11_isReadable_11 : decode cX11_isReadable 11 = .ok (.iload_n 1, 1) := by decide +kernel
theorem dX11_isReadable_12 : decode cX11_isReadable 12 = .ok (.invokestatic 90, 3) := by decide +kernel
theorem dX11_isReadable_15 : decode cX11_isReadable 15 = .ok (.if_icmp .ge 43, 3) := by decide +kernel
theorem dX11_isReadable_18 : decode cX11_isReadable 18 = .ok (.iload_n 3, 1) := by decide +kernel
theorem dX11_isReadable_19 : decode cX11_isReadable 19 = .ok (.ifCond .eq 31, 3) := by decide +kernel
theorem dX11_isReadable_22 : decode cX11_isReadable 22 = .ok (.aload_n 0, 1) := by decide +kernel
theorem dX11_isReadable_23 : decode cX11_isReadable 23 = .ok (.getfield 7, 3) := by decide +kernel
theorem dX11_isReadable_26 : decode cX11_isReadable 26 = .ok (.aload_n 0, 1) := by decide +kernel
theorem dX11_isReadable_27 : decode cX11_isReadable 27 = .ok (.getfield 7, 3) := by decide +kernel
theorem dX11_isReadable_30 : decode cX11_isReadable 30 = .ok (.iload_n 1, 1) := by decide +kernel
theorem dX11_isReadable_31 : decode cX11_isReadable 31 = .ok (.iload 4, 2) := by decide +kernel
theorem dX11_isReadable_33 : decode cX11_isReadable 33 = .ok (.invokestatic 93, 3) := by decide +kernel
theorem dX11_isReadable_36 : decode cX11_isReadable 36 = .ok (.invokestatic 124, 3) := by decide +kernel
theorem dX11_isReadable_39 : decode cX11_isReadable 39 = .ok (.iload_n 2, 1) := by decide +kernel
theorem dX11_isReadable_40 : decode cX11_isReadable 40 = .ok (.iconst (-1), 1) := by decide +kernel
theorem dX11_isReadable_41 : decode cX11_isReadable 41 = .ok (.ixor, 1) := by decide +kernel
theorem dX11_isReadable_42 : decode cX11_isReadable 42 = .ok (.iand, 1) := by decide +kernel
theorem dX11_isReadable_43 : decode cX11_isReadable 43 = .ok (.ifCond .eq 7, 3) := by decide +kernel
theorem dX11_isReadable_46 : decode cX11_isReadable 46 = .ok (.iconst 1, 1) := by decide +kernel
theorem dX11_isReadable_47 : decode cX11_isReadable 47 = .ok (.goto 4, 3) := by decide +kernel
theorem dX11_isReadable_50 : decode cX11_isReadable 50 = .ok (.iconst 0, 1) := by decide +kernel
theorem dX11_isReadable_51 : decode cX11_isReadable 51 = .ok (.istore_n 3, 1) := by decide +kernel
theorem dX11_isReadable_52 : decode cX11_isReadable 52 = .ok (.iinc 4 1, 3) := by decide +kernel
theorem dX11_isReadable_55 : decode cX11_isReadable 55 = .ok (.goto (-50), 3) := by decide +kernel
theorem dX11_isReadable_58 : decode cX11_isReadable 58 = .ok (.iload_n 3, 1) := by decide +kernel
theorem dX11_isReadable_59 : decode cX11_isReadable 59 = .ok (.ireturn, 1) := by decide +kernel
set_option maxRecDepth 20000 in
theorem ggX11_odds_X11_isHouse : GoodIn wsX11_odds wsX11_isHouse := goodIn_r _ [9, 4, 59, 60, 61, 62, 63, 64, 65, 66, 67, 68, 69, 70, 71, 72, 73, 74, 75] (by decide +kernel) (by decide +kernel)
set_option maxRecDepth 20000 in
theorem gX11_odds_X11_isHouse : GoodIn wsX11_odds (wsV RX11 262 RX11 yX11_isHouse wsX11_isHouse) := goodIn_app (goodIn_of _ (by decide +kernel)) ggX11_odds_X11_isHouse
set_option maxRecDepth 20000 in
theorem ggX11_odds_X11_isFile : GoodIn wsX11_odds wsX11_isFile := goodIn_r _ [12, 13, 14, 15, 8, 16] (by decide +kernel) (by decide +kernel)
set_option maxRecDepth 20000 in
theorem gX11_odds_X11_isFile : GoodIn wsX11_odds (va_wsS RX11 266 yX11_isFile wsX11_isFile) := goodIn_app (goodIn_of _ (by decide +kernel)) ggX11_odds_X11_isFile
set_option maxRecDepth 20000 in
theorem ggX11_odds_X11_in : GoodIn wsX11_odds wsX11_in := goodIn_r _ [16] (by decide +kernel) (by decide +kernel)
set_option maxRecDepth 20000 in
theorem gX11_odds_X11_in : GoodIn wsX11_odds (va_wsS RX11 206 yX11_in wsX11_in) := goodIn_app (goodIn_of _ (by decide +kernel)) ggX11_odds_X11_in
set_option maxRecDepth 20000 in
theorem ggX11_odds_X11_isThere : GoodIn wsX11_odds wsX11_isThere := goodIn_r _ [20, 4, 59, 60, 61, 62, 63, 64, 65, 66, 67, 68, 69, 70, 71, 72, 73, 74, 75] (by decide +kernel) (by decide +kernel)
set_option maxRecDepth 20000 in
theorem gX11_odds_X11_isThere : GoodIn wsX11_odds (wsV RX11 278 RX11 yX11_isThere wsX11_isThere) := goodIn_app (goodIn_of _ (by decide +kernel)) ggX11_odds_X11_isThere
set_option maxRecDepth 20000 in
theorem ggX11_odds_X11_ups : GoodIn wsX11_odds wsX11_ups := goodIn_r _ [23, 24, 25, 8, 26] (by decide +kernel) (by decide +kernel)
set_option maxRecDepth 20000 in
theorem gX11_odds_X11_ups : GoodIn wsX11_odds (va_wsS RX11 97 yX11_ups wsX11_ups) := goodIn_app (goodIn_of _ (by decide +kernel)) ggX11_odds_X11_ups
set_option maxRecDepth 20000 in
theorem ggX11_odds_X11_has : GoodIn wsX11_odds wsX11_has := goodIn_r _ [29] (by decide +kernel) (by decide +kernel)
set_option maxRecDepth 20000 in
theorem gX11_odds_X11_has : GoodIn wsX11_odds (va_wsS RX11 33 yX11_has wsX11_has) := goodIn_app (goodIn_of _ (by decide +kernel)) ggX11_odds_X11_has
set_option maxRecDepth 20000 in
theorem ggX11_odds_X11_isReadable : GoodIn wsX11_odds wsX11_isReadable := goodIn_r _ [33, 4, 34, 35, 8, 36, 37, 38, 39, 40, 41, 42, 43, 44, 45, 24, 25, 26, 46, 47, 48, 49, 50, 51, 52, 53, 54, 55, 59, 60, 61, 62, 63, 64, 65, 66, 67, 68, 69, 70, 71, 72, 73, 74, 75] (by decide +kernel) (by decide +kernel)
set_option maxRecDepth 20000 in
theorem gX11_odds_X11_isReadable : GoodIn wsX11_odds (wsV RX11 368 RX11 yX11_isReadable wsX11_isReadable) := goodIn_app (goodIn_of _ (by decide +kernel)) ggX11_odds_X11_isReadable
set_option maxRecDepth 20000 in
theorem ggX11_odds_X11_gcd : GoodIn wsX11_odds wsX11_gcd := goodIn_r _ [58] (by decide +kernel) (by decide +kernel)
set_option maxRecDepth 20000 in
theorem gX11_odds_X11_gcd : GoodIn wsX11_odds (va_wsS RX11 371 yX11_gcd wsX11_gcd) := goodIn_app (goodIn_of _ (by decide +kernel)) ggX11_odds_X11_gcd
theorem dX11_odds_0 : decode cX11_odds 0 = .ok (.aload_n 0, 1) := by decide +kernel
theorem dX11_odds_1 : decode cX11_odds 1 = .ok (.invokevirtual 262, 3) := by decide +kernel
theorem dX11_odds_4 : decode cX11_odds 4 = .ok (.ifCond .ne 7, 3) := by decide +kernel
theorem dX11_odds_7 : decode cX11_odds 7 = .ok (.ldc2_w 364, 3) := by decide +kernel
theorem dX11_odds_10 : decode cX11_odds 10 = .ok (.lreturn, 1) := by decide +kernel
theorem dX11_odds_11 : decode cX11_odds 11 = .ok (.iload_n 1, 1) := by decide +kernel
theorem dX11_odds_12 : decode cX11_odds 12 = .ok (.invokestatic 266, 3) := by decide +kernel
theorem dX11_odds_15 : decode cX11_odds 15 = .ok (.ifCond .eq 25, 3) := by decide +kernel
theorem dX11_odds_18 : decode cX11_odds 18 = .ok (.iload_n 2, 1) := by decide +kernel
theorem dX11_odds_19 : decode cX11_odds 19 = .ok (.i2l, 1) := by decide +kernel
theorem dX11_odds_20 : decode cX11_odds 20 = .ok (.lconst 0, 1) := by decide +kernel
theorem dX11_odds_21 : decode cX11_odds 21 = .ok (.ldc2_w 332, 3) := by decide +kernel
theorem dX11_odds_24 : decode cX11_odds 24 = .ok (.invokestatic 206, 3) := by decide +kernel
theorem dX11_odds_27 : decode cX11_odds 27 = .ok (.ifCond .eq 13, 3) := by decide +kernel
theorem dX11_odds_30 : decode cX11_odds 30 = .ok (.iload_n 3, 1) := by decide +kernel
theorem dX11_odds_31 : decode cX11_odds 31 = .ok (.i2l, 1) := by decide +kernel
theorem dX11_odds_32 : decode cX11_odds 32 = .ok (.lconst 0, 1) := by decide +kernel
theorem dX11_odds_33 : decode cX11_odds 33 = .ok (.lconst 1, 1) := by decide +kernel
theorem dX11_odds_34 : decode cX11_odds 34 = .ok (.invokestatic 206, 3) := by decide +kernel
theorem dX11_odds_37 : decode cX11_odds 37 = .ok (.ifCond .ne 7, 3) := by decide +kernel
theorem dX11_odds_40 : decode cX11_odds 40 = .ok (.ldc2_w 366, 3) := by decide +kernel
theorem dX11_odds_43 : decode cX11_odds 43 = .ok (.lreturn, 1) := by decide +kernel
theorem dX11_odds_44 : decode cX11_odds 44 = .ok (.aload_n 0, 1) := by decide +kernel
theorem dX11_odds_45 : decode cX11_odds 45 = .ok (.iload_n 1, 1) := by decide +kernel
theorem dX11_odds_46 : decode cX11_odds 46 = .ok (.invokevirtual 278, 3) := by decide +kernel
theorem dX11_odds_49 : decode cX11_odds 49 = .ok (.ifCond .ne 7, 3) := by decide +kernel
theorem dX11_odds_52 : decode cX11_odds 52 = .ok (.ldc2_w 364, 3) := by decide +kernel
theorem dX11_odds_55 : decode cX11_odds 55 = .ok (.lreturn, 1) := by decide +kernel
theorem dX11_odds_56 : decode cX11_odds 56 = .ok (.lconst 0, 1) := by decide +kernel
theorem dX11_odds_57 : decode cX11_odds 57 = .ok (.lstore 4, 2) := by decide +kernel
theorem dX11_odds_59 : decode cX11_odds 59 = .ok (.lconst 0, 1) := by decide +kernel
theorem dX11_odds_60 : decode cX11_odds 60 = .ok (.lstore 6, 2) := by decide +kernel
theorem dX11_odds_62 : decode cX11_odds 62 = .ok (.iconst 0, 1) := by decide +kernel
theorem dX11_odds_63 : decode cX11_odds 63 = .ok (.istore 8, 2) := by decide +kernel
theorem dX11_odds_65 : decode cX11_odds 65 = .ok (.iload 8, 2) := by decide +kernel
theorem dX11_odds_67 : decode cX11_odds 67 = .ok (.bipush 32, 2) := by decide +kernel
theorem dX11_odds_69 : decode cX11_odds 69 = .ok (.if_icmp .ge 114, 3) := by decide +kernel
theorem dX11_odds_72 : decode cX11_odds 72 = .ok (.iload 8, 2) := by decide +kernel
theorem dX11_odds_74 : decode cX11_odds 74 = .ok (.aload_n 0, 1) := by decide +kernel
theorem dX11_odds_75 : decode cX11_odds 75 = .ok (.getfield 7, 3) := by decide +kernel
theorem dX11_odds_78 : decode cX11_odds 78 = .ok (.invokestatic 97, 3) := by decide +kernel
theorem dX11_odds_81 : decode cX11_odds 81 = .ok (.iconst (-1), 1) := by decide +kernel
theorem dX11_odds_82 : decode cX11_odds 82 = .ok (.ixor, 1) := by decide +kernel
theorem dX11_odds_83 : decode cX11_odds 83 = .ok (.iand, 1) := by decide +kernel
theorem dX11_odds_84 : decode cX11_odds 84 = .ok (.ifCond .ne 93, 3) := by decide +kernel
theorem dX11_odds_87 : decode cX11_odds 87 = .ok (.lconst 1, 1) := by decide +kernel
theorem dX11_odds_88 : decode cX11_odds 88 = .ok (.lstore 9, 2) := by decide +kernel
theorem dX11_odds_90 : decode cX11_odds 90 = .ok (.iconst 0, 1) := by decide +kernel
theorem dX11_odds_91 : decode cX11_odds 91 = .ok (.istore 11, 2) := by decide +kernel
theorem dX11_odds_93 : decode cX11_odds 93 = .ok (.iload 11, 2) := by decide +kernel
theorem dX11_odds_95 : decode cX11_odds 95 = .ok (.iconst 5, 1) := by decide +kernel
theorem dX11_odds_96 : decode cX11_odds 96 = .ok (.if_icmp .ge 53, 3) := by decide +kernel
theorem dX11_odds_99 : decode cX11_odds 99 = .ok (.lload 9, 2) := by decide +kernel
theorem dX11_odds_101 : decode cX11_odds 101 = .ok (.aload_n 0, 1) := by decide +kernel
theorem dX11_odds_102 : decode cX11_odds 102 = .ok (.getfield 7, 3) := by decide +kernel
theorem dX11_odds_105 : decode cX11_odds 105 = .ok (.invokestatic 97, 3) := by decide +kernel
theorem dX11_odds_108 : decode cX11_odds 108 = .ok (.iload 11, 2) := by decide +kernel
theorem dX11_odds_110 : decode cX11_odds 110 = .ok (.invokestatic 33, 3) := by decide +kernel
theorem dX11_odds_113 : decode cX11_odds 113 = .ok (.ifCond .ne 7, 3) := by decide +kernel
theorem dX11_odds_116 : decode cX11_odds 116 = .ok (.lconst 1, 1) := by decide +kernel
theorem dX11_odds_117 : decode cX11_odds 117 = .ok (.goto 23, 3) := by decide +kernel
theorem dX11_odds_120 : decode cX11_odds 120 = .ok (.iload 8, 2) := by decide +kernel
theorem dX11_odds_122 : decode cX11_odds 122 = .ok (.iload 11, 2) := by decide +kernel
theorem dX11_odds_124 : decode cX11_odds 124 = .ok (.invokestatic 33, 3) := by decide +kernel
theorem dX11_odds_127 : decode cX11_odds 127 = .ok (.ifCond .eq 8, 3) := by decide +kernel
theorem dX11_odds_130 : decode cX11_odds 130 = .ok (.iload_n 2, 1) := by decide +kernel
theorem dX11_odds_131 : decode cX11_odds 131 = .ok (.i2l, 1) := by decide +kernel
theorem dX11_odds_132 : decode cX11_odds 132 = .ok (.goto 8, 3) := by decide +kernel
theorem dX11_odds_135 : decode cX11_odds 135 = .ok (.bipush 10, 2) := by decide +kernel
theorem dX11_odds_137 : decode cX11_odds 137 = .ok (.iload_n 2, 1) := by decide +kernel
theorem dX11_odds_138 : decode cX11_odds 138 = .ok (.isub, 1) := by decide +kernel
theorem dX11_odds_139 : decode cX11_odds 139 = .ok (.i2l, 1) := by decide +kernel
theorem dX11_odds_140 : decode cX11_odds 140 = .ok (.lmul, 1) := by decide +kernel
theorem dX11_odds_141 : decode cX11_odds 141 = .ok (.lstore 9, 2) := by decide +kernel
theorem dX11_odds_143 : decode cX11_odds 143 = .ok (.iinc 11 1, 3) := by decide +kernel
theorem dX11_odds_146 : decode cX11_odds 146 = .ok (.goto (-53), 3) := by decide +kernel
theorem dX11_odds_149 : decode cX11_odds 149 = .ok (.lload 6, 2) := by decide +kernel
theorem dX11_odds_151 : decode cX11_odds 151 = .ok (.lload 9, 2) := by decide +kernel
theorem dX11_odds_153 : decode cX11_odds 153 = .ok (.ladd, 1) := by decide +kernel
theorem dX11_odds_154 : decode cX11_odds 154 = .ok (.lstore 6, 2) := by decide +kernel
theorem dX11_odds_156 : decode cX11_odds 156 = .ok (.lload 4, 2) := by decide +kernel
theorem dX11_odds_158 : decode cX11_odds 158 = .ok (.aload_n 0, 1) := by decide +kernel
theorem dX11_odds_159 : decode cX11_odds 159 = .ok (.iload_n 1, 1) := by decide +kernel
theorem dX11_odds_160 : decode cX11_odds 160 = .ok (.iload 8, 2) := by decide +kernel
theorem dX11_odds_162 : decode cX11_odds 162 = .ok (.invokevirtual 368, 3) := by decide +kernel
theorem dX11_odds_165 : decode cX11_odds 165 = .ok (.ifCond .eq 8, 3) := by decide +kernel
theorem dX11_odds_168 : decode cX11_odds 168 = .ok (.lload 9, 2) := by decide +kernel
theorem dX11_odds_170 : decode cX11_odds 170 = .ok (.goto 4, 3) := by decide +kernel
theorem dX11_odds_173 : decode cX11_odds 173 = .ok (.lconst 0, 1) := by decide +kernel
theorem dX11_odds_174 : decode cX11_odds 174 = .ok (.ladd, 1) := by decide +kernel
theorem dX11_odds_175 : decode cX11_odds 175 = .ok (.lstore 4, 2) := by decide +kernel
theorem dX11_odds_177 : decode cX11_odds 177 = .ok (.iinc 8 1, 3) := by decide +kernel
theorem dX11_odds_180 : decode cX11_odds 180 = .ok (.goto (-115), 3) := by decide +kernel
theorem dX11_odds_183 : decode cX11_odds 183 = .ok (.iload_n 3, 1) := by decide +kernel
theorem dX11_odds_184 : decode cX11_odds 184 = .ok (.ifCond .ne 8, 3) := by decide +kernel
theorem dX11_odds_187 : decode cX11_odds 187 = .ok (.lload 4, 2) := by decide +kernel
theorem dX11_odds_189 : decode cX11_odds 189 = .ok (.goto 5, 3) := by decide +kernel
theorem dX11_odds_192 : decode cX11_odds 192 = .ok (.lload 6, 2) := by decide +kernel
theorem dX11_odds_194 : decode cX11_odds 194 = .ok (.lload 4, 2) := by decide +kernel
theorem dX11_odds_196 : decode cX11_odds 196 = .ok (.lload 6, 2) := by decide +kernel
theorem dX11_odds_198 : decode cX11_odds 198 = .ok (.invokestatic 371, 3) := by decide +kernel
theorem dX11_odds_201 : decode cX11_odds 201 = .ok (.ldiv, 1) := by decide +kernel
theorem dX11_odds_202 : decode cX11_odds 202 = .ok (.lreturn, 1) := by decide +kernel
set_option maxRecDepth 20000 in
theorem ggX11_drawn_X11_isHouse : GoodIn wsX11_drawn wsX11_isHouse := goodIn_r _ [21, 22, 152, 153, 154, 155, 156, 157, 158, 159, 160, 161, 162, 163, 164, 165, 166, 167, 168] (by decide +kernel) (by decide +kernel)
set_option maxRecDepth 20000 in
theorem gX11_drawn_X11_isHouse : GoodIn wsX11_drawn (wsV RX11 262 RX11 yX11_isHouse wsX11_isHouse) := goodIn_app (goodIn_of _ (by decide +kernel)) ggX11_drawn_X11_isHouse
set_option maxRecDepth 20000 in
theorem ggX11_drawn_X11_in : GoodIn wsX11_drawn wsX11_in := goodIn_r _ [25] (by decide +kernel) (by decide +kernel)
set_option maxRecDepth 20000 in
theorem gX11_drawn_X11_in : GoodIn wsX11_drawn (va_wsS RX11 206 yX11_in wsX11_in) := goodIn_app (goodIn_of _ (by decide +kernel)) ggX11_drawn_X11_in
set_option maxRecDepth 20000 in
theorem ggX11_drawn_X11_tries : GoodIn wsX11_drawn wsX11_tries := goodIn_r _ [29, 22, 9, 30, 31, 20, 32, 152, 153, 154, 155, 156, 157, 158, 159, 160, 161, 162, 163, 164, 165, 166, 167, 168] (by decide +kernel) (by decide +kernel)
set_option maxRecDepth 20000 in
theorem gX11_drawn_X11_tries : GoodIn wsX11_drawn (wsV RX11 361 RX11 yX11_tries wsX11_tries) := goodIn_app (goodIn_of _ (by decide +kernel)) ggX11_drawn_X11_tries
set_option maxRecDepth 20000 in
theorem ggX11_drawn_X11_appends : GoodIn wsX11_drawn wsX11_appends := goodIn_r _ [36, 13, 37, 38, 39, 20, 40, 41, 42, 43, 44, 45, 46, 47, 48, 49, 50, 51, 52, 53, 54, 55, 56, 57, 58, 59, 60, 61, 62, 63, 64, 65, 66, 67, 68, 69, 70, 71, 72, 73, 74, 75, 76, 77, 78, 79, 80, 81, 82, 83, 84, 85, 86, 87, 88, 89, 90, 91, 92, 93, 94, 95, 96, 97, 98, 99, 100, 101, 102, 103, 104, 105, 106, 107, 108, 109, 110, 111, 112, 113, 114, 115, 116, 117, 118, 119, 120, 121, 122, 123, 124, 125, 126, 127, 128, 129, 130, 131, 132, 133, 134, 135, 136, 137, 138, 139, 140, 141, 142, 143, 144, 145, 146, 147, 148, 14, 152, 153, 154, 155, 156, 157, 158, 159, 160, 161, 162, 163, 164, 165, 166, 167, 168] (by decide +kernel) (by decide +kernel)
set_option maxRecDepth 20000 in
theorem gX11_drawn_X11_appends : GoodIn wsX11_drawn (wsV RX11 281 RX11 yX11_appends wsX11_appends) := goodIn_app (goodIn_of _ (by decide +kernel)) ggX11_drawn_X11_appends
set_option maxRecDepth 20000 in
theorem ggX11_drawn_X11_allLying : GoodIn wsX11_drawn wsX11_allLying := goodIn_r _ [151, 74, 75, 20, 76, 77, 78, 79] (by decide +kernel) (by decide +kernel)
set_option maxRecDepth 20000 in
theorem gX11_drawn_X11_allLying : GoodIn wsX11_drawn (va_wsS RX11 347 yX11_allLying wsX11_allLying) := goodIn_app (goodIn_of _ (by decide +kernel)) ggX11_drawn_X11_allLying
theorem dX11_drawn_0 : decode cX11_drawn 0 = .ok (.aload_n 0, 1) := by decide +kernel
theorem dX11_drawn_1 : decode cX11_drawn 1 = .ok (.invokevirtual 262, 3) := by decide +kernel
theorem dX11_drawn_4 : decode cX11_drawn 4 = .ok (.ifCond .ne 7, 3) := by decide +kernel
theorem dX11_drawn_7 : decode cX11_drawn 7 = .ok (.ldc_w 261, 3) := by decide +kernel
theorem dX11_drawn_10 : decode cX11_drawn 10 = .ok (.ireturn, 1) := by decide +kernel
theorem dX11_drawn_11 : decode cX11_drawn 11 = .ok (.iload_n 1, 1) := by decide +kernel
theorem dX11_drawn_12 : decode cX11_drawn 12 = .ok (.i2l, 1) := by decide +kernel
theorem dX11_drawn_13 : decode cX11_drawn 13 = .ok (.lconst 0, 1) := by decide +kernel
theorem dX11_drawn_14 : decode cX11_drawn 14 = .ok (.ldc2_w 374, 3) := by decide +kernel
theorem dX11_drawn_17 : decode cX11_drawn 17 = .ok (.invokestatic 206, 3) := by decide +kernel
theorem dX11_drawn_20 : decode cX11_drawn 20 = .ok (.ifCond .eq 27, 3) := by decide +kernel
theorem dX11_drawn_23 : decode cX11_drawn 23 = .ok (.iload_n 2, 1) := by decide +kernel
theorem dX11_drawn_24 : decode cX11_drawn 24 = .ok (.i2l, 1) := by decide +kernel
theorem dX11_drawn_25 : decode cX11_drawn 25 = .ok (.lconst 1, 1) := by decide +kernel
theorem dX11_drawn_26 : decode cX11_drawn 26 = .ok (.ldc2_w 376, 3) := by decide +kernel
theorem dX11_drawn_29 : decode cX11_drawn 29 = .ok (.invokestatic 206, 3) := by decide +kernel
theorem dX11_drawn_32 : decode cX11_drawn 32 = .ok (.ifCond .eq 15, 3) := by decide +kernel
theorem dX11_drawn_35 : decode cX11_drawn 35 = .ok (.iload_n 3, 1) := by decide +kernel
theorem dX11_drawn_36 : decode cX11_drawn 36 = .ok (.i2l, 1) := by decide +kernel
theorem dX11_drawn_37 : decode cX11_drawn 37 = .ok (.lconst 0, 1) := by decide +kernel
theorem dX11_drawn_38 : decode cX11_drawn 38 = .ok (.ldc2_w 284, 3) := by decide +kernel
theorem dX11_drawn_41 : decode cX11_drawn 41 = .ok (.invokestatic 206, 3) := by decide +kernel
theorem dX11_drawn_44 : decode cX11_drawn 44 = .ok (.ifCond .ne 6, 3) := by decide +kernel
theorem dX11_drawn_47 : decode cX11_drawn 47 = .ok (.ldc 235, 2) := by decide +kernel
theorem dX11_drawn_49 : decode cX11_drawn 49 = .ok (.ireturn, 1) := by decide +kernel
theorem dX11_drawn_50 : decode cX11_drawn 50 = .ok (.aload_n 0, 1) := by decide +kernel
theorem dX11_drawn_51 : decode cX11_drawn 51 = .ok (.invokevirtual 361, 3) := by decide +kernel
theorem dX11_drawn_54 : decode cX11_drawn 54 = .ok (.iload_n 2, 1) := by decide +kernel
theorem dX11_drawn_55 : decode cX11_drawn 55 = .ok (.i2l, 1) := by decide +kernel
theorem dX11_drawn_56 : decode cX11_drawn 56 = .ok (.lstore 4, 2) := by decide +kernel
theorem dX11_drawn_58 : decode cX11_drawn 58 = .ok (.iconst 0, 1) := by decide +kernel
theorem dX11_drawn_59 : decode cX11_drawn 59 = .ok (.istore 6, 2) := by decide +kernel
theorem dX11_drawn_61 : decode cX11_drawn 61 = .ok (.iconst 0, 1) := by decide +kernel
theorem dX11_drawn_62 : decode cX11_drawn 62 = .ok (.istore 7, 2) := by decide +kernel
theorem dX11_drawn_64 : decode cX11_drawn 64 = .ok (.iload 7, 2) := by decide +kernel
theorem dX11_drawn_66 : decode cX11_drawn 66 = .ok (.iload_n 1, 1) := by decide +kernel
theorem dX11_drawn_67 : decode cX11_drawn 67 = .ok (.if_icmp .ge 183, 3) := by decide +kernel
theorem dX11_drawn_70 : decode cX11_drawn 70 = .ok (.lload 4, 2) := by decide +kernel
theorem dX11_drawn_72 : decode cX11_drawn 72 = .ok (.ldc2_w 378, 3) := by decide +kernel
theorem dX11_drawn_75 : decode cX11_drawn 75 = .ok (.lmul, 1) := by decide +kernel
theorem dX11_drawn_76 : decode cX11_drawn 76 = .ok (.ldc2_w 380, 3) := by decide +kernel
theorem dX11_drawn_79 : decode cX11_drawn 79 = .ok (.lrem, 1) := by decide +kernel
theorem dX11_drawn_80 : decode cX11_drawn 80 = .ok (.lstore 4, 2) := by decide +kernel
theorem dX11_drawn_82 : decode cX11_drawn 82 = .ok (.bipush 7, 2) := by decide +kernel
theorem dX11_drawn_84 : decode cX11_drawn 84 = .ok (.iconst 3, 1) := by decide +kernel
theorem dX11_drawn_85 : decode cX11_drawn 85 = .ok (.lload 4, 2) := by decide +kernel
theorem dX11_drawn_87 : decode cX11_drawn 87 = .ok (.ldc2_w 382, 3) := by decide +kernel
theorem dX11_drawn_90 : decode cX11_drawn 90 = .ok (.ldiv, 1) := by decide +kernel
theorem dX11_drawn_91 : decode cX11_drawn 91 = .ok (.aload_n 0, 1) := by decide +kernel
theorem dX11_drawn_92 : decode cX11_drawn 92 = .ok (.getfield 13, 3) := by decide +kernel
theorem dX11_drawn_95 : decode cX11_drawn 95 = .ok (.iconst 0, 1) := by decide +kernel
theorem dX11_drawn_96 : decode cX11_drawn 96 = .ok (.laload, 1) := by decide +kernel
theorem dX11_drawn_97 : decode cX11_drawn 97 = .ok (.lrem, 1) := by decide +kernel
theorem dX11_drawn_98 : decode cX11_drawn 98 = .ok (.l2i, 1) := by decide +kernel
theorem dX11_drawn_99 : decode cX11_drawn 99 = .ok (.imul, 1) := by decide +kernel
theorem dX11_drawn_100 : decode cX11_drawn 100 = .ok (.iadd, 1) := by decide +kernel
theorem dX11_drawn_101 : decode cX11_drawn 101 = .ok (.iconst 2, 1) := by decide +kernel
theorem dX11_drawn_102 : decode cX11_drawn 102 = .ok (.iadd, 1) := by decide +kernel
theorem dX11_drawn_103 : decode cX11_drawn 103 = .ok (.istore 8, 2) := by decide +kernel
theorem dX11_drawn_105 : decode cX11_drawn 105 = .ok (.aload_n 0, 1) := by decide +kernel
theorem dX11_drawn_106 : decode cX11_drawn 106 = .ok (.getfield 13, 3) := by decide +kernel
theorem dX11_drawn_109 : decode cX11_drawn 109 = .ok (.iload 8, 2) := by decide +kernel
theorem dX11_drawn_111 : decode cX11_drawn 111 = .ok (.dup2, 1) := by decide +kernel
theorem dX11_drawn_112 : decode cX11_drawn 112 = .ok (.laload, 1) := by decide +kernel
theorem dX11_drawn_113 : decode cX11_drawn 113 = .ok (.aload_n 0, 1) := by decide +kernel
theorem dX11_drawn_114 : decode cX11_drawn 114 = .ok (.getfield 13, 3) := by decide +kernel
theorem dX11_drawn_117 : decode cX11_drawn 117 = .ok (.iload 8, 2) := by decide +kernel
theorem dX11_drawn_119 : decode cX11_drawn 119 = .ok (.laload, 1) := by decide +kernel
theorem dX11_drawn_120 : decode cX11_drawn 120 = .ok (.ldc2_w 310, 3) := by decide +kernel
theorem dX11_drawn_123 : decode cX11_drawn 123 = .ok (.lcmp, 1) := by decide +kernel
theorem dX11_drawn_124 : decode cX11_drawn 124 = .ok (.ifCond .ge 7, 3) := by decide +kernel
theorem dX11_drawn_127 : decode cX11_drawn 127 = .ok (.lconst 1, 1) := by decide +kernel
theorem dX11_drawn_128 : decode cX11_drawn 128 = .ok (.goto 4, 3) := by decide +kernel
theorem dX11_drawn_131 : decode cX11_drawn 131 = .ok (.lconst 0, 1) := by decide +kernel
theorem dX11_drawn_132 : decode cX11_drawn 132 = .ok (.ladd, 1) := by decide +kernel
theorem dX11_drawn_133 : decode cX11_drawn 133 = .ok (.lastore, 1) := by decide +kernel
theorem dX11_drawn_134 : decode cX11_drawn 134 = .ok (.lload 4, 2) := by decide +kernel
theorem dX11_drawn_136 : decode cX11_drawn 136 = .ok (.ldc2_w 384, 3) := by decide +kernel
theorem dX11_drawn_139 : decode cX11_drawn 139 = .ok (.lrem, 1) := by decide +kernel
theorem dX11_drawn_140 : decode cX11_drawn 140 = .ok (.l2i, 1) := by decide +kernel
theorem dX11_drawn_141 : decode cX11_drawn 141 = .ok (.istore 9, 2) := by decide +kernel
theorem dX11_drawn_143 : decode cX11_drawn 143 = .ok (.aload_n 0, 1) := by decide +kernel
theorem dX11_drawn_144 : decode cX11_drawn 144 = .ok (.getfield 13, 3) := by decide +kernel
theorem dX11_drawn_147 : decode cX11_drawn 147 = .ok (.bipush 22, 2) := by decide +kernel
theorem dX11_drawn_149 : decode cX11_drawn 149 = .ok (.bipush 8, 2) := by decide +kernel
theorem dX11_drawn_151 : decode cX11_drawn 151 = .ok (.iload 9, 2) := by decide +kernel
theorem dX11_drawn_153 : decode cX11_drawn 153 = .ok (.imul, 1) := by decide +kernel
theorem dX11_drawn_154 : decode cX11_drawn 154 = .ok (.iadd, 1) := by decide +kernel
theorem dX11_drawn_155 : decode cX11_drawn 155 = .ok (.iconst 0, 1) := by decide +kernel
theorem dX11_drawn_156 : decode cX11_drawn 156 = .ok (.iadd, 1) := by decide +kernel
theorem dX11_drawn_157 : decode cX11_drawn 157 = .ok (.laload, 1) := by decide +kernel
theorem dX11_drawn_158 : decode cX11_drawn 158 = .ok (.lconst 1, 1) := by decide +kernel
theorem dX11_drawn_159 : decode cX11_drawn 159 = .ok (.lcmp, 1) := by decide +kernel
theorem dX11_drawn_160 : decode cX11_drawn 160 = .ok (.ifCond .ne 84, 3) := by decide +kernel
theorem dX11_drawn_163 : decode cX11_drawn 163 = .ok (.aload_n 0, 1) := by decide +kernel
theorem dX11_drawn_164 : decode cX11_drawn 164 = .ok (.iconst 1, 1) := by decide +kernel
theorem dX11_drawn_165 : decode cX11_drawn 165 = .ok (.lload 4, 2) := by decide +kernel
theorem dX11_drawn_167 : decode cX11_drawn 167 = .ok (.ldc2_w 386, 3) := by decide +kernel
theorem dX11_drawn_170 : decode cX11_drawn 170 = .ok (.ldiv, 1) := by decide +kernel
theorem dX11_drawn_171 : decode cX11_drawn 171 = .ok (.aload_n 0, 1) := by decide +kernel
theorem dX11_drawn_172 : decode cX11_drawn 172 = .ok (.getfield 13, 3) := by decide +kernel
theorem dX11_drawn_175 : decode cX11_drawn 175 = .ok (.iconst 2, 1) := by decide +kernel
theorem dX11_drawn_176 : decode cX11_drawn 176 = .ok (.laload, 1) := by decide +kernel
theorem dX11_drawn_177 : decode cX11_drawn 177 = .ok (.lrem, 1) := by decide +kernel
theorem dX11_drawn_178 : decode cX11_drawn 178 = .ok (.l2i, 1) := by decide +kernel
theorem dX11_drawn_179 : decode cX11_drawn 179 = .ok (.iadd, 1) := by decide +kernel
theorem dX11_drawn_180 : decode cX11_drawn 180 = .ok (.putfield 143, 3) := by decide +kernel
theorem dX11_drawn_183 : decode cX11_drawn 183 = .ok (.iconst 0, 1) := by decide +kernel
theorem dX11_drawn_184 : decode cX11_drawn 184 = .ok (.istore 10, 2) := by decide +kernel
theorem dX11_drawn_186 : decode cX11_drawn 186 = .ok (.iload 10, 2) := by decide +kernel
theorem dX11_drawn_188 : decode cX11_drawn 188 = .ok (.aload_n 0, 1) := by decide +kernel
theorem dX11_drawn_189 : decode cX11_drawn 189 = .ok (.getfield 143, 3) := by decide +kernel
theorem dX11_drawn_192 : decode cX11_drawn 192 = .ok (.if_icmp .ge 29, 3) := by decide +kernel
theorem dX11_drawn_195 : decode cX11_drawn 195 = .ok (.aload_n 0, 1) := by decide +kernel
theorem dX11_drawn_196 : decode cX11_drawn 196 = .ok (.getfield 30, 3) := by decide +kernel
theorem dX11_drawn_199 : decode cX11_drawn 199 = .ok (.iload 10, 2) := by decide +kernel
theorem dX11_drawn_201 : decode cX11_drawn 201 = .ok (.iconst 1, 1) := by decide +kernel
theorem dX11_drawn_202 : decode cX11_drawn 202 = .ok (.lload 4, 2) := by decide +kernel
theorem dX11_drawn_204 : decode cX11_drawn 204 = .ok (.ldc2_w 388, 3) := by decide +kernel
theorem dX11_drawn_207 : decode cX11_drawn 207 = .ok (.ldiv, 1) := by decide +kernel
theorem dX11_drawn_208 : decode cX11_drawn 208 = .ok (.ldc2_w 390, 3) := by decide +kernel
theorem dX11_drawn_211 : decode cX11_drawn 211 = .ok (.lrem, 1) := by decide +kernel
theorem dX11_drawn_212 : decode cX11_drawn 212 = .ok (.l2i, 1) := by decide +kernel
theorem dX11_drawn_213 : decode cX11_drawn 213 = .ok (.iadd, 1) := by decide +kernel
theorem dX11_drawn_214 : decode cX11_drawn 214 = .ok (.iastore, 1) := by decide +kernel
theorem dX11_drawn_215 : decode cX11_drawn 215 = .ok (.iinc 10 1, 3) := by decide +kernel
theorem dX11_drawn_218 : decode cX11_drawn 218 = .ok (.goto (-32), 3) := by decide +kernel
theorem dX11_drawn_221 : decode cX11_drawn 221 = .ok (.iload 6, 2) := by decide +kernel
theorem dX11_drawn_223 : decode cX11_drawn 223 = .ok (.aload_n 0, 1) := by decide +kernel
theorem dX11_drawn_224 : decode cX11_drawn 224 = .ok (.aload_n 0, 1) := by decide +kernel
theorem dX11_drawn_225 : decode cX11_drawn 225 = .ok (.getfield 13, 3) := by decide +kernel
theorem dX11_drawn_228 : decode cX11_drawn 228 = .ok (.iload 9, 2) := by decide +kernel
theorem dX11_drawn_230 : decode cX11_drawn 230 = .ok (.invokevirtual 281, 3) := by decide +kernel
theorem dX11_drawn_233 : decode cX11_drawn 233 = .ok (.ifCond .lt 7, 3) := by decide +kernel
theorem dX11_drawn_236 : decode cX11_drawn 236 = .ok (.iconst 1, 1) := by decide +kernel
theorem dX11_drawn_237 : decode cX11_drawn 237 = .ok (.goto 4, 3) := by decide +kernel
theorem dX11_drawn_240 : decode cX11_drawn 240 = .ok (.iconst 0, 1) := by decide +kernel
theorem dX11_drawn_241 : decode cX11_drawn 241 = .ok (.iadd, 1) := by decide +kernel
theorem dX11_drawn_242 : decode cX11_drawn 242 = .ok (.istore 6, 2) := by decide +kernel
theorem dX11_drawn_244 : decode cX11_drawn 244 = .ok (.iinc 7 1, 3) := by decide +kernel
theorem dX11_drawn_247 : decode cX11_drawn 247 = .ok (.goto (-183), 3) := by decide +kernel
theorem dX11_drawn_250 : decode cX11_drawn 250 = .ok (.iload_n 3, 1) := by decide +kernel
theorem dX11_drawn_251 : decode cX11_drawn 251 = .ok (.ifCond .ne 8, 3) := by decide +kernel
theorem dX11_drawn_254 : decode cX11_drawn 254 = .ok (.iload 6, 2) := by decide +kernel
theorem dX11_drawn_256 : decode cX11_drawn 256 = .ok (.goto 26, 3) := by decide +kernel
theorem dX11_drawn_259 : decode cX11_drawn 259 = .ok (.iload_n 3, 1) := by decide +kernel
theorem dX11_drawn_260 : decode cX11_drawn 260 = .ok (.iconst 1, 1) := by decide +kernel
theorem dX11_drawn_261 : decode cX11_drawn 261 = .ok (.if_icmp .ne 14, 3) := by decide +kernel
theorem dX11_drawn_264 : decode cX11_drawn 264 = .ok (.aload_n 0, 1) := by decide +kernel
theorem dX11_drawn_265 : decode cX11_drawn 265 = .ok (.getfield 13, 3) := by decide +kernel
theorem dX11_drawn_268 : decode cX11_drawn 268 = .ok (.bipush 6, 2) := by decide +kernel
theorem dX11_drawn_270 : decode cX11_drawn 270 = .ok (.laload, 1) := by decide +kernel
theorem dX11_drawn_271 : decode cX11_drawn 271 = .ok (.l2i, 1) := by decide +kernel
theorem dX11_drawn_272 : decode cX11_drawn 272 = .ok (.goto 10, 3) := by decide +kernel
theorem dX11_drawn_275 : decode cX11_drawn 275 = .ok (.aload_n 0, 1) := by decide +kernel
theorem dX11_drawn_276 : decode cX11_drawn 276 = .ok (.getfield 13, 3) := by decide +kernel
theorem dX11_drawn_279 : decode cX11_drawn 279 = .ok (.invokestatic 347, 3) := by decide +kernel
theorem dX11_drawn_282 : decode cX11_drawn 282 = .ok (.ireturn, 1) := by decide +kernel
set_option maxRecDepth 20000 in
theorem ggX11_image_X11_in : GoodIn wsX11_image wsX11_in := goodIn_r _ [9] (by decide +kernel) (by decide +kernel)
set_option maxRecDepth 20000 in
theorem gX11_image_X11_in : GoodIn wsX11_image (va_wsS RX11 206 yX11_in wsX11_in) := goodIn_app (goodIn_of _ (by decide +kernel)) ggX11_image_X11_in
set_option maxRecDepth 20000 in
theorem ggX11_image_X11_isHouse : GoodIn wsX11_image wsX11_isHouse := goodIn_r _ [13, 3, 17, 18, 19, 20, 21, 22, 23, 24, 25, 26, 27, 28, 29, 30, 31, 32, 33] (by decide +kernel) (by decide +kernel)
set_option maxRecDepth 20000 in
theorem gX11_image_X11_isHouse : GoodIn wsX11_image (wsV RX11 262 RX11 yX11_isHouse wsX11_isHouse) := goodIn_app (goodIn_of _ (by decide +kernel)) ggX11_image_X11_isHouse
set_option maxRecDepth 20000 in
theorem ggX11_image_X11_copies : GoodIn wsX11_image wsX11_copies := goodIn_r _ [16] (by decide +kernel) (by decide +kernel)
set_option maxRecDepth 20000 in
theorem gX11_image_X11_copies : GoodIn wsX11_image (va_wsS RX11 37 yX11_copies wsX11_copies) := goodIn_app (goodIn_of _ (by decide +kernel)) ggX11_image_X11_copies
theorem dX11_image_0 : decode cX11_image 0 = .ok (.iload_n 1, 1) := by decide +kernel
theorem dX11_image_1 : decode cX11_image 1 = .ok (.i2l, 1) := by decide +kernel
theorem dX11_image_2 : decode cX11_image 2 = .ok (.lconst 0, 1) := by decide +kernel
theorem dX11_image_3 : decode cX11_image 3 = .ok (.lconst 1, 1) := by decide +kernel
theorem dX11_image_4 : decode cX11_image 4 = .ok (.invokestatic 206, 3) := by decide +kernel
theorem dX11_image_7 : decode cX11_image 7 = .ok (.ifCond .ne 6, 3) := by decide +kernel
theorem dX11_image_10 : decode cX11_image 10 = .ok (.ldc 235, 2) := by decide +kernel
theorem dX11_image_12 : decode cX11_image 12 = .ok (.ireturn, 1) := by decide +kernel
theorem dX11_image_13 : decode cX11_image 13 = .ok (.aload_n 0, 1) := by decide +kernel
theorem dX11_image_14 : decode cX11_image 14 = .ok (.invokevirtual 262, 3) := by decide +kernel
theorem dX11_image_17 : decode cX11_image 17 = .ok (.ifCond .ne 7, 3) := by decide +kernel
theorem dX11_image_20 : decode cX11_image 20 = .ok (.ldc_w 261, 3) := by decide +kernel
theorem dX11_image_23 : decode cX11_image 23 = .ok (.ireturn, 1) := by decide +kernel
theorem dX11_image_24 : decode cX11_image 24 = .ok (.aload_n 0, 1) := by decide +kernel
theorem dX11_image_25 : decode cX11_image 25 = .ok (.getfield 7, 3) := by decide +kernel
theorem dX11_image_28 : decode cX11_image 28 = .ok (.iconst 0, 1) := by decide +kernel
theorem dX11_image_29 : decode cX11_image 29 = .ok (.aload_n 0, 1) := by decide +kernel
theorem dX11_image_30 : decode cX11_image 30 = .ok (.getfield 19, 3) := by decide +kernel
theorem dX11_image_33 : decode cX11_image 33 = .ok (.sipush 340, 3) := by decide +kernel
theorem dX11_image_36 : decode cX11_image 36 = .ok (.iload_n 1, 1) := by decide +kernel
theorem dX11_image_37 : decode cX11_image 37 = .ok (.imul, 1) := by decide +kernel
theorem dX11_image_38 : decode cX11_image 38 = .ok (.invokestatic 37, 3) := by decide +kernel
theorem dX11_image_41 : decode cX11_image 41 = .ok (.aload_n 0, 1) := by decide +kernel
theorem dX11_image_42 : decode cX11_image 42 = .ok (.getfield 22, 3) := by decide +kernel
theorem dX11_image_45 : decode cX11_image 45 = .ok (.iload_n 1, 1) := by decide +kernel
theorem dX11_image_46 : decode cX11_image 46 = .ok (.iconst 1, 1) := by decide +kernel
theorem dX11_image_47 : decode cX11_image 47 = .ok (.bastore, 1) := by decide +kernel
theorem dX11_image_48 : decode cX11_image 48 = .ok (.iconst 1, 1) := by decide +kernel
theorem dX11_image_49 : decode cX11_image 49 = .ok (.ireturn, 1) := by decide +kernel
set_option maxRecDepth 20000 in
theorem ggX11_restore_X11_in : GoodIn wsX11_restore wsX11_in := goodIn_r _ [10] (by decide +kernel) (by decide +kernel)
set_option maxRecDepth 20000 in
theorem gX11_restore_X11_in : GoodIn wsX11_restore (va_wsS RX11 206 yX11_in wsX11_in) := goodIn_app (goodIn_of _ (by decide +kernel)) ggX11_restore_X11_in
set_option maxRecDepth 20000 in
theorem ggX11_restore_X11_copies : GoodIn wsX11_restore wsX11_copies := goodIn_r _ [13] (by decide +kernel) (by decide +kernel)
set_option maxRecDepth 20000 in
theorem gX11_restore_X11_copies : GoodIn wsX11_restore (va_wsS RX11 37 yX11_copies wsX11_copies) := goodIn_app (goodIn_of _ (by decide +kernel)) ggX11_restore_X11_copies
theorem dX11_restore_0 : decode cX11_restore 0 = .ok (.iload_n 1, 1) := by decide +kernel
theorem dX11_restore_1 : decode cX11_restore 1 = .ok (.i2l, 1) := by decide +kernel
theorem dX11_restore_2 : decode cX11_restore 2 = .ok (.lconst 0, 1) := by decide +kernel
theorem dX11_restore_3 : decode cX11_restore 3 = .ok (.lconst 1, 1) := by decide +kernel
theorem dX11_restore_4 : decode cX11_restore 4 = .ok (.invokestatic 206, 3) := by decide +kernel
theorem dX11_restore_7 : decode cX11_restore 7 = .ok (.ifCond .ne 6, 3) := by decide +kernel
theorem dX11_restore_10 : decode cX11_restore 10 = .ok (.ldc 235, 2) := by decide +kernel
theorem dX11_restore_12 : decode cX11_restore 12 = .ok (.ireturn, 1) := by decide +kernel
theorem dX11_restore_13 : decode cX11_restore 13 = .ok (.aload_n 0, 1) := by decide +kernel
theorem dX11_restore_14 : decode cX11_restore 14 = .ok (.getfield 22, 3) := by decide +kernel
theorem dX11_restore_17 : decode cX11_restore 17 = .ok (.iload_n 1, 1) := by decide +kernel
theorem dX11_restore_18 : decode cX11_restore 18 = .ok (.baload, 1) := by decide +kernel
theorem dX11_restore_19 : decode cX11_restore 19 = .ok (.ifCond .ne 7, 3) := by decide +kernel
theorem dX11_restore_22 : decode cX11_restore 22 = .ok (.ldc_w 261, 3) := by decide +kernel
theorem dX11_restore_25 : decode cX11_restore 25 = .ok (.ireturn, 1) := by decide +kernel
theorem dX11_restore_26 : decode cX11_restore 26 = .ok (.aload_n 0, 1) := by decide +kernel
theorem dX11_restore_27 : decode cX11_restore 27 = .ok (.getfield 19, 3) := by decide +kernel
theorem dX11_restore_30 : decode cX11_restore 30 = .ok (.sipush 340, 3) := by decide +kernel
theorem dX11_restore_33 : decode cX11_restore 33 = .ok (.iload_n 1, 1) := by decide +kernel
theorem dX11_restore_34 : decode cX11_restore 34 = .ok (.imul, 1) := by decide +kernel
theorem dX11_restore_35 : decode cX11_restore 35 = .ok (.aload_n 0, 1) := by decide +kernel
theorem dX11_restore_36 : decode cX11_restore 36 = .ok (.getfield 7, 3) := by decide +kernel
theorem dX11_restore_39 : decode cX11_restore 39 = .ok (.iconst 0, 1) := by decide +kernel
theorem dX11_restore_40 : decode cX11_restore 40 = .ok (.invokestatic 37, 3) := by decide +kernel
theorem dX11_restore_43 : decode cX11_restore 43 = .ok (.aload_n 0, 1) := by decide +kernel
theorem dX11_restore_44 : decode cX11_restore 44 = .ok (.iconst 0, 1) := by decide +kernel
theorem dX11_restore_45 : decode cX11_restore 45 = .ok (.putfield 258, 3) := by decide +kernel
theorem dX11_restore_48 : decode cX11_restore 48 = .ok (.iconst 1, 1) := by decide +kernel
theorem dX11_restore_49 : decode cX11_restore 49 = .ok (.ireturn, 1) := by decide +kernel
set_option maxRecDepth 20000 in
theorem ggX11_count_X11_ups : GoodIn wsX11_count wsX11_ups := goodIn_r _ [8, 9, 10, 7, 11] (by decide +kernel) (by decide +kernel)
set_option maxRecDepth 20000 in
theorem gX11_count_X11_ups : GoodIn wsX11_count (va_wsS RX11 97 yX11_ups wsX11_ups) := goodIn_app (goodIn_of _ (by decide +kernel)) ggX11_count_X11_ups
set_option maxRecDepth 20000 in
theorem ggX11_count_X11_ones : GoodIn wsX11_count wsX11_ones := goodIn_r _ [14, 15, 16, 7, 17] (by decide +kernel) (by decide +kernel)
set_option maxRecDepth 20000 in
theorem gX11_count_X11_ones : GoodIn wsX11_count (va_wsS RX11 180 yX11_ones wsX11_ones) := goodIn_app (goodIn_of _ (by decide +kernel)) ggX11_count_X11_ones
set_option maxRecDepth 20000 in
theorem ggX11_count_X11_filesThat : GoodIn wsX11_count wsX11_filesThat := goodIn_r _ [21, 1, 22, 23, 24, 25, 26, 27, 28, 29, 30, 31, 32, 33, 34, 35, 36, 37, 38] (by decide +kernel) (by decide +kernel)
set_option maxRecDepth 20000 in
theorem gX11_count_X11_filesThat : GoodIn wsX11_count (wsV RX11 272 RX11 yX11_filesThat wsX11_filesThat) := goodIn_app (goodIn_of _ (by decide +kernel)) ggX11_count_X11_filesThat
theorem dX11_count_0 : decode cX11_count 0 = .ok (.iload_n 1, 1) := by decide +kernel
theorem dX11_count_1 : decode cX11_count 1 = .ok (.tableswitch 93 0 6 #[43, 51, 62, 68, 74, 83, 88], 43) := by decide +kernel
theorem dX11_count_44 : decode cX11_count 44 = .ok (.aload_n 0, 1) := by decide +kernel
theorem dX11_count_45 : decode cX11_count 45 = .ok (.getfield 7, 3) := by decide +kernel
theorem dX11_count_48 : decode cX11_count 48 = .ok (.iconst 0, 1) := by decide +kernel
theorem dX11_count_49 : decode cX11_count 49 = .ok (.laload, 1) := by decide +kernel
theorem dX11_count_50 : decode cX11_count 50 = .ok (.l2i, 1) := by decide +kernel
theorem dX11_count_51 : decode cX11_count 51 = .ok (.ireturn, 1) := by decide +kernel
theorem dX11_count_52 : decode cX11_count 52 = .ok (.aload_n 0, 1) := by decide +kernel
theorem dX11_count_53 : decode cX11_count 53 = .ok (.getfield 7, 3) := by decide +kernel
theorem dX11_count_56 : decode cX11_count 56 = .ok (.invokestatic 97, 3) := by decide +kernel
theorem dX11_count_59 : decode cX11_count 59 = .ok (.invokestatic 180, 3) := by decide +kernel
theorem dX11_count_62 : decode cX11_count 62 = .ok (.ireturn, 1) := by decide +kernel
theorem dX11_count_63 : decode cX11_count 63 = .ok (.aload_n 0, 1) := by decide +kernel
theorem dX11_count_64 : decode cX11_count 64 = .ok (.iconst 1, 1) := by decide +kernel
theorem dX11_count_65 : decode cX11_count 65 = .ok (.invokevirtual 272, 3) := by decide +kernel
theorem dX11_count_68 : decode cX11_count 68 = .ok (.ireturn, 1) := by decide +kernel
theorem dX11_count_69 : decode cX11_count 69 = .ok (.aload_n 0, 1) := by decide +kernel
theorem dX11_count_70 : decode cX11_count 70 = .ok (.iconst 2, 1) := by decide +kernel
theorem dX11_count_71 : decode cX11_count 71 = .ok (.invokevirtual 272, 3) := by decide +kernel
theorem dX11_count_74 : decode cX11_count 74 = .ok (.ireturn, 1) := by decide +kernel
theorem dX11_count_75 : decode cX11_count 75 = .ok (.aload_n 0, 1) := by decide +kernel
theorem dX11_count_76 : decode cX11_count 76 = .ok (.getfield 7, 3) := by decide +kernel
theorem dX11_count_79 : decode cX11_count 79 = .ok (.bipush 6, 2) := by decide +kernel
theorem dX11_count_81 : decode cX11_count 81 = .ok (.laload, 1) := by decide +kernel
theorem dX11_count_82 : decode cX11_count 82 = .ok (.l2i, 1) := by decide +kernel
theorem dX11_count_83 : decode cX11_count 83 = .ok (.ireturn, 1) := by decide +kernel
theorem dX11_count_84 : decode cX11_count 84 = .ok (.aload_n 0, 1) := by decide +kernel
theorem dX11_count_85 : decode cX11_count 85 = .ok (.getfield 258, 3) := by decide +kernel
theorem dX11_count_88 : decode cX11_count 88 = .ok (.ireturn, 1) := by decide +kernel
theorem dX11_count_89 : decode cX11_count 89 = .ok (.aload_n 0, 1) := by decide +kernel
theorem dX11_count_90 : decode cX11_count 90 = .ok (.getfield 187, 3) := by decide +kernel
theorem dX11_count_93 : decode cX11_count 93 = .ok (.ireturn, 1) := by decide +kernel
theorem dX11_count_94 : decode cX11_count 94 = .ok (.ldc 235, 2) := by decide +kernel
theorem dX11_count_96 : decode cX11_count 96 = .ok (.ireturn, 1) := by decide +kernel
