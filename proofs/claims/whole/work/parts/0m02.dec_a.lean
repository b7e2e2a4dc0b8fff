theorem dX0_init_0 : decode cX0_init 0 = .ok (.aload_n 0, 1) := by decide +kernel
theorem dX0_init_1 : decode cX0_init 1 = .ok (.invokespecial 3, 3) := by decide +kernel
theorem dX0_init_4 : decode cX0_init 4 = .ok (.aload_n 0, 1) := by decide +kernel
theorem dX0_init_5 : decode cX0_init 5 = .ok (.bipush 6, 2) := by decide +kernel
theorem dX0_init_7 : decode cX0_init 7 = .ok (.anewarray 9, 3) := by decide +kernel
theorem dX0_init_10 : decode cX0_init 10 = .ok (.putfield 11, 3) := by decide +kernel
theorem dX0_init_13 : decode cX0_init 13 = .ok (.aload_n 0, 1) := by decide +kernel
theorem dX0_init_14 : decode cX0_init 14 = .ok (.iconst 0, 1) := by decide +kernel
theorem dX0_init_15 : decode cX0_init 15 = .ok (.putfield 17, 3) := by decide +kernel
theorem dX0_init_18 : decode cX0_init 18 = .ok (.aload_n 0, 1) := by decide +kernel
theorem dX0_init_19 : decode cX0_init 19 = .ok (.iconst 0, 1) := by decide +kernel
theorem dX0_init_20 : decode cX0_init 20 = .ok (.putfield 21, 3) := by decide +kernel
theorem dX0_init_23 : decode cX0_init 23 = .ok (.return_, 1) := by decide +kernel
theorem dX0_forget_0 : decode cX0_forget 0 = .ok (.aload_n 0, 1) := by decide +kernel
theorem dX0_forget_1 : decode cX0_forget 1 = .ok (.iconst 0, 1) := by decide +kernel
theorem dX0_forget_2 : decode cX0_forget 2 = .ok (.putfield 21, 3) := by decide +kernel
theorem dX0_forget_5 : decode cX0_forget 5 = .ok (.return_, 1) := by decide +kernel
set_option maxRecDepth 20000 in
theorem ggX0_keep_X5_init : GoodIn wsX0_keep wsX5_init := goodIn_r _ [12, 13, 14, 15, 16, 17, 18, 19, 20, 21, 22, 23, 24, 25, 26, 27, 28, 29, 30, 31, 32, 33, 34, 35, 36, 37, 38, 39, 40, 41, 42, 43, 44, 45, 46, 47, 48, 49, 50, 51, 52, 53, 54, 55, 56, 57, 58, 59, 60, 61, 62, 63, 64, 65, 66, 67, 68, 69, 70, 71, 102, 103, 104, 105, 106, 107, 108, 109, 110, 111, 112, 113, 114, 115, 116, 117, 118, 119, 120, 121, 122, 123, 124, 125, 126, 127] (by decide +kernel) (by decide +kernel)
set_option maxRecDepth 20000 in
theorem gX0_keep_X5_init_n24 : GoodIn wsX0_keep (wsX5_init) := ggX0_keep_X5_init
set_option maxRecDepth 20000 in
theorem ggX0_keep_X5_become : GoodIn wsX0_keep wsX5_become := goodIn_r _ [75, 16, 17, 18, 19, 20, 24, 28, 32, 36, 76, 77, 78, 23, 79, 40, 41, 43, 80, 81, 82, 83, 44, 84, 85, 86, 27, 87, 48, 49, 88, 50, 51, 52, 89, 90, 91, 31, 92, 57, 93, 58, 59, 94, 95, 96, 35, 97, 67, 98, 68, 69, 70, 71, 102, 103, 104, 105, 106, 107, 108, 109, 110, 111, 112, 113, 114, 115, 116, 117, 118, 119, 120, 121, 122, 123, 124, 125, 126, 127] (by decide +kernel) (by decide +kernel)
set_option maxRecDepth 20000 in
theorem gX0_keep_X5_become : GoodIn wsX0_keep (wsV RX0 25 RX5 yX5_become wsX5_become) := goodIn_app (goodIn_of _ (by decide +kernel)) ggX0_keep_X5_become
theorem dX0_keep_0 : decode cX0_keep 0 = .ok (.aload_n 0, 1) := by decide +kernel
theorem dX0_keep_1 : decode cX0_keep 1 = .ok (.getfield 11, 3) := by decide +kernel
theorem dX0_keep_4 : decode cX0_keep 4 = .ok (.aload_n 0, 1) := by decide +kernel
theorem dX0_keep_5 : decode cX0_keep 5 = .ok (.getfield 17, 3) := by decide +kernel
theorem dX0_keep_8 : decode cX0_keep 8 = .ok (.aaload, 1) := by decide +kernel
theorem dX0_keep_9 : decode cX0_keep 9 = .ok (.ifnonnull 19, 3) := by decide +kernel
theorem dX0_keep_12 : decode cX0_keep 12 = .ok (.aload_n 0, 1) := by decide +kernel
theorem dX0_keep_13 : decode cX0_keep 13 = .ok (.getfield 11, 3) := by decide +kernel
theorem dX0_keep_16 : decode cX0_keep 16 = .ok (.aload_n 0, 1) := by decide +kernel
theorem dX0_keep_17 : decode cX0_keep 17 = .ok (.getfield 17, 3) := by decide +kernel
theorem dX0_keep_20 : decode cX0_keep 20 = .ok (.new 9, 3) := by decide +kernel
theorem dX0_keep_23 : decode cX0_keep 23 = .ok (.dup, 1) := by decide +kernel
theorem dX0_keep_24 : decode cX0_keep 24 = .ok (.invokespecial 24, 3) := by decide +kernel
theorem dX0_keep_27 : decode cX0_keep 27 = .ok (.aastore, 1) := by decide +kernel
theorem dX0_keep_28 : decode cX0_keep 28 = .ok (.aload_n 0, 1) := by decide +kernel
theorem dX0_keep_29 : decode cX0_keep 29 = .ok (.getfield 11, 3) := by decide +kernel
theorem dX0_keep_32 : decode cX0_keep 32 = .ok (.aload_n 0, 1) := by decide +kernel
theorem dX0_keep_33 : decode cX0_keep 33 = .ok (.getfield 17, 3) := by decide +kernel
theorem dX0_keep_36 : decode cX0_keep 36 = .ok (.aaload, 1) := by decide +kernel
theorem dX0_keep_37 : decode cX0_keep 37 = .ok (.aload_n 1, 1) := by decide +kernel
theorem dX0_keep_38 : decode cX0_keep 38 = .ok (.invokevirtual 25, 3) := by decide +kernel
theorem dX0_keep_41 : decode cX0_keep 41 = .ok (.aload_n 0, 1) := by decide +kernel
theorem dX0_keep_42 : decode cX0_keep 42 = .ok (.aload_n 0, 1) := by decide +kernel
theorem dX0_keep_43 : decode cX0_keep 43 = .ok (.getfield 17, 3) := by decide +kernel
theorem dX0_keep_46 : decode cX0_keep 46 = .ok (.iconst 1, 1) := by decide +kernel
theorem dX0_keep_47 : decode cX0_keep 47 = .ok (.iadd, 1) := by decide +kernel
theorem dX0_keep_48 : decode cX0_keep 48 = .ok (.bipush 6, 2) := by decide +kernel
theorem dX0_keep_50 : decode cX0_keep 50 = .ok (.if_icmp .ge 12, 3) := by decide +kernel
theorem dX0_keep_53 : decode cX0_keep 53 = .ok (.aload_n 0, 1) := by decide +kernel
theorem dX0_keep_54 : decode cX0_keep 54 = .ok (.getfield 17, 3) := by decide +kernel
theorem dX0_keep_57 : decode cX0_keep 57 = .ok (.iconst 1, 1) := by decide +kernel
theorem dX0_keep_58 : decode cX0_keep 58 = .ok (.iadd, 1) := by decide +kernel
theorem dX0_keep_59 : decode cX0_keep 59 = .ok (.goto 4, 3) := by decide +kernel
theorem dX0_keep_62 : decode cX0_keep 62 = .ok (.iconst 0, 1) := by decide +kernel
theorem dX0_keep_63 : decode cX0_keep 63 = .ok (.putfield 17, 3) := by decide +kernel
theorem dX0_keep_66 : decode cX0_keep 66 = .ok (.aload_n 0, 1) := by decide +kernel
theorem dX0_keep_67 : decode cX0_keep 67 = .ok (.aload_n 0, 1) := by decide +kernel
theorem dX0_keep_68 : decode cX0_keep 68 = .ok (.getfield 21, 3) := by decide +kernel
theorem dX0_keep_71 : decode cX0_keep 71 = .ok (.iconst 1, 1) := by decide +kernel
theorem dX0_keep_72 : decode cX0_keep 72 = .ok (.iadd, 1) := by decide +kernel
theorem dX0_keep_73 : decode cX0_keep 73 = .ok (.bipush 6, 2) := by decide +kernel
theorem dX0_keep_75 : decode cX0_keep 75 = .ok (.invokestatic 29, 3) := by decide +kernel
theorem dX0_keep_78 : decode cX0_keep 78 = .ok (.putfield 21, 3) := by decide +kernel
theorem dX0_keep_81 : decode cX0_keep 81 = .ok (.return_, 1) := by decide +kernel
set_option maxRecDepth 20000 in
theorem ggX0_takeBack_X5_become : GoodIn wsX0_takeBack wsX5_become := goodIn_r _ [8, 9, 10, 11, 12, 13, 14, 15, 16, 17, 18, 19, 20, 21, 22, 23, 24, 25, 26, 27, 28, 29, 30, 31, 32, 33, 34, 35, 36, 37, 38, 39, 40, 41, 42, 43, 44, 45, 46, 47, 48, 49, 50, 51, 52, 53, 54, 55, 56, 57, 58, 59, 60, 61, 65, 66, 67, 68, 69, 70, 71, 72, 73, 74, 75, 76, 77, 78, 79, 80, 81, 82, 83, 84, 85, 86, 87, 88, 89, 90] (by decide +kernel) (by decide +kernel)
set_option maxRecDepth 20000 in
theorem gX0_takeBack_X5_become : GoodIn wsX0_takeBack (wsV RX0 25 RX5 yX5_become wsX5_become) := goodIn_app (goodIn_of _ (by decide +kernel)) ggX0_takeBack_X5_become
theorem dX0_takeBack_0 : decode cX0_takeBack 0 = .ok (.aload_n 0, 1) := by decide +kernel
theorem dX0_takeBack_1 : decode cX0_takeBack 1 = .ok (.getfield 17, 3) := by decide +kernel
theorem dX0_takeBack_4 : decode cX0_takeBack 4 = .ok (.ifCond .le 12, 3) := by decide +kernel
theorem dX0_takeBack_7 : decode cX0_takeBack 7 = .ok (.aload_n 0, 1) := by decide +kernel
theorem dX0_takeBack_8 : decode cX0_takeBack 8 = .ok (.getfield 17, 3) := by decide +kernel
theorem dX0_takeBack_11 : decode cX0_takeBack 11 = .ok (.iconst 1, 1) := by decide +kernel
theorem dX0_takeBack_12 : decode cX0_takeBack 12 = .ok (.isub, 1) := by decide +kernel
theorem dX0_takeBack_13 : decode cX0_takeBack 13 = .ok (.goto 4, 3) := by decide +kernel
theorem dX0_takeBack_16 : decode cX0_takeBack 16 = .ok (.iconst 5, 1) := by decide +kernel
theorem dX0_takeBack_17 : decode cX0_takeBack 17 = .ok (.istore_n 2, 1) := by decide +kernel
theorem dX0_takeBack_18 : decode cX0_takeBack 18 = .ok (.aload_n 0, 1) := by decide +kernel
theorem dX0_takeBack_19 : decode cX0_takeBack 19 = .ok (.getfield 21, 3) := by decide +kernel
theorem dX0_takeBack_22 : decode cX0_takeBack 22 = .ok (.ifCond .eq 12, 3) := by decide +kernel
theorem dX0_takeBack_25 : decode cX0_takeBack 25 = .ok (.aload_n 0, 1) := by decide +kernel
theorem dX0_takeBack_26 : decode cX0_takeBack 26 = .ok (.getfield 11, 3) := by decide +kernel
theorem dX0_takeBack_29 : decode cX0_takeBack 29 = .ok (.iload_n 2, 1) := by decide +kernel
theorem dX0_takeBack_30 : decode cX0_takeBack 30 = .ok (.aaload, 1) := by decide +kernel
theorem dX0_takeBack_31 : decode cX0_takeBack 31 = .ok (.ifnonnull 5, 3) := by decide +kernel
theorem dX0_takeBack_34 : decode cX0_takeBack 34 = .ok (.iconst 0, 1) := by decide +kernel
theorem dX0_takeBack_35 : decode cX0_takeBack 35 = .ok (.ireturn, 1) := by decide +kernel
theorem dX0_takeBack_36 : decode cX0_takeBack 36 = .ok (.aload_n 0, 1) := by decide +kernel
theorem dX0_takeBack_37 : decode cX0_takeBack 37 = .ok (.iload_n 2, 1) := by decide +kernel
theorem dX0_takeBack_38 : decode cX0_takeBack 38 = .ok (.putfield 17, 3) := by decide +kernel
theorem dX0_takeBack_41 : decode cX0_takeBack 41 = .ok (.aload_n 0, 1) := by decide +kernel
theorem dX0_takeBack_42 : decode cX0_takeBack 42 = .ok (.dup, 1) := by decide +kernel
theorem dX0_takeBack_43 : decode cX0_takeBack 43 = .ok (.getfield 21, 3) := by decide +kernel
theorem dX0_takeBack_46 : decode cX0_takeBack 46 = .ok (.iconst 1, 1) := by decide +kernel
theorem dX0_takeBack_47 : decode cX0_takeBack 47 = .ok (.isub, 1) := by decide +kernel
theorem dX0_takeBack_48 : decode cX0_takeBack 48 = .ok (.putfield 21, 3) := by decide +kernel
theorem dX0_takeBack_51 : decode cX0_takeBack 51 = .ok (.aload_n 1, 1) := by decide +kernel
theorem dX0_takeBack_52 : decode cX0_takeBack 52 = .ok (.aload_n 0, 1) := by decide +kernel
theorem dX0_takeBack_53 : decode cX0_takeBack 53 = .ok (.getfield 11, 3) := by decide +kernel
theorem dX0_takeBack_56 : decode cX0_takeBack 56 = .ok (.iload_n 2, 1) := by decide +kernel
theorem dX0_takeBack_57 : decode cX0_takeBack 57 = .ok (.aaload, 1) := by decide +kernel
theorem dX0_takeBack_58 : decode cX0_takeBack 58 = .ok (.invokevirtual 25, 3) := by decide +kernel
theorem dX0_takeBack_61 : decode cX0_takeBack 61 = .ok (.iconst 1, 1) := by decide +kernel
theorem dX0_takeBack_62 : decode cX0_takeBack 62 = .ok (.ireturn, 1) := by decide +kernel
theorem dX1_init_0 : decode cX1_init 0 = .ok (.aload_n 0, 1) := by decide +kernel
theorem dX1_init_1 : decode cX1_init 1 = .ok (.invokespecial 3, 3) := by decide +kernel
theorem dX1_init_4 : decode cX1_init 4 = .ok (.aload_n 0, 1) := by decide +kernel
theorem dX1_init_5 : decode cX1_init 5 = .ok (.iconst 0, 1) := by decide +kernel
theorem dX1_init_6 : decode cX1_init 6 = .ok (.putfield 9, 3) := by decide +kernel
theorem dX1_init_9 : decode cX1_init 9 = .ok (.aload_n 0, 1) := by decide +kernel
theorem dX1_init_10 : decode cX1_init 10 = .ok (.bipush 30, 2) := by decide +kernel
theorem dX1_init_12 : decode cX1_init 12 = .ok (.newarray .int, 2) := by decide +kernel
theorem dX1_init_14 : decode cX1_init 14 = .ok (.putfield 15, 3) := by decide +kernel
theorem dX1_init_17 : decode cX1_init 17 = .ok (.aload_n 0, 1) := by decide +kernel
theorem dX1_init_18 : decode cX1_init 18 = .ok (.bipush 30, 2) := by decide +kernel
theorem dX1_init_20 : decode cX1_init 20 = .ok (.newarray .int, 2) := by decide +kernel
theorem dX1_init_22 : decode cX1_init 22 = .ok (.putfield 19, 3) := by decide +kernel
theorem dX1_init_25 : decode cX1_init 25 = .ok (.aload_n 0, 1) := by decide +kernel
theorem dX1_init_26 : decode cX1_init 26 = .ok (.bipush 30, 2) := by decide +kernel
theorem dX1_init_28 : decode cX1_init 28 = .ok (.newarray .int, 2) := by decide +kernel
theorem dX1_init_30 : decode cX1_init 30 = .ok (.putfield 22, 3) := by decide +kernel
theorem dX1_init_33 : decode cX1_init 33 = .ok (.aload_n 0, 1) := by decide +kernel
theorem dX1_init_34 : decode cX1_init 34 = .ok (.bipush 30, 2) := by decide +kernel
theorem dX1_init_36 : decode cX1_init 36 = .ok (.newarray .int, 2) := by decide +kernel
theorem dX1_init_38 : decode cX1_init 38 = .ok (.putfield 25, 3) := by decide +kernel
theorem dX1_init_41 : decode cX1_init 41 = .ok (.return_, 1) := by decide +kernel
theorem dX1_become_0 : decode cX1_become 0 = .ok (.aload_n 0, 1) := by decide +kernel
theorem dX1_become_1 : decode cX1_become 1 = .ok (.aload_n 1, 1) := by decide +kernel
theorem dX1_become_2 : decode cX1_become 2 = .ok (.getfield 9, 3) := by decide +kernel
theorem dX1_become_5 : decode cX1_become 5 = .ok (.putfield 9, 3) := by decide +kernel
theorem dX1_become_8 : decode cX1_become 8 = .ok (.aload_n 1, 1) := by decide +kernel
theorem dX1_become_9 : decode cX1_become 9 = .ok (.getfield 15, 3) := by decide +kernel
theorem dX1_become_12 : decode cX1_become 12 = .ok (.iconst 0, 1) := by decide +kernel
theorem dX1_become_13 : decode cX1_become 13 = .ok (.aload_n 0, 1) := by decide +kernel
theorem dX1_become_14 : decode cX1_become 14 = .ok (.getfield 15, 3) := by decide +kernel
theorem dX1_become_17 : decode cX1_become 17 = .ok (.iconst 0, 1) := by decide +kernel
theorem dX1_become_18 : decode cX1_become 18 = .ok (.bipush 30, 2) := by decide +kernel
theorem dX1_become_20 : decode cX1_become 20 = .ok (.invokestatic 28, 3) := by decide +kernel
theorem dX1_become_23 : decode cX1_become 23 = .ok (.aload_n 1, 1) := by decide +kernel
theorem dX1_become_24 : decode cX1_become 24 = .ok (.getfield 19, 3) := by decide +kernel
theorem dX1_become_27 : decode cX1_become 27 = .ok (.iconst 0, 1) := by decide +kernel
theorem dX1_become_28 : decode cX1_become 28 = .ok (.aload_n 0, 1) := by decide +kernel
theorem dX1_become_29 : decode cX1_become 29 = .ok (.getfield 19, 3) := by decide +kernel
theorem dX1_become_32 : decode cX1_become 32 = .ok (.iconst 0, 1) := by decide +kernel
theorem dX1_become_33 : decode cX1_become 33 = .ok (.bipush 30, 2) := by decide +kernel
theorem dX1_become_35 : decode cX1_become 35 = .ok (.invokestatic 28, 3) := by decide +kernel
theorem dX1_become_38 : decode cX1_become 38 = .ok (.aload_n 1, 1) := by decide +kernel
theorem dX1_become_39 : decode cX1_become 39 = .ok (.getfield 22, 3) := by decide +kernel
theorem dX1_become_42 : decode cX1_become 42 = .ok (.iconst 0, 1) := by decide +kernel
theorem dX1_become_43 : decode cX1_become 43 = .ok (.aload_n 0, 1) := by decide +kernel
theorem dX1_become_44 : decode cX1_become 44 = .ok (.getfield 22, 3) := by decide +kernel
theorem dX1_become_47 : decode cX1_become 47 = .ok (.iconst 0, 1) := by decide +kernel
theorem dX1_become_48 : decode cX1_become 48 = .ok (.bipush 30, 2) := by decide +kernel
theorem dX1_become_50 : decode cX1_become 50 = .ok (.invokestatic 28, 3) := by decide +kernel
theorem dX1_become_53 : decode cX1_become 53 = .ok (.aload_n 1, 1) := by decide +kernel
theorem dX1_become_54 : decode cX1_become 54 = .ok (.getfield 25, 3) := by decide +kernel
theorem dX1_become_57 : decode cX1_become 57 = .ok (.iconst 0, 1) := by decide +kernel
theorem dX1_become_58 : decode cX1_become 58 = .ok (.aload_n 0, 1) := by decide +kernel
theorem dX1_become_59 : decode cX1_become 59 = .ok (.getfield 25, 3) := by decide +kernel
theorem dX1_become_62 : decode cX1_become 62 = .ok (.iconst 0, 1) := by decide +kernel
theorem dX1_become_63 : decode cX1_become 63 = .ok (.bipush 30, 2) := by decide +kernel
theorem dX1_become_65 : decode cX1_become 65 = .ok (.invokestatic 28, 3) := by decide +kernel
theorem dX1_become_68 : decode cX1_become 68 = .ok (.return_, 1) := by decide +kernel
theorem dX1_has_0 : decode cX1_has 0 = .ok (.iload_n 1, 1) := by decide +kernel
theorem dX1_has_1 : decode cX1_has 1 = .ok (.ifCond .lt 15, 3) := by decide +kernel
theorem dX1_has_4 : decode cX1_has 4 = .ok (.iload_n 1, 1) := by decide +kernel
theorem dX1_has_5 : decode cX1_has 5 = .ok (.aload_n 0, 1) := by decide +kernel
theorem dX1_has_6 : decode cX1_has 6 = .ok (.getfield 9, 3) := by decide +kernel
theorem dX1_has_9 : decode cX1_has 9 = .ok (.if_icmp .ge 7, 3) := by decide +kernel
theorem dX1_has_12 : decode cX1_has 12 = .ok (.iconst 1, 1) := by decide +kernel
theorem dX1_has_13 : decode cX1_has 13 = .ok (.goto 4, 3) := by decide +kernel
theorem dX1_has_16 : decode cX1_has 16 = .ok (.iconst 0, 1) := by decide +kernel
theorem dX1_has_17 : decode cX1_has 17 = .ok (.ireturn, 1) := by decide +kernel
theorem dX1_isFullUp_0 : decode cX1_isFullUp 0 = .ok (.aload_n 0, 1) := by decide +kernel
theorem dX1_isFullUp_1 : decode cX1_isFullUp 1 = .ok (.getfield 9, 3) := by decide +kernel
theorem dX1_isFullUp_4 : decode cX1_isFullUp 4 = .ok (.bipush 30, 2) := by decide +kernel
theorem dX1_isFullUp_6 : decode cX1_isFullUp 6 = .ok (.if_icmp .lt 7, 3) := by decide +kernel
theorem dX1_isFullUp_9 : decode cX1_isFullUp 9 = .ok (.iconst 1, 1) := by decide +kernel
theorem dX1_isFullUp_10 : decode cX1_isFullUp 10 = .ok (.goto 4, 3) := by decide +kernel
theorem dX1_isFullUp_13 : decode cX1_isFullUp 13 = .ok (.iconst 0, 1) := by decide +kernel
theorem dX1_isFullUp_14 : decode cX1_isFullUp 14 = .ok (.ireturn, 1) := by decide +kernel
set_option maxRecDepth 20000 in
theorem ggX1_make_X1_isFullUp : GoodIn wsX1_make wsX1_isFullUp := goodIn_r _ [8, 1, 19, 20, 21, 22, 23] (by decide +kernel) (by decide +kernel)
set_option maxRecDepth 20000 in
theorem gX1_make_X1_isFullUp : GoodIn wsX1_make (wsV RX1 34 RX1 yX1_isFullUp wsX1_isFullUp) := goodIn_app (goodIn_of _ (by decide +kernel)) ggX1_make_X1_isFullUp
set_option maxRecDepth 20000 in
theorem ggX1_make_X1_endLease : GoodIn wsX1_make wsX1_endLease := goodIn_r _ [12, 13, 14, 15, 16, 17, 7, 18, 1, 19, 20, 21, 22, 23] (by decide +kernel) (by decide +kernel)
set_option maxRecDepth 20000 in
theorem gX1_make_X1_endLease : GoodIn wsX1_make (wsV RX1 38 RX1 yX1_endLease wsX1_endLease) := goodIn_app (goodIn_of _ (by decide +kernel)) ggX1_make_X1_endLease
theorem dX1_make_0 : decode cX1_make 0 = .ok (.aload_n 0, 1) := by decide +kernel
theorem dX1_make_1 : decode cX1_make 1 = .ok (.invokevirtual 34, 3) := by decide +kernel
theorem dX1_make_4 : decode cX1_make 4 = .ok (.ifCond .eq 5, 3) := by decide +kernel
theorem dX1_make_7 : decode cX1_make 7 = .ok (.iconst (-1), 1) := by decide +kernel
theorem dX1_make_8 : decode cX1_make 8 = .ok (.ireturn, 1) := by decide +kernel
theorem dX1_make_9 : decode cX1_make 9 = .ok (.aload_n 0, 1) := by decide +kernel
theorem dX1_make_10 : decode cX1_make 10 = .ok (.getfield 9, 3) := by decide +kernel
theorem dX1_make_13 : decode cX1_make 13 = .ok (.istore_n 1, 1) := by decide +kernel
theorem dX1_make_14 : decode cX1_make 14 = .ok (.aload_n 0, 1) := by decide +kernel
theorem dX1_make_15 : decode cX1_make 15 = .ok (.dup, 1) := by decide +kernel
theorem dX1_make_16 : decode cX1_make 16 = .ok (.getfield 9, 3) := by decide +kernel
theorem dX1_make_19 : decode cX1_make 19 = .ok (.iconst 1, 1) := by decide +kernel
theorem dX1_make_20 : decode cX1_make 20 = .ok (.iadd, 1) := by decide +kernel
theorem dX1_make_21 : decode cX1_make 21 = .ok (.putfield 9, 3) := by decide +kernel
theorem dX1_make_24 : decode cX1_make 24 = .ok (.aload_n 0, 1) := by decide +kernel
theorem dX1_make_25 : decode cX1_make 25 = .ok (.getfield 15, 3) := by decide +kernel
theorem dX1_make_28 : decode cX1_make 28 = .ok (.iload_n 1, 1) := by decide +kernel
theorem dX1_make_29 : decode cX1_make 29 = .ok (.iconst 1, 1) := by decide +kernel
theorem dX1_make_30 : decode cX1_make 30 = .ok (.iastore, 1) := by decide +kernel
theorem dX1_make_31 : decode cX1_make 31 = .ok (.aload_n 0, 1) := by decide +kernel
theorem dX1_make_32 : decode cX1_make 32 = .ok (.getfield 19, 3) := by decide +kernel
theorem dX1_make_35 : decode cX1_make 35 = .ok (.iload_n 1, 1) := by decide +kernel
theorem dX1_make_36 : decode cX1_make 36 = .ok (.iconst 1, 1) := by decide +kernel
theorem dX1_make_37 : decode cX1_make 37 = .ok (.iastore, 1) := by decide +kernel
theorem dX1_make_38 : decode cX1_make 38 = .ok (.aload_n 0, 1) := by decide +kernel
theorem dX1_make_39 : decode cX1_make 39 = .ok (.iload_n 1, 1) := by decide +kernel
theorem dX1_make_40 : decode cX1_make 40 = .ok (.invokevirtual 38, 3) := by decide +kernel
theorem dX1_make_43 : decode cX1_make 43 = .ok (.iload_n 1, 1) := by decide +kernel
theorem dX1_make_44 : decode cX1_make 44 = .ok (.ireturn, 1) := by decide +kernel
set_option maxRecDepth 20000 in
theorem ggX1_share_X1_has : GoodIn wsX1_share wsX1_has := goodIn_r _ [6, 7, 8, 9, 10, 11, 12] (by decide +kernel) (by decide +kernel)
set_option maxRecDepth 20000 in
theorem gX1_share_X1_has : GoodIn wsX1_share (wsV RX1 42 RX1 yX1_has wsX1_has) := goodIn_app (goodIn_of _ (by decide +kernel)) ggX1_share_X1_has
theorem dX1_share_0 : decode cX1_share 0 = .ok (.aload_n 0, 1) := by decide +kernel
theorem dX1_share_1 : decode cX1_share 1 = .ok (.iload_n 1, 1) := by decide +kernel
theorem dX1_share_2 : decode cX1_share 2 = .ok (.invokevirtual 42, 3) := by decide +kernel
theorem dX1_share_5 : decode cX1_share 5 = .ok (.ifCond .eq 13, 3) := by decide +kernel
theorem dX1_share_8 : decode cX1_share 8 = .ok (.aload_n 0, 1) := by decide +kernel
theorem dX1_share_9 : decode cX1_share 9 = .ok (.getfield 19, 3) := by decide +kernel
theorem dX1_share_12 : decode cX1_share 12 = .ok (.iload_n 1, 1) := by decide +kernel
theorem dX1_share_13 : decode cX1_share 13 = .ok (.dup2, 1) := by decide +kernel
theorem dX1_share_14 : decode cX1_share 14 = .ok (.iaload, 1) := by decide +kernel
theorem dX1_share_15 : decode cX1_share 15 = .ok (.iload_n 2, 1) := by decide +kernel
theorem dX1_share_16 : decode cX1_share 16 = .ok (.iadd, 1) := by decide +kernel
theorem dX1_share_17 : decode cX1_share 17 = .ok (.iastore, 1) := by decide +kernel
theorem dX1_share_18 : decode cX1_share 18 = .ok (.return_, 1) := by decide +kernel
set_option maxRecDepth 20000 in
theorem ggX1_isShared_X1_has : GoodIn wsX1_isShared wsX1_has := goodIn_r _ [6, 7, 8, 9, 10, 11, 12] (by decide +kernel) (by decide +kernel)
set_option maxRecDepth 20000 in
theorem gX1_isShared_X1_has : GoodIn wsX1_isShared (wsV RX1 42 RX1 yX1_has wsX1_has) := goodIn_app (goodIn_of _ (by decide +kernel)) ggX1_isShared_X1_has
theorem dX1_isShared_0 : decode cX1_isShared 0 = .ok (.aload_n 0, 1) := by decide +kernel
theorem dX1_isShared_1 : decode cX1_isShared 1 = .ok (.iload_n 1, 1) := by decide +kernel
theorem dX1_isShared_2 : decode cX1_isShared 2 = .ok (.invokevirtual 42, 3) := by decide +kernel
theorem dX1_isShared_5 : decode cX1_isShared 5 = .ok (.ifCond .eq 17, 3) := by decide +kernel
theorem dX1_isShared_8 : decode cX1_isShared 8 = .ok (.aload_n 0, 1) := by decide +kernel
theorem dX1_isShared_9 : decode cX1_isShared 9 = .ok (.getfield 19, 3) := by decide +kernel
theorem dX1_isShared_12 : decode cX1_isShared 12 = .ok (.iload_n 1, 1) := by decide +kernel
theorem dX1_isShared_13 : decode cX1_isShared 13 = .ok (.iaload, 1) := by decide +kernel
theorem dX1_isShared_14 : decode cX1_isShared 14 = .ok (.iconst 1, 1) := by decide +kernel
theorem dX1_isShared_15 : decode cX1_isShared 15 = .ok (.if_icmp .le 7, 3) := by decide +kernel
theorem dX1_isShared_18 : decode cX1_isShared 18 = .ok (.iconst 1, 1) := by decide +kernel
theorem dX1_isShared_19 : decode cX1_isShared 19 = .ok (.goto 4, 3) := by decide +kernel
theorem dX1_isShared_22 : decode cX1_isShared 22 = .ok (.iconst 0, 1) := by decide +kernel
theorem dX1_isShared_23 : decode cX1_isShared 23 = .ok (.ireturn, 1) := by decide +kernel
set_option maxRecDepth 20000 in
theorem ggX1_isForgotten_X1_has : GoodIn wsX1_isForgotten wsX1_has := goodIn_r _ [6, 7, 8, 9, 10, 11, 12] (by decide +kernel) (by decide +kernel)
set_option maxRecDepth 20000 in
theorem gX1_isForgotten_X1_has : GoodIn wsX1_isForgotten (wsV RX1 42 RX1 yX1_has wsX1_has) := goodIn_app (goodIn_of _ (by decide +kernel)) ggX1_isForgotten_X1_has
theorem dX1_isForgotten_0 : decode cX1_isForgotten 0 = .ok (.aload_n 0, 1) := by decide +kernel
theorem dX1_isForgotten_1 : decode cX1_isForgotten 1 = .ok (.iload_n 1, 1) := by decide +kernel
theorem dX1_isForgotten_2 : decode cX1_isForgotten 2 = .ok (.invokevirtual 42, 3) := by decide +kernel
theorem dX1_isForgotten_5 : decode cX1_isForgotten 5 = .ok (.ifCond .eq 16, 3) := by decide +kernel
theorem dX1_isForgotten_8 : decode cX1_isForgotten 8 = .ok (.aload_n 0, 1) := by decide +kernel
theorem dX1_isForgotten_9 : decode cX1_isForgotten 9 = .ok (.getfield 19, 3) := by decide +kernel
theorem dX1_isForgotten_12 : decode cX1_isForgotten 12 = .ok (.iload_n 1, 1) := by decide +kernel
theorem dX1_isForgotten_13 : decode cX1_isForgotten 13 = .ok (.iaload, 1) := by decide +kernel
theorem dX1_isForgotten_14 : decode cX1_isForgotten 14 = .ok (.ifCond .ne 7, 3) := by decide +kernel
theorem dX1_isForgotten_17 : decode cX1_isForgotten 17 = .ok (.iconst 1, 1) := by decide +kernel
theorem dX1_isForgotten_18 : decode cX1_isForgotten 18 = .ok (.goto 4, 3) := by decide +kernel
theorem dX1_isForgotten_21 : decode cX1_isForgotten 21 = .ok (.iconst 0, 1) := by decide +kernel
theorem dX1_isForgotten_22 : decode cX1_isForgotten 22 = .ok (.ireturn, 1) := by decide +kernel
set_option maxRecDepth 20000 in
theorem ggX1_endLease_X1_has : GoodIn wsX1_endLease wsX1_has := goodIn_r _ [7, 8, 9, 10, 11, 12, 13] (by decide +kernel) (by decide +kernel)
set_option maxRecDepth 20000 in
theorem gX1_endLease_X1_has : GoodIn wsX1_endLease (wsV RX1 42 RX1 yX1_has wsX1_has) := goodIn_app (goodIn_of _ (by decide +kernel)) ggX1_endLease_X1_has
theorem dX1_endLease_0 : decode cX1_endLease 0 = .ok (.aload_n 0, 1) := by decide +kernel
theorem dX1_endLease_1 : decode cX1_endLease 1 = .ok (.iload_n 1, 1) := by decide +kernel
theorem dX1_endLease_2 : decode cX1_endLease 2 = .ok (.invokevirtual 42, 3) := by decide +kernel
theorem dX1_endLease_5 : decode cX1_endLease 5 = .ok (.ifCond .eq 17, 3) := by decide +kernel
theorem dX1_endLease_8 : decode cX1_endLease 8 = .ok (.aload_n 0, 1) := by decide +kernel
theorem dX1_endLease_9 : decode cX1_endLease 9 = .ok (.getfield 22, 3) := by decide +kernel
theorem dX1_endLease_12 : decode cX1_endLease 12 = .ok (.iload_n 1, 1) := by decide +kernel
theorem dX1_endLease_13 : decode cX1_endLease 13 = .ok (.iconst (-1), 1) := by decide +kernel
theorem dX1_endLease_14 : decode cX1_endLease 14 = .ok (.iastore, 1) := by decide +kernel
theorem dX1_endLease_15 : decode cX1_endLease 15 = .ok (.aload_n 0, 1) := by decide +kernel
theorem dX1_endLease_16 : decode cX1_endLease 16 = .ok (.getfield 25, 3) := by decide +kernel
theorem dX1_endLease_19 : decode cX1_endLease 19 = .ok (.iload_n 1, 1) := by decide +kernel
theorem dX1_endLease_20 : decode cX1_endLease 20 = .ok (.iconst 0, 1) := by decide +kernel
theorem dX1_endLease_21 : decode cX1_endLease 21 = .ok (.iastore, 1) := by decide +kernel
theorem dX1_endLease_22 : decode cX1_endLease 22 = .ok (.return_, 1) := by decide +kernel
theorem dX1_manyForgotten_0 : decode cX1_manyForgotten 0 = .ok (.iconst 0, 1) := by decide +kernel
theorem dX1_manyForgotten_1 : decode cX1_manyForgotten 1 = .ok (.istore_n 1, 1) := by decide +kernel
theorem dX1_manyForgotten_2 : decode cX1_manyForgotten 2 = .ok (.iconst 0, 1) := by decide +kernel
theorem dX1_manyForgotten_3 : decode cX1_manyForgotten 3 = .ok (.istore_n 2, 1) := by decide +kernel
theorem dX1_manyForgotten_4 : decode cX1_manyForgotten 4 = .ok (.iload_n 2, 1) := by decide +kernel
theorem dX1_manyForgotten_5 : decode cX1_manyForgotten 5 = .ok (.aload_n 0, 1) := by decide +kernel
theorem dX1_manyForgotten_6 : decode cX1_manyForgotten 6 = .ok (.getfield 9, 3) := by decide +kernel
theorem dX1_manyForgotten_9 : decode cX1_manyForgotten 9 = .ok (.if_icmp .ge 26, 3) := by decide +kernel
theorem dX1_manyForgotten_12 : decode cX1_manyForgotten 12 = .ok (.iload_n 1, 1) := by decide +kernel
theorem dX1_manyForgotten_13 : decode cX1_manyForgotten 13 = .ok (.aload_n 0, 1) := by decide +kernel
theorem dX1_manyForgotten_14 : decode cX1_manyForgotten 14 = .ok (.getfield 19, 3) := by decide +kernel
theorem dX1_manyForgotten_17 : decode cX1_manyForgotten 17 = .ok (.iload_n 2, 1) := by decide +kernel
theorem dX1_manyForgotten_18 : decode cX1_manyForgotten 18 = .ok (.iaload, 1) := by decide +kernel
theorem dX1_manyForgotten_19 : decode cX1_manyForgotten 19 = .ok (.ifCond .ne 7, 3) := by decide +kernel
theorem dX1_manyForgotten_22 : decode cX1_manyForgotten 22 = .ok (.iconst 1, 1) := by decide +kernel
theorem dX1_manyForgotten_23 : decode cX1_manyForgotten 23 = .ok (.goto 4, 3) := by decide +kernel
theorem dX1_manyForgotten_26 : decode cX1_manyForgotten 26 = .ok (.iconst 0, 1) := by decide +kernel
theorem dX1_manyForgotten_27 : decode cX1_manyForgotten 27 = .ok (.iadd, 1) := by decide +kernel
theorem dX1_manyForgotten_28 : decode cX1_manyForgotten 28 = .ok (.istore_n 1, 1) := by decide +kernel
theorem dX1_manyForgotten_29 : decode cX1_manyForgotten 29 = .ok (.iinc 2 1, 3) := by decide +kernel
theorem dX1_manyForgotten_32 : decode cX1_manyForgotten 32 = .ok (.goto (-28), 3) := by decide +kernel
theorem dX1_manyForgotten_35 : decode cX1_manyForgotten 35 = .ok (.iload_n 1, 1) := by decide +kernel
theorem dX1_manyForgotten_36 : decode cX1_manyForgotten 36 = .ok (.ireturn, 1) := by decide +kernel
set_option maxRecDepth 20000 in
theorem ggX2_init_J7_fill_53178 : GoodIn wsX2_init wsJ7_fill_53178 := goodIn_r _ [11] (by decide +kernel) (by decide +kernel)
set_option maxRecDepth 20000 in
theorem gX2_init_J7_fill_53178 : GoodIn wsX2_init (va_wsS RX2 21 yJ7_fill_53178 wsJ7_fill_53178) := goodIn_app (goodIn_of _ (by decide +kernel)) ggX2_init_J7_fill_53178
theorem dX2_init_0 : decode cX2_init 0 = .ok (.aload_n 0, 1) := by decide +kernel
theorem dX2_init_1 : decode cX2_init 1 = .ok (.invokespecial 3, 3) := by decide +kernel
theorem dX2_init_4 : decode cX2_init 4 = .ok (.aload_n 0, 1) := by decide +kernel
theorem dX2_init_5 : decode cX2_init 5 = .ok (.sipush 150, 3) := by decide +kernel
theorem dX2_init_8 : decode cX2_init 8 = .ok (.newarray .int, 2) := by decide +kernel
theorem dX2_init_10 : decode cX2_init 10 = .ok (.putfield 9, 3) := by decide +kernel
theorem dX2_init_13 : decode cX2_init 13 = .ok (.aload_n 0, 1) := by decide +kernel
theorem dX2_init_14 : decode cX2_init 14 = .ok (.sipush 150, 3) := by decide +kernel
theorem dX2_init_17 : decode cX2_init 17 = .ok (.newarray .int, 2) := by decide +kernel
theorem dX2_init_19 : decode cX2_init 19 = .ok (.putfield 15, 3) := by decide +kernel
theorem dX2_init_22 : decode cX2_init 22 = .ok (.aload_n 0, 1) := by decide +kernel
theorem dX2_init_23 : decode cX2_init 23 = .ok (.sipush 1350, 3) := by decide +kernel
theorem dX2_init_26 : decode cX2_init 26 = .ok (.newarray .int, 2) := by decide +kernel
theorem dX2_init_28 : decode cX2_init 28 = .ok (.putfield 18, 3) := by decide +kernel
theorem dX2_init_31 : decode cX2_init 31 = .ok (.aload_n 0, 1) := by decide +kernel
theorem dX2_init_32 : decode cX2_init 32 = .ok (.getfield 9, 3) := by decide +kernel
theorem dX2_init_35 : decode cX2_init 35 = .ok (.iconst (-1), 1) := by decide +kernel
theorem dX2_init_36 : decode cX2_init 36 = .ok (.invokestatic 21, 3) := by decide +kernel
theorem dX2_init_39 : decode cX2_init 39 = .ok (.return_, 1) := by decide +kernel
set_option maxRecDepth 20000 in
theorem ggX2_clear_J7_fill_53178 : GoodIn wsX2_clear wsJ7_fill_53178 := goodIn_r _ [5] (by decide +kernel) (by decide +kernel)
set_option maxRecDepth 20000 in
theorem gX2_clear_J7_fill_53178 : GoodIn wsX2_clear (va_wsS RX2 21 yJ7_fill_53178 wsJ7_fill_53178) := goodIn_app (goodIn_of _ (by decide +kernel)) ggX2_clear_J7_fill_53178
theorem dX2_clear_0 : decode cX2_clear 0 = .ok (.aload_n 0, 1) := by decide +kernel
theorem dX2_clear_1 : decode cX2_clear 1 = .ok (.getfield 9, 3) := by decide +kernel
theorem dX2_clear_4 : decode cX2_clear 4 = .ok (.iconst (-1), 1) := by decide +kernel
theorem dX2_clear_5 : decode cX2_clear 5 = .ok (.invokestatic 21, 3) := by decide +kernel
theorem dX2_clear_8 : decode cX2_clear 8 = .ok (.return_, 1) := by decide +kernel
theorem dX2_become_0 : decode cX2_become 0 = .ok (.aload_n 1, 1) := by decide +kernel
theorem dX2_become_1 : decode cX2_become 1 = .ok (.getfield 9, 3) := by decide +kernel
theorem dX2_become_4 : decode cX2_become 4 = .ok (.iconst 0, 1) := by decide +kernel
theorem dX2_become_5 : decode cX2_become 5 = .ok (.aload_n 0, 1) := by decide +kernel
theorem dX2_become_6 : decode cX2_become 6 = .ok (.getfield 9, 3) := by decide +kernel
theorem dX2_become_9 : decode cX2_become 9 = .ok (.iconst 0, 1) := by decide +kernel
theorem dX2_become_10 : decode cX2_become 10 = .ok (.aload_n 0, 1) := by decide +kernel
theorem dX2_become_11 : decode cX2_become 11 = .ok (.getfield 9, 3) := by decide +kernel
theorem dX2_become_14 : decode cX2_become 14 = .ok (.arraylength, 1) := by decide +kernel
theorem dX2_become_15 : decode cX2_become 15 = .ok (.invokestatic 27, 3) := by decide +kernel
theorem dX2_become_18 : decode cX2_become 18 = .ok (.aload_n 1, 1) := by decide +kernel
theorem dX2_become_19 : decode cX2_become 19 = .ok (.getfield 15, 3) := by decide +kernel
theorem dX2_become_22 : decode cX2_become 22 = .ok (.iconst 0, 1) := by decide +kernel
theorem dX2_become_23 : decode cX2_become 23 = .ok (.aload_n 0, 1) := by decide +kernel
theorem dX2_become_24 : decode cX2_become 24 = .ok (.getfield 15, 3) := by decide +kernel
theorem dX2_become_27 : decode cX2_become 27 = .ok (.iconst 0, 1) := by decide +kernel
theorem dX2_become_28 : decode cX2_become 28 = .ok (.aload_n 0, 1) := by decide +kernel
theorem dX2_become_29 : decode cX2_become 29 = .ok (.getfield 15, 3) := by decide +kernel
theorem dX2_become_32 : decode cX2_become 32 = .ok (.arraylength, 1) := by decide +kernel
theorem dX2_become_33 : decode cX2_become 33 = .ok (.invokestatic 27, 3) := by decide +kernel
theorem dX2_become_36 : decode cX2_become 36 = .ok (.aload_n 1, 1) := by decide +kernel
theorem dX2_become_37 : decode cX2_become 37 = .ok (.getfield 18, 3) := by decide +kernel
theorem dX2_become_40 : decode cX2_become 40 = .ok (.iconst 0, 1) := by decide +kernel
theorem dX2_become_41 : decode cX2_become 41 = .ok (.aload_n 0, 1) := by decide +kernel
theorem dX2_become_42 : decode cX2_become 42 = .ok (.getfield 18, 3) := by decide +kernel
theorem dX2_become_45 : decode cX2_become 45 = .ok (.iconst 0, 1) := by decide +kernel
theorem dX2_become_46 : decode cX2_become 46 = .ok (.aload_n 0, 1) := by decide +kernel
theorem dX2_become_47 : decode cX2_become 47 = .ok (.getfield 18, 3) := by decide +kernel
theorem dX2_become_50 : decode cX2_become 50 = .ok (.arraylength, 1) := by decide +kernel
theorem dX2_become_51 : decode cX2_become 51 = .ok (.invokestatic 27, 3) := by decide +kernel
theorem dX2_become_54 : decode cX2_become 54 = .ok (.return_, 1) := by decide +kernel
theorem dX2_placeOf_0 : decode cX2_placeOf 0 = .ok (.iload_n 0, 1) := by decide +kernel
theorem dX2_placeOf_1 : decode cX2_placeOf 1 = .ok (.ifCond .lt 22, 3) := by decide +kernel
theorem dX2_placeOf_4 : decode cX2_placeOf 4 = .ok (.iload_n 0, 1) := by decide +kernel
theorem dX2_placeOf_5 : decode cX2_placeOf 5 = .ok (.iconst 5, 1) := by decide +kernel
theorem dX2_placeOf_6 : decode cX2_placeOf 6 = .ok (.if_icmp .ge 17, 3) := by decide +kernel
theorem dX2_placeOf_9 : decode cX2_placeOf 9 = .ok (.iload_n 1, 1) := by decide +kernel
theorem dX2_placeOf_10 : decode cX2_placeOf 10 = .ok (.ifCond .lt 13, 3) := by decide +kernel
theorem dX2_placeOf_13 : decode cX2_placeOf 13 = .ok (.iload_n 1, 1) := by decide +kernel
theorem dX2_placeOf_14 : decode cX2_placeOf 14 = .ok (.bipush 30, 2) := by decide +kernel
theorem dX2_placeOf_16 : decode cX2_placeOf 16 = .ok (.if_icmp .ge 7, 3) := by decide +kernel
theorem dX2_placeOf_19 : decode cX2_placeOf 19 = .ok (.iconst 1, 1) := by decide +kernel
theorem dX2_placeOf_20 : decode cX2_placeOf 20 = .ok (.goto 4, 3) := by decide +kernel
theorem dX2_placeOf_23 : decode cX2_placeOf 23 = .ok (.iconst 0, 1) := by decide +kernel
theorem dX2_placeOf_24 : decode cX2_placeOf 24 = .ok (.istore_n 2, 1) := by decide +kernel
theorem dX2_placeOf_25 : decode cX2_placeOf 25 = .ok (.iload_n 2, 1) := by decide +kernel
theorem dX2_placeOf_26 : decode cX2_placeOf 26 = .ok (.ifCond .eq 11, 3) := by decide +kernel
theorem dX2_placeOf_29 : decode cX2_placeOf 29 = .ok (.iload_n 1, 1) := by decide +kernel
theorem dX2_placeOf_30 : decode cX2_placeOf 30 = .ok (.iconst 5, 1) := by decide +kernel
theorem dX2_placeOf_31 : decode cX2_placeOf 31 = .ok (.imul, 1) := by decide +kernel
theorem dX2_placeOf_32 : decode cX2_placeOf 32 = .ok (.iload_n 0, 1) := by decide +kernel
theorem dX2_placeOf_33 : decode cX2_placeOf 33 = .ok (.iadd, 1) := by decide +kernel
theorem dX2_placeOf_34 : decode cX2_placeOf 34 = .ok (.goto 4, 3) := by decide +kernel
theorem dX2_placeOf_37 : decode cX2_placeOf 37 = .ok (.iconst (-1), 1) := by decide +kernel
theorem dX2_placeOf_38 : decode cX2_placeOf 38 = .ok (.ireturn, 1) := by decide +kernel
set_option maxRecDepth 20000 in
theorem ggX2_lies_X2_versionOf : GoodIn wsX2_lies wsX2_versionOf := goodIn_r _ [5, 6, 7, 8, 4, 9, 10, 11, 12] (by decide +kernel) (by decide +kernel)
set_option maxRecDepth 20000 in
theorem gX2_lies_X2_versionOf : GoodIn wsX2_lies (wsV RX2 33 RX2 yX2_versionOf wsX2_versionOf) := goodIn_app (goodIn_of _ (by decide +kernel)) ggX2_lies_X2_versionOf
theorem dX2_lies_0 : decode cX2_lies 0 = .ok (.aload_n 0, 1) := by decide +kernel
theorem dX2_lies_1 : decode cX2_lies 1 = .ok (.iload_n 1, 1) := by decide +kernel
theorem dX2_lies_2 : decode cX2_lies 2 = .ok (.iload_n 2, 1) := by decide +kernel
theorem dX2_lies_3 : decode cX2_lies 3 = .ok (.invokevirtual 33, 3) := by decide +kernel
theorem dX2_lies_6 : decode cX2_lies 6 = .ok (.iconst (-1), 1) := by decide +kernel
theorem dX2_lies_7 : decode cX2_lies 7 = .ok (.if_icmp .eq 7, 3) := by decide +kernel
theorem dX2_lies_10 : decode cX2_lies 10 = .ok (.iconst 1, 1) := by decide +kernel
theorem dX2_lies_11 : decode cX2_lies 11 = .ok (.goto 4, 3) := by decide +kernel
theorem dX2_lies_14 : decode cX2_lies 14 = .ok (.iconst 0, 1) := by decide +kernel
theorem dX2_lies_15 : decode cX2_lies 15 = .ok (.ireturn, 1) := by decide +kernel
set_option maxRecDepth 20000 in
theorem ggX2_versionOf_X2_placeOf : GoodIn wsX2_versionOf wsX2_placeOf := goodIn_r _ [5] (by decide +kernel) (by decide +kernel)
set_option maxRecDepth 20000 in
theorem gX2_versionOf_X2_placeOf : GoodIn wsX2_versionOf (va_wsS RX2 37 yX2_placeOf wsX2_placeOf) := goodIn_app (goodIn_of _ (by decide +kernel)) ggX2_versionOf_X2_placeOf
theorem dX2_versionOf_0 : decode cX2_versionOf 0 = .ok (.iload_n 1, 1) := by decide +kernel
theorem dX2_versionOf_1 : decode cX2_versionOf 1 = .ok (.iload_n 2, 1) := by decide +kernel
theorem dX2_versionOf_2 : decode cX2_versionOf 2 = .ok (.invokestatic 37, 3) := by decide +kernel
theorem dX2_versionOf_5 : decode cX2_versionOf 5 = .ok (.istore_n 3, 1) := by decide +kernel
theorem dX2_versionOf_6 : decode cX2_versionOf 6 = .ok (.iload_n 3, 1) := by decide +kernel
theorem dX2_versionOf_7 : decode cX2_versionOf 7 = .ok (.iconst (-1), 1) := by decide +kernel
theorem dX2_versionOf_8 : decode cX2_versionOf 8 = .ok (.if_icmp .ne 7, 3) := by decide +kernel
theorem dX2_versionOf_11 : decode cX2_versionOf 11 = .ok (.iconst (-1), 1) := by decide +kernel
theorem dX2_versionOf_12 : decode cX2_versionOf 12 = .ok (.goto 9, 3) := by decide +kernel
theorem dX2_versionOf_15 : decode cX2_versionOf 15 = .ok (.aload_n 0, 1) := by decide +kernel
theorem dX2_versionOf_16 : decode cX2_versionOf 16 = .ok (.getfield 9, 3) := by decide +kernel
theorem dX2_versionOf_19 : decode cX2_versionOf 19 = .ok (.iload_n 3, 1) := by decide +kernel
theorem dX2_versionOf_20 : decode cX2_versionOf 20 = .ok (.iaload, 1) := by decide +kernel
theorem dX2_versionOf_21 : decode cX2_versionOf 21 = .ok (.ireturn, 1) := by decide +kernel
set_option maxRecDepth 20000 in
theorem ggX2_filledOf_X2_placeOf : GoodIn wsX2_filledOf wsX2_placeOf := goodIn_r _ [5] (by decide +kernel) (by decide +kernel)
set_option maxRecDepth 20000 in
theorem gX2_filledOf_X2_placeOf : GoodIn wsX2_filledOf (va_wsS RX2 37 yX2_placeOf wsX2_placeOf) := goodIn_app (goodIn_of _ (by decide +kernel)) ggX2_filledOf_X2_placeOf
theorem dX2_filledOf_0 : decode cX2_filledOf 0 = .ok (.iload_n 1, 1) := by decide +kernel
theorem dX2_filledOf_1 : decode cX2_filledOf 1 = .ok (.iload_n 2, 1) := by decide +kernel
theorem dX2_filledOf_2 : decode cX2_filledOf 2 = .ok (.invokestatic 37, 3) := by decide +kernel
theorem dX2_filledOf_5 : decode cX2_filledOf 5 = .ok (.istore_n 3, 1) := by decide +kernel
theorem dX2_filledOf_6 : decode cX2_filledOf 6 = .ok (.iload_n 3, 1) := by decide +kernel
theorem dX2_filledOf_7 : decode cX2_filledOf 7 = .ok (.iconst (-1), 1) := by decide +kernel
theorem dX2_filledOf_8 : decode cX2_filledOf 8 = .ok (.if_icmp .ne 7, 3) := by decide +kernel
theorem dX2_filledOf_11 : decode cX2_filledOf 11 = .ok (.iconst 0, 1) := by decide +kernel
theorem dX2_filledOf_12 : decode cX2_filledOf 12 = .ok (.goto 9, 3) := by decide +kernel
theorem dX2_filledOf_15 : decode cX2_filledOf 15 = .ok (.aload_n 0, 1) := by decide +kernel
theorem dX2_filledOf_16 : decode cX2_filledOf 16 = .ok (.getfield 15, 3) := by decide +kernel
theorem dX2_filledOf_19 : decode cX2_filledOf 19 = .ok (.iload_n 3, 1) := by decide +kernel
theorem dX2_filledOf_20 : decode cX2_filledOf 20 = .ok (.iaload, 1) := by decide +kernel
theorem dX2_filledOf_21 : decode cX2_filledOf 21 = .ok (.ireturn, 1) := by decide +kernel
set_option maxRecDepth 20000 in
theorem ggX2_cell_X2_placeOf : GoodIn wsX2_cell wsX2_placeOf := goodIn_r _ [6] (by decide +kernel) (by decide +kernel)
set_option maxRecDepth 20000 in
theorem gX2_cell_X2_placeOf : GoodIn wsX2_cell (va_wsS RX2 37 yX2_placeOf wsX2_placeOf) := goodIn_app (goodIn_of _ (by decide +kernel)) ggX2_cell_X2_placeOf
theorem dX2_cell_0 : decode cX2_cell 0 = .ok (.iload_n 1, 1) := by decide +kernel
theorem dX2_cell_1 : decode cX2_cell 1 = .ok (.iload_n 2, 1) := by decide +kernel
theorem dX2_cell_2 : decode cX2_cell 2 = .ok (.invokestatic 37, 3) := by decide +kernel
theorem dX2_cell_5 : decode cX2_cell 5 = .ok (.istore 4, 2) := by decide +kernel
theorem dX2_cell_7 : decode cX2_cell 7 = .ok (.iload 4, 2) := by decide +kernel
theorem dX2_cell_9 : decode cX2_cell 9 = .ok (.iconst (-1), 1) := by decide +kernel
theorem dX2_cell_10 : decode cX2_cell 10 = .ok (.if_icmp .eq 17, 3) := by decide +kernel
theorem dX2_cell_13 : decode cX2_cell 13 = .ok (.iload_n 3, 1) := by decide +kernel
theorem dX2_cell_14 : decode cX2_cell 14 = .ok (.ifCond .lt 13, 3) := by decide +kernel
theorem dX2_cell_17 : decode cX2_cell 17 = .ok (.iload_n 3, 1) := by decide +kernel
theorem dX2_cell_18 : decode cX2_cell 18 = .ok (.bipush 9, 2) := by decide +kernel
theorem dX2_cell_20 : decode cX2_cell 20 = .ok (.if_icmp .ge 7, 3) := by decide +kernel
theorem dX2_cell_23 : decode cX2_cell 23 = .ok (.iconst 1, 1) := by decide +kernel
theorem dX2_cell_24 : decode cX2_cell 24 = .ok (.goto 4, 3) := by decide +kernel
theorem dX2_cell_27 : decode cX2_cell 27 = .ok (.iconst 0, 1) := by decide +kernel
theorem dX2_cell_28 : decode cX2_cell 28 = .ok (.istore 5, 2) := by decide +kernel
theorem dX2_cell_30 : decode cX2_cell 30 = .ok (.iload 5, 2) := by decide +kernel
theorem dX2_cell_32 : decode cX2_cell 32 = .ok (.ifCond .eq 18, 3) := by decide +kernel
theorem dX2_cell_35 : decode cX2_cell 35 = .ok (.aload_n 0, 1) := by decide +kernel
theorem dX2_cell_36 : decode cX2_cell 36 = .ok (.getfield 18, 3) := by decide +kernel
theorem dX2_cell_39 : decode cX2_cell 39 = .ok (.iload 4, 2) := by decide +kernel
theorem dX2_cell_41 : decode cX2_cell 41 = .ok (.bipush 9, 2) := by decide +kernel
theorem dX2_cell_43 : decode cX2_cell 43 = .ok (.imul, 1) := by decide +kernel
theorem dX2_cell_44 : decode cX2_cell 44 = .ok (.iload_n 3, 1) := by decide +kernel
theorem dX2_cell_45 : decode cX2_cell 45 = .ok (.iadd, 1) := by decide +kernel
theorem dX2_cell_46 : decode cX2_cell 46 = .ok (.iaload, 1) := by decide +kernel
theorem dX2_cell_47 : decode cX2_cell 47 = .ok (.goto 5, 3) := by decide +kernel
theorem dX2_cell_50 : decode cX2_cell 50 = .ok (.ldc 40, 2) := by decide +kernel
theorem dX2_cell_52 : decode cX2_cell 52 = .ok (.ireturn, 1) := by decide +kernel
set_option maxRecDepth 20000 in
theorem ggX2_setVersion_X2_placeOf : GoodIn wsX2_setVersion wsX2_placeOf := goodIn_r _ [5] (by decide +kernel) (by decide +kernel)
set_option maxRecDepth 20000 in
theorem gX2_setVersion_X2_placeOf : GoodIn wsX2_setVersion (va_wsS RX2 37 yX2_placeOf wsX2_placeOf) := goodIn_app (goodIn_of _ (by decide +kernel)) ggX2_setVersion_X2_placeOf
theorem dX2_setVersion_0 : decode cX2_setVersion 0 = .ok (.iload_n 1, 1) := by decide +kernel
theorem dX2_setVersion_1 : decode cX2_setVersion 1 = .ok (.iload_n 2, 1) := by decide +kernel
theorem dX2_setVersion_2 : decode cX2_setVersion 2 = .ok (.invokestatic 37, 3) := by decide +kernel
theorem dX2_setVersion_5 : decode cX2_setVersion 5 = .ok (.istore 4, 2) := by decide +kernel
theorem dX2_setVersion_7 : decode cX2_setVersion 7 = .ok (.iload 4, 2) := by decide +kernel
theorem dX2_setVersion_9 : decode cX2_setVersion 9 = .ok (.iconst (-1), 1) := by decide +kernel
theorem dX2_setVersion_10 : decode cX2_setVersion 10 = .ok (.if_icmp .eq 11, 3) := by decide +kernel
theorem dX2_setVersion_13 : decode cX2_setVersion 13 = .ok (.aload_n 0, 1) := by decide +kernel
theorem dX2_setVersion_14 : decode cX2_setVersion 14 = .ok (.getfield 9, 3) := by decide +kernel
theorem dX2_setVersion_17 : decode cX2_setVersion 17 = .ok (.iload 4, 2) := by decide +kernel
theorem dX2_setVersion_19 : decode cX2_setVersion 19 = .ok (.iload_n 3, 1) := by decide +kernel
theorem dX2_setVersion_20 : decode cX2_setVersion 20 = .ok (.iastore, 1) := by decide +kernel
theorem dX2_setVersion_21 : decode cX2_setVersion 21 = .ok (.return_, 1) := by decide +kernel
set_option maxRecDepth 20000 in
theorem ggX2_setFilled_X2_placeOf : GoodIn wsX2_setFilled wsX2_placeOf := goodIn_r _ [5] (by decide +kernel) (by decide +kernel)
set_option maxRecDepth 20000 in
theorem gX2_setFilled_X2_placeOf : GoodIn wsX2_setFilled (va_wsS RX2 37 yX2_placeOf wsX2_placeOf) := goodIn_app (goodIn_of _ (by decide +kernel)) ggX2_setFilled_X2_placeOf
theorem dX2_setFilled_0 : decode cX2_setFilled 0 = .ok (.iload_n 1, 1) := by decide +kernel
theorem dX2_setFilled_1 : decode cX2_setFilled 1 = .ok (.iload_n 2, 1) := by decide +kernel
theorem dX2_setFilled_2 : decode cX2_setFilled 2 = .ok (.invokestatic 37, 3) := by decide +kernel
theorem dX2_setFilled_5 : decode cX2_setFilled 5 = .ok (.istore 4, 2) := by decide +kernel
theorem dX2_setFilled_7 : decode cX2_setFilled 7 = .ok (.iload 4, 2) := by decide +kernel
theorem dX2_setFilled_9 : decode cX2_setFilled 9 = .ok (.iconst (-1), 1) := by decide +kernel
theorem dX2_setFilled_10 : decode cX2_setFilled 10 = .ok (.if_icmp .eq 11, 3) := by decide +kernel
theorem dX2_setFilled_13 : decode cX2_setFilled 13 = .ok (.aload_n 0, 1) := by decide +kernel
theorem dX2_setFilled_14 : decode cX2_setFilled 14 = .ok (.getfield 15, 3) := by decide +kernel
theorem dX2_setFilled_17 : decode cX2_setFilled 17 = .ok (.iload 4, 2) := by decide +kernel
theorem dX2_setFilled_19 : decode cX2_setFilled 19 = .ok (.iload_n 3, 1) := by decide +kernel
theorem dX2_setFilled_20 : decode cX2_setFilled 20 = .ok (.iastore, 1) := by decide +kernel
theorem dX2_setFilled_21 : decode cX2_setFilled 21 = .ok (.return_, 1) := by decide +kernel
set_option maxRecDepth 20000 in
theorem ggX2_setCell_X2_placeOf : GoodIn wsX2_setCell wsX2_placeOf := goodIn_r _ [5] (by decide +kernel) (by decide +kernel)
set_option maxRecDepth 20000 in
theorem gX2_setCell_X2_placeOf : GoodIn wsX2_setCell (va_wsS RX2 37 yX2_placeOf wsX2_placeOf) := goodIn_app (goodIn_of _ (by decide +kernel)) ggX2_setCell_X2_placeOf
theorem dX2_setCell_0 : decode cX2_setCell 0 = .ok (.iload_n 1, 1) := by decide +kernel
theorem dX2_setCell_1 : decode cX2_setCell 1 = .ok (.iload_n 2, 1) := by decide +kernel
theorem dX2_setCell_2 : decode cX2_setCell 2 = .ok (.invokestatic 37, 3) := by decide +kernel
theorem dX2_setCell_5 : decode cX2_setCell 5 = .ok (.istore 5, 2) := by decide +kernel
theorem dX2_setCell_7 : decode cX2_setCell 7 = .ok (.iload 5, 2) := by decide +kernel
theorem dX2_setCell_9 : decode cX2_setCell 9 = .ok (.iconst (-1), 1) := by decide +kernel
theorem dX2_setCell_10 : decode cX2_setCell 10 = .ok (.if_icmp .eq 27, 3) := by decide +kernel
theorem dX2_setCell_13 : decode cX2_setCell 13 = .ok (.iload_n 3, 1) := by decide +kernel
theorem dX2_setCell_14 : decode cX2_setCell 14 = .ok (.ifCond .lt 23, 3) := by decide +kernel
theorem dX2_setCell_17 : decode cX2_setCell 17 = .ok (.iload_n 3, 1) := by decide +kernel
theorem dX2_setCell_18 : decode cX2_setCell 18 = .ok (.bipush 9, 2) := by decide +kernel
theorem dX2_setCell_20 : decode cX2_setCell 20 = .ok (.if_icmp .ge 17, 3) := by decide +kernel
theorem dX2_setCell_23 : decode cX2_setCell 23 = .ok (.aload_n 0, 1) := by decide +kernel
theorem dX2_setCell_24 : decode cX2_setCell 24 = .ok (.getfield 18, 3) := by decide +kernel
theorem dX2_setCell_27 : decode cX2_setCell 27 = .ok (.iload 5, 2) := by decide +kernel
theorem dX2_setCell_29 : decode cX2_setCell 29 = .ok (.bipush 9, 2) := by decide +kernel
theorem dX2_setCell_31 : decode cX2_setCell 31 = .ok (.imul, 1) := by decide +kernel
theorem dX2_setCell_32 : decode cX2_setCell 32 = .ok (.iload_n 3, 1) := by decide +kernel
theorem dX2_setCell_33 : decode cX2_setCell 33 = .ok (.iadd, 1) := by decide +kernel
theorem dX2_setCell_34 : decode cX2_setCell 34 = .ok (.iload 4, 2) := by decide +kernel
theorem dX2_setCell_36 : decode cX2_setCell 36 = .ok (.iastore, 1) := by decide +kernel
theorem dX2_setCell_37 : decode cX2_setCell 37 = .ok (.return_, 1) := by decide +kernel
set_option maxRecDepth 20000 in
theorem ggX2_lay_X2_setCell : GoodIn wsX2_lay wsX2_setCell := goodIn_r _ [6, 7, 8, 9, 5, 10, 21, 22, 23] (by decide +kernel) (by decide +kernel)
set_option maxRecDepth 20000 in
theorem gX2_lay_X2_setCell : GoodIn wsX2_lay (wsV RX2 41 RX2 yX2_setCell wsX2_setCell) := goodIn_app (goodIn_of _ (by decide +kernel)) ggX2_lay_X2_setCell
set_option maxRecDepth 20000 in
theorem ggX2_lay_X2_setFilled : GoodIn wsX2_lay wsX2_setFilled := goodIn_r _ [14, 15, 8, 9, 5, 10, 21, 22, 23] (by decide +kernel) (by decide +kernel)
set_option maxRecDepth 20000 in
theorem gX2_lay_X2_setFilled : GoodIn wsX2_lay (wsV RX2 45 RX2 yX2_setFilled wsX2_setFilled) := goodIn_app (goodIn_of _ (by decide +kernel)) ggX2_lay_X2_setFilled
set_option maxRecDepth 20000 in
theorem ggX2_lay_X2_setVersion : GoodIn wsX2_lay wsX2_setVersion := goodIn_r _ [19, 20, 8, 9, 5, 10, 21, 22, 23] (by decide +kernel) (by decide +kernel)
set_option maxRecDepth 20000 in
theorem gX2_lay_X2_setVersion : GoodIn wsX2_lay (wsV RX2 49 RX2 yX2_setVersion wsX2_setVersion) := goodIn_app (goodIn_of _ (by decide +kernel)) ggX2_lay_X2_setVersion
theorem dX2_lay_0 : decode cX2_lay 0 = .ok (.iconst 0, 1) := by decide +kernel
theorem dX2_lay_1 : decode cX2_lay 1 = .ok (.istore_n 3, 1) := by decide +kernel
theorem dX2_lay_2 : decode cX2_lay 2 = .ok (.iload_n 3, 1) := by decide +kernel
theorem dX2_lay_3 : decode cX2_lay 3 = .ok (.bipush 9, 2) := by decide +kernel
theorem dX2_lay_5 : decode cX2_lay 5 = .ok (.if_icmp .ge 18, 3) := by decide +kernel
theorem dX2_lay_8 : decode cX2_lay 8 = .ok (.aload_n 0, 1) := by decide +kernel
theorem dX2_lay_9 : decode cX2_lay 9 = .ok (.iload_n 1, 1) := by decide +kernel
theorem dX2_lay_10 : decode cX2_lay 10 = .ok (.iload_n 2, 1) := by decide +kernel
theorem dX2_lay_11 : decode cX2_lay 11 = .ok (.iload_n 3, 1) := by decide +kernel
theorem dX2_lay_12 : decode cX2_lay 12 = .ok (.ldc 40, 2) := by decide +kernel
theorem dX2_lay_14 : decode cX2_lay 14 = .ok (.invokevirtual 41, 3) := by decide +kernel
theorem dX2_lay_17 : decode cX2_lay 17 = .ok (.iinc 3 1, 3) := by decide +kernel
theorem dX2_lay_20 : decode cX2_lay 20 = .ok (.goto (-18), 3) := by decide +kernel
theorem dX2_lay_23 : decode cX2_lay 23 = .ok (.aload_n 0, 1) := by decide +kernel
theorem dX2_lay_24 : decode cX2_lay 24 = .ok (.iload_n 1, 1) := by decide +kernel
theorem dX2_lay_25 : decode cX2_lay 25 = .ok (.iload_n 2, 1) := by decide +kernel
theorem dX2_lay_26 : decode cX2_lay 26 = .ok (.iconst 0, 1) := by decide +kernel
theorem dX2_lay_27 : decode cX2_lay 27 = .ok (.invokevirtual 45, 3) := by decide +kernel
theorem dX2_lay_30 : decode cX2_lay 30 = .ok (.aload_n 0, 1) := by decide +kernel
theorem dX2_lay_31 : decode cX2_lay 31 = .ok (.iload_n 1, 1) := by decide +kernel
theorem dX2_lay_32 : decode cX2_lay 32 = .ok (.iload_n 2, 1) := by decide +kernel
theorem dX2_lay_33 : decode cX2_lay 33 = .ok (.iconst 1, 1) := by decide +kernel
theorem dX2_lay_34 : decode cX2_lay 34 = .ok (.invokevirtual 49, 3) := by decide +kernel
theorem dX2_lay_37 : decode cX2_lay 37 = .ok (.return_, 1) := by decide +kernel
set_option maxRecDepth 20000 in
theorem ggX2_layLike_X2_cell : GoodIn wsX2_layLike wsX2_cell := goodIn_r _ [5, 6, 7, 8, 9, 4, 10, 29, 30, 31] (by decide +kernel) (by decide +kernel)
set_option maxRecDepth 20000 in
theorem gX2_layLike_X2_cell : GoodIn wsX2_layLike (wsV RX2 52 RX2 yX2_cell wsX2_cell) := goodIn_app (goodIn_of _ (by decide +kernel)) ggX2_layLike_X2_cell
set_option maxRecDepth 20000 in
theorem ggX2_layLike_X2_setCell : GoodIn wsX2_layLike wsX2_setCell := goodIn_r _ [14, 6, 8, 9, 4, 10, 29, 30, 31] (by decide +kernel) (by decide +kernel)
set_option maxRecDepth 20000 in
theorem gX2_layLike_X2_setCell : GoodIn wsX2_layLike (wsV RX2 41 RX2 yX2_setCell wsX2_setCell) := goodIn_app (goodIn_of _ (by decide +kernel)) ggX2_layLike_X2_setCell
set_option maxRecDepth 20000 in
theorem ggX2_layLike_X2_filledOf : GoodIn wsX2_layLike wsX2_filledOf := goodIn_r _ [18, 19, 8, 9, 4, 10, 29, 30, 31] (by decide +kernel) (by decide +kernel)
set_option maxRecDepth 20000 in
theorem gX2_layLike_X2_filledOf : GoodIn wsX2_layLike (wsV RX2 56 RX2 yX2_filledOf wsX2_filledOf) := goodIn_app (goodIn_of _ (by decide +kernel)) ggX2_layLike_X2_filledOf
set_option maxRecDepth 20000 in
theorem ggX2_layLike_X2_setFilled : GoodIn wsX2_layLike wsX2_setFilled := goodIn_r _ [23, 19, 8, 9, 4, 10, 29, 30, 31] (by decide +kernel) (by decide +kernel)
set_option maxRecDepth 20000 in
theorem gX2_layLike_X2_setFilled : GoodIn wsX2_layLike (wsV RX2 45 RX2 yX2_setFilled wsX2_setFilled) := goodIn_app (goodIn_of _ (by decide +kernel)) ggX2_layLike_X2_setFilled
set_option maxRecDepth 20000 in
theorem ggX2_layLike_X2_setVersion : GoodIn wsX2_layLike wsX2_setVersion := goodIn_r _ [27, 28, 8, 9, 4, 10, 29, 30, 31] (by decide +kernel) (by decide +kernel)
set_option maxRecDepth 20000 in
theorem gX2_layLike_X2_setVersion : GoodIn wsX2_layLike (wsV RX2 49 RX2 yX2_setVersion wsX2_setVersion) := goodIn_app (goodIn_of _ (by decide +kernel)) ggX2_layLike_X2_setVersion
theorem dX2_layLike_0 : decode cX2_layLike 0 = .ok (.iconst 0, 1) := by decide +kernel
theorem dX2_layLike_1 : decode cX2_layLike 1 = .ok (.istore 6, 2) := by decide +kernel
theorem dX2_layLike_3 : decode cX2_layLike 3 = .ok (.iload 6, 2) := by decide +kernel
theorem dX2_layLike_5 : decode cX2_layLike 5 = .ok (.bipush 9, 2) := by decide +kernel
theorem dX2_layLike_7 : decode cX2_layLike 7 = .ok (.if_icmp .ge 26, 3) := by decide +kernel
theorem dX2_layLike_10 : decode cX2_layLike 10 = .ok (.aload_n 0, 1) := by decide +kernel
theorem dX2_layLike_11 : decode cX2_layLike 11 = .ok (.iload_n 1, 1) := by decide +kernel
theorem dX2_layLike_12 : decode cX2_layLike 12 = .ok (.iload_n 2, 1) := by decide +kernel
theorem dX2_layLike_13 : decode cX2_layLike 13 = .ok (.iload 6, 2) := by decide +kernel
theorem dX2_layLike_15 : decode cX2_layLike 15 = .ok (.aload_n 0, 1) := by decide +kernel
theorem dX2_layLike_16 : decode cX2_layLike 16 = .ok (.iload_n 3, 1) := by decide +kernel
theorem dX2_layLike_17 : decode cX2_layLike 17 = .ok (.iload 4, 2) := by decide +kernel
theorem dX2_layLike_19 : decode cX2_layLike 19 = .ok (.iload 6, 2) := by decide +kernel
theorem dX2_layLike_21 : decode cX2_layLike 21 = .ok (.invokevirtual 52, 3) := by decide +kernel
theorem dX2_layLike_24 : decode cX2_layLike 24 = .ok (.invokevirtual 41, 3) := by decide +kernel
theorem dX2_layLike_27 : decode cX2_layLike 27 = .ok (.iinc 6 1, 3) := by decide +kernel
theorem dX2_layLike_30 : decode cX2_layLike 30 = .ok (.goto (-27), 3) := by decide +kernel
theorem dX2_layLike_33 : decode cX2_layLike 33 = .ok (.aload_n 0, 1) := by decide +kernel
theorem dX2_layLike_34 : decode cX2_layLike 34 = .ok (.iload_n 1, 1) := by decide +kernel
theorem dX2_layLike_35 : decode cX2_layLike 35 = .ok (.iload_n 2, 1) := by decide +kernel
theorem dX2_layLike_36 : decode cX2_layLike 36 = .ok (.aload_n 0, 1) := by decide +kernel
theorem dX2_layLike_37 : decode cX2_layLike 37 = .ok (.iload_n 3, 1) := by decide +kernel
theorem dX2_layLike_38 : decode cX2_layLike 38 = .ok (.iload 4, 2) := by decide +kernel
theorem dX2_layLike_40 : decode cX2_layLike 40 = .ok (.invokevirtual 56, 3) := by decide +kernel
theorem dX2_layLike_43 : decode cX2_layLike 43 = .ok (.invokevirtual 45, 3) := by decide +kernel
theorem dX2_layLike_46 : decode cX2_layLike 46 = .ok (.aload_n 0, 1) := by decide +kernel
theorem dX2_layLike_47 : decode cX2_layLike 47 = .ok (.iload_n 1, 1) := by decide +kernel
theorem dX2_layLike_48 : decode cX2_layLike 48 = .ok (.iload_n 2, 1) := by decide +kernel
theorem dX2_layLike_49 : decode cX2_layLike 49 = .ok (.iload 5, 2) := by decide +kernel
theorem dX2_layLike_51 : decode cX2_layLike 51 = .ok (.invokevirtual 49, 3) := by decide +kernel
theorem dX2_layLike_54 : decode cX2_layLike 54 = .ok (.return_, 1) := by decide +kernel
set_option maxRecDepth 20000 in
theorem ggX2_drop_X2_setVersion : GoodIn wsX2_drop wsX2_setVersion := goodIn_r _ [5, 6, 7, 8, 4, 9, 10, 11, 12] (by decide +kernel) (by decide +kernel)
set_option maxRecDepth 20000 in
theorem gX2_drop_X2_setVersion : GoodIn wsX2_drop (wsV RX2 49 RX2 yX2_setVersion wsX2_setVersion) := goodIn_app (goodIn_of _ (by decide +kernel)) ggX2_drop_X2_setVersion
theorem dX2_drop_0 : decode cX2_drop 0 = .ok (.aload_n 0, 1) := by decide +kernel
theorem dX2_drop_1 : decode cX2_drop 1 = .ok (.iload_n 1, 1) := by decide +kernel
theorem dX2_drop_2 : decode cX2_drop 2 = .ok (.iload_n 2, 1) := by decide +kernel
theorem dX2_drop_3 : decode cX2_drop 3 = .ok (.iconst (-1), 1) := by decide +kernel
theorem dX2_drop_4 : decode cX2_drop 4 = .ok (.invokevirtual 49, 3) := by decide +kernel
theorem dX2_drop_7 : decode cX2_drop 7 = .ok (.return_, 1) := by decide +kernel
set_option maxRecDepth 20000 in
theorem ggX2_write_X2_setCell : GoodIn wsX2_write wsX2_setCell := goodIn_r _ [5, 6, 7, 8, 4, 9, 15, 16, 17] (by decide +kernel) (by decide +kernel)
set_option maxRecDepth 20000 in
theorem gX2_write_X2_setCell : GoodIn wsX2_write (wsV RX2 41 RX2 yX2_setCell wsX2_setCell) := goodIn_app (goodIn_of _ (by decide +kernel)) ggX2_write_X2_setCell
set_option maxRecDepth 20000 in
theorem ggX2_write_X2_setFilled : GoodIn wsX2_write wsX2_setFilled := goodIn_r _ [13, 14, 7, 8, 4, 9, 15, 16, 17] (by decide +kernel) (by decide +kernel)
set_option maxRecDepth 20000 in
theorem gX2_write_X2_setFilled : GoodIn wsX2_write (wsV RX2 45 RX2 yX2_setFilled wsX2_setFilled) := goodIn_app (goodIn_of _ (by decide +kernel)) ggX2_write_X2_setFilled
theorem dX2_write_0 : decode cX2_write 0 = .ok (.iconst 0, 1) := by decide +kernel
theorem dX2_write_1 : decode cX2_write 1 = .ok (.istore 6, 2) := by decide +kernel
theorem dX2_write_3 : decode cX2_write 3 = .ok (.iload 6, 2) := by decide +kernel
theorem dX2_write_5 : decode cX2_write 5 = .ok (.iload 5, 2) := by decide +kernel
theorem dX2_write_7 : decode cX2_write 7 = .ok (.if_icmp .ge 32, 3) := by decide +kernel
theorem dX2_write_10 : decode cX2_write 10 = .ok (.iload 6, 2) := by decide +kernel
theorem dX2_write_12 : decode cX2_write 12 = .ok (.aload 4, 2) := by decide +kernel
theorem dX2_write_14 : decode cX2_write 14 = .ok (.arraylength, 1) := by decide +kernel
theorem dX2_write_15 : decode cX2_write 15 = .ok (.if_icmp .ge 24, 3) := by decide +kernel
theorem dX2_write_18 : decode cX2_write 18 = .ok (.aload_n 0, 1) := by decide +kernel
theorem dX2_write_19 : decode cX2_write 19 = .ok (.iload_n 1, 1) := by decide +kernel
theorem dX2_write_20 : decode cX2_write 20 = .ok (.iload_n 2, 1) := by decide +kernel
theorem dX2_write_21 : decode cX2_write 21 = .ok (.iload_n 3, 1) := by decide +kernel
theorem dX2_write_22 : decode cX2_write 22 = .ok (.iload 6, 2) := by decide +kernel
theorem dX2_write_24 : decode cX2_write 24 = .ok (.iadd, 1) := by decide +kernel
theorem dX2_write_25 : decode cX2_write 25 = .ok (.aload 4, 2) := by decide +kernel
theorem dX2_write_27 : decode cX2_write 27 = .ok (.iload 6, 2) := by decide +kernel
theorem dX2_write_29 : decode cX2_write 29 = .ok (.iaload, 1) := by decide +kernel
theorem dX2_write_30 : decode cX2_write 30 = .ok (.invokevirtual 41, 3) := by decide +kernel
theorem dX2_write_33 : decode cX2_write 33 = .ok (.iinc 6 1, 3) := by decide +kernel
theorem dX2_write_36 : decode cX2_write 36 = .ok (.goto (-33), 3) := by decide +kernel
theorem dX2_write_39 : decode cX2_write 39 = .ok (.aload_n 0, 1) := by decide +kernel
theorem dX2_write_40 : decode cX2_write 40 = .ok (.iload_n 1, 1) := by decide +kernel
theorem dX2_write_41 : decode cX2_write 41 = .ok (.iload_n 2, 1) := by decide +kernel
theorem dX2_write_42 : decode cX2_write 42 = .ok (.iload_n 3, 1) := by decide +kernel
theorem dX2_write_43 : decode cX2_write 43 = .ok (.iload 5, 2) := by decide +kernel
theorem dX2_write_45 : decode cX2_write 45 = .ok (.iadd, 1) := by decide +kernel
theorem dX2_write_46 : decode cX2_write 46 = .ok (.invokevirtual 45, 3) := by decide +kernel
theorem dX2_write_49 : decode cX2_write 49 = .ok (.return_, 1) := by decide +kernel
set_option maxRecDepth 20000 in
theorem ggX2_pad_X2_cell : GoodIn wsX2_pad wsX2_cell := goodIn_r _ [6, 7, 1, 8, 9, 5, 10, 20, 21, 22] (by decide +kernel) (by decide +kernel)
set_option maxRecDepth 20000 in
theorem gX2_pad_X2_cell : GoodIn wsX2_pad (wsV RX2 52 RX2 yX2_cell wsX2_cell) := goodIn_app (goodIn_of _ (by decide +kernel)) ggX2_pad_X2_cell
set_option maxRecDepth 20000 in
theorem ggX2_pad_X2_setCell : GoodIn wsX2_pad wsX2_setCell := goodIn_r _ [14, 7, 8, 9, 5, 10, 20, 21, 22] (by decide +kernel) (by decide +kernel)
set_option maxRecDepth 20000 in
theorem gX2_pad_X2_setCell : GoodIn wsX2_pad (wsV RX2 41 RX2 yX2_setCell wsX2_setCell) := goodIn_app (goodIn_of _ (by decide +kernel)) ggX2_pad_X2_setCell
set_option maxRecDepth 20000 in
theorem ggX2_pad_X2_setFilled : GoodIn wsX2_pad wsX2_setFilled := goodIn_r _ [18, 19, 8, 9, 5, 10, 20, 21, 22] (by decide +kernel) (by decide +kernel)
set_option maxRecDepth 20000 in
theorem gX2_pad_X2_setFilled : GoodIn wsX2_pad (wsV RX2 45 RX2 yX2_setFilled wsX2_setFilled) := goodIn_app (goodIn_of _ (by decide +kernel)) ggX2_pad_X2_setFilled
theorem dX2_pad_0 : decode cX2_pad 0 = .ok (.iload_n 3, 1) := by decide +kernel
theorem dX2_pad_1 : decode cX2_pad 1 = .ok (.istore 5, 2) := by decide +kernel
theorem dX2_pad_3 : decode cX2_pad 3 = .ok (.iload 5, 2) := by decide +kernel
theorem dX2_pad_5 : decode cX2_pad 5 = .ok (.iload 4, 2) := by decide +kernel
theorem dX2_pad_7 : decode cX2_pad 7 = .ok (.if_icmp .ge 31, 3) := by decide +kernel
theorem dX2_pad_10 : decode cX2_pad 10 = .ok (.aload_n 0, 1) := by decide +kernel
theorem dX2_pad_11 : decode cX2_pad 11 = .ok (.iload_n 1, 1) := by decide +kernel
theorem dX2_pad_12 : decode cX2_pad 12 = .ok (.iload_n 2, 1) := by decide +kernel
theorem dX2_pad_13 : decode cX2_pad 13 = .ok (.iload 5, 2) := by decide +kernel
theorem dX2_pad_15 : decode cX2_pad 15 = .ok (.invokevirtual 52, 3) := by decide +kernel
theorem dX2_pad_18 : decode cX2_pad 18 = .ok (.ldc 40, 2) := by decide +kernel
theorem dX2_pad_20 : decode cX2_pad 20 = .ok (.if_icmp .ne 12, 3) := by decide +kernel
theorem dX2_pad_23 : decode cX2_pad 23 = .ok (.aload_n 0, 1) := by decide +kernel
theorem dX2_pad_24 : decode cX2_pad 24 = .ok (.iload_n 1, 1) := by decide +kernel
theorem dX2_pad_25 : decode cX2_pad 25 = .ok (.iload_n 2, 1) := by decide +kernel
theorem dX2_pad_26 : decode cX2_pad 26 = .ok (.iload 5, 2) := by decide +kernel
theorem dX2_pad_28 : decode cX2_pad 28 = .ok (.iconst 0, 1) := by decide +kernel
theorem dX2_pad_29 : decode cX2_pad 29 = .ok (.invokevirtual 41, 3) := by decide +kernel
theorem dX2_pad_32 : decode cX2_pad 32 = .ok (.iinc 5 1, 3) := by decide +kernel
theorem dX2_pad_35 : decode cX2_pad 35 = .ok (.goto (-32), 3) := by decide +kernel
theorem dX2_pad_38 : decode cX2_pad 38 = .ok (.aload_n 0, 1) := by decide +kernel
theorem dX2_pad_39 : decode cX2_pad 39 = .ok (.iload_n 1, 1) := by decide +kernel
theorem dX2_pad_40 : decode cX2_pad 40 = .ok (.iload_n 2, 1) := by decide +kernel
theorem dX2_pad_41 : decode cX2_pad 41 = .ok (.iload 4, 2) := by decide +kernel
theorem dX2_pad_43 : decode cX2_pad 43 = .ok (.invokevirtual 45, 3) := by decide +kernel
theorem dX2_pad_46 : decode cX2_pad 46 = .ok (.return_, 1) := by decide +kernel
theorem dX2_manyAt_0 : decode cX2_manyAt 0 = .ok (.iload_n 1, 1) := by decide +kernel
theorem dX2_manyAt_1 : decode cX2_manyAt 1 = .ok (.ifCond .lt 8, 3) := by decide +kernel
theorem dX2_manyAt_4 : decode cX2_manyAt 4 = .ok (.iload_n 1, 1) := by decide +kernel
theorem dX2_manyAt_5 : decode cX2_manyAt 5 = .ok (.iconst 5, 1) := by decide +kernel
theorem dX2_manyAt_6 : decode cX2_manyAt 6 = .ok (.if_icmp .lt 5, 3) := by decide +kernel
theorem dX2_manyAt_9 : decode cX2_manyAt 9 = .ok (.iconst 0, 1) := by decide +kernel
theorem dX2_manyAt_10 : decode cX2_manyAt 10 = .ok (.ireturn, 1) := by decide +kernel
theorem dX2_manyAt_11 : decode cX2_manyAt 11 = .ok (.iconst 0, 1) := by decide +kernel
theorem dX2_manyAt_12 : decode cX2_manyAt 12 = .ok (.istore_n 2, 1) := by decide +kernel
theorem dX2_manyAt_13 : decode cX2_manyAt 13 = .ok (.iconst 0, 1) := by decide +kernel
theorem dX2_manyAt_14 : decode cX2_manyAt 14 = .ok (.istore_n 3, 1) := by decide +kernel
theorem dX2_manyAt_15 : decode cX2_manyAt 15 = .ok (.iload_n 3, 1) := by decide +kernel
theorem dX2_manyAt_16 : decode cX2_manyAt 16 = .ok (.bipush 30, 2) := by decide +kernel
theorem dX2_manyAt_18 : decode cX2_manyAt 18 = .ok (.if_icmp .ge 31, 3) := by decide +kernel
theorem dX2_manyAt_21 : decode cX2_manyAt 21 = .ok (.iload_n 2, 1) := by decide +kernel
theorem dX2_manyAt_22 : decode cX2_manyAt 22 = .ok (.aload_n 0, 1) := by decide +kernel
theorem dX2_manyAt_23 : decode cX2_manyAt 23 = .ok (.getfield 9, 3) := by decide +kernel
theorem dX2_manyAt_26 : decode cX2_manyAt 26 = .ok (.iload_n 3, 1) := by decide +kernel
theorem dX2_manyAt_27 : decode cX2_manyAt 27 = .ok (.iconst 5, 1) := by decide +kernel
theorem dX2_manyAt_28 : decode cX2_manyAt 28 = .ok (.imul, 1) := by decide +kernel
theorem dX2_manyAt_29 : decode cX2_manyAt 29 = .ok (.iload_n 1, 1) := by decide +kernel
theorem dX2_manyAt_30 : decode cX2_manyAt 30 = .ok (.iadd, 1) := by decide +kernel
theorem dX2_manyAt_31 : decode cX2_manyAt 31 = .ok (.iaload, 1) := by decide +kernel
theorem dX2_manyAt_32 : decode cX2_manyAt 32 = .ok (.iconst (-1), 1) := by decide +kernel
theorem dX2_manyAt_33 : decode cX2_manyAt 33 = .ok (.if_icmp .eq 7, 3) := by decide +kernel
theorem dX2_manyAt_36 : decode cX2_manyAt 36 = .ok (.iconst 1, 1) := by decide +kernel
theorem dX2_manyAt_37 : decode cX2_manyAt 37 = .ok (.goto 4, 3) := by decide +kernel
theorem dX2_manyAt_40 : decode cX2_manyAt 40 = .ok (.iconst 0, 1) := by decide +kernel
theorem dX2_manyAt_41 : decode cX2_manyAt 41 = .ok (.iadd, 1) := by decide +kernel
theorem dX2_manyAt_42 : decode cX2_manyAt 42 = .ok (.istore_n 2, 1) := by decide +kernel
theorem dX2_manyAt_43 : decode cX2_manyAt 43 = .ok (.iinc 3 1, 3) := by decide +kernel
theorem dX2_manyAt_46 : decode cX2_manyAt 46 = .ok (.goto (-31), 3) := by decide +kernel
theorem dX2_manyAt_49 : decode cX2_manyAt 49 = .ok (.iload_n 2, 1) := by decide +kernel
theorem dX2_manyAt_50 : decode cX2_manyAt 50 = .ok (.ireturn, 1) := by decide +kernel
set_option maxRecDepth 20000 in
theorem ggX2_lettersIn_X2_cell : GoodIn wsX2_lettersIn wsX2_cell := goodIn_r _ [5, 6, 7, 8, 9, 4, 10, 17, 18, 19] (by decide +kernel) (by decide +kernel)
set_option maxRecDepth 20000 in
theorem gX2_lettersIn_X2_cell : GoodIn wsX2_lettersIn (wsV RX2 52 RX2 yX2_cell wsX2_cell) := goodIn_app (goodIn_of _ (by decide +kernel)) ggX2_lettersIn_X2_cell
set_option maxRecDepth 20000 in
theorem ggX2_lettersIn_X10_isLetter : GoodIn wsX2_lettersIn wsX10_isLetter := goodIn_r _ [13, 14, 15, 12, 16] (by decide +kernel) (by decide +kernel)
set_option maxRecDepth 20000 in
theorem gX2_lettersIn_X10_isLetter_n59 : GoodIn wsX2_lettersIn (wsX10_isLetter) := ggX2_lettersIn_X10_isLetter
theorem dX2_lettersIn_0 : decode cX2_lettersIn 0 = .ok (.iconst 0, 1) := by decide +kernel
theorem dX2_lettersIn_1 : decode cX2_lettersIn 1 = .ok (.istore_n 3, 1) := by decide +kernel
theorem dX2_lettersIn_2 : decode cX2_lettersIn 2 = .ok (.iconst 0, 1) := by decide +kernel
theorem dX2_lettersIn_3 : decode cX2_lettersIn 3 = .ok (.istore 4, 2) := by decide +kernel
theorem dX2_lettersIn_5 : decode cX2_lettersIn 5 = .ok (.iload 4, 2) := by decide +kernel
theorem dX2_lettersIn_7 : decode cX2_lettersIn 7 = .ok (.bipush 9, 2) := by decide +kernel
theorem dX2_lettersIn_9 : decode cX2_lettersIn 9 = .ok (.if_icmp .ge 31, 3) := by decide +kernel
theorem dX2_lettersIn_12 : decode cX2_lettersIn 12 = .ok (.iload_n 3, 1) := by decide +kernel
theorem dX2_lettersIn_13 : decode cX2_lettersIn 13 = .ok (.aload_n 0, 1) := by decide +kernel
theorem dX2_lettersIn_14 : decode cX2_lettersIn 14 = .ok (.iload_n 1, 1) := by decide +kernel
theorem dX2_lettersIn_15 : decode cX2_lettersIn 15 = .ok (.iload_n 2, 1) := by decide +kernel
theorem dX2_lettersIn_16 : decode cX2_lettersIn 16 = .ok (.iload 4, 2) := by decide +kernel
theorem dX2_lettersIn_18 : decode cX2_lettersIn 18 = .ok (.invokevirtual 52, 3) := by decide +kernel
theorem dX2_lettersIn_21 : decode cX2_lettersIn 21 = .ok (.invokestatic 59, 3) := by decide +kernel
theorem dX2_lettersIn_24 : decode cX2_lettersIn 24 = .ok (.ifCond .eq 7, 3) := by decide +kernel
theorem dX2_lettersIn_27 : decode cX2_lettersIn 27 = .ok (.iconst 1, 1) := by decide +kernel
theorem dX2_lettersIn_28 : decode cX2_lettersIn 28 = .ok (.goto 4, 3) := by decide +kernel
theorem dX2_lettersIn_31 : decode cX2_lettersIn 31 = .ok (.iconst 0, 1) := by decide +kernel
theorem dX2_lettersIn_32 : decode cX2_lettersIn 32 = .ok (.iadd, 1) := by decide +kernel
theorem dX2_lettersIn_33 : decode cX2_lettersIn 33 = .ok (.istore_n 3, 1) := by decide +kernel
theorem dX2_lettersIn_34 : decode cX2_lettersIn 34 = .ok (.iinc 4 1, 3) := by decide +kernel
theorem dX2_lettersIn_37 : decode cX2_lettersIn 37 = .ok (.goto (-32), 3) := by decide +kernel
theorem dX2_lettersIn_40 : decode cX2_lettersIn 40 = .ok (.iload_n 3, 1) := by decide +kernel
theorem dX2_lettersIn_41 : decode cX2_lettersIn 41 = .ok (.ireturn, 1) := by decide +kernel
set_option maxRecDepth 20000 in
theorem ggX2_padsIn_X2_cell : GoodIn wsX2_padsIn wsX2_cell := goodIn_r _ [5, 6, 7, 8, 9, 4, 10, 11, 12, 13] (by decide +kernel) (by decide +kernel)
set_option maxRecDepth 20000 in
theorem gX2_padsIn_X2_cell : GoodIn wsX2_padsIn (wsV RX2 52 RX2 yX2_cell wsX2_cell) := goodIn_app (goodIn_of _ (by decide +kernel)) ggX2_padsIn_X2_cell
theorem dX2_padsIn_0 : decode cX2_padsIn 0 = .ok (.iconst 0, 1) := by decide +kernel
theorem dX2_padsIn_1 : decode cX2_padsIn 1 = .ok (.istore_n 3, 1) := by decide +kernel
theorem dX2_padsIn_2 : decode cX2_padsIn 2 = .ok (.iconst 0, 1) := by decide +kernel
theorem dX2_padsIn_3 : decode cX2_padsIn 3 = .ok (.istore 4, 2) := by decide +kernel
theorem dX2_padsIn_5 : decode cX2_padsIn 5 = .ok (.iload 4, 2) := by decide +kernel
theorem dX2_padsIn_7 : decode cX2_padsIn 7 = .ok (.bipush 9, 2) := by decide +kernel
theorem dX2_padsIn_9 : decode cX2_padsIn 9 = .ok (.if_icmp .ge 28, 3) := by decide +kernel
theorem dX2_padsIn_12 : decode cX2_padsIn 12 = .ok (.iload_n 3, 1) := by decide +kernel
theorem dX2_padsIn_13 : decode cX2_padsIn 13 = .ok (.aload_n 0, 1) := by decide +kernel
theorem dX2_padsIn_14 : decode cX2_padsIn 14 = .ok (.iload_n 1, 1) := by decide +kernel
theorem dX2_padsIn_15 : decode cX2_padsIn 15 = .ok (.iload_n 2, 1) := by decide +kernel
theorem dX2_padsIn_16 : decode cX2_padsIn 16 = .ok (.iload 4, 2) := by decide +kernel
theorem dX2_padsIn_18 : decode cX2_padsIn 18 = .ok (.invokevirtual 52, 3) := by decide +kernel
theorem dX2_padsIn_21 : decode cX2_padsIn 21 = .ok (.ifCond .ne 7, 3) := by decide +kernel
theorem dX2_padsIn_24 : decode cX2_padsIn 24 = .ok (.iconst 1, 1) := by decide +kernel
theorem dX2_padsIn_25 : decode cX2_padsIn 25 = .ok (.goto 4, 3) := by decide +kernel
theorem dX2_padsIn_28 : decode cX2_padsIn 28 = .ok (.iconst 0, 1) := by decide +kernel
theorem dX2_padsIn_29 : decode cX2_padsIn 29 = .ok (.iadd, 1) := by decide +kernel
theorem dX2_padsIn_30 : decode cX2_padsIn 30 = .ok (.istore_n 3, 1) := by decide +kernel
theorem dX2_padsIn_31 : decode cX2_padsIn 31 = .ok (.iinc 4 1, 3) := by decide +kernel
theorem dX2_padsIn_34 : decode cX2_padsIn 34 = .ok (.goto (-29), 3) := by decide +kernel
theorem dX2_padsIn_37 : decode cX2_padsIn 37 = .ok (.iload_n 3, 1) := by decide +kernel
theorem dX2_padsIn_38 : decode cX2_padsIn 38 = .ok (.ireturn, 1) := by decide +kernel
set_option maxRecDepth 20000 in
theorem ggX2_holdsAt_X2_cell : GoodIn wsX2_holdsAt wsX2_cell := goodIn_r _ [5, 6, 7, 8, 9, 4, 10, 11, 12, 13] (by decide +kernel) (by decide +kernel)
set_option maxRecDepth 20000 in
theorem gX2_holdsAt_X2_cell : GoodIn wsX2_holdsAt (wsV RX2 52 RX2 yX2_cell wsX2_cell) := goodIn_app (goodIn_of _ (by decide +kernel)) ggX2_holdsAt_X2_cell
theorem dX2_holdsAt_0 : decode cX2_holdsAt 0 = .ok (.iconst 0, 1) := by decide +kernel
theorem dX2_holdsAt_1 : decode cX2_holdsAt 1 = .ok (.istore 6, 2) := by decide +kernel
theorem dX2_holdsAt_3 : decode cX2_holdsAt 3 = .ok (.iload 6, 2) := by decide +kernel
theorem dX2_holdsAt_5 : decode cX2_holdsAt 5 = .ok (.iload 5, 2) := by decide +kernel
theorem dX2_holdsAt_7 : decode cX2_holdsAt 7 = .ok (.if_icmp .ge 37, 3) := by decide +kernel
theorem dX2_holdsAt_10 : decode cX2_holdsAt 10 = .ok (.iload 6, 2) := by decide +kernel
theorem dX2_holdsAt_12 : decode cX2_holdsAt 12 = .ok (.aload 4, 2) := by decide +kernel
theorem dX2_holdsAt_14 : decode cX2_holdsAt 14 = .ok (.arraylength, 1) := by decide +kernel
theorem dX2_holdsAt_15 : decode cX2_holdsAt 15 = .ok (.if_icmp .ge 29, 3) := by decide +kernel
theorem dX2_holdsAt_18 : decode cX2_holdsAt 18 = .ok (.aload_n 0, 1) := by decide +kernel
theorem dX2_holdsAt_19 : decode cX2_holdsAt 19 = .ok (.iload_n 1, 1) := by decide +kernel
theorem dX2_holdsAt_20 : decode cX2_holdsAt 20 = .ok (.iload_n 2, 1) := by decide +kernel
theorem dX2_holdsAt_21 : decode cX2_holdsAt 21 = .ok (.iload_n 3, 1) := by decide +kernel
theorem dX2_holdsAt_22 : decode cX2_holdsAt 22 = .ok (.iload 6, 2) := by decide +kernel
theorem dX2_holdsAt_24 : decode cX2_holdsAt 24 = .ok (.iadd, 1) := by decide +kernel
theorem dX2_holdsAt_25 : decode cX2_holdsAt 25 = .ok (.invokevirtual 52, 3) := by decide +kernel
theorem dX2_holdsAt_28 : decode cX2_holdsAt 28 = .ok (.aload 4, 2) := by decide +kernel
theorem dX2_holdsAt_30 : decode cX2_holdsAt 30 = .ok (.iload 6, 2) := by decide +kernel
theorem dX2_holdsAt_32 : decode cX2_holdsAt 32 = .ok (.iaload, 1) := by decide +kernel
theorem dX2_holdsAt_33 : decode cX2_holdsAt 33 = .ok (.if_icmp .eq 5, 3) := by decide +kernel
theorem dX2_holdsAt_36 : decode cX2_holdsAt 36 = .ok (.iconst 0, 1) := by decide +kernel
theorem dX2_holdsAt_37 : decode cX2_holdsAt 37 = .ok (.ireturn, 1) := by decide +kernel
theorem dX2_holdsAt_38 : decode cX2_holdsAt 38 = .ok (.iinc 6 1, 3) := by decide +kernel
theorem dX2_holdsAt_41 : decode cX2_holdsAt 41 = .ok (.goto (-38), 3) := by decide +kernel
theorem dX2_holdsAt_44 : decode cX2_holdsAt 44 = .ok (.iconst 1, 1) := by decide +kernel
theorem dX2_holdsAt_45 : decode cX2_holdsAt 45 = .ok (.ireturn, 1) := by decide +kernel
theorem dX3_init_0 : decode cX3_init 0 = .ok (.aload_n 0, 1) := by decide +kernel
theorem dX3_init_1 : decode cX3_init 1 = .ok (.invokespecial 3, 3) := by decide +kernel
theorem dX3_init_4 : decode cX3_init 4 = .ok (.aload_n 0, 1) := by decide +kernel
theorem dX3_init_5 : decode cX3_init 5 = .ok (.bipush 6, 2) := by decide +kernel
theorem dX3_init_7 : decode cX3_init 7 = .ok (.newarray .int, 2) := by decide +kernel
theorem dX3_init_9 : decode cX3_init 9 = .ok (.putfield 9, 3) := by decide +kernel
theorem dX3_init_12 : decode cX3_init 12 = .ok (.aload_n 0, 1) := by decide +kernel
theorem dX3_init_13 : decode cX3_init 13 = .ok (.bipush 6, 2) := by decide +kernel
theorem dX3_init_15 : decode cX3_init 15 = .ok (.newarray .int, 2) := by decide +kernel
theorem dX3_init_17 : decode cX3_init 17 = .ok (.putfield 15, 3) := by decide +kernel
theorem dX3_init_20 : decode cX3_init 20 = .ok (.aload_n 0, 1) := by decide +kernel
theorem dX3_init_21 : decode cX3_init 21 = .ok (.bipush 6, 2) := by decide +kernel
theorem dX3_init_23 : decode cX3_init 23 = .ok (.newarray .int, 2) := by decide +kernel
theorem dX3_init_25 : decode cX3_init 25 = .ok (.putfield 18, 3) := by decide +kernel
theorem dX3_init_28 : decode cX3_init 28 = .ok (.aload_n 0, 1) := by decide +kernel
theorem dX3_init_29 : decode cX3_init 29 = .ok (.bipush 6, 2) := by decide +kernel
theorem dX3_init_31 : decode cX3_init 31 = .ok (.newarray .int, 2) := by decide +kernel
theorem dX3_init_33 : decode cX3_init 33 = .ok (.putfield 21, 3) := by decide +kernel
theorem dX3_init_36 : decode cX3_init 36 = .ok (.aload_n 0, 1) := by decide +kernel
theorem dX3_init_37 : decode cX3_init 37 = .ok (.bipush 24, 2) := by decide +kernel
theorem dX3_init_39 : decode cX3_init 39 = .ok (.newarray .int, 2) := by decide +kernel
theorem dX3_init_41 : decode cX3_init 41 = .ok (.putfield 24, 3) := by decide +kernel
theorem dX3_init_44 : decode cX3_init 44 = .ok (.return_, 1) := by decide +kernel
theorem dX3_clear_0 : decode cX3_clear 0 = .ok (.iconst 0, 1) := by decide +kernel
theorem dX3_clear_1 : decode cX3_clear 1 = .ok (.istore_n 1, 1) := by decide +kernel
theorem dX3_clear_2 : decode cX3_clear 2 = .ok (.iload_n 1, 1) := by decide +kernel
theorem dX3_clear_3 : decode cX3_clear 3 = .ok (.bipush 6, 2) := by decide +kernel
theorem dX3_clear_5 : decode cX3_clear 5 = .ok (.if_icmp .ge 23, 3) := by decide +kernel
theorem dX3_clear_8 : decode cX3_clear 8 = .ok (.aload_n 0, 1) := by decide +kernel
theorem dX3_clear_9 : decode cX3_clear 9 = .ok (.getfield 9, 3) := by decide +kernel
theorem dX3_clear_12 : decode cX3_clear 12 = .ok (.iload_n 1, 1) := by decide +kernel
theorem dX3_clear_13 : decode cX3_clear 13 = .ok (.iconst 0, 1) := by decide +kernel
theorem dX3_clear_14 : decode cX3_clear 14 = .ok (.iastore, 1) := by decide +kernel
theorem dX3_clear_15 : decode cX3_clear 15 = .ok (.aload_n 0, 1) := by decide +kernel
theorem dX3_clear_16 : decode cX3_clear 16 = .ok (.getfield 21, 3) := by decide +kernel
theorem dX3_clear_19 : decode cX3_clear 19 = .ok (.iload_n 1, 1) := by decide +kernel
theorem dX3_clear_20 : decode cX3_clear 20 = .ok (.iconst 0, 1) := by decide +kernel
theorem dX3_clear_21 : decode cX3_clear 21 = .ok (.iastore, 1) := by decide +kernel
theorem dX3_clear_22 : decode cX3_clear 22 = .ok (.iinc 1 1, 3) := by decide +kernel
theorem dX3_clear_25 : decode cX3_clear 25 = .ok (.goto (-23), 3) := by decide +kernel
theorem dX3_clear_28 : decode cX3_clear 28 = .ok (.return_, 1) := by decide +kernel
theorem dX3_become_0 : decode cX3_become 0 = .ok (.aload_n 1, 1) := by decide +kernel
theorem dX3_become_1 : decode cX3_become 1 = .ok (.getfield 9, 3) := by decide +kernel
theorem dX3_become_4 : decode cX3_become 4 = .ok (.iconst 0, 1) := by decide +kernel
theorem dX3_become_5 : decode cX3_become 5 = .ok (.aload_n 0, 1) := by decide +kernel
theorem dX3_become_6 : decode cX3_become 6 = .ok (.getfield 9, 3) := by decide +kernel
theorem dX3_become_9 : decode cX3_become 9 = .ok (.iconst 0, 1) := by decide +kernel
theorem dX3_become_10 : decode cX3_become 10 = .ok (.bipush 6, 2) := by decide +kernel
theorem dX3_become_12 : decode cX3_become 12 = .ok (.invokestatic 27, 3) := by decide +kernel
theorem dX3_become_15 : decode cX3_become 15 = .ok (.aload_n 1, 1) := by decide +kernel
theorem dX3_become_16 : decode cX3_become 16 = .ok (.getfield 15, 3) := by decide +kernel
theorem dX3_become_19 : decode cX3_become 19 = .ok (.iconst 0, 1) := by decide +kernel
theorem dX3_become_20 : decode cX3_become 20 = .ok (.aload_n 0, 1) := by decide +kernel
theorem dX3_become_21 : decode cX3_become 21 = .ok (.getfield 15, 3) := by decide +kernel
theorem dX3_become_24 : decode cX3_become 24 = .ok (.iconst 0, 1) := by decide +kernel
theorem dX3_become_25 : decode cX3_become 25 = .ok (.bipush 6, 2) := by decide +kernel
theorem dX3_become_27 : decode cX3_become 27 = .ok (.invokestatic 27, 3) := by decide +kernel
theorem dX3_become_30 : decode cX3_become 30 = .ok (.aload_n 1, 1) := by decide +kernel
theorem dX3_become_31 : decode cX3_become 31 = .ok (.getfield 18, 3) := by decide +kernel
theorem dX3_become_34 : decode cX3_become 34 = .ok (.iconst 0, 1) := by decide +kernel
theorem dX3_become_35 : decode cX3_become 35 = .ok (.aload_n 0, 1) := by decide +kernel
theorem dX3_become_36 : decode cX3_become 36 = .ok (.getfield 18, 3) := by decide +kernel
theorem dX3_become_39 : decode cX3_become 39 = .ok (.iconst 0, 1) := by decide +kernel
theorem dX3_become_40 : decode cX3_become 40 = .ok (.bipush 6, 2) := by decide +kernel
theorem dX3_become_42 : decode cX3_become 42 = .ok (.invokestatic 27, 3) := by decide +kernel
theorem dX3_become_45 : decode cX3_become 45 = .ok (.aload_n 1, 1) := by decide +kernel
theorem dX3_become_46 : decode cX3_become 46 = .ok (.getfield 21, 3) := by decide +kernel
theorem dX3_become_49 : decode cX3_become 49 = .ok (.iconst 0, 1) := by decide +kernel
theorem dX3_become_50 : decode cX3_become 50 = .ok (.aload_n 0, 1) := by decide +kernel
theorem dX3_become_51 : decode cX3_become 51 = .ok (.getfield 21, 3) := by decide +kernel
theorem dX3_become_54 : decode cX3_become 54 = .ok (.iconst 0, 1) := by decide +kernel
theorem dX3_become_55 : decode cX3_become 55 = .ok (.bipush 6, 2) := by decide +kernel
theorem dX3_become_57 : decode cX3_become 57 = .ok (.invokestatic 27, 3) := by decide +kernel
theorem dX3_become_60 : decode cX3_become 60 = .ok (.aload_n 1, 1) := by decide +kernel
theorem dX3_become_61 : decode cX3_become 61 = .ok (.getfield 24, 3) := by decide +kernel
theorem dX3_become_64 : decode cX3_become 64 = .ok (.iconst 0, 1) := by decide +kernel
theorem dX3_become_65 : decode cX3_become 65 = .ok (.aload_n 0, 1) := by decide +kernel
theorem dX3_become_66 : decode cX3_become 66 = .ok (.getfield 24, 3) := by decide +kernel
theorem dX3_become_69 : decode cX3_become 69 = .ok (.iconst 0, 1) := by decide +kernel
theorem dX3_become_70 : decode cX3_become 70 = .ok (.aload_n 0, 1) := by decide +kernel
theorem dX3_become_71 : decode cX3_become 71 = .ok (.getfield 24, 3) := by decide +kernel
theorem dX3_become_74 : decode cX3_become 74 = .ok (.arraylength, 1) := by decide +kernel
theorem dX3_become_75 : decode cX3_become 75 = .ok (.invokestatic 27, 3) := by decide +kernel
theorem dX3_become_78 : decode cX3_become 78 = .ok (.return_, 1) := by decide +kernel
set_option maxRecDepth 20000 in
theorem ggX3_is_X10_isFile : GoodIn wsX3_is wsX10_isFile := goodIn_r _ [4, 5, 6, 3, 7] (by decide +kernel) (by decide +kernel)
set_option maxRecDepth 20000 in
theorem gX3_is_X10_isFile_n33 : GoodIn wsX3_is (wsX10_isFile) := ggX3_is_X10_isFile
theorem dX3_is_0 : decode cX3_is 0 = .ok (.iload_n 1, 1) := by decide +kernel
theorem dX3_is_1 : decode cX3_is 1 = .ok (.invokestatic 33, 3) := by decide +kernel
theorem dX3_is_4 : decode cX3_is 4 = .ok (.ifCond .eq 17, 3) := by decide +kernel
theorem dX3_is_7 : decode cX3_is 7 = .ok (.aload_n 0, 1) := by decide +kernel
theorem dX3_is_8 : decode cX3_is 8 = .ok (.getfield 9, 3) := by decide +kernel
theorem dX3_is_11 : decode cX3_is 11 = .ok (.iload_n 1, 1) := by decide +kernel
theorem dX3_is_12 : decode cX3_is 12 = .ok (.iaload, 1) := by decide +kernel
theorem dX3_is_13 : decode cX3_is 13 = .ok (.iload_n 2, 1) := by decide +kernel
theorem dX3_is_14 : decode cX3_is 14 = .ok (.if_icmp .ne 7, 3) := by decide +kernel
theorem dX3_is_17 : decode cX3_is 17 = .ok (.iconst 1, 1) := by decide +kernel
theorem dX3_is_18 : decode cX3_is 18 = .ok (.goto 4, 3) := by decide +kernel
theorem dX3_is_21 : decode cX3_is 21 = .ok (.iconst 0, 1) := by decide +kernel
theorem dX3_is_22 : decode cX3_is 22 = .ok (.ireturn, 1) := by decide +kernel
theorem dX3_manyOf_0 : decode cX3_manyOf 0 = .ok (.iconst 0, 1) := by decide +kernel
theorem dX3_manyOf_1 : decode cX3_manyOf 1 = .ok (.istore_n 2, 1) := by decide +kernel
theorem dX3_manyOf_2 : decode cX3_manyOf 2 = .ok (.iconst 0, 1) := by decide +kernel
theorem dX3_manyOf_3 : decode cX3_manyOf 3 = .ok (.istore_n 3, 1) := by decide +kernel
theorem dX3_manyOf_4 : decode cX3_manyOf 4 = .ok (.iload_n 3, 1) := by decide +kernel
theorem dX3_manyOf_5 : decode cX3_manyOf 5 = .ok (.bipush 6, 2) := by decide +kernel
theorem dX3_manyOf_7 : decode cX3_manyOf 7 = .ok (.if_icmp .ge 27, 3) := by decide +kernel
theorem dX3_manyOf_10 : decode cX3_manyOf 10 = .ok (.iload_n 2, 1) := by decide +kernel
theorem dX3_manyOf_11 : decode cX3_manyOf 11 = .ok (.aload_n 0, 1) := by decide +kernel
theorem dX3_manyOf_12 : decode cX3_manyOf 12 = .ok (.getfield 9, 3) := by decide +kernel
theorem dX3_manyOf_15 : decode cX3_manyOf 15 = .ok (.iload_n 3, 1) := by decide +kernel
theorem dX3_manyOf_16 : decode cX3_manyOf 16 = .ok (.iaload, 1) := by decide +kernel
theorem dX3_manyOf_17 : decode cX3_manyOf 17 = .ok (.iload_n 1, 1) := by decide +kernel
theorem dX3_manyOf_18 : decode cX3_manyOf 18 = .ok (.if_icmp .ne 7, 3) := by decide +kernel
theorem dX3_manyOf_21 : decode cX3_manyOf 21 = .ok (.iconst 1, 1) := by decide +kernel
theorem dX3_manyOf_22 : decode cX3_manyOf 22 = .ok (.goto 4, 3) := by decide +kernel
theorem dX3_manyOf_25 : decode cX3_manyOf 25 = .ok (.iconst 0, 1) := by decide +kernel
theorem dX3_manyOf_26 : decode cX3_manyOf 26 = .ok (.iadd, 1) := by decide +kernel
theorem dX3_manyOf_27 : decode cX3_manyOf 27 = .ok (.istore_n 2, 1) := by decide +kernel
theorem dX3_manyOf_28 : decode cX3_manyOf 28 = .ok (.iinc 3 1, 3) := by decide +kernel
theorem dX3_manyOf_31 : decode cX3_manyOf 31 = .ok (.goto (-27), 3) := by decide +kernel
theorem dX3_manyOf_34 : decode cX3_manyOf 34 = .ok (.iload_n 2, 1) := by decide +kernel
theorem dX3_manyOf_35 : decode cX3_manyOf 35 = .ok (.ireturn, 1) := by decide +kernel
set_option maxRecDepth 20000 in
theorem ggX3_begin_X10_isFile : GoodIn wsX3_begin wsX10_isFile := goodIn_r _ [6, 7, 8, 5, 9] (by decide +kernel) (by decide +kernel)
set_option maxRecDepth 20000 in
theorem gX3_begin_X10_isFile_n33 : GoodIn wsX3_begin (wsX10_isFile) := ggX3_begin_X10_isFile
theorem dX3_begin_0 : decode cX3_begin 0 = .ok (.iload_n 1, 1) := by decide +kernel
theorem dX3_begin_1 : decode cX3_begin 1 = .ok (.invokestatic 33, 3) := by decide +kernel
theorem dX3_begin_4 : decode cX3_begin 4 = .ok (.ifCond .eq 24, 3) := by decide +kernel
theorem dX3_begin_7 : decode cX3_begin 7 = .ok (.aload_n 0, 1) := by decide +kernel
theorem dX3_begin_8 : decode cX3_begin 8 = .ok (.getfield 9, 3) := by decide +kernel
theorem dX3_begin_11 : decode cX3_begin 11 = .ok (.iload_n 1, 1) := by decide +kernel
theorem dX3_begin_12 : decode cX3_begin 12 = .ok (.iconst 1, 1) := by decide +kernel
theorem dX3_begin_13 : decode cX3_begin 13 = .ok (.iastore, 1) := by decide +kernel
theorem dX3_begin_14 : decode cX3_begin 14 = .ok (.aload_n 0, 1) := by decide +kernel
theorem dX3_begin_15 : decode cX3_begin 15 = .ok (.getfield 15, 3) := by decide +kernel
theorem dX3_begin_18 : decode cX3_begin 18 = .ok (.iload_n 1, 1) := by decide +kernel
theorem dX3_begin_19 : decode cX3_begin 19 = .ok (.iload_n 2, 1) := by decide +kernel
theorem dX3_begin_20 : decode cX3_begin 20 = .ok (.iastore, 1) := by decide +kernel
theorem dX3_begin_21 : decode cX3_begin 21 = .ok (.aload_n 0, 1) := by decide +kernel
theorem dX3_begin_22 : decode cX3_begin 22 = .ok (.getfield 21, 3) := by decide +kernel
theorem dX3_begin_25 : decode cX3_begin 25 = .ok (.iload_n 1, 1) := by decide +kernel
theorem dX3_begin_26 : decode cX3_begin 26 = .ok (.iconst 0, 1) := by decide +kernel
theorem dX3_begin_27 : decode cX3_begin 27 = .ok (.iastore, 1) := by decide +kernel
theorem dX3_begin_28 : decode cX3_begin 28 = .ok (.return_, 1) := by decide +kernel
set_option maxRecDepth 20000 in
theorem ggX3_hide_X10_isFile : GoodIn wsX3_hide wsX10_isFile := goodIn_r _ [5, 6, 7, 4, 8] (by decide +kernel) (by decide +kernel)
set_option maxRecDepth 20000 in
theorem gX3_hide_X10_isFile_n33 : GoodIn wsX3_hide (wsX10_isFile) := ggX3_hide_X10_isFile
theorem dX3_hide_0 : decode cX3_hide 0 = .ok (.iload_n 1, 1) := by decide +kernel
theorem dX3_hide_1 : decode cX3_hide 1 = .ok (.invokestatic 33, 3) := by decide +kernel
theorem dX3_hide_4 : decode cX3_hide 4 = .ok (.ifCond .eq 17, 3) := by decide +kernel
theorem dX3_hide_7 : decode cX3_hide 7 = .ok (.aload_n 0, 1) := by decide +kernel
theorem dX3_hide_8 : decode cX3_hide 8 = .ok (.getfield 9, 3) := by decide +kernel
theorem dX3_hide_11 : decode cX3_hide 11 = .ok (.iload_n 1, 1) := by decide +kernel
theorem dX3_hide_12 : decode cX3_hide 12 = .ok (.iconst 2, 1) := by decide +kernel
theorem dX3_hide_13 : decode cX3_hide 13 = .ok (.iastore, 1) := by decide +kernel
theorem dX3_hide_14 : decode cX3_hide 14 = .ok (.aload_n 0, 1) := by decide +kernel
theorem dX3_hide_15 : decode cX3_hide 15 = .ok (.getfield 18, 3) := by decide +kernel
theorem dX3_hide_18 : decode cX3_hide 18 = .ok (.iload_n 1, 1) := by decide +kernel
theorem dX3_hide_19 : decode cX3_hide 19 = .ok (.iload_n 2, 1) := by decide +kernel
theorem dX3_hide_20 : decode cX3_hide 20 = .ok (.iastore, 1) := by decide +kernel
theorem dX3_hide_21 : decode cX3_hide 21 = .ok (.return_, 1) := by decide +kernel
set_option maxRecDepth 20000 in
theorem ggX3_showAgain_X10_isFile : GoodIn wsX3_showAgain wsX10_isFile := goodIn_r _ [6, 7, 8, 5, 9] (by decide +kernel) (by decide +kernel)
set_option maxRecDepth 20000 in
theorem gX3_showAgain_X10_isFile_n33 : GoodIn wsX3_showAgain (wsX10_isFile) := ggX3_showAgain_X10_isFile
theorem dX3_showAgain_0 : decode cX3_showAgain 0 = .ok (.iload_n 1, 1) := by decide +kernel
theorem dX3_showAgain_1 : decode cX3_showAgain 1 = .ok (.invokestatic 33, 3) := by decide +kernel
theorem dX3_showAgain_4 : decode cX3_showAgain 4 = .ok (.ifCond .ne 6, 3) := by decide +kernel
theorem dX3_showAgain_7 : decode cX3_showAgain 7 = .ok (.ldc 37, 2) := by decide +kernel
theorem dX3_showAgain_9 : decode cX3_showAgain 9 = .ok (.ireturn, 1) := by decide +kernel
theorem dX3_showAgain_10 : decode cX3_showAgain 10 = .ok (.aload_n 0, 1) := by decide +kernel
theorem dX3_showAgain_11 : decode cX3_showAgain 11 = .ok (.getfield 9, 3) := by decide +kernel
theorem dX3_showAgain_14 : decode cX3_showAgain 14 = .ok (.iload_n 1, 1) := by decide +kernel
theorem dX3_showAgain_15 : decode cX3_showAgain 15 = .ok (.iconst 1, 1) := by decide +kernel
theorem dX3_showAgain_16 : decode cX3_showAgain 16 = .ok (.iastore, 1) := by decide +kernel
theorem dX3_showAgain_17 : decode cX3_showAgain 17 = .ok (.aload_n 0, 1) := by decide +kernel
theorem dX3_showAgain_18 : decode cX3_showAgain 18 = .ok (.getfield 18, 3) := by decide +kernel
theorem dX3_showAgain_21 : decode cX3_showAgain 21 = .ok (.iload_n 1, 1) := by decide +kernel
theorem dX3_showAgain_22 : decode cX3_showAgain 22 = .ok (.iaload, 1) := by decide +kernel
theorem dX3_showAgain_23 : decode cX3_showAgain 23 = .ok (.ireturn, 1) := by decide +kernel
set_option maxRecDepth 20000 in
theorem ggX3_end_X10_isFile : GoodIn wsX3_end wsX10_isFile := goodIn_r _ [5, 6, 7, 4, 8] (by decide +kernel) (by decide +kernel)
set_option maxRecDepth 20000 in
theorem gX3_end_X10_isFile_n33 : GoodIn wsX3_end (wsX10_isFile) := ggX3_end_X10_isFile
theorem dX3_end_0 : decode cX3_end 0 = .ok (.iload_n 1, 1) := by decide +kernel
theorem dX3_end_1 : decode cX3_end 1 = .ok (.invokestatic 33, 3) := by decide +kernel
theorem dX3_end_4 : decode cX3_end 4 = .ok (.ifCond .eq 17, 3) := by decide +kernel
theorem dX3_end_7 : decode cX3_end 7 = .ok (.aload_n 0, 1) := by decide +kernel
theorem dX3_end_8 : decode cX3_end 8 = .ok (.getfield 9, 3) := by decide +kernel
theorem dX3_end_11 : decode cX3_end 11 = .ok (.iload_n 1, 1) := by decide +kernel
theorem dX3_end_12 : decode cX3_end 12 = .ok (.iconst 0, 1) := by decide +kernel
theorem dX3_end_13 : decode cX3_end 13 = .ok (.iastore, 1) := by decide +kernel
theorem dX3_end_14 : decode cX3_end 14 = .ok (.aload_n 0, 1) := by decide +kernel
theorem dX3_end_15 : decode cX3_end 15 = .ok (.getfield 21, 3) := by decide +kernel
theorem dX3_end_18 : decode cX3_end 18 = .ok (.iload_n 1, 1) := by decide +kernel
theorem dX3_end_19 : decode cX3_end 19 = .ok (.iconst 0, 1) := by decide +kernel
theorem dX3_end_20 : decode cX3_end 20 = .ok (.iastore, 1) := by decide +kernel
theorem dX3_end_21 : decode cX3_end 21 = .ok (.return_, 1) := by decide +kernel
set_option maxRecDepth 20000 in
theorem ggX3_chunkOf_X10_isFile : GoodIn wsX3_chunkOf wsX10_isFile := goodIn_r _ [5, 6, 7, 4, 8] (by decide +kernel) (by decide +kernel)
set_option maxRecDepth 20000 in
theorem gX3_chunkOf_X10_isFile_n33 : GoodIn wsX3_chunkOf (wsX10_isFile) := ggX3_chunkOf_X10_isFile
set_option maxRecDepth 20000 in
theorem ggX3_chunkOf_X10_within : GoodIn wsX3_chunkOf wsX10_within := goodIn_r _ [8] (by decide +kernel) (by decide +kernel)
set_option maxRecDepth 20000 in
theorem gX3_chunkOf_X10_within_n38 : GoodIn wsX3_chunkOf (wsX10_within) := ggX3_chunkOf_X10_within
theorem dX3_chunkOf_0 : decode cX3_chunkOf 0 = .ok (.iload_n 1, 1) := by decide +kernel
theorem dX3_chunkOf_1 : decode cX3_chunkOf 1 = .ok (.invokestatic 33, 3) := by decide +kernel
theorem dX3_chunkOf_4 : decode cX3_chunkOf 4 = .ok (.ifCond .eq 26, 3) := by decide +kernel
theorem dX3_chunkOf_7 : decode cX3_chunkOf 7 = .ok (.iload_n 2, 1) := by decide +kernel
theorem dX3_chunkOf_8 : decode cX3_chunkOf 8 = .ok (.iconst 0, 1) := by decide +kernel
theorem dX3_chunkOf_9 : decode cX3_chunkOf 9 = .ok (.iconst 3, 1) := by decide +kernel
theorem dX3_chunkOf_10 : decode cX3_chunkOf 10 = .ok (.invokestatic 38, 3) := by decide +kernel
theorem dX3_chunkOf_13 : decode cX3_chunkOf 13 = .ok (.ifCond .eq 17, 3) := by decide +kernel
theorem dX3_chunkOf_16 : decode cX3_chunkOf 16 = .ok (.iload_n 2, 1) := by decide +kernel
theorem dX3_chunkOf_17 : decode cX3_chunkOf 17 = .ok (.aload_n 0, 1) := by decide +kernel
theorem dX3_chunkOf_18 : decode cX3_chunkOf 18 = .ok (.getfield 21, 3) := by decide +kernel
theorem dX3_chunkOf_21 : decode cX3_chunkOf 21 = .ok (.iload_n 1, 1) := by decide +kernel
theorem dX3_chunkOf_22 : decode cX3_chunkOf 22 = .ok (.iaload, 1) := by decide +kernel
theorem dX3_chunkOf_23 : decode cX3_chunkOf 23 = .ok (.if_icmp .ge 7, 3) := by decide +kernel
theorem dX3_chunkOf_26 : decode cX3_chunkOf 26 = .ok (.iconst 1, 1) := by decide +kernel
theorem dX3_chunkOf_27 : decode cX3_chunkOf 27 = .ok (.goto 4, 3) := by decide +kernel
theorem dX3_chunkOf_30 : decode cX3_chunkOf 30 = .ok (.iconst 0, 1) := by decide +kernel
theorem dX3_chunkOf_31 : decode cX3_chunkOf 31 = .ok (.istore_n 3, 1) := by decide +kernel
theorem dX3_chunkOf_32 : decode cX3_chunkOf 32 = .ok (.iload_n 3, 1) := by decide +kernel
theorem dX3_chunkOf_33 : decode cX3_chunkOf 33 = .ok (.ifCond .eq 16, 3) := by decide +kernel
theorem dX3_chunkOf_36 : decode cX3_chunkOf 36 = .ok (.aload_n 0, 1) := by decide +kernel
theorem dX3_chunkOf_37 : decode cX3_chunkOf 37 = .ok (.getfield 24, 3) := by decide +kernel
theorem dX3_chunkOf_40 : decode cX3_chunkOf 40 = .ok (.iload_n 1, 1) := by decide +kernel
theorem dX3_chunkOf_41 : decode cX3_chunkOf 41 = .ok (.iconst 4, 1) := by decide +kernel
theorem dX3_chunkOf_42 : decode cX3_chunkOf 42 = .ok (.imul, 1) := by decide +kernel
theorem dX3_chunkOf_43 : decode cX3_chunkOf 43 = .ok (.iload_n 2, 1) := by decide +kernel
theorem dX3_chunkOf_44 : decode cX3_chunkOf 44 = .ok (.iadd, 1) := by decide +kernel
theorem dX3_chunkOf_45 : decode cX3_chunkOf 45 = .ok (.iaload, 1) := by decide +kernel
theorem dX3_chunkOf_46 : decode cX3_chunkOf 46 = .ok (.goto 4, 3) := by decide +kernel
theorem dX3_chunkOf_49 : decode cX3_chunkOf 49 = .ok (.iconst (-1), 1) := by decide +kernel
theorem dX3_chunkOf_50 : decode cX3_chunkOf 50 = .ok (.ireturn, 1) := by decide +kernel
set_option maxRecDepth 20000 in
theorem ggX3_lastChunk_X10_isFile : GoodIn wsX3_lastChunk wsX10_isFile := goodIn_r _ [4, 5, 6, 3, 7] (by decide +kernel) (by decide +kernel)
set_option maxRecDepth 20000 in
theorem gX3_lastChunk_X10_isFile_n33 : GoodIn wsX3_lastChunk (wsX10_isFile) := ggX3_lastChunk_X10_isFile
set_option maxRecDepth 20000 in
theorem ggX3_lastChunk_X3_chunkOf : GoodIn wsX3_lastChunk wsX3_chunkOf := goodIn_r _ [12, 1, 13, 2, 3, 4, 5, 6, 7, 14, 15, 16, 17, 18] (by decide +kernel) (by decide +kernel)
set_option maxRecDepth 20000 in
theorem gX3_lastChunk_X3_chunkOf : GoodIn wsX3_lastChunk (wsV RX3 42 RX3 yX3_chunkOf wsX3_chunkOf) := goodIn_app (goodIn_of _ (by decide +kernel)) ggX3_lastChunk_X3_chunkOf
theorem dX3_lastChunk_0 : decode cX3_lastChunk 0 = .ok (.iload_n 1, 1) := by decide +kernel
theorem dX3_lastChunk_1 : decode cX3_lastChunk 1 = .ok (.invokestatic 33, 3) := by decide +kernel
theorem dX3_lastChunk_4 : decode cX3_lastChunk 4 = .ok (.ifCond .eq 19, 3) := by decide +kernel
theorem dX3_lastChunk_7 : decode cX3_lastChunk 7 = .ok (.aload_n 0, 1) := by decide +kernel
theorem dX3_lastChunk_8 : decode cX3_lastChunk 8 = .ok (.iload_n 1, 1) := by decide +kernel
theorem dX3_lastChunk_9 : decode cX3_lastChunk 9 = .ok (.aload_n 0, 1) := by decide +kernel
theorem dX3_lastChunk_10 : decode cX3_lastChunk 10 = .ok (.getfield 21, 3) := by decide +kernel
theorem dX3_lastChunk_13 : decode cX3_lastChunk 13 = .ok (.iload_n 1, 1) := by decide +kernel
theorem dX3_lastChunk_14 : decode cX3_lastChunk 14 = .ok (.iaload, 1) := by decide +kernel
theorem dX3_lastChunk_15 : decode cX3_lastChunk 15 = .ok (.iconst 1, 1) := by decide +kernel
theorem dX3_lastChunk_16 : decode cX3_lastChunk 16 = .ok (.isub, 1) := by decide +kernel
theorem dX3_lastChunk_17 : decode cX3_lastChunk 17 = .ok (.invokevirtual 42, 3) := by decide +kernel
theorem dX3_lastChunk_20 : decode cX3_lastChunk 20 = .ok (.goto 4, 3) := by decide +kernel
theorem dX3_lastChunk_23 : decode cX3_lastChunk 23 = .ok (.iconst (-1), 1) := by decide +kernel
theorem dX3_lastChunk_24 : decode cX3_lastChunk 24 = .ok (.ireturn, 1) := by decide +kernel
set_option maxRecDepth 20000 in
theorem ggX3_isFullUp_X10_isFile : GoodIn wsX3_isFullUp wsX10_isFile := goodIn_r _ [4, 5, 6, 3, 7] (by decide +kernel) (by decide +kernel)
set_option maxRecDepth 20000 in
theorem gX3_isFullUp_X10_isFile_n33 : GoodIn wsX3_isFullUp (wsX10_isFile) := ggX3_isFullUp_X10_isFile
theorem dX3_isFullUp_0 : decode cX3_isFullUp 0 = .ok (.iload_n 1, 1) := by decide +kernel
theorem dX3_isFullUp_1 : decode cX3_isFullUp 1 = .ok (.invokestatic 33, 3) := by decide +kernel
theorem dX3_isFullUp_4 : decode cX3_isFullUp 4 = .ok (.ifCond .eq 13, 3) := by decide +kernel
theorem dX3_isFullUp_7 : decode cX3_isFullUp 7 = .ok (.aload_n 0, 1) := by decide +kernel
theorem dX3_isFullUp_8 : decode cX3_isFullUp 8 = .ok (.getfield 21, 3) := by decide +kernel
theorem dX3_isFullUp_11 : decode cX3_isFullUp 11 = .ok (.iload_n 1, 1) := by decide +kernel
theorem dX3_isFullUp_12 : decode cX3_isFullUp 12 = .ok (.iaload, 1) := by decide +kernel
theorem dX3_isFullUp_13 : decode cX3_isFullUp 13 = .ok (.iconst 4, 1) := by decide +kernel
theorem dX3_isFullUp_14 : decode cX3_isFullUp 14 = .ok (.if_icmp .lt 7, 3) := by decide +kernel
theorem dX3_isFullUp_17 : decode cX3_isFullUp 17 = .ok (.iconst 1, 1) := by decide +kernel
theorem dX3_isFullUp_18 : decode cX3_isFullUp 18 = .ok (.goto 4, 3) := by decide +kernel
theorem dX3_isFullUp_21 : decode cX3_isFullUp 21 = .ok (.iconst 0, 1) := by decide +kernel
theorem dX3_isFullUp_22 : decode cX3_isFullUp 22 = .ok (.ireturn, 1) := by decide +kernel
set_option maxRecDepth 20000 in
theorem ggX3_addChunk_X3_isFullUp : GoodIn wsX3_addChunk wsX3_isFullUp := goodIn_r _ [7, 2, 8, 9, 10, 11, 12, 13, 14, 15, 16, 17, 18] (by decide +kernel) (by decide +kernel)
set_option maxRecDepth 20000 in
theorem gX3_addChunk_X3_isFullUp : GoodIn wsX3_addChunk (wsV RX3 46 RX3 yX3_isFullUp wsX3_isFullUp) := goodIn_app (goodIn_of _ (by decide +kernel)) ggX3_addChunk_X3_isFullUp
theorem dX3_addChunk_0 : decode cX3_addChunk 0 = .ok (.aload_n 0, 1) := by decide +kernel
theorem dX3_addChunk_1 : decode cX3_addChunk 1 = .ok (.iload_n 1, 1) := by decide +kernel
theorem dX3_addChunk_2 : decode cX3_addChunk 2 = .ok (.invokevirtual 46, 3) := by decide +kernel
theorem dX3_addChunk_5 : decode cX3_addChunk 5 = .ok (.ifCond .ne 29, 3) := by decide +kernel
theorem dX3_addChunk_8 : decode cX3_addChunk 8 = .ok (.aload_n 0, 1) := by decide +kernel
theorem dX3_addChunk_9 : decode cX3_addChunk 9 = .ok (.getfield 24, 3) := by decide +kernel
theorem dX3_addChunk_12 : decode cX3_addChunk 12 = .ok (.iload_n 1, 1) := by decide +kernel
theorem dX3_addChunk_13 : decode cX3_addChunk 13 = .ok (.iconst 4, 1) := by decide +kernel
theorem dX3_addChunk_14 : decode cX3_addChunk 14 = .ok (.imul, 1) := by decide +kernel
theorem dX3_addChunk_15 : decode cX3_addChunk 15 = .ok (.aload_n 0, 1) := by decide +kernel
theorem dX3_addChunk_16 : decode cX3_addChunk 16 = .ok (.getfield 21, 3) := by decide +kernel
theorem dX3_addChunk_19 : decode cX3_addChunk 19 = .ok (.iload_n 1, 1) := by decide +kernel
theorem dX3_addChunk_20 : decode cX3_addChunk 20 = .ok (.iaload, 1) := by decide +kernel
theorem dX3_addChunk_21 : decode cX3_addChunk 21 = .ok (.iadd, 1) := by decide +kernel
theorem dX3_addChunk_22 : decode cX3_addChunk 22 = .ok (.iload_n 2, 1) := by decide +kernel
theorem dX3_addChunk_23 : decode cX3_addChunk 23 = .ok (.iastore, 1) := by decide +kernel
theorem dX3_addChunk_24 : decode cX3_addChunk 24 = .ok (.aload_n 0, 1) := by decide +kernel
theorem dX3_addChunk_25 : decode cX3_addChunk 25 = .ok (.getfield 21, 3) := by decide +kernel
theorem dX3_addChunk_28 : decode cX3_addChunk 28 = .ok (.iload_n 1, 1) := by decide +kernel
theorem dX3_addChunk_29 : decode cX3_addChunk 29 = .ok (.dup2, 1) := by decide +kernel
theorem dX3_addChunk_30 : decode cX3_addChunk 30 = .ok (.iaload, 1) := by decide +kernel
theorem dX3_addChunk_31 : decode cX3_addChunk 31 = .ok (.iconst 1, 1) := by decide +kernel
theorem dX3_addChunk_32 : decode cX3_addChunk 32 = .ok (.iadd, 1) := by decide +kernel
theorem dX3_addChunk_33 : decode cX3_addChunk 33 = .ok (.iastore, 1) := by decide +kernel
theorem dX3_addChunk_34 : decode cX3_addChunk 34 = .ok (.return_, 1) := by decide +kernel
set_option maxRecDepth 20000 in
theorem ggX3_replaceChunk_X3_chunkOf : GoodIn wsX3_replaceChunk wsX3_chunkOf := goodIn_r _ [6, 7, 1, 8, 9, 10, 11, 12, 13, 14, 15, 16, 17, 18] (by decide +kernel) (by decide +kernel)
set_option maxRecDepth 20000 in
theorem gX3_replaceChunk_X3_chunkOf : GoodIn wsX3_replaceChunk (wsV RX3 42 RX3 yX3_chunkOf wsX3_chunkOf) := goodIn_app (goodIn_of _ (by decide +kernel)) ggX3_replaceChunk_X3_chunkOf
theorem dX3_replaceChunk_0 : decode cX3_replaceChunk 0 = .ok (.aload_n 0, 1) := by decide +kernel
theorem dX3_replaceChunk_1 : decode cX3_replaceChunk 1 = .ok (.iload_n 1, 1) := by decide +kernel
theorem dX3_replaceChunk_2 : decode cX3_replaceChunk 2 = .ok (.iload_n 2, 1) := by decide +kernel
theorem dX3_replaceChunk_3 : decode cX3_replaceChunk 3 = .ok (.invokevirtual 42, 3) := by decide +kernel
theorem dX3_replaceChunk_6 : decode cX3_replaceChunk 6 = .ok (.iconst (-1), 1) := by decide +kernel
theorem dX3_replaceChunk_7 : decode cX3_replaceChunk 7 = .ok (.if_icmp .eq 14, 3) := by decide +kernel
theorem dX3_replaceChunk_10 : decode cX3_replaceChunk 10 = .ok (.aload_n 0, 1) := by decide +kernel
theorem dX3_replaceChunk_11 : decode cX3_replaceChunk 11 = .ok (.getfield 24, 3) := by decide +kernel
theorem dX3_replaceChunk_14 : decode cX3_replaceChunk 14 = .ok (.iload_n 1, 1) := by decide +kernel
theorem dX3_replaceChunk_15 : decode cX3_replaceChunk 15 = .ok (.iconst 4, 1) := by decide +kernel
theorem dX3_replaceChunk_16 : decode cX3_replaceChunk 16 = .ok (.imul, 1) := by decide +kernel
theorem dX3_replaceChunk_17 : decode cX3_replaceChunk 17 = .ok (.iload_n 2, 1) := by decide +kernel
theorem dX3_replaceChunk_18 : decode cX3_replaceChunk 18 = .ok (.iadd, 1) := by decide +kernel
theorem dX3_replaceChunk_19 : decode cX3_replaceChunk 19 = .ok (.iload_n 3, 1) := by decide +kernel
theorem dX3_replaceChunk_20 : decode cX3_replaceChunk 20 = .ok (.iastore, 1) := by decide +kernel
theorem dX3_replaceChunk_21 : decode cX3_replaceChunk 21 = .ok (.return_, 1) := by decide +kernel
set_option maxRecDepth 20000 in
theorem ggX3_owns_X3_chunkOf : GoodIn wsX3_owns wsX3_chunkOf := goodIn_r _ [5, 6, 7, 8, 9, 10, 11, 12, 13, 14, 15, 16, 17, 18] (by decide +kernel) (by decide +kernel)
set_option maxRecDepth 20000 in
theorem gX3_owns_X3_chunkOf : GoodIn wsX3_owns (wsV RX3 42 RX3 yX3_chunkOf wsX3_chunkOf) := goodIn_app (goodIn_of _ (by decide +kernel)) ggX3_owns_X3_chunkOf
theorem dX3_owns_0 : decode cX3_owns 0 = .ok (.iconst 0, 1) := by decide +kernel
theorem dX3_owns_1 : decode cX3_owns 1 = .ok (.istore_n 3, 1) := by decide +kernel
theorem dX3_owns_2 : decode cX3_owns 2 = .ok (.iload_n 3, 1) := by decide +kernel
theorem dX3_owns_3 : decode cX3_owns 3 = .ok (.iconst 4, 1) := by decide +kernel
theorem dX3_owns_4 : decode cX3_owns 4 = .ok (.if_icmp .ge 26, 3) := by decide +kernel
theorem dX3_owns_7 : decode cX3_owns 7 = .ok (.iload_n 2, 1) := by decide +kernel
theorem dX3_owns_8 : decode cX3_owns 8 = .ok (.iconst (-1), 1) := by decide +kernel
theorem dX3_owns_9 : decode cX3_owns 9 = .ok (.if_icmp .eq 15, 3) := by decide +kernel
theorem dX3_owns_12 : decode cX3_owns 12 = .ok (.aload_n 0, 1) := by decide +kernel
theorem dX3_owns_13 : decode cX3_owns 13 = .ok (.iload_n 1, 1) := by decide +kernel
theorem dX3_owns_14 : decode cX3_owns 14 = .ok (.iload_n 3, 1) := by decide +kernel
theorem dX3_owns_15 : decode cX3_owns 15 = .ok (.invokevirtual 42, 3) := by decide +kernel
theorem dX3_owns_18 : decode cX3_owns 18 = .ok (.iload_n 2, 1) := by decide +kernel
theorem dX3_owns_19 : decode cX3_owns 19 = .ok (.if_icmp .ne 5, 3) := by decide +kernel
theorem dX3_owns_22 : decode cX3_owns 22 = .ok (.iconst 1, 1) := by decide +kernel
theorem dX3_owns_23 : decode cX3_owns 23 = .ok (.ireturn, 1) := by decide +kernel
theorem dX3_owns_24 : decode cX3_owns 24 = .ok (.iinc 3 1, 3) := by decide +kernel
theorem dX3_owns_27 : decode cX3_owns 27 = .ok (.goto (-25), 3) := by decide +kernel
theorem dX3_owns_30 : decode cX3_owns 30 = .ok (.iconst 0, 1) := by decide +kernel
theorem dX3_owns_31 : decode cX3_owns 31 = .ok (.ireturn, 1) := by decide +kernel
set_option maxRecDepth 20000 in
theorem ggX4_strengthOf_X3_chunkOf : GoodIn wsX4_strengthOf wsX3_chunkOf := goodIn_r _ [11, 12, 13, 14, 15, 16, 17, 18, 19, 66, 67, 68, 69, 70] (by decide +kernel) (by decide +kernel)
set_option maxRecDepth 20000 in
theorem gX4_strengthOf_X3_chunkOf : GoodIn wsX4_strengthOf (wsV RX4 16 RX3 yX3_chunkOf wsX3_chunkOf) := goodIn_app (goodIn_of _ (by decide +kernel)) ggX4_strengthOf_X3_chunkOf
set_option maxRecDepth 20000 in
theorem ggX4_strengthOf_X5_able : GoodIn wsX4_strengthOf wsX5_able := goodIn_r _ [24, 25, 26, 27, 28, 29, 23, 30, 31, 32, 33, 34, 35, 36, 37, 38, 39, 40, 41, 42, 43, 44, 45, 46, 47, 48, 49, 57, 58, 59, 60, 61, 62, 63, 64, 65, 71, 72, 73, 74, 75, 76, 77, 78, 79, 80, 81, 82] (by decide +kernel) (by decide +kernel)
set_option maxRecDepth 20000 in
theorem gX4_strengthOf_X5_able : GoodIn wsX4_strengthOf (wsV RX4 22 RX5 yX5_able wsX5_able) := goodIn_app (goodIn_of _ (by decide +kernel)) ggX4_strengthOf_X5_able
set_option maxRecDepth 20000 in
theorem ggX4_strengthOf_J6_bitCount_0f7a4 : GoodIn wsX4_strengthOf wsJ6_bitCount_0f7a4 := goodIn_r _ [53, 54, 55, 56] (by decide +kernel) (by decide +kernel)
set_option maxRecDepth 20000 in
theorem gX4_strengthOf_J6_bitCount_0f7a4 : GoodIn wsX4_strengthOf (va_wsS RX4 26 yJ6_bitCount_0f7a4 wsJ6_bitCount_0f7a4) := goodIn_app (goodIn_of _ (by decide +kernel)) ggX4_strengthOf_J6_bitCount_0f7a4
theorem dX4_strengthOf_0 : decode cX4_strengthOf 0 = .ok (.ldc 9, 2) := by decide +kernel
theorem dX4_strengthOf_2 : decode cX4_strengthOf 2 = .ok (.istore_n 2, 1) := by decide +kernel
theorem dX4_strengthOf_3 : decode cX4_strengthOf 3 = .ok (.iconst 0, 1) := by decide +kernel
theorem dX4_strengthOf_4 : decode cX4_strengthOf 4 = .ok (.istore_n 3, 1) := by decide +kernel
theorem dX4_strengthOf_5 : decode cX4_strengthOf 5 = .ok (.iload_n 3, 1) := by decide +kernel
theorem dX4_strengthOf_6 : decode cX4_strengthOf 6 = .ok (.iconst 4, 1) := by decide +kernel
theorem dX4_strengthOf_7 : decode cX4_strengthOf 7 = .ok (.if_icmp .ge 55, 3) := by decide +kernel
theorem dX4_strengthOf_10 : decode cX4_strengthOf 10 = .ok (.aload_n 0, 1) := by decide +kernel
theorem dX4_strengthOf_11 : decode cX4_strengthOf 11 = .ok (.getfield 10, 3) := by decide +kernel
theorem dX4_strengthOf_14 : decode cX4_strengthOf 14 = .ok (.iload_n 1, 1) := by decide +kernel
theorem dX4_strengthOf_15 : decode cX4_strengthOf 15 = .ok (.iload_n 3, 1) := by decide +kernel
theorem dX4_strengthOf_16 : decode cX4_strengthOf 16 = .ok (.invokevirtual 16, 3) := by decide +kernel
theorem dX4_strengthOf_19 : decode cX4_strengthOf 19 = .ok (.istore 4, 2) := by decide +kernel
theorem dX4_strengthOf_21 : decode cX4_strengthOf 21 = .ok (.iload 4, 2) := by decide +kernel
theorem dX4_strengthOf_23 : decode cX4_strengthOf 23 = .ok (.iconst (-1), 1) := by decide +kernel
theorem dX4_strengthOf_24 : decode cX4_strengthOf 24 = .ok (.if_icmp .eq 32, 3) := by decide +kernel
theorem dX4_strengthOf_27 : decode cX4_strengthOf 27 = .ok (.aload_n 0, 1) := by decide +kernel
theorem dX4_strengthOf_28 : decode cX4_strengthOf 28 = .ok (.iload 4, 2) := by decide +kernel
theorem dX4_strengthOf_30 : decode cX4_strengthOf 30 = .ok (.invokevirtual 22, 3) := by decide +kernel
theorem dX4_strengthOf_33 : decode cX4_strengthOf 33 = .ok (.invokestatic 26, 3) := by decide +kernel
theorem dX4_strengthOf_36 : decode cX4_strengthOf 36 = .ok (.istore 5, 2) := by decide +kernel
theorem dX4_strengthOf_38 : decode cX4_strengthOf 38 = .ok (.iload_n 2, 1) := by decide +kernel
theorem dX4_strengthOf_39 : decode cX4_strengthOf 39 = .ok (.ldc 9, 2) := by decide +kernel
theorem dX4_strengthOf_41 : decode cX4_strengthOf 41 = .ok (.if_icmp .ne 8, 3) := by decide +kernel
theorem dX4_strengthOf_44 : decode cX4_strengthOf 44 = .ok (.iload 5, 2) := by decide +kernel
theorem dX4_strengthOf_46 : decode cX4_strengthOf 46 = .ok (.goto 9, 3) := by decide +kernel
theorem dX4_strengthOf_49 : decode cX4_strengthOf 49 = .ok (.iload_n 2, 1) := by decide +kernel
theorem dX4_strengthOf_50 : decode cX4_strengthOf 50 = .ok (.iload 5, 2) := by decide +kernel
theorem dX4_strengthOf_52 : decode cX4_strengthOf 52 = .ok (.invokestatic 31, 3) := by decide +kernel
theorem dX4_strengthOf_55 : decode cX4_strengthOf 55 = .ok (.istore_n 2, 1) := by decide +kernel
theorem dX4_strengthOf_56 : decode cX4_strengthOf 56 = .ok (.iinc 3 1, 3) := by decide +kernel
theorem dX4_strengthOf_59 : decode cX4_strengthOf 59 = .ok (.goto (-54), 3) := by decide +kernel
theorem dX4_strengthOf_62 : decode cX4_strengthOf 62 = .ok (.iload_n 2, 1) := by decide +kernel
theorem dX4_strengthOf_63 : decode cX4_strengthOf 63 = .ok (.ldc 9, 2) := by decide +kernel
theorem dX4_strengthOf_65 : decode cX4_strengthOf 65 = .ok (.if_icmp .eq 7, 3) := by decide +kernel
theorem dX4_strengthOf_68 : decode cX4_strengthOf 68 = .ok (.iload_n 2, 1) := by decide +kernel
theorem dX4_strengthOf_69 : decode cX4_strengthOf 69 = .ok (.ifCond .ne 8, 3) := by decide +kernel
theorem dX4_strengthOf_72 : decode cX4_strengthOf 72 = .ok (.ldc 9, 2) := by decide +kernel
theorem dX4_strengthOf_74 : decode cX4_strengthOf 74 = .ok (.goto 6, 3) := by decide +kernel
theorem dX4_strengthOf_77 : decode cX4_strengthOf 77 = .ok (.iload_n 2, 1) := by decide +kernel
theorem dX4_strengthOf_78 : decode cX4_strengthOf 78 = .ok (.iconst 1, 1) := by decide +kernel
theorem dX4_strengthOf_79 : decode cX4_strengthOf 79 = .ok (.isub, 1) := by decide +kernel
theorem dX4_strengthOf_80 : decode cX4_strengthOf 80 = .ok (.ireturn, 1) := by decide +kernel
set_option maxRecDepth 20000 in
theorem ggX4_mendAll_X5_lacksCopy : GoodIn wsX4_mendAll wsX5_lacksCopy := goodIn_r _ [7, 8, 9, 10, 11, 12, 13, 6, 14, 15, 16, 17, 18, 19, 20, 21, 22, 23, 24, 25, 26, 27, 28, 29, 30, 31, 32, 33, 34, 35, 36, 37, 38, 39, 40, 41, 42, 43, 44, 45, 46, 47, 48, 49, 50, 51, 52, 53, 54, 55, 56, 57, 58, 59, 60, 61, 62, 63, 64, 65, 66, 67, 68, 69, 70, 71, 72, 73, 74, 75, 76, 77, 78, 79, 80, 81, 82, 83, 84, 85, 86, 87, 88, 89, 146, 147, 148, 149, 150, 151, 152, 153, 154, 160, 161, 162, 163, 155, 156, 157, 158, 159, 164, 165, 166, 167, 168, 169, 170, 171] (by decide +kernel) (by decide +kernel)
set_option maxRecDepth 20000 in
theorem gX4_mendAll_X5_lacksCopy : GoodIn wsX4_mendAll (wsV RX4 46 RX5 yX5_lacksCopy wsX5_lacksCopy) := goodIn_app (goodIn_of _ (by decide +kernel)) ggX4_mendAll_X5_lacksCopy
set_option maxRecDepth 20000 in
theorem ggX4_mendAll_X5_addCopy : GoodIn wsX4_mendAll wsX5_addCopy := goodIn_r _ [93, 9, 10, 21, 11, 12, 13, 6, 14, 15, 16, 17, 18, 8, 19, 20, 22, 23, 24, 25, 26, 27, 28, 29, 30, 31, 32, 33, 34, 35, 36, 94, 95, 96, 97, 98, 72, 99, 100, 101, 102, 103, 104, 105, 106, 107, 108, 109, 110, 111, 112, 113, 114, 115, 116, 117, 118, 119, 120, 121, 122, 123, 124, 125, 126, 127, 128, 129, 130, 131, 132, 133, 134, 135, 136, 137, 138, 139, 140, 141, 142, 143, 144, 145, 146, 147, 148, 149, 150, 151, 152, 153, 154, 160, 161, 162, 163, 155, 156, 157, 158, 159, 164, 165, 166] (by decide +kernel) (by decide +kernel)
set_option maxRecDepth 20000 in
theorem gX4_mendAll_X5_addCopy : GoodIn wsX4_mendAll (wsV RX4 50 RX5 yX5_addCopy wsX5_addCopy) := goodIn_app (goodIn_of _ (by decide +kernel)) ggX4_mendAll_X5_addCopy
theorem dX4_mendAll_0 : decode cX4_mendAll 0 = .ok (.iconst 0, 1) := by decide +kernel
theorem dX4_mendAll_1 : decode cX4_mendAll 1 = .ok (.istore_n 1, 1) := by decide +kernel
theorem dX4_mendAll_2 : decode cX4_mendAll 2 = .ok (.iconst 0, 1) := by decide +kernel
theorem dX4_mendAll_3 : decode cX4_mendAll 3 = .ok (.istore_n 2, 1) := by decide +kernel
theorem dX4_mendAll_4 : decode cX4_mendAll 4 = .ok (.iload_n 2, 1) := by decide +kernel
theorem dX4_mendAll_5 : decode cX4_mendAll 5 = .ok (.aload_n 0, 1) := by decide +kernel
theorem dX4_mendAll_6 : decode cX4_mendAll 6 = .ok (.getfield 36, 3) := by decide +kernel
theorem dX4_mendAll_9 : decode cX4_mendAll 9 = .ok (.getfield 40, 3) := by decide +kernel
theorem dX4_mendAll_12 : decode cX4_mendAll 12 = .ok (.if_icmp .ge 38, 3) := by decide +kernel
theorem dX4_mendAll_15 : decode cX4_mendAll 15 = .ok (.iconst 0, 1) := by decide +kernel
theorem dX4_mendAll_16 : decode cX4_mendAll 16 = .ok (.istore_n 3, 1) := by decide +kernel
theorem dX4_mendAll_17 : decode cX4_mendAll 17 = .ok (.iload_n 3, 1) := by decide +kernel
theorem dX4_mendAll_18 : decode cX4_mendAll 18 = .ok (.iconst 5, 1) := by decide +kernel
theorem dX4_mendAll_19 : decode cX4_mendAll 19 = .ok (.if_icmp .ge 25, 3) := by decide +kernel
theorem dX4_mendAll_22 : decode cX4_mendAll 22 = .ok (.aload_n 0, 1) := by decide +kernel
theorem dX4_mendAll_23 : decode cX4_mendAll 23 = .ok (.iload_n 2, 1) := by decide +kernel
theorem dX4_mendAll_24 : decode cX4_mendAll 24 = .ok (.invokevirtual 46, 3) := by decide +kernel
theorem dX4_mendAll_27 : decode cX4_mendAll 27 = .ok (.ifCond .eq 17, 3) := by decide +kernel
theorem dX4_mendAll_30 : decode cX4_mendAll 30 = .ok (.aload_n 0, 1) := by decide +kernel
theorem dX4_mendAll_31 : decode cX4_mendAll 31 = .ok (.iload_n 2, 1) := by decide +kernel
theorem dX4_mendAll_32 : decode cX4_mendAll 32 = .ok (.invokevirtual 50, 3) := by decide +kernel
theorem dX4_mendAll_35 : decode cX4_mendAll 35 = .ok (.iinc 1 1, 3) := by decide +kernel
theorem dX4_mendAll_38 : decode cX4_mendAll 38 = .ok (.iinc 3 1, 3) := by decide +kernel
theorem dX4_mendAll_41 : decode cX4_mendAll 41 = .ok (.goto (-24), 3) := by decide +kernel
theorem dX4_mendAll_44 : decode cX4_mendAll 44 = .ok (.iinc 2 1, 3) := by decide +kernel
theorem dX4_mendAll_47 : decode cX4_mendAll 47 = .ok (.goto (-43), 3) := by decide +kernel
theorem dX4_mendAll_50 : decode cX4_mendAll 50 = .ok (.iload_n 1, 1) := by decide +kernel
theorem dX4_mendAll_51 : decode cX4_mendAll 51 = .ok (.ireturn, 1) := by decide +kernel
set_option maxRecDepth 20000 in
theorem ggX4_allCases_X8_hasUp : GoodIn wsX4_allCases wsX8_hasUp := goodIn_r _ [8, 9, 10, 11, 12, 7, 13, 14, 15, 16, 17, 27, 28, 29, 30] (by decide +kernel) (by decide +kernel)
set_option maxRecDepth 20000 in
theorem gX4_allCases_X8_hasUp : GoodIn wsX4_allCases (wsV RX4 63 RX8 yX8_hasUp wsX8_hasUp) := goodIn_app (goodIn_of _ (by decide +kernel)) ggX4_allCases_X8_hasUp
theorem dX4_allCases_0 : decode cX4_allCases 0 = .ok (.lconst 1, 1) := by decide +kernel
theorem dX4_allCases_1 : decode cX4_allCases 1 = .ok (.lstore_n 1, 1) := by decide +kernel
theorem dX4_allCases_2 : decode cX4_allCases 2 = .ok (.iconst 0, 1) := by decide +kernel
theorem dX4_allCases_3 : decode cX4_allCases 3 = .ok (.istore_n 3, 1) := by decide +kernel
theorem dX4_allCases_4 : decode cX4_allCases 4 = .ok (.iload_n 3, 1) := by decide +kernel
theorem dX4_allCases_5 : decode cX4_allCases 5 = .ok (.aload_n 0, 1) := by decide +kernel
theorem dX4_allCases_6 : decode cX4_allCases 6 = .ok (.getfield 54, 3) := by decide +kernel
theorem dX4_allCases_9 : decode cX4_allCases 9 = .ok (.getfield 58, 3) := by decide +kernel
theorem dX4_allCases_12 : decode cX4_allCases 12 = .ok (.if_icmp .ge 30, 3) := by decide +kernel
theorem dX4_allCases_15 : decode cX4_allCases 15 = .ok (.lload_n 1, 1) := by decide +kernel
theorem dX4_allCases_16 : decode cX4_allCases 16 = .ok (.aload_n 0, 1) := by decide +kernel
theorem dX4_allCases_17 : decode cX4_allCases 17 = .ok (.getfield 54, 3) := by decide +kernel
theorem dX4_allCases_20 : decode cX4_allCases 20 = .ok (.iload_n 3, 1) := by decide +kernel
theorem dX4_allCases_21 : decode cX4_allCases 21 = .ok (.invokevirtual 63, 3) := by decide +kernel
theorem dX4_allCases_24 : decode cX4_allCases 24 = .ok (.ifCond .eq 9, 3) := by decide +kernel
theorem dX4_allCases_27 : decode cX4_allCases 27 = .ok (.ldc2_w 68, 3) := by decide +kernel
theorem dX4_allCases_30 : decode cX4_allCases 30 = .ok (.goto 4, 3) := by decide +kernel
theorem dX4_allCases_33 : decode cX4_allCases 33 = .ok (.lconst 1, 1) := by decide +kernel
theorem dX4_allCases_34 : decode cX4_allCases 34 = .ok (.lmul, 1) := by decide +kernel
theorem dX4_allCases_35 : decode cX4_allCases 35 = .ok (.lstore_n 1, 1) := by decide +kernel
theorem dX4_allCases_36 : decode cX4_allCases 36 = .ok (.iinc 3 1, 3) := by decide +kernel
theorem dX4_allCases_39 : decode cX4_allCases 39 = .ok (.goto (-35), 3) := by decide +kernel
theorem dX4_allCases_42 : decode cX4_allCases 42 = .ok (.lload_n 1, 1) := by decide +kernel
theorem dX4_allCases_43 : decode cX4_allCases 43 = .ok (.lreturn, 1) := by decide +kernel
set_option maxRecDepth 20000 in
theorem ggX4_readableCases_X4_isReadableWithout : GoodIn wsX4_readableCases wsX4_isReadableWithout := goodIn_r _ [6, 7, 8, 9, 10, 11, 12, 13, 14, 15, 16, 17, 18, 19, 20, 21, 22, 23, 24, 25, 26, 27, 28, 29, 30, 31, 32, 33, 34, 35, 36, 37, 38, 39, 40, 41, 42, 43, 44, 45, 46, 47, 48, 49, 50, 68, 69, 70, 71, 72, 73, 74, 75, 76, 81, 82, 83, 84, 85, 77, 78, 79, 80, 86, 87, 88, 89, 90, 91, 92, 93] (by decide +kernel) (by decide +kernel)
set_option maxRecDepth 20000 in
theorem gX4_readableCases_X4_isReadableWithout : GoodIn wsX4_readableCases (va_wsS RX4 73 yX4_isReadableWithout wsX4_isReadableWithout) := goodIn_app (goodIn_of _ (by decide +kernel)) ggX4_readableCases_X4_isReadableWithout
set_option maxRecDepth 20000 in
theorem ggX4_readableCases_X4_casesOf : GoodIn wsX4_readableCases wsX4_casesOf := goodIn_r _ [53, 1, 54, 55, 56, 57, 58, 59, 60, 61, 62, 63, 64, 65, 66, 16, 67, 68, 69, 70, 71, 72, 73, 74, 75, 76, 77, 78, 79, 80] (by decide +kernel) (by decide +kernel)
set_option maxRecDepth 20000 in
theorem gX4_readableCases_X4_casesOf : GoodIn wsX4_readableCases (va_wsS RX4 77 yX4_casesOf wsX4_casesOf) := goodIn_app (goodIn_of _ (by decide +kernel)) ggX4_readableCases_X4_casesOf
theorem dX4_readableCases_0 : decode cX4_readableCases 0 = .ok (.aload_n 0, 1) := by decide +kernel
theorem dX4_readableCases_1 : decode cX4_readableCases 1 = .ok (.getfield 54, 3) := by decide +kernel
theorem dX4_readableCases_4 : decode cX4_readableCases 4 = .ok (.getfield 70, 3) := by decide +kernel
theorem dX4_readableCases_7 : decode cX4_readableCases 7 = .ok (.istore_n 3, 1) := by decide +kernel
theorem dX4_readableCases_8 : decode cX4_readableCases 8 = .ok (.lconst 0, 1) := by decide +kernel
theorem dX4_readableCases_9 : decode cX4_readableCases 9 = .ok (.lstore 4, 2) := by decide +kernel
theorem dX4_readableCases_11 : decode cX4_readableCases 11 = .ok (.iconst 0, 1) := by decide +kernel
theorem dX4_readableCases_12 : decode cX4_readableCases 12 = .ok (.istore 6, 2) := by decide +kernel
theorem dX4_readableCases_14 : decode cX4_readableCases 14 = .ok (.iload 6, 2) := by decide +kernel
theorem dX4_readableCases_16 : decode cX4_readableCases 16 = .ok (.bipush 32, 2) := by decide +kernel
theorem dX4_readableCases_18 : decode cX4_readableCases 18 = .ok (.if_icmp .ge 40, 3) := by decide +kernel
theorem dX4_readableCases_21 : decode cX4_readableCases 21 = .ok (.iload 6, 2) := by decide +kernel
theorem dX4_readableCases_23 : decode cX4_readableCases 23 = .ok (.iload_n 3, 1) := by decide +kernel
theorem dX4_readableCases_24 : decode cX4_readableCases 24 = .ok (.iconst (-1), 1) := by decide +kernel
theorem dX4_readableCases_25 : decode cX4_readableCases 25 = .ok (.ixor, 1) := by decide +kernel
theorem dX4_readableCases_26 : decode cX4_readableCases 26 = .ok (.iand, 1) := by decide +kernel
theorem dX4_readableCases_27 : decode cX4_readableCases 27 = .ok (.ifCond .ne 25, 3) := by decide +kernel
theorem dX4_readableCases_30 : decode cX4_readableCases 30 = .ok (.aload_n 0, 1) := by decide +kernel
theorem dX4_readableCases_31 : decode cX4_readableCases 31 = .ok (.iload_n 1, 1) := by decide +kernel
theorem dX4_readableCases_32 : decode cX4_readableCases 32 = .ok (.iload 6, 2) := by decide +kernel
theorem dX4_readableCases_34 : decode cX4_readableCases 34 = .ok (.invokestatic 73, 3) := by decide +kernel
theorem dX4_readableCases_37 : decode cX4_readableCases 37 = .ok (.ifCond .eq 15, 3) := by decide +kernel
theorem dX4_readableCases_40 : decode cX4_readableCases 40 = .ok (.lload 4, 2) := by decide +kernel
theorem dX4_readableCases_42 : decode cX4_readableCases 42 = .ok (.aload_n 0, 1) := by decide +kernel
theorem dX4_readableCases_43 : decode cX4_readableCases 43 = .ok (.iload 6, 2) := by decide +kernel
theorem dX4_readableCases_45 : decode cX4_readableCases 45 = .ok (.iload_n 2, 1) := by decide +kernel
theorem dX4_readableCases_46 : decode cX4_readableCases 46 = .ok (.invokestatic 77, 3) := by decide +kernel
theorem dX4_readableCases_49 : decode cX4_readableCases 49 = .ok (.ladd, 1) := by decide +kernel
theorem dX4_readableCases_50 : decode cX4_readableCases 50 = .ok (.lstore 4, 2) := by decide +kernel
theorem dX4_readableCases_52 : decode cX4_readableCases 52 = .ok (.iinc 6 1, 3) := by decide +kernel
theorem dX4_readableCases_55 : decode cX4_readableCases 55 = .ok (.goto (-41), 3) := by decide +kernel
theorem dX4_readableCases_58 : decode cX4_readableCases 58 = .ok (.lload 4, 2) := by decide +kernel
theorem dX4_readableCases_60 : decode cX4_readableCases 60 = .ok (.lreturn, 1) := by decide +kernel
set_option maxRecDepth 20000 in
theorem ggX4_isReadableWithout_X3_chunkOf : GoodIn wsX4_isReadableWithout wsX3_chunkOf := goodIn_r _ [6, 7, 8, 9, 10, 11, 12, 13, 14, 54, 55, 56, 57, 58] (by decide +kernel) (by decide +kernel)
set_option maxRecDepth 20000 in
theorem gX4_isReadableWithout_X3_chunkOf : GoodIn wsX4_isReadableWithout (wsV RX4 16 RX3 yX3_chunkOf wsX3_chunkOf) := goodIn_app (goodIn_of _ (by decide +kernel)) ggX4_isReadableWithout_X3_chunkOf
set_option maxRecDepth 20000 in
theorem ggX4_isReadableWithout_X5_able : GoodIn wsX4_isReadableWithout wsX5_able := goodIn_r _ [19, 20, 21, 22, 23, 24, 18, 25, 26, 27, 28, 29, 30, 31, 32, 33, 34, 35, 36, 37, 38, 39, 40, 41, 42, 43, 44, 45, 46, 47, 48, 49, 50, 51, 52, 53, 59, 60, 61, 62, 63, 64, 65, 66, 67, 68, 69, 70] (by decide +kernel) (by decide +kernel)
set_option maxRecDepth 20000 in
theorem gX4_isReadableWithout_X5_able : GoodIn wsX4_isReadableWithout (wsV RX4 22 RX5 yX5_able wsX5_able) := goodIn_app (goodIn_of _ (by decide +kernel)) ggX4_isReadableWithout_X5_able
theorem dX4_isReadableWithout_0 : decode cX4_isReadableWithout 0 = .ok (.iconst 0, 1) := by decide +kernel
theorem dX4_isReadableWithout_1 : decode cX4_isReadableWithout 1 = .ok (.istore_n 3, 1) := by decide +kernel
theorem dX4_isReadableWithout_2 : decode cX4_isReadableWithout 2 = .ok (.iload_n 3, 1) := by decide +kernel
theorem dX4_isReadableWithout_3 : decode cX4_isReadableWithout 3 = .ok (.iconst 4, 1) := by decide +kernel
theorem dX4_isReadableWithout_4 : decode cX4_isReadableWithout 4 = .ok (.if_icmp .ge 41, 3) := by decide +kernel
theorem dX4_isReadableWithout_7 : decode cX4_isReadableWithout 7 = .ok (.aload_n 0, 1) := by decide +kernel
theorem dX4_isReadableWithout_8 : decode cX4_isReadableWithout 8 = .ok (.getfield 10, 3) := by decide +kernel
theorem dX4_isReadableWithout_11 : decode cX4_isReadableWithout 11 = .ok (.iload_n 1, 1) := by decide +kernel
theorem dX4_isReadableWithout_12 : decode cX4_isReadableWithout 12 = .ok (.iload_n 3, 1) := by decide +kernel
theorem dX4_isReadableWithout_13 : decode cX4_isReadableWithout 13 = .ok (.invokevirtual 16, 3) := by decide +kernel
theorem dX4_isReadableWithout_16 : decode cX4_isReadableWithout 16 = .ok (.istore 4, 2) := by decide +kernel
theorem dX4_isReadableWithout_18 : decode cX4_isReadableWithout 18 = .ok (.iload 4, 2) := by decide +kernel
theorem dX4_isReadableWithout_20 : decode cX4_isReadableWithout 20 = .ok (.iconst (-1), 1) := by decide +kernel
theorem dX4_isReadableWithout_21 : decode cX4_isReadableWithout 21 = .ok (.if_icmp .eq 18, 3) := by decide +kernel
theorem dX4_isReadableWithout_24 : decode cX4_isReadableWithout 24 = .ok (.aload_n 0, 1) := by decide +kernel
theorem dX4_isReadableWithout_25 : decode cX4_isReadableWithout 25 = .ok (.iload 4, 2) := by decide +kernel
theorem dX4_isReadableWithout_27 : decode cX4_isReadableWithout 27 = .ok (.invokevirtual 22, 3) := by decide +kernel
theorem dX4_isReadableWithout_30 : decode cX4_isReadableWithout 30 = .ok (.iload_n 2, 1) := by decide +kernel
theorem dX4_isReadableWithout_31 : decode cX4_isReadableWithout 31 = .ok (.iconst (-1), 1) := by decide +kernel
theorem dX4_isReadableWithout_32 : decode cX4_isReadableWithout 32 = .ok (.ixor, 1) := by decide +kernel
theorem dX4_isReadableWithout_33 : decode cX4_isReadableWithout 33 = .ok (.iand, 1) := by decide +kernel
theorem dX4_isReadableWithout_34 : decode cX4_isReadableWithout 34 = .ok (.ifCond .ne 5, 3) := by decide +kernel
theorem dX4_isReadableWithout_37 : decode cX4_isReadableWithout 37 = .ok (.iconst 0, 1) := by decide +kernel
theorem dX4_isReadableWithout_38 : decode cX4_isReadableWithout 38 = .ok (.ireturn, 1) := by decide +kernel
theorem dX4_isReadableWithout_39 : decode cX4_isReadableWithout 39 = .ok (.iinc 3 1, 3) := by decide +kernel
theorem dX4_isReadableWithout_42 : decode cX4_isReadableWithout 42 = .ok (.goto (-40), 3) := by decide +kernel
theorem dX4_isReadableWithout_45 : decode cX4_isReadableWithout 45 = .ok (.iconst 1, 1) := by decide +kernel
theorem dX4_isReadableWithout_46 : decode cX4_isReadableWithout 46 = .ok (.ireturn, 1) := by decide +kernel
set_option maxRecDepth 20000 in
theorem ggX4_casesOf_X8_hasUp : GoodIn wsX4_casesOf wsX8_hasUp := goodIn_r _ [7, 8, 9, 10, 11, 6, 12, 13, 14, 15, 16, 26, 27, 28, 29] (by decide +kernel) (by decide +kernel)
set_option maxRecDepth 20000 in
theorem gX4_casesOf_X8_hasUp : GoodIn wsX4_casesOf (wsV RX4 63 RX8 yX8_hasUp wsX8_hasUp) := goodIn_app (goodIn_of _ (by decide +kernel)) ggX4_casesOf_X8_hasUp
set_option maxRecDepth 20000 in
theorem ggX4_casesOf_X10_isIn : GoodIn wsX4_casesOf wsX10_isIn := goodIn_r _ [16] (by decide +kernel) (by decide +kernel)
set_option maxRecDepth 20000 in
theorem gX4_casesOf_X10_isIn_n81 : GoodIn wsX4_casesOf (wsX10_isIn) := ggX4_casesOf_X10_isIn
theorem dX4_casesOf_0 : decode cX4_casesOf 0 = .ok (.lconst 1, 1) := by decide +kernel
theorem dX4_casesOf_1 : decode cX4_casesOf 1 = .ok (.lstore_n 3, 1) := by decide +kernel
theorem dX4_casesOf_2 : decode cX4_casesOf 2 = .ok (.iconst 0, 1) := by decide +kernel
theorem dX4_casesOf_3 : decode cX4_casesOf 3 = .ok (.istore 5, 2) := by decide +kernel
theorem dX4_casesOf_5 : decode cX4_casesOf 5 = .ok (.iload 5, 2) := by decide +kernel
theorem dX4_casesOf_7 : decode cX4_casesOf 7 = .ok (.aload_n 0, 1) := by decide +kernel
theorem dX4_casesOf_8 : decode cX4_casesOf 8 = .ok (.getfield 54, 3) := by decide +kernel
theorem dX4_casesOf_11 : decode cX4_casesOf 11 = .ok (.getfield 58, 3) := by decide +kernel
theorem dX4_casesOf_14 : decode cX4_casesOf 14 = .ok (.if_icmp .ge 43, 3) := by decide +kernel
theorem dX4_casesOf_17 : decode cX4_casesOf 17 = .ok (.aload_n 0, 1) := by decide +kernel
theorem dX4_casesOf_18 : decode cX4_casesOf 18 = .ok (.getfield 54, 3) := by decide +kernel
theorem dX4_casesOf_21 : decode cX4_casesOf 21 = .ok (.iload 5, 2) := by decide +kernel
theorem dX4_casesOf_23 : decode cX4_casesOf 23 = .ok (.invokevirtual 63, 3) := by decide +kernel
theorem dX4_casesOf_26 : decode cX4_casesOf 26 = .ok (.ifCond .eq 25, 3) := by decide +kernel
theorem dX4_casesOf_29 : decode cX4_casesOf 29 = .ok (.lload_n 3, 1) := by decide +kernel
theorem dX4_casesOf_30 : decode cX4_casesOf 30 = .ok (.iload_n 1, 1) := by decide +kernel
theorem dX4_casesOf_31 : decode cX4_casesOf 31 = .ok (.iload 5, 2) := by decide +kernel
theorem dX4_casesOf_33 : decode cX4_casesOf 33 = .ok (.invokestatic 81, 3) := by decide +kernel
theorem dX4_casesOf_36 : decode cX4_casesOf 36 = .ok (.ifCond .eq 8, 3) := by decide +kernel
theorem dX4_casesOf_39 : decode cX4_casesOf 39 = .ok (.iload_n 2, 1) := by decide +kernel
theorem dX4_casesOf_40 : decode cX4_casesOf 40 = .ok (.i2l, 1) := by decide +kernel
theorem dX4_casesOf_41 : decode cX4_casesOf 41 = .ok (.goto 8, 3) := by decide +kernel
theorem dX4_casesOf_44 : decode cX4_casesOf 44 = .ok (.bipush 10, 2) := by decide +kernel
theorem dX4_casesOf_46 : decode cX4_casesOf 46 = .ok (.iload_n 2, 1) := by decide +kernel
theorem dX4_casesOf_47 : decode cX4_casesOf 47 = .ok (.isub, 1) := by decide +kernel
theorem dX4_casesOf_48 : decode cX4_casesOf 48 = .ok (.i2l, 1) := by decide +kernel
theorem dX4_casesOf_49 : decode cX4_casesOf 49 = .ok (.lmul, 1) := by decide +kernel
theorem dX4_casesOf_50 : decode cX4_casesOf 50 = .ok (.lstore_n 3, 1) := by decide +kernel
theorem dX4_casesOf_51 : decode cX4_casesOf 51 = .ok (.iinc 5 1, 3) := by decide +kernel
theorem dX4_casesOf_54 : decode cX4_casesOf 54 = .ok (.goto (-49), 3) := by decide +kernel
theorem dX4_casesOf_57 : decode cX4_casesOf 57 = .ok (.lload_n 3, 1) := by decide +kernel
theorem dX4_casesOf_58 : decode cX4_casesOf 58 = .ok (.lreturn, 1) := by decide +kernel
theorem dX4_commonDivisor_0 : decode cX4_commonDivisor 0 = .ok (.lload_n 0, 1) := by decide +kernel
theorem dX4_commonDivisor_1 : decode cX4_commonDivisor 1 = .ok (.lstore 4, 2) := by decide +kernel
theorem dX4_commonDivisor_3 : decode cX4_commonDivisor 3 = .ok (.lload_n 2, 1) := by decide +kernel
theorem dX4_commonDivisor_4 : decode cX4_commonDivisor 4 = .ok (.lstore 6, 2) := by decide +kernel
theorem dX4_commonDivisor_6 : decode cX4_commonDivisor 6 = .ok (.iconst 0, 1) := by decide +kernel
theorem dX4_commonDivisor_7 : decode cX4_commonDivisor 7 = .ok (.istore 8, 2) := by decide +kernel
theorem dX4_commonDivisor_9 : decode cX4_commonDivisor 9 = .ok (.iload 8, 2) := by decide +kernel
theorem dX4_commonDivisor_11 : decode cX4_commonDivisor 11 = .ok (.bipush 100, 2) := by decide +kernel
theorem dX4_commonDivisor_13 : decode cX4_commonDivisor 13 = .ok (.if_icmp .ge 31, 3) := by decide +kernel
theorem dX4_commonDivisor_16 : decode cX4_commonDivisor 16 = .ok (.lload 6, 2) := by decide +kernel
theorem dX4_commonDivisor_18 : decode cX4_commonDivisor 18 = .ok (.lconst 0, 1) := by decide +kernel
theorem dX4_commonDivisor_19 : decode cX4_commonDivisor 19 = .ok (.lcmp, 1) := by decide +kernel
theorem dX4_commonDivisor_20 : decode cX4_commonDivisor 20 = .ok (.ifCond .eq 24, 3) := by decide +kernel
theorem dX4_commonDivisor_23 : decode cX4_commonDivisor 23 = .ok (.lload 4, 2) := by decide +kernel
theorem dX4_commonDivisor_25 : decode cX4_commonDivisor 25 = .ok (.lload 6, 2) := by decide +kernel
theorem dX4_commonDivisor_27 : decode cX4_commonDivisor 27 = .ok (.lrem, 1) := by decide +kernel
theorem dX4_commonDivisor_28 : decode cX4_commonDivisor 28 = .ok (.lstore 9, 2) := by decide +kernel
theorem dX4_commonDivisor_30 : decode cX4_commonDivisor 30 = .ok (.lload 6, 2) := by decide +kernel
theorem dX4_commonDivisor_32 : decode cX4_commonDivisor 32 = .ok (.lstore 4, 2) := by decide +kernel
theorem dX4_commonDivisor_34 : decode cX4_commonDivisor 34 = .ok (.lload 9, 2) := by decide +kernel
theorem dX4_commonDivisor_36 : decode cX4_commonDivisor 36 = .ok (.lstore 6, 2) := by decide +kernel
theorem dX4_commonDivisor_38 : decode cX4_commonDivisor 38 = .ok (.iinc 8 1, 3) := by decide +kernel
theorem dX4_commonDivisor_41 : decode cX4_commonDivisor 41 = .ok (.goto (-32), 3) := by decide +kernel
theorem dX4_commonDivisor_44 : decode cX4_commonDivisor 44 = .ok (.lload 4, 2) := by decide +kernel
theorem dX4_commonDivisor_46 : decode cX4_commonDivisor 46 = .ok (.lreturn, 1) := by decide +kernel
set_option maxRecDepth 20000 in
theorem ggX4_liveYears_X8_spoilMore : GoodIn wsX4_liveYears wsX8_spoilMore := goodIn_r _ [17, 18, 19, 20, 21, 22, 23, 24, 25, 16, 26, 27, 270, 271, 272, 273] (by decide +kernel) (by decide +kernel)
set_option maxRecDepth 20000 in
theorem gX4_liveYears_X8_spoilMore : GoodIn wsX4_liveYears (wsV RX4 94 RX8 yX8_spoilMore wsX8_spoilMore) := goodIn_app (goodIn_of _ (by decide +kernel)) ggX4_liveYears_X8_spoilMore
set_option maxRecDepth 20000 in
theorem ggX4_liveYears_J7_fill_53178 : GoodIn wsX4_liveYears wsJ7_fill_53178 := goodIn_r _ [31] (by decide +kernel) (by decide +kernel)
set_option maxRecDepth 20000 in
theorem gX4_liveYears_J7_fill_53178 : GoodIn wsX4_liveYears (va_wsS RX4 105 yJ7_fill_53178 wsJ7_fill_53178) := goodIn_app (goodIn_of _ (by decide +kernel)) ggX4_liveYears_J7_fill_53178
set_option maxRecDepth 20000 in
theorem ggX4_liveYears_X3_is : GoodIn wsX4_liveYears wsX3_is := goodIn_r _ [36, 37, 38, 39, 40, 41, 42, 43, 274, 275, 276, 277, 278] (by decide +kernel) (by decide +kernel)
set_option maxRecDepth 20000 in
theorem gX4_liveYears_X3_is : GoodIn wsX4_liveYears (wsV RX4 111 RX3 yX3_is wsX3_is) := goodIn_app (goodIn_of _ (by decide +kernel)) ggX4_liveYears_X3_is
set_option maxRecDepth 20000 in
theorem ggX4_liveYears_X5_addRecord : GoodIn wsX4_liveYears wsX5_addRecord := goodIn_r _ [48, 49, 50, 51, 52, 53, 54, 55, 56, 35, 57, 58, 38, 39, 40, 41, 42, 43, 59, 60, 61, 62, 63, 64, 65, 66, 47, 67, 68, 69, 70, 71, 72, 73, 74, 75, 76, 77, 78, 79, 80, 81, 82, 83, 84, 85, 86, 87, 88, 89, 90, 91, 92, 93, 94, 95, 96, 97, 98, 99, 100, 101, 102, 103, 104, 105, 106, 107, 108, 109, 110, 111, 112, 113, 114, 115, 116, 117, 118, 119, 120, 16, 121, 27, 122, 123, 124, 125, 126, 127, 128, 129, 130, 131, 132, 133, 134, 135, 136, 137, 138, 139, 140, 141, 142, 143, 144, 145, 146, 147, 148, 149, 150, 151, 152, 153, 154, 155, 156, 157, 158, 159, 160, 161, 162, 163, 164, 165, 166, 167, 168, 169, 170, 171, 172, 173, 174, 175, 176, 177, 178, 179, 180, 181, 182, 183, 184, 185, 186, 187, 188, 189, 190, 191, 192, 193, 194, 195, 196, 197, 198, 199, 200, 201, 202, 203, 204, 205, 206, 207, 208, 209, 210, 211, 212, 213, 214, 215, 216, 217, 218, 219, 220, 221, 23, 24, 25, 26, 222, 223, 224, 225, 226, 227, 228, 229, 230, 231, 232, 233, 234, 235, 236, 237, 21, 238, 239, 240, 241, 242, 243, 244, 245, 246, 247, 248, 249, 250, 251, 252, 253, 254, 255, 18, 256, 257, 258, 259, 260, 261, 262, 263, 264, 265, 266, 267, 268, 269, 274, 275, 276, 277, 278, 270, 271, 272, 273, 279, 280, 281, 282, 283, 284, 285, 286] (by decide +kernel) (by decide +kernel)
set_option maxRecDepth 20000 in
theorem gX4_liveYears_X5_addRecord : GoodIn wsX4_liveYears (wsV RX4 114 RX5 yX5_addRecord wsX5_addRecord) := goodIn_app (goodIn_of _ (by decide +kernel)) ggX4_liveYears_X5_addRecord
theorem dX4_liveYears_0 : decode cX4_liveYears 0 = .ok (.aload_n 0, 1) := by decide +kernel
theorem dX4_liveYears_1 : decode cX4_liveYears 1 = .ok (.getfield 54, 3) := by decide +kernel
theorem dX4_liveYears_4 : decode cX4_liveYears 4 = .ok (.getfield 58, 3) := by decide +kernel
theorem dX4_liveYears_7 : decode cX4_liveYears 7 = .ok (.iconst 1, 1) := by decide +kernel
theorem dX4_liveYears_8 : decode cX4_liveYears 8 = .ok (.if_icmp .lt 11, 3) := by decide +kernel
theorem dX4_liveYears_11 : decode cX4_liveYears 11 = .ok (.aload_n 0, 1) := by decide +kernel
theorem dX4_liveYears_12 : decode cX4_liveYears 12 = .ok (.getfield 85, 3) := by decide +kernel
theorem dX4_liveYears_15 : decode cX4_liveYears 15 = .ok (.iconst 1, 1) := by decide +kernel
theorem dX4_liveYears_16 : decode cX4_liveYears 16 = .ok (.if_icmp .ge 5, 3) := by decide +kernel
theorem dX4_liveYears_19 : decode cX4_liveYears 19 = .ok (.iconst 0, 1) := by decide +kernel
theorem dX4_liveYears_20 : decode cX4_liveYears 20 = .ok (.ireturn, 1) := by decide +kernel
theorem dX4_liveYears_21 : decode cX4_liveYears 21 = .ok (.bipush 9, 2) := by decide +kernel
theorem dX4_liveYears_23 : decode cX4_liveYears 23 = .ok (.newarray .int, 2) := by decide +kernel
theorem dX4_liveYears_25 : decode cX4_liveYears 25 = .ok (.astore_n 3, 1) := by decide +kernel
theorem dX4_liveYears_26 : decode cX4_liveYears 26 = .ok (.iload_n 2, 1) := by decide +kernel
theorem dX4_liveYears_27 : decode cX4_liveYears 27 = .ok (.i2l, 1) := by decide +kernel
theorem dX4_liveYears_28 : decode cX4_liveYears 28 = .ok (.lstore 4, 2) := by decide +kernel
theorem dX4_liveYears_30 : decode cX4_liveYears 30 = .ok (.iconst 0, 1) := by decide +kernel
theorem dX4_liveYears_31 : decode cX4_liveYears 31 = .ok (.istore 6, 2) := by decide +kernel
theorem dX4_liveYears_33 : decode cX4_liveYears 33 = .ok (.iconst 0, 1) := by decide +kernel
theorem dX4_liveYears_34 : decode cX4_liveYears 34 = .ok (.istore 7, 2) := by decide +kernel
theorem dX4_liveYears_36 : decode cX4_liveYears 36 = .ok (.iload 7, 2) := by decide +kernel
theorem dX4_liveYears_38 : decode cX4_liveYears 38 = .ok (.iload_n 1, 1) := by decide +kernel
theorem dX4_liveYears_39 : decode cX4_liveYears 39 = .ok (.if_icmp .ge 116, 3) := by decide +kernel
theorem dX4_liveYears_42 : decode cX4_liveYears 42 = .ok (.lload 4, 2) := by decide +kernel
theorem dX4_liveYears_44 : decode cX4_liveYears 44 = .ok (.ldc2_w 88, 3) := by decide +kernel
theorem dX4_liveYears_47 : decode cX4_liveYears 47 = .ok (.lmul, 1) := by decide +kernel
theorem dX4_liveYears_48 : decode cX4_liveYears 48 = .ok (.ldc2_w 90, 3) := by decide +kernel
theorem dX4_liveYears_51 : decode cX4_liveYears 51 = .ok (.lrem, 1) := by decide +kernel
theorem dX4_liveYears_52 : decode cX4_liveYears 52 = .ok (.lstore 4, 2) := by decide +kernel
theorem dX4_liveYears_54 : decode cX4_liveYears 54 = .ok (.aload_n 0, 1) := by decide +kernel
theorem dX4_liveYears_55 : decode cX4_liveYears 55 = .ok (.getfield 54, 3) := by decide +kernel
theorem dX4_liveYears_58 : decode cX4_liveYears 58 = .ok (.lload 4, 2) := by decide +kernel
theorem dX4_liveYears_60 : decode cX4_liveYears 60 = .ok (.ldc2_w 92, 3) := by decide +kernel
theorem dX4_liveYears_63 : decode cX4_liveYears 63 = .ok (.ldiv, 1) := by decide +kernel
theorem dX4_liveYears_64 : decode cX4_liveYears 64 = .ok (.aload_n 0, 1) := by decide +kernel
theorem dX4_liveYears_65 : decode cX4_liveYears 65 = .ok (.getfield 54, 3) := by decide +kernel
theorem dX4_liveYears_68 : decode cX4_liveYears 68 = .ok (.getfield 58, 3) := by decide +kernel
theorem dX4_liveYears_71 : decode cX4_liveYears 71 = .ok (.i2l, 1) := by decide +kernel
theorem dX4_liveYears_72 : decode cX4_liveYears 72 = .ok (.lrem, 1) := by decide +kernel
theorem dX4_liveYears_73 : decode cX4_liveYears 73 = .ok (.l2i, 1) := by decide +kernel
theorem dX4_liveYears_74 : decode cX4_liveYears 74 = .ok (.invokevirtual 94, 3) := by decide +kernel
theorem dX4_liveYears_77 : decode cX4_liveYears 77 = .ok (.lload 4, 2) := by decide +kernel
theorem dX4_liveYears_79 : decode cX4_liveYears 79 = .ok (.ldc2_w 97, 3) := by decide +kernel
theorem dX4_liveYears_82 : decode cX4_liveYears 82 = .ok (.lrem, 1) := by decide +kernel
theorem dX4_liveYears_83 : decode cX4_liveYears 83 = .ok (.l2i, 1) := by decide +kernel
theorem dX4_liveYears_84 : decode cX4_liveYears 84 = .ok (.istore 8, 2) := by decide +kernel
theorem dX4_liveYears_86 : decode cX4_liveYears 86 = .ok (.iconst 1, 1) := by decide +kernel
theorem dX4_liveYears_87 : decode cX4_liveYears 87 = .ok (.lload 4, 2) := by decide +kernel
theorem dX4_liveYears_89 : decode cX4_liveYears 89 = .ok (.ldc2_w 99, 3) := by decide +kernel
theorem dX4_liveYears_92 : decode cX4_liveYears 92 = .ok (.ldiv, 1) := by decide +kernel
theorem dX4_liveYears_93 : decode cX4_liveYears 93 = .ok (.aload_n 0, 1) := by decide +kernel
theorem dX4_liveYears_94 : decode cX4_liveYears 94 = .ok (.getfield 85, 3) := by decide +kernel
theorem dX4_liveYears_97 : decode cX4_liveYears 97 = .ok (.i2l, 1) := by decide +kernel
theorem dX4_liveYears_98 : decode cX4_liveYears 98 = .ok (.lrem, 1) := by decide +kernel
theorem dX4_liveYears_99 : decode cX4_liveYears 99 = .ok (.l2i, 1) := by decide +kernel
theorem dX4_liveYears_100 : decode cX4_liveYears 100 = .ok (.iadd, 1) := by decide +kernel
theorem dX4_liveYears_101 : decode cX4_liveYears 101 = .ok (.istore 9, 2) := by decide +kernel
theorem dX4_liveYears_103 : decode cX4_liveYears 103 = .ok (.aload_n 3, 1) := by decide +kernel
theorem dX4_liveYears_104 : decode cX4_liveYears 104 = .ok (.bipush 97, 2) := by decide +kernel
theorem dX4_liveYears_106 : decode cX4_liveYears 106 = .ok (.lload 4, 2) := by decide +kernel
theorem dX4_liveYears_108 : decode cX4_liveYears 108 = .ok (.ldc2_w 101, 3) := by decide +kernel
theorem dX4_liveYears_111 : decode cX4_liveYears 111 = .ok (.ldiv, 1) := by decide +kernel
theorem dX4_liveYears_112 : decode cX4_liveYears 112 = .ok (.ldc2_w 103, 3) := by decide +kernel
theorem dX4_liveYears_115 : decode cX4_liveYears 115 = .ok (.lrem, 1) := by decide +kernel
theorem dX4_liveYears_116 : decode cX4_liveYears 116 = .ok (.l2i, 1) := by decide +kernel
theorem dX4_liveYears_117 : decode cX4_liveYears 117 = .ok (.iadd, 1) := by decide +kernel
theorem dX4_liveYears_118 : decode cX4_liveYears 118 = .ok (.invokestatic 105, 3) := by decide +kernel
theorem dX4_liveYears_121 : decode cX4_liveYears 121 = .ok (.aload_n 0, 1) := by decide +kernel
theorem dX4_liveYears_122 : decode cX4_liveYears 122 = .ok (.getfield 10, 3) := by decide +kernel
theorem dX4_liveYears_125 : decode cX4_liveYears 125 = .ok (.iload 8, 2) := by decide +kernel
theorem dX4_liveYears_127 : decode cX4_liveYears 127 = .ok (.iconst 1, 1) := by decide +kernel
theorem dX4_liveYears_128 : decode cX4_liveYears 128 = .ok (.invokevirtual 111, 3) := by decide +kernel
theorem dX4_liveYears_131 : decode cX4_liveYears 131 = .ok (.ifCond .eq 18, 3) := by decide +kernel
theorem dX4_liveYears_134 : decode cX4_liveYears 134 = .ok (.aload_n 0, 1) := by decide +kernel
theorem dX4_liveYears_135 : decode cX4_liveYears 135 = .ok (.iload 8, 2) := by decide +kernel
theorem dX4_liveYears_137 : decode cX4_liveYears 137 = .ok (.aload_n 3, 1) := by decide +kernel
theorem dX4_liveYears_138 : decode cX4_liveYears 138 = .ok (.iload 9, 2) := by decide +kernel
theorem dX4_liveYears_140 : decode cX4_liveYears 140 = .ok (.invokevirtual 114, 3) := by decide +kernel
theorem dX4_liveYears_143 : decode cX4_liveYears 143 = .ok (.ifCond .lt 6, 3) := by decide +kernel
theorem dX4_liveYears_146 : decode cX4_liveYears 146 = .ok (.iinc 6 1, 3) := by decide +kernel
theorem dX4_liveYears_149 : decode cX4_liveYears 149 = .ok (.iinc 7 1, 3) := by decide +kernel
theorem dX4_liveYears_152 : decode cX4_liveYears 152 = .ok (.goto (-116), 3) := by decide +kernel
theorem dX4_liveYears_155 : decode cX4_liveYears 155 = .ok (.iload 6, 2) := by decide +kernel
theorem dX4_liveYears_157 : decode cX4_liveYears 157 = .ok (.ireturn, 1) := by decide +kernel
set_option maxRecDepth 20000 in
theorem ggX5_init_X8_init : GoodIn wsX5_init wsX8_init := goodIn_r _ [26, 27, 2, 3, 28, 29, 30, 31, 32, 69, 70, 71, 72] (by decide +kernel) (by decide +kernel)
set_option maxRecDepth 20000 in
theorem gX5_init_X8_init_n29 : GoodIn wsX5_init (wsX8_init) := ggX5_init_X8_init
set_option maxRecDepth 20000 in
theorem ggX5_init_X1_init : GoodIn wsX5_init wsX1_init := goodIn_r _ [34, 35, 2, 3, 36, 30, 37, 38, 39, 40, 73, 74, 75, 76, 77] (by decide +kernel) (by decide +kernel)
set_option maxRecDepth 20000 in
theorem gX5_init_X1_init_n36 : GoodIn wsX5_init (wsX1_init) := ggX5_init_X1_init
set_option maxRecDepth 20000 in
theorem ggX5_init_X2_init : GoodIn wsX5_init wsX2_init := goodIn_r _ [43, 44, 2, 3, 30, 45, 46, 47, 48, 49, 50, 51, 78, 79, 80] (by decide +kernel) (by decide +kernel)
set_option maxRecDepth 20000 in
theorem gX5_init_X2_init : GoodIn wsX5_init (wsX2_init) := ggX5_init_X2_init
set_option maxRecDepth 20000 in
theorem ggX5_init_X3_init : GoodIn wsX5_init wsX3_init := goodIn_r _ [53, 54, 2, 3, 30, 55, 56, 57, 58, 59, 81, 82, 83, 84, 85] (by decide +kernel) (by decide +kernel)
set_option maxRecDepth 20000 in
theorem gX5_init_X3_init_n50 : GoodIn wsX5_init (wsX3_init) := ggX5_init_X3_init
theorem dX5_init_0 : decode cX5_init 0 = .ok (.aload_n 0, 1) := by decide +kernel
theorem dX5_init_1 : decode cX5_init 1 = .ok (.invokespecial 3, 3) := by decide +kernel
theorem dX5_init_4 : decode cX5_init 4 = .ok (.aload_n 0, 1) := by decide +kernel
theorem dX5_init_5 : decode cX5_init 5 = .ok (.iconst 0, 1) := by decide +kernel
theorem dX5_init_6 : decode cX5_init 6 = .ok (.putfield 9, 3) := by decide +kernel
theorem dX5_init_9 : decode cX5_init 9 = .ok (.aload_n 0, 1) := by decide +kernel
theorem dX5_init_10 : decode cX5_init 10 = .ok (.iconst 0, 1) := by decide +kernel
theorem dX5_init_11 : decode cX5_init 11 = .ok (.putfield 15, 3) := by decide +kernel
theorem dX5_init_14 : decode cX5_init 14 = .ok (.aload_n 0, 1) := by decide +kernel
theorem dX5_init_15 : decode cX5_init 15 = .ok (.iconst 0, 1) := by decide +kernel
theorem dX5_init_16 : decode cX5_init 16 = .ok (.putfield 18, 3) := by decide +kernel
theorem dX5_init_19 : decode cX5_init 19 = .ok (.aload_n 0, 1) := by decide +kernel
theorem dX5_init_20 : decode cX5_init 20 = .ok (.iconst 0, 1) := by decide +kernel
theorem dX5_init_21 : decode cX5_init 21 = .ok (.putfield 21, 3) := by decide +kernel
theorem dX5_init_24 : decode cX5_init 24 = .ok (.aload_n 0, 1) := by decide +kernel
theorem dX5_init_25 : decode cX5_init 25 = .ok (.iconst 0, 1) := by decide +kernel
theorem dX5_init_26 : decode cX5_init 26 = .ok (.putfield 24, 3) := by decide +kernel
theorem dX5_init_29 : decode cX5_init 29 = .ok (.aload_n 0, 1) := by decide +kernel
theorem dX5_init_30 : decode cX5_init 30 = .ok (.new 27, 3) := by decide +kernel
theorem dX5_init_33 : decode cX5_init 33 = .ok (.dup, 1) := by decide +kernel
theorem dX5_init_34 : decode cX5_init 34 = .ok (.invokespecial 29, 3) := by decide +kernel
theorem dX5_init_37 : decode cX5_init 37 = .ok (.putfield 30, 3) := by decide +kernel
theorem dX5_init_40 : decode cX5_init 40 = .ok (.aload_n 0, 1) := by decide +kernel
theorem dX5_init_41 : decode cX5_init 41 = .ok (.new 34, 3) := by decide +kernel
theorem dX5_init_44 : decode cX5_init 44 = .ok (.dup, 1) := by decide +kernel
theorem dX5_init_45 : decode cX5_init 45 = .ok (.invokespecial 36, 3) := by decide +kernel
theorem dX5_init_48 : decode cX5_init 48 = .ok (.putfield 37, 3) := by decide +kernel
theorem dX5_init_51 : decode cX5_init 51 = .ok (.aload_n 0, 1) := by decide +kernel
theorem dX5_init_52 : decode cX5_init 52 = .ok (.new 41, 3) := by decide +kernel
theorem dX5_init_55 : decode cX5_init 55 = .ok (.dup, 1) := by decide +kernel
theorem dX5_init_56 : decode cX5_init 56 = .ok (.invokespecial 43, 3) := by decide +kernel
theorem dX5_init_59 : decode cX5_init 59 = .ok (.putfield 44, 3) := by decide +kernel
theorem dX5_init_62 : decode cX5_init 62 = .ok (.aload_n 0, 1) := by decide +kernel
theorem dX5_init_63 : decode cX5_init 63 = .ok (.new 48, 3) := by decide +kernel
theorem dX5_init_66 : decode cX5_init 66 = .ok (.dup, 1) := by decide +kernel
theorem dX5_init_67 : decode cX5_init 67 = .ok (.invokespecial 50, 3) := by decide +kernel
theorem dX5_init_70 : decode cX5_init 70 = .ok (.putfield 51, 3) := by decide +kernel
theorem dX5_init_73 : decode cX5_init 73 = .ok (.return_, 1) := by decide +kernel
set_option maxRecDepth 20000 in
theorem ggX5_open_X8_open : GoodIn wsX5_open wsX8_open := goodIn_r _ [11, 12, 13, 14, 15, 16, 17, 18, 19, 20, 21, 22, 23, 52, 53, 54, 55] (by decide +kernel) (by decide +kernel)
set_option maxRecDepth 20000 in
theorem gX5_open_X8_open : GoodIn wsX5_open (wsV RX5 55 RX8 yX8_open wsX8_open) := goodIn_app (goodIn_of _ (by decide +kernel)) ggX5_open_X8_open
set_option maxRecDepth 20000 in
theorem ggX5_open_X2_clear : GoodIn wsX5_open wsX2_clear := goodIn_r _ [28, 29, 30, 21, 22, 23, 56, 57, 58] (by decide +kernel) (by decide +kernel)
set_option maxRecDepth 20000 in
theorem gX5_open_X2_clear : GoodIn wsX5_open (wsV RX5 62 RX2 yX2_clear wsX2_clear) := goodIn_app (goodIn_of _ (by decide +kernel)) ggX5_open_X2_clear
set_option maxRecDepth 20000 in
theorem ggX5_open_X3_clear : GoodIn wsX5_open wsX3_clear := goodIn_r _ [35, 36, 37, 59, 60, 61, 62, 63] (by decide +kernel) (by decide +kernel)
set_option maxRecDepth 20000 in
theorem gX5_open_X3_clear : GoodIn wsX5_open (wsV RX5 65 RX3 yX3_clear wsX3_clear) := goodIn_app (goodIn_of _ (by decide +kernel)) ggX5_open_X3_clear
theorem dX5_open_0 : decode cX5_open 0 = .ok (.aload_n 0, 1) := by decide +kernel
theorem dX5_open_1 : decode cX5_open 1 = .ok (.iconst 0, 1) := by decide +kernel
theorem dX5_open_2 : decode cX5_open 2 = .ok (.putfield 24, 3) := by decide +kernel
theorem dX5_open_5 : decode cX5_open 5 = .ok (.aload_n 0, 1) := by decide +kernel
theorem dX5_open_6 : decode cX5_open 6 = .ok (.getfield 30, 3) := by decide +kernel
theorem dX5_open_9 : decode cX5_open 9 = .ok (.iload_n 1, 1) := by decide +kernel
theorem dX5_open_10 : decode cX5_open 10 = .ok (.invokevirtual 55, 3) := by decide +kernel
theorem dX5_open_13 : decode cX5_open 13 = .ok (.aload_n 0, 1) := by decide +kernel
theorem dX5_open_14 : decode cX5_open 14 = .ok (.getfield 37, 3) := by decide +kernel
theorem dX5_open_17 : decode cX5_open 17 = .ok (.iconst 0, 1) := by decide +kernel
theorem dX5_open_18 : decode cX5_open 18 = .ok (.putfield 59, 3) := by decide +kernel
theorem dX5_open_21 : decode cX5_open 21 = .ok (.aload_n 0, 1) := by decide +kernel
theorem dX5_open_22 : decode cX5_open 22 = .ok (.getfield 44, 3) := by decide +kernel
theorem dX5_open_25 : decode cX5_open 25 = .ok (.invokevirtual 62, 3) := by decide +kernel
theorem dX5_open_28 : decode cX5_open 28 = .ok (.aload_n 0, 1) := by decide +kernel
theorem dX5_open_29 : decode cX5_open 29 = .ok (.getfield 51, 3) := by decide +kernel
theorem dX5_open_32 : decode cX5_open 32 = .ok (.invokevirtual 65, 3) := by decide +kernel
theorem dX5_open_35 : decode cX5_open 35 = .ok (.return_, 1) := by decide +kernel
set_option maxRecDepth 20000 in
theorem ggX5_become_X8_become : GoodIn wsX5_become wsX8_become := goodIn_r _ [14, 15, 16, 17, 18, 19, 20, 21, 22, 63, 64, 65, 66] (by decide +kernel) (by decide +kernel)
set_option maxRecDepth 20000 in
theorem gX5_become_X8_become : GoodIn wsX5_become (wsV RX5 66 RX8 yX8_become wsX8_become) := goodIn_app (goodIn_of _ (by decide +kernel)) ggX5_become_X8_become
set_option maxRecDepth 20000 in
theorem ggX5_become_X1_become : GoodIn wsX5_become wsX1_become := goodIn_r _ [27, 28, 29, 30, 19, 20, 21, 31, 32, 33, 67, 68, 69, 70, 71] (by decide +kernel) (by decide +kernel)
set_option maxRecDepth 20000 in
theorem gX5_become_X1_become : GoodIn wsX5_become (wsV RX5 70 RX1 yX1_become wsX1_become) := goodIn_app (goodIn_of _ (by decide +kernel)) ggX5_become_X1_become
set_option maxRecDepth 20000 in
theorem ggX5_become_X2_become : GoodIn wsX5_become wsX2_become := goodIn_r _ [38, 39, 40, 19, 20, 21, 41, 42, 72, 73, 74] (by decide +kernel) (by decide +kernel)
set_option maxRecDepth 20000 in
theorem gX5_become_X2_become : GoodIn wsX5_become (wsV RX5 73 RX2 yX2_become wsX2_become) := goodIn_app (goodIn_of _ (by decide +kernel)) ggX5_become_X2_become
set_option maxRecDepth 20000 in
theorem ggX5_become_X3_become : GoodIn wsX5_become wsX3_become := goodIn_r _ [47, 48, 49, 19, 20, 21, 50, 51, 52, 53, 75, 76, 77, 78, 79] (by decide +kernel) (by decide +kernel)
set_option maxRecDepth 20000 in
theorem gX5_become_X3_become : GoodIn wsX5_become (wsV RX5 76 RX3 yX3_become wsX3_become) := goodIn_app (goodIn_of _ (by decide +kernel)) ggX5_become_X3_become
theorem dX5_become_0 : decode cX5_become 0 = .ok (.aload_n 0, 1) := by decide +kernel
theorem dX5_become_1 : decode cX5_become 1 = .ok (.aload_n 1, 1) := by decide +kernel
theorem dX5_become_2 : decode cX5_become 2 = .ok (.getfield 9, 3) := by decide +kernel
theorem dX5_become_5 : decode cX5_become 5 = .ok (.putfield 9, 3) := by decide +kernel
theorem dX5_become_8 : decode cX5_become 8 = .ok (.aload_n 0, 1) := by decide +kernel
theorem dX5_become_9 : decode cX5_become 9 = .ok (.aload_n 1, 1) := by decide +kernel
theorem dX5_become_10 : decode cX5_become 10 = .ok (.getfield 15, 3) := by decide +kernel
theorem dX5_become_13 : decode cX5_become 13 = .ok (.putfield 15, 3) := by decide +kernel
theorem dX5_become_16 : decode cX5_become 16 = .ok (.aload_n 0, 1) := by decide +kernel
theorem dX5_become_17 : decode cX5_become 17 = .ok (.aload_n 1, 1) := by decide +kernel
theorem dX5_become_18 : decode cX5_become 18 = .ok (.getfield 18, 3) := by decide +kernel
theorem dX5_become_21 : decode cX5_become 21 = .ok (.putfield 18, 3) := by decide +kernel
theorem dX5_become_24 : decode cX5_become 24 = .ok (.aload_n 0, 1) := by decide +kernel
theorem dX5_become_25 : decode cX5_become 25 = .ok (.aload_n 1, 1) := by decide +kernel
theorem dX5_become_26 : decode cX5_become 26 = .ok (.getfield 21, 3) := by decide +kernel
theorem dX5_become_29 : decode cX5_become 29 = .ok (.putfield 21, 3) := by decide +kernel
theorem dX5_become_32 : decode cX5_become 32 = .ok (.aload_n 0, 1) := by decide +kernel
theorem dX5_become_33 : decode cX5_become 33 = .ok (.aload_n 1, 1) := by decide +kernel
theorem dX5_become_34 : decode cX5_become 34 = .ok (.getfield 24, 3) := by decide +kernel
theorem dX5_become_37 : decode cX5_become 37 = .ok (.putfield 24, 3) := by decide +kernel
theorem dX5_become_40 : decode cX5_become 40 = .ok (.aload_n 0, 1) := by decide +kernel
theorem dX5_become_41 : decode cX5_become 41 = .ok (.getfield 30, 3) := by decide +kernel
theorem dX5_become_44 : decode cX5_become 44 = .ok (.aload_n 1, 1) := by decide +kernel
theorem dX5_become_45 : decode cX5_become 45 = .ok (.getfield 30, 3) := by decide +kernel
theorem dX5_become_48 : decode cX5_become 48 = .ok (.invokevirtual 66, 3) := by decide +kernel
theorem dX5_become_51 : decode cX5_become 51 = .ok (.aload_n 0, 1) := by decide +kernel
theorem dX5_become_52 : decode cX5_become 52 = .ok (.getfield 37, 3) := by decide +kernel
theorem dX5_become_55 : decode cX5_become 55 = .ok (.aload_n 1, 1) := by decide +kernel
theorem dX5_become_56 : decode cX5_become 56 = .ok (.getfield 37, 3) := by decide +kernel
theorem dX5_become_59 : decode cX5_become 59 = .ok (.invokevirtual 70, 3) := by decide +kernel
theorem dX5_become_62 : decode cX5_become 62 = .ok (.aload_n 0, 1) := by decide +kernel
theorem dX5_become_63 : decode cX5_become 63 = .ok (.getfield 44, 3) := by decide +kernel
theorem dX5_become_66 : decode cX5_become 66 = .ok (.aload_n 1, 1) := by decide +kernel
theorem dX5_become_67 : decode cX5_become 67 = .ok (.getfield 44, 3) := by decide +kernel
theorem dX5_become_70 : decode cX5_become 70 = .ok (.invokevirtual 73, 3) := by decide +kernel
theorem dX5_become_73 : decode cX5_become 73 = .ok (.aload_n 0, 1) := by decide +kernel
theorem dX5_become_74 : decode cX5_become 74 = .ok (.getfield 51, 3) := by decide +kernel
theorem dX5_become_77 : decode cX5_become 77 = .ok (.aload_n 1, 1) := by decide +kernel
theorem dX5_become_78 : decode cX5_become 78 = .ok (.getfield 51, 3) := by decide +kernel
theorem dX5_become_81 : decode cX5_become 81 = .ok (.invokevirtual 76, 3) := by decide +kernel
theorem dX5_become_84 : decode cX5_become 84 = .ok (.return_, 1) := by decide +kernel
set_option maxRecDepth 20000 in
theorem ggX5_isGood_X1_has : GoodIn wsX5_isGood wsX1_has := goodIn_r _ [8, 9, 28, 29, 30, 31, 32] (by decide +kernel) (by decide +kernel)
set_option maxRecDepth 20000 in
theorem gX5_isGood_X1_has : GoodIn wsX5_isGood (wsV RX5 79 RX1 yX1_has wsX1_has) := goodIn_app (goodIn_of _ (by decide +kernel)) ggX5_isGood_X1_has
set_option maxRecDepth 20000 in
theorem ggX5_isGood_X2_versionOf : GoodIn wsX5_isGood wsX2_versionOf := goodIn_r _ [14, 15, 16, 17, 13, 18, 33, 34, 35] (by decide +kernel) (by decide +kernel)
set_option maxRecDepth 20000 in
theorem gX5_isGood_X2_versionOf : GoodIn wsX5_isGood (wsV RX5 83 RX2 yX2_versionOf wsX2_versionOf) := goodIn_app (goodIn_of _ (by decide +kernel)) ggX5_isGood_X2_versionOf
theorem dX5_isGood_0 : decode cX5_isGood 0 = .ok (.aload_n 0, 1) := by decide +kernel
theorem dX5_isGood_1 : decode cX5_isGood 1 = .ok (.getfield 37, 3) := by decide +kernel
theorem dX5_isGood_4 : decode cX5_isGood 4 = .ok (.iload_n 2, 1) := by decide +kernel
theorem dX5_isGood_5 : decode cX5_isGood 5 = .ok (.invokevirtual 79, 3) := by decide +kernel
theorem dX5_isGood_8 : decode cX5_isGood 8 = .ok (.ifCond .eq 28, 3) := by decide +kernel
theorem dX5_isGood_11 : decode cX5_isGood 11 = .ok (.aload_n 0, 1) := by decide +kernel
theorem dX5_isGood_12 : decode cX5_isGood 12 = .ok (.getfield 44, 3) := by decide +kernel
theorem dX5_isGood_15 : decode cX5_isGood 15 = .ok (.iload_n 1, 1) := by decide +kernel
theorem dX5_isGood_16 : decode cX5_isGood 16 = .ok (.iload_n 2, 1) := by decide +kernel
theorem dX5_isGood_17 : decode cX5_isGood 17 = .ok (.invokevirtual 83, 3) := by decide +kernel
theorem dX5_isGood_20 : decode cX5_isGood 20 = .ok (.aload_n 0, 1) := by decide +kernel
theorem dX5_isGood_21 : decode cX5_isGood 21 = .ok (.getfield 37, 3) := by decide +kernel
theorem dX5_isGood_24 : decode cX5_isGood 24 = .ok (.getfield 87, 3) := by decide +kernel
theorem dX5_isGood_27 : decode cX5_isGood 27 = .ok (.iload_n 2, 1) := by decide +kernel
theorem dX5_isGood_28 : decode cX5_isGood 28 = .ok (.iaload, 1) := by decide +kernel
theorem dX5_isGood_29 : decode cX5_isGood 29 = .ok (.if_icmp .ne 7, 3) := by decide +kernel
theorem dX5_isGood_32 : decode cX5_isGood 32 = .ok (.iconst 1, 1) := by decide +kernel
theorem dX5_isGood_33 : decode cX5_isGood 33 = .ok (.goto 4, 3) := by decide +kernel
theorem dX5_isGood_36 : decode cX5_isGood 36 = .ok (.iconst 0, 1) := by decide +kernel
theorem dX5_isGood_37 : decode cX5_isGood 37 = .ok (.ireturn, 1) := by decide +kernel
set_option maxRecDepth 20000 in
theorem ggX5_isStale_X2_lies : GoodIn wsX5_isStale wsX2_lies := goodIn_r _ [6, 7, 8, 9, 5, 10, 11, 12, 13, 14, 38, 39, 40] (by decide +kernel) (by decide +kernel)
set_option maxRecDepth 20000 in
theorem gX5_isStale_X2_lies : GoodIn wsX5_isStale (wsV RX5 91 RX2 yX2_lies wsX2_lies) := goodIn_app (goodIn_of _ (by decide +kernel)) ggX5_isStale_X2_lies
set_option maxRecDepth 20000 in
theorem ggX5_isStale_X5_isGood : GoodIn wsX5_isStale wsX5_isGood := goodIn_r _ [19, 20, 1, 21, 22, 23, 24, 25, 26, 27, 28, 8, 9, 5, 10, 11, 12, 13, 14, 29, 30, 31, 32, 33, 34, 35, 36, 37, 41, 42, 43, 44, 45, 38, 39, 40] (by decide +kernel) (by decide +kernel)
set_option maxRecDepth 20000 in
theorem gX5_isStale_X5_isGood : GoodIn wsX5_isStale (wsV RX5 95 RX5 yX5_isGood wsX5_isGood) := goodIn_app (goodIn_of _ (by decide +kernel)) ggX5_isStale_X5_isGood
theorem dX5_isStale_0 : decode cX5_isStale 0 = .ok (.aload_n 0, 1) := by decide +kernel
theorem dX5_isStale_1 : decode cX5_isStale 1 = .ok (.getfield 44, 3) := by decide +kernel
theorem dX5_isStale_4 : decode cX5_isStale 4 = .ok (.iload_n 1, 1) := by decide +kernel
theorem dX5_isStale_5 : decode cX5_isStale 5 = .ok (.iload_n 2, 1) := by decide +kernel
theorem dX5_isStale_6 : decode cX5_isStale 6 = .ok (.invokevirtual 91, 3) := by decide +kernel
theorem dX5_isStale_9 : decode cX5_isStale 9 = .ok (.ifCond .eq 16, 3) := by decide +kernel
theorem dX5_isStale_12 : decode cX5_isStale 12 = .ok (.aload_n 0, 1) := by decide +kernel
theorem dX5_isStale_13 : decode cX5_isStale 13 = .ok (.iload_n 1, 1) := by decide +kernel
theorem dX5_isStale_14 : decode cX5_isStale 14 = .ok (.iload_n 2, 1) := by decide +kernel
theorem dX5_isStale_15 : decode cX5_isStale 15 = .ok (.invokevirtual 95, 3) := by decide +kernel
theorem dX5_isStale_18 : decode cX5_isStale 18 = .ok (.ifCond .ne 7, 3) := by decide +kernel
theorem dX5_isStale_21 : decode cX5_isStale 21 = .ok (.iconst 1, 1) := by decide +kernel
theorem dX5_isStale_22 : decode cX5_isStale 22 = .ok (.goto 4, 3) := by decide +kernel
theorem dX5_isStale_25 : decode cX5_isStale 25 = .ok (.iconst 0, 1) := by decide +kernel
theorem dX5_isStale_26 : decode cX5_isStale 26 = .ok (.ireturn, 1) := by decide +kernel
set_option maxRecDepth 20000 in
theorem ggX5_good_X1_has : GoodIn wsX5_good wsX1_has := goodIn_r _ [10, 11, 30, 31, 32, 33, 34] (by decide +kernel) (by decide +kernel)
set_option maxRecDepth 20000 in
theorem gX5_good_X1_has : GoodIn wsX5_good (wsV RX5 79 RX1 yX1_has wsX1_has) := goodIn_app (goodIn_of _ (by decide +kernel)) ggX5_good_X1_has
set_option maxRecDepth 20000 in
theorem ggX5_good_X2_versionOf : GoodIn wsX5_good wsX2_versionOf := goodIn_r _ [16, 17, 18, 19, 15, 20, 39, 40, 41] (by decide +kernel) (by decide +kernel)
set_option maxRecDepth 20000 in
theorem gX5_good_X2_versionOf : GoodIn wsX5_good (wsV RX5 83 RX2 yX2_versionOf wsX2_versionOf) := goodIn_app (goodIn_of _ (by decide +kernel)) ggX5_good_X2_versionOf
theorem dX5_good_0 : decode cX5_good 0 = .ok (.aload_n 0, 1) := by decide +kernel
theorem dX5_good_1 : decode cX5_good 1 = .ok (.getfield 37, 3) := by decide +kernel
theorem dX5_good_4 : decode cX5_good 4 = .ok (.iload_n 1, 1) := by decide +kernel
theorem dX5_good_5 : decode cX5_good 5 = .ok (.invokevirtual 79, 3) := by decide +kernel
theorem dX5_good_8 : decode cX5_good 8 = .ok (.ifCond .ne 5, 3) := by decide +kernel
theorem dX5_good_11 : decode cX5_good 11 = .ok (.iconst 0, 1) := by decide +kernel
theorem dX5_good_12 : decode cX5_good 12 = .ok (.ireturn, 1) := by decide +kernel
theorem dX5_good_13 : decode cX5_good 13 = .ok (.aload_n 0, 1) := by decide +kernel
theorem dX5_good_14 : decode cX5_good 14 = .ok (.getfield 37, 3) := by decide +kernel
theorem dX5_good_17 : decode cX5_good 17 = .ok (.getfield 87, 3) := by decide +kernel
theorem dX5_good_20 : decode cX5_good 20 = .ok (.iload_n 1, 1) := by decide +kernel
theorem dX5_good_21 : decode cX5_good 21 = .ok (.iaload, 1) := by decide +kernel
theorem dX5_good_22 : decode cX5_good 22 = .ok (.istore_n 2, 1) := by decide +kernel
theorem dX5_good_23 : decode cX5_good 23 = .ok (.iconst 0, 1) := by decide +kernel
theorem dX5_good_24 : decode cX5_good 24 = .ok (.istore_n 3, 1) := by decide +kernel
theorem dX5_good_25 : decode cX5_good 25 = .ok (.iconst 0, 1) := by decide +kernel
theorem dX5_good_26 : decode cX5_good 26 = .ok (.istore 4, 2) := by decide +kernel
theorem dX5_good_28 : decode cX5_good 28 = .ok (.iload 4, 2) := by decide +kernel
theorem dX5_good_30 : decode cX5_good 30 = .ok (.aload_n 0, 1) := by decide +kernel
theorem dX5_good_31 : decode cX5_good 31 = .ok (.getfield 30, 3) := by decide +kernel
theorem dX5_good_34 : decode cX5_good 34 = .ok (.getfield 98, 3) := by decide +kernel
theorem dX5_good_37 : decode cX5_good 37 = .ok (.if_icmp .ge 34, 3) := by decide +kernel
theorem dX5_good_40 : decode cX5_good 40 = .ok (.iload_n 3, 1) := by decide +kernel
theorem dX5_good_41 : decode cX5_good 41 = .ok (.aload_n 0, 1) := by decide +kernel
theorem dX5_good_42 : decode cX5_good 42 = .ok (.getfield 44, 3) := by decide +kernel
theorem dX5_good_45 : decode cX5_good 45 = .ok (.iload 4, 2) := by decide +kernel
theorem dX5_good_47 : decode cX5_good 47 = .ok (.iload_n 1, 1) := by decide +kernel
theorem dX5_good_48 : decode cX5_good 48 = .ok (.invokevirtual 83, 3) := by decide +kernel
theorem dX5_good_51 : decode cX5_good 51 = .ok (.iload_n 2, 1) := by decide +kernel
theorem dX5_good_52 : decode cX5_good 52 = .ok (.if_icmp .ne 10, 3) := by decide +kernel
theorem dX5_good_55 : decode cX5_good 55 = .ok (.iconst 1, 1) := by decide +kernel
theorem dX5_good_56 : decode cX5_good 56 = .ok (.iload 4, 2) := by decide +kernel
theorem dX5_good_58 : decode cX5_good 58 = .ok (.ishl, 1) := by decide +kernel
theorem dX5_good_59 : decode cX5_good 59 = .ok (.goto 4, 3) := by decide +kernel
theorem dX5_good_62 : decode cX5_good 62 = .ok (.iconst 0, 1) := by decide +kernel
theorem dX5_good_63 : decode cX5_good 63 = .ok (.ior, 1) := by decide +kernel
theorem dX5_good_64 : decode cX5_good 64 = .ok (.istore_n 3, 1) := by decide +kernel
theorem dX5_good_65 : decode cX5_good 65 = .ok (.iinc 4 1, 3) := by decide +kernel
theorem dX5_good_68 : decode cX5_good 68 = .ok (.goto (-40), 3) := by decide +kernel
theorem dX5_good_71 : decode cX5_good 71 = .ok (.iload_n 3, 1) := by decide +kernel
theorem dX5_good_72 : decode cX5_good 72 = .ok (.ireturn, 1) := by decide +kernel
set_option maxRecDepth 20000 in
theorem ggX5_stale_X5_isStale : GoodIn wsX5_stale wsX5_isStale := goodIn_r _ [7, 8, 9, 10, 11, 12, 13, 14, 15, 16, 17, 18, 19, 20, 21, 22, 23, 24, 6, 25, 26, 27, 28, 29, 30, 31, 32, 33, 34, 35, 36, 37, 38, 39, 40, 41, 42, 43, 48, 49, 50, 51, 52, 53, 54, 55] (by decide +kernel) (by decide +kernel)
set_option maxRecDepth 20000 in
theorem gX5_stale_X5_isStale : GoodIn wsX5_stale (wsV RX5 101 RX5 yX5_isStale wsX5_isStale) := goodIn_app (goodIn_of _ (by decide +kernel)) ggX5_stale_X5_isStale
theorem dX5_stale_0 : decode cX5_stale 0 = .ok (.iconst 0, 1) := by decide +kernel
theorem dX5_stale_1 : decode cX5_stale 1 = .ok (.istore_n 2, 1) := by decide +kernel
theorem dX5_stale_2 : decode cX5_stale 2 = .ok (.iconst 0, 1) := by decide +kernel
theorem dX5_stale_3 : decode cX5_stale 3 = .ok (.istore_n 3, 1) := by decide +kernel
theorem dX5_stale_4 : decode cX5_stale 4 = .ok (.iload_n 3, 1) := by decide +kernel
theorem dX5_stale_5 : decode cX5_stale 5 = .ok (.aload_n 0, 1) := by decide +kernel
theorem dX5_stale_6 : decode cX5_stale 6 = .ok (.getfield 30, 3) := by decide +kernel
theorem dX5_stale_9 : decode cX5_stale 9 = .ok (.getfield 98, 3) := by decide +kernel
theorem dX5_stale_12 : decode cX5_stale 12 = .ok (.if_icmp .ge 28, 3) := by decide +kernel
theorem dX5_stale_15 : decode cX5_stale 15 = .ok (.iload_n 2, 1) := by decide +kernel
theorem dX5_stale_16 : decode cX5_stale 16 = .ok (.aload_n 0, 1) := by decide +kernel
theorem dX5_stale_17 : decode cX5_stale 17 = .ok (.iload_n 3, 1) := by decide +kernel
theorem dX5_stale_18 : decode cX5_stale 18 = .ok (.iload_n 1, 1) := by decide +kernel
theorem dX5_stale_19 : decode cX5_stale 19 = .ok (.invokevirtual 101, 3) := by decide +kernel
theorem dX5_stale_22 : decode cX5_stale 22 = .ok (.ifCond .eq 9, 3) := by decide +kernel
theorem dX5_stale_25 : decode cX5_stale 25 = .ok (.iconst 1, 1) := by decide +kernel
theorem dX5_stale_26 : decode cX5_stale 26 = .ok (.iload_n 3, 1) := by decide +kernel
theorem dX5_stale_27 : decode cX5_stale 27 = .ok (.ishl, 1) := by decide +kernel
theorem dX5_stale_28 : decode cX5_stale 28 = .ok (.goto 4, 3) := by decide +kernel
theorem dX5_stale_31 : decode cX5_stale 31 = .ok (.iconst 0, 1) := by decide +kernel
theorem dX5_stale_32 : decode cX5_stale 32 = .ok (.ior, 1) := by decide +kernel
theorem dX5_stale_33 : decode cX5_stale 33 = .ok (.istore_n 2, 1) := by decide +kernel
theorem dX5_stale_34 : decode cX5_stale 34 = .ok (.iinc 3 1, 3) := by decide +kernel
theorem dX5_stale_37 : decode cX5_stale 37 = .ok (.goto (-33), 3) := by decide +kernel
theorem dX5_stale_40 : decode cX5_stale 40 = .ok (.iload_n 2, 1) := by decide +kernel
theorem dX5_stale_41 : decode cX5_stale 41 = .ok (.ireturn, 1) := by decide +kernel
set_option maxRecDepth 20000 in
theorem ggX5_able_X5_good : GoodIn wsX5_able wsX5_good := goodIn_r _ [7, 8, 9, 1, 10, 11, 12, 13, 14, 15, 16, 17, 18, 19, 20, 21, 22, 23, 24, 25, 26, 27, 28, 29, 30, 31, 32, 33, 34, 35, 40, 41, 42, 43, 44, 36, 37, 38, 39, 45, 46, 47] (by decide +kernel) (by decide +kernel)
set_option maxRecDepth 20000 in
theorem gX5_able_X5_good : GoodIn wsX5_able (wsV RX5 104 RX5 yX5_good wsX5_good) := goodIn_app (goodIn_of _ (by decide +kernel)) ggX5_able_X5_good
theorem dX5_able_0 : decode cX5_able 0 = .ok (.aload_n 0, 1) := by decide +kernel
theorem dX5_able_1 : decode cX5_able 1 = .ok (.iload_n 1, 1) := by decide +kernel
theorem dX5_able_2 : decode cX5_able 2 = .ok (.invokevirtual 104, 3) := by decide +kernel
theorem dX5_able_5 : decode cX5_able 5 = .ok (.aload_n 0, 1) := by decide +kernel
theorem dX5_able_6 : decode cX5_able 6 = .ok (.getfield 30, 3) := by decide +kernel
theorem dX5_able_9 : decode cX5_able 9 = .ok (.getfield 108, 3) := by decide +kernel
theorem dX5_able_12 : decode cX5_able 12 = .ok (.iand, 1) := by decide +kernel
theorem dX5_able_13 : decode cX5_able 13 = .ok (.ireturn, 1) := by decide +kernel
set_option maxRecDepth 20000 in
theorem ggX5_load_X2_manyAt : GoodIn wsX5_load wsX2_manyAt := goodIn_r _ [7, 8, 25, 26, 27] (by decide +kernel) (by decide +kernel)
set_option maxRecDepth 20000 in
theorem gX5_load_X2_manyAt : GoodIn wsX5_load (wsV RX5 111 RX2 yX2_manyAt wsX2_manyAt) := goodIn_app (goodIn_of _ (by decide +kernel)) ggX5_load_X2_manyAt
set_option maxRecDepth 20000 in
theorem ggX5_load_X8_roomOf : GoodIn wsX5_load wsX8_roomOf := goodIn_r _ [13, 14, 15, 28, 29, 30, 31] (by decide +kernel) (by decide +kernel)
set_option maxRecDepth 20000 in
theorem gX5_load_X8_roomOf : GoodIn wsX5_load (wsV RX5 114 RX8 yX8_roomOf wsX8_roomOf) := goodIn_app (goodIn_of _ (by decide +kernel)) ggX5_load_X8_roomOf
theorem dX5_load_0 : decode cX5_load 0 = .ok (.aload_n 0, 1) := by decide +kernel
theorem dX5_load_1 : decode cX5_load 1 = .ok (.getfield 44, 3) := by decide +kernel
theorem dX5_load_4 : decode cX5_load 4 = .ok (.iload_n 1, 1) := by decide +kernel
theorem dX5_load_5 : decode cX5_load 5 = .ok (.invokevirtual 111, 3) := by decide +kernel
theorem dX5_load_8 : decode cX5_load 8 = .ok (.i2f, 1) := by decide +kernel
theorem dX5_load_9 : decode cX5_load 9 = .ok (.aload_n 0, 1) := by decide +kernel
theorem dX5_load_10 : decode cX5_load 10 = .ok (.getfield 30, 3) := by decide +kernel
theorem dX5_load_13 : decode cX5_load 13 = .ok (.iload_n 1, 1) := by decide +kernel
theorem dX5_load_14 : decode cX5_load 14 = .ok (.invokevirtual 114, 3) := by decide +kernel
theorem dX5_load_17 : decode cX5_load 17 = .ok (.i2f, 1) := by decide +kernel
theorem dX5_load_18 : decode cX5_load 18 = .ok (.fdiv, 1) := by decide +kernel
theorem dX5_load_19 : decode cX5_load 19 = .ok (.freturn, 1) := by decide +kernel
set_option maxRecDepth 20000 in
theorem ggX5_best_X10_isIn : GoodIn wsX5_best wsX10_isIn := goodIn_r _ [5] (by decide +kernel) (by decide +kernel)
set_option maxRecDepth 20000 in
theorem gX5_best_X10_isIn_n117 : GoodIn wsX5_best (wsX10_isIn) := ggX5_best_X10_isIn
set_option maxRecDepth 20000 in
theorem ggX5_best_X5_load : GoodIn wsX5_best wsX5_load := goodIn_r _ [10, 11, 1, 12, 13, 14, 15, 16, 17, 18, 19, 20, 21, 22, 23, 24, 25, 26, 27, 28, 29, 30, 31, 32, 33, 38, 39, 40, 34, 35, 36, 37] (by decide +kernel) (by decide +kernel)
set_option maxRecDepth 20000 in
theorem gX5_best_X5_load : GoodIn wsX5_best (wsV RX5 120 RX5 yX5_load wsX5_load) := goodIn_app (goodIn_of _ (by decide +kernel)) ggX5_best_X5_load
theorem dX5_best_0 : decode cX5_best 0 = .ok (.iconst (-1), 1) := by decide +kernel
theorem dX5_best_1 : decode cX5_best 1 = .ok (.istore_n 2, 1) := by decide +kernel
theorem dX5_best_2 : decode cX5_best 2 = .ok (.fconst 0, 1) := by decide +kernel
theorem dX5_best_3 : decode cX5_best 3 = .ok (.fstore_n 3, 1) := by decide +kernel
theorem dX5_best_4 : decode cX5_best 4 = .ok (.iconst 0, 1) := by decide +kernel
theorem dX5_best_5 : decode cX5_best 5 = .ok (.istore 4, 2) := by decide +kernel
theorem dX5_best_7 : decode cX5_best 7 = .ok (.iload 4, 2) := by decide +kernel
theorem dX5_best_9 : decode cX5_best 9 = .ok (.aload_n 0, 1) := by decide +kernel
theorem dX5_best_10 : decode cX5_best 10 = .ok (.getfield 30, 3) := by decide +kernel
theorem dX5_best_13 : decode cX5_best 13 = .ok (.getfield 98, 3) := by decide +kernel
theorem dX5_best_16 : decode cX5_best 16 = .ok (.if_icmp .ge 44, 3) := by decide +kernel
theorem dX5_best_19 : decode cX5_best 19 = .ok (.iload_n 1, 1) := by decide +kernel
theorem dX5_best_20 : decode cX5_best 20 = .ok (.iload 4, 2) := by decide +kernel
theorem dX5_best_22 : decode cX5_best 22 = .ok (.invokestatic 117, 3) := by decide +kernel
theorem dX5_best_25 : decode cX5_best 25 = .ok (.ifCond .eq 29, 3) := by decide +kernel
theorem dX5_best_28 : decode cX5_best 28 = .ok (.aload_n 0, 1) := by decide +kernel
theorem dX5_best_29 : decode cX5_best 29 = .ok (.iload 4, 2) := by decide +kernel
theorem dX5_best_31 : decode cX5_best 31 = .ok (.invokevirtual 120, 3) := by decide +kernel
theorem dX5_best_34 : decode cX5_best 34 = .ok (.fstore 5, 2) := by decide +kernel
theorem dX5_best_36 : decode cX5_best 36 = .ok (.iload_n 2, 1) := by decide +kernel
theorem dX5_best_37 : decode cX5_best 37 = .ok (.iconst (-1), 1) := by decide +kernel
theorem dX5_best_38 : decode cX5_best 38 = .ok (.if_icmp .eq 10, 3) := by decide +kernel
theorem dX5_best_41 : decode cX5_best 41 = .ok (.fload 5, 2) := by decide +kernel
theorem dX5_best_43 : decode cX5_best 43 = .ok (.fload_n 3, 1) := by decide +kernel
theorem dX5_best_44 : decode cX5_best 44 = .ok (.fcmp .g, 1) := by decide +kernel
theorem dX5_best_45 : decode cX5_best 45 = .ok (.ifCond .ge 9, 3) := by decide +kernel
theorem dX5_best_48 : decode cX5_best 48 = .ok (.iload 4, 2) := by decide +kernel
theorem dX5_best_50 : decode cX5_best 50 = .ok (.istore_n 2, 1) := by decide +kernel
theorem dX5_best_51 : decode cX5_best 51 = .ok (.fload 5, 2) := by decide +kernel
theorem dX5_best_53 : decode cX5_best 53 = .ok (.fstore_n 3, 1) := by decide +kernel
theorem dX5_best_54 : decode cX5_best 54 = .ok (.iinc 4 1, 3) := by decide +kernel
theorem dX5_best_57 : decode cX5_best 57 = .ok (.goto (-50), 3) := by decide +kernel
theorem dX5_best_60 : decode cX5_best 60 = .ok (.iload_n 2, 1) := by decide +kernel
theorem dX5_best_61 : decode cX5_best 61 = .ok (.ireturn, 1) := by decide +kernel
set_option maxRecDepth 20000 in
theorem ggX5_first_X10_isIn : GoodIn wsX5_first wsX10_isIn := goodIn_r _ [5] (by decide +kernel) (by decide +kernel)
set_option maxRecDepth 20000 in
theorem gX5_first_X10_isIn_n117 : GoodIn wsX5_first (wsX10_isIn) := ggX5_first_X10_isIn
theorem dX5_first_0 : decode cX5_first 0 = .ok (.iconst 0, 1) := by decide +kernel
theorem dX5_first_1 : decode cX5_first 1 = .ok (.istore_n 2, 1) := by decide +kernel
theorem dX5_first_2 : decode cX5_first 2 = .ok (.iload_n 2, 1) := by decide +kernel
theorem dX5_first_3 : decode cX5_first 3 = .ok (.aload_n 0, 1) := by decide +kernel
theorem dX5_first_4 : decode cX5_first 4 = .ok (.getfield 30, 3) := by decide +kernel
theorem dX5_first_7 : decode cX5_first 7 = .ok (.getfield 98, 3) := by decide +kernel
theorem dX5_first_10 : decode cX5_first 10 = .ok (.if_icmp .ge 19, 3) := by decide +kernel
theorem dX5_first_13 : decode cX5_first 13 = .ok (.iload_n 1, 1) := by decide +kernel
theorem dX5_first_14 : decode cX5_first 14 = .ok (.iload_n 2, 1) := by decide +kernel
theorem dX5_first_15 : decode cX5_first 15 = .ok (.invokestatic 117, 3) := by decide +kernel
theorem dX5_first_18 : decode cX5_first 18 = .ok (.ifCond .eq 5, 3) := by decide +kernel
theorem dX5_first_21 : decode cX5_first 21 = .ok (.iload_n 2, 1) := by decide +kernel
theorem dX5_first_22 : decode cX5_first 22 = .ok (.ireturn, 1) := by decide +kernel
theorem dX5_first_23 : decode cX5_first 23 = .ok (.iinc 2 1, 3) := by decide +kernel
theorem dX5_first_26 : decode cX5_first 26 = .ok (.goto (-24), 3) := by decide +kernel
theorem dX5_first_29 : decode cX5_first 29 = .ok (.iconst (-1), 1) := by decide +kernel
theorem dX5_first_30 : decode cX5_first 30 = .ok (.ireturn, 1) := by decide +kernel
set_option maxRecDepth 20000 in
theorem ggX5_staleAt_X5_isStale : GoodIn wsX5_staleAt wsX5_isStale := goodIn_r _ [7, 8, 9, 10, 11, 12, 13, 14, 15, 16, 17, 18, 19, 20, 21, 22, 23, 24, 6, 25, 1, 26, 27, 28, 29, 30, 31, 32, 33, 34, 35, 36, 37, 38, 39, 40, 41, 42, 48, 49, 50, 43, 44, 45, 46, 47] (by decide +kernel) (by decide +kernel)
set_option maxRecDepth 20000 in
theorem gX5_staleAt_X5_isStale : GoodIn wsX5_staleAt (wsV RX5 101 RX5 yX5_isStale wsX5_isStale) := goodIn_app (goodIn_of _ (by decide +kernel)) ggX5_staleAt_X5_isStale
theorem dX5_staleAt_0 : decode cX5_staleAt 0 = .ok (.iconst 0, 1) := by decide +kernel
theorem dX5_staleAt_1 : decode cX5_staleAt 1 = .ok (.istore_n 2, 1) := by decide +kernel
theorem dX5_staleAt_2 : decode cX5_staleAt 2 = .ok (.iconst 0, 1) := by decide +kernel
theorem dX5_staleAt_3 : decode cX5_staleAt 3 = .ok (.istore_n 3, 1) := by decide +kernel
theorem dX5_staleAt_4 : decode cX5_staleAt 4 = .ok (.iload_n 3, 1) := by decide +kernel
theorem dX5_staleAt_5 : decode cX5_staleAt 5 = .ok (.aload_n 0, 1) := by decide +kernel
theorem dX5_staleAt_6 : decode cX5_staleAt 6 = .ok (.getfield 37, 3) := by decide +kernel
theorem dX5_staleAt_9 : decode cX5_staleAt 9 = .ok (.getfield 59, 3) := by decide +kernel
theorem dX5_staleAt_12 : decode cX5_staleAt 12 = .ok (.if_icmp .ge 26, 3) := by decide +kernel
theorem dX5_staleAt_15 : decode cX5_staleAt 15 = .ok (.iload_n 2, 1) := by decide +kernel
theorem dX5_staleAt_16 : decode cX5_staleAt 16 = .ok (.aload_n 0, 1) := by decide +kernel
theorem dX5_staleAt_17 : decode cX5_staleAt 17 = .ok (.iload_n 1, 1) := by decide +kernel
theorem dX5_staleAt_18 : decode cX5_staleAt 18 = .ok (.iload_n 3, 1) := by decide +kernel
theorem dX5_staleAt_19 : decode cX5_staleAt 19 = .ok (.invokevirtual 101, 3) := by decide +kernel
theorem dX5_staleAt_22 : decode cX5_staleAt 22 = .ok (.ifCond .eq 7, 3) := by decide +kernel
theorem dX5_staleAt_25 : decode cX5_staleAt 25 = .ok (.iconst 1, 1) := by decide +kernel
theorem dX5_staleAt_26 : decode cX5_staleAt 26 = .ok (.goto 4, 3) := by decide +kernel
theorem dX5_staleAt_29 : decode cX5_staleAt 29 = .ok (.iconst 0, 1) := by decide +kernel
theorem dX5_staleAt_30 : decode cX5_staleAt 30 = .ok (.iadd, 1) := by decide +kernel
theorem dX5_staleAt_31 : decode cX5_staleAt 31 = .ok (.istore_n 2, 1) := by decide +kernel
theorem dX5_staleAt_32 : decode cX5_staleAt 32 = .ok (.iinc 3 1, 3) := by decide +kernel
theorem dX5_staleAt_35 : decode cX5_staleAt 35 = .ok (.goto (-31), 3) := by decide +kernel
theorem dX5_staleAt_38 : decode cX5_staleAt 38 = .ok (.iload_n 2, 1) := by decide +kernel
theorem dX5_staleAt_39 : decode cX5_staleAt 39 = .ok (.ireturn, 1) := by decide +kernel
set_option maxRecDepth 20000 in
theorem ggX5_forgottenAt_X2_lies : GoodIn wsX5_forgottenAt wsX2_lies := goodIn_r _ [8, 9, 10, 11, 7, 12, 13, 14, 15, 16, 42, 43, 44] (by decide +kernel) (by decide +kernel)
set_option maxRecDepth 20000 in
theorem gX5_forgottenAt_X2_lies : GoodIn wsX5_forgottenAt (wsV RX5 91 RX2 yX2_lies wsX2_lies) := goodIn_app (goodIn_of _ (by decide +kernel)) ggX5_forgottenAt_X2_lies
set_option maxRecDepth 20000 in
theorem ggX5_forgottenAt_X1_isForgotten : GoodIn wsX5_forgottenAt wsX1_isForgotten := goodIn_r _ [21, 22, 23, 24, 25, 20, 26, 27, 37, 38, 39, 40, 41] (by decide +kernel) (by decide +kernel)
set_option maxRecDepth 20000 in
theorem gX5_forgottenAt_X1_isForgotten : GoodIn wsX5_forgottenAt (wsV RX5 124 RX1 yX1_isForgotten wsX1_isForgotten) := goodIn_app (goodIn_of _ (by decide +kernel)) ggX5_forgottenAt_X1_isForgotten
theorem dX5_forgottenAt_0 : decode cX5_forgottenAt 0 = .ok (.iconst 0, 1) := by decide +kernel
theorem dX5_forgottenAt_1 : decode cX5_forgottenAt 1 = .ok (.istore_n 2, 1) := by decide +kernel
theorem dX5_forgottenAt_2 : decode cX5_forgottenAt 2 = .ok (.iconst 0, 1) := by decide +kernel
theorem dX5_forgottenAt_3 : decode cX5_forgottenAt 3 = .ok (.istore_n 3, 1) := by decide +kernel
theorem dX5_forgottenAt_4 : decode cX5_forgottenAt 4 = .ok (.iload_n 3, 1) := by decide +kernel
theorem dX5_forgottenAt_5 : decode cX5_forgottenAt 5 = .ok (.aload_n 0, 1) := by decide +kernel
theorem dX5_forgottenAt_6 : decode cX5_forgottenAt 6 = .ok (.getfield 37, 3) := by decide +kernel
theorem dX5_forgottenAt_9 : decode cX5_forgottenAt 9 = .ok (.getfield 59, 3) := by decide +kernel
theorem dX5_forgottenAt_12 : decode cX5_forgottenAt 12 = .ok (.if_icmp .ge 40, 3) := by decide +kernel
theorem dX5_forgottenAt_15 : decode cX5_forgottenAt 15 = .ok (.iload_n 2, 1) := by decide +kernel
theorem dX5_forgottenAt_16 : decode cX5_forgottenAt 16 = .ok (.aload_n 0, 1) := by decide +kernel
theorem dX5_forgottenAt_17 : decode cX5_forgottenAt 17 = .ok (.getfield 44, 3) := by decide +kernel
theorem dX5_forgottenAt_20 : decode cX5_forgottenAt 20 = .ok (.iload_n 1, 1) := by decide +kernel
theorem dX5_forgottenAt_21 : decode cX5_forgottenAt 21 = .ok (.iload_n 3, 1) := by decide +kernel
theorem dX5_forgottenAt_22 : decode cX5_forgottenAt 22 = .ok (.invokevirtual 91, 3) := by decide +kernel
theorem dX5_forgottenAt_25 : decode cX5_forgottenAt 25 = .ok (.ifCond .eq 18, 3) := by decide +kernel
theorem dX5_forgottenAt_28 : decode cX5_forgottenAt 28 = .ok (.aload_n 0, 1) := by decide +kernel
theorem dX5_forgottenAt_29 : decode cX5_forgottenAt 29 = .ok (.getfield 37, 3) := by decide +kernel
theorem dX5_forgottenAt_32 : decode cX5_forgottenAt 32 = .ok (.iload_n 3, 1) := by decide +kernel
theorem dX5_forgottenAt_33 : decode cX5_forgottenAt 33 = .ok (.invokevirtual 124, 3) := by decide +kernel
theorem dX5_forgottenAt_36 : decode cX5_forgottenAt 36 = .ok (.ifCond .eq 7, 3) := by decide +kernel
theorem dX5_forgottenAt_39 : decode cX5_forgottenAt 39 = .ok (.iconst 1, 1) := by decide +kernel
theorem dX5_forgottenAt_40 : decode cX5_forgottenAt 40 = .ok (.goto 4, 3) := by decide +kernel
theorem dX5_forgottenAt_43 : decode cX5_forgottenAt 43 = .ok (.iconst 0, 1) := by decide +kernel
theorem dX5_forgottenAt_44 : decode cX5_forgottenAt 44 = .ok (.iadd, 1) := by decide +kernel
theorem dX5_forgottenAt_45 : decode cX5_forgottenAt 45 = .ok (.istore_n 2, 1) := by decide +kernel
theorem dX5_forgottenAt_46 : decode cX5_forgottenAt 46 = .ok (.iinc 3 1, 3) := by decide +kernel
theorem dX5_forgottenAt_49 : decode cX5_forgottenAt 49 = .ok (.goto (-45), 3) := by decide +kernel
theorem dX5_forgottenAt_52 : decode cX5_forgottenAt 52 = .ok (.iload_n 2, 1) := by decide +kernel
theorem dX5_forgottenAt_53 : decode cX5_forgottenAt 53 = .ok (.ireturn, 1) := by decide +kernel
set_option maxRecDepth 20000 in
theorem ggX5_allCopies_X2_manyAt : GoodIn wsX5_allCopies wsX2_manyAt := goodIn_r _ [8, 9, 23, 24, 25] (by decide +kernel) (by decide +kernel)
set_option maxRecDepth 20000 in
theorem gX5_allCopies_X2_manyAt : GoodIn wsX5_allCopies (wsV RX5 111 RX2 yX2_manyAt wsX2_manyAt) := goodIn_app (goodIn_of _ (by decide +kernel)) ggX5_allCopies_X2_manyAt
theorem dX5_allCopies_0 : decode cX5_allCopies 0 = .ok (.iconst 0, 1) := by decide +kernel
theorem dX5_allCopies_1 : decode cX5_allCopies 1 = .ok (.istore_n 1, 1) := by decide +kernel
theorem dX5_allCopies_2 : decode cX5_allCopies 2 = .ok (.iconst 0, 1) := by decide +kernel
theorem dX5_allCopies_3 : decode cX5_allCopies 3 = .ok (.istore_n 2, 1) := by decide +kernel
theorem dX5_allCopies_4 : decode cX5_allCopies 4 = .ok (.iload_n 2, 1) := by decide +kernel
theorem dX5_allCopies_5 : decode cX5_allCopies 5 = .ok (.aload_n 0, 1) := by decide +kernel
theorem dX5_allCopies_6 : decode cX5_allCopies 6 = .ok (.getfield 30, 3) := by decide +kernel
theorem dX5_allCopies_9 : decode cX5_allCopies 9 = .ok (.getfield 98, 3) := by decide +kernel
theorem dX5_allCopies_12 : decode cX5_allCopies 12 = .ok (.if_icmp .ge 20, 3) := by decide +kernel
theorem dX5_allCopies_15 : decode cX5_allCopies 15 = .ok (.iload_n 1, 1) := by decide +kernel
theorem dX5_allCopies_16 : decode cX5_allCopies 16 = .ok (.aload_n 0, 1) := by decide +kernel
theorem dX5_allCopies_17 : decode cX5_allCopies 17 = .ok (.getfield 44, 3) := by decide +kernel
theorem dX5_allCopies_20 : decode cX5_allCopies 20 = .ok (.iload_n 2, 1) := by decide +kernel
theorem dX5_allCopies_21 : decode cX5_allCopies 21 = .ok (.invokevirtual 111, 3) := by decide +kernel
theorem dX5_allCopies_24 : decode cX5_allCopies 24 = .ok (.iadd, 1) := by decide +kernel
theorem dX5_allCopies_25 : decode cX5_allCopies 25 = .ok (.istore_n 1, 1) := by decide +kernel
theorem dX5_allCopies_26 : decode cX5_allCopies 26 = .ok (.iinc 2 1, 3) := by decide +kernel
theorem dX5_allCopies_29 : decode cX5_allCopies 29 = .ok (.goto (-25), 3) := by decide +kernel
theorem dX5_allCopies_32 : decode cX5_allCopies 32 = .ok (.iload_n 1, 1) := by decide +kernel
theorem dX5_allCopies_33 : decode cX5_allCopies 33 = .ok (.ireturn, 1) := by decide +kernel
set_option maxRecDepth 20000 in
theorem ggX5_allStale_X5_staleAt : GoodIn wsX5_allStale wsX5_staleAt := goodIn_r _ [7, 8, 9, 10, 11, 12, 6, 13, 14, 15, 16, 17, 18, 19, 20, 21, 22, 23, 24, 25, 26, 27, 28, 29, 30, 31, 32, 33, 34, 35, 36, 37, 38, 39, 40, 41, 42, 43, 44, 45, 46, 47, 48, 53, 54, 55, 56, 57, 58, 59, 60] (by decide +kernel) (by decide +kernel)
set_option maxRecDepth 20000 in
theorem gX5_allStale_X5_staleAt : GoodIn wsX5_allStale (wsV RX5 127 RX5 yX5_staleAt wsX5_staleAt) := goodIn_app (goodIn_of _ (by decide +kernel)) ggX5_allStale_X5_staleAt
theorem dX5_allStale_0 : decode cX5_allStale 0 = .ok (.iconst 0, 1) := by decide +kernel
theorem dX5_allStale_1 : decode cX5_allStale 1 = .ok (.istore_n 1, 1) := by decide +kernel
theorem dX5_allStale_2 : decode cX5_allStale 2 = .ok (.iconst 0, 1) := by decide +kernel
theorem dX5_allStale_3 : decode cX5_allStale 3 = .ok (.istore_n 2, 1) := by decide +kernel
theorem dX5_allStale_4 : decode cX5_allStale 4 = .ok (.iload_n 2, 1) := by decide +kernel
theorem dX5_allStale_5 : decode cX5_allStale 5 = .ok (.aload_n 0, 1) := by decide +kernel
theorem dX5_allStale_6 : decode cX5_allStale 6 = .ok (.getfield 30, 3) := by decide +kernel
theorem dX5_allStale_9 : decode cX5_allStale 9 = .ok (.getfield 98, 3) := by decide +kernel
theorem dX5_allStale_12 : decode cX5_allStale 12 = .ok (.if_icmp .ge 17, 3) := by decide +kernel
theorem dX5_allStale_15 : decode cX5_allStale 15 = .ok (.iload_n 1, 1) := by decide +kernel
theorem dX5_allStale_16 : decode cX5_allStale 16 = .ok (.aload_n 0, 1) := by decide +kernel
theorem dX5_allStale_17 : decode cX5_allStale 17 = .ok (.iload_n 2, 1) := by decide +kernel
theorem dX5_allStale_18 : decode cX5_allStale 18 = .ok (.invokevirtual 127, 3) := by decide +kernel
theorem dX5_allStale_21 : decode cX5_allStale 21 = .ok (.iadd, 1) := by decide +kernel
theorem dX5_allStale_22 : decode cX5_allStale 22 = .ok (.istore_n 1, 1) := by decide +kernel
theorem dX5_allStale_23 : decode cX5_allStale 23 = .ok (.iinc 2 1, 3) := by decide +kernel
theorem dX5_allStale_26 : decode cX5_allStale 26 = .ok (.goto (-22), 3) := by decide +kernel
theorem dX5_allStale_29 : decode cX5_allStale 29 = .ok (.iload_n 1, 1) := by decide +kernel
theorem dX5_allStale_30 : decode cX5_allStale 30 = .ok (.ireturn, 1) := by decide +kernel
set_option maxRecDepth 20000 in
theorem ggX5_goodCells_X5_good : GoodIn wsX5_goodCells wsX5_good := goodIn_r _ [10, 1, 11, 3, 4, 5, 12, 13, 14, 15, 16, 17, 18, 19, 20, 21, 22, 23, 24, 25, 26, 49, 50, 51, 52, 53, 54, 55, 56, 57, 58, 59, 60, 61, 62, 63, 64, 65, 66, 67, 68, 69] (by decide +kernel) (by decide +kernel)
set_option maxRecDepth 20000 in
theorem gX5_goodCells_X5_good : GoodIn wsX5_goodCells (wsV RX5 104 RX5 yX5_good wsX5_good) := goodIn_app (goodIn_of _ (by decide +kernel)) ggX5_goodCells_X5_good
set_option maxRecDepth 20000 in
theorem ggX5_goodCells_X10_isIn : GoodIn wsX5_goodCells wsX10_isIn := goodIn_r _ [29] (by decide +kernel) (by decide +kernel)
set_option maxRecDepth 20000 in
theorem gX5_goodCells_X10_isIn_n117 : GoodIn wsX5_goodCells (wsX10_isIn) := ggX5_goodCells_X10_isIn
set_option maxRecDepth 20000 in
theorem ggX5_goodCells_X2_lettersIn : GoodIn wsX5_goodCells wsX2_lettersIn := goodIn_r _ [33, 34, 35, 36, 21, 37, 38, 39, 24, 25, 26, 40, 28, 41, 42, 43, 44, 67, 68, 69] (by decide +kernel) (by decide +kernel)
set_option maxRecDepth 20000 in
theorem gX5_goodCells_X2_lettersIn : GoodIn wsX5_goodCells (wsV RX5 130 RX2 yX2_lettersIn wsX2_lettersIn) := goodIn_app (goodIn_of _ (by decide +kernel)) ggX5_goodCells_X2_lettersIn
set_option maxRecDepth 20000 in
theorem ggX5_goodCells_X2_padsIn : GoodIn wsX5_goodCells wsX2_padsIn := goodIn_r _ [48, 34, 35, 36, 21, 37, 38, 39, 24, 25, 26, 67, 68, 69] (by decide +kernel) (by decide +kernel)
set_option maxRecDepth 20000 in
theorem gX5_goodCells_X2_padsIn : GoodIn wsX5_goodCells (wsV RX5 133 RX2 yX2_padsIn wsX2_padsIn) := goodIn_app (goodIn_of _ (by decide +kernel)) ggX5_goodCells_X2_padsIn
theorem dX5_goodCells_0 : decode cX5_goodCells 0 = .ok (.iconst 0, 1) := by decide +kernel
theorem dX5_goodCells_1 : decode cX5_goodCells 1 = .ok (.istore_n 2, 1) := by decide +kernel
theorem dX5_goodCells_2 : decode cX5_goodCells 2 = .ok (.iconst 0, 1) := by decide +kernel
theorem dX5_goodCells_3 : decode cX5_goodCells 3 = .ok (.istore_n 3, 1) := by decide +kernel
theorem dX5_goodCells_4 : decode cX5_goodCells 4 = .ok (.iload_n 3, 1) := by decide +kernel
theorem dX5_goodCells_5 : decode cX5_goodCells 5 = .ok (.aload_n 0, 1) := by decide +kernel
theorem dX5_goodCells_6 : decode cX5_goodCells 6 = .ok (.getfield 37, 3) := by decide +kernel
theorem dX5_goodCells_9 : decode cX5_goodCells 9 = .ok (.getfield 59, 3) := by decide +kernel
theorem dX5_goodCells_12 : decode cX5_goodCells 12 = .ok (.if_icmp .ge 77, 3) := by decide +kernel
theorem dX5_goodCells_15 : decode cX5_goodCells 15 = .ok (.aload_n 0, 1) := by decide +kernel
theorem dX5_goodCells_16 : decode cX5_goodCells 16 = .ok (.iload_n 3, 1) := by decide +kernel
theorem dX5_goodCells_17 : decode cX5_goodCells 17 = .ok (.invokevirtual 104, 3) := by decide +kernel
theorem dX5_goodCells_20 : decode cX5_goodCells 20 = .ok (.istore 4, 2) := by decide +kernel
theorem dX5_goodCells_22 : decode cX5_goodCells 22 = .ok (.iconst 0, 1) := by decide +kernel
theorem dX5_goodCells_23 : decode cX5_goodCells 23 = .ok (.istore 5, 2) := by decide +kernel
theorem dX5_goodCells_25 : decode cX5_goodCells 25 = .ok (.iload 5, 2) := by decide +kernel
theorem dX5_goodCells_27 : decode cX5_goodCells 27 = .ok (.aload_n 0, 1) := by decide +kernel
theorem dX5_goodCells_28 : decode cX5_goodCells 28 = .ok (.getfield 30, 3) := by decide +kernel
theorem dX5_goodCells_31 : decode cX5_goodCells 31 = .ok (.getfield 98, 3) := by decide +kernel
theorem dX5_goodCells_34 : decode cX5_goodCells 34 = .ok (.if_icmp .ge 49, 3) := by decide +kernel
theorem dX5_goodCells_37 : decode cX5_goodCells 37 = .ok (.iload 4, 2) := by decide +kernel
theorem dX5_goodCells_39 : decode cX5_goodCells 39 = .ok (.iload 5, 2) := by decide +kernel
theorem dX5_goodCells_41 : decode cX5_goodCells 41 = .ok (.invokestatic 117, 3) := by decide +kernel
theorem dX5_goodCells_44 : decode cX5_goodCells 44 = .ok (.ifCond .eq 33, 3) := by decide +kernel
theorem dX5_goodCells_47 : decode cX5_goodCells 47 = .ok (.iload_n 2, 1) := by decide +kernel
theorem dX5_goodCells_48 : decode cX5_goodCells 48 = .ok (.iload_n 1, 1) := by decide +kernel
theorem dX5_goodCells_49 : decode cX5_goodCells 49 = .ok (.ifCond .eq 16, 3) := by decide +kernel
theorem dX5_goodCells_52 : decode cX5_goodCells 52 = .ok (.aload_n 0, 1) := by decide +kernel
theorem dX5_goodCells_53 : decode cX5_goodCells 53 = .ok (.getfield 44, 3) := by decide +kernel
theorem dX5_goodCells_56 : decode cX5_goodCells 56 = .ok (.iload 5, 2) := by decide +kernel
theorem dX5_goodCells_58 : decode cX5_goodCells 58 = .ok (.iload_n 3, 1) := by decide +kernel
theorem dX5_goodCells_59 : decode cX5_goodCells 59 = .ok (.invokevirtual 130, 3) := by decide +kernel
theorem dX5_goodCells_62 : decode cX5_goodCells 62 = .ok (.goto 13, 3) := by decide +kernel
theorem dX5_goodCells_65 : decode cX5_goodCells 65 = .ok (.aload_n 0, 1) := by decide +kernel
theorem dX5_goodCells_66 : decode cX5_goodCells 66 = .ok (.getfield 44, 3) := by decide +kernel
theorem dX5_goodCells_69 : decode cX5_goodCells 69 = .ok (.iload 5, 2) := by decide +kernel
theorem dX5_goodCells_71 : decode cX5_goodCells 71 = .ok (.iload_n 3, 1) := by decide +kernel
theorem dX5_goodCells_72 : decode cX5_goodCells 72 = .ok (.invokevirtual 133, 3) := by decide +kernel
theorem dX5_goodCells_75 : decode cX5_goodCells 75 = .ok (.iadd, 1) := by decide +kernel
theorem dX5_goodCells_76 : decode cX5_goodCells 76 = .ok (.istore_n 2, 1) := by decide +kernel
theorem dX5_goodCells_77 : decode cX5_goodCells 77 = .ok (.iinc 5 1, 3) := by decide +kernel
theorem dX5_goodCells_80 : decode cX5_goodCells 80 = .ok (.goto (-55), 3) := by decide +kernel
theorem dX5_goodCells_83 : decode cX5_goodCells 83 = .ok (.iinc 3 1, 3) := by decide +kernel
theorem dX5_goodCells_86 : decode cX5_goodCells 86 = .ok (.goto (-82), 3) := by decide +kernel
theorem dX5_goodCells_89 : decode cX5_goodCells 89 = .ok (.iload_n 2, 1) := by decide +kernel
theorem dX5_goodCells_90 : decode cX5_goodCells 90 = .ok (.ireturn, 1) := by decide +kernel
set_option maxRecDepth 20000 in
theorem ggX5_greatestFilled_X5_able : GoodIn wsX5_greatestFilled wsX5_able := goodIn_r _ [12, 1, 13, 14, 15, 16, 11, 17, 18, 19, 2, 3, 20, 21, 22, 23, 24, 25, 26, 27, 28, 29, 30, 31, 32, 33, 34, 43, 44, 45, 46, 47, 48, 49, 50, 51, 52, 53, 54, 55, 56, 57, 58, 59, 60, 61, 62, 63] (by decide +kernel) (by decide +kernel)
set_option maxRecDepth 20000 in
theorem gX5_greatestFilled_X5_able : GoodIn wsX5_greatestFilled (wsV RX5 136 RX5 yX5_able wsX5_able) := goodIn_app (goodIn_of _ (by decide +kernel)) ggX5_greatestFilled_X5_able
set_option maxRecDepth 20000 in
theorem ggX5_greatestFilled_X10_isIn : GoodIn wsX5_greatestFilled wsX10_isIn := goodIn_r _ [37] (by decide +kernel) (by decide +kernel)
set_option maxRecDepth 20000 in
theorem gX5_greatestFilled_X10_isIn_n117 : GoodIn wsX5_greatestFilled (wsX10_isIn) := ggX5_greatestFilled_X10_isIn
set_option maxRecDepth 20000 in
theorem ggX5_greatestFilled_X2_filledOf : GoodIn wsX5_greatestFilled wsX2_filledOf := goodIn_r _ [41, 42, 32, 33, 29, 34, 61, 62, 63] (by decide +kernel) (by decide +kernel)
set_option maxRecDepth 20000 in
theorem gX5_greatestFilled_X2_filledOf : GoodIn wsX5_greatestFilled (wsV RX5 139 RX2 yX2_filledOf wsX2_filledOf) := goodIn_app (goodIn_of _ (by decide +kernel)) ggX5_greatestFilled_X2_filledOf
theorem dX5_greatestFilled_0 : decode cX5_greatestFilled 0 = .ok (.aload_n 0, 1) := by decide +kernel
theorem dX5_greatestFilled_1 : decode cX5_greatestFilled 1 = .ok (.iload_n 1, 1) := by decide +kernel
theorem dX5_greatestFilled_2 : decode cX5_greatestFilled 2 = .ok (.invokevirtual 136, 3) := by decide +kernel
theorem dX5_greatestFilled_5 : decode cX5_greatestFilled 5 = .ok (.istore_n 2, 1) := by decide +kernel
theorem dX5_greatestFilled_6 : decode cX5_greatestFilled 6 = .ok (.iconst 0, 1) := by decide +kernel
theorem dX5_greatestFilled_7 : decode cX5_greatestFilled 7 = .ok (.istore_n 3, 1) := by decide +kernel
theorem dX5_greatestFilled_8 : decode cX5_greatestFilled 8 = .ok (.iconst 0, 1) := by decide +kernel
theorem dX5_greatestFilled_9 : decode cX5_greatestFilled 9 = .ok (.istore 4, 2) := by decide +kernel
theorem dX5_greatestFilled_11 : decode cX5_greatestFilled 11 = .ok (.iload 4, 2) := by decide +kernel
theorem dX5_greatestFilled_13 : decode cX5_greatestFilled 13 = .ok (.aload_n 0, 1) := by decide +kernel
theorem dX5_greatestFilled_14 : decode cX5_greatestFilled 14 = .ok (.getfield 30, 3) := by decide +kernel
theorem dX5_greatestFilled_17 : decode cX5_greatestFilled 17 = .ok (.getfield 98, 3) := by decide +kernel
theorem dX5_greatestFilled_20 : decode cX5_greatestFilled 20 = .ok (.if_icmp .ge 33, 3) := by decide +kernel
theorem dX5_greatestFilled_23 : decode cX5_greatestFilled 23 = .ok (.iload_n 2, 1) := by decide +kernel
theorem dX5_greatestFilled_24 : decode cX5_greatestFilled 24 = .ok (.iload 4, 2) := by decide +kernel
theorem dX5_greatestFilled_26 : decode cX5_greatestFilled 26 = .ok (.invokestatic 117, 3) := by decide +kernel
theorem dX5_greatestFilled_29 : decode cX5_greatestFilled 29 = .ok (.ifCond .eq 18, 3) := by decide +kernel
theorem dX5_greatestFilled_32 : decode cX5_greatestFilled 32 = .ok (.iload_n 3, 1) := by decide +kernel
theorem dX5_greatestFilled_33 : decode cX5_greatestFilled 33 = .ok (.aload_n 0, 1) := by decide +kernel
theorem dX5_greatestFilled_34 : decode cX5_greatestFilled 34 = .ok (.getfield 44, 3) := by decide +kernel
theorem dX5_greatestFilled_37 : decode cX5_greatestFilled 37 = .ok (.iload 4, 2) := by decide +kernel
theorem dX5_greatestFilled_39 : decode cX5_greatestFilled 39 = .ok (.iload_n 1, 1) := by decide +kernel
theorem dX5_greatestFilled_40 : decode cX5_greatestFilled 40 = .ok (.invokevirtual 139, 3) := by decide +kernel
theorem dX5_greatestFilled_43 : decode cX5_greatestFilled 43 = .ok (.invokestatic 142, 3) := by decide +kernel
theorem dX5_greatestFilled_46 : decode cX5_greatestFilled 46 = .ok (.istore_n 3, 1) := by decide +kernel
theorem dX5_greatestFilled_47 : decode cX5_greatestFilled 47 = .ok (.iinc 4 1, 3) := by decide +kernel
theorem dX5_greatestFilled_50 : decode cX5_greatestFilled 50 = .ok (.goto (-39), 3) := by decide +kernel
theorem dX5_greatestFilled_53 : decode cX5_greatestFilled 53 = .ok (.iload_n 3, 1) := by decide +kernel
theorem dX5_greatestFilled_54 : decode cX5_greatestFilled 54 = .ok (.ireturn, 1) := by decide +kernel
set_option maxRecDepth 20000 in
theorem ggX5_copiesWanted_X6_isOne : GoodIn wsX5_copiesWanted wsX6_isOne := goodIn_r _ [5, 6, 7, 8, 4, 9] (by decide +kernel) (by decide +kernel)
set_option maxRecDepth 20000 in
theorem gX5_copiesWanted_X6_isOne : GoodIn wsX5_copiesWanted (va_wsS RX5 149 yX6_isOne wsX6_isOne) := goodIn_app (goodIn_of _ (by decide +kernel)) ggX5_copiesWanted_X6_isOne
theorem dX5_copiesWanted_0 : decode cX5_copiesWanted 0 = .ok (.iload_n 1, 1) := by decide +kernel
theorem dX5_copiesWanted_1 : decode cX5_copiesWanted 1 = .ok (.iconst 5, 1) := by decide +kernel
theorem dX5_copiesWanted_2 : decode cX5_copiesWanted 2 = .ok (.invokestatic 149, 3) := by decide +kernel
theorem dX5_copiesWanted_5 : decode cX5_copiesWanted 5 = .ok (.ifCond .eq 5, 3) := by decide +kernel
theorem dX5_copiesWanted_8 : decode cX5_copiesWanted 8 = .ok (.iconst 1, 1) := by decide +kernel
theorem dX5_copiesWanted_9 : decode cX5_copiesWanted 9 = .ok (.ireturn, 1) := by decide +kernel
theorem dX5_copiesWanted_10 : decode cX5_copiesWanted 10 = .ok (.iload_n 1, 1) := by decide +kernel
theorem dX5_copiesWanted_11 : decode cX5_copiesWanted 11 = .ok (.iconst 3, 1) := by decide +kernel
theorem dX5_copiesWanted_12 : decode cX5_copiesWanted 12 = .ok (.invokestatic 149, 3) := by decide +kernel
theorem dX5_copiesWanted_15 : decode cX5_copiesWanted 15 = .ok (.ifCond .eq 12, 3) := by decide +kernel
theorem dX5_copiesWanted_18 : decode cX5_copiesWanted 18 = .ok (.aload_n 0, 1) := by decide +kernel
theorem dX5_copiesWanted_19 : decode cX5_copiesWanted 19 = .ok (.getfield 9, 3) := by decide +kernel
theorem dX5_copiesWanted_22 : decode cX5_copiesWanted 22 = .ok (.iconst 1, 1) := by decide +kernel
theorem dX5_copiesWanted_23 : decode cX5_copiesWanted 23 = .ok (.iadd, 1) := by decide +kernel
theorem dX5_copiesWanted_24 : decode cX5_copiesWanted 24 = .ok (.goto 7, 3) := by decide +kernel
theorem dX5_copiesWanted_27 : decode cX5_copiesWanted 27 = .ok (.aload_n 0, 1) := by decide +kernel
theorem dX5_copiesWanted_28 : decode cX5_copiesWanted 28 = .ok (.getfield 9, 3) := by decide +kernel
theorem dX5_copiesWanted_31 : decode cX5_copiesWanted 31 = .ok (.ireturn, 1) := by decide +kernel
set_option maxRecDepth 20000 in
theorem ggX5_graceOf_X10_isFile : GoodIn wsX5_graceOf wsX10_isFile := goodIn_r _ [6, 7, 8, 5, 9] (by decide +kernel) (by decide +kernel)
set_option maxRecDepth 20000 in
theorem gX5_graceOf_X10_isFile_n152 : GoodIn wsX5_graceOf (wsX10_isFile) := ggX5_graceOf_X10_isFile
set_option maxRecDepth 20000 in
theorem ggX5_graceOf_X6_isOne : GoodIn wsX5_graceOf wsX6_isOne := goodIn_r _ [13, 14, 15, 16, 12, 17] (by decide +kernel) (by decide +kernel)
set_option maxRecDepth 20000 in
theorem gX5_graceOf_X6_isOne : GoodIn wsX5_graceOf (va_wsS RX5 149 yX6_isOne wsX6_isOne) := goodIn_app (goodIn_of _ (by decide +kernel)) ggX5_graceOf_X6_isOne
theorem dX5_graceOf_0 : decode cX5_graceOf 0 = .ok (.iload_n 1, 1) := by decide +kernel
theorem dX5_graceOf_1 : decode cX5_graceOf 1 = .ok (.invokestatic 152, 3) := by decide +kernel
theorem dX5_graceOf_4 : decode cX5_graceOf 4 = .ok (.ifCond .eq 23, 3) := by decide +kernel
theorem dX5_graceOf_7 : decode cX5_graceOf 7 = .ok (.aload_n 0, 1) := by decide +kernel
theorem dX5_graceOf_8 : decode cX5_graceOf 8 = .ok (.getfield 51, 3) := by decide +kernel
theorem dX5_graceOf_11 : decode cX5_graceOf 11 = .ok (.getfield 155, 3) := by decide +kernel
theorem dX5_graceOf_14 : decode cX5_graceOf 14 = .ok (.iload_n 1, 1) := by decide +kernel
theorem dX5_graceOf_15 : decode cX5_graceOf 15 = .ok (.iaload, 1) := by decide +kernel
theorem dX5_graceOf_16 : decode cX5_graceOf 16 = .ok (.iconst 4, 1) := by decide +kernel
theorem dX5_graceOf_17 : decode cX5_graceOf 17 = .ok (.invokestatic 149, 3) := by decide +kernel
theorem dX5_graceOf_20 : decode cX5_graceOf 20 = .ok (.ifCond .eq 7, 3) := by decide +kernel
theorem dX5_graceOf_23 : decode cX5_graceOf 23 = .ok (.iconst 0, 1) := by decide +kernel
theorem dX5_graceOf_24 : decode cX5_graceOf 24 = .ok (.goto 7, 3) := by decide +kernel
theorem dX5_graceOf_27 : decode cX5_graceOf 27 = .ok (.aload_n 0, 1) := by decide +kernel
theorem dX5_graceOf_28 : decode cX5_graceOf 28 = .ok (.getfield 21, 3) := by decide +kernel
theorem dX5_graceOf_31 : decode cX5_graceOf 31 = .ok (.ireturn, 1) := by decide +kernel
set_option maxRecDepth 20000 in
theorem ggX5_hasCell_X10_isFile : GoodIn wsX5_hasCell wsX10_isFile := goodIn_r _ [6, 7, 8, 5, 9] (by decide +kernel) (by decide +kernel)
set_option maxRecDepth 20000 in
theorem gX5_hasCell_X10_isFile_n152 : GoodIn wsX5_hasCell (wsX10_isFile) := ggX5_hasCell_X10_isFile
theorem dX5_hasCell_0 : decode cX5_hasCell 0 = .ok (.iload_n 1, 1) := by decide +kernel
theorem dX5_hasCell_1 : decode cX5_hasCell 1 = .ok (.invokestatic 152, 3) := by decide +kernel
theorem dX5_hasCell_4 : decode cX5_hasCell 4 = .ok (.ifCond .eq 29, 3) := by decide +kernel
theorem dX5_hasCell_7 : decode cX5_hasCell 7 = .ok (.iload_n 2, 1) := by decide +kernel
theorem dX5_hasCell_8 : decode cX5_hasCell 8 = .ok (.ifCond .lt 25, 3) := by decide +kernel
theorem dX5_hasCell_11 : decode cX5_hasCell 11 = .ok (.iload_n 2, 1) := by decide +kernel
theorem dX5_hasCell_12 : decode cX5_hasCell 12 = .ok (.aload_n 0, 1) := by decide +kernel
theorem dX5_hasCell_13 : decode cX5_hasCell 13 = .ok (.getfield 15, 3) := by decide +kernel
theorem dX5_hasCell_16 : decode cX5_hasCell 16 = .ok (.aload_n 0, 1) := by decide +kernel
theorem dX5_hasCell_17 : decode cX5_hasCell 17 = .ok (.getfield 51, 3) := by decide +kernel
theorem dX5_hasCell_20 : decode cX5_hasCell 20 = .ok (.getfield 158, 3) := by decide +kernel
theorem dX5_hasCell_23 : decode cX5_hasCell 23 = .ok (.iload_n 1, 1) := by decide +kernel
theorem dX5_hasCell_24 : decode cX5_hasCell 24 = .ok (.iaload, 1) := by decide +kernel
theorem dX5_hasCell_25 : decode cX5_hasCell 25 = .ok (.imul, 1) := by decide +kernel
theorem dX5_hasCell_26 : decode cX5_hasCell 26 = .ok (.if_icmp .ge 7, 3) := by decide +kernel
theorem dX5_hasCell_29 : decode cX5_hasCell 29 = .ok (.iconst 1, 1) := by decide +kernel
theorem dX5_hasCell_30 : decode cX5_hasCell 30 = .ok (.goto 4, 3) := by decide +kernel
theorem dX5_hasCell_33 : decode cX5_hasCell 33 = .ok (.iconst 0, 1) := by decide +kernel
theorem dX5_hasCell_34 : decode cX5_hasCell 34 = .ok (.ireturn, 1) := by decide +kernel
theorem dX5_rowOf_0 : decode cX5_rowOf 0 = .ok (.aload_n 0, 1) := by decide +kernel
theorem dX5_rowOf_1 : decode cX5_rowOf 1 = .ok (.getfield 15, 3) := by decide +kernel
theorem dX5_rowOf_4 : decode cX5_rowOf 4 = .ok (.iconst 1, 1) := by decide +kernel
theorem dX5_rowOf_5 : decode cX5_rowOf 5 = .ok (.if_icmp .ge 7, 3) := by decide +kernel
theorem dX5_rowOf_8 : decode cX5_rowOf 8 = .ok (.iconst 0, 1) := by decide +kernel
theorem dX5_rowOf_9 : decode cX5_rowOf 9 = .ok (.goto 9, 3) := by decide +kernel
theorem dX5_rowOf_12 : decode cX5_rowOf 12 = .ok (.iload_n 1, 1) := by decide +kernel
theorem dX5_rowOf_13 : decode cX5_rowOf 13 = .ok (.aload_n 0, 1) := by decide +kernel
theorem dX5_rowOf_14 : decode cX5_rowOf 14 = .ok (.getfield 15, 3) := by decide +kernel
theorem dX5_rowOf_17 : decode cX5_rowOf 17 = .ok (.idiv, 1) := by decide +kernel
theorem dX5_rowOf_18 : decode cX5_rowOf 18 = .ok (.ireturn, 1) := by decide +kernel
theorem dX5_cellOf_0 : decode cX5_cellOf 0 = .ok (.aload_n 0, 1) := by decide +kernel
theorem dX5_cellOf_1 : decode cX5_cellOf 1 = .ok (.getfield 15, 3) := by decide +kernel
theorem dX5_cellOf_4 : decode cX5_cellOf 4 = .ok (.iconst 1, 1) := by decide +kernel
theorem dX5_cellOf_5 : decode cX5_cellOf 5 = .ok (.if_icmp .ge 7, 3) := by decide +kernel
theorem dX5_cellOf_8 : decode cX5_cellOf 8 = .ok (.iconst 0, 1) := by decide +kernel
theorem dX5_cellOf_9 : decode cX5_cellOf 9 = .ok (.goto 9, 3) := by decide +kernel
theorem dX5_cellOf_12 : decode cX5_cellOf 12 = .ok (.iload_n 1, 1) := by decide +kernel
theorem dX5_cellOf_13 : decode cX5_cellOf 13 = .ok (.aload_n 0, 1) := by decide +kernel
theorem dX5_cellOf_14 : decode cX5_cellOf 14 = .ok (.getfield 15, 3) := by decide +kernel
theorem dX5_cellOf_17 : decode cX5_cellOf 17 = .ok (.irem, 1) := by decide +kernel
theorem dX5_cellOf_18 : decode cX5_cellOf 18 = .ok (.ireturn, 1) := by decide +kernel
set_option maxRecDepth 20000 in
theorem ggX5_readCell_X8_hasUp : GoodIn wsX5_readCell wsX8_hasUp := goodIn_r _ [11, 12, 13, 14, 15, 10, 16, 17, 18, 19, 20, 84, 85, 86, 87] (by decide +kernel) (by decide +kernel)
set_option maxRecDepth 20000 in
theorem gX5_readCell_X8_hasUp : GoodIn wsX5_readCell (wsV RX5 160 RX8 yX8_hasUp wsX8_hasUp) := goodIn_app (goodIn_of _ (by decide +kernel)) ggX5_readCell_X8_hasUp
set_option maxRecDepth 20000 in
theorem ggX5_readCell_X5_rowOf : GoodIn wsX5_readCell wsX5_rowOf := goodIn_r _ [25, 26, 75, 76, 77, 78, 79, 80, 81, 82, 83] (by decide +kernel) (by decide +kernel)
set_option maxRecDepth 20000 in
theorem gX5_readCell_X5_rowOf : GoodIn wsX5_readCell (wsV RX5 164 RX5 yX5_rowOf wsX5_rowOf) := goodIn_app (goodIn_of _ (by decide +kernel)) ggX5_readCell_X5_rowOf
set_option maxRecDepth 20000 in
theorem ggX5_readCell_X3_chunkOf : GoodIn wsX5_readCell wsX3_chunkOf := goodIn_r _ [31, 32, 33, 34, 19, 35, 36, 37, 38, 88, 89, 90, 91, 92] (by decide +kernel) (by decide +kernel)
set_option maxRecDepth 20000 in
theorem gX5_readCell_X3_chunkOf : GoodIn wsX5_readCell (wsV RX5 167 RX3 yX3_chunkOf wsX3_chunkOf) := goodIn_app (goodIn_of _ (by decide +kernel)) ggX5_readCell_X3_chunkOf
set_option maxRecDepth 20000 in
theorem ggX5_readCell_X2_lies : GoodIn wsX5_readCell wsX2_lies := goodIn_r _ [43, 44, 45, 46, 42, 47, 48, 49, 50, 51, 93, 94, 95] (by decide +kernel) (by decide +kernel)
set_option maxRecDepth 20000 in
theorem gX5_readCell_X2_lies : GoodIn wsX5_readCell (wsV RX5 91 RX2 yX2_lies wsX2_lies) := goodIn_app (goodIn_of _ (by decide +kernel)) ggX5_readCell_X2_lies
set_option maxRecDepth 20000 in
theorem ggX5_readCell_X5_isGood : GoodIn wsX5_readCell wsX5_isGood := goodIn_r _ [55, 56, 4, 57, 58, 59, 60, 61, 62, 63, 64, 45, 46, 42, 47, 48, 49, 50, 51, 75, 76, 77, 78, 79, 80, 81, 82, 83, 96, 97, 98, 99, 100, 93, 94, 95] (by decide +kernel) (by decide +kernel)
set_option maxRecDepth 20000 in
theorem gX5_readCell_X5_isGood : GoodIn wsX5_readCell (wsV RX5 95 RX5 yX5_isGood wsX5_isGood) := goodIn_app (goodIn_of _ (by decide +kernel)) ggX5_readCell_X5_isGood
set_option maxRecDepth 20000 in
theorem ggX5_readCell_X5_cellOf : GoodIn wsX5_readCell wsX5_cellOf := goodIn_r _ [68, 26, 75, 76, 77, 78, 79, 80, 81, 82, 83] (by decide +kernel) (by decide +kernel)
set_option maxRecDepth 20000 in
theorem gX5_readCell_X5_cellOf : GoodIn wsX5_readCell (wsV RX5 171 RX5 yX5_cellOf wsX5_cellOf) := goodIn_app (goodIn_of _ (by decide +kernel)) ggX5_readCell_X5_cellOf
set_option maxRecDepth 20000 in
theorem ggX5_readCell_X2_cell : GoodIn wsX5_readCell wsX2_cell := goodIn_r _ [72, 73, 74, 49, 50, 42, 51, 93, 94, 95] (by decide +kernel) (by decide +kernel)
set_option maxRecDepth 20000 in
theorem gX5_readCell_X2_cell : GoodIn wsX5_readCell (wsV RX5 174 RX2 yX2_cell wsX2_cell) := goodIn_app (goodIn_of _ (by decide +kernel)) ggX5_readCell_X2_cell
theorem dX5_readCell_0 : decode cX5_readCell 0 = .ok (.aload_n 0, 1) := by decide +kernel
theorem dX5_readCell_1 : decode cX5_readCell 1 = .ok (.getfield 30, 3) := by decide +kernel
theorem dX5_readCell_4 : decode cX5_readCell 4 = .ok (.iload_n 3, 1) := by decide +kernel
theorem dX5_readCell_5 : decode cX5_readCell 5 = .ok (.invokevirtual 160, 3) := by decide +kernel
theorem dX5_readCell_8 : decode cX5_readCell 8 = .ok (.ifCond .ne 6, 3) := by decide +kernel
theorem dX5_readCell_11 : decode cX5_readCell 11 = .ok (.ldc 163, 2) := by decide +kernel
theorem dX5_readCell_13 : decode cX5_readCell 13 = .ok (.ireturn, 1) := by decide +kernel
theorem dX5_readCell_14 : decode cX5_readCell 14 = .ok (.aload_n 0, 1) := by decide +kernel
theorem dX5_readCell_15 : decode cX5_readCell 15 = .ok (.getfield 51, 3) := by decide +kernel
theorem dX5_readCell_18 : decode cX5_readCell 18 = .ok (.iload_n 1, 1) := by decide +kernel
theorem dX5_readCell_19 : decode cX5_readCell 19 = .ok (.aload_n 0, 1) := by decide +kernel
theorem dX5_readCell_20 : decode cX5_readCell 20 = .ok (.iload_n 2, 1) := by decide +kernel
theorem dX5_readCell_21 : decode cX5_readCell 21 = .ok (.invokevirtual 164, 3) := by decide +kernel
theorem dX5_readCell_24 : decode cX5_readCell 24 = .ok (.invokevirtual 167, 3) := by decide +kernel
theorem dX5_readCell_27 : decode cX5_readCell 27 = .ok (.istore 4, 2) := by decide +kernel
theorem dX5_readCell_29 : decode cX5_readCell 29 = .ok (.aload_n 0, 1) := by decide +kernel
theorem dX5_readCell_30 : decode cX5_readCell 30 = .ok (.getfield 44, 3) := by decide +kernel
theorem dX5_readCell_33 : decode cX5_readCell 33 = .ok (.iload_n 3, 1) := by decide +kernel
theorem dX5_readCell_34 : decode cX5_readCell 34 = .ok (.iload 4, 2) := by decide +kernel
theorem dX5_readCell_36 : decode cX5_readCell 36 = .ok (.invokevirtual 91, 3) := by decide +kernel
theorem dX5_readCell_39 : decode cX5_readCell 39 = .ok (.ifCond .ne 6, 3) := by decide +kernel
theorem dX5_readCell_42 : decode cX5_readCell 42 = .ok (.ldc 170, 2) := by decide +kernel
theorem dX5_readCell_44 : decode cX5_readCell 44 = .ok (.ireturn, 1) := by decide +kernel
theorem dX5_readCell_45 : decode cX5_readCell 45 = .ok (.aload_n 0, 1) := by decide +kernel
theorem dX5_readCell_46 : decode cX5_readCell 46 = .ok (.iload_n 3, 1) := by decide +kernel
theorem dX5_readCell_47 : decode cX5_readCell 47 = .ok (.iload 4, 2) := by decide +kernel
theorem dX5_readCell_49 : decode cX5_readCell 49 = .ok (.invokevirtual 95, 3) := by decide +kernel
theorem dX5_readCell_52 : decode cX5_readCell 52 = .ok (.ifCond .eq 21, 3) := by decide +kernel
theorem dX5_readCell_55 : decode cX5_readCell 55 = .ok (.aload_n 0, 1) := by decide +kernel
theorem dX5_readCell_56 : decode cX5_readCell 56 = .ok (.getfield 44, 3) := by decide +kernel
theorem dX5_readCell_59 : decode cX5_readCell 59 = .ok (.iload_n 3, 1) := by decide +kernel
theorem dX5_readCell_60 : decode cX5_readCell 60 = .ok (.iload 4, 2) := by decide +kernel
theorem dX5_readCell_62 : decode cX5_readCell 62 = .ok (.aload_n 0, 1) := by decide +kernel
theorem dX5_readCell_63 : decode cX5_readCell 63 = .ok (.iload_n 2, 1) := by decide +kernel
theorem dX5_readCell_64 : decode cX5_readCell 64 = .ok (.invokevirtual 171, 3) := by decide +kernel
theorem dX5_readCell_67 : decode cX5_readCell 67 = .ok (.invokevirtual 174, 3) := by decide +kernel
theorem dX5_readCell_70 : decode cX5_readCell 70 = .ok (.goto 5, 3) := by decide +kernel
theorem dX5_readCell_73 : decode cX5_readCell 73 = .ok (.ldc 178, 2) := by decide +kernel
theorem dX5_readCell_75 : decode cX5_readCell 75 = .ok (.ireturn, 1) := by decide +kernel
set_option maxRecDepth 20000 in
theorem ggX5_placesOf_X3_chunkOf : GoodIn wsX5_placesOf wsX3_chunkOf := goodIn_r _ [7, 8, 9, 10, 11, 12, 13, 14, 15, 76, 77, 78, 79, 80] (by decide +kernel) (by decide +kernel)
set_option maxRecDepth 20000 in
theorem gX5_placesOf_X3_chunkOf : GoodIn wsX5_placesOf (wsV RX5 167 RX3 yX3_chunkOf wsX3_chunkOf) := goodIn_app (goodIn_of _ (by decide +kernel)) ggX5_placesOf_X3_chunkOf
set_option maxRecDepth 20000 in
theorem ggX5_placesOf_X5_able : GoodIn wsX5_placesOf wsX5_able := goodIn_r _ [20, 21, 22, 23, 24, 25, 19, 26, 27, 28, 29, 30, 31, 32, 33, 34, 35, 36, 37, 38, 39, 40, 41, 42, 43, 44, 45, 67, 68, 69, 70, 71, 72, 73, 74, 75, 81, 82, 83, 84, 85, 86, 87, 88, 89, 90, 91, 92] (by decide +kernel) (by decide +kernel)
set_option maxRecDepth 20000 in
theorem gX5_placesOf_X5_able : GoodIn wsX5_placesOf (wsV RX5 136 RX5 yX5_able wsX5_able) := goodIn_app (goodIn_of _ (by decide +kernel)) ggX5_placesOf_X5_able
set_option maxRecDepth 20000 in
theorem ggX5_placesOf_X5_first : GoodIn wsX5_placesOf wsX5_first := goodIn_r _ [49, 21, 29, 50, 11, 51, 67, 68, 69, 70, 71, 72, 73, 74, 75, 81, 82, 83, 84] (by decide +kernel) (by decide +kernel)
set_option maxRecDepth 20000 in
theorem gX5_placesOf_X5_first : GoodIn wsX5_placesOf (wsV RX5 179 RX5 yX5_first wsX5_first) := goodIn_app (goodIn_of _ (by decide +kernel)) ggX5_placesOf_X5_first
set_option maxRecDepth 20000 in
theorem ggX5_placesOf_X5_placesIn : GoodIn wsX5_placesOf wsX5_placesIn := goodIn_r _ [55, 56, 30, 57, 58, 59, 40, 60, 61, 62, 63, 64, 65, 66, 43, 44, 45, 67, 68, 69, 70, 71, 72, 73, 74, 75, 90, 91, 92] (by decide +kernel) (by decide +kernel)
set_option maxRecDepth 20000 in
theorem gX5_placesOf_X5_placesIn : GoodIn wsX5_placesOf (wsV RX5 183 RX5 yX5_placesIn wsX5_placesIn) := goodIn_app (goodIn_of _ (by decide +kernel)) ggX5_placesOf_X5_placesIn
theorem dX5_placesOf_0 : decode cX5_placesOf 0 = .ok (.iconst 0, 1) := by decide +kernel
theorem dX5_placesOf_1 : decode cX5_placesOf 1 = .ok (.istore 4, 2) := by decide +kernel
theorem dX5_placesOf_3 : decode cX5_placesOf 3 = .ok (.iconst 0, 1) := by decide +kernel
theorem dX5_placesOf_4 : decode cX5_placesOf 4 = .ok (.istore 5, 2) := by decide +kernel
theorem dX5_placesOf_6 : decode cX5_placesOf 6 = .ok (.iload 5, 2) := by decide +kernel
theorem dX5_placesOf_8 : decode cX5_placesOf 8 = .ok (.iconst 4, 1) := by decide +kernel
theorem dX5_placesOf_9 : decode cX5_placesOf 9 = .ok (.if_icmp .ge 63, 3) := by decide +kernel
theorem dX5_placesOf_12 : decode cX5_placesOf 12 = .ok (.aload_n 0, 1) := by decide +kernel
theorem dX5_placesOf_13 : decode cX5_placesOf 13 = .ok (.getfield 51, 3) := by decide +kernel
theorem dX5_placesOf_16 : decode cX5_placesOf 16 = .ok (.iload_n 1, 1) := by decide +kernel
theorem dX5_placesOf_17 : decode cX5_placesOf 17 = .ok (.iload 5, 2) := by decide +kernel
theorem dX5_placesOf_19 : decode cX5_placesOf 19 = .ok (.invokevirtual 167, 3) := by decide +kernel
theorem dX5_placesOf_22 : decode cX5_placesOf 22 = .ok (.istore 6, 2) := by decide +kernel
theorem dX5_placesOf_24 : decode cX5_placesOf 24 = .ok (.iload 6, 2) := by decide +kernel
theorem dX5_placesOf_26 : decode cX5_placesOf 26 = .ok (.iconst (-1), 1) := by decide +kernel
theorem dX5_placesOf_27 : decode cX5_placesOf 27 = .ok (.if_icmp .eq 39, 3) := by decide +kernel
theorem dX5_placesOf_30 : decode cX5_placesOf 30 = .ok (.aload_n 0, 1) := by decide +kernel
theorem dX5_placesOf_31 : decode cX5_placesOf 31 = .ok (.aload_n 0, 1) := by decide +kernel
theorem dX5_placesOf_32 : decode cX5_placesOf 32 = .ok (.iload 6, 2) := by decide +kernel
theorem dX5_placesOf_34 : decode cX5_placesOf 34 = .ok (.invokevirtual 136, 3) := by decide +kernel
theorem dX5_placesOf_37 : decode cX5_placesOf 37 = .ok (.invokevirtual 179, 3) := by decide +kernel
theorem dX5_placesOf_40 : decode cX5_placesOf 40 = .ok (.istore 7, 2) := by decide +kernel
theorem dX5_placesOf_42 : decode cX5_placesOf 42 = .ok (.iload 7, 2) := by decide +kernel
theorem dX5_placesOf_44 : decode cX5_placesOf 44 = .ok (.iconst (-1), 1) := by decide +kernel
theorem dX5_placesOf_45 : decode cX5_placesOf 45 = .ok (.if_icmp .ne 6, 3) := by decide +kernel
theorem dX5_placesOf_48 : decode cX5_placesOf 48 = .ok (.ldc 182, 2) := by decide +kernel
theorem dX5_placesOf_50 : decode cX5_placesOf 50 = .ok (.ireturn, 1) := by decide +kernel
theorem dX5_placesOf_51 : decode cX5_placesOf 51 = .ok (.iload 4, 2) := by decide +kernel
theorem dX5_placesOf_53 : decode cX5_placesOf 53 = .ok (.aload_n 0, 1) := by decide +kernel
theorem dX5_placesOf_54 : decode cX5_placesOf 54 = .ok (.iload 7, 2) := by decide +kernel
theorem dX5_placesOf_56 : decode cX5_placesOf 56 = .ok (.iload 6, 2) := by decide +kernel
theorem dX5_placesOf_58 : decode cX5_placesOf 58 = .ok (.aload_n 2, 1) := by decide +kernel
theorem dX5_placesOf_59 : decode cX5_placesOf 59 = .ok (.iload_n 3, 1) := by decide +kernel
theorem dX5_placesOf_60 : decode cX5_placesOf 60 = .ok (.invokevirtual 183, 3) := by decide +kernel
theorem dX5_placesOf_63 : decode cX5_placesOf 63 = .ok (.iadd, 1) := by decide +kernel
theorem dX5_placesOf_64 : decode cX5_placesOf 64 = .ok (.istore 4, 2) := by decide +kernel
theorem dX5_placesOf_66 : decode cX5_placesOf 66 = .ok (.iinc 5 1, 3) := by decide +kernel
theorem dX5_placesOf_69 : decode cX5_placesOf 69 = .ok (.goto (-63), 3) := by decide +kernel
theorem dX5_placesOf_72 : decode cX5_placesOf 72 = .ok (.iload 4, 2) := by decide +kernel
theorem dX5_placesOf_74 : decode cX5_placesOf 74 = .ok (.ireturn, 1) := by decide +kernel
set_option maxRecDepth 20000 in
theorem ggX5_placesIn_X2_holdsAt : GoodIn wsX5_placesIn wsX2_holdsAt := goodIn_r _ [7, 8, 9, 10, 6, 11, 12, 13, 14, 15, 16, 26, 27, 28] (by decide +kernel) (by decide +kernel)
set_option maxRecDepth 20000 in
theorem gX5_placesIn_X2_holdsAt : GoodIn wsX5_placesIn (wsV RX5 187 RX2 yX2_holdsAt wsX2_holdsAt) := goodIn_app (goodIn_of _ (by decide +kernel)) ggX5_placesIn_X2_holdsAt
theorem dX5_placesIn_0 : decode cX5_placesIn 0 = .ok (.iconst 0, 1) := by decide +kernel
theorem dX5_placesIn_1 : decode cX5_placesIn 1 = .ok (.istore 5, 2) := by decide +kernel
theorem dX5_placesIn_3 : decode cX5_placesIn 3 = .ok (.iconst 0, 1) := by decide +kernel
theorem dX5_placesIn_4 : decode cX5_placesIn 4 = .ok (.istore 6, 2) := by decide +kernel
theorem dX5_placesIn_6 : decode cX5_placesIn 6 = .ok (.iload 6, 2) := by decide +kernel
theorem dX5_placesIn_8 : decode cX5_placesIn 8 = .ok (.iload 4, 2) := by decide +kernel
theorem dX5_placesIn_10 : decode cX5_placesIn 10 = .ok (.iadd, 1) := by decide +kernel
theorem dX5_placesIn_11 : decode cX5_placesIn 11 = .ok (.aload_n 0, 1) := by decide +kernel
theorem dX5_placesIn_12 : decode cX5_placesIn 12 = .ok (.getfield 15, 3) := by decide +kernel
theorem dX5_placesIn_15 : decode cX5_placesIn 15 = .ok (.if_icmp .gt 36, 3) := by decide +kernel
theorem dX5_placesIn_18 : decode cX5_placesIn 18 = .ok (.iload 5, 2) := by decide +kernel
theorem dX5_placesIn_20 : decode cX5_placesIn 20 = .ok (.aload_n 0, 1) := by decide +kernel
theorem dX5_placesIn_21 : decode cX5_placesIn 21 = .ok (.getfield 44, 3) := by decide +kernel
theorem dX5_placesIn_24 : decode cX5_placesIn 24 = .ok (.iload_n 1, 1) := by decide +kernel
theorem dX5_placesIn_25 : decode cX5_placesIn 25 = .ok (.iload_n 2, 1) := by decide +kernel
theorem dX5_placesIn_26 : decode cX5_placesIn 26 = .ok (.iload 6, 2) := by decide +kernel
theorem dX5_placesIn_28 : decode cX5_placesIn 28 = .ok (.aload_n 3, 1) := by decide +kernel
theorem dX5_placesIn_29 : decode cX5_placesIn 29 = .ok (.iload 4, 2) := by decide +kernel
theorem dX5_placesIn_31 : decode cX5_placesIn 31 = .ok (.invokevirtual 187, 3) := by decide +kernel
theorem dX5_placesIn_34 : decode cX5_placesIn 34 = .ok (.ifCond .eq 7, 3) := by decide +kernel
theorem dX5_placesIn_37 : decode cX5_placesIn 37 = .ok (.iconst 1, 1) := by decide +kernel
theorem dX5_placesIn_38 : decode cX5_placesIn 38 = .ok (.goto 4, 3) := by decide +kernel
theorem dX5_placesIn_41 : decode cX5_placesIn 41 = .ok (.iconst 0, 1) := by decide +kernel
theorem dX5_placesIn_42 : decode cX5_placesIn 42 = .ok (.iadd, 1) := by decide +kernel
theorem dX5_placesIn_43 : decode cX5_placesIn 43 = .ok (.istore 5, 2) := by decide +kernel
theorem dX5_placesIn_45 : decode cX5_placesIn 45 = .ok (.iinc 6 1, 3) := by decide +kernel
theorem dX5_placesIn_48 : decode cX5_placesIn 48 = .ok (.goto (-42), 3) := by decide +kernel
theorem dX5_placesIn_51 : decode cX5_placesIn 51 = .ok (.iload 5, 2) := by decide +kernel
theorem dX5_placesIn_53 : decode cX5_placesIn 53 = .ok (.ireturn, 1) := by decide +kernel
set_option maxRecDepth 20000 in
theorem ggX5_lettersLeft_X3_lastChunk : GoodIn wsX5_lettersLeft wsX3_lastChunk := goodIn_r _ [8, 9, 10, 11, 12, 13, 14, 15, 16, 17, 18, 7, 19, 20, 75, 76, 77, 78, 79] (by decide +kernel) (by decide +kernel)
set_option maxRecDepth 20000 in
theorem gX5_lettersLeft_X3_lastChunk : GoodIn wsX5_lettersLeft (wsV RX5 191 RX3 yX3_lastChunk wsX3_lastChunk) := goodIn_app (goodIn_of _ (by decide +kernel)) ggX5_lettersLeft_X3_lastChunk
set_option maxRecDepth 20000 in
theorem ggX5_lettersLeft_X5_able : GoodIn wsX5_lettersLeft wsX5_able := goodIn_r _ [25, 26, 27, 28, 29, 30, 24, 31, 32, 33, 34, 35, 36, 37, 38, 39, 40, 41, 42, 43, 44, 45, 46, 47, 48, 49, 50, 66, 67, 68, 69, 70, 71, 72, 73, 74, 80, 81, 82, 83, 84, 85, 86, 87, 88, 89, 90, 91] (by decide +kernel) (by decide +kernel)
set_option maxRecDepth 20000 in
theorem gX5_lettersLeft_X5_able : GoodIn wsX5_lettersLeft (wsV RX5 136 RX5 yX5_able wsX5_able) := goodIn_app (goodIn_of _ (by decide +kernel)) ggX5_lettersLeft_X5_able
set_option maxRecDepth 20000 in
theorem ggX5_lettersLeft_X5_greatestFilled : GoodIn wsX5_lettersLeft wsX5_greatestFilled := goodIn_r _ [54, 26, 34, 35, 55, 56, 57, 58, 21, 22, 23, 24, 25, 27, 28, 29, 30, 31, 32, 33, 36, 37, 38, 39, 40, 41, 42, 43, 44, 45, 46, 47, 48, 49, 50, 59, 11, 60, 61, 62, 63, 64, 65, 66, 67, 68, 69, 70, 71, 72, 73, 74, 80, 81, 82, 83, 84, 85, 86, 87, 88, 89, 90, 91] (by decide +kernel) (by decide +kernel)
set_option maxRecDepth 20000 in
theorem gX5_lettersLeft_X5_greatestFilled : GoodIn wsX5_lettersLeft (wsV RX5 194 RX5 yX5_greatestFilled wsX5_greatestFilled) := goodIn_app (goodIn_of _ (by decide +kernel)) ggX5_lettersLeft_X5_greatestFilled
theorem dX5_lettersLeft_0 : decode cX5_lettersLeft 0 = .ok (.aload_n 0, 1) := by decide +kernel
theorem dX5_lettersLeft_1 : decode cX5_lettersLeft 1 = .ok (.getfield 51, 3) := by decide +kernel
theorem dX5_lettersLeft_4 : decode cX5_lettersLeft 4 = .ok (.iload_n 1, 1) := by decide +kernel
theorem dX5_lettersLeft_5 : decode cX5_lettersLeft 5 = .ok (.invokevirtual 191, 3) := by decide +kernel
theorem dX5_lettersLeft_8 : decode cX5_lettersLeft 8 = .ok (.istore_n 2, 1) := by decide +kernel
theorem dX5_lettersLeft_9 : decode cX5_lettersLeft 9 = .ok (.iload_n 2, 1) := by decide +kernel
theorem dX5_lettersLeft_10 : decode cX5_lettersLeft 10 = .ok (.iconst (-1), 1) := by decide +kernel
theorem dX5_lettersLeft_11 : decode cX5_lettersLeft 11 = .ok (.if_icmp .eq 11, 3) := by decide +kernel
theorem dX5_lettersLeft_14 : decode cX5_lettersLeft 14 = .ok (.aload_n 0, 1) := by decide +kernel
theorem dX5_lettersLeft_15 : decode cX5_lettersLeft 15 = .ok (.iload_n 2, 1) := by decide +kernel
theorem dX5_lettersLeft_16 : decode cX5_lettersLeft 16 = .ok (.invokevirtual 136, 3) := by decide +kernel
theorem dX5_lettersLeft_19 : decode cX5_lettersLeft 19 = .ok (.ifCond .ne 6, 3) := by decide +kernel
theorem dX5_lettersLeft_22 : decode cX5_lettersLeft 22 = .ok (.ldc 170, 2) := by decide +kernel
theorem dX5_lettersLeft_24 : decode cX5_lettersLeft 24 = .ok (.ireturn, 1) := by decide +kernel
theorem dX5_lettersLeft_25 : decode cX5_lettersLeft 25 = .ok (.aload_n 0, 1) := by decide +kernel
theorem dX5_lettersLeft_26 : decode cX5_lettersLeft 26 = .ok (.getfield 15, 3) := by decide +kernel
theorem dX5_lettersLeft_29 : decode cX5_lettersLeft 29 = .ok (.aload_n 0, 1) := by decide +kernel
theorem dX5_lettersLeft_30 : decode cX5_lettersLeft 30 = .ok (.iload_n 2, 1) := by decide +kernel
theorem dX5_lettersLeft_31 : decode cX5_lettersLeft 31 = .ok (.invokevirtual 194, 3) := by decide +kernel
theorem dX5_lettersLeft_34 : decode cX5_lettersLeft 34 = .ok (.isub, 1) := by decide +kernel
theorem dX5_lettersLeft_35 : decode cX5_lettersLeft 35 = .ok (.ireturn, 1) := by decide +kernel
set_option maxRecDepth 20000 in
theorem ggX5_placesForNew_X5_copiesWanted : GoodIn wsX5_placesForNew wsX5_copiesWanted := goodIn_r _ [7, 8, 9, 10, 11, 12, 13, 14, 15, 16, 43, 44, 45, 46, 47, 48, 49, 50, 51] (by decide +kernel) (by decide +kernel)
set_option maxRecDepth 20000 in
theorem gX5_placesForNew_X5_copiesWanted : GoodIn wsX5_placesForNew (wsV RX5 197 RX5 yX5_copiesWanted wsX5_copiesWanted) := goodIn_app (goodIn_of _ (by decide +kernel)) ggX5_placesForNew_X5_copiesWanted
set_option maxRecDepth 20000 in
theorem ggX5_placesForNew_X5_best : GoodIn wsX5_placesForNew wsX5_best := goodIn_r _ [20, 1, 21, 22, 23, 24, 25, 26, 27, 6, 28, 29, 30, 31, 32, 33, 34, 35, 36, 37, 38, 39, 40, 41, 42, 43, 44, 45, 46, 47, 48, 49, 50, 51, 52, 53, 54, 55, 56, 57, 58] (by decide +kernel) (by decide +kernel)
set_option maxRecDepth 20000 in
theorem gX5_placesForNew_X5_best : GoodIn wsX5_placesForNew (wsV RX5 200 RX5 yX5_best wsX5_best) := goodIn_app (goodIn_of _ (by decide +kernel)) ggX5_placesForNew_X5_best
theorem dX5_placesForNew_0 : decode cX5_placesForNew 0 = .ok (.aload_n 0, 1) := by decide +kernel
theorem dX5_placesForNew_1 : decode cX5_placesForNew 1 = .ok (.getfield 30, 3) := by decide +kernel
theorem dX5_placesForNew_4 : decode cX5_placesForNew 4 = .ok (.getfield 108, 3) := by decide +kernel
theorem dX5_placesForNew_7 : decode cX5_placesForNew 7 = .ok (.istore_n 2, 1) := by decide +kernel
theorem dX5_placesForNew_8 : decode cX5_placesForNew 8 = .ok (.iconst 0, 1) := by decide +kernel
theorem dX5_placesForNew_9 : decode cX5_placesForNew 9 = .ok (.istore_n 3, 1) := by decide +kernel
theorem dX5_placesForNew_10 : decode cX5_placesForNew 10 = .ok (.aload_n 0, 1) := by decide +kernel
theorem dX5_placesForNew_11 : decode cX5_placesForNew 11 = .ok (.iload_n 1, 1) := by decide +kernel
theorem dX5_placesForNew_12 : decode cX5_placesForNew 12 = .ok (.invokevirtual 197, 3) := by decide +kernel
theorem dX5_placesForNew_15 : decode cX5_placesForNew 15 = .ok (.istore 4, 2) := by decide +kernel
theorem dX5_placesForNew_17 : decode cX5_placesForNew 17 = .ok (.iconst 0, 1) := by decide +kernel
theorem dX5_placesForNew_18 : decode cX5_placesForNew 18 = .ok (.istore 5, 2) := by decide +kernel
theorem dX5_placesForNew_20 : decode cX5_placesForNew 20 = .ok (.iload 5, 2) := by decide +kernel
theorem dX5_placesForNew_22 : decode cX5_placesForNew 22 = .ok (.iload 4, 2) := by decide +kernel
theorem dX5_placesForNew_24 : decode cX5_placesForNew 24 = .ok (.if_icmp .ge 42, 3) := by decide +kernel
theorem dX5_placesForNew_27 : decode cX5_placesForNew 27 = .ok (.iload_n 2, 1) := by decide +kernel
theorem dX5_placesForNew_28 : decode cX5_placesForNew 28 = .ok (.ifCond .eq 38, 3) := by decide +kernel
theorem dX5_placesForNew_31 : decode cX5_placesForNew 31 = .ok (.aload_n 0, 1) := by decide +kernel
theorem dX5_placesForNew_32 : decode cX5_placesForNew 32 = .ok (.iload_n 2, 1) := by decide +kernel
theorem dX5_placesForNew_33 : decode cX5_placesForNew 33 = .ok (.invokevirtual 200, 3) := by decide +kernel
theorem dX5_placesForNew_36 : decode cX5_placesForNew 36 = .ok (.istore 6, 2) := by decide +kernel
theorem dX5_placesForNew_38 : decode cX5_placesForNew 38 = .ok (.iload 6, 2) := by decide +kernel
theorem dX5_placesForNew_40 : decode cX5_placesForNew 40 = .ok (.iconst (-1), 1) := by decide +kernel
theorem dX5_placesForNew_41 : decode cX5_placesForNew 41 = .ok (.if_icmp .eq 19, 3) := by decide +kernel
theorem dX5_placesForNew_44 : decode cX5_placesForNew 44 = .ok (.iload_n 3, 1) := by decide +kernel
theorem dX5_placesForNew_45 : decode cX5_placesForNew 45 = .ok (.iconst 1, 1) := by decide +kernel
theorem dX5_placesForNew_46 : decode cX5_placesForNew 46 = .ok (.iload 6, 2) := by decide +kernel
theorem dX5_placesForNew_48 : decode cX5_placesForNew 48 = .ok (.ishl, 1) := by decide +kernel
theorem dX5_placesForNew_49 : decode cX5_placesForNew 49 = .ok (.ior, 1) := by decide +kernel
theorem dX5_placesForNew_50 : decode cX5_placesForNew 50 = .ok (.istore_n 3, 1) := by decide +kernel
theorem dX5_placesForNew_51 : decode cX5_placesForNew 51 = .ok (.iload_n 2, 1) := by decide +kernel
theorem dX5_placesForNew_52 : decode cX5_placesForNew 52 = .ok (.iconst 1, 1) := by decide +kernel
theorem dX5_placesForNew_53 : decode cX5_placesForNew 53 = .ok (.iload 6, 2) := by decide +kernel
theorem dX5_placesForNew_55 : decode cX5_placesForNew 55 = .ok (.ishl, 1) := by decide +kernel
theorem dX5_placesForNew_56 : decode cX5_placesForNew 56 = .ok (.iconst (-1), 1) := by decide +kernel
theorem dX5_placesForNew_57 : decode cX5_placesForNew 57 = .ok (.ixor, 1) := by decide +kernel
theorem dX5_placesForNew_58 : decode cX5_placesForNew 58 = .ok (.iand, 1) := by decide +kernel
theorem dX5_placesForNew_59 : decode cX5_placesForNew 59 = .ok (.istore_n 2, 1) := by decide +kernel
theorem dX5_placesForNew_60 : decode cX5_placesForNew 60 = .ok (.iinc 5 1, 3) := by decide +kernel
theorem dX5_placesForNew_63 : decode cX5_placesForNew 63 = .ok (.goto (-43), 3) := by decide +kernel
theorem dX5_placesForNew_66 : decode cX5_placesForNew 66 = .ok (.iload_n 3, 1) := by decide +kernel
theorem dX5_placesForNew_67 : decode cX5_placesForNew 67 = .ok (.ireturn, 1) := by decide +kernel
set_option maxRecDepth 20000 in
theorem ggX5_addNewChunk_X1_isFullUp : GoodIn wsX5_addNewChunk wsX1_isFullUp := goodIn_r _ [13, 14, 132, 133, 134, 135, 136] (by decide +kernel) (by decide +kernel)
set_option maxRecDepth 20000 in
theorem gX5_addNewChunk_X1_isFullUp : GoodIn wsX5_addNewChunk (wsV RX5 203 RX1 yX1_isFullUp wsX1_isFullUp) := goodIn_app (goodIn_of _ (by decide +kernel)) ggX5_addNewChunk_X1_isFullUp
set_option maxRecDepth 20000 in
theorem ggX5_addNewChunk_X3_isFullUp : GoodIn wsX5_addNewChunk wsX3_isFullUp := goodIn_r _ [19, 20, 21, 22, 23, 24, 25, 26, 123, 124, 125, 126, 127] (by decide +kernel) (by decide +kernel)
set_option maxRecDepth 20000 in
theorem gX5_addNewChunk_X3_isFullUp : GoodIn wsX5_addNewChunk (wsV RX5 207 RX3 yX3_isFullUp wsX3_isFullUp) := goodIn_app (goodIn_of _ (by decide +kernel)) ggX5_addNewChunk_X3_isFullUp
set_option maxRecDepth 20000 in
theorem ggX5_addNewChunk_X5_placesForNew : GoodIn wsX5_addNewChunk wsX5_placesForNew := goodIn_r _ [31, 6, 32, 33, 34, 35, 30, 36, 37, 38, 39, 40, 41, 42, 43, 44, 45, 46, 47, 48, 49, 7, 50, 22, 51, 52, 53, 54, 55, 8, 56, 57, 58, 59, 60, 61, 62, 63, 64, 65, 66, 67, 68, 114, 115, 116, 117, 118, 119, 120, 121, 122, 128, 129, 130, 131, 137, 138, 139] (by decide +kernel) (by decide +kernel)
set_option maxRecDepth 20000 in
theorem gX5_addNewChunk_X5_placesForNew : GoodIn wsX5_addNewChunk (wsV RX5 210 RX5 yX5_placesForNew wsX5_placesForNew) := goodIn_app (goodIn_of _ (by decide +kernel)) ggX5_addNewChunk_X5_placesForNew
set_option maxRecDepth 20000 in
theorem ggX5_addNewChunk_X1_make : GoodIn wsX5_addNewChunk wsX1_make := goodIn_r _ [72, 14, 73, 74, 75, 10, 11, 12, 13, 76, 77, 78, 79, 80, 81, 82, 83, 84, 85, 132, 133, 134, 135, 136] (by decide +kernel) (by decide +kernel)
set_option maxRecDepth 20000 in
theorem gX5_addNewChunk_X1_make : GoodIn wsX5_addNewChunk (wsV RX5 213 RX1 yX1_make wsX1_make) := goodIn_app (goodIn_of _ (by decide +kernel)) ggX5_addNewChunk_X1_make
set_option maxRecDepth 20000 in
theorem ggX5_addNewChunk_X10_isIn : GoodIn wsX5_addNewChunk wsX10_isIn := goodIn_r _ [51] (by decide +kernel) (by decide +kernel)
set_option maxRecDepth 20000 in
theorem gX5_addNewChunk_X10_isIn_n117 : GoodIn wsX5_addNewChunk (wsX10_isIn) := ggX5_addNewChunk_X10_isIn
set_option maxRecDepth 20000 in
theorem ggX5_addNewChunk_X2_lay : GoodIn wsX5_addNewChunk wsX2_lay := goodIn_r _ [89, 90, 91, 92, 93, 59, 94, 95, 96, 97, 98, 99, 100, 101, 102, 103, 104, 105, 106, 107, 61, 137, 138, 139] (by decide +kernel) (by decide +kernel)
set_option maxRecDepth 20000 in
theorem gX5_addNewChunk_X2_lay : GoodIn wsX5_addNewChunk (wsV RX5 217 RX2 yX2_lay wsX2_lay) := goodIn_app (goodIn_of _ (by decide +kernel)) ggX5_addNewChunk_X2_lay
set_option maxRecDepth 20000 in
theorem ggX5_addNewChunk_X3_addChunk : GoodIn wsX5_addNewChunk wsX3_addChunk := goodIn_r _ [111, 112, 20, 113, 16, 17, 18, 19, 21, 22, 23, 24, 25, 26, 123, 124, 125, 126, 127] (by decide +kernel) (by decide +kernel)
set_option maxRecDepth 20000 in
theorem gX5_addNewChunk_X3_addChunk : GoodIn wsX5_addNewChunk (wsV RX5 221 RX3 yX3_addChunk wsX3_addChunk) := goodIn_app (goodIn_of _ (by decide +kernel)) ggX5_addNewChunk_X3_addChunk
theorem dX5_addNewChunk_0 : decode cX5_addNewChunk 0 = .ok (.aload_n 0, 1) := by decide +kernel
theorem dX5_addNewChunk_1 : decode cX5_addNewChunk 1 = .ok (.getfield 37, 3) := by decide +kernel
theorem dX5_addNewChunk_4 : decode cX5_addNewChunk 4 = .ok (.invokevirtual 203, 3) := by decide +kernel
theorem dX5_addNewChunk_7 : decode cX5_addNewChunk 7 = .ok (.ifCond .ne 14, 3) := by decide +kernel
theorem dX5_addNewChunk_10 : decode cX5_addNewChunk 10 = .ok (.aload_n 0, 1) := by decide +kernel
theorem dX5_addNewChunk_11 : decode cX5_addNewChunk 11 = .ok (.getfield 51, 3) := by decide +kernel
theorem dX5_addNewChunk_14 : decode cX5_addNewChunk 14 = .ok (.iload_n 1, 1) := by decide +kernel
theorem dX5_addNewChunk_15 : decode cX5_addNewChunk 15 = .ok (.invokevirtual 207, 3) := by decide +kernel
theorem dX5_addNewChunk_18 : decode cX5_addNewChunk 18 = .ok (.ifCond .eq 6, 3) := by decide +kernel
theorem dX5_addNewChunk_21 : decode cX5_addNewChunk 21 = .ok (.ldc 209, 2) := by decide +kernel
theorem dX5_addNewChunk_23 : decode cX5_addNewChunk 23 = .ok (.ireturn, 1) := by decide +kernel
theorem dX5_addNewChunk_24 : decode cX5_addNewChunk 24 = .ok (.aload_n 0, 1) := by decide +kernel
theorem dX5_addNewChunk_25 : decode cX5_addNewChunk 25 = .ok (.aload_n 0, 1) := by decide +kernel
theorem dX5_addNewChunk_26 : decode cX5_addNewChunk 26 = .ok (.getfield 51, 3) := by decide +kernel
theorem dX5_addNewChunk_29 : decode cX5_addNewChunk 29 = .ok (.getfield 155, 3) := by decide +kernel
theorem dX5_addNewChunk_32 : decode cX5_addNewChunk 32 = .ok (.iload_n 1, 1) := by decide +kernel
theorem dX5_addNewChunk_33 : decode cX5_addNewChunk 33 = .ok (.iaload, 1) := by decide +kernel
theorem dX5_addNewChunk_34 : decode cX5_addNewChunk 34 = .ok (.invokevirtual 210, 3) := by decide +kernel
theorem dX5_addNewChunk_37 : decode cX5_addNewChunk 37 = .ok (.istore_n 2, 1) := by decide +kernel
theorem dX5_addNewChunk_38 : decode cX5_addNewChunk 38 = .ok (.iload_n 2, 1) := by decide +kernel
theorem dX5_addNewChunk_39 : decode cX5_addNewChunk 39 = .ok (.ifCond .ne 6, 3) := by decide +kernel
theorem dX5_addNewChunk_42 : decode cX5_addNewChunk 42 = .ok (.ldc 182, 2) := by decide +kernel
theorem dX5_addNewChunk_44 : decode cX5_addNewChunk 44 = .ok (.ireturn, 1) := by decide +kernel
theorem dX5_addNewChunk_45 : decode cX5_addNewChunk 45 = .ok (.aload_n 0, 1) := by decide +kernel
theorem dX5_addNewChunk_46 : decode cX5_addNewChunk 46 = .ok (.getfield 37, 3) := by decide +kernel
theorem dX5_addNewChunk_49 : decode cX5_addNewChunk 49 = .ok (.invokevirtual 213, 3) := by decide +kernel
theorem dX5_addNewChunk_52 : decode cX5_addNewChunk 52 = .ok (.istore_n 3, 1) := by decide +kernel
theorem dX5_addNewChunk_53 : decode cX5_addNewChunk 53 = .ok (.iconst 0, 1) := by decide +kernel
theorem dX5_addNewChunk_54 : decode cX5_addNewChunk 54 = .ok (.istore 4, 2) := by decide +kernel
theorem dX5_addNewChunk_56 : decode cX5_addNewChunk 56 = .ok (.iload 4, 2) := by decide +kernel
theorem dX5_addNewChunk_58 : decode cX5_addNewChunk 58 = .ok (.aload_n 0, 1) := by decide +kernel
theorem dX5_addNewChunk_59 : decode cX5_addNewChunk 59 = .ok (.getfield 30, 3) := by decide +kernel
theorem dX5_addNewChunk_62 : decode cX5_addNewChunk 62 = .ok (.getfield 98, 3) := by decide +kernel
theorem dX5_addNewChunk_65 : decode cX5_addNewChunk 65 = .ok (.if_icmp .ge 28, 3) := by decide +kernel
theorem dX5_addNewChunk_68 : decode cX5_addNewChunk 68 = .ok (.iload_n 2, 1) := by decide +kernel
theorem dX5_addNewChunk_69 : decode cX5_addNewChunk 69 = .ok (.iload 4, 2) := by decide +kernel
theorem dX5_addNewChunk_71 : decode cX5_addNewChunk 71 = .ok (.invokestatic 117, 3) := by decide +kernel
theorem dX5_addNewChunk_74 : decode cX5_addNewChunk 74 = .ok (.ifCond .eq 13, 3) := by decide +kernel
theorem dX5_addNewChunk_77 : decode cX5_addNewChunk 77 = .ok (.aload_n 0, 1) := by decide +kernel
theorem dX5_addNewChunk_78 : decode cX5_addNewChunk 78 = .ok (.getfield 44, 3) := by decide +kernel
theorem dX5_addNewChunk_81 : decode cX5_addNewChunk 81 = .ok (.iload 4, 2) := by decide +kernel
theorem dX5_addNewChunk_83 : decode cX5_addNewChunk 83 = .ok (.iload_n 3, 1) := by decide +kernel
theorem dX5_addNewChunk_84 : decode cX5_addNewChunk 84 = .ok (.invokevirtual 217, 3) := by decide +kernel
theorem dX5_addNewChunk_87 : decode cX5_addNewChunk 87 = .ok (.iinc 4 1, 3) := by decide +kernel
theorem dX5_addNewChunk_90 : decode cX5_addNewChunk 90 = .ok (.goto (-34), 3) := by decide +kernel
theorem dX5_addNewChunk_93 : decode cX5_addNewChunk 93 = .ok (.aload_n 0, 1) := by decide +kernel
theorem dX5_addNewChunk_94 : decode cX5_addNewChunk 94 = .ok (.getfield 51, 3) := by decide +kernel
theorem dX5_addNewChunk_97 : decode cX5_addNewChunk 97 = .ok (.iload_n 1, 1) := by decide +kernel
theorem dX5_addNewChunk_98 : decode cX5_addNewChunk 98 = .ok (.iload_n 3, 1) := by decide +kernel
theorem dX5_addNewChunk_99 : decode cX5_addNewChunk 99 = .ok (.invokevirtual 221, 3) := by decide +kernel
theorem dX5_addNewChunk_102 : decode cX5_addNewChunk 102 = .ok (.iconst 0, 1) := by decide +kernel
theorem dX5_addNewChunk_103 : decode cX5_addNewChunk 103 = .ok (.ireturn, 1) := by decide +kernel
set_option maxRecDepth 20000 in
theorem ggX5_own_X3_chunkOf : GoodIn wsX5_own wsX3_chunkOf := goodIn_r _ [12, 13, 14, 15, 16, 17, 18, 19, 20, 120, 121, 122, 123, 124] (by decide +kernel) (by decide +kernel)
set_option maxRecDepth 20000 in
theorem gX5_own_X3_chunkOf : GoodIn wsX5_own (wsV RX5 167 RX3 yX3_chunkOf wsX3_chunkOf) := goodIn_app (goodIn_of _ (by decide +kernel)) ggX5_own_X3_chunkOf
set_option maxRecDepth 20000 in
theorem ggX5_own_X1_isShared : GoodIn wsX5_own wsX1_isShared := goodIn_r _ [25, 26, 27, 28, 29, 24, 30, 31, 125, 126, 127, 128, 129] (by decide +kernel) (by decide +kernel)
set_option maxRecDepth 20000 in
theorem gX5_own_X1_isShared : GoodIn wsX5_own (wsV RX5 224 RX1 yX1_isShared wsX1_isShared) := goodIn_app (goodIn_of _ (by decide +kernel)) ggX5_own_X1_isShared
set_option maxRecDepth 20000 in
theorem ggX5_own_X1_isFullUp : GoodIn wsX5_own wsX1_isFullUp := goodIn_r _ [35, 31, 125, 126, 127, 128, 129] (by decide +kernel) (by decide +kernel)
set_option maxRecDepth 20000 in
theorem gX5_own_X1_isFullUp : GoodIn wsX5_own (wsV RX5 203 RX1 yX1_isFullUp wsX1_isFullUp) := goodIn_app (goodIn_of _ (by decide +kernel)) ggX5_own_X1_isFullUp
set_option maxRecDepth 20000 in
theorem ggX5_own_X5_able : GoodIn wsX5_own wsX5_able := goodIn_r _ [40, 5, 41, 42, 43, 44, 39, 45, 2, 46, 6, 7, 47, 28, 29, 24, 30, 31, 48, 49, 50, 51, 52, 53, 54, 55, 56, 107, 108, 109, 110, 111, 112, 113, 114, 115, 116, 117, 118, 119, 125, 126, 127, 128, 129, 130, 131, 132] (by decide +kernel) (by decide +kernel)
set_option maxRecDepth 20000 in
theorem gX5_own_X5_able : GoodIn wsX5_own (wsV RX5 136 RX5 yX5_able wsX5_able) := goodIn_app (goodIn_of _ (by decide +kernel)) ggX5_own_X5_able
set_option maxRecDepth 20000 in
theorem ggX5_own_X1_make : GoodIn wsX5_own wsX1_make := goodIn_r _ [60, 31, 61, 26, 62, 33, 34, 24, 35, 63, 64, 65, 66, 67, 68, 27, 28, 29, 30, 125, 126, 127, 128, 129] (by decide +kernel) (by decide +kernel)
set_option maxRecDepth 20000 in
theorem gX5_own_X1_make : GoodIn wsX5_own (wsV RX5 213 RX1 yX1_make wsX1_make) := goodIn_app (goodIn_of _ (by decide +kernel)) ggX5_own_X1_make
set_option maxRecDepth 20000 in
theorem ggX5_own_X10_isIn : GoodIn wsX5_own wsX10_isIn := goodIn_r _ [70] (by decide +kernel) (by decide +kernel)
set_option maxRecDepth 20000 in
theorem gX5_own_X10_isIn_n117 : GoodIn wsX5_own (wsX10_isIn) := ggX5_own_X10_isIn
set_option maxRecDepth 20000 in
theorem ggX5_own_X2_layLike : GoodIn wsX5_own wsX2_layLike := goodIn_r _ [74, 75, 76, 77, 51, 78, 79, 80, 54, 55, 56, 81, 82, 83, 84, 85, 86, 87, 88, 89, 90, 91, 92, 93, 94, 95, 96, 97, 53, 130, 131, 132] (by decide +kernel) (by decide +kernel)
set_option maxRecDepth 20000 in
theorem gX5_own_X2_layLike : GoodIn wsX5_own (wsV RX5 227 RX2 yX2_layLike wsX2_layLike) := goodIn_app (goodIn_of _ (by decide +kernel)) ggX5_own_X2_layLike
set_option maxRecDepth 20000 in
theorem ggX5_own_X1_share : GoodIn wsX5_own wsX1_share := goodIn_r _ [101, 26, 27, 28, 29, 24, 30, 31, 125, 126, 127, 128, 129] (by decide +kernel) (by decide +kernel)
set_option maxRecDepth 20000 in
theorem gX5_own_X1_share : GoodIn wsX5_own (wsV RX5 231 RX1 yX1_share wsX1_share) := goodIn_app (goodIn_of _ (by decide +kernel)) ggX5_own_X1_share
set_option maxRecDepth 20000 in
theorem ggX5_own_X3_replaceChunk : GoodIn wsX5_own wsX3_replaceChunk := goodIn_r _ [105, 14, 106, 9, 10, 11, 12, 13, 15, 16, 17, 18, 19, 20, 120, 121, 122, 123, 124] (by decide +kernel) (by decide +kernel)
set_option maxRecDepth 20000 in
theorem gX5_own_X3_replaceChunk : GoodIn wsX5_own (wsV RX5 234 RX3 yX3_replaceChunk wsX3_replaceChunk) := goodIn_app (goodIn_of _ (by decide +kernel)) ggX5_own_X3_replaceChunk
theorem dX5_own_0 : decode cX5_own 0 = .ok (.aload_n 0, 1) := by decide +kernel
theorem dX5_own_1 : decode cX5_own 1 = .ok (.getfield 51, 3) := by decide +kernel
theorem dX5_own_4 : decode cX5_own 4 = .ok (.iload_n 1, 1) := by decide +kernel
theorem dX5_own_5 : decode cX5_own 5 = .ok (.iload_n 2, 1) := by decide +kernel
theorem dX5_own_6 : decode cX5_own 6 = .ok (.invokevirtual 167, 3) := by decide +kernel
theorem dX5_own_9 : decode cX5_own 9 = .ok (.istore_n 3, 1) := by decide +kernel
theorem dX5_own_10 : decode cX5_own 10 = .ok (.aload_n 0, 1) := by decide +kernel
theorem dX5_own_11 : decode cX5_own 11 = .ok (.getfield 37, 3) := by decide +kernel
theorem dX5_own_14 : decode cX5_own 14 = .ok (.iload_n 3, 1) := by decide +kernel
theorem dX5_own_15 : decode cX5_own 15 = .ok (.invokevirtual 224, 3) := by decide +kernel
theorem dX5_own_18 : decode cX5_own 18 = .ok (.ifCond .ne 5, 3) := by decide +kernel
theorem dX5_own_21 : decode cX5_own 21 = .ok (.iconst 0, 1) := by decide +kernel
theorem dX5_own_22 : decode cX5_own 22 = .ok (.ireturn, 1) := by decide +kernel
theorem dX5_own_23 : decode cX5_own 23 = .ok (.aload_n 0, 1) := by decide +kernel
theorem dX5_own_24 : decode cX5_own 24 = .ok (.getfield 37, 3) := by decide +kernel
theorem dX5_own_27 : decode cX5_own 27 = .ok (.invokevirtual 203, 3) := by decide +kernel
theorem dX5_own_30 : decode cX5_own 30 = .ok (.ifCond .eq 6, 3) := by decide +kernel
theorem dX5_own_33 : decode cX5_own 33 = .ok (.ldc 209, 2) := by decide +kernel
theorem dX5_own_35 : decode cX5_own 35 = .ok (.ireturn, 1) := by decide +kernel
theorem dX5_own_36 : decode cX5_own 36 = .ok (.aload_n 0, 1) := by decide +kernel
theorem dX5_own_37 : decode cX5_own 37 = .ok (.iload_n 3, 1) := by decide +kernel
theorem dX5_own_38 : decode cX5_own 38 = .ok (.invokevirtual 136, 3) := by decide +kernel
theorem dX5_own_41 : decode cX5_own 41 = .ok (.istore 4, 2) := by decide +kernel
theorem dX5_own_43 : decode cX5_own 43 = .ok (.iload 4, 2) := by decide +kernel
theorem dX5_own_45 : decode cX5_own 45 = .ok (.ifCond .ne 6, 3) := by decide +kernel
theorem dX5_own_48 : decode cX5_own 48 = .ok (.ldc 182, 2) := by decide +kernel
theorem dX5_own_50 : decode cX5_own 50 = .ok (.ireturn, 1) := by decide +kernel
theorem dX5_own_51 : decode cX5_own 51 = .ok (.aload_n 0, 1) := by decide +kernel
theorem dX5_own_52 : decode cX5_own 52 = .ok (.getfield 37, 3) := by decide +kernel
theorem dX5_own_55 : decode cX5_own 55 = .ok (.invokevirtual 213, 3) := by decide +kernel
theorem dX5_own_58 : decode cX5_own 58 = .ok (.istore 5, 2) := by decide +kernel
theorem dX5_own_60 : decode cX5_own 60 = .ok (.iconst 0, 1) := by decide +kernel
theorem dX5_own_61 : decode cX5_own 61 = .ok (.istore 6, 2) := by decide +kernel
theorem dX5_own_63 : decode cX5_own 63 = .ok (.iload 6, 2) := by decide +kernel
theorem dX5_own_65 : decode cX5_own 65 = .ok (.aload_n 0, 1) := by decide +kernel
theorem dX5_own_66 : decode cX5_own 66 = .ok (.getfield 30, 3) := by decide +kernel
theorem dX5_own_69 : decode cX5_own 69 = .ok (.getfield 98, 3) := by decide +kernel
theorem dX5_own_72 : decode cX5_own 72 = .ok (.if_icmp .ge 34, 3) := by decide +kernel
theorem dX5_own_75 : decode cX5_own 75 = .ok (.iload 4, 2) := by decide +kernel
theorem dX5_own_77 : decode cX5_own 77 = .ok (.iload 6, 2) := by decide +kernel
theorem dX5_own_79 : decode cX5_own 79 = .ok (.invokestatic 117, 3) := by decide +kernel
theorem dX5_own_82 : decode cX5_own 82 = .ok (.ifCond .eq 18, 3) := by decide +kernel
theorem dX5_own_85 : decode cX5_own 85 = .ok (.aload_n 0, 1) := by decide +kernel
theorem dX5_own_86 : decode cX5_own 86 = .ok (.getfield 44, 3) := by decide +kernel
theorem dX5_own_89 : decode cX5_own 89 = .ok (.iload 6, 2) := by decide +kernel
theorem dX5_own_91 : decode cX5_own 91 = .ok (.iload 5, 2) := by decide +kernel
theorem dX5_own_93 : decode cX5_own 93 = .ok (.iload 6, 2) := by decide +kernel
theorem dX5_own_95 : decode cX5_own 95 = .ok (.iload_n 3, 1) := by decide +kernel
theorem dX5_own_96 : decode cX5_own 96 = .ok (.iconst 1, 1) := by decide +kernel
theorem dX5_own_97 : decode cX5_own 97 = .ok (.invokevirtual 227, 3) := by decide +kernel
theorem dX5_own_100 : decode cX5_own 100 = .ok (.iinc 6 1, 3) := by decide +kernel
theorem dX5_own_103 : decode cX5_own 103 = .ok (.goto (-40), 3) := by decide +kernel
theorem dX5_own_106 : decode cX5_own 106 = .ok (.aload_n 0, 1) := by decide +kernel
theorem dX5_own_107 : decode cX5_own 107 = .ok (.getfield 37, 3) := by decide +kernel
theorem dX5_own_110 : decode cX5_own 110 = .ok (.iload_n 3, 1) := by decide +kernel
theorem dX5_own_111 : decode cX5_own 111 = .ok (.iconst (-1), 1) := by decide +kernel
theorem dX5_own_112 : decode cX5_own 112 = .ok (.invokevirtual 231, 3) := by decide +kernel
theorem dX5_own_115 : decode cX5_own 115 = .ok (.aload_n 0, 1) := by decide +kernel
theorem dX5_own_116 : decode cX5_own 116 = .ok (.getfield 51, 3) := by decide +kernel
theorem dX5_own_119 : decode cX5_own 119 = .ok (.iload_n 1, 1) := by decide +kernel
theorem dX5_own_120 : decode cX5_own 120 = .ok (.iload_n 2, 1) := by decide +kernel
theorem dX5_own_121 : decode cX5_own 121 = .ok (.iload 5, 2) := by decide +kernel
theorem dX5_own_123 : decode cX5_own 123 = .ok (.invokevirtual 234, 3) := by decide +kernel
theorem dX5_own_126 : decode cX5_own 126 = .ok (.iconst 0, 1) := by decide +kernel
theorem dX5_own_127 : decode cX5_own 127 = .ok (.ireturn, 1) := by decide +kernel
set_option maxRecDepth 20000 in
theorem ggX5_leaseHolds_X1_has : GoodIn wsX5_leaseHolds wsX1_has := goodIn_r _ [10, 11, 51, 52, 53, 54, 55] (by decide +kernel) (by decide +kernel)
set_option maxRecDepth 20000 in
theorem gX5_leaseHolds_X1_has : GoodIn wsX5_leaseHolds (wsV RX5 79 RX1 yX1_has wsX1_has) := goodIn_app (goodIn_of _ (by decide +kernel)) ggX5_leaseHolds_X1_has
set_option maxRecDepth 20000 in
theorem ggX5_leaseHolds_X8_hasUp : GoodIn wsX5_leaseHolds wsX8_hasUp := goodIn_r _ [16, 17, 18, 19, 20, 15, 21, 22, 23, 24, 25, 56, 57, 58, 59] (by decide +kernel) (by decide +kernel)
set_option maxRecDepth 20000 in
theorem gX5_leaseHolds_X8_hasUp : GoodIn wsX5_leaseHolds (wsV RX5 160 RX8 yX8_hasUp wsX8_hasUp) := goodIn_app (goodIn_of _ (by decide +kernel)) ggX5_leaseHolds_X8_hasUp
set_option maxRecDepth 20000 in
theorem ggX5_leaseHolds_X5_isGood : GoodIn wsX5_leaseHolds wsX5_isGood := goodIn_r _ [30, 1, 31, 32, 6, 7, 8, 9, 10, 11, 33, 34, 35, 36, 37, 38, 39, 40, 41, 42, 43, 44, 45, 46, 47, 48, 49, 50, 51, 52, 53, 54, 55, 60, 61, 62] (by decide +kernel) (by decide +kernel)
set_option maxRecDepth 20000 in
theorem gX5_leaseHolds_X5_isGood : GoodIn wsX5_leaseHolds (wsV RX5 95 RX5 yX5_isGood wsX5_isGood) := goodIn_app (goodIn_of _ (by decide +kernel)) ggX5_leaseHolds_X5_isGood
theorem dX5_leaseHolds_0 : decode cX5_leaseHolds 0 = .ok (.aload_n 0, 1) := by decide +kernel
theorem dX5_leaseHolds_1 : decode cX5_leaseHolds 1 = .ok (.getfield 37, 3) := by decide +kernel
theorem dX5_leaseHolds_4 : decode cX5_leaseHolds 4 = .ok (.iload_n 1, 1) := by decide +kernel
theorem dX5_leaseHolds_5 : decode cX5_leaseHolds 5 = .ok (.invokevirtual 79, 3) := by decide +kernel
theorem dX5_leaseHolds_8 : decode cX5_leaseHolds 8 = .ok (.ifCond .ne 5, 3) := by decide +kernel
theorem dX5_leaseHolds_11 : decode cX5_leaseHolds 11 = .ok (.iconst 0, 1) := by decide +kernel
theorem dX5_leaseHolds_12 : decode cX5_leaseHolds 12 = .ok (.ireturn, 1) := by decide +kernel
theorem dX5_leaseHolds_13 : decode cX5_leaseHolds 13 = .ok (.aload_n 0, 1) := by decide +kernel
theorem dX5_leaseHolds_14 : decode cX5_leaseHolds 14 = .ok (.getfield 37, 3) := by decide +kernel
theorem dX5_leaseHolds_17 : decode cX5_leaseHolds 17 = .ok (.getfield 238, 3) := by decide +kernel
theorem dX5_leaseHolds_20 : decode cX5_leaseHolds 20 = .ok (.iload_n 1, 1) := by decide +kernel
theorem dX5_leaseHolds_21 : decode cX5_leaseHolds 21 = .ok (.iaload, 1) := by decide +kernel
theorem dX5_leaseHolds_22 : decode cX5_leaseHolds 22 = .ok (.istore_n 2, 1) := by decide +kernel
theorem dX5_leaseHolds_23 : decode cX5_leaseHolds 23 = .ok (.iload_n 2, 1) := by decide +kernel
theorem dX5_leaseHolds_24 : decode cX5_leaseHolds 24 = .ok (.iconst (-1), 1) := by decide +kernel
theorem dX5_leaseHolds_25 : decode cX5_leaseHolds 25 = .ok (.if_icmp .eq 43, 3) := by decide +kernel
theorem dX5_leaseHolds_28 : decode cX5_leaseHolds 28 = .ok (.aload_n 0, 1) := by decide +kernel
theorem dX5_leaseHolds_29 : decode cX5_leaseHolds 29 = .ok (.getfield 24, 3) := by decide +kernel
theorem dX5_leaseHolds_32 : decode cX5_leaseHolds 32 = .ok (.aload_n 0, 1) := by decide +kernel
theorem dX5_leaseHolds_33 : decode cX5_leaseHolds 33 = .ok (.getfield 37, 3) := by decide +kernel
theorem dX5_leaseHolds_36 : decode cX5_leaseHolds 36 = .ok (.getfield 241, 3) := by decide +kernel
theorem dX5_leaseHolds_39 : decode cX5_leaseHolds 39 = .ok (.iload_n 1, 1) := by decide +kernel
theorem dX5_leaseHolds_40 : decode cX5_leaseHolds 40 = .ok (.iaload, 1) := by decide +kernel
theorem dX5_leaseHolds_41 : decode cX5_leaseHolds 41 = .ok (.if_icmp .ge 27, 3) := by decide +kernel
theorem dX5_leaseHolds_44 : decode cX5_leaseHolds 44 = .ok (.aload_n 0, 1) := by decide +kernel
theorem dX5_leaseHolds_45 : decode cX5_leaseHolds 45 = .ok (.getfield 30, 3) := by decide +kernel
theorem dX5_leaseHolds_48 : decode cX5_leaseHolds 48 = .ok (.iload_n 2, 1) := by decide +kernel
theorem dX5_leaseHolds_49 : decode cX5_leaseHolds 49 = .ok (.invokevirtual 160, 3) := by decide +kernel
theorem dX5_leaseHolds_52 : decode cX5_leaseHolds 52 = .ok (.ifCond .eq 16, 3) := by decide +kernel
theorem dX5_leaseHolds_55 : decode cX5_leaseHolds 55 = .ok (.aload_n 0, 1) := by decide +kernel
theorem dX5_leaseHolds_56 : decode cX5_leaseHolds 56 = .ok (.iload_n 2, 1) := by decide +kernel
theorem dX5_leaseHolds_57 : decode cX5_leaseHolds 57 = .ok (.iload_n 1, 1) := by decide +kernel
theorem dX5_leaseHolds_58 : decode cX5_leaseHolds 58 = .ok (.invokevirtual 95, 3) := by decide +kernel
theorem dX5_leaseHolds_61 : decode cX5_leaseHolds 61 = .ok (.ifCond .eq 7, 3) := by decide +kernel
theorem dX5_leaseHolds_64 : decode cX5_leaseHolds 64 = .ok (.iconst 1, 1) := by decide +kernel
theorem dX5_leaseHolds_65 : decode cX5_leaseHolds 65 = .ok (.goto 4, 3) := by decide +kernel
theorem dX5_leaseHolds_68 : decode cX5_leaseHolds 68 = .ok (.iconst 0, 1) := by decide +kernel
theorem dX5_leaseHolds_69 : decode cX5_leaseHolds 69 = .ok (.ireturn, 1) := by decide +kernel
set_option maxRecDepth 20000 in
theorem ggX5_giveLease_X5_able : GoodIn wsX5_giveLease wsX5_able := goodIn_r _ [14, 3, 15, 16, 17, 18, 13, 19, 1, 2, 4, 5, 20, 21, 22, 23, 24, 25, 26, 27, 28, 29, 30, 31, 32, 33, 34, 61, 62, 63, 64, 65, 66, 67, 68, 69, 75, 76, 77, 78, 70, 71, 72, 73, 74, 79, 80, 81] (by decide +kernel) (by decide +kernel)
set_option maxRecDepth 20000 in
theorem gX5_giveLease_X5_able : GoodIn wsX5_giveLease (wsV RX5 136 RX5 yX5_able wsX5_able) := goodIn_app (goodIn_of _ (by decide +kernel)) ggX5_giveLease_X5_able
set_option maxRecDepth 20000 in
theorem ggX5_giveLease_X1_has : GoodIn wsX5_giveLease wsX1_has := goodIn_r _ [24, 25, 70, 71, 72, 73, 74] (by decide +kernel) (by decide +kernel)
set_option maxRecDepth 20000 in
theorem gX5_giveLease_X1_has : GoodIn wsX5_giveLease (wsV RX5 79 RX1 yX1_has wsX1_has) := goodIn_app (goodIn_of _ (by decide +kernel)) ggX5_giveLease_X1_has
set_option maxRecDepth 20000 in
theorem ggX5_giveLease_X10_isIn : GoodIn wsX5_giveLease wsX10_isIn := goodIn_r _ [37] (by decide +kernel) (by decide +kernel)
set_option maxRecDepth 20000 in
theorem gX5_giveLease_X10_isIn_n117 : GoodIn wsX5_giveLease (wsX10_isIn) := ggX5_giveLease_X10_isIn
set_option maxRecDepth 20000 in
theorem ggX5_giveLease_X2_setVersion : GoodIn wsX5_giveLease wsX2_setVersion := goodIn_r _ [41, 31, 32, 33, 29, 34, 79, 80, 81] (by decide +kernel) (by decide +kernel)
set_option maxRecDepth 20000 in
theorem gX5_giveLease_X2_setVersion : GoodIn wsX5_giveLease (wsV RX5 244 RX2 yX2_setVersion wsX2_setVersion) := goodIn_app (goodIn_of _ (by decide +kernel)) ggX5_giveLease_X2_setVersion
set_option maxRecDepth 20000 in
theorem ggX5_giveLease_X5_best : GoodIn wsX5_giveLease wsX5_best := goodIn_r _ [45, 3, 4, 35, 36, 37, 46, 47, 48, 13, 49, 5, 50, 51, 52, 29, 53, 31, 54, 55, 56, 57, 58, 59, 60, 61, 62, 63, 64, 65, 66, 67, 68, 69, 75, 76, 77, 78, 79, 80, 81] (by decide +kernel) (by decide +kernel)
set_option maxRecDepth 20000 in
theorem gX5_giveLease_X5_best : GoodIn wsX5_giveLease (wsV RX5 200 RX5 yX5_best wsX5_best) := goodIn_app (goodIn_of _ (by decide +kernel)) ggX5_giveLease_X5_best
theorem dX5_giveLease_0 : decode cX5_giveLease 0 = .ok (.aload_n 0, 1) := by decide +kernel
theorem dX5_giveLease_1 : decode cX5_giveLease 1 = .ok (.iload_n 1, 1) := by decide +kernel
theorem dX5_giveLease_2 : decode cX5_giveLease 2 = .ok (.invokevirtual 136, 3) := by decide +kernel
theorem dX5_giveLease_5 : decode cX5_giveLease 5 = .ok (.istore_n 2, 1) := by decide +kernel
theorem dX5_giveLease_6 : decode cX5_giveLease 6 = .ok (.iload_n 2, 1) := by decide +kernel
theorem dX5_giveLease_7 : decode cX5_giveLease 7 = .ok (.ifCond .eq 14, 3) := by decide +kernel
theorem dX5_giveLease_10 : decode cX5_giveLease 10 = .ok (.aload_n 0, 1) := by decide +kernel
theorem dX5_giveLease_11 : decode cX5_giveLease 11 = .ok (.getfield 37, 3) := by decide +kernel
theorem dX5_giveLease_14 : decode cX5_giveLease 14 = .ok (.iload_n 1, 1) := by decide +kernel
theorem dX5_giveLease_15 : decode cX5_giveLease 15 = .ok (.invokevirtual 79, 3) := by decide +kernel
theorem dX5_giveLease_18 : decode cX5_giveLease 18 = .ok (.ifCond .ne 5, 3) := by decide +kernel
theorem dX5_giveLease_21 : decode cX5_giveLease 21 = .ok (.iconst 0, 1) := by decide +kernel
theorem dX5_giveLease_22 : decode cX5_giveLease 22 = .ok (.ireturn, 1) := by decide +kernel
theorem dX5_giveLease_23 : decode cX5_giveLease 23 = .ok (.aload_n 0, 1) := by decide +kernel
theorem dX5_giveLease_24 : decode cX5_giveLease 24 = .ok (.getfield 37, 3) := by decide +kernel
theorem dX5_giveLease_27 : decode cX5_giveLease 27 = .ok (.getfield 87, 3) := by decide +kernel
theorem dX5_giveLease_30 : decode cX5_giveLease 30 = .ok (.iload_n 1, 1) := by decide +kernel
theorem dX5_giveLease_31 : decode cX5_giveLease 31 = .ok (.dup2, 1) := by decide +kernel
theorem dX5_giveLease_32 : decode cX5_giveLease 32 = .ok (.iaload, 1) := by decide +kernel
theorem dX5_giveLease_33 : decode cX5_giveLease 33 = .ok (.iconst 1, 1) := by decide +kernel
theorem dX5_giveLease_34 : decode cX5_giveLease 34 = .ok (.iadd, 1) := by decide +kernel
theorem dX5_giveLease_35 : decode cX5_giveLease 35 = .ok (.iastore, 1) := by decide +kernel
theorem dX5_giveLease_36 : decode cX5_giveLease 36 = .ok (.iconst 0, 1) := by decide +kernel
theorem dX5_giveLease_37 : decode cX5_giveLease 37 = .ok (.istore_n 3, 1) := by decide +kernel
theorem dX5_giveLease_38 : decode cX5_giveLease 38 = .ok (.iload_n 3, 1) := by decide +kernel
theorem dX5_giveLease_39 : decode cX5_giveLease 39 = .ok (.aload_n 0, 1) := by decide +kernel
theorem dX5_giveLease_40 : decode cX5_giveLease 40 = .ok (.getfield 30, 3) := by decide +kernel
theorem dX5_giveLease_43 : decode cX5_giveLease 43 = .ok (.getfield 98, 3) := by decide +kernel
theorem dX5_giveLease_46 : decode cX5_giveLease 46 = .ok (.if_icmp .ge 35, 3) := by decide +kernel
theorem dX5_giveLease_49 : decode cX5_giveLease 49 = .ok (.iload_n 2, 1) := by decide +kernel
theorem dX5_giveLease_50 : decode cX5_giveLease 50 = .ok (.iload_n 3, 1) := by decide +kernel
theorem dX5_giveLease_51 : decode cX5_giveLease 51 = .ok (.invokestatic 117, 3) := by decide +kernel
theorem dX5_giveLease_54 : decode cX5_giveLease 54 = .ok (.ifCond .eq 21, 3) := by decide +kernel
theorem dX5_giveLease_57 : decode cX5_giveLease 57 = .ok (.aload_n 0, 1) := by decide +kernel
theorem dX5_giveLease_58 : decode cX5_giveLease 58 = .ok (.getfield 44, 3) := by decide +kernel
theorem dX5_giveLease_61 : decode cX5_giveLease 61 = .ok (.iload_n 3, 1) := by decide +kernel
theorem dX5_giveLease_62 : decode cX5_giveLease 62 = .ok (.iload_n 1, 1) := by decide +kernel
theorem dX5_giveLease_63 : decode cX5_giveLease 63 = .ok (.aload_n 0, 1) := by decide +kernel
theorem dX5_giveLease_64 : decode cX5_giveLease 64 = .ok (.getfield 37, 3) := by decide +kernel
theorem dX5_giveLease_67 : decode cX5_giveLease 67 = .ok (.getfield 87, 3) := by decide +kernel
theorem dX5_giveLease_70 : decode cX5_giveLease 70 = .ok (.iload_n 1, 1) := by decide +kernel
theorem dX5_giveLease_71 : decode cX5_giveLease 71 = .ok (.iaload, 1) := by decide +kernel
theorem dX5_giveLease_72 : decode cX5_giveLease 72 = .ok (.invokevirtual 244, 3) := by decide +kernel
theorem dX5_giveLease_75 : decode cX5_giveLease 75 = .ok (.iinc 3 1, 3) := by decide +kernel
theorem dX5_giveLease_78 : decode cX5_giveLease 78 = .ok (.goto (-40), 3) := by decide +kernel
theorem dX5_giveLease_81 : decode cX5_giveLease 81 = .ok (.aload_n 0, 1) := by decide +kernel
theorem dX5_giveLease_82 : decode cX5_giveLease 82 = .ok (.getfield 37, 3) := by decide +kernel
theorem dX5_giveLease_85 : decode cX5_giveLease 85 = .ok (.getfield 238, 3) := by decide +kernel
theorem dX5_giveLease_88 : decode cX5_giveLease 88 = .ok (.iload_n 1, 1) := by decide +kernel
theorem dX5_giveLease_89 : decode cX5_giveLease 89 = .ok (.aload_n 0, 1) := by decide +kernel
theorem dX5_giveLease_90 : decode cX5_giveLease 90 = .ok (.iload_n 2, 1) := by decide +kernel
theorem dX5_giveLease_91 : decode cX5_giveLease 91 = .ok (.invokevirtual 200, 3) := by decide +kernel
theorem dX5_giveLease_94 : decode cX5_giveLease 94 = .ok (.iastore, 1) := by decide +kernel
theorem dX5_giveLease_95 : decode cX5_giveLease 95 = .ok (.aload_n 0, 1) := by decide +kernel
theorem dX5_giveLease_96 : decode cX5_giveLease 96 = .ok (.getfield 37, 3) := by decide +kernel
theorem dX5_giveLease_99 : decode cX5_giveLease 99 = .ok (.getfield 241, 3) := by decide +kernel
theorem dX5_giveLease_102 : decode cX5_giveLease 102 = .ok (.iload_n 1, 1) := by decide +kernel
theorem dX5_giveLease_103 : decode cX5_giveLease 103 = .ok (.aload_n 0, 1) := by decide +kernel
theorem dX5_giveLease_104 : decode cX5_giveLease 104 = .ok (.getfield 24, 3) := by decide +kernel
theorem dX5_giveLease_107 : decode cX5_giveLease 107 = .ok (.aload_n 0, 1) := by decide +kernel
theorem dX5_giveLease_108 : decode cX5_giveLease 108 = .ok (.getfield 18, 3) := by decide +kernel
theorem dX5_giveLease_111 : decode cX5_giveLease 111 = .ok (.iadd, 1) := by decide +kernel
theorem dX5_giveLease_112 : decode cX5_giveLease 112 = .ok (.iastore, 1) := by decide +kernel
theorem dX5_giveLease_113 : decode cX5_giveLease 113 = .ok (.iconst 1, 1) := by decide +kernel
theorem dX5_giveLease_114 : decode cX5_giveLease 114 = .ok (.ireturn, 1) := by decide +kernel
set_option maxRecDepth 20000 in
theorem ggX5_addRecord_X3_lastChunk : GoodIn wsX5_addRecord wsX3_lastChunk := goodIn_r _ [10, 11, 12, 13, 14, 15, 16, 17, 18, 19, 20, 9, 21, 22, 238, 239, 240, 241, 242] (by decide +kernel) (by decide +kernel)
set_option maxRecDepth 20000 in
theorem gX5_addRecord_X3_lastChunk : GoodIn wsX5_addRecord (wsV RX5 191 RX3 yX3_lastChunk wsX3_lastChunk) := goodIn_app (goodIn_of _ (by decide +kernel)) ggX5_addRecord_X3_lastChunk
set_option maxRecDepth 20000 in
theorem ggX5_addRecord_X5_addNewChunk : GoodIn wsX5_addRecord wsX5_addNewChunk := goodIn_r _ [27, 28, 1, 29, 30, 3, 31, 32, 33, 34, 35, 36, 37, 38, 39, 40, 41, 42, 9, 43, 11, 12, 13, 14, 15, 16, 17, 44, 45, 46, 26, 47, 48, 49, 50, 51, 52, 53, 54, 55, 56, 57, 58, 59, 60, 61, 62, 63, 64, 65, 66, 67, 68, 69, 70, 71, 72, 73, 74, 75, 76, 77, 78, 79, 80, 81, 82, 83, 84, 85, 86, 87, 88, 89, 90, 91, 92, 93, 94, 95, 96, 97, 98, 99, 100, 101, 102, 103, 104, 105, 106, 107, 108, 109, 110, 111, 112, 113, 114, 115, 116, 117, 118, 119, 120, 121, 122, 123, 124, 125, 126, 127, 22, 128, 229, 230, 231, 232, 233, 234, 235, 236, 237, 238, 239, 240, 241, 242, 243, 244, 245, 246, 247, 248, 249, 250, 251, 252, 253, 254] (by decide +kernel) (by decide +kernel)
set_option maxRecDepth 20000 in
theorem gX5_addRecord_X5_addNewChunk : GoodIn wsX5_addRecord (wsV RX5 247 RX5 yX5_addNewChunk wsX5_addNewChunk) := goodIn_app (goodIn_of _ (by decide +kernel)) ggX5_addRecord_X5_addNewChunk
set_option maxRecDepth 20000 in
theorem ggX5_addRecord_X5_own : GoodIn wsX5_addRecord wsX5_own := goodIn_r _ [132, 1, 28, 29, 3, 31, 32, 33, 133, 19, 20, 9, 21, 11, 22, 12, 13, 14, 15, 16, 17, 134, 135, 136, 37, 137, 90, 98, 99, 100, 101, 39, 34, 35, 36, 38, 138, 139, 140, 26, 141, 48, 142, 143, 144, 145, 146, 147, 148, 149, 150, 75, 151, 77, 112, 113, 114, 85, 86, 87, 88, 89, 91, 92, 93, 94, 95, 96, 97, 66, 67, 152, 153, 154, 155, 156, 157, 158, 159, 111, 106, 107, 108, 109, 110, 160, 161, 162, 163, 119, 115, 116, 117, 118, 120, 121, 122, 123, 164, 165, 166, 167, 168, 169, 170, 171, 18, 229, 230, 231, 232, 233, 234, 235, 236, 237, 243, 244, 245, 246, 238, 239, 240, 241, 242, 247, 248, 249, 250, 251, 252, 253, 254] (by decide +kernel) (by decide +kernel)
set_option maxRecDepth 20000 in
theorem gX5_addRecord_X5_own : GoodIn wsX5_addRecord (wsV RX5 250 RX5 yX5_own wsX5_own) := goodIn_app (goodIn_of _ (by decide +kernel)) ggX5_addRecord_X5_own
set_option maxRecDepth 20000 in
theorem ggX5_addRecord_X5_leaseHolds : GoodIn wsX5_addRecord wsX5_leaseHolds := goodIn_r _ [175, 28, 176, 177, 178, 31, 147, 99, 100, 37, 101, 39, 179, 180, 181, 81, 182, 183, 184, 185, 186, 187, 83, 66, 13, 67, 188, 189, 190, 26, 191, 33, 146, 148, 149, 150, 75, 151, 77, 112, 113, 114, 229, 230, 231, 232, 233, 234, 235, 236, 237, 247, 248, 249, 250, 251, 243, 244, 245, 246, 252, 253, 254] (by decide +kernel) (by decide +kernel)
set_option maxRecDepth 20000 in
theorem gX5_addRecord_X5_leaseHolds : GoodIn wsX5_addRecord (wsV RX5 253 RX5 yX5_leaseHolds wsX5_leaseHolds) := goodIn_app (goodIn_of _ (by decide +kernel)) ggX5_addRecord_X5_leaseHolds
set_option maxRecDepth 20000 in
theorem ggX5_addRecord_X5_giveLease : GoodIn wsX5_addRecord wsX5_giveLease := goodIn_r _ [195, 28, 146, 31, 32, 33, 176, 178, 177, 196, 138, 139, 140, 26, 141, 48, 142, 143, 144, 145, 147, 99, 100, 37, 101, 39, 148, 149, 150, 75, 151, 77, 112, 113, 114, 66, 13, 67, 197, 121, 122, 123, 62, 63, 64, 65, 68, 69, 70, 71, 72, 73, 74, 76, 78, 79, 80, 81, 82, 83, 84, 229, 230, 231, 232, 233, 234, 235, 236, 237, 247, 248, 249, 250, 251, 243, 244, 245, 246, 252, 253, 254] (by decide +kernel) (by decide +kernel)
set_option maxRecDepth 20000 in
theorem gX5_addRecord_X5_giveLease : GoodIn wsX5_addRecord (wsV RX5 256 RX5 yX5_giveLease wsX5_giveLease) := goodIn_app (goodIn_of _ (by decide +kernel)) ggX5_addRecord_X5_giveLease
set_option maxRecDepth 20000 in
theorem ggX5_addRecord_X5_greatestFilled : GoodIn wsX5_addRecord wsX5_greatestFilled := goodIn_r _ [201, 31, 32, 33, 202, 203, 204, 205, 138, 139, 140, 26, 141, 48, 142, 143, 144, 145, 28, 146, 147, 99, 100, 37, 101, 39, 148, 149, 150, 75, 151, 77, 112, 113, 114, 66, 13, 67, 206, 161, 162, 163, 119, 229, 230, 231, 232, 233, 234, 235, 236, 237, 243, 244, 245, 246, 247, 248, 249, 250, 251, 252, 253, 254] (by decide +kernel) (by decide +kernel)
set_option maxRecDepth 20000 in
theorem gX5_addRecord_X5_greatestFilled : GoodIn wsX5_addRecord (wsV RX5 194 RX5 yX5_greatestFilled wsX5_greatestFilled) := goodIn_app (goodIn_of _ (by decide +kernel)) ggX5_addRecord_X5_greatestFilled
set_option maxRecDepth 20000 in
theorem ggX5_addRecord_X5_padAll : GoodIn wsX5_addRecord wsX5_padAll := goodIn_r _ [210, 31, 32, 33, 4, 138, 139, 140, 26, 141, 48, 142, 143, 144, 145, 28, 146, 147, 99, 100, 37, 101, 39, 148, 149, 150, 75, 151, 77, 112, 113, 114, 66, 13, 67, 211, 212, 213, 214, 106, 156, 157, 158, 159, 111, 107, 108, 109, 110, 115, 116, 117, 118, 119, 229, 230, 231, 232, 233, 234, 235, 236, 237, 243, 244, 245, 246, 247, 248, 249, 250, 251, 252, 253, 254] (by decide +kernel) (by decide +kernel)
set_option maxRecDepth 20000 in
theorem gX5_addRecord_X5_padAll : GoodIn wsX5_addRecord (wsV RX5 259 RX5 yX5_padAll wsX5_padAll) := goodIn_app (goodIn_of _ (by decide +kernel)) ggX5_addRecord_X5_padAll
set_option maxRecDepth 20000 in
theorem ggX5_addRecord_X5_tryToWrite : GoodIn wsX5_addRecord wsX5_tryToWrite := goodIn_r _ [218, 28, 176, 31, 33, 32, 147, 99, 100, 37, 101, 39, 219, 220, 221, 81, 222, 223, 184, 185, 186, 187, 83, 224, 225, 226, 75, 227, 107, 108, 109, 110, 111, 112, 113, 114, 115, 116, 117, 118, 119, 142, 143, 144, 26, 145, 146, 148, 149, 150, 151, 77, 66, 13, 67, 179, 180, 181, 182, 183, 228, 93, 94, 95, 96, 97, 98, 229, 230, 231, 232, 233, 234, 235, 236, 237, 247, 248, 249, 250, 251, 243, 244, 245, 246, 252, 253, 254] (by decide +kernel) (by decide +kernel)
set_option maxRecDepth 20000 in
theorem gX5_addRecord_X5_tryToWrite : GoodIn wsX5_addRecord (wsV RX5 262 RX5 yX5_tryToWrite wsX5_tryToWrite) := goodIn_app (goodIn_of _ (by decide +kernel)) ggX5_addRecord_X5_tryToWrite
theorem dX5_addRecord_0 : decode cX5_addRecord 0 = .ok (.aload_n 0, 1) := by decide +kernel
theorem dX5_addRecord_1 : decode cX5_addRecord 1 = .ok (.getfield 51, 3) := by decide +kernel
theorem dX5_addRecord_4 : decode cX5_addRecord 4 = .ok (.iload_n 1, 1) := by decide +kernel
theorem dX5_addRecord_5 : decode cX5_addRecord 5 = .ok (.invokevirtual 191, 3) := by decide +kernel
theorem dX5_addRecord_8 : decode cX5_addRecord 8 = .ok (.iconst (-1), 1) := by decide +kernel
theorem dX5_addRecord_9 : decode cX5_addRecord 9 = .ok (.if_icmp .ne 7, 3) := by decide +kernel
theorem dX5_addRecord_12 : decode cX5_addRecord 12 = .ok (.iconst 1, 1) := by decide +kernel
theorem dX5_addRecord_13 : decode cX5_addRecord 13 = .ok (.goto 4, 3) := by decide +kernel
theorem dX5_addRecord_16 : decode cX5_addRecord 16 = .ok (.iconst 0, 1) := by decide +kernel
theorem dX5_addRecord_17 : decode cX5_addRecord 17 = .ok (.istore 4, 2) := by decide +kernel
theorem dX5_addRecord_19 : decode cX5_addRecord 19 = .ok (.iload 4, 2) := by decide +kernel
theorem dX5_addRecord_21 : decode cX5_addRecord 21 = .ok (.ifCond .eq 11, 3) := by decide +kernel
theorem dX5_addRecord_24 : decode cX5_addRecord 24 = .ok (.aload_n 0, 1) := by decide +kernel
theorem dX5_addRecord_25 : decode cX5_addRecord 25 = .ok (.iload_n 1, 1) := by decide +kernel
theorem dX5_addRecord_26 : decode cX5_addRecord 26 = .ok (.invokevirtual 247, 3) := by decide +kernel
theorem dX5_addRecord_29 : decode cX5_addRecord 29 = .ok (.goto 19, 3) := by decide +kernel
theorem dX5_addRecord_32 : decode cX5_addRecord 32 = .ok (.aload_n 0, 1) := by decide +kernel
theorem dX5_addRecord_33 : decode cX5_addRecord 33 = .ok (.iload_n 1, 1) := by decide +kernel
theorem dX5_addRecord_34 : decode cX5_addRecord 34 = .ok (.aload_n 0, 1) := by decide +kernel
theorem dX5_addRecord_35 : decode cX5_addRecord 35 = .ok (.getfield 51, 3) := by decide +kernel
theorem dX5_addRecord_38 : decode cX5_addRecord 38 = .ok (.getfield 158, 3) := by decide +kernel
theorem dX5_addRecord_41 : decode cX5_addRecord 41 = .ok (.iload_n 1, 1) := by decide +kernel
theorem dX5_addRecord_42 : decode cX5_addRecord 42 = .ok (.iaload, 1) := by decide +kernel
theorem dX5_addRecord_43 : decode cX5_addRecord 43 = .ok (.iconst 1, 1) := by decide +kernel
theorem dX5_addRecord_44 : decode cX5_addRecord 44 = .ok (.isub, 1) := by decide +kernel
theorem dX5_addRecord_45 : decode cX5_addRecord 45 = .ok (.invokevirtual 250, 3) := by decide +kernel
theorem dX5_addRecord_48 : decode cX5_addRecord 48 = .ok (.istore 5, 2) := by decide +kernel
theorem dX5_addRecord_50 : decode cX5_addRecord 50 = .ok (.iconst 0, 1) := by decide +kernel
theorem dX5_addRecord_51 : decode cX5_addRecord 51 = .ok (.istore 6, 2) := by decide +kernel
theorem dX5_addRecord_53 : decode cX5_addRecord 53 = .ok (.iconst 0, 1) := by decide +kernel
theorem dX5_addRecord_54 : decode cX5_addRecord 54 = .ok (.istore 7, 2) := by decide +kernel
theorem dX5_addRecord_56 : decode cX5_addRecord 56 = .ok (.iload 7, 2) := by decide +kernel
theorem dX5_addRecord_58 : decode cX5_addRecord 58 = .ok (.bipush 6, 2) := by decide +kernel
theorem dX5_addRecord_60 : decode cX5_addRecord 60 = .ok (.if_icmp .ge 124, 3) := by decide +kernel
theorem dX5_addRecord_63 : decode cX5_addRecord 63 = .ok (.iload 6, 2) := by decide +kernel
theorem dX5_addRecord_65 : decode cX5_addRecord 65 = .ok (.iconst 3, 1) := by decide +kernel
theorem dX5_addRecord_66 : decode cX5_addRecord 66 = .ok (.if_icmp .ge 118, 3) := by decide +kernel
theorem dX5_addRecord_69 : decode cX5_addRecord 69 = .ok (.iload 5, 2) := by decide +kernel
theorem dX5_addRecord_71 : decode cX5_addRecord 71 = .ok (.ifCond .ne 113, 3) := by decide +kernel
theorem dX5_addRecord_74 : decode cX5_addRecord 74 = .ok (.aload_n 0, 1) := by decide +kernel
theorem dX5_addRecord_75 : decode cX5_addRecord 75 = .ok (.getfield 51, 3) := by decide +kernel
theorem dX5_addRecord_78 : decode cX5_addRecord 78 = .ok (.iload_n 1, 1) := by decide +kernel
theorem dX5_addRecord_79 : decode cX5_addRecord 79 = .ok (.invokevirtual 191, 3) := by decide +kernel
theorem dX5_addRecord_82 : decode cX5_addRecord 82 = .ok (.istore 8, 2) := by decide +kernel
theorem dX5_addRecord_84 : decode cX5_addRecord 84 = .ok (.aload_n 0, 1) := by decide +kernel
theorem dX5_addRecord_85 : decode cX5_addRecord 85 = .ok (.iload 8, 2) := by decide +kernel
theorem dX5_addRecord_87 : decode cX5_addRecord 87 = .ok (.invokevirtual 253, 3) := by decide +kernel
theorem dX5_addRecord_90 : decode cX5_addRecord 90 = .ok (.ifCond .ne 15, 3) := by decide +kernel
theorem dX5_addRecord_93 : decode cX5_addRecord 93 = .ok (.aload_n 0, 1) := by decide +kernel
theorem dX5_addRecord_94 : decode cX5_addRecord 94 = .ok (.iload 8, 2) := by decide +kernel
theorem dX5_addRecord_96 : decode cX5_addRecord 96 = .ok (.invokevirtual 256, 3) := by decide +kernel
theorem dX5_addRecord_99 : decode cX5_addRecord 99 = .ok (.ifCond .ne 6, 3) := by decide +kernel
theorem dX5_addRecord_102 : decode cX5_addRecord 102 = .ok (.ldc 182, 2) := by decide +kernel
theorem dX5_addRecord_104 : decode cX5_addRecord 104 = .ok (.ireturn, 1) := by decide +kernel
theorem dX5_addRecord_105 : decode cX5_addRecord 105 = .ok (.aload_n 0, 1) := by decide +kernel
theorem dX5_addRecord_106 : decode cX5_addRecord 106 = .ok (.iload 8, 2) := by decide +kernel
theorem dX5_addRecord_108 : decode cX5_addRecord 108 = .ok (.invokevirtual 194, 3) := by decide +kernel
theorem dX5_addRecord_111 : decode cX5_addRecord 111 = .ok (.istore 9, 2) := by decide +kernel
theorem dX5_addRecord_113 : decode cX5_addRecord 113 = .ok (.iload 9, 2) := by decide +kernel
theorem dX5_addRecord_115 : decode cX5_addRecord 115 = .ok (.iload_n 3, 1) := by decide +kernel
theorem dX5_addRecord_116 : decode cX5_addRecord 116 = .ok (.iadd, 1) := by decide +kernel
theorem dX5_addRecord_117 : decode cX5_addRecord 117 = .ok (.aload_n 0, 1) := by decide +kernel
theorem dX5_addRecord_118 : decode cX5_addRecord 118 = .ok (.getfield 15, 3) := by decide +kernel
theorem dX5_addRecord_121 : decode cX5_addRecord 121 = .ok (.if_icmp .le 21, 3) := by decide +kernel
theorem dX5_addRecord_124 : decode cX5_addRecord 124 = .ok (.aload_n 0, 1) := by decide +kernel
theorem dX5_addRecord_125 : decode cX5_addRecord 125 = .ok (.iload 8, 2) := by decide +kernel
theorem dX5_addRecord_127 : decode cX5_addRecord 127 = .ok (.iload 9, 2) := by decide +kernel
theorem dX5_addRecord_129 : decode cX5_addRecord 129 = .ok (.invokevirtual 259, 3) := by decide +kernel
theorem dX5_addRecord_132 : decode cX5_addRecord 132 = .ok (.aload_n 0, 1) := by decide +kernel
theorem dX5_addRecord_133 : decode cX5_addRecord 133 = .ok (.iload_n 1, 1) := by decide +kernel
theorem dX5_addRecord_134 : decode cX5_addRecord 134 = .ok (.invokevirtual 247, 3) := by decide +kernel
theorem dX5_addRecord_137 : decode cX5_addRecord 137 = .ok (.istore 5, 2) := by decide +kernel
theorem dX5_addRecord_139 : decode cX5_addRecord 139 = .ok (.goto 39, 3) := by decide +kernel
theorem dX5_addRecord_142 : decode cX5_addRecord 142 = .ok (.iinc 6 1, 3) := by decide +kernel
theorem dX5_addRecord_145 : decode cX5_addRecord 145 = .ok (.aload_n 0, 1) := by decide +kernel
theorem dX5_addRecord_146 : decode cX5_addRecord 146 = .ok (.iload 8, 2) := by decide +kernel
theorem dX5_addRecord_148 : decode cX5_addRecord 148 = .ok (.iload 9, 2) := by decide +kernel
theorem dX5_addRecord_150 : decode cX5_addRecord 150 = .ok (.aload_n 2, 1) := by decide +kernel
theorem dX5_addRecord_151 : decode cX5_addRecord 151 = .ok (.iload_n 3, 1) := by decide +kernel
theorem dX5_addRecord_152 : decode cX5_addRecord 152 = .ok (.invokevirtual 262, 3) := by decide +kernel
theorem dX5_addRecord_155 : decode cX5_addRecord 155 = .ok (.ifCond .eq 23, 3) := by decide +kernel
theorem dX5_addRecord_158 : decode cX5_addRecord 158 = .ok (.aload_n 0, 1) := by decide +kernel
theorem dX5_addRecord_159 : decode cX5_addRecord 159 = .ok (.getfield 15, 3) := by decide +kernel
theorem dX5_addRecord_162 : decode cX5_addRecord 162 = .ok (.aload_n 0, 1) := by decide +kernel
theorem dX5_addRecord_163 : decode cX5_addRecord 163 = .ok (.getfield 51, 3) := by decide +kernel
theorem dX5_addRecord_166 : decode cX5_addRecord 166 = .ok (.getfield 158, 3) := by decide +kernel
theorem dX5_addRecord_169 : decode cX5_addRecord 169 = .ok (.iload_n 1, 1) := by decide +kernel
theorem dX5_addRecord_170 : decode cX5_addRecord 170 = .ok (.iaload, 1) := by decide +kernel
theorem dX5_addRecord_171 : decode cX5_addRecord 171 = .ok (.iconst 1, 1) := by decide +kernel
theorem dX5_addRecord_172 : decode cX5_addRecord 172 = .ok (.isub, 1) := by decide +kernel
theorem dX5_addRecord_173 : decode cX5_addRecord 173 = .ok (.imul, 1) := by decide +kernel
theorem dX5_addRecord_174 : decode cX5_addRecord 174 = .ok (.iload 9, 2) := by decide +kernel
theorem dX5_addRecord_176 : decode cX5_addRecord 176 = .ok (.iadd, 1) := by decide +kernel
theorem dX5_addRecord_177 : decode cX5_addRecord 177 = .ok (.ireturn, 1) := by decide +kernel
theorem dX5_addRecord_178 : decode cX5_addRecord 178 = .ok (.iinc 7 1, 3) := by decide +kernel
theorem dX5_addRecord_181 : decode cX5_addRecord 181 = .ok (.goto (-125), 3) := by decide +kernel
theorem dX5_addRecord_184 : decode cX5_addRecord 184 = .ok (.iload 5, 2) := by decide +kernel
theorem dX5_addRecord_186 : decode cX5_addRecord 186 = .ok (.ifCond .eq 8, 3) := by decide +kernel
theorem dX5_addRecord_189 : decode cX5_addRecord 189 = .ok (.iload 5, 2) := by decide +kernel
theorem dX5_addRecord_191 : decode cX5_addRecord 191 = .ok (.goto 6, 3) := by decide +kernel
theorem dX5_addRecord_194 : decode cX5_addRecord 194 = .ok (.ldc_w 266, 3) := by decide +kernel
theorem dX5_addRecord_197 : decode cX5_addRecord 197 = .ok (.ireturn, 1) := by decide +kernel
set_option maxRecDepth 20000 in
theorem ggX5_padAll_X5_able : GoodIn wsX5_padAll wsX5_able := goodIn_r _ [9, 1, 10, 11, 12, 13, 8, 14, 15, 16, 2, 3, 17, 18, 19, 20, 21, 22, 23, 24, 25, 26, 27, 28, 29, 30, 31, 54, 55, 56, 57, 58, 59, 60, 61, 62, 63, 64, 65, 66, 67, 68, 69, 70, 71, 72, 73, 74] (by decide +kernel) (by decide +kernel)
set_option maxRecDepth 20000 in
theorem gX5_padAll_X5_able : GoodIn wsX5_padAll (wsV RX5 136 RX5 yX5_able wsX5_able) := goodIn_app (goodIn_of _ (by decide +kernel)) ggX5_padAll_X5_able
set_option maxRecDepth 20000 in
theorem ggX5_padAll_X10_isIn : GoodIn wsX5_padAll wsX10_isIn := goodIn_r _ [34] (by decide +kernel) (by decide +kernel)
set_option maxRecDepth 20000 in
theorem gX5_padAll_X10_isIn_n117 : GoodIn wsX5_padAll (wsX10_isIn) := ggX5_padAll_X10_isIn
set_option maxRecDepth 20000 in
theorem ggX5_padAll_X2_pad : GoodIn wsX5_padAll wsX2_pad := goodIn_r _ [38, 39, 40, 41, 42, 26, 43, 44, 29, 30, 31, 45, 46, 47, 48, 49, 50, 51, 52, 53, 72, 73, 74] (by decide +kernel) (by decide +kernel)
set_option maxRecDepth 20000 in
theorem gX5_padAll_X2_pad : GoodIn wsX5_padAll (wsV RX5 267 RX2 yX2_pad wsX2_pad) := goodIn_app (goodIn_of _ (by decide +kernel)) ggX5_padAll_X2_pad
theorem dX5_padAll_0 : decode cX5_padAll 0 = .ok (.aload_n 0, 1) := by decide +kernel
theorem dX5_padAll_1 : decode cX5_padAll 1 = .ok (.iload_n 1, 1) := by decide +kernel
theorem dX5_padAll_2 : decode cX5_padAll 2 = .ok (.invokevirtual 136, 3) := by decide +kernel
theorem dX5_padAll_5 : decode cX5_padAll 5 = .ok (.istore_n 3, 1) := by decide +kernel
theorem dX5_padAll_6 : decode cX5_padAll 6 = .ok (.iconst 0, 1) := by decide +kernel
theorem dX5_padAll_7 : decode cX5_padAll 7 = .ok (.istore 4, 2) := by decide +kernel
theorem dX5_padAll_9 : decode cX5_padAll 9 = .ok (.iload 4, 2) := by decide +kernel
theorem dX5_padAll_11 : decode cX5_padAll 11 = .ok (.aload_n 0, 1) := by decide +kernel
theorem dX5_padAll_12 : decode cX5_padAll 12 = .ok (.getfield 30, 3) := by decide +kernel
theorem dX5_padAll_15 : decode cX5_padAll 15 = .ok (.getfield 98, 3) := by decide +kernel
theorem dX5_padAll_18 : decode cX5_padAll 18 = .ok (.if_icmp .ge 33, 3) := by decide +kernel
theorem dX5_padAll_21 : decode cX5_padAll 21 = .ok (.iload_n 3, 1) := by decide +kernel
theorem dX5_padAll_22 : decode cX5_padAll 22 = .ok (.iload 4, 2) := by decide +kernel
theorem dX5_padAll_24 : decode cX5_padAll 24 = .ok (.invokestatic 117, 3) := by decide +kernel
theorem dX5_padAll_27 : decode cX5_padAll 27 = .ok (.ifCond .eq 18, 3) := by decide +kernel
theorem dX5_padAll_30 : decode cX5_padAll 30 = .ok (.aload_n 0, 1) := by decide +kernel
theorem dX5_padAll_31 : decode cX5_padAll 31 = .ok (.getfield 44, 3) := by decide +kernel
theorem dX5_padAll_34 : decode cX5_padAll 34 = .ok (.iload 4, 2) := by decide +kernel
theorem dX5_padAll_36 : decode cX5_padAll 36 = .ok (.iload_n 1, 1) := by decide +kernel
theorem dX5_padAll_37 : decode cX5_padAll 37 = .ok (.iload_n 2, 1) := by decide +kernel
theorem dX5_padAll_38 : decode cX5_padAll 38 = .ok (.aload_n 0, 1) := by decide +kernel
theorem dX5_padAll_39 : decode cX5_padAll 39 = .ok (.getfield 15, 3) := by decide +kernel
theorem dX5_padAll_42 : decode cX5_padAll 42 = .ok (.invokevirtual 267, 3) := by decide +kernel
theorem dX5_padAll_45 : decode cX5_padAll 45 = .ok (.iinc 4 1, 3) := by decide +kernel
theorem dX5_padAll_48 : decode cX5_padAll 48 = .ok (.goto (-39), 3) := by decide +kernel
theorem dX5_padAll_51 : decode cX5_padAll 51 = .ok (.return_, 1) := by decide +kernel
set_option maxRecDepth 20000 in
theorem ggX5_tryToWrite_X1_has : GoodIn wsX5_tryToWrite wsX1_has := goodIn_r _ [10, 11, 76, 77, 78, 79, 80] (by decide +kernel) (by decide +kernel)
set_option maxRecDepth 20000 in
theorem gX5_tryToWrite_X1_has : GoodIn wsX5_tryToWrite (wsV RX5 79 RX1 yX1_has wsX1_has) := goodIn_app (goodIn_of _ (by decide +kernel)) ggX5_tryToWrite_X1_has
set_option maxRecDepth 20000 in
theorem ggX5_tryToWrite_X8_failsNow : GoodIn wsX5_tryToWrite wsX8_failsNow := goodIn_r _ [16, 17, 18, 19, 20, 15, 21, 22, 81, 82, 83, 84] (by decide +kernel) (by decide +kernel)
set_option maxRecDepth 20000 in
theorem gX5_tryToWrite_X8_failsNow : GoodIn wsX5_tryToWrite (wsV RX5 271 RX8 yX8_failsNow wsX8_failsNow) := goodIn_app (goodIn_of _ (by decide +kernel)) ggX5_tryToWrite_X8_failsNow
set_option maxRecDepth 20000 in
theorem ggX5_tryToWrite_X2_write : GoodIn wsX5_tryToWrite wsX2_write := goodIn_r _ [27, 28, 29, 30, 26, 31, 32, 33, 34, 35, 36, 37, 38, 39, 40, 85, 86, 87] (by decide +kernel) (by decide +kernel)
set_option maxRecDepth 20000 in
theorem gX5_tryToWrite_X2_write : GoodIn wsX5_tryToWrite (wsV RX5 274 RX2 yX2_write wsX2_write) := goodIn_app (goodIn_of _ (by decide +kernel)) ggX5_tryToWrite_X2_write
set_option maxRecDepth 20000 in
theorem ggX5_tryToWrite_X5_good : GoodIn wsX5_tryToWrite wsX5_good := goodIn_r _ [45, 1, 46, 3, 5, 4, 6, 7, 8, 9, 10, 11, 47, 48, 49, 26, 50, 51, 33, 34, 35, 67, 68, 69, 70, 71, 72, 73, 74, 75, 76, 77, 78, 79, 80, 81, 82, 83, 84, 85, 86, 87] (by decide +kernel) (by decide +kernel)
set_option maxRecDepth 20000 in
theorem gX5_tryToWrite_X5_good : GoodIn wsX5_tryToWrite (wsV RX5 104 RX5 yX5_good wsX5_good) := goodIn_app (goodIn_of _ (by decide +kernel)) ggX5_tryToWrite_X5_good
set_option maxRecDepth 20000 in
theorem ggX5_tryToWrite_X10_isIn : GoodIn wsX5_tryToWrite wsX10_isIn := goodIn_r _ [54] (by decide +kernel) (by decide +kernel)
set_option maxRecDepth 20000 in
theorem gX5_tryToWrite_X10_isIn_n117 : GoodIn wsX5_tryToWrite (wsX10_isIn) := ggX5_tryToWrite_X10_isIn
set_option maxRecDepth 20000 in
theorem ggX5_tryToWrite_X8_hasUp : GoodIn wsX5_tryToWrite wsX8_hasUp := goodIn_r _ [58, 59, 18, 19, 20, 15, 21, 22, 52, 53, 54, 81, 82, 83, 84] (by decide +kernel) (by decide +kernel)
set_option maxRecDepth 20000 in
theorem gX5_tryToWrite_X8_hasUp : GoodIn wsX5_tryToWrite (wsV RX5 160 RX8 yX8_hasUp wsX8_hasUp) := goodIn_app (goodIn_of _ (by decide +kernel)) ggX5_tryToWrite_X8_hasUp
set_option maxRecDepth 20000 in
theorem ggX5_tryToWrite_X1_endLease : GoodIn wsX5_tryToWrite wsX1_endLease := goodIn_r _ [63, 64, 65, 66, 7, 8, 9, 10, 11, 76, 77, 78, 79, 80] (by decide +kernel) (by decide +kernel)
set_option maxRecDepth 20000 in
theorem gX5_tryToWrite_X1_endLease : GoodIn wsX5_tryToWrite (wsV RX5 278 RX1 yX1_endLease wsX1_endLease) := goodIn_app (goodIn_of _ (by decide +kernel)) ggX5_tryToWrite_X1_endLease
theorem dX5_tryToWrite_0 : decode cX5_tryToWrite 0 = .ok (.aload_n 0, 1) := by decide +kernel
theorem dX5_tryToWrite_1 : decode cX5_tryToWrite 1 = .ok (.getfield 37, 3) := by decide +kernel
theorem dX5_tryToWrite_4 : decode cX5_tryToWrite 4 = .ok (.iload_n 1, 1) := by decide +kernel
theorem dX5_tryToWrite_5 : decode cX5_tryToWrite 5 = .ok (.invokevirtual 79, 3) := by decide +kernel
theorem dX5_tryToWrite_8 : decode cX5_tryToWrite 8 = .ok (.ifCond .ne 5, 3) := by decide +kernel
theorem dX5_tryToWrite_11 : decode cX5_tryToWrite 11 = .ok (.iconst 0, 1) := by decide +kernel
theorem dX5_tryToWrite_12 : decode cX5_tryToWrite 12 = .ok (.ireturn, 1) := by decide +kernel
theorem dX5_tryToWrite_13 : decode cX5_tryToWrite 13 = .ok (.aload_n 0, 1) := by decide +kernel
theorem dX5_tryToWrite_14 : decode cX5_tryToWrite 14 = .ok (.getfield 37, 3) := by decide +kernel
theorem dX5_tryToWrite_17 : decode cX5_tryToWrite 17 = .ok (.getfield 238, 3) := by decide +kernel
theorem dX5_tryToWrite_20 : decode cX5_tryToWrite 20 = .ok (.iload_n 1, 1) := by decide +kernel
theorem dX5_tryToWrite_21 : decode cX5_tryToWrite 21 = .ok (.iaload, 1) := by decide +kernel
theorem dX5_tryToWrite_22 : decode cX5_tryToWrite 22 = .ok (.istore 5, 2) := by decide +kernel
theorem dX5_tryToWrite_24 : decode cX5_tryToWrite 24 = .ok (.aload_n 0, 1) := by decide +kernel
theorem dX5_tryToWrite_25 : decode cX5_tryToWrite 25 = .ok (.getfield 30, 3) := by decide +kernel
theorem dX5_tryToWrite_28 : decode cX5_tryToWrite 28 = .ok (.iload 5, 2) := by decide +kernel
theorem dX5_tryToWrite_30 : decode cX5_tryToWrite 30 = .ok (.invokevirtual 271, 3) := by decide +kernel
theorem dX5_tryToWrite_33 : decode cX5_tryToWrite 33 = .ok (.ifCond .eq 5, 3) := by decide +kernel
theorem dX5_tryToWrite_36 : decode cX5_tryToWrite 36 = .ok (.iconst 0, 1) := by decide +kernel
theorem dX5_tryToWrite_37 : decode cX5_tryToWrite 37 = .ok (.ireturn, 1) := by decide +kernel
theorem dX5_tryToWrite_38 : decode cX5_tryToWrite 38 = .ok (.aload_n 0, 1) := by decide +kernel
theorem dX5_tryToWrite_39 : decode cX5_tryToWrite 39 = .ok (.getfield 44, 3) := by decide +kernel
theorem dX5_tryToWrite_42 : decode cX5_tryToWrite 42 = .ok (.iload 5, 2) := by decide +kernel
theorem dX5_tryToWrite_44 : decode cX5_tryToWrite 44 = .ok (.iload_n 1, 1) := by decide +kernel
theorem dX5_tryToWrite_45 : decode cX5_tryToWrite 45 = .ok (.iload_n 2, 1) := by decide +kernel
theorem dX5_tryToWrite_46 : decode cX5_tryToWrite 46 = .ok (.aload_n 3, 1) := by decide +kernel
theorem dX5_tryToWrite_47 : decode cX5_tryToWrite 47 = .ok (.iload 4, 2) := by decide +kernel
theorem dX5_tryToWrite_49 : decode cX5_tryToWrite 49 = .ok (.invokevirtual 274, 3) := by decide +kernel
theorem dX5_tryToWrite_52 : decode cX5_tryToWrite 52 = .ok (.aload_n 0, 1) := by decide +kernel
theorem dX5_tryToWrite_53 : decode cX5_tryToWrite 53 = .ok (.iload_n 1, 1) := by decide +kernel
theorem dX5_tryToWrite_54 : decode cX5_tryToWrite 54 = .ok (.invokevirtual 104, 3) := by decide +kernel
theorem dX5_tryToWrite_57 : decode cX5_tryToWrite 57 = .ok (.istore 6, 2) := by decide +kernel
theorem dX5_tryToWrite_59 : decode cX5_tryToWrite 59 = .ok (.iconst 1, 1) := by decide +kernel
theorem dX5_tryToWrite_60 : decode cX5_tryToWrite 60 = .ok (.istore 7, 2) := by decide +kernel
theorem dX5_tryToWrite_62 : decode cX5_tryToWrite 62 = .ok (.iconst 0, 1) := by decide +kernel
theorem dX5_tryToWrite_63 : decode cX5_tryToWrite 63 = .ok (.istore 8, 2) := by decide +kernel
theorem dX5_tryToWrite_65 : decode cX5_tryToWrite 65 = .ok (.iload 8, 2) := by decide +kernel
theorem dX5_tryToWrite_67 : decode cX5_tryToWrite 67 = .ok (.aload_n 0, 1) := by decide +kernel
theorem dX5_tryToWrite_68 : decode cX5_tryToWrite 68 = .ok (.getfield 30, 3) := by decide +kernel
theorem dX5_tryToWrite_71 : decode cX5_tryToWrite 71 = .ok (.getfield 98, 3) := by decide +kernel
theorem dX5_tryToWrite_74 : decode cX5_tryToWrite 74 = .ok (.if_icmp .ge 84, 3) := by decide +kernel
theorem dX5_tryToWrite_77 : decode cX5_tryToWrite 77 = .ok (.iload 8, 2) := by decide +kernel
theorem dX5_tryToWrite_79 : decode cX5_tryToWrite 79 = .ok (.iload 5, 2) := by decide +kernel
theorem dX5_tryToWrite_81 : decode cX5_tryToWrite 81 = .ok (.if_icmp .eq 71, 3) := by decide +kernel
theorem dX5_tryToWrite_84 : decode cX5_tryToWrite 84 = .ok (.iload 6, 2) := by decide +kernel
theorem dX5_tryToWrite_86 : decode cX5_tryToWrite 86 = .ok (.iload 8, 2) := by decide +kernel
theorem dX5_tryToWrite_88 : decode cX5_tryToWrite 88 = .ok (.invokestatic 117, 3) := by decide +kernel
theorem dX5_tryToWrite_91 : decode cX5_tryToWrite 91 = .ok (.ifCond .eq 61, 3) := by decide +kernel
theorem dX5_tryToWrite_94 : decode cX5_tryToWrite 94 = .ok (.aload_n 0, 1) := by decide +kernel
theorem dX5_tryToWrite_95 : decode cX5_tryToWrite 95 = .ok (.getfield 30, 3) := by decide +kernel
theorem dX5_tryToWrite_98 : decode cX5_tryToWrite 98 = .ok (.iload 8, 2) := by decide +kernel
theorem dX5_tryToWrite_100 : decode cX5_tryToWrite 100 = .ok (.invokevirtual 160, 3) := by decide +kernel
theorem dX5_tryToWrite_103 : decode cX5_tryToWrite 103 = .ok (.ifCond .ne 17, 3) := by decide +kernel
theorem dX5_tryToWrite_106 : decode cX5_tryToWrite 106 = .ok (.aload_n 0, 1) := by decide +kernel
theorem dX5_tryToWrite_107 : decode cX5_tryToWrite 107 = .ok (.getfield 37, 3) := by decide +kernel
theorem dX5_tryToWrite_110 : decode cX5_tryToWrite 110 = .ok (.iload_n 1, 1) := by decide +kernel
theorem dX5_tryToWrite_111 : decode cX5_tryToWrite 111 = .ok (.invokevirtual 278, 3) := by decide +kernel
theorem dX5_tryToWrite_114 : decode cX5_tryToWrite 114 = .ok (.iconst 0, 1) := by decide +kernel
theorem dX5_tryToWrite_115 : decode cX5_tryToWrite 115 = .ok (.istore 7, 2) := by decide +kernel
theorem dX5_tryToWrite_117 : decode cX5_tryToWrite 117 = .ok (.goto 35, 3) := by decide +kernel
theorem dX5_tryToWrite_120 : decode cX5_tryToWrite 120 = .ok (.aload_n 0, 1) := by decide +kernel
theorem dX5_tryToWrite_121 : decode cX5_tryToWrite 121 = .ok (.getfield 30, 3) := by decide +kernel
theorem dX5_tryToWrite_124 : decode cX5_tryToWrite 124 = .ok (.iload 8, 2) := by decide +kernel
theorem dX5_tryToWrite_126 : decode cX5_tryToWrite 126 = .ok (.invokevirtual 271, 3) := by decide +kernel
theorem dX5_tryToWrite_129 : decode cX5_tryToWrite 129 = .ok (.ifCond .eq 9, 3) := by decide +kernel
theorem dX5_tryToWrite_132 : decode cX5_tryToWrite 132 = .ok (.iconst 0, 1) := by decide +kernel
theorem dX5_tryToWrite_133 : decode cX5_tryToWrite 133 = .ok (.istore 7, 2) := by decide +kernel
theorem dX5_tryToWrite_135 : decode cX5_tryToWrite 135 = .ok (.goto 17, 3) := by decide +kernel
theorem dX5_tryToWrite_138 : decode cX5_tryToWrite 138 = .ok (.aload_n 0, 1) := by decide +kernel
theorem dX5_tryToWrite_139 : decode cX5_tryToWrite 139 = .ok (.getfield 44, 3) := by decide +kernel
theorem dX5_tryToWrite_142 : decode cX5_tryToWrite 142 = .ok (.iload 8, 2) := by decide +kernel
theorem dX5_tryToWrite_144 : decode cX5_tryToWrite 144 = .ok (.iload_n 1, 1) := by decide +kernel
theorem dX5_tryToWrite_145 : decode cX5_tryToWrite 145 = .ok (.iload_n 2, 1) := by decide +kernel
theorem dX5_tryToWrite_146 : decode cX5_tryToWrite 146 = .ok (.aload_n 3, 1) := by decide +kernel
theorem dX5_tryToWrite_147 : decode cX5_tryToWrite 147 = .ok (.iload 4, 2) := by decide +kernel
theorem dX5_tryToWrite_149 : decode cX5_tryToWrite 149 = .ok (.invokevirtual 274, 3) := by decide +kernel
theorem dX5_tryToWrite_152 : decode cX5_tryToWrite 152 = .ok (.iinc 8 1, 3) := by decide +kernel
theorem dX5_tryToWrite_155 : decode cX5_tryToWrite 155 = .ok (.goto (-90), 3) := by decide +kernel
theorem dX5_tryToWrite_158 : decode cX5_tryToWrite 158 = .ok (.iload 7, 2) := by decide +kernel
theorem dX5_tryToWrite_160 : decode cX5_tryToWrite 160 = .ok (.ireturn, 1) := by decide +kernel
set_option maxRecDepth 20000 in
theorem ggX5_tellCell_X5_rowOf : GoodIn wsX5_tellCell wsX5_rowOf := goodIn_r _ [9, 10, 168, 169, 170, 171, 172, 173, 174, 175, 176] (by decide +kernel) (by decide +kernel)
set_option maxRecDepth 20000 in
theorem gX5_tellCell_X5_rowOf : GoodIn wsX5_tellCell (wsV RX5 164 RX5 yX5_rowOf wsX5_rowOf) := goodIn_app (goodIn_of _ (by decide +kernel)) ggX5_tellCell_X5_rowOf
set_option maxRecDepth 20000 in
theorem ggX5_tellCell_X5_own : GoodIn wsX5_tellCell wsX5_own := goodIn_r _ [14, 1, 15, 16, 2, 3, 4, 17, 18, 19, 20, 21, 22, 23, 24, 25, 26, 27, 28, 29, 30, 31, 32, 33, 34, 35, 36, 37, 38, 39, 40, 41, 42, 43, 44, 45, 46, 47, 48, 8, 49, 50, 51, 52, 53, 54, 55, 56, 57, 58, 59, 60, 61, 62, 63, 64, 65, 66, 67, 68, 69, 70, 71, 72, 73, 74, 75, 76, 77, 78, 79, 80, 81, 82, 83, 84, 85, 86, 87, 88, 89, 90, 91, 92, 93, 94, 95, 96, 97, 98, 99, 100, 101, 102, 103, 104, 105, 106, 107, 108, 109, 110, 111, 112, 113, 114, 115, 168, 169, 170, 171, 172, 173, 174, 175, 176, 177, 178, 179, 180, 181, 182, 183, 184, 185, 186, 187, 188, 189, 190, 191, 192, 193] (by decide +kernel) (by decide +kernel)
set_option maxRecDepth 20000 in
theorem gX5_tellCell_X5_own : GoodIn wsX5_tellCell (wsV RX5 250 RX5 yX5_own wsX5_own) := goodIn_app (goodIn_of _ (by decide +kernel)) ggX5_tellCell_X5_own
set_option maxRecDepth 20000 in
theorem ggX5_tellCell_X3_chunkOf : GoodIn wsX5_tellCell wsX3_chunkOf := goodIn_r _ [22, 23, 24, 25, 26, 27, 28, 29, 30, 181, 182, 183, 184, 185] (by decide +kernel) (by decide +kernel)
set_option maxRecDepth 20000 in
theorem gX5_tellCell_X3_chunkOf : GoodIn wsX5_tellCell (wsV RX5 167 RX3 yX3_chunkOf wsX3_chunkOf) := goodIn_app (goodIn_of _ (by decide +kernel)) ggX5_tellCell_X3_chunkOf
set_option maxRecDepth 20000 in
theorem ggX5_tellCell_X5_giveLease : GoodIn wsX5_tellCell wsX5_giveLease := goodIn_r _ [119, 15, 55, 3, 4, 17, 120, 121, 122, 123, 46, 47, 48, 8, 49, 50, 51, 52, 53, 54, 56, 38, 39, 34, 40, 41, 57, 58, 59, 60, 61, 62, 63, 64, 65, 78, 26, 79, 124, 104, 105, 106, 125, 126, 127, 128, 129, 130, 131, 132, 133, 134, 135, 136, 137, 138, 139, 140, 141, 142, 143, 168, 169, 170, 171, 172, 173, 174, 175, 176, 186, 187, 188, 189, 190, 177, 178, 179, 180, 191, 192, 193] (by decide +kernel) (by decide +kernel)
set_option maxRecDepth 20000 in
theorem gX5_tellCell_X5_giveLease : GoodIn wsX5_tellCell (wsV RX5 256 RX5 yX5_giveLease wsX5_giveLease) := goodIn_app (goodIn_of _ (by decide +kernel)) ggX5_tellCell_X5_giveLease
set_option maxRecDepth 20000 in
theorem ggX5_tellCell_X5_able : GoodIn wsX5_tellCell wsX5_able := goodIn_r _ [49, 3, 50, 51, 52, 53, 8, 54, 15, 55, 4, 17, 56, 38, 39, 34, 40, 41, 57, 58, 59, 60, 61, 62, 63, 64, 65, 168, 169, 170, 171, 172, 173, 174, 175, 176, 177, 178, 179, 180, 186, 187, 188, 189, 190, 191, 192, 193] (by decide +kernel) (by decide +kernel)
set_option maxRecDepth 20000 in
theorem gX5_tellCell_X5_able : GoodIn wsX5_tellCell (wsV RX5 136 RX5 yX5_able wsX5_able) := goodIn_app (goodIn_of _ (by decide +kernel)) ggX5_tellCell_X5_able
set_option maxRecDepth 20000 in
theorem ggX5_tellCell_X10_isIn : GoodIn wsX5_tellCell wsX10_isIn := goodIn_r _ [79] (by decide +kernel) (by decide +kernel)
set_option maxRecDepth 20000 in
theorem gX5_tellCell_X10_isIn_n117 : GoodIn wsX5_tellCell (wsX10_isIn) := ggX5_tellCell_X10_isIn
set_option maxRecDepth 20000 in
theorem ggX5_tellCell_X5_cellOf : GoodIn wsX5_tellCell wsX5_cellOf := goodIn_r _ [147, 10, 168, 169, 170, 171, 172, 173, 174, 175, 176] (by decide +kernel) (by decide +kernel)
set_option maxRecDepth 20000 in
theorem gX5_tellCell_X5_cellOf : GoodIn wsX5_tellCell (wsV RX5 171 RX5 yX5_cellOf wsX5_cellOf) := goodIn_app (goodIn_of _ (by decide +kernel)) ggX5_tellCell_X5_cellOf
set_option maxRecDepth 20000 in
theorem ggX5_tellCell_X5_tellCellAt : GoodIn wsX5_tellCell wsX5_tellCellAt := goodIn_r _ [151, 3, 17, 152, 153, 154, 155, 156, 157, 158, 140, 159, 160, 161, 162, 163, 164, 142, 124, 104, 105, 60, 106, 62, 63, 64, 65, 165, 91, 92, 93, 88, 166, 95, 96, 97, 98, 167, 100, 101, 102, 168, 169, 170, 171, 172, 173, 174, 175, 176, 177, 178, 179, 180, 191, 192, 193] (by decide +kernel) (by decide +kernel)
set_option maxRecDepth 20000 in
theorem gX5_tellCell_X5_tellCellAt : GoodIn wsX5_tellCell (wsV RX5 281 RX5 yX5_tellCellAt wsX5_tellCellAt) := goodIn_app (goodIn_of _ (by decide +kernel)) ggX5_tellCell_X5_tellCellAt
theorem dX5_tellCell_0 : decode cX5_tellCell 0 = .ok (.aload_n 0, 1) := by decide +kernel
theorem dX5_tellCell_1 : decode cX5_tellCell 1 = .ok (.iload_n 1, 1) := by decide +kernel
theorem dX5_tellCell_2 : decode cX5_tellCell 2 = .ok (.aload_n 0, 1) := by decide +kernel
theorem dX5_tellCell_3 : decode cX5_tellCell 3 = .ok (.iload_n 2, 1) := by decide +kernel
theorem dX5_tellCell_4 : decode cX5_tellCell 4 = .ok (.invokevirtual 164, 3) := by decide +kernel
theorem dX5_tellCell_7 : decode cX5_tellCell 7 = .ok (.invokevirtual 250, 3) := by decide +kernel
theorem dX5_tellCell_10 : decode cX5_tellCell 10 = .ok (.istore 4, 2) := by decide +kernel
theorem dX5_tellCell_12 : decode cX5_tellCell 12 = .ok (.iload 4, 2) := by decide +kernel
theorem dX5_tellCell_14 : decode cX5_tellCell 14 = .ok (.ifCond .eq 6, 3) := by decide +kernel
theorem dX5_tellCell_17 : decode cX5_tellCell 17 = .ok (.iload 4, 2) := by decide +kernel
theorem dX5_tellCell_19 : decode cX5_tellCell 19 = .ok (.ireturn, 1) := by decide +kernel
theorem dX5_tellCell_20 : decode cX5_tellCell 20 = .ok (.aload_n 0, 1) := by decide +kernel
theorem dX5_tellCell_21 : decode cX5_tellCell 21 = .ok (.getfield 51, 3) := by decide +kernel
theorem dX5_tellCell_24 : decode cX5_tellCell 24 = .ok (.iload_n 1, 1) := by decide +kernel
theorem dX5_tellCell_25 : decode cX5_tellCell 25 = .ok (.aload_n 0, 1) := by decide +kernel
theorem dX5_tellCell_26 : decode cX5_tellCell 26 = .ok (.iload_n 2, 1) := by decide +kernel
theorem dX5_tellCell_27 : decode cX5_tellCell 27 = .ok (.invokevirtual 164, 3) := by decide +kernel
theorem dX5_tellCell_30 : decode cX5_tellCell 30 = .ok (.invokevirtual 167, 3) := by decide +kernel
theorem dX5_tellCell_33 : decode cX5_tellCell 33 = .ok (.istore 5, 2) := by decide +kernel
theorem dX5_tellCell_35 : decode cX5_tellCell 35 = .ok (.aload_n 0, 1) := by decide +kernel
theorem dX5_tellCell_36 : decode cX5_tellCell 36 = .ok (.iload 5, 2) := by decide +kernel
theorem dX5_tellCell_38 : decode cX5_tellCell 38 = .ok (.invokevirtual 256, 3) := by decide +kernel
theorem dX5_tellCell_41 : decode cX5_tellCell 41 = .ok (.ifCond .ne 6, 3) := by decide +kernel
theorem dX5_tellCell_44 : decode cX5_tellCell 44 = .ok (.ldc 182, 2) := by decide +kernel
theorem dX5_tellCell_46 : decode cX5_tellCell 46 = .ok (.ireturn, 1) := by decide +kernel
theorem dX5_tellCell_47 : decode cX5_tellCell 47 = .ok (.aload_n 0, 1) := by decide +kernel
theorem dX5_tellCell_48 : decode cX5_tellCell 48 = .ok (.iload 5, 2) := by decide +kernel
theorem dX5_tellCell_50 : decode cX5_tellCell 50 = .ok (.invokevirtual 136, 3) := by decide +kernel
theorem dX5_tellCell_53 : decode cX5_tellCell 53 = .ok (.istore 6, 2) := by decide +kernel
theorem dX5_tellCell_55 : decode cX5_tellCell 55 = .ok (.iconst 0, 1) := by decide +kernel
theorem dX5_tellCell_56 : decode cX5_tellCell 56 = .ok (.istore 7, 2) := by decide +kernel
theorem dX5_tellCell_58 : decode cX5_tellCell 58 = .ok (.iconst 0, 1) := by decide +kernel
theorem dX5_tellCell_59 : decode cX5_tellCell 59 = .ok (.istore 8, 2) := by decide +kernel
theorem dX5_tellCell_61 : decode cX5_tellCell 61 = .ok (.iload 8, 2) := by decide +kernel
theorem dX5_tellCell_63 : decode cX5_tellCell 63 = .ok (.aload_n 0, 1) := by decide +kernel
theorem dX5_tellCell_64 : decode cX5_tellCell 64 = .ok (.getfield 30, 3) := by decide +kernel
theorem dX5_tellCell_67 : decode cX5_tellCell 67 = .ok (.getfield 98, 3) := by decide +kernel
theorem dX5_tellCell_70 : decode cX5_tellCell 70 = .ok (.if_icmp .ge 46, 3) := by decide +kernel
theorem dX5_tellCell_73 : decode cX5_tellCell 73 = .ok (.iload 6, 2) := by decide +kernel
theorem dX5_tellCell_75 : decode cX5_tellCell 75 = .ok (.iload 8, 2) := by decide +kernel
theorem dX5_tellCell_77 : decode cX5_tellCell 77 = .ok (.invokestatic 117, 3) := by decide +kernel
theorem dX5_tellCell_80 : decode cX5_tellCell 80 = .ok (.ifCond .eq 30, 3) := by decide +kernel
theorem dX5_tellCell_83 : decode cX5_tellCell 83 = .ok (.iload 7, 2) := by decide +kernel
theorem dX5_tellCell_85 : decode cX5_tellCell 85 = .ok (.aload_n 0, 1) := by decide +kernel
theorem dX5_tellCell_86 : decode cX5_tellCell 86 = .ok (.iload 8, 2) := by decide +kernel
theorem dX5_tellCell_88 : decode cX5_tellCell 88 = .ok (.iload 5, 2) := by decide +kernel
theorem dX5_tellCell_90 : decode cX5_tellCell 90 = .ok (.aload_n 0, 1) := by decide +kernel
theorem dX5_tellCell_91 : decode cX5_tellCell 91 = .ok (.iload_n 2, 1) := by decide +kernel
theorem dX5_tellCell_92 : decode cX5_tellCell 92 = .ok (.invokevirtual 171, 3) := by decide +kernel
theorem dX5_tellCell_95 : decode cX5_tellCell 95 = .ok (.iload_n 3, 1) := by decide +kernel
theorem dX5_tellCell_96 : decode cX5_tellCell 96 = .ok (.invokevirtual 281, 3) := by decide +kernel
theorem dX5_tellCell_99 : decode cX5_tellCell 99 = .ok (.ifCond .eq 7, 3) := by decide +kernel
theorem dX5_tellCell_102 : decode cX5_tellCell 102 = .ok (.iconst 1, 1) := by decide +kernel
theorem dX5_tellCell_103 : decode cX5_tellCell 103 = .ok (.goto 4, 3) := by decide +kernel
theorem dX5_tellCell_106 : decode cX5_tellCell 106 = .ok (.iconst 0, 1) := by decide +kernel
theorem dX5_tellCell_107 : decode cX5_tellCell 107 = .ok (.iadd, 1) := by decide +kernel
theorem dX5_tellCell_108 : decode cX5_tellCell 108 = .ok (.istore 7, 2) := by decide +kernel
theorem dX5_tellCell_110 : decode cX5_tellCell 110 = .ok (.iinc 8 1, 3) := by decide +kernel
theorem dX5_tellCell_113 : decode cX5_tellCell 113 = .ok (.goto (-52), 3) := by decide +kernel
theorem dX5_tellCell_116 : decode cX5_tellCell 116 = .ok (.iload 7, 2) := by decide +kernel
theorem dX5_tellCell_118 : decode cX5_tellCell 118 = .ok (.ifCond .ne 8, 3) := by decide +kernel
theorem dX5_tellCell_121 : decode cX5_tellCell 121 = .ok (.ldc 182, 2) := by decide +kernel
theorem dX5_tellCell_123 : decode cX5_tellCell 123 = .ok (.goto 5, 3) := by decide +kernel
theorem dX5_tellCell_126 : decode cX5_tellCell 126 = .ok (.iload 7, 2) := by decide +kernel
theorem dX5_tellCell_128 : decode cX5_tellCell 128 = .ok (.ireturn, 1) := by decide +kernel
set_option maxRecDepth 20000 in
theorem ggX5_tellCellAt_X8_failsNow : GoodIn wsX5_tellCellAt wsX8_failsNow := goodIn_r _ [11, 12, 13, 14, 15, 10, 16, 17, 50, 51, 52, 53] (by decide +kernel) (by decide +kernel)
set_option maxRecDepth 20000 in
theorem gX5_tellCellAt_X8_failsNow : GoodIn wsX5_tellCellAt (wsV RX5 271 RX8 yX8_failsNow wsX8_failsNow) := goodIn_app (goodIn_of _ (by decide +kernel)) ggX5_tellCellAt_X8_failsNow
set_option maxRecDepth 20000 in
theorem ggX5_tellCellAt_X2_setVersion : GoodIn wsX5_tellCellAt wsX2_setVersion := goodIn_r _ [22, 23, 24, 25, 21, 26, 54, 55, 56] (by decide +kernel) (by decide +kernel)
set_option maxRecDepth 20000 in
theorem gX5_tellCellAt_X2_setVersion : GoodIn wsX5_tellCellAt (wsV RX5 244 RX2 yX2_setVersion wsX2_setVersion) := goodIn_app (goodIn_of _ (by decide +kernel)) ggX5_tellCellAt_X2_setVersion
set_option maxRecDepth 20000 in
theorem ggX5_tellCellAt_X2_setCell : GoodIn wsX5_tellCellAt wsX2_setCell := goodIn_r _ [30, 31, 24, 25, 21, 26, 54, 55, 56] (by decide +kernel) (by decide +kernel)
set_option maxRecDepth 20000 in
theorem gX5_tellCellAt_X2_setCell : GoodIn wsX5_tellCellAt (wsV RX5 285 RX2 yX2_setCell wsX2_setCell) := goodIn_app (goodIn_of _ (by decide +kernel)) ggX5_tellCellAt_X2_setCell
set_option maxRecDepth 20000 in
theorem ggX5_tellCellAt_X2_filledOf : GoodIn wsX5_tellCellAt wsX2_filledOf := goodIn_r _ [35, 36, 24, 25, 21, 26, 54, 55, 56] (by decide +kernel) (by decide +kernel)
set_option maxRecDepth 20000 in
theorem gX5_tellCellAt_X2_filledOf : GoodIn wsX5_tellCellAt (wsV RX5 139 RX2 yX2_filledOf wsX2_filledOf) := goodIn_app (goodIn_of _ (by decide +kernel)) ggX5_tellCellAt_X2_filledOf
set_option maxRecDepth 20000 in
theorem ggX5_tellCellAt_X2_setFilled : GoodIn wsX5_tellCellAt wsX2_setFilled := goodIn_r _ [40, 36, 24, 25, 21, 26, 54, 55, 56] (by decide +kernel) (by decide +kernel)
set_option maxRecDepth 20000 in
theorem gX5_tellCellAt_X2_setFilled : GoodIn wsX5_tellCellAt (wsV RX5 288 RX2 yX2_setFilled wsX2_setFilled) := goodIn_app (goodIn_of _ (by decide +kernel)) ggX5_tellCellAt_X2_setFilled
theorem dX5_tellCellAt_0 : decode cX5_tellCellAt 0 = .ok (.aload_n 0, 1) := by decide +kernel
theorem dX5_tellCellAt_1 : decode cX5_tellCellAt 1 = .ok (.getfield 30, 3) := by decide +kernel
theorem dX5_tellCellAt_4 : decode cX5_tellCellAt 4 = .ok (.iload_n 1, 1) := by decide +kernel
theorem dX5_tellCellAt_5 : decode cX5_tellCellAt 5 = .ok (.invokevirtual 271, 3) := by decide +kernel
theorem dX5_tellCellAt_8 : decode cX5_tellCellAt 8 = .ok (.ifCond .eq 15, 3) := by decide +kernel
theorem dX5_tellCellAt_11 : decode cX5_tellCellAt 11 = .ok (.aload_n 0, 1) := by decide +kernel
theorem dX5_tellCellAt_12 : decode cX5_tellCellAt 12 = .ok (.getfield 44, 3) := by decide +kernel
theorem dX5_tellCellAt_15 : decode cX5_tellCellAt 15 = .ok (.iload_n 1, 1) := by decide +kernel
theorem dX5_tellCellAt_16 : decode cX5_tellCellAt 16 = .ok (.iload_n 2, 1) := by decide +kernel
theorem dX5_tellCellAt_17 : decode cX5_tellCellAt 17 = .ok (.iconst 0, 1) := by decide +kernel
theorem dX5_tellCellAt_18 : decode cX5_tellCellAt 18 = .ok (.invokevirtual 244, 3) := by decide +kernel
theorem dX5_tellCellAt_21 : decode cX5_tellCellAt 21 = .ok (.iconst 0, 1) := by decide +kernel
theorem dX5_tellCellAt_22 : decode cX5_tellCellAt 22 = .ok (.ireturn, 1) := by decide +kernel
theorem dX5_tellCellAt_23 : decode cX5_tellCellAt 23 = .ok (.aload_n 0, 1) := by decide +kernel
theorem dX5_tellCellAt_24 : decode cX5_tellCellAt 24 = .ok (.getfield 44, 3) := by decide +kernel
theorem dX5_tellCellAt_27 : decode cX5_tellCellAt 27 = .ok (.iload_n 1, 1) := by decide +kernel
theorem dX5_tellCellAt_28 : decode cX5_tellCellAt 28 = .ok (.iload_n 2, 1) := by decide +kernel
theorem dX5_tellCellAt_29 : decode cX5_tellCellAt 29 = .ok (.iload_n 3, 1) := by decide +kernel
theorem dX5_tellCellAt_30 : decode cX5_tellCellAt 30 = .ok (.iload 4, 2) := by decide +kernel
theorem dX5_tellCellAt_32 : decode cX5_tellCellAt 32 = .ok (.invokevirtual 285, 3) := by decide +kernel
theorem dX5_tellCellAt_35 : decode cX5_tellCellAt 35 = .ok (.aload_n 0, 1) := by decide +kernel
theorem dX5_tellCellAt_36 : decode cX5_tellCellAt 36 = .ok (.getfield 44, 3) := by decide +kernel
theorem dX5_tellCellAt_39 : decode cX5_tellCellAt 39 = .ok (.iload_n 1, 1) := by decide +kernel
theorem dX5_tellCellAt_40 : decode cX5_tellCellAt 40 = .ok (.iload_n 2, 1) := by decide +kernel
theorem dX5_tellCellAt_41 : decode cX5_tellCellAt 41 = .ok (.aload_n 0, 1) := by decide +kernel
theorem dX5_tellCellAt_42 : decode cX5_tellCellAt 42 = .ok (.getfield 44, 3) := by decide +kernel
theorem dX5_tellCellAt_45 : decode cX5_tellCellAt 45 = .ok (.iload_n 1, 1) := by decide +kernel
theorem dX5_tellCellAt_46 : decode cX5_tellCellAt 46 = .ok (.iload_n 2, 1) := by decide +kernel
theorem dX5_tellCellAt_47 : decode cX5_tellCellAt 47 = .ok (.invokevirtual 139, 3) := by decide +kernel
theorem dX5_tellCellAt_50 : decode cX5_tellCellAt 50 = .ok (.iload_n 3, 1) := by decide +kernel
theorem dX5_tellCellAt_51 : decode cX5_tellCellAt 51 = .ok (.iconst 1, 1) := by decide +kernel
theorem dX5_tellCellAt_52 : decode cX5_tellCellAt 52 = .ok (.iadd, 1) := by decide +kernel
theorem dX5_tellCellAt_53 : decode cX5_tellCellAt 53 = .ok (.invokestatic 142, 3) := by decide +kernel
theorem dX5_tellCellAt_56 : decode cX5_tellCellAt 56 = .ok (.invokevirtual 288, 3) := by decide +kernel
theorem dX5_tellCellAt_59 : decode cX5_tellCellAt 59 = .ok (.iconst 1, 1) := by decide +kernel
theorem dX5_tellCellAt_60 : decode cX5_tellCellAt 60 = .ok (.ireturn, 1) := by decide +kernel
set_option maxRecDepth 20000 in
theorem ggX5_shareFile_X10_isFile : GoodIn wsX5_shareFile wsX10_isFile := goodIn_r _ [7, 8, 9, 6, 10] (by decide +kernel) (by decide +kernel)
set_option maxRecDepth 20000 in
theorem gX5_shareFile_X10_isFile_n152 : GoodIn wsX5_shareFile (wsX10_isFile) := ggX5_shareFile_X10_isFile
set_option maxRecDepth 20000 in
theorem ggX5_shareFile_X3_begin : GoodIn wsX5_shareFile wsX3_begin := goodIn_r _ [15, 16, 17, 18, 5, 6, 7, 8, 9, 10, 58, 59, 60, 61, 62] (by decide +kernel) (by decide +kernel)
set_option maxRecDepth 20000 in
theorem gX5_shareFile_X3_begin : GoodIn wsX5_shareFile (wsV RX5 291 RX3 yX3_begin wsX3_begin) := goodIn_app (goodIn_of _ (by decide +kernel)) ggX5_shareFile_X3_begin
set_option maxRecDepth 20000 in
theorem ggX5_shareFile_X3_chunkOf : GoodIn wsX5_shareFile wsX3_chunkOf := goodIn_r _ [22, 18, 23, 5, 6, 7, 8, 9, 10, 58, 59, 60, 61, 62] (by decide +kernel) (by decide +kernel)
set_option maxRecDepth 20000 in
theorem gX5_shareFile_X3_chunkOf : GoodIn wsX5_shareFile (wsV RX5 167 RX3 yX3_chunkOf wsX3_chunkOf) := goodIn_app (goodIn_of _ (by decide +kernel)) ggX5_shareFile_X3_chunkOf
set_option maxRecDepth 20000 in
theorem ggX5_shareFile_X3_addChunk : GoodIn wsX5_shareFile wsX3_addChunk := goodIn_r _ [27, 23, 18, 28, 29, 30, 14, 31, 5, 6, 7, 8, 9, 10, 58, 59, 60, 61, 62] (by decide +kernel) (by decide +kernel)
set_option maxRecDepth 20000 in
theorem gX5_shareFile_X3_addChunk : GoodIn wsX5_shareFile (wsV RX5 221 RX3 yX3_addChunk wsX3_addChunk) := goodIn_app (goodIn_of _ (by decide +kernel)) ggX5_shareFile_X3_addChunk
set_option maxRecDepth 20000 in
theorem ggX5_shareFile_X1_share : GoodIn wsX5_shareFile wsX1_share := goodIn_r _ [36, 37, 38, 39, 40, 35, 41, 42, 63, 64, 65, 66, 67] (by decide +kernel) (by decide +kernel)
set_option maxRecDepth 20000 in
theorem gX5_shareFile_X1_share : GoodIn wsX5_shareFile (wsV RX5 231 RX1 yX1_share wsX1_share) := goodIn_app (goodIn_of _ (by decide +kernel)) ggX5_shareFile_X1_share
set_option maxRecDepth 20000 in
theorem ggX5_shareFile_X1_endLease : GoodIn wsX5_shareFile wsX1_endLease := goodIn_r _ [46, 47, 48, 38, 39, 40, 35, 41, 42, 63, 64, 65, 66, 67] (by decide +kernel) (by decide +kernel)
set_option maxRecDepth 20000 in
theorem gX5_shareFile_X1_endLease : GoodIn wsX5_shareFile (wsV RX5 278 RX1 yX1_endLease wsX1_endLease) := goodIn_app (goodIn_of _ (by decide +kernel)) ggX5_shareFile_X1_endLease
theorem dX5_shareFile_0 : decode cX5_shareFile 0 = .ok (.iload_n 1, 1) := by decide +kernel
theorem dX5_shareFile_1 : decode cX5_shareFile 1 = .ok (.invokestatic 152, 3) := by decide +kernel
theorem dX5_shareFile_4 : decode cX5_shareFile 4 = .ok (.ifCond .eq 10, 3) := by decide +kernel
theorem dX5_shareFile_7 : decode cX5_shareFile 7 = .ok (.iload_n 2, 1) := by decide +kernel
theorem dX5_shareFile_8 : decode cX5_shareFile 8 = .ok (.invokestatic 152, 3) := by decide +kernel
theorem dX5_shareFile_11 : decode cX5_shareFile 11 = .ok (.ifCond .ne 5, 3) := by decide +kernel
theorem dX5_shareFile_14 : decode cX5_shareFile 14 = .ok (.iconst 0, 1) := by decide +kernel
theorem dX5_shareFile_15 : decode cX5_shareFile 15 = .ok (.ireturn, 1) := by decide +kernel
theorem dX5_shareFile_16 : decode cX5_shareFile 16 = .ok (.aload_n 0, 1) := by decide +kernel
theorem dX5_shareFile_17 : decode cX5_shareFile 17 = .ok (.getfield 51, 3) := by decide +kernel
theorem dX5_shareFile_20 : decode cX5_shareFile 20 = .ok (.iload_n 2, 1) := by decide +kernel
theorem dX5_shareFile_21 : decode cX5_shareFile 21 = .ok (.aload_n 0, 1) := by decide +kernel
theorem dX5_shareFile_22 : decode cX5_shareFile 22 = .ok (.getfield 51, 3) := by decide +kernel
theorem dX5_shareFile_25 : decode cX5_shareFile 25 = .ok (.getfield 155, 3) := by decide +kernel
theorem dX5_shareFile_28 : decode cX5_shareFile 28 = .ok (.iload_n 1, 1) := by decide +kernel
theorem dX5_shareFile_29 : decode cX5_shareFile 29 = .ok (.iaload, 1) := by decide +kernel
theorem dX5_shareFile_30 : decode cX5_shareFile 30 = .ok (.invokevirtual 291, 3) := by decide +kernel
theorem dX5_shareFile_33 : decode cX5_shareFile 33 = .ok (.iconst 0, 1) := by decide +kernel
theorem dX5_shareFile_34 : decode cX5_shareFile 34 = .ok (.istore_n 3, 1) := by decide +kernel
theorem dX5_shareFile_35 : decode cX5_shareFile 35 = .ok (.iload_n 3, 1) := by decide +kernel
theorem dX5_shareFile_36 : decode cX5_shareFile 36 = .ok (.iconst 4, 1) := by decide +kernel
theorem dX5_shareFile_37 : decode cX5_shareFile 37 = .ok (.if_icmp .ge 55, 3) := by decide +kernel
theorem dX5_shareFile_40 : decode cX5_shareFile 40 = .ok (.aload_n 0, 1) := by decide +kernel
theorem dX5_shareFile_41 : decode cX5_shareFile 41 = .ok (.getfield 51, 3) := by decide +kernel
theorem dX5_shareFile_44 : decode cX5_shareFile 44 = .ok (.iload_n 1, 1) := by decide +kernel
theorem dX5_shareFile_45 : decode cX5_shareFile 45 = .ok (.iload_n 3, 1) := by decide +kernel
theorem dX5_shareFile_46 : decode cX5_shareFile 46 = .ok (.invokevirtual 167, 3) := by decide +kernel
theorem dX5_shareFile_49 : decode cX5_shareFile 49 = .ok (.istore 4, 2) := by decide +kernel
theorem dX5_shareFile_51 : decode cX5_shareFile 51 = .ok (.iload 4, 2) := by decide +kernel
theorem dX5_shareFile_53 : decode cX5_shareFile 53 = .ok (.iconst (-1), 1) := by decide +kernel
theorem dX5_shareFile_54 : decode cX5_shareFile 54 = .ok (.if_icmp .eq 32, 3) := by decide +kernel
theorem dX5_shareFile_57 : decode cX5_shareFile 57 = .ok (.aload_n 0, 1) := by decide +kernel
theorem dX5_shareFile_58 : decode cX5_shareFile 58 = .ok (.getfield 51, 3) := by decide +kernel
theorem dX5_shareFile_61 : decode cX5_shareFile 61 = .ok (.iload_n 2, 1) := by decide +kernel
theorem dX5_shareFile_62 : decode cX5_shareFile 62 = .ok (.iload 4, 2) := by decide +kernel
theorem dX5_shareFile_64 : decode cX5_shareFile 64 = .ok (.invokevirtual 221, 3) := by decide +kernel
theorem dX5_shareFile_67 : decode cX5_shareFile 67 = .ok (.aload_n 0, 1) := by decide +kernel
theorem dX5_shareFile_68 : decode cX5_shareFile 68 = .ok (.getfield 37, 3) := by decide +kernel
theorem dX5_shareFile_71 : decode cX5_shareFile 71 = .ok (.iload 4, 2) := by decide +kernel
theorem dX5_shareFile_73 : decode cX5_shareFile 73 = .ok (.iconst 1, 1) := by decide +kernel
theorem dX5_shareFile_74 : decode cX5_shareFile 74 = .ok (.invokevirtual 231, 3) := by decide +kernel
theorem dX5_shareFile_77 : decode cX5_shareFile 77 = .ok (.aload_n 0, 1) := by decide +kernel
theorem dX5_shareFile_78 : decode cX5_shareFile 78 = .ok (.getfield 37, 3) := by decide +kernel
theorem dX5_shareFile_81 : decode cX5_shareFile 81 = .ok (.iload 4, 2) := by decide +kernel
theorem dX5_shareFile_83 : decode cX5_shareFile 83 = .ok (.invokevirtual 278, 3) := by decide +kernel
theorem dX5_shareFile_86 : decode cX5_shareFile 86 = .ok (.iinc 3 1, 3) := by decide +kernel
theorem dX5_shareFile_89 : decode cX5_shareFile 89 = .ok (.goto (-54), 3) := by decide +kernel
theorem dX5_shareFile_92 : decode cX5_shareFile 92 = .ok (.aload_n 0, 1) := by decide +kernel
theorem dX5_shareFile_93 : decode cX5_shareFile 93 = .ok (.getfield 51, 3) := by decide +kernel
theorem dX5_shareFile_96 : decode cX5_shareFile 96 = .ok (.getfield 158, 3) := by decide +kernel
theorem dX5_shareFile_99 : decode cX5_shareFile 99 = .ok (.iload_n 2, 1) := by decide +kernel
theorem dX5_shareFile_100 : decode cX5_shareFile 100 = .ok (.iaload, 1) := by decide +kernel
theorem dX5_shareFile_101 : decode cX5_shareFile 101 = .ok (.ireturn, 1) := by decide +kernel
set_option maxRecDepth 20000 in
theorem ggX5_takeAway_X5_graceOf : GoodIn wsX5_takeAway wsX5_graceOf := goodIn_r _ [7, 2, 8, 9, 10, 11, 12, 13, 14, 15, 16, 17, 18, 19, 20, 21, 22, 23, 57, 58, 59, 60, 61, 62, 63, 64, 65, 66, 67, 68, 69, 70] (by decide +kernel) (by decide +kernel)
set_option maxRecDepth 20000 in
theorem gX5_takeAway_X5_graceOf : GoodIn wsX5_takeAway (wsV RX5 294 RX5 yX5_graceOf wsX5_graceOf) := goodIn_app (goodIn_of _ (by decide +kernel)) ggX5_takeAway_X5_graceOf
set_option maxRecDepth 20000 in
theorem ggX5_takeAway_X5_loseFile : GoodIn wsX5_takeAway wsX5_loseFile := goodIn_r _ [27, 28, 2, 29, 30, 31, 32, 33, 34, 35, 10, 11, 12, 13, 14, 15, 36, 37, 38, 39, 40, 41, 42, 43, 44, 45, 46, 47, 48, 49, 50, 51, 57, 58, 59, 60, 61, 62, 63, 64, 65, 66, 67, 68, 69, 70, 71, 72, 73, 74, 75] (by decide +kernel) (by decide +kernel)
set_option maxRecDepth 20000 in
theorem gX5_takeAway_X5_loseFile : GoodIn wsX5_takeAway (wsV RX5 297 RX5 yX5_loseFile wsX5_loseFile) := goodIn_app (goodIn_of _ (by decide +kernel)) ggX5_takeAway_X5_loseFile
set_option maxRecDepth 20000 in
theorem ggX5_takeAway_X3_hide : GoodIn wsX5_takeAway wsX3_hide := goodIn_r _ [55, 51, 56, 10, 11, 12, 13, 14, 15, 66, 67, 68, 69, 70] (by decide +kernel) (by decide +kernel)
set_option maxRecDepth 20000 in
theorem gX5_takeAway_X3_hide : GoodIn wsX5_takeAway (wsV RX5 300 RX3 yX3_hide wsX3_hide) := goodIn_app (goodIn_of _ (by decide +kernel)) ggX5_takeAway_X3_hide
theorem dX5_takeAway_0 : decode cX5_takeAway 0 = .ok (.aload_n 0, 1) := by decide +kernel
theorem dX5_takeAway_1 : decode cX5_takeAway 1 = .ok (.getfield 24, 3) := by decide +kernel
theorem dX5_takeAway_4 : decode cX5_takeAway 4 = .ok (.aload_n 0, 1) := by decide +kernel
theorem dX5_takeAway_5 : decode cX5_takeAway 5 = .ok (.iload_n 1, 1) := by decide +kernel
theorem dX5_takeAway_6 : decode cX5_takeAway 6 = .ok (.invokevirtual 294, 3) := by decide +kernel
theorem dX5_takeAway_9 : decode cX5_takeAway 9 = .ok (.iadd, 1) := by decide +kernel
theorem dX5_takeAway_10 : decode cX5_takeAway 10 = .ok (.istore_n 2, 1) := by decide +kernel
theorem dX5_takeAway_11 : decode cX5_takeAway 11 = .ok (.iload_n 2, 1) := by decide +kernel
theorem dX5_takeAway_12 : decode cX5_takeAway 12 = .ok (.aload_n 0, 1) := by decide +kernel
theorem dX5_takeAway_13 : decode cX5_takeAway 13 = .ok (.getfield 24, 3) := by decide +kernel
theorem dX5_takeAway_16 : decode cX5_takeAway 16 = .ok (.if_icmp .ne 11, 3) := by decide +kernel
theorem dX5_takeAway_19 : decode cX5_takeAway 19 = .ok (.aload_n 0, 1) := by decide +kernel
theorem dX5_takeAway_20 : decode cX5_takeAway 20 = .ok (.iload_n 1, 1) := by decide +kernel
theorem dX5_takeAway_21 : decode cX5_takeAway 21 = .ok (.invokevirtual 297, 3) := by decide +kernel
theorem dX5_takeAway_24 : decode cX5_takeAway 24 = .ok (.goto 15, 3) := by decide +kernel
theorem dX5_takeAway_27 : decode cX5_takeAway 27 = .ok (.aload_n 0, 1) := by decide +kernel
theorem dX5_takeAway_28 : decode cX5_takeAway 28 = .ok (.getfield 51, 3) := by decide +kernel
theorem dX5_takeAway_31 : decode cX5_takeAway 31 = .ok (.iload_n 1, 1) := by decide +kernel
theorem dX5_takeAway_32 : decode cX5_takeAway 32 = .ok (.aload_n 0, 1) := by decide +kernel
theorem dX5_takeAway_33 : decode cX5_takeAway 33 = .ok (.getfield 24, 3) := by decide +kernel
theorem dX5_takeAway_36 : decode cX5_takeAway 36 = .ok (.invokevirtual 300, 3) := by decide +kernel
theorem dX5_takeAway_39 : decode cX5_takeAway 39 = .ok (.iload_n 2, 1) := by decide +kernel
theorem dX5_takeAway_40 : decode cX5_takeAway 40 = .ok (.ireturn, 1) := by decide +kernel
set_option maxRecDepth 20000 in
theorem ggX5_loseFile_X3_chunkOf : GoodIn wsX5_loseFile wsX3_chunkOf := goodIn_r _ [7, 8, 9, 10, 11, 12, 13, 14, 15, 41, 42, 43, 44, 45] (by decide +kernel) (by decide +kernel)
set_option maxRecDepth 20000 in
theorem gX5_loseFile_X3_chunkOf : GoodIn wsX5_loseFile (wsV RX5 167 RX3 yX3_chunkOf wsX3_chunkOf) := goodIn_app (goodIn_of _ (by decide +kernel)) ggX5_loseFile_X3_chunkOf
set_option maxRecDepth 20000 in
theorem ggX5_loseFile_X1_share : GoodIn wsX5_loseFile wsX1_share := goodIn_r _ [20, 21, 22, 23, 24, 19, 25, 26, 46, 47, 48, 49, 50] (by decide +kernel) (by decide +kernel)
set_option maxRecDepth 20000 in
theorem gX5_loseFile_X1_share : GoodIn wsX5_loseFile (wsV RX5 231 RX1 yX1_share wsX1_share) := goodIn_app (goodIn_of _ (by decide +kernel)) ggX5_loseFile_X1_share
set_option maxRecDepth 20000 in
theorem ggX5_loseFile_X3_end : GoodIn wsX5_loseFile wsX3_end := goodIn_r _ [30, 31, 8, 10, 11, 12, 13, 14, 15, 41, 42, 43, 44, 45] (by decide +kernel) (by decide +kernel)
set_option maxRecDepth 20000 in
theorem gX5_loseFile_X3_end : GoodIn wsX5_loseFile (wsV RX5 303 RX3 yX3_end wsX3_end) := goodIn_app (goodIn_of _ (by decide +kernel)) ggX5_loseFile_X3_end
theorem dX5_loseFile_0 : decode cX5_loseFile 0 = .ok (.iconst 0, 1) := by decide +kernel
theorem dX5_loseFile_1 : decode cX5_loseFile 1 = .ok (.istore_n 2, 1) := by decide +kernel
theorem dX5_loseFile_2 : decode cX5_loseFile 2 = .ok (.iload_n 2, 1) := by decide +kernel
theorem dX5_loseFile_3 : decode cX5_loseFile 3 = .ok (.iconst 4, 1) := by decide +kernel
theorem dX5_loseFile_4 : decode cX5_loseFile 4 = .ok (.if_icmp .ge 26, 3) := by decide +kernel
theorem dX5_loseFile_7 : decode cX5_loseFile 7 = .ok (.aload_n 0, 1) := by decide +kernel
theorem dX5_loseFile_8 : decode cX5_loseFile 8 = .ok (.getfield 37, 3) := by decide +kernel
theorem dX5_loseFile_11 : decode cX5_loseFile 11 = .ok (.aload_n 0, 1) := by decide +kernel
theorem dX5_loseFile_12 : decode cX5_loseFile 12 = .ok (.getfield 51, 3) := by decide +kernel
theorem dX5_loseFile_15 : decode cX5_loseFile 15 = .ok (.iload_n 1, 1) := by decide +kernel
theorem dX5_loseFile_16 : decode cX5_loseFile 16 = .ok (.iload_n 2, 1) := by decide +kernel
theorem dX5_loseFile_17 : decode cX5_loseFile 17 = .ok (.invokevirtual 167, 3) := by decide +kernel
theorem dX5_loseFile_20 : decode cX5_loseFile 20 = .ok (.iconst (-1), 1) := by decide +kernel
theorem dX5_loseFile_21 : decode cX5_loseFile 21 = .ok (.invokevirtual 231, 3) := by decide +kernel
theorem dX5_loseFile_24 : decode cX5_loseFile 24 = .ok (.iinc 2 1, 3) := by decide +kernel
theorem dX5_loseFile_27 : decode cX5_loseFile 27 = .ok (.goto (-25), 3) := by decide +kernel
theorem dX5_loseFile_30 : decode cX5_loseFile 30 = .ok (.aload_n 0, 1) := by decide +kernel
theorem dX5_loseFile_31 : decode cX5_loseFile 31 = .ok (.getfield 51, 3) := by decide +kernel
theorem dX5_loseFile_34 : decode cX5_loseFile 34 = .ok (.iload_n 1, 1) := by decide +kernel
theorem dX5_loseFile_35 : decode cX5_loseFile 35 = .ok (.invokevirtual 303, 3) := by decide +kernel
theorem dX5_loseFile_38 : decode cX5_loseFile 38 = .ok (.return_, 1) := by decide +kernel
set_option maxRecDepth 20000 in
theorem ggX5_comeOn_X3_is : GoodIn wsX5_comeOn wsX3_is := goodIn_r _ [8, 9, 10, 11, 12, 13, 14, 15, 66, 67, 68, 69, 70] (by decide +kernel) (by decide +kernel)
set_option maxRecDepth 20000 in
theorem gX5_comeOn_X3_is : GoodIn wsX5_comeOn (wsV RX5 306 RX3 yX3_is wsX3_is) := goodIn_app (goodIn_of _ (by decide +kernel)) ggX5_comeOn_X3_is
set_option maxRecDepth 20000 in
theorem ggX5_comeOn_X5_graceOf : GoodIn wsX5_comeOn wsX5_graceOf := goodIn_r _ [20, 2, 21, 22, 10, 11, 12, 13, 14, 15, 23, 24, 25, 26, 27, 28, 29, 30, 57, 58, 59, 60, 61, 62, 63, 64, 65, 66, 67, 68, 69, 70] (by decide +kernel) (by decide +kernel)
set_option maxRecDepth 20000 in
theorem gX5_comeOn_X5_graceOf : GoodIn wsX5_comeOn (wsV RX5 294 RX5 yX5_graceOf wsX5_graceOf) := goodIn_app (goodIn_of _ (by decide +kernel)) ggX5_comeOn_X5_graceOf
set_option maxRecDepth 20000 in
theorem ggX5_comeOn_X5_loseFile : GoodIn wsX5_comeOn wsX5_loseFile := goodIn_r _ [34, 35, 2, 36, 37, 38, 7, 39, 40, 41, 10, 11, 12, 13, 14, 15, 42, 43, 44, 45, 46, 47, 48, 49, 50, 51, 52, 53, 54, 55, 56, 9, 57, 58, 59, 60, 61, 62, 63, 64, 65, 66, 67, 68, 69, 70, 71, 72, 73, 74, 75] (by decide +kernel) (by decide +kernel)
set_option maxRecDepth 20000 in
theorem gX5_comeOn_X5_loseFile : GoodIn wsX5_comeOn (wsV RX5 297 RX5 yX5_loseFile wsX5_loseFile) := goodIn_app (goodIn_of _ (by decide +kernel)) ggX5_comeOn_X5_loseFile
theorem dX5_comeOn_0 : decode cX5_comeOn 0 = .ok (.aload_n 0, 1) := by decide +kernel
theorem dX5_comeOn_1 : decode cX5_comeOn 1 = .ok (.dup, 1) := by decide +kernel
theorem dX5_comeOn_2 : decode cX5_comeOn 2 = .ok (.getfield 24, 3) := by decide +kernel
theorem dX5_comeOn_5 : decode cX5_comeOn 5 = .ok (.iload_n 1, 1) := by decide +kernel
theorem dX5_comeOn_6 : decode cX5_comeOn 6 = .ok (.iadd, 1) := by decide +kernel
theorem dX5_comeOn_7 : decode cX5_comeOn 7 = .ok (.putfield 24, 3) := by decide +kernel
theorem dX5_comeOn_10 : decode cX5_comeOn 10 = .ok (.iconst 0, 1) := by decide +kernel
theorem dX5_comeOn_11 : decode cX5_comeOn 11 = .ok (.istore_n 2, 1) := by decide +kernel
theorem dX5_comeOn_12 : decode cX5_comeOn 12 = .ok (.iconst 0, 1) := by decide +kernel
theorem dX5_comeOn_13 : decode cX5_comeOn 13 = .ok (.istore_n 3, 1) := by decide +kernel
theorem dX5_comeOn_14 : decode cX5_comeOn 14 = .ok (.iload_n 3, 1) := by decide +kernel
theorem dX5_comeOn_15 : decode cX5_comeOn 15 = .ok (.bipush 6, 2) := by decide +kernel
theorem dX5_comeOn_17 : decode cX5_comeOn 17 = .ok (.if_icmp .ge 51, 3) := by decide +kernel
theorem dX5_comeOn_20 : decode cX5_comeOn 20 = .ok (.aload_n 0, 1) := by decide +kernel
theorem dX5_comeOn_21 : decode cX5_comeOn 21 = .ok (.getfield 51, 3) := by decide +kernel
theorem dX5_comeOn_24 : decode cX5_comeOn 24 = .ok (.iload_n 3, 1) := by decide +kernel
theorem dX5_comeOn_25 : decode cX5_comeOn 25 = .ok (.iconst 2, 1) := by decide +kernel
theorem dX5_comeOn_26 : decode cX5_comeOn 26 = .ok (.invokevirtual 306, 3) := by decide +kernel
theorem dX5_comeOn_29 : decode cX5_comeOn 29 = .ok (.ifCond .eq 33, 3) := by decide +kernel
theorem dX5_comeOn_32 : decode cX5_comeOn 32 = .ok (.aload_n 0, 1) := by decide +kernel
theorem dX5_comeOn_33 : decode cX5_comeOn 33 = .ok (.getfield 24, 3) := by decide +kernel
theorem dX5_comeOn_36 : decode cX5_comeOn 36 = .ok (.aload_n 0, 1) := by decide +kernel
theorem dX5_comeOn_37 : decode cX5_comeOn 37 = .ok (.getfield 51, 3) := by decide +kernel
theorem dX5_comeOn_40 : decode cX5_comeOn 40 = .ok (.getfield 309, 3) := by decide +kernel
theorem dX5_comeOn_43 : decode cX5_comeOn 43 = .ok (.iload_n 3, 1) := by decide +kernel
theorem dX5_comeOn_44 : decode cX5_comeOn 44 = .ok (.iaload, 1) := by decide +kernel
theorem dX5_comeOn_45 : decode cX5_comeOn 45 = .ok (.isub, 1) := by decide +kernel
theorem dX5_comeOn_46 : decode cX5_comeOn 46 = .ok (.aload_n 0, 1) := by decide +kernel
theorem dX5_comeOn_47 : decode cX5_comeOn 47 = .ok (.iload_n 3, 1) := by decide +kernel
theorem dX5_comeOn_48 : decode cX5_comeOn 48 = .ok (.invokevirtual 294, 3) := by decide +kernel
theorem dX5_comeOn_51 : decode cX5_comeOn 51 = .ok (.if_icmp .lt 11, 3) := by decide +kernel
theorem dX5_comeOn_54 : decode cX5_comeOn 54 = .ok (.aload_n 0, 1) := by decide +kernel
theorem dX5_comeOn_55 : decode cX5_comeOn 55 = .ok (.iload_n 3, 1) := by decide +kernel
theorem dX5_comeOn_56 : decode cX5_comeOn 56 = .ok (.invokevirtual 297, 3) := by decide +kernel
theorem dX5_comeOn_59 : decode cX5_comeOn 59 = .ok (.iinc 2 1, 3) := by decide +kernel
theorem dX5_comeOn_62 : decode cX5_comeOn 62 = .ok (.iinc 3 1, 3) := by decide +kernel
theorem dX5_comeOn_65 : decode cX5_comeOn 65 = .ok (.goto (-51), 3) := by decide +kernel
theorem dX5_comeOn_68 : decode cX5_comeOn 68 = .ok (.iload_n 2, 1) := by decide +kernel
theorem dX5_comeOn_69 : decode cX5_comeOn 69 = .ok (.ireturn, 1) := by decide +kernel
set_option maxRecDepth 20000 in
theorem ggX5_throwAway_X5_isStale : GoodIn wsX5_throwAway wsX5_isStale := goodIn_r _ [8, 3, 9, 10, 11, 12, 13, 14, 15, 16, 17, 18, 19, 20, 21, 22, 23, 24, 7, 25, 1, 26, 27, 28, 29, 30, 31, 32, 33, 48, 49, 50, 51, 52, 53, 54, 55, 56, 62, 63, 64, 57, 58, 59, 60, 61] (by decide +kernel) (by decide +kernel)
set_option maxRecDepth 20000 in
theorem gX5_throwAway_X5_isStale : GoodIn wsX5_throwAway (wsV RX5 101 RX5 yX5_isStale wsX5_isStale) := goodIn_app (goodIn_of _ (by decide +kernel)) ggX5_throwAway_X5_isStale
set_option maxRecDepth 20000 in
theorem ggX5_throwAway_X2_lies : GoodIn wsX5_throwAway wsX2_lies := goodIn_r _ [13, 14, 15, 16, 12, 17, 18, 19, 20, 21, 62, 63, 64] (by decide +kernel) (by decide +kernel)
set_option maxRecDepth 20000 in
theorem gX5_throwAway_X2_lies : GoodIn wsX5_throwAway (wsV RX5 91 RX2 yX2_lies wsX2_lies) := goodIn_app (goodIn_of _ (by decide +kernel)) ggX5_throwAway_X2_lies
set_option maxRecDepth 20000 in
theorem ggX5_throwAway_X1_isForgotten : GoodIn wsX5_throwAway wsX1_isForgotten := goodIn_r _ [37, 38, 39, 28, 29, 30, 31, 32, 57, 58, 59, 60, 61] (by decide +kernel) (by decide +kernel)
set_option maxRecDepth 20000 in
theorem gX5_throwAway_X1_isForgotten : GoodIn wsX5_throwAway (wsV RX5 124 RX1 yX1_isForgotten wsX1_isForgotten) := goodIn_app (goodIn_of _ (by decide +kernel)) ggX5_throwAway_X1_isForgotten
set_option maxRecDepth 20000 in
theorem ggX5_throwAway_X2_drop : GoodIn wsX5_throwAway wsX2_drop := goodIn_r _ [43, 44, 45, 46, 12, 47, 18, 19, 20, 21, 62, 63, 64] (by decide +kernel) (by decide +kernel)
set_option maxRecDepth 20000 in
theorem gX5_throwAway_X2_drop : GoodIn wsX5_throwAway (wsV RX5 312 RX2 yX2_drop wsX2_drop) := goodIn_app (goodIn_of _ (by decide +kernel)) ggX5_throwAway_X2_drop
theorem dX5_throwAway_0 : decode cX5_throwAway 0 = .ok (.iconst 0, 1) := by decide +kernel
theorem dX5_throwAway_1 : decode cX5_throwAway 1 = .ok (.istore_n 2, 1) := by decide +kernel
theorem dX5_throwAway_2 : decode cX5_throwAway 2 = .ok (.iconst 0, 1) := by decide +kernel
theorem dX5_throwAway_3 : decode cX5_throwAway 3 = .ok (.istore_n 3, 1) := by decide +kernel
theorem dX5_throwAway_4 : decode cX5_throwAway 4 = .ok (.iload_n 3, 1) := by decide +kernel
theorem dX5_throwAway_5 : decode cX5_throwAway 5 = .ok (.aload_n 0, 1) := by decide +kernel
theorem dX5_throwAway_6 : decode cX5_throwAway 6 = .ok (.getfield 37, 3) := by decide +kernel
theorem dX5_throwAway_9 : decode cX5_throwAway 9 = .ok (.getfield 59, 3) := by decide +kernel
theorem dX5_throwAway_12 : decode cX5_throwAway 12 = .ok (.if_icmp .ge 53, 3) := by decide +kernel
theorem dX5_throwAway_15 : decode cX5_throwAway 15 = .ok (.aload_n 0, 1) := by decide +kernel
theorem dX5_throwAway_16 : decode cX5_throwAway 16 = .ok (.iload_n 1, 1) := by decide +kernel
theorem dX5_throwAway_17 : decode cX5_throwAway 17 = .ok (.iload_n 3, 1) := by decide +kernel
theorem dX5_throwAway_18 : decode cX5_throwAway 18 = .ok (.invokevirtual 101, 3) := by decide +kernel
theorem dX5_throwAway_21 : decode cX5_throwAway 21 = .ok (.ifCond .ne 26, 3) := by decide +kernel
theorem dX5_throwAway_24 : decode cX5_throwAway 24 = .ok (.aload_n 0, 1) := by decide +kernel
theorem dX5_throwAway_25 : decode cX5_throwAway 25 = .ok (.getfield 44, 3) := by decide +kernel
theorem dX5_throwAway_28 : decode cX5_throwAway 28 = .ok (.iload_n 1, 1) := by decide +kernel
theorem dX5_throwAway_29 : decode cX5_throwAway 29 = .ok (.iload_n 3, 1) := by decide +kernel
theorem dX5_throwAway_30 : decode cX5_throwAway 30 = .ok (.invokevirtual 91, 3) := by decide +kernel
theorem dX5_throwAway_33 : decode cX5_throwAway 33 = .ok (.ifCond .eq 26, 3) := by decide +kernel
theorem dX5_throwAway_36 : decode cX5_throwAway 36 = .ok (.aload_n 0, 1) := by decide +kernel
theorem dX5_throwAway_37 : decode cX5_throwAway 37 = .ok (.getfield 37, 3) := by decide +kernel
theorem dX5_throwAway_40 : decode cX5_throwAway 40 = .ok (.iload_n 3, 1) := by decide +kernel
theorem dX5_throwAway_41 : decode cX5_throwAway 41 = .ok (.invokevirtual 124, 3) := by decide +kernel
theorem dX5_throwAway_44 : decode cX5_throwAway 44 = .ok (.ifCond .eq 15, 3) := by decide +kernel
theorem dX5_throwAway_47 : decode cX5_throwAway 47 = .ok (.aload_n 0, 1) := by decide +kernel
theorem dX5_throwAway_48 : decode cX5_throwAway 48 = .ok (.getfield 44, 3) := by decide +kernel
theorem dX5_throwAway_51 : decode cX5_throwAway 51 = .ok (.iload_n 1, 1) := by decide +kernel
theorem dX5_throwAway_52 : decode cX5_throwAway 52 = .ok (.iload_n 3, 1) := by decide +kernel
theorem dX5_throwAway_53 : decode cX5_throwAway 53 = .ok (.invokevirtual 312, 3) := by decide +kernel
theorem dX5_throwAway_56 : decode cX5_throwAway 56 = .ok (.iinc 2 1, 3) := by decide +kernel
theorem dX5_throwAway_59 : decode cX5_throwAway 59 = .ok (.iinc 3 1, 3) := by decide +kernel
theorem dX5_throwAway_62 : decode cX5_throwAway 62 = .ok (.goto (-58), 3) := by decide +kernel
theorem dX5_throwAway_65 : decode cX5_throwAway 65 = .ok (.iload_n 2, 1) := by decide +kernel
theorem dX5_throwAway_66 : decode cX5_throwAway 66 = .ok (.ireturn, 1) := by decide +kernel
set_option maxRecDepth 20000 in
theorem ggX5_firstToMend_X5_lacksCopy : GoodIn wsX5_firstToMend wsX5_lacksCopy := goodIn_r _ [7, 1, 8, 9, 10, 11, 12, 6, 13, 14, 15, 16, 17, 18, 19, 20, 21, 22, 23, 24, 25, 26, 27, 28, 29, 30, 31, 32, 33, 34, 35, 36, 37, 38, 39, 40, 41, 42, 43, 44, 45, 46, 47, 48, 49, 50, 51, 52, 53, 54, 55, 56, 57, 58, 59, 60, 61, 62, 63, 64, 65, 66, 67, 68, 69, 70, 71, 72, 73, 74, 75, 76, 77, 78, 79, 80, 81, 82, 83, 84, 85, 86, 87, 88, 89, 90, 91, 92, 93, 94, 95, 96, 97, 103, 104, 105, 106, 98, 99, 100, 101, 102, 107, 108, 109, 110, 111, 112, 113, 114] (by decide +kernel) (by decide +kernel)
set_option maxRecDepth 20000 in
theorem gX5_firstToMend_X5_lacksCopy : GoodIn wsX5_firstToMend (wsV RX5 315 RX5 yX5_lacksCopy wsX5_lacksCopy) := goodIn_app (goodIn_of _ (by decide +kernel)) ggX5_firstToMend_X5_lacksCopy
theorem dX5_firstToMend_0 : decode cX5_firstToMend 0 = .ok (.iconst 0, 1) := by decide +kernel
theorem dX5_firstToMend_1 : decode cX5_firstToMend 1 = .ok (.istore_n 1, 1) := by decide +kernel
theorem dX5_firstToMend_2 : decode cX5_firstToMend 2 = .ok (.iload_n 1, 1) := by decide +kernel
theorem dX5_firstToMend_3 : decode cX5_firstToMend 3 = .ok (.aload_n 0, 1) := by decide +kernel
theorem dX5_firstToMend_4 : decode cX5_firstToMend 4 = .ok (.getfield 37, 3) := by decide +kernel
theorem dX5_firstToMend_7 : decode cX5_firstToMend 7 = .ok (.getfield 59, 3) := by decide +kernel
theorem dX5_firstToMend_10 : decode cX5_firstToMend 10 = .ok (.if_icmp .ge 19, 3) := by decide +kernel
theorem dX5_firstToMend_13 : decode cX5_firstToMend 13 = .ok (.aload_n 0, 1) := by decide +kernel
theorem dX5_firstToMend_14 : decode cX5_firstToMend 14 = .ok (.iload_n 1, 1) := by decide +kernel
theorem dX5_firstToMend_15 : decode cX5_firstToMend 15 = .ok (.invokevirtual 315, 3) := by decide +kernel
theorem dX5_firstToMend_18 : decode cX5_firstToMend 18 = .ok (.ifCond .eq 5, 3) := by decide +kernel
theorem dX5_firstToMend_21 : decode cX5_firstToMend 21 = .ok (.iload_n 1, 1) := by decide +kernel
theorem dX5_firstToMend_22 : decode cX5_firstToMend 22 = .ok (.ireturn, 1) := by decide +kernel
theorem dX5_firstToMend_23 : decode cX5_firstToMend 23 = .ok (.iinc 1 1, 3) := by decide +kernel
theorem dX5_firstToMend_26 : decode cX5_firstToMend 26 = .ok (.goto (-24), 3) := by decide +kernel
theorem dX5_firstToMend_29 : decode cX5_firstToMend 29 = .ok (.iconst (-1), 1) := by decide +kernel
theorem dX5_firstToMend_30 : decode cX5_firstToMend 30 = .ok (.ireturn, 1) := by decide +kernel
set_option maxRecDepth 20000 in
theorem ggX5_lacksCopy_X5_able : GoodIn wsX5_lacksCopy wsX5_able := goodIn_r _ [8, 2, 3, 9, 10, 11, 7, 12, 1, 13, 14, 15, 16, 17, 18, 19, 20, 21, 22, 23, 24, 25, 26, 27, 28, 29, 30, 84, 85, 86, 87, 88, 89, 90, 91, 92, 93, 94, 95, 96, 97, 98, 99, 100, 101, 102, 103, 104] (by decide +kernel) (by decide +kernel)
set_option maxRecDepth 20000 in
theorem gX5_lacksCopy_X5_able : GoodIn wsX5_lacksCopy (wsV RX5 136 RX5 yX5_able wsX5_able) := goodIn_app (goodIn_of _ (by decide +kernel)) ggX5_lacksCopy_X5_able
set_option maxRecDepth 20000 in
theorem ggX5_lacksCopy_X1_isForgotten : GoodIn wsX5_lacksCopy wsX1_isForgotten := goodIn_r _ [34, 35, 36, 17, 18, 19, 20, 21, 97, 98, 99, 100, 101] (by decide +kernel) (by decide +kernel)
set_option maxRecDepth 20000 in
theorem gX5_lacksCopy_X1_isForgotten : GoodIn wsX5_lacksCopy (wsV RX5 124 RX1 yX1_isForgotten wsX1_isForgotten) := goodIn_app (goodIn_of _ (by decide +kernel)) ggX5_lacksCopy_X1_isForgotten
set_option maxRecDepth 20000 in
theorem ggX5_lacksCopy_J6_bitCount_0f7a4 : GoodIn wsX5_lacksCopy wsJ6_bitCount_0f7a4 := goodIn_r _ [40, 41, 42, 43] (by decide +kernel) (by decide +kernel)
set_option maxRecDepth 20000 in
theorem gX5_lacksCopy_J6_bitCount_0f7a4 : GoodIn wsX5_lacksCopy (va_wsS RX5 318 yJ6_bitCount_0f7a4 wsJ6_bitCount_0f7a4) := goodIn_app (goodIn_of _ (by decide +kernel)) ggX5_lacksCopy_J6_bitCount_0f7a4
set_option maxRecDepth 20000 in
theorem ggX5_lacksCopy_X5_mostWanted : GoodIn wsX5_lacksCopy wsX5_mostWanted := goodIn_r _ [47, 48, 49, 50, 51, 52, 53, 54, 55, 56, 57, 58, 59, 60, 61, 62, 63, 64, 65, 66, 67, 68, 69, 70, 71, 72, 73, 7, 74, 75, 76, 77, 78, 79, 80, 81, 82, 83, 84, 85, 86, 87, 88, 89, 90, 91, 92, 105, 106, 107, 108, 109] (by decide +kernel) (by decide +kernel)
set_option maxRecDepth 20000 in
theorem gX5_lacksCopy_X5_mostWanted : GoodIn wsX5_lacksCopy (wsV RX5 323 RX5 yX5_mostWanted wsX5_mostWanted) := goodIn_app (goodIn_of _ (by decide +kernel)) ggX5_lacksCopy_X5_mostWanted
theorem dX5_lacksCopy_0 : decode cX5_lacksCopy 0 = .ok (.aload_n 0, 1) := by decide +kernel
theorem dX5_lacksCopy_1 : decode cX5_lacksCopy 1 = .ok (.iload_n 1, 1) := by decide +kernel
theorem dX5_lacksCopy_2 : decode cX5_lacksCopy 2 = .ok (.invokevirtual 136, 3) := by decide +kernel
theorem dX5_lacksCopy_5 : decode cX5_lacksCopy 5 = .ok (.istore_n 2, 1) := by decide +kernel
theorem dX5_lacksCopy_6 : decode cX5_lacksCopy 6 = .ok (.iload_n 2, 1) := by decide +kernel
theorem dX5_lacksCopy_7 : decode cX5_lacksCopy 7 = .ok (.ifCond .eq 18, 3) := by decide +kernel
theorem dX5_lacksCopy_10 : decode cX5_lacksCopy 10 = .ok (.aload_n 0, 1) := by decide +kernel
theorem dX5_lacksCopy_11 : decode cX5_lacksCopy 11 = .ok (.getfield 37, 3) := by decide +kernel
theorem dX5_lacksCopy_14 : decode cX5_lacksCopy 14 = .ok (.iload_n 1, 1) := by decide +kernel
theorem dX5_lacksCopy_15 : decode cX5_lacksCopy 15 = .ok (.invokevirtual 124, 3) := by decide +kernel
theorem dX5_lacksCopy_18 : decode cX5_lacksCopy 18 = .ok (.ifCond .ne 7, 3) := by decide +kernel
theorem dX5_lacksCopy_21 : decode cX5_lacksCopy 21 = .ok (.iconst 1, 1) := by decide +kernel
theorem dX5_lacksCopy_22 : decode cX5_lacksCopy 22 = .ok (.goto 4, 3) := by decide +kernel
theorem dX5_lacksCopy_25 : decode cX5_lacksCopy 25 = .ok (.iconst 0, 1) := by decide +kernel
theorem dX5_lacksCopy_26 : decode cX5_lacksCopy 26 = .ok (.istore_n 3, 1) := by decide +kernel
theorem dX5_lacksCopy_27 : decode cX5_lacksCopy 27 = .ok (.aload_n 0, 1) := by decide +kernel
theorem dX5_lacksCopy_28 : decode cX5_lacksCopy 28 = .ok (.getfield 30, 3) := by decide +kernel
theorem dX5_lacksCopy_31 : decode cX5_lacksCopy 31 = .ok (.getfield 108, 3) := by decide +kernel
theorem dX5_lacksCopy_34 : decode cX5_lacksCopy 34 = .ok (.iload_n 2, 1) := by decide +kernel
theorem dX5_lacksCopy_35 : decode cX5_lacksCopy 35 = .ok (.iconst (-1), 1) := by decide +kernel
theorem dX5_lacksCopy_36 : decode cX5_lacksCopy 36 = .ok (.ixor, 1) := by decide +kernel
theorem dX5_lacksCopy_37 : decode cX5_lacksCopy 37 = .ok (.iand, 1) := by decide +kernel
theorem dX5_lacksCopy_38 : decode cX5_lacksCopy 38 = .ok (.ifCond .eq 7, 3) := by decide +kernel
theorem dX5_lacksCopy_41 : decode cX5_lacksCopy 41 = .ok (.iconst 1, 1) := by decide +kernel
theorem dX5_lacksCopy_42 : decode cX5_lacksCopy 42 = .ok (.goto 4, 3) := by decide +kernel
theorem dX5_lacksCopy_45 : decode cX5_lacksCopy 45 = .ok (.iconst 0, 1) := by decide +kernel
theorem dX5_lacksCopy_46 : decode cX5_lacksCopy 46 = .ok (.istore 4, 2) := by decide +kernel
theorem dX5_lacksCopy_48 : decode cX5_lacksCopy 48 = .ok (.iload_n 3, 1) := by decide +kernel
theorem dX5_lacksCopy_49 : decode cX5_lacksCopy 49 = .ok (.ifCond .eq 24, 3) := by decide +kernel
theorem dX5_lacksCopy_52 : decode cX5_lacksCopy 52 = .ok (.iload 4, 2) := by decide +kernel
theorem dX5_lacksCopy_54 : decode cX5_lacksCopy 54 = .ok (.ifCond .eq 19, 3) := by decide +kernel
theorem dX5_lacksCopy_57 : decode cX5_lacksCopy 57 = .ok (.iload_n 2, 1) := by decide +kernel
theorem dX5_lacksCopy_58 : decode cX5_lacksCopy 58 = .ok (.invokestatic 318, 3) := by decide +kernel
theorem dX5_lacksCopy_61 : decode cX5_lacksCopy 61 = .ok (.aload_n 0, 1) := by decide +kernel
theorem dX5_lacksCopy_62 : decode cX5_lacksCopy 62 = .ok (.iload_n 1, 1) := by decide +kernel
theorem dX5_lacksCopy_63 : decode cX5_lacksCopy 63 = .ok (.invokevirtual 323, 3) := by decide +kernel
theorem dX5_lacksCopy_66 : decode cX5_lacksCopy 66 = .ok (.if_icmp .ge 7, 3) := by decide +kernel
theorem dX5_lacksCopy_69 : decode cX5_lacksCopy 69 = .ok (.iconst 1, 1) := by decide +kernel
theorem dX5_lacksCopy_70 : decode cX5_lacksCopy 70 = .ok (.goto 4, 3) := by decide +kernel
theorem dX5_lacksCopy_73 : decode cX5_lacksCopy 73 = .ok (.iconst 0, 1) := by decide +kernel
theorem dX5_lacksCopy_74 : decode cX5_lacksCopy 74 = .ok (.ireturn, 1) := by decide +kernel
set_option maxRecDepth 20000 in
theorem ggX5_mostWanted_X3_owns : GoodIn wsX5_mostWanted wsX3_owns := goodIn_r _ [11, 12, 13, 14, 10, 15, 16, 17, 18, 19, 20, 21, 22, 23, 47, 48, 49, 50, 51] (by decide +kernel) (by decide +kernel)
set_option maxRecDepth 20000 in
theorem gX5_mostWanted_X3_owns : GoodIn wsX5_mostWanted (wsV RX5 326 RX3 yX3_owns wsX3_owns) := goodIn_app (goodIn_of _ (by decide +kernel)) ggX5_mostWanted_X3_owns
set_option maxRecDepth 20000 in
theorem ggX5_mostWanted_X5_copiesWanted : GoodIn wsX5_mostWanted wsX5_copiesWanted := goodIn_r _ [28, 29, 30, 31, 32, 33, 34, 35, 36, 37, 38, 39, 40, 41, 42, 43, 44, 45, 46] (by decide +kernel) (by decide +kernel)
set_option maxRecDepth 20000 in
theorem gX5_mostWanted_X5_copiesWanted : GoodIn wsX5_mostWanted (wsV RX5 197 RX5 yX5_copiesWanted wsX5_copiesWanted) := goodIn_app (goodIn_of _ (by decide +kernel)) ggX5_mostWanted_X5_copiesWanted
theorem dX5_mostWanted_0 : decode cX5_mostWanted 0 = .ok (.iconst 0, 1) := by decide +kernel
theorem dX5_mostWanted_1 : decode cX5_mostWanted 1 = .ok (.istore_n 2, 1) := by decide +kernel
theorem dX5_mostWanted_2 : decode cX5_mostWanted 2 = .ok (.iconst 0, 1) := by decide +kernel
theorem dX5_mostWanted_3 : decode cX5_mostWanted 3 = .ok (.istore_n 3, 1) := by decide +kernel
theorem dX5_mostWanted_4 : decode cX5_mostWanted 4 = .ok (.iload_n 3, 1) := by decide +kernel
theorem dX5_mostWanted_5 : decode cX5_mostWanted 5 = .ok (.bipush 6, 2) := by decide +kernel
theorem dX5_mostWanted_7 : decode cX5_mostWanted 7 = .ok (.if_icmp .ge 39, 3) := by decide +kernel
theorem dX5_mostWanted_10 : decode cX5_mostWanted 10 = .ok (.aload_n 0, 1) := by decide +kernel
theorem dX5_mostWanted_11 : decode cX5_mostWanted 11 = .ok (.getfield 51, 3) := by decide +kernel
theorem dX5_mostWanted_14 : decode cX5_mostWanted 14 = .ok (.iload_n 3, 1) := by decide +kernel
theorem dX5_mostWanted_15 : decode cX5_mostWanted 15 = .ok (.iload_n 1, 1) := by decide +kernel
theorem dX5_mostWanted_16 : decode cX5_mostWanted 16 = .ok (.invokevirtual 326, 3) := by decide +kernel
theorem dX5_mostWanted_19 : decode cX5_mostWanted 19 = .ok (.ifCond .eq 21, 3) := by decide +kernel
theorem dX5_mostWanted_22 : decode cX5_mostWanted 22 = .ok (.iload_n 2, 1) := by decide +kernel
theorem dX5_mostWanted_23 : decode cX5_mostWanted 23 = .ok (.aload_n 0, 1) := by decide +kernel
theorem dX5_mostWanted_24 : decode cX5_mostWanted 24 = .ok (.aload_n 0, 1) := by decide +kernel
theorem dX5_mostWanted_25 : decode cX5_mostWanted 25 = .ok (.getfield 51, 3) := by decide +kernel
theorem dX5_mostWanted_28 : decode cX5_mostWanted 28 = .ok (.getfield 155, 3) := by decide +kernel
theorem dX5_mostWanted_31 : decode cX5_mostWanted 31 = .ok (.iload_n 3, 1) := by decide +kernel
theorem dX5_mostWanted_32 : decode cX5_mostWanted 32 = .ok (.iaload, 1) := by decide +kernel
theorem dX5_mostWanted_33 : decode cX5_mostWanted 33 = .ok (.invokevirtual 197, 3) := by decide +kernel
theorem dX5_mostWanted_36 : decode cX5_mostWanted 36 = .ok (.invokestatic 142, 3) := by decide +kernel
theorem dX5_mostWanted_39 : decode cX5_mostWanted 39 = .ok (.istore_n 2, 1) := by decide +kernel
theorem dX5_mostWanted_40 : decode cX5_mostWanted 40 = .ok (.iinc 3 1, 3) := by decide +kernel
theorem dX5_mostWanted_43 : decode cX5_mostWanted 43 = .ok (.goto (-39), 3) := by decide +kernel
theorem dX5_mostWanted_46 : decode cX5_mostWanted 46 = .ok (.iload_n 2, 1) := by decide +kernel
theorem dX5_mostWanted_47 : decode cX5_mostWanted 47 = .ok (.ireturn, 1) := by decide +kernel
set_option maxRecDepth 20000 in
theorem ggX5_addCopy_X5_able : GoodIn wsX5_addCopy wsX5_able := goodIn_r _ [8, 1, 2, 9, 10, 11, 7, 12, 13, 14, 15, 3, 16, 17, 18, 19, 20, 21, 22, 23, 24, 25, 26, 27, 28, 29, 30, 84, 85, 86, 87, 88, 89, 90, 91, 92, 93, 94, 95, 96, 97, 98, 99, 100, 101, 102, 103, 104] (by decide +kernel) (by decide +kernel)
set_option maxRecDepth 20000 in
theorem gX5_addCopy_X5_able : GoodIn wsX5_addCopy (wsV RX5 136 RX5 yX5_able wsX5_able) := goodIn_app (goodIn_of _ (by decide +kernel)) ggX5_addCopy_X5_able
set_option maxRecDepth 20000 in
theorem ggX5_addCopy_X5_first : GoodIn wsX5_addCopy wsX5_first := goodIn_r _ [34, 1, 15, 35, 36, 37, 84, 85, 86, 87, 88, 89, 90, 91, 92, 93, 94, 95, 96] (by decide +kernel) (by decide +kernel)
set_option maxRecDepth 20000 in
theorem gX5_addCopy_X5_first : GoodIn wsX5_addCopy (wsV RX5 179 RX5 yX5_first wsX5_first) := goodIn_app (goodIn_of _ (by decide +kernel)) ggX5_addCopy_X5_first
set_option maxRecDepth 20000 in
theorem ggX5_addCopy_X5_best : GoodIn wsX5_addCopy wsX5_best := goodIn_r _ [41, 1, 15, 35, 36, 37, 42, 43, 44, 7, 45, 3, 46, 47, 48, 25, 49, 27, 50, 51, 52, 53, 54, 55, 56, 84, 85, 86, 87, 88, 89, 90, 91, 92, 93, 94, 95, 96, 102, 103, 104] (by decide +kernel) (by decide +kernel)
set_option maxRecDepth 20000 in
theorem gX5_addCopy_X5_best : GoodIn wsX5_addCopy (wsV RX5 200 RX5 yX5_best wsX5_best) := goodIn_app (goodIn_of _ (by decide +kernel)) ggX5_addCopy_X5_best
set_option maxRecDepth 20000 in
theorem ggX5_addCopy_X2_versionOf : GoodIn wsX5_addCopy wsX2_versionOf := goodIn_r _ [26, 27, 28, 29, 25, 30, 102, 103, 104] (by decide +kernel) (by decide +kernel)
set_option maxRecDepth 20000 in
theorem gX5_addCopy_X2_versionOf : GoodIn wsX5_addCopy (wsV RX5 83 RX2 yX2_versionOf wsX2_versionOf) := goodIn_app (goodIn_of _ (by decide +kernel)) ggX5_addCopy_X2_versionOf
set_option maxRecDepth 20000 in
theorem ggX5_addCopy_X2_layLike : GoodIn wsX5_addCopy wsX2_layLike := goodIn_r _ [60, 61, 62, 63, 25, 64, 65, 66, 28, 29, 30, 67, 68, 69, 70, 71, 72, 73, 74, 75, 76, 77, 78, 79, 80, 81, 82, 83, 27, 102, 103, 104] (by decide +kernel) (by decide +kernel)
set_option maxRecDepth 20000 in
theorem gX5_addCopy_X2_layLike : GoodIn wsX5_addCopy (wsV RX5 227 RX2 yX2_layLike wsX2_layLike) := goodIn_app (goodIn_of _ (by decide +kernel)) ggX5_addCopy_X2_layLike
theorem dX5_addCopy_0 : decode cX5_addCopy 0 = .ok (.aload_n 0, 1) := by decide +kernel
theorem dX5_addCopy_1 : decode cX5_addCopy 1 = .ok (.iload_n 1, 1) := by decide +kernel
theorem dX5_addCopy_2 : decode cX5_addCopy 2 = .ok (.invokevirtual 136, 3) := by decide +kernel
theorem dX5_addCopy_5 : decode cX5_addCopy 5 = .ok (.istore_n 2, 1) := by decide +kernel
theorem dX5_addCopy_6 : decode cX5_addCopy 6 = .ok (.aload_n 0, 1) := by decide +kernel
theorem dX5_addCopy_7 : decode cX5_addCopy 7 = .ok (.iload_n 2, 1) := by decide +kernel
theorem dX5_addCopy_8 : decode cX5_addCopy 8 = .ok (.invokevirtual 179, 3) := by decide +kernel
theorem dX5_addCopy_11 : decode cX5_addCopy 11 = .ok (.istore_n 3, 1) := by decide +kernel
theorem dX5_addCopy_12 : decode cX5_addCopy 12 = .ok (.aload_n 0, 1) := by decide +kernel
theorem dX5_addCopy_13 : decode cX5_addCopy 13 = .ok (.aload_n 0, 1) := by decide +kernel
theorem dX5_addCopy_14 : decode cX5_addCopy 14 = .ok (.getfield 30, 3) := by decide +kernel
theorem dX5_addCopy_17 : decode cX5_addCopy 17 = .ok (.getfield 108, 3) := by decide +kernel
theorem dX5_addCopy_20 : decode cX5_addCopy 20 = .ok (.iload_n 2, 1) := by decide +kernel
theorem dX5_addCopy_21 : decode cX5_addCopy 21 = .ok (.iconst (-1), 1) := by decide +kernel
theorem dX5_addCopy_22 : decode cX5_addCopy 22 = .ok (.ixor, 1) := by decide +kernel
theorem dX5_addCopy_23 : decode cX5_addCopy 23 = .ok (.iand, 1) := by decide +kernel
theorem dX5_addCopy_24 : decode cX5_addCopy 24 = .ok (.invokevirtual 200, 3) := by decide +kernel
theorem dX5_addCopy_27 : decode cX5_addCopy 27 = .ok (.istore 4, 2) := by decide +kernel
theorem dX5_addCopy_29 : decode cX5_addCopy 29 = .ok (.iload_n 3, 1) := by decide +kernel
theorem dX5_addCopy_30 : decode cX5_addCopy 30 = .ok (.iconst (-1), 1) := by decide +kernel
theorem dX5_addCopy_31 : decode cX5_addCopy 31 = .ok (.if_icmp .eq 30, 3) := by decide +kernel
theorem dX5_addCopy_34 : decode cX5_addCopy 34 = .ok (.iload 4, 2) := by decide +kernel
theorem dX5_addCopy_36 : decode cX5_addCopy 36 = .ok (.iconst (-1), 1) := by decide +kernel
theorem dX5_addCopy_37 : decode cX5_addCopy 37 = .ok (.if_icmp .eq 24, 3) := by decide +kernel
theorem dX5_addCopy_40 : decode cX5_addCopy 40 = .ok (.aload_n 0, 1) := by decide +kernel
theorem dX5_addCopy_41 : decode cX5_addCopy 41 = .ok (.getfield 44, 3) := by decide +kernel
theorem dX5_addCopy_44 : decode cX5_addCopy 44 = .ok (.iload 4, 2) := by decide +kernel
theorem dX5_addCopy_46 : decode cX5_addCopy 46 = .ok (.iload_n 1, 1) := by decide +kernel
theorem dX5_addCopy_47 : decode cX5_addCopy 47 = .ok (.iload_n 3, 1) := by decide +kernel
theorem dX5_addCopy_48 : decode cX5_addCopy 48 = .ok (.iload_n 1, 1) := by decide +kernel
theorem dX5_addCopy_49 : decode cX5_addCopy 49 = .ok (.aload_n 0, 1) := by decide +kernel
theorem dX5_addCopy_50 : decode cX5_addCopy 50 = .ok (.getfield 44, 3) := by decide +kernel
theorem dX5_addCopy_53 : decode cX5_addCopy 53 = .ok (.iload_n 3, 1) := by decide +kernel
theorem dX5_addCopy_54 : decode cX5_addCopy 54 = .ok (.iload_n 1, 1) := by decide +kernel
theorem dX5_addCopy_55 : decode cX5_addCopy 55 = .ok (.invokevirtual 83, 3) := by decide +kernel
theorem dX5_addCopy_58 : decode cX5_addCopy 58 = .ok (.invokevirtual 227, 3) := by decide +kernel
theorem dX5_addCopy_61 : decode cX5_addCopy 61 = .ok (.return_, 1) := by decide +kernel
theorem dX6_has_0 : decode cX6_has 0 = .ok (.iload_n 0, 1) := by decide +kernel
theorem dX6_has_1 : decode cX6_has 1 = .ok (.ifCond .lt 15, 3) := by decide +kernel
theorem dX6_has_4 : decode cX6_has 4 = .ok (.iload_n 0, 1) := by decide +kernel
theorem dX6_has_5 : decode cX6_has 5 = .ok (.getstatic 7, 3) := by decide +kernel
theorem dX6_has_8 : decode cX6_has 8 = .ok (.arraylength, 1) := by decide +kernel
theorem dX6_has_9 : decode cX6_has 9 = .ok (.if_icmp .ge 7, 3) := by decide +kernel
theorem dX6_has_12 : decode cX6_has 12 = .ok (.iconst 1, 1) := by decide +kernel
theorem dX6_has_13 : decode cX6_has 13 = .ok (.goto 4, 3) := by decide +kernel
theorem dX6_has_16 : decode cX6_has 16 = .ok (.iconst 0, 1) := by decide +kernel
theorem dX6_has_17 : decode cX6_has 17 = .ok (.ireturn, 1) := by decide +kernel
set_option maxRecDepth 20000 in
theorem ggX6_isOne_X6_has : GoodIn wsX6_isOne wsX6_has := goodIn_r _ [5, 1] (by decide +kernel) (by decide +kernel)
set_option maxRecDepth 20000 in
theorem gX6_isOne_X6_has : GoodIn wsX6_isOne (va_wsS RX6 13 yX6_has wsX6_has) := goodIn_app (goodIn_of _ (by decide +kernel)) ggX6_isOne_X6_has
theorem dX6_isOne_0 : decode cX6_isOne 0 = .ok (.iload_n 0, 1) := by decide +kernel
theorem dX6_isOne_1 : decode cX6_isOne 1 = .ok (.istore_n 2, 1) := by decide +kernel
theorem dX6_isOne_2 : decode cX6_isOne 2 = .ok (.iconst 0, 1) := by decide +kernel
theorem dX6_isOne_3 : decode cX6_isOne 3 = .ok (.istore_n 3, 1) := by decide +kernel
theorem dX6_isOne_4 : decode cX6_isOne 4 = .ok (.iload_n 3, 1) := by decide +kernel
theorem dX6_isOne_5 : decode cX6_isOne 5 = .ok (.getstatic 7, 3) := by decide +kernel
theorem dX6_isOne_8 : decode cX6_isOne 8 = .ok (.arraylength, 1) := by decide +kernel
theorem dX6_isOne_9 : decode cX6_isOne 9 = .ok (.if_icmp .ge 29, 3) := by decide +kernel
theorem dX6_isOne_12 : decode cX6_isOne 12 = .ok (.iload_n 2, 1) := by decide +kernel
theorem dX6_isOne_13 : decode cX6_isOne 13 = .ok (.invokestatic 13, 3) := by decide +kernel
theorem dX6_isOne_16 : decode cX6_isOne 16 = .ok (.ifCond .eq 22, 3) := by decide +kernel
theorem dX6_isOne_19 : decode cX6_isOne 19 = .ok (.iload_n 2, 1) := by decide +kernel
theorem dX6_isOne_20 : decode cX6_isOne 20 = .ok (.iload_n 1, 1) := by decide +kernel
theorem dX6_isOne_21 : decode cX6_isOne 21 = .ok (.if_icmp .ne 5, 3) := by decide +kernel
theorem dX6_isOne_24 : decode cX6_isOne 24 = .ok (.iconst 1, 1) := by decide +kernel
theorem dX6_isOne_25 : decode cX6_isOne 25 = .ok (.ireturn, 1) := by decide +kernel
theorem dX6_isOne_26 : decode cX6_isOne 26 = .ok (.getstatic 7, 3) := by decide +kernel
theorem dX6_isOne_29 : decode cX6_isOne 29 = .ok (.iload_n 2, 1) := by decide +kernel
theorem dX6_isOne_30 : decode cX6_isOne 30 = .ok (.iaload, 1) := by decide +kernel
theorem dX6_isOne_31 : decode cX6_isOne 31 = .ok (.istore_n 2, 1) := by decide +kernel
theorem dX6_isOne_32 : decode cX6_isOne 32 = .ok (.iinc 3 1, 3) := by decide +kernel
theorem dX6_isOne_35 : decode cX6_isOne 35 = .ok (.goto (-31), 3) := by decide +kernel
theorem dX6_isOne_38 : decode cX6_isOne 38 = .ok (.iconst 0, 1) := by decide +kernel
theorem dX6_isOne_39 : decode cX6_isOne 39 = .ok (.ireturn, 1) := by decide +kernel
set_option maxRecDepth 20000 in
theorem ggX7_init_X9_init : GoodIn wsX7_init wsX9_init := goodIn_r _ [12, 13, 2, 3, 14, 15, 16, 17, 18] (by decide +kernel) (by decide +kernel)
set_option maxRecDepth 20000 in
theorem gX7_init_X9_init_n11 : GoodIn wsX7_init (wsX9_init) := ggX7_init_X9_init
theorem dX7_init_0 : decode cX7_init 0 = .ok (.aload_n 0, 1) := by decide +kernel
theorem dX7_init_1 : decode cX7_init 1 = .ok (.invokespecial 3, 3) := by decide +kernel
theorem dX7_init_4 : decode cX7_init 4 = .ok (.aload_n 0, 1) := by decide +kernel
theorem dX7_init_5 : decode cX7_init 5 = .ok (.new 9, 3) := by decide +kernel
theorem dX7_init_8 : decode cX7_init 8 = .ok (.dup, 1) := by decide +kernel
theorem dX7_init_9 : decode cX7_init 9 = .ok (.invokespecial 11, 3) := by decide +kernel
theorem dX7_init_12 : decode cX7_init 12 = .ok (.putfield 12, 3) := by decide +kernel
theorem dX7_init_15 : decode cX7_init 15 = .ok (.aload_n 0, 1) := by decide +kernel
theorem dX7_init_16 : decode cX7_init 16 = .ok (.iconst 0, 1) := by decide +kernel
theorem dX7_init_17 : decode cX7_init 17 = .ok (.putfield 18, 3) := by decide +kernel
theorem dX7_init_20 : decode cX7_init 20 = .ok (.aload_n 0, 1) := by decide +kernel
theorem dX7_init_21 : decode cX7_init 21 = .ok (.iconst 0, 1) := by decide +kernel
theorem dX7_init_22 : decode cX7_init 22 = .ok (.putfield 22, 3) := by decide +kernel
theorem dX7_init_25 : decode cX7_init 25 = .ok (.aload_n 0, 1) := by decide +kernel
theorem dX7_init_26 : decode cX7_init 26 = .ok (.iconst 0, 1) := by decide +kernel
theorem dX7_init_27 : decode cX7_init 27 = .ok (.putfield 25, 3) := by decide +kernel
theorem dX7_init_30 : decode cX7_init 30 = .ok (.return_, 1) := by decide +kernel
set_option maxRecDepth 20000 in
theorem ggX7_readInto_X7_readHead : GoodIn wsX7_readInto wsX7_readHead := goodIn_r _ [9, 10, 11, 12, 13, 14, 15, 16, 17, 8, 18, 3, 1, 19, 20, 21, 22, 23, 24, 25, 26, 27, 28, 29, 2, 30, 31, 32, 33, 34, 35, 36, 37, 38, 39, 40, 41, 42, 43, 44, 45, 46, 47, 48, 49, 50, 51, 52, 53, 54, 55, 56, 57, 58, 59, 60, 61, 62, 63, 64, 65, 66, 67, 68, 69, 70, 71, 72, 73, 74, 75, 76, 77, 78, 102, 103, 104, 105, 108, 109, 110, 111, 112, 113, 114, 115, 116, 106, 107, 117, 118, 119, 120, 121, 122, 123, 124, 125, 126, 127, 128, 129, 130, 131, 132, 133] (by decide +kernel) (by decide +kernel)
set_option maxRecDepth 20000 in
theorem gX7_readInto_X7_readHead : GoodIn wsX7_readInto (wsV RX7 28 RX7 yX7_readHead wsX7_readHead) := goodIn_app (goodIn_of _ (by decide +kernel)) ggX7_readInto_X7_readHead
set_option maxRecDepth 20000 in
theorem ggX7_readInto_X7_readServers : GoodIn wsX7_readInto wsX7_readServers := goodIn_r _ [82, 3, 1, 83, 84, 10, 19, 20, 21, 22, 23, 24, 25, 85, 86, 87, 51, 88, 57, 26, 27, 28, 8, 29, 2, 15, 16, 17, 18, 30, 31, 32, 33, 34, 35, 36, 102, 103, 104, 105, 108, 109, 110, 111, 112, 113, 114, 115, 116, 122, 123, 124, 125, 106, 107] (by decide +kernel) (by decide +kernel)
set_option maxRecDepth 20000 in
theorem gX7_readInto_X7_readServers : GoodIn wsX7_readInto (wsV RX7 32 RX7 yX7_readServers wsX7_readServers) := goodIn_app (goodIn_of _ (by decide +kernel)) ggX7_readInto_X7_readServers
set_option maxRecDepth 20000 in
theorem ggX7_readInto_X7_readFiles : GoodIn wsX7_readInto wsX7_readFiles := goodIn_r _ [92, 3, 1, 93, 10, 19, 20, 21, 22, 23, 24, 25, 94, 35, 95, 96, 34, 36, 26, 27, 28, 8, 29, 2, 15, 16, 17, 18, 30, 31, 32, 33, 97, 98, 99, 75, 100, 77, 101, 78, 102, 103, 104, 105, 108, 109, 110, 111, 112, 113, 114, 115, 116, 106, 107, 129, 130, 131, 132, 133] (by decide +kernel) (by decide +kernel)
set_option maxRecDepth 20000 in
theorem gX7_readInto_X7_readFiles : GoodIn wsX7_readInto (wsV RX7 35 RX7 yX7_readFiles wsX7_readFiles) := goodIn_app (goodIn_of _ (by decide +kernel)) ggX7_readInto_X7_readFiles
set_option maxRecDepth 20000 in
theorem ggX7_readInto_X7_refuse : GoodIn wsX7_readInto wsX7_refuse := goodIn_r _ [29, 2, 102, 103, 104, 105] (by decide +kernel) (by decide +kernel)
set_option maxRecDepth 20000 in
theorem gX7_readInto_X7_refuse : GoodIn wsX7_readInto (wsV RX7 41 RX7 yX7_refuse wsX7_refuse) := goodIn_app (goodIn_of _ (by decide +kernel)) ggX7_readInto_X7_refuse
theorem dX7_readInto_0 : decode cX7_readInto 0 = .ok (.aload_n 0, 1) := by decide +kernel
theorem dX7_readInto_1 : decode cX7_readInto 1 = .ok (.iconst 0, 1) := by decide +kernel
theorem dX7_readInto_2 : decode cX7_readInto 2 = .ok (.putfield 18, 3) := by decide +kernel
theorem dX7_readInto_5 : decode cX7_readInto 5 = .ok (.aload_n 0, 1) := by decide +kernel
theorem dX7_readInto_6 : decode cX7_readInto 6 = .ok (.iconst 0, 1) := by decide +kernel
theorem dX7_readInto_7 : decode cX7_readInto 7 = .ok (.putfield 22, 3) := by decide +kernel
theorem dX7_readInto_10 : decode cX7_readInto 10 = .ok (.aload_n 0, 1) := by decide +kernel
theorem dX7_readInto_11 : decode cX7_readInto 11 = .ok (.aload_n 1, 1) := by decide +kernel
theorem dX7_readInto_12 : decode cX7_readInto 12 = .ok (.invokevirtual 28, 3) := by decide +kernel
theorem dX7_readInto_15 : decode cX7_readInto 15 = .ok (.ifCond .eq 45, 3) := by decide +kernel
theorem dX7_readInto_18 : decode cX7_readInto 18 = .ok (.aload_n 0, 1) := by decide +kernel
theorem dX7_readInto_19 : decode cX7_readInto 19 = .ok (.aload_n 1, 1) := by decide +kernel
theorem dX7_readInto_20 : decode cX7_readInto 20 = .ok (.invokevirtual 32, 3) := by decide +kernel
theorem dX7_readInto_23 : decode cX7_readInto 23 = .ok (.ifCond .eq 37, 3) := by decide +kernel
theorem dX7_readInto_26 : decode cX7_readInto 26 = .ok (.aload_n 0, 1) := by decide +kernel
theorem dX7_readInto_27 : decode cX7_readInto 27 = .ok (.aload_n 1, 1) := by decide +kernel
theorem dX7_readInto_28 : decode cX7_readInto 28 = .ok (.invokevirtual 35, 3) := by decide +kernel
theorem dX7_readInto_31 : decode cX7_readInto 31 = .ok (.ifCond .eq 29, 3) := by decide +kernel
theorem dX7_readInto_34 : decode cX7_readInto 34 = .ok (.aload_n 0, 1) := by decide +kernel
theorem dX7_readInto_35 : decode cX7_readInto 35 = .ok (.getfield 18, 3) := by decide +kernel
theorem dX7_readInto_38 : decode cX7_readInto 38 = .ok (.aload_n 0, 1) := by decide +kernel
theorem dX7_readInto_39 : decode cX7_readInto 39 = .ok (.getfield 12, 3) := by decide +kernel
theorem dX7_readInto_42 : decode cX7_readInto 42 = .ok (.getfield 38, 3) := by decide +kernel
theorem dX7_readInto_45 : decode cX7_readInto 45 = .ok (.if_icmp .eq 11, 3) := by decide +kernel
theorem dX7_readInto_48 : decode cX7_readInto 48 = .ok (.aload_n 0, 1) := by decide +kernel
theorem dX7_readInto_49 : decode cX7_readInto 49 = .ok (.iconst 1, 1) := by decide +kernel
theorem dX7_readInto_50 : decode cX7_readInto 50 = .ok (.invokevirtual 41, 3) := by decide +kernel
theorem dX7_readInto_53 : decode cX7_readInto 53 = .ok (.ifCond .eq 7, 3) := by decide +kernel
theorem dX7_readInto_56 : decode cX7_readInto 56 = .ok (.iconst 1, 1) := by decide +kernel
theorem dX7_readInto_57 : decode cX7_readInto 57 = .ok (.goto 4, 3) := by decide +kernel
theorem dX7_readInto_60 : decode cX7_readInto 60 = .ok (.iconst 0, 1) := by decide +kernel
theorem dX7_readInto_61 : decode cX7_readInto 61 = .ok (.ireturn, 1) := by decide +kernel
set_option maxRecDepth 20000 in
theorem ggX7_readHead_X7_sign : GoodIn wsX7_readHead wsX7_sign := goodIn_r _ [10, 11, 12, 13, 14, 15, 16, 17, 18, 19, 20, 21, 22, 9, 23, 24, 74, 75, 76, 77, 87, 88] (by decide +kernel) (by decide +kernel)
set_option maxRecDepth 20000 in
theorem gX7_readHead_X7_sign : GoodIn wsX7_readHead (wsV RX7 45 RX7 yX7_sign wsX7_sign) := goodIn_app (goodIn_of _ (by decide +kernel)) ggX7_readHead_X7_sign
set_option maxRecDepth 20000 in
theorem ggX7_readHead_X7_numeral : GoodIn wsX7_readHead wsX7_numeral := goodIn_r _ [28, 11, 12, 1, 13, 14, 15, 16, 17, 18, 19, 29, 30, 31, 20, 21, 22, 9, 23, 24, 74, 75, 76, 77, 87, 88] (by decide +kernel) (by decide +kernel)
set_option maxRecDepth 20000 in
theorem gX7_readHead_X7_numeral : GoodIn wsX7_readHead (wsV RX7 48 RX7 yX7_numeral wsX7_numeral) := goodIn_app (goodIn_of _ (by decide +kernel)) ggX7_readHead_X7_numeral
set_option maxRecDepth 20000 in
theorem ggX7_readHead_X5_open : GoodIn wsX7_readHead wsX5_open := goodIn_r _ [36, 37, 38, 39, 40, 41, 42, 43, 44, 45, 46, 47, 48, 49, 50, 51, 52, 53, 54, 55, 56, 57, 58, 59, 60, 61, 62, 63, 64, 65, 66, 67, 68, 69, 70, 71, 72, 73, 78, 79, 80, 81, 82, 83, 84, 85, 86, 89, 90, 91, 92, 93, 94, 95, 96, 97, 98, 99, 100, 101, 102, 103, 104, 105] (by decide +kernel) (by decide +kernel)
set_option maxRecDepth 20000 in
theorem gX7_readHead_X5_open : GoodIn wsX7_readHead (wsV RX7 52 RX5 yX5_open wsX5_open) := goodIn_app (goodIn_of _ (by decide +kernel)) ggX7_readHead_X5_open
theorem dX7_readHead_0 : decode cX7_readHead 0 = .ok (.aload_n 0, 1) := by decide +kernel
theorem dX7_readHead_1 : decode cX7_readHead 1 = .ok (.bipush 104, 2) := by decide +kernel
theorem dX7_readHead_3 : decode cX7_readHead 3 = .ok (.invokevirtual 45, 3) := by decide +kernel
theorem dX7_readHead_6 : decode cX7_readHead 6 = .ok (.ifCond .eq 12, 3) := by decide +kernel
theorem dX7_readHead_9 : decode cX7_readHead 9 = .ok (.aload_n 0, 1) := by decide +kernel
theorem dX7_readHead_10 : decode cX7_readHead 10 = .ok (.iconst 2, 1) := by decide +kernel
theorem dX7_readHead_11 : decode cX7_readHead 11 = .ok (.iconst 5, 1) := by decide +kernel
theorem dX7_readHead_12 : decode cX7_readHead 12 = .ok (.invokevirtual 48, 3) := by decide +kernel
theorem dX7_readHead_15 : decode cX7_readHead 15 = .ok (.ifCond .ne 5, 3) := by decide +kernel
theorem dX7_readHead_18 : decode cX7_readHead 18 = .ok (.iconst 0, 1) := by decide +kernel
theorem dX7_readHead_19 : decode cX7_readHead 19 = .ok (.ireturn, 1) := by decide +kernel
theorem dX7_readHead_20 : decode cX7_readHead 20 = .ok (.aload_n 1, 1) := by decide +kernel
theorem dX7_readHead_21 : decode cX7_readHead 21 = .ok (.aload_n 0, 1) := by decide +kernel
theorem dX7_readHead_22 : decode cX7_readHead 22 = .ok (.getfield 25, 3) := by decide +kernel
theorem dX7_readHead_25 : decode cX7_readHead 25 = .ok (.invokevirtual 52, 3) := by decide +kernel
theorem dX7_readHead_28 : decode cX7_readHead 28 = .ok (.aload_n 0, 1) := by decide +kernel
theorem dX7_readHead_29 : decode cX7_readHead 29 = .ok (.bipush 44, 2) := by decide +kernel
theorem dX7_readHead_31 : decode cX7_readHead 31 = .ok (.invokevirtual 45, 3) := by decide +kernel
theorem dX7_readHead_34 : decode cX7_readHead 34 = .ok (.ifCond .eq 12, 3) := by decide +kernel
theorem dX7_readHead_37 : decode cX7_readHead 37 = .ok (.aload_n 0, 1) := by decide +kernel
theorem dX7_readHead_38 : decode cX7_readHead 38 = .ok (.iconst 1, 1) := by decide +kernel
theorem dX7_readHead_39 : decode cX7_readHead 39 = .ok (.iconst 3, 1) := by decide +kernel
theorem dX7_readHead_40 : decode cX7_readHead 40 = .ok (.invokevirtual 48, 3) := by decide +kernel
theorem dX7_readHead_43 : decode cX7_readHead 43 = .ok (.ifCond .ne 5, 3) := by decide +kernel
theorem dX7_readHead_46 : decode cX7_readHead 46 = .ok (.iconst 0, 1) := by decide +kernel
theorem dX7_readHead_47 : decode cX7_readHead 47 = .ok (.ireturn, 1) := by decide +kernel
theorem dX7_readHead_48 : decode cX7_readHead 48 = .ok (.aload_n 1, 1) := by decide +kernel
theorem dX7_readHead_49 : decode cX7_readHead 49 = .ok (.aload_n 0, 1) := by decide +kernel
theorem dX7_readHead_50 : decode cX7_readHead 50 = .ok (.getfield 25, 3) := by decide +kernel
theorem dX7_readHead_53 : decode cX7_readHead 53 = .ok (.putfield 58, 3) := by decide +kernel
theorem dX7_readHead_56 : decode cX7_readHead 56 = .ok (.aload_n 0, 1) := by decide +kernel
theorem dX7_readHead_57 : decode cX7_readHead 57 = .ok (.bipush 44, 2) := by decide +kernel
theorem dX7_readHead_59 : decode cX7_readHead 59 = .ok (.invokevirtual 45, 3) := by decide +kernel
theorem dX7_readHead_62 : decode cX7_readHead 62 = .ok (.ifCond .eq 13, 3) := by decide +kernel
theorem dX7_readHead_65 : decode cX7_readHead 65 = .ok (.aload_n 0, 1) := by decide +kernel
theorem dX7_readHead_66 : decode cX7_readHead 66 = .ok (.iconst 4, 1) := by decide +kernel
theorem dX7_readHead_67 : decode cX7_readHead 67 = .ok (.bipush 9, 2) := by decide +kernel
theorem dX7_readHead_69 : decode cX7_readHead 69 = .ok (.invokevirtual 48, 3) := by decide +kernel
theorem dX7_readHead_72 : decode cX7_readHead 72 = .ok (.ifCond .ne 5, 3) := by decide +kernel
theorem dX7_readHead_75 : decode cX7_readHead 75 = .ok (.iconst 0, 1) := by decide +kernel
theorem dX7_readHead_76 : decode cX7_readHead 76 = .ok (.ireturn, 1) := by decide +kernel
theorem dX7_readHead_77 : decode cX7_readHead 77 = .ok (.aload_n 1, 1) := by decide +kernel
theorem dX7_readHead_78 : decode cX7_readHead 78 = .ok (.aload_n 0, 1) := by decide +kernel
theorem dX7_readHead_79 : decode cX7_readHead 79 = .ok (.getfield 25, 3) := by decide +kernel
theorem dX7_readHead_82 : decode cX7_readHead 82 = .ok (.putfield 61, 3) := by decide +kernel
theorem dX7_readHead_85 : decode cX7_readHead 85 = .ok (.aload_n 0, 1) := by decide +kernel
theorem dX7_readHead_86 : decode cX7_readHead 86 = .ok (.bipush 44, 2) := by decide +kernel
theorem dX7_readHead_88 : decode cX7_readHead 88 = .ok (.invokevirtual 45, 3) := by decide +kernel
theorem dX7_readHead_91 : decode cX7_readHead 91 = .ok (.ifCond .eq 13, 3) := by decide +kernel
theorem dX7_readHead_94 : decode cX7_readHead 94 = .ok (.aload_n 0, 1) := by decide +kernel
theorem dX7_readHead_95 : decode cX7_readHead 95 = .ok (.iconst 1, 1) := by decide +kernel
theorem dX7_readHead_96 : decode cX7_readHead 96 = .ok (.bipush 20, 2) := by decide +kernel
theorem dX7_readHead_98 : decode cX7_readHead 98 = .ok (.invokevirtual 48, 3) := by decide +kernel
theorem dX7_readHead_101 : decode cX7_readHead 101 = .ok (.ifCond .ne 5, 3) := by decide +kernel
theorem dX7_readHead_104 : decode cX7_readHead 104 = .ok (.iconst 0, 1) := by decide +kernel
theorem dX7_readHead_105 : decode cX7_readHead 105 = .ok (.ireturn, 1) := by decide +kernel
theorem dX7_readHead_106 : decode cX7_readHead 106 = .ok (.aload_n 1, 1) := by decide +kernel
theorem dX7_readHead_107 : decode cX7_readHead 107 = .ok (.aload_n 0, 1) := by decide +kernel
theorem dX7_readHead_108 : decode cX7_readHead 108 = .ok (.getfield 25, 3) := by decide +kernel
theorem dX7_readHead_111 : decode cX7_readHead 111 = .ok (.putfield 64, 3) := by decide +kernel
theorem dX7_readHead_114 : decode cX7_readHead 114 = .ok (.aload_n 0, 1) := by decide +kernel
theorem dX7_readHead_115 : decode cX7_readHead 115 = .ok (.bipush 44, 2) := by decide +kernel
theorem dX7_readHead_117 : decode cX7_readHead 117 = .ok (.invokevirtual 45, 3) := by decide +kernel
theorem dX7_readHead_120 : decode cX7_readHead 120 = .ok (.ifCond .eq 13, 3) := by decide +kernel
theorem dX7_readHead_123 : decode cX7_readHead 123 = .ok (.aload_n 0, 1) := by decide +kernel
theorem dX7_readHead_124 : decode cX7_readHead 124 = .ok (.iconst 0, 1) := by decide +kernel
theorem dX7_readHead_125 : decode cX7_readHead 125 = .ok (.bipush 20, 2) := by decide +kernel
theorem dX7_readHead_127 : decode cX7_readHead 127 = .ok (.invokevirtual 48, 3) := by decide +kernel
theorem dX7_readHead_130 : decode cX7_readHead 130 = .ok (.ifCond .ne 5, 3) := by decide +kernel
theorem dX7_readHead_133 : decode cX7_readHead 133 = .ok (.iconst 0, 1) := by decide +kernel
theorem dX7_readHead_134 : decode cX7_readHead 134 = .ok (.ireturn, 1) := by decide +kernel
theorem dX7_readHead_135 : decode cX7_readHead 135 = .ok (.aload_n 1, 1) := by decide +kernel
theorem dX7_readHead_136 : decode cX7_readHead 136 = .ok (.aload_n 0, 1) := by decide +kernel
theorem dX7_readHead_137 : decode cX7_readHead 137 = .ok (.getfield 25, 3) := by decide +kernel
theorem dX7_readHead_140 : decode cX7_readHead 140 = .ok (.putfield 67, 3) := by decide +kernel
theorem dX7_readHead_143 : decode cX7_readHead 143 = .ok (.aload_n 0, 1) := by decide +kernel
theorem dX7_readHead_144 : decode cX7_readHead 144 = .ok (.bipush 59, 2) := by decide +kernel
theorem dX7_readHead_146 : decode cX7_readHead 146 = .ok (.invokevirtual 45, 3) := by decide +kernel
theorem dX7_readHead_149 : decode cX7_readHead 149 = .ok (.ireturn, 1) := by decide +kernel
set_option maxRecDepth 20000 in
theorem ggX7_readServers_X9_at : GoodIn wsX7_readServers wsX9_at := goodIn_r _ [10, 11, 12, 53, 54] (by decide +kernel) (by decide +kernel)
set_option maxRecDepth 20000 in
theorem gX7_readServers_X9_at : GoodIn wsX7_readServers (wsV RX7 70 RX9 yX9_at wsX9_at) := goodIn_app (goodIn_of _ (by decide +kernel)) ggX7_readServers_X9_at
set_option maxRecDepth 20000 in
theorem ggX7_readServers_X8_has : GoodIn wsX7_readServers wsX8_has := goodIn_r _ [17, 18, 49, 50, 51, 52] (by decide +kernel) (by decide +kernel)
set_option maxRecDepth 20000 in
theorem gX7_readServers_X8_has : GoodIn wsX7_readServers (wsV RX7 78 RX8 yX8_has wsX8_has) := goodIn_app (goodIn_of _ (by decide +kernel)) ggX7_readServers_X8_has
set_option maxRecDepth 20000 in
theorem ggX7_readServers_X7_refuse : GoodIn wsX7_readServers wsX7_refuse := goodIn_r _ [23, 24, 36, 37, 38, 39] (by decide +kernel) (by decide +kernel)
set_option maxRecDepth 20000 in
theorem gX7_readServers_X7_refuse : GoodIn wsX7_readServers (wsV RX7 41 RX7 yX7_refuse wsX7_refuse) := goodIn_app (goodIn_of _ (by decide +kernel)) ggX7_readServers_X7_refuse
set_option maxRecDepth 20000 in
theorem ggX7_readServers_X7_sign : GoodIn wsX7_readServers wsX7_sign := goodIn_r _ [28, 1, 2, 6, 7, 8, 9, 10, 11, 12, 19, 20, 21, 22, 23, 24, 36, 37, 38, 39, 53, 54] (by decide +kernel) (by decide +kernel)
set_option maxRecDepth 20000 in
theorem gX7_readServers_X7_sign : GoodIn wsX7_readServers (wsV RX7 45 RX7 yX7_sign wsX7_sign) := goodIn_app (goodIn_of _ (by decide +kernel)) ggX7_readServers_X7_sign
set_option maxRecDepth 20000 in
theorem ggX7_readServers_X7_numeral : GoodIn wsX7_readServers wsX7_numeral := goodIn_r _ [32, 1, 2, 5, 6, 7, 8, 9, 10, 11, 12, 33, 34, 35, 19, 20, 21, 22, 23, 24, 36, 37, 38, 39, 53, 54] (by decide +kernel) (by decide +kernel)
set_option maxRecDepth 20000 in
theorem gX7_readServers_X7_numeral : GoodIn wsX7_readServers (wsV RX7 48 RX7 yX7_numeral wsX7_numeral) := goodIn_app (goodIn_of _ (by decide +kernel)) ggX7_readServers_X7_numeral
theorem dX7_readServers_0 : decode cX7_readServers 0 = .ok (.iconst 0, 1) := by decide +kernel
theorem dX7_readServers_1 : decode cX7_readServers 1 = .ok (.istore_n 2, 1) := by decide +kernel
theorem dX7_readServers_2 : decode cX7_readServers 2 = .ok (.iload_n 2, 1) := by decide +kernel
theorem dX7_readServers_3 : decode cX7_readServers 3 = .ok (.iconst 5, 1) := by decide +kernel
theorem dX7_readServers_4 : decode cX7_readServers 4 = .ok (.if_icmp .gt 85, 3) := by decide +kernel
theorem dX7_readServers_7 : decode cX7_readServers 7 = .ok (.aload_n 0, 1) := by decide +kernel
theorem dX7_readServers_8 : decode cX7_readServers 8 = .ok (.getfield 12, 3) := by decide +kernel
theorem dX7_readServers_11 : decode cX7_readServers 11 = .ok (.aload_n 0, 1) := by decide +kernel
theorem dX7_readServers_12 : decode cX7_readServers 12 = .ok (.getfield 18, 3) := by decide +kernel
theorem dX7_readServers_15 : decode cX7_readServers 15 = .ok (.invokevirtual 70, 3) := by decide +kernel
theorem dX7_readServers_18 : decode cX7_readServers 18 = .ok (.bipush 115, 2) := by decide +kernel
theorem dX7_readServers_20 : decode cX7_readServers 20 = .ok (.if_icmp .ne 69, 3) := by decide +kernel
theorem dX7_readServers_23 : decode cX7_readServers 23 = .ok (.aload_n 1, 1) := by decide +kernel
theorem dX7_readServers_24 : decode cX7_readServers 24 = .ok (.getfield 74, 3) := by decide +kernel
theorem dX7_readServers_27 : decode cX7_readServers 27 = .ok (.iload_n 2, 1) := by decide +kernel
theorem dX7_readServers_28 : decode cX7_readServers 28 = .ok (.invokevirtual 78, 3) := by decide +kernel
theorem dX7_readServers_31 : decode cX7_readServers 31 = .ok (.ifCond .ne 9, 3) := by decide +kernel
theorem dX7_readServers_34 : decode cX7_readServers 34 = .ok (.aload_n 0, 1) := by decide +kernel
theorem dX7_readServers_35 : decode cX7_readServers 35 = .ok (.iconst 3, 1) := by decide +kernel
theorem dX7_readServers_36 : decode cX7_readServers 36 = .ok (.invokevirtual 41, 3) := by decide +kernel
theorem dX7_readServers_39 : decode cX7_readServers 39 = .ok (.ireturn, 1) := by decide +kernel
theorem dX7_readServers_40 : decode cX7_readServers 40 = .ok (.aload_n 0, 1) := by decide +kernel
theorem dX7_readServers_41 : decode cX7_readServers 41 = .ok (.bipush 115, 2) := by decide +kernel
theorem dX7_readServers_43 : decode cX7_readServers 43 = .ok (.invokevirtual 45, 3) := by decide +kernel
theorem dX7_readServers_46 : decode cX7_readServers 46 = .ok (.ifCond .eq 22, 3) := by decide +kernel
theorem dX7_readServers_49 : decode cX7_readServers 49 = .ok (.aload_n 0, 1) := by decide +kernel
theorem dX7_readServers_50 : decode cX7_readServers 50 = .ok (.iconst 1, 1) := by decide +kernel
theorem dX7_readServers_51 : decode cX7_readServers 51 = .ok (.bipush 9, 2) := by decide +kernel
theorem dX7_readServers_53 : decode cX7_readServers 53 = .ok (.invokevirtual 48, 3) := by decide +kernel
theorem dX7_readServers_56 : decode cX7_readServers 56 = .ok (.ifCond .eq 12, 3) := by decide +kernel
theorem dX7_readServers_59 : decode cX7_readServers 59 = .ok (.aload_n 0, 1) := by decide +kernel
theorem dX7_readServers_60 : decode cX7_readServers 60 = .ok (.bipush 59, 2) := by decide +kernel
theorem dX7_readServers_62 : decode cX7_readServers 62 = .ok (.invokevirtual 45, 3) := by decide +kernel
theorem dX7_readServers_65 : decode cX7_readServers 65 = .ok (.ifCond .ne 5, 3) := by decide +kernel
theorem dX7_readServers_68 : decode cX7_readServers 68 = .ok (.iconst 0, 1) := by decide +kernel
theorem dX7_readServers_69 : decode cX7_readServers 69 = .ok (.ireturn, 1) := by decide +kernel
theorem dX7_readServers_70 : decode cX7_readServers 70 = .ok (.aload_n 1, 1) := by decide +kernel
theorem dX7_readServers_71 : decode cX7_readServers 71 = .ok (.getfield 74, 3) := by decide +kernel
theorem dX7_readServers_74 : decode cX7_readServers 74 = .ok (.getfield 83, 3) := by decide +kernel
theorem dX7_readServers_77 : decode cX7_readServers 77 = .ok (.iload_n 2, 1) := by decide +kernel
theorem dX7_readServers_78 : decode cX7_readServers 78 = .ok (.aload_n 0, 1) := by decide +kernel
theorem dX7_readServers_79 : decode cX7_readServers 79 = .ok (.getfield 25, 3) := by decide +kernel
theorem dX7_readServers_82 : decode cX7_readServers 82 = .ok (.iastore, 1) := by decide +kernel
theorem dX7_readServers_83 : decode cX7_readServers 83 = .ok (.iinc 2 1, 3) := by decide +kernel
theorem dX7_readServers_86 : decode cX7_readServers 86 = .ok (.goto (-84), 3) := by decide +kernel
theorem dX7_readServers_89 : decode cX7_readServers 89 = .ok (.iconst 1, 1) := by decide +kernel
theorem dX7_readServers_90 : decode cX7_readServers 90 = .ok (.ireturn, 1) := by decide +kernel
set_option maxRecDepth 20000 in
theorem ggX7_readFiles_X9_at : GoodIn wsX7_readFiles wsX9_at := goodIn_r _ [9, 10, 11, 53, 54] (by decide +kernel) (by decide +kernel)
set_option maxRecDepth 20000 in
theorem gX7_readFiles_X9_at : GoodIn wsX7_readFiles (wsV RX7 70 RX9 yX9_at wsX9_at) := goodIn_app (goodIn_of _ (by decide +kernel)) ggX7_readFiles_X9_at
set_option maxRecDepth 20000 in
theorem ggX7_readFiles_X10_isFile : GoodIn wsX7_readFiles wsX10_isFile := goodIn_r _ [14, 15, 16, 13, 17] (by decide +kernel) (by decide +kernel)
set_option maxRecDepth 20000 in
theorem gX7_readFiles_X10_isFile_n87 : GoodIn wsX7_readFiles (wsX10_isFile) := ggX7_readFiles_X10_isFile
set_option maxRecDepth 20000 in
theorem ggX7_readFiles_X7_refuse : GoodIn wsX7_readFiles wsX7_refuse := goodIn_r _ [22, 23, 40, 41, 42, 43] (by decide +kernel) (by decide +kernel)
set_option maxRecDepth 20000 in
theorem gX7_readFiles_X7_refuse : GoodIn wsX7_readFiles (wsV RX7 41 RX7 yX7_refuse wsX7_refuse) := goodIn_app (goodIn_of _ (by decide +kernel)) ggX7_readFiles_X7_refuse
set_option maxRecDepth 20000 in
theorem ggX7_readFiles_X7_sign : GoodIn wsX7_readFiles wsX7_sign := goodIn_r _ [27, 1, 2, 5, 6, 7, 8, 9, 10, 11, 18, 19, 20, 21, 22, 23, 40, 41, 42, 43, 53, 54] (by decide +kernel) (by decide +kernel)
set_option maxRecDepth 20000 in
theorem gX7_readFiles_X7_sign : GoodIn wsX7_readFiles (wsV RX7 45 RX7 yX7_sign wsX7_sign) := goodIn_app (goodIn_of _ (by decide +kernel)) ggX7_readFiles_X7_sign
set_option maxRecDepth 20000 in
theorem ggX7_readFiles_X7_numeral : GoodIn wsX7_readFiles wsX7_numeral := goodIn_r _ [31, 1, 2, 4, 5, 6, 7, 8, 9, 10, 11, 16, 13, 17, 18, 19, 20, 21, 22, 23, 40, 41, 42, 43, 53, 54] (by decide +kernel) (by decide +kernel)
set_option maxRecDepth 20000 in
theorem gX7_readFiles_X7_numeral : GoodIn wsX7_readFiles (wsV RX7 48 RX7 yX7_numeral wsX7_numeral) := goodIn_app (goodIn_of _ (by decide +kernel)) ggX7_readFiles_X7_numeral
set_option maxRecDepth 20000 in
theorem ggX7_readFiles_X3_begin : GoodIn wsX7_readFiles wsX3_begin := goodIn_r _ [36, 37, 38, 39, 12, 13, 14, 15, 16, 17, 55, 56, 57, 58, 59] (by decide +kernel) (by decide +kernel)
set_option maxRecDepth 20000 in
theorem gX7_readFiles_X3_begin : GoodIn wsX7_readFiles (wsV RX7 94 RX3 yX3_begin wsX3_begin) := goodIn_app (goodIn_of _ (by decide +kernel)) ggX7_readFiles_X3_begin
theorem dX7_readFiles_0 : decode cX7_readFiles 0 = .ok (.iconst 0, 1) := by decide +kernel
theorem dX7_readFiles_1 : decode cX7_readFiles 1 = .ok (.istore_n 2, 1) := by decide +kernel
theorem dX7_readFiles_2 : decode cX7_readFiles 2 = .ok (.iload_n 2, 1) := by decide +kernel
theorem dX7_readFiles_3 : decode cX7_readFiles 3 = .ok (.bipush 6, 2) := by decide +kernel
theorem dX7_readFiles_5 : decode cX7_readFiles 5 = .ok (.if_icmp .gt 79, 3) := by decide +kernel
theorem dX7_readFiles_8 : decode cX7_readFiles 8 = .ok (.aload_n 0, 1) := by decide +kernel
theorem dX7_readFiles_9 : decode cX7_readFiles 9 = .ok (.getfield 12, 3) := by decide +kernel
theorem dX7_readFiles_12 : decode cX7_readFiles 12 = .ok (.aload_n 0, 1) := by decide +kernel
theorem dX7_readFiles_13 : decode cX7_readFiles 13 = .ok (.getfield 18, 3) := by decide +kernel
theorem dX7_readFiles_16 : decode cX7_readFiles 16 = .ok (.invokevirtual 70, 3) := by decide +kernel
theorem dX7_readFiles_19 : decode cX7_readFiles 19 = .ok (.bipush 102, 2) := by decide +kernel
theorem dX7_readFiles_21 : decode cX7_readFiles 21 = .ok (.if_icmp .ne 63, 3) := by decide +kernel
theorem dX7_readFiles_24 : decode cX7_readFiles 24 = .ok (.iload_n 2, 1) := by decide +kernel
theorem dX7_readFiles_25 : decode cX7_readFiles 25 = .ok (.invokestatic 87, 3) := by decide +kernel
theorem dX7_readFiles_28 : decode cX7_readFiles 28 = .ok (.ifCond .ne 9, 3) := by decide +kernel
theorem dX7_readFiles_31 : decode cX7_readFiles 31 = .ok (.aload_n 0, 1) := by decide +kernel
theorem dX7_readFiles_32 : decode cX7_readFiles 32 = .ok (.iconst 3, 1) := by decide +kernel
theorem dX7_readFiles_33 : decode cX7_readFiles 33 = .ok (.invokevirtual 41, 3) := by decide +kernel
theorem dX7_readFiles_36 : decode cX7_readFiles 36 = .ok (.ireturn, 1) := by decide +kernel
theorem dX7_readFiles_37 : decode cX7_readFiles 37 = .ok (.aload_n 0, 1) := by decide +kernel
theorem dX7_readFiles_38 : decode cX7_readFiles 38 = .ok (.bipush 102, 2) := by decide +kernel
theorem dX7_readFiles_40 : decode cX7_readFiles 40 = .ok (.invokevirtual 45, 3) := by decide +kernel
theorem dX7_readFiles_43 : decode cX7_readFiles 43 = .ok (.ifCond .eq 21, 3) := by decide +kernel
theorem dX7_readFiles_46 : decode cX7_readFiles 46 = .ok (.aload_n 0, 1) := by decide +kernel
theorem dX7_readFiles_47 : decode cX7_readFiles 47 = .ok (.iconst 1, 1) := by decide +kernel
theorem dX7_readFiles_48 : decode cX7_readFiles 48 = .ok (.iconst 5, 1) := by decide +kernel
theorem dX7_readFiles_49 : decode cX7_readFiles 49 = .ok (.invokevirtual 48, 3) := by decide +kernel
theorem dX7_readFiles_52 : decode cX7_readFiles 52 = .ok (.ifCond .eq 12, 3) := by decide +kernel
theorem dX7_readFiles_55 : decode cX7_readFiles 55 = .ok (.aload_n 0, 1) := by decide +kernel
theorem dX7_readFiles_56 : decode cX7_readFiles 56 = .ok (.bipush 59, 2) := by decide +kernel
theorem dX7_readFiles_58 : decode cX7_readFiles 58 = .ok (.invokevirtual 45, 3) := by decide +kernel
theorem dX7_readFiles_61 : decode cX7_readFiles 61 = .ok (.ifCond .ne 5, 3) := by decide +kernel
theorem dX7_readFiles_64 : decode cX7_readFiles 64 = .ok (.iconst 0, 1) := by decide +kernel
theorem dX7_readFiles_65 : decode cX7_readFiles 65 = .ok (.ireturn, 1) := by decide +kernel
theorem dX7_readFiles_66 : decode cX7_readFiles 66 = .ok (.aload_n 1, 1) := by decide +kernel
theorem dX7_readFiles_67 : decode cX7_readFiles 67 = .ok (.getfield 90, 3) := by decide +kernel
theorem dX7_readFiles_70 : decode cX7_readFiles 70 = .ok (.iload_n 2, 1) := by decide +kernel
theorem dX7_readFiles_71 : decode cX7_readFiles 71 = .ok (.aload_n 0, 1) := by decide +kernel
theorem dX7_readFiles_72 : decode cX7_readFiles 72 = .ok (.getfield 25, 3) := by decide +kernel
theorem dX7_readFiles_75 : decode cX7_readFiles 75 = .ok (.invokevirtual 94, 3) := by decide +kernel
theorem dX7_readFiles_78 : decode cX7_readFiles 78 = .ok (.iinc 2 1, 3) := by decide +kernel
theorem dX7_readFiles_81 : decode cX7_readFiles 81 = .ok (.goto (-79), 3) := by decide +kernel
theorem dX7_readFiles_84 : decode cX7_readFiles 84 = .ok (.iconst 1, 1) := by decide +kernel
theorem dX7_readFiles_85 : decode cX7_readFiles 85 = .ok (.ireturn, 1) := by decide +kernel
set_option maxRecDepth 20000 in
theorem ggX7_sign_X9_at : GoodIn wsX7_sign wsX9_at := goodIn_r _ [7, 8, 9, 20, 21] (by decide +kernel) (by decide +kernel)
set_option maxRecDepth 20000 in
theorem gX7_sign_X9_at : GoodIn wsX7_sign (wsV RX7 70 RX9 yX9_at wsX9_at) := goodIn_app (goodIn_of _ (by decide +kernel)) ggX7_sign_X9_at
set_option maxRecDepth 20000 in
theorem ggX7_sign_X7_refuse : GoodIn wsX7_sign wsX7_refuse := goodIn_r _ [14, 15, 16, 17, 18, 19] (by decide +kernel) (by decide +kernel)
set_option maxRecDepth 20000 in
theorem gX7_sign_X7_refuse : GoodIn wsX7_sign (wsV RX7 41 RX7 yX7_refuse wsX7_refuse) := goodIn_app (goodIn_of _ (by decide +kernel)) ggX7_sign_X7_refuse
theorem dX7_sign_0 : decode cX7_sign 0 = .ok (.aload_n 0, 1) := by decide +kernel
theorem dX7_sign_1 : decode cX7_sign 1 = .ok (.getfield 12, 3) := by decide +kernel
theorem dX7_sign_4 : decode cX7_sign 4 = .ok (.aload_n 0, 1) := by decide +kernel
theorem dX7_sign_5 : decode cX7_sign 5 = .ok (.getfield 18, 3) := by decide +kernel
theorem dX7_sign_8 : decode cX7_sign 8 = .ok (.invokevirtual 70, 3) := by decide +kernel
theorem dX7_sign_11 : decode cX7_sign 11 = .ok (.iload_n 1, 1) := by decide +kernel
theorem dX7_sign_12 : decode cX7_sign 12 = .ok (.if_icmp .eq 9, 3) := by decide +kernel
theorem dX7_sign_15 : decode cX7_sign 15 = .ok (.aload_n 0, 1) := by decide +kernel
theorem dX7_sign_16 : decode cX7_sign 16 = .ok (.iconst 1, 1) := by decide +kernel
theorem dX7_sign_17 : decode cX7_sign 17 = .ok (.invokevirtual 41, 3) := by decide +kernel
theorem dX7_sign_20 : decode cX7_sign 20 = .ok (.ireturn, 1) := by decide +kernel
theorem dX7_sign_21 : decode cX7_sign 21 = .ok (.aload_n 0, 1) := by decide +kernel
theorem dX7_sign_22 : decode cX7_sign 22 = .ok (.dup, 1) := by decide +kernel
theorem dX7_sign_23 : decode cX7_sign 23 = .ok (.getfield 18, 3) := by decide +kernel
theorem dX7_sign_26 : decode cX7_sign 26 = .ok (.iconst 1, 1) := by decide +kernel
theorem dX7_sign_27 : decode cX7_sign 27 = .ok (.iadd, 1) := by decide +kernel
theorem dX7_sign_28 : decode cX7_sign 28 = .ok (.putfield 18, 3) := by decide +kernel
theorem dX7_sign_31 : decode cX7_sign 31 = .ok (.iconst 1, 1) := by decide +kernel
theorem dX7_sign_32 : decode cX7_sign 32 = .ok (.ireturn, 1) := by decide +kernel
set_option maxRecDepth 20000 in
theorem ggX7_numeral_X9_at : GoodIn wsX7_numeral wsX9_at := goodIn_r _ [8, 9, 10, 24, 25] (by decide +kernel) (by decide +kernel)
set_option maxRecDepth 20000 in
theorem gX7_numeral_X9_at : GoodIn wsX7_numeral (wsV RX7 70 RX9 yX9_at wsX9_at) := goodIn_app (goodIn_of _ (by decide +kernel)) ggX7_numeral_X9_at
set_option maxRecDepth 20000 in
theorem ggX7_numeral_X10_within : GoodIn wsX7_numeral wsX10_within := goodIn_r _ [13] (by decide +kernel) (by decide +kernel)
set_option maxRecDepth 20000 in
theorem gX7_numeral_X10_within_n100 : GoodIn wsX7_numeral (wsX10_within) := ggX7_numeral_X10_within
set_option maxRecDepth 20000 in
theorem ggX7_numeral_X7_refuse : GoodIn wsX7_numeral wsX7_refuse := goodIn_r _ [18, 19, 20, 21, 22, 23] (by decide +kernel) (by decide +kernel)
set_option maxRecDepth 20000 in
theorem gX7_numeral_X7_refuse : GoodIn wsX7_numeral (wsV RX7 41 RX7 yX7_refuse wsX7_refuse) := goodIn_app (goodIn_of _ (by decide +kernel)) ggX7_numeral_X7_refuse
theorem dX7_numeral_0 : decode cX7_numeral 0 = .ok (.iconst 0, 1) := by decide +kernel
theorem dX7_numeral_1 : decode cX7_numeral 1 = .ok (.istore_n 3, 1) := by decide +kernel
theorem dX7_numeral_2 : decode cX7_numeral 2 = .ok (.iconst 0, 1) := by decide +kernel
theorem dX7_numeral_3 : decode cX7_numeral 3 = .ok (.istore 4, 2) := by decide +kernel
theorem dX7_numeral_5 : decode cX7_numeral 5 = .ok (.iload_n 3, 1) := by decide +kernel
theorem dX7_numeral_6 : decode cX7_numeral 6 = .ok (.iconst 3, 1) := by decide +kernel
theorem dX7_numeral_7 : decode cX7_numeral 7 = .ok (.if_icmp .ge 56, 3) := by decide +kernel
theorem dX7_numeral_10 : decode cX7_numeral 10 = .ok (.aload_n 0, 1) := by decide +kernel
theorem dX7_numeral_11 : decode cX7_numeral 11 = .ok (.getfield 12, 3) := by decide +kernel
theorem dX7_numeral_14 : decode cX7_numeral 14 = .ok (.aload_n 0, 1) := by decide +kernel
theorem dX7_numeral_15 : decode cX7_numeral 15 = .ok (.getfield 18, 3) := by decide +kernel
theorem dX7_numeral_18 : decode cX7_numeral 18 = .ok (.iload_n 3, 1) := by decide +kernel
theorem dX7_numeral_19 : decode cX7_numeral 19 = .ok (.iadd, 1) := by decide +kernel
theorem dX7_numeral_20 : decode cX7_numeral 20 = .ok (.invokevirtual 70, 3) := by decide +kernel
theorem dX7_numeral_23 : decode cX7_numeral 23 = .ok (.bipush 48, 2) := by decide +kernel
theorem dX7_numeral_25 : decode cX7_numeral 25 = .ok (.bipush 57, 2) := by decide +kernel
theorem dX7_numeral_27 : decode cX7_numeral 27 = .ok (.invokestatic 100, 3) := by decide +kernel
theorem dX7_numeral_30 : decode cX7_numeral 30 = .ok (.ifCond .eq 33, 3) := by decide +kernel
theorem dX7_numeral_33 : decode cX7_numeral 33 = .ok (.iload 4, 2) := by decide +kernel
theorem dX7_numeral_35 : decode cX7_numeral 35 = .ok (.bipush 10, 2) := by decide +kernel
theorem dX7_numeral_37 : decode cX7_numeral 37 = .ok (.imul, 1) := by decide +kernel
theorem dX7_numeral_38 : decode cX7_numeral 38 = .ok (.aload_n 0, 1) := by decide +kernel
theorem dX7_numeral_39 : decode cX7_numeral 39 = .ok (.getfield 12, 3) := by decide +kernel
theorem dX7_numeral_42 : decode cX7_numeral 42 = .ok (.aload_n 0, 1) := by decide +kernel
theorem dX7_numeral_43 : decode cX7_numeral 43 = .ok (.getfield 18, 3) := by decide +kernel
theorem dX7_numeral_46 : decode cX7_numeral 46 = .ok (.iload_n 3, 1) := by decide +kernel
theorem dX7_numeral_47 : decode cX7_numeral 47 = .ok (.iadd, 1) := by decide +kernel
theorem dX7_numeral_48 : decode cX7_numeral 48 = .ok (.invokevirtual 70, 3) := by decide +kernel
theorem dX7_numeral_51 : decode cX7_numeral 51 = .ok (.iadd, 1) := by decide +kernel
theorem dX7_numeral_52 : decode cX7_numeral 52 = .ok (.bipush 48, 2) := by decide +kernel
theorem dX7_numeral_54 : decode cX7_numeral 54 = .ok (.isub, 1) := by decide +kernel
theorem dX7_numeral_55 : decode cX7_numeral 55 = .ok (.istore 4, 2) := by decide +kernel
theorem dX7_numeral_57 : decode cX7_numeral 57 = .ok (.iinc 3 1, 3) := by decide +kernel
theorem dX7_numeral_60 : decode cX7_numeral 60 = .ok (.goto (-55), 3) := by decide +kernel
theorem dX7_numeral_63 : decode cX7_numeral 63 = .ok (.iload_n 3, 1) := by decide +kernel
theorem dX7_numeral_64 : decode cX7_numeral 64 = .ok (.iconst 1, 1) := by decide +kernel
theorem dX7_numeral_65 : decode cX7_numeral 65 = .ok (.if_icmp .lt 8, 3) := by decide +kernel
theorem dX7_numeral_68 : decode cX7_numeral 68 = .ok (.iload_n 3, 1) := by decide +kernel
theorem dX7_numeral_69 : decode cX7_numeral 69 = .ok (.iconst 2, 1) := by decide +kernel
theorem dX7_numeral_70 : decode cX7_numeral 70 = .ok (.if_icmp .le 9, 3) := by decide +kernel
theorem dX7_numeral_73 : decode cX7_numeral 73 = .ok (.aload_n 0, 1) := by decide +kernel
theorem dX7_numeral_74 : decode cX7_numeral 74 = .ok (.iconst 1, 1) := by decide +kernel
theorem dX7_numeral_75 : decode cX7_numeral 75 = .ok (.invokevirtual 41, 3) := by decide +kernel
theorem dX7_numeral_78 : decode cX7_numeral 78 = .ok (.ireturn, 1) := by decide +kernel
theorem dX7_numeral_79 : decode cX7_numeral 79 = .ok (.iload 4, 2) := by decide +kernel
theorem dX7_numeral_81 : decode cX7_numeral 81 = .ok (.iload_n 1, 1) := by decide +kernel
theorem dX7_numeral_82 : decode cX7_numeral 82 = .ok (.iload_n 2, 1) := by decide +kernel
theorem dX7_numeral_83 : decode cX7_numeral 83 = .ok (.invokestatic 100, 3) := by decide +kernel
theorem dX7_numeral_86 : decode cX7_numeral 86 = .ok (.ifCond .ne 9, 3) := by decide +kernel
theorem dX7_numeral_89 : decode cX7_numeral 89 = .ok (.aload_n 0, 1) := by decide +kernel
theorem dX7_numeral_90 : decode cX7_numeral 90 = .ok (.iconst 2, 1) := by decide +kernel
theorem dX7_numeral_91 : decode cX7_numeral 91 = .ok (.invokevirtual 41, 3) := by decide +kernel
theorem dX7_numeral_94 : decode cX7_numeral 94 = .ok (.ireturn, 1) := by decide +kernel
theorem dX7_numeral_95 : decode cX7_numeral 95 = .ok (.aload_n 0, 1) := by decide +kernel
theorem dX7_numeral_96 : decode cX7_numeral 96 = .ok (.iload 4, 2) := by decide +kernel
theorem dX7_numeral_98 : decode cX7_numeral 98 = .ok (.putfield 25, 3) := by decide +kernel
theorem dX7_numeral_101 : decode cX7_numeral 101 = .ok (.aload_n 0, 1) := by decide +kernel
theorem dX7_numeral_102 : decode cX7_numeral 102 = .ok (.dup, 1) := by decide +kernel
theorem dX7_numeral_103 : decode cX7_numeral 103 = .ok (.getfield 18, 3) := by decide +kernel
theorem dX7_numeral_106 : decode cX7_numeral 106 = .ok (.iload_n 3, 1) := by decide +kernel
theorem dX7_numeral_107 : decode cX7_numeral 107 = .ok (.iadd, 1) := by decide +kernel
theorem dX7_numeral_108 : decode cX7_numeral 108 = .ok (.putfield 18, 3) := by decide +kernel
theorem dX7_numeral_111 : decode cX7_numeral 111 = .ok (.iconst 1, 1) := by decide +kernel
theorem dX7_numeral_112 : decode cX7_numeral 112 = .ok (.ireturn, 1) := by decide +kernel
theorem dX7_refuse_0 : decode cX7_refuse 0 = .ok (.aload_n 0, 1) := by decide +kernel
theorem dX7_refuse_1 : decode cX7_refuse 1 = .ok (.iload_n 1, 1) := by decide +kernel
theorem dX7_refuse_2 : decode cX7_refuse 2 = .ok (.putfield 22, 3) := by decide +kernel
theorem dX7_refuse_5 : decode cX7_refuse 5 = .ok (.iconst 0, 1) := by decide +kernel
theorem dX7_refuse_6 : decode cX7_refuse 6 = .ok (.ireturn, 1) := by decide +kernel
theorem dX8_init_0 : decode cX8_init 0 = .ok (.aload_n 0, 1) := by decide +kernel
theorem dX8_init_1 : decode cX8_init 1 = .ok (.invokespecial 3, 3) := by decide +kernel
theorem dX8_init_4 : decode cX8_init 4 = .ok (.aload_n 0, 1) := by decide +kernel
theorem dX8_init_5 : decode cX8_init 5 = .ok (.iconst 0, 1) := by decide +kernel
theorem dX8_init_6 : decode cX8_init 6 = .ok (.putfield 9, 3) := by decide +kernel
theorem dX8_init_9 : decode cX8_init 9 = .ok (.aload_n 0, 1) := by decide +kernel
theorem dX8_init_10 : decode cX8_init 10 = .ok (.iconst 0, 1) := by decide +kernel
theorem dX8_init_11 : decode cX8_init 11 = .ok (.putfield 15, 3) := by decide +kernel
theorem dX8_init_14 : decode cX8_init 14 = .ok (.aload_n 0, 1) := by decide +kernel
theorem dX8_init_15 : decode cX8_init 15 = .ok (.iconst 5, 1) := by decide +kernel
theorem dX8_init_16 : decode cX8_init 16 = .ok (.newarray .int, 2) := by decide +kernel
theorem dX8_init_18 : decode cX8_init 18 = .ok (.putfield 18, 3) := by decide +kernel
theorem dX8_init_21 : decode cX8_init 21 = .ok (.aload_n 0, 1) := by decide +kernel
theorem dX8_init_22 : decode cX8_init 22 = .ok (.iconst 5, 1) := by decide +kernel
theorem dX8_init_23 : decode cX8_init 23 = .ok (.newarray .int, 2) := by decide +kernel
theorem dX8_init_25 : decode cX8_init 25 = .ok (.putfield 22, 3) := by decide +kernel
theorem dX8_init_28 : decode cX8_init 28 = .ok (.return_, 1) := by decide +kernel
set_option maxRecDepth 20000 in
theorem ggX8_open_J7_fill_53178 : GoodIn wsX8_open wsJ7_fill_53178 := goodIn_r _ [12] (by decide +kernel) (by decide +kernel)
set_option maxRecDepth 20000 in
theorem gX8_open_J7_fill_53178 : GoodIn wsX8_open (va_wsS RX8 31 yJ7_fill_53178 wsJ7_fill_53178) := goodIn_app (goodIn_of _ (by decide +kernel)) ggX8_open_J7_fill_53178
theorem dX8_open_0 : decode cX8_open 0 = .ok (.aload_n 0, 1) := by decide +kernel
theorem dX8_open_1 : decode cX8_open 1 = .ok (.iload_n 1, 1) := by decide +kernel
theorem dX8_open_2 : decode cX8_open 2 = .ok (.iconst 5, 1) := by decide +kernel
theorem dX8_open_3 : decode cX8_open 3 = .ok (.invokestatic 25, 3) := by decide +kernel
theorem dX8_open_6 : decode cX8_open 6 = .ok (.putfield 9, 3) := by decide +kernel
theorem dX8_open_9 : decode cX8_open 9 = .ok (.aload_n 0, 1) := by decide +kernel
theorem dX8_open_10 : decode cX8_open 10 = .ok (.iconst 1, 1) := by decide +kernel
theorem dX8_open_11 : decode cX8_open 11 = .ok (.aload_n 0, 1) := by decide +kernel
theorem dX8_open_12 : decode cX8_open 12 = .ok (.getfield 9, 3) := by decide +kernel
theorem dX8_open_15 : decode cX8_open 15 = .ok (.ishl, 1) := by decide +kernel
theorem dX8_open_16 : decode cX8_open 16 = .ok (.iconst 1, 1) := by decide +kernel
theorem dX8_open_17 : decode cX8_open 17 = .ok (.isub, 1) := by decide +kernel
theorem dX8_open_18 : decode cX8_open 18 = .ok (.putfield 15, 3) := by decide +kernel
theorem dX8_open_21 : decode cX8_open 21 = .ok (.aload_n 0, 1) := by decide +kernel
theorem dX8_open_22 : decode cX8_open 22 = .ok (.getfield 18, 3) := by decide +kernel
theorem dX8_open_25 : decode cX8_open 25 = .ok (.iconst 1, 1) := by decide +kernel
theorem dX8_open_26 : decode cX8_open 26 = .ok (.invokestatic 31, 3) := by decide +kernel
theorem dX8_open_29 : decode cX8_open 29 = .ok (.aload_n 0, 1) := by decide +kernel
theorem dX8_open_30 : decode cX8_open 30 = .ok (.getfield 22, 3) := by decide +kernel
theorem dX8_open_33 : decode cX8_open 33 = .ok (.iconst 0, 1) := by decide +kernel
theorem dX8_open_34 : decode cX8_open 34 = .ok (.invokestatic 31, 3) := by decide +kernel
theorem dX8_open_37 : decode cX8_open 37 = .ok (.return_, 1) := by decide +kernel
theorem dX8_become_0 : decode cX8_become 0 = .ok (.aload_n 0, 1) := by decide +kernel
theorem dX8_become_1 : decode cX8_become 1 = .ok (.aload_n 1, 1) := by decide +kernel
theorem dX8_become_2 : decode cX8_become 2 = .ok (.getfield 9, 3) := by decide +kernel
theorem dX8_become_5 : decode cX8_become 5 = .ok (.putfield 9, 3) := by decide +kernel
theorem dX8_become_8 : decode cX8_become 8 = .ok (.aload_n 0, 1) := by decide +kernel
theorem dX8_become_9 : decode cX8_become 9 = .ok (.aload_n 1, 1) := by decide +kernel
theorem dX8_become_10 : decode cX8_become 10 = .ok (.getfield 15, 3) := by decide +kernel
theorem dX8_become_13 : decode cX8_become 13 = .ok (.putfield 15, 3) := by decide +kernel
theorem dX8_become_16 : decode cX8_become 16 = .ok (.aload_n 1, 1) := by decide +kernel
theorem dX8_become_17 : decode cX8_become 17 = .ok (.getfield 18, 3) := by decide +kernel
theorem dX8_become_20 : decode cX8_become 20 = .ok (.iconst 0, 1) := by decide +kernel
theorem dX8_become_21 : decode cX8_become 21 = .ok (.aload_n 0, 1) := by decide +kernel
theorem dX8_become_22 : decode cX8_become 22 = .ok (.getfield 18, 3) := by decide +kernel
theorem dX8_become_25 : decode cX8_become 25 = .ok (.iconst 0, 1) := by decide +kernel
theorem dX8_become_26 : decode cX8_become 26 = .ok (.iconst 5, 1) := by decide +kernel
theorem dX8_become_27 : decode cX8_become 27 = .ok (.invokestatic 37, 3) := by decide +kernel
theorem dX8_become_30 : decode cX8_become 30 = .ok (.aload_n 1, 1) := by decide +kernel
theorem dX8_become_31 : decode cX8_become 31 = .ok (.getfield 22, 3) := by decide +kernel
theorem dX8_become_34 : decode cX8_become 34 = .ok (.iconst 0, 1) := by decide +kernel
theorem dX8_become_35 : decode cX8_become 35 = .ok (.aload_n 0, 1) := by decide +kernel
theorem dX8_become_36 : decode cX8_become 36 = .ok (.getfield 22, 3) := by decide +kernel
theorem dX8_become_39 : decode cX8_become 39 = .ok (.iconst 0, 1) := by decide +kernel
theorem dX8_become_40 : decode cX8_become 40 = .ok (.iconst 5, 1) := by decide +kernel
theorem dX8_become_41 : decode cX8_become 41 = .ok (.invokestatic 37, 3) := by decide +kernel
theorem dX8_become_44 : decode cX8_become 44 = .ok (.return_, 1) := by decide +kernel
theorem dX8_has_0 : decode cX8_has 0 = .ok (.iload_n 1, 1) := by decide +kernel
theorem dX8_has_1 : decode cX8_has 1 = .ok (.ifCond .lt 15, 3) := by decide +kernel
theorem dX8_has_4 : decode cX8_has 4 = .ok (.iload_n 1, 1) := by decide +kernel
theorem dX8_has_5 : decode cX8_has 5 = .ok (.aload_n 0, 1) := by decide +kernel
theorem dX8_has_6 : decode cX8_has 6 = .ok (.getfield 9, 3) := by decide +kernel
theorem dX8_has_9 : decode cX8_has 9 = .ok (.if_icmp .ge 7, 3) := by decide +kernel
theorem dX8_has_12 : decode cX8_has 12 = .ok (.iconst 1, 1) := by decide +kernel
theorem dX8_has_13 : decode cX8_has 13 = .ok (.goto 4, 3) := by decide +kernel
theorem dX8_has_16 : decode cX8_has 16 = .ok (.iconst 0, 1) := by decide +kernel
theorem dX8_has_17 : decode cX8_has 17 = .ok (.ireturn, 1) := by decide +kernel
set_option maxRecDepth 20000 in
theorem ggX8_hasUp_X8_has : GoodIn wsX8_hasUp wsX8_has := goodIn_r _ [6, 7, 11, 12, 13, 14] (by decide +kernel) (by decide +kernel)
set_option maxRecDepth 20000 in
theorem gX8_hasUp_X8_has : GoodIn wsX8_hasUp (wsV RX8 43 RX8 yX8_has wsX8_has) := goodIn_app (goodIn_of _ (by decide +kernel)) ggX8_hasUp_X8_has
set_option maxRecDepth 20000 in
theorem ggX8_hasUp_X10_isIn : GoodIn wsX8_hasUp wsX10_isIn := goodIn_r _ [10] (by decide +kernel) (by decide +kernel)
set_option maxRecDepth 20000 in
theorem gX8_hasUp_X10_isIn_n47 : GoodIn wsX8_hasUp (wsX10_isIn) := ggX8_hasUp_X10_isIn
theorem dX8_hasUp_0 : decode cX8_hasUp 0 = .ok (.aload_n 0, 1) := by decide +kernel
theorem dX8_hasUp_1 : decode cX8_hasUp 1 = .ok (.iload_n 1, 1) := by decide +kernel
theorem dX8_hasUp_2 : decode cX8_hasUp 2 = .ok (.invokevirtual 43, 3) := by decide +kernel
theorem dX8_hasUp_5 : decode cX8_hasUp 5 = .ok (.ifCond .eq 18, 3) := by decide +kernel
theorem dX8_hasUp_8 : decode cX8_hasUp 8 = .ok (.aload_n 0, 1) := by decide +kernel
theorem dX8_hasUp_9 : decode cX8_hasUp 9 = .ok (.getfield 15, 3) := by decide +kernel
theorem dX8_hasUp_12 : decode cX8_hasUp 12 = .ok (.iload_n 1, 1) := by decide +kernel
theorem dX8_hasUp_13 : decode cX8_hasUp 13 = .ok (.invokestatic 47, 3) := by decide +kernel
theorem dX8_hasUp_16 : decode cX8_hasUp 16 = .ok (.ifCond .eq 7, 3) := by decide +kernel
theorem dX8_hasUp_19 : decode cX8_hasUp 19 = .ok (.iconst 1, 1) := by decide +kernel
theorem dX8_hasUp_20 : decode cX8_hasUp 20 = .ok (.goto 4, 3) := by decide +kernel
theorem dX8_hasUp_23 : decode cX8_hasUp 23 = .ok (.iconst 0, 1) := by decide +kernel
theorem dX8_hasUp_24 : decode cX8_hasUp 24 = .ok (.ireturn, 1) := by decide +kernel
set_option maxRecDepth 20000 in
theorem ggX8_turn_X8_has : GoodIn wsX8_turn wsX8_has := goodIn_r _ [6, 7, 8, 9, 10, 11] (by decide +kernel) (by decide +kernel)
set_option maxRecDepth 20000 in
theorem gX8_turn_X8_has : GoodIn wsX8_turn (wsV RX8 43 RX8 yX8_has wsX8_has) := goodIn_app (goodIn_of _ (by decide +kernel)) ggX8_turn_X8_has
theorem dX8_turn_0 : decode cX8_turn 0 = .ok (.aload_n 0, 1) := by decide +kernel
theorem dX8_turn_1 : decode cX8_turn 1 = .ok (.iload_n 1, 1) := by decide +kernel
theorem dX8_turn_2 : decode cX8_turn 2 = .ok (.invokevirtual 43, 3) := by decide +kernel
theorem dX8_turn_5 : decode cX8_turn 5 = .ok (.ifCond .eq 32, 3) := by decide +kernel
theorem dX8_turn_8 : decode cX8_turn 8 = .ok (.iconst 1, 1) := by decide +kernel
theorem dX8_turn_9 : decode cX8_turn 9 = .ok (.iload_n 1, 1) := by decide +kernel
theorem dX8_turn_10 : decode cX8_turn 10 = .ok (.ishl, 1) := by decide +kernel
theorem dX8_turn_11 : decode cX8_turn 11 = .ok (.istore_n 3, 1) := by decide +kernel
theorem dX8_turn_12 : decode cX8_turn 12 = .ok (.aload_n 0, 1) := by decide +kernel
theorem dX8_turn_13 : decode cX8_turn 13 = .ok (.iload_n 2, 1) := by decide +kernel
theorem dX8_turn_14 : decode cX8_turn 14 = .ok (.ifCond .eq 12, 3) := by decide +kernel
theorem dX8_turn_17 : decode cX8_turn 17 = .ok (.aload_n 0, 1) := by decide +kernel
theorem dX8_turn_18 : decode cX8_turn 18 = .ok (.getfield 15, 3) := by decide +kernel
theorem dX8_turn_21 : decode cX8_turn 21 = .ok (.iload_n 3, 1) := by decide +kernel
theorem dX8_turn_22 : decode cX8_turn 22 = .ok (.ior, 1) := by decide +kernel
theorem dX8_turn_23 : decode cX8_turn 23 = .ok (.goto 11, 3) := by decide +kernel
theorem dX8_turn_26 : decode cX8_turn 26 = .ok (.aload_n 0, 1) := by decide +kernel
theorem dX8_turn_27 : decode cX8_turn 27 = .ok (.getfield 15, 3) := by decide +kernel
theorem dX8_turn_30 : decode cX8_turn 30 = .ok (.iload_n 3, 1) := by decide +kernel
theorem dX8_turn_31 : decode cX8_turn 31 = .ok (.iconst (-1), 1) := by decide +kernel
theorem dX8_turn_32 : decode cX8_turn 32 = .ok (.ixor, 1) := by decide +kernel
theorem dX8_turn_33 : decode cX8_turn 33 = .ok (.iand, 1) := by decide +kernel
theorem dX8_turn_34 : decode cX8_turn 34 = .ok (.putfield 15, 3) := by decide +kernel
theorem dX8_turn_37 : decode cX8_turn 37 = .ok (.return_, 1) := by decide +kernel
theorem dX8_roomOf_0 : decode cX8_roomOf 0 = .ok (.iload_n 1, 1) := by decide +kernel
theorem dX8_roomOf_1 : decode cX8_roomOf 1 = .ok (.ifCond .lt 20, 3) := by decide +kernel
theorem dX8_roomOf_4 : decode cX8_roomOf 4 = .ok (.iload_n 1, 1) := by decide +kernel
theorem dX8_roomOf_5 : decode cX8_roomOf 5 = .ok (.aload_n 0, 1) := by decide +kernel
theorem dX8_roomOf_6 : decode cX8_roomOf 6 = .ok (.getfield 9, 3) := by decide +kernel
theorem dX8_roomOf_9 : decode cX8_roomOf 9 = .ok (.if_icmp .ge 12, 3) := by decide +kernel
theorem dX8_roomOf_12 : decode cX8_roomOf 12 = .ok (.aload_n 0, 1) := by decide +kernel
theorem dX8_roomOf_13 : decode cX8_roomOf 13 = .ok (.getfield 18, 3) := by decide +kernel
theorem dX8_roomOf_16 : decode cX8_roomOf 16 = .ok (.iload_n 1, 1) := by decide +kernel
theorem dX8_roomOf_17 : decode cX8_roomOf 17 = .ok (.iaload, 1) := by decide +kernel
theorem dX8_roomOf_18 : decode cX8_roomOf 18 = .ok (.goto 4, 3) := by decide +kernel
theorem dX8_roomOf_21 : decode cX8_roomOf 21 = .ok (.iconst 1, 1) := by decide +kernel
theorem dX8_roomOf_22 : decode cX8_roomOf 22 = .ok (.ireturn, 1) := by decide +kernel
set_option maxRecDepth 20000 in
theorem ggX8_manyUp_J6_bitCount_0f7a4 : GoodIn wsX8_manyUp wsJ6_bitCount_0f7a4 := goodIn_r _ [5, 6, 7, 8] (by decide +kernel) (by decide +kernel)
set_option maxRecDepth 20000 in
theorem gX8_manyUp_J6_bitCount_0f7a4 : GoodIn wsX8_manyUp (va_wsS RX8 51 yJ6_bitCount_0f7a4 wsJ6_bitCount_0f7a4) := goodIn_app (goodIn_of _ (by decide +kernel)) ggX8_manyUp_J6_bitCount_0f7a4
theorem dX8_manyUp_0 : decode cX8_manyUp 0 = .ok (.aload_n 0, 1) := by decide +kernel
theorem dX8_manyUp_1 : decode cX8_manyUp 1 = .ok (.getfield 15, 3) := by decide +kernel
theorem dX8_manyUp_4 : decode cX8_manyUp 4 = .ok (.invokestatic 51, 3) := by decide +kernel
theorem dX8_manyUp_7 : decode cX8_manyUp 7 = .ok (.ireturn, 1) := by decide +kernel
set_option maxRecDepth 20000 in
theorem ggX8_failsNow_X8_has : GoodIn wsX8_failsNow wsX8_has := goodIn_r _ [6, 7, 8, 9, 10, 11] (by decide +kernel) (by decide +kernel)
set_option maxRecDepth 20000 in
theorem gX8_failsNow_X8_has : GoodIn wsX8_failsNow (wsV RX8 43 RX8 yX8_has wsX8_has) := goodIn_app (goodIn_of _ (by decide +kernel)) ggX8_failsNow_X8_has
theorem dX8_failsNow_0 : decode cX8_failsNow 0 = .ok (.aload_n 0, 1) := by decide +kernel
theorem dX8_failsNow_1 : decode cX8_failsNow 1 = .ok (.iload_n 1, 1) := by decide +kernel
theorem dX8_failsNow_2 : decode cX8_failsNow 2 = .ok (.invokevirtual 43, 3) := by decide +kernel
theorem dX8_failsNow_5 : decode cX8_failsNow 5 = .ok (.ifCond .eq 13, 3) := by decide +kernel
theorem dX8_failsNow_8 : decode cX8_failsNow 8 = .ok (.aload_n 0, 1) := by decide +kernel
theorem dX8_failsNow_9 : decode cX8_failsNow 9 = .ok (.getfield 22, 3) := by decide +kernel
theorem dX8_failsNow_12 : decode cX8_failsNow 12 = .ok (.iload_n 1, 1) := by decide +kernel
theorem dX8_failsNow_13 : decode cX8_failsNow 13 = .ok (.iaload, 1) := by decide +kernel
theorem dX8_failsNow_14 : decode cX8_failsNow 14 = .ok (.iconst 1, 1) := by decide +kernel
theorem dX8_failsNow_15 : decode cX8_failsNow 15 = .ok (.if_icmp .ge 5, 3) := by decide +kernel
theorem dX8_failsNow_18 : decode cX8_failsNow 18 = .ok (.iconst 0, 1) := by decide +kernel
theorem dX8_failsNow_19 : decode cX8_failsNow 19 = .ok (.ireturn, 1) := by decide +kernel
theorem dX8_failsNow_20 : decode cX8_failsNow 20 = .ok (.aload_n 0, 1) := by decide +kernel
theorem dX8_failsNow_21 : decode cX8_failsNow 21 = .ok (.getfield 22, 3) := by decide +kernel
theorem dX8_failsNow_24 : decode cX8_failsNow 24 = .ok (.iload_n 1, 1) := by decide +kernel
theorem dX8_failsNow_25 : decode cX8_failsNow 25 = .ok (.dup2, 1) := by decide +kernel
theorem dX8_failsNow_26 : decode cX8_failsNow 26 = .ok (.iaload, 1) := by decide +kernel
theorem dX8_failsNow_27 : decode cX8_failsNow 27 = .ok (.iconst 1, 1) := by decide +kernel
theorem dX8_failsNow_28 : decode cX8_failsNow 28 = .ok (.isub, 1) := by decide +kernel
theorem dX8_failsNow_29 : decode cX8_failsNow 29 = .ok (.iastore, 1) := by decide +kernel
theorem dX8_failsNow_30 : decode cX8_failsNow 30 = .ok (.iconst 1, 1) := by decide +kernel
theorem dX8_failsNow_31 : decode cX8_failsNow 31 = .ok (.ireturn, 1) := by decide +kernel
set_option maxRecDepth 20000 in
theorem ggX8_spoilMore_X8_has : GoodIn wsX8_spoilMore wsX8_has := goodIn_r _ [10, 11, 12, 13, 14, 15] (by decide +kernel) (by decide +kernel)
set_option maxRecDepth 20000 in
theorem gX8_spoilMore_X8_has : GoodIn wsX8_spoilMore (wsV RX8 43 RX8 yX8_has wsX8_has) := goodIn_app (goodIn_of _ (by decide +kernel)) ggX8_spoilMore_X8_has
theorem dX8_spoilMore_0 : decode cX8_spoilMore 0 = .ok (.aload_n 0, 1) := by decide +kernel
theorem dX8_spoilMore_1 : decode cX8_spoilMore 1 = .ok (.iload_n 1, 1) := by decide +kernel
theorem dX8_spoilMore_2 : decode cX8_spoilMore 2 = .ok (.invokevirtual 43, 3) := by decide +kernel
theorem dX8_spoilMore_5 : decode cX8_spoilMore 5 = .ok (.ifCond .eq 22, 3) := by decide +kernel
theorem dX8_spoilMore_8 : decode cX8_spoilMore 8 = .ok (.aload_n 0, 1) := by decide +kernel
theorem dX8_spoilMore_9 : decode cX8_spoilMore 9 = .ok (.getfield 22, 3) := by decide +kernel
theorem dX8_spoilMore_12 : decode cX8_spoilMore 12 = .ok (.iload_n 1, 1) := by decide +kernel
theorem dX8_spoilMore_13 : decode cX8_spoilMore 13 = .ok (.aload_n 0, 1) := by decide +kernel
theorem dX8_spoilMore_14 : decode cX8_spoilMore 14 = .ok (.getfield 22, 3) := by decide +kernel
theorem dX8_spoilMore_17 : decode cX8_spoilMore 17 = .ok (.iload_n 1, 1) := by decide +kernel
theorem dX8_spoilMore_18 : decode cX8_spoilMore 18 = .ok (.iaload, 1) := by decide +kernel
theorem dX8_spoilMore_19 : decode cX8_spoilMore 19 = .ok (.iconst 1, 1) := by decide +kernel
theorem dX8_spoilMore_20 : decode cX8_spoilMore 20 = .ok (.iadd, 1) := by decide +kernel
theorem dX8_spoilMore_21 : decode cX8_spoilMore 21 = .ok (.bipush 9, 2) := by decide +kernel
theorem dX8_spoilMore_23 : decode cX8_spoilMore 23 = .ok (.invokestatic 25, 3) := by decide +kernel
theorem dX8_spoilMore_26 : decode cX8_spoilMore 26 = .ok (.iastore, 1) := by decide +kernel
theorem dX8_spoilMore_27 : decode cX8_spoilMore 27 = .ok (.return_, 1) := by decide +kernel
theorem dX9_init_0 : decode cX9_init 0 = .ok (.aload_n 0, 1) := by decide +kernel
theorem dX9_init_1 : decode cX9_init 1 = .ok (.invokespecial 3, 3) := by decide +kernel
theorem dX9_init_4 : decode cX9_init 4 = .ok (.aload_n 0, 1) := by decide +kernel
theorem dX9_init_5 : decode cX9_init 5 = .ok (.bipush 80, 2) := by decide +kernel
theorem dX9_init_7 : decode cX9_init 7 = .ok (.newarray .int, 2) := by decide +kernel
theorem dX9_init_9 : decode cX9_init 9 = .ok (.putfield 9, 3) := by decide +kernel
theorem dX9_init_12 : decode cX9_init 12 = .ok (.aload_n 0, 1) := by decide +kernel
theorem dX9_init_13 : decode cX9_init 13 = .ok (.iconst 0, 1) := by decide +kernel
theorem dX9_init_14 : decode cX9_init 14 = .ok (.putfield 15, 3) := by decide +kernel
theorem dX9_init_17 : decode cX9_init 17 = .ok (.return_, 1) := by decide +kernel
theorem dX9_take_0 : decode cX9_take 0 = .ok (.aload_n 0, 1) := by decide +kernel
theorem dX9_take_1 : decode cX9_take 1 = .ok (.getfield 15, 3) := by decide +kernel
theorem dX9_take_4 : decode cX9_take 4 = .ok (.bipush 80, 2) := by decide +kernel
theorem dX9_take_6 : decode cX9_take 6 = .ok (.if_icmp .lt 5, 3) := by decide +kernel
theorem dX9_take_9 : decode cX9_take 9 = .ok (.iconst 0, 1) := by decide +kernel
theorem dX9_take_10 : decode cX9_take 10 = .ok (.ireturn, 1) := by decide +kernel
theorem dX9_take_11 : decode cX9_take 11 = .ok (.aload_n 0, 1) := by decide +kernel
theorem dX9_take_12 : decode cX9_take 12 = .ok (.getfield 9, 3) := by decide +kernel
theorem dX9_take_15 : decode cX9_take 15 = .ok (.aload_n 0, 1) := by decide +kernel
theorem dX9_take_16 : decode cX9_take 16 = .ok (.getfield 15, 3) := by decide +kernel
theorem dX9_take_19 : decode cX9_take 19 = .ok (.iload_n 1, 1) := by decide +kernel
theorem dX9_take_20 : decode cX9_take 20 = .ok (.iastore, 1) := by decide +kernel
theorem dX9_take_21 : decode cX9_take 21 = .ok (.aload_n 0, 1) := by decide +kernel
theorem dX9_take_22 : decode cX9_take 22 = .ok (.dup, 1) := by decide +kernel
theorem dX9_take_23 : decode cX9_take 23 = .ok (.getfield 15, 3) := by decide +kernel
theorem dX9_take_26 : decode cX9_take 26 = .ok (.iconst 1, 1) := by decide +kernel
theorem dX9_take_27 : decode cX9_take 27 = .ok (.iadd, 1) := by decide +kernel
theorem dX9_take_28 : decode cX9_take 28 = .ok (.putfield 15, 3) := by decide +kernel
theorem dX9_take_31 : decode cX9_take 31 = .ok (.iconst 1, 1) := by decide +kernel
theorem dX9_take_32 : decode cX9_take 32 = .ok (.ireturn, 1) := by decide +kernel
theorem dX9_at_0 : decode cX9_at 0 = .ok (.iload_n 1, 1) := by decide +kernel
theorem dX9_at_1 : decode cX9_at 1 = .ok (.ifCond .lt 20, 3) := by decide +kernel
theorem dX9_at_4 : decode cX9_at 4 = .ok (.iload_n 1, 1) := by decide +kernel
theorem dX9_at_5 : decode cX9_at 5 = .ok (.aload_n 0, 1) := by decide +kernel
theorem dX9_at_6 : decode cX9_at 6 = .ok (.getfield 15, 3) := by decide +kernel
theorem dX9_at_9 : decode cX9_at 9 = .ok (.if_icmp .ge 12, 3) := by decide +kernel
theorem dX9_at_12 : decode cX9_at 12 = .ok (.aload_n 0, 1) := by decide +kernel
theorem dX9_at_13 : decode cX9_at 13 = .ok (.getfield 9, 3) := by decide +kernel
theorem dX9_at_16 : decode cX9_at 16 = .ok (.iload_n 1, 1) := by decide +kernel
theorem dX9_at_17 : decode cX9_at 17 = .ok (.iaload, 1) := by decide +kernel
theorem dX9_at_18 : decode cX9_at 18 = .ok (.goto 4, 3) := by decide +kernel
theorem dX9_at_21 : decode cX9_at 21 = .ok (.iconst (-1), 1) := by decide +kernel
theorem dX9_at_22 : decode cX9_at 22 = .ok (.ireturn, 1) := by decide +kernel
set_option maxRecDepth 20000 in
theorem ggX9_isOfLetters_X10_isLetter : GoodIn wsX9_isOfLetters wsX10_isLetter := goodIn_r _ [5, 6, 7, 4, 8] (by decide +kernel) (by decide +kernel)
set_option maxRecDepth 20000 in
theorem gX9_isOfLetters_X10_isLetter_n19 : GoodIn wsX9_isOfLetters (wsX10_isLetter) := ggX9_isOfLetters_X10_isLetter
theorem dX9_isOfLetters_0 : decode cX9_isOfLetters 0 = .ok (.iconst 0, 1) := by decide +kernel
theorem dX9_isOfLetters_1 : decode cX9_isOfLetters 1 = .ok (.istore_n 1, 1) := by decide +kernel
theorem dX9_isOfLetters_2 : decode cX9_isOfLetters 2 = .ok (.iload_n 1, 1) := by decide +kernel
theorem dX9_isOfLetters_3 : decode cX9_isOfLetters 3 = .ok (.aload_n 0, 1) := by decide +kernel
theorem dX9_isOfLetters_4 : decode cX9_isOfLetters 4 = .ok (.getfield 15, 3) := by decide +kernel
theorem dX9_isOfLetters_7 : decode cX9_isOfLetters 7 = .ok (.if_icmp .ge 23, 3) := by decide +kernel
theorem dX9_isOfLetters_10 : decode cX9_isOfLetters 10 = .ok (.aload_n 0, 1) := by decide +kernel
theorem dX9_isOfLetters_11 : decode cX9_isOfLetters 11 = .ok (.getfield 9, 3) := by decide +kernel
theorem dX9_isOfLetters_14 : decode cX9_isOfLetters 14 = .ok (.iload_n 1, 1) := by decide +kernel
theorem dX9_isOfLetters_15 : decode cX9_isOfLetters 15 = .ok (.iaload, 1) := by decide +kernel
theorem dX9_isOfLetters_16 : decode cX9_isOfLetters 16 = .ok (.invokestatic 19, 3) := by decide +kernel
theorem dX9_isOfLetters_19 : decode cX9_isOfLetters 19 = .ok (.ifCond .ne 5, 3) := by decide +kernel
theorem dX9_isOfLetters_22 : decode cX9_isOfLetters 22 = .ok (.iconst 0, 1) := by decide +kernel
theorem dX9_isOfLetters_23 : decode cX9_isOfLetters 23 = .ok (.ireturn, 1) := by decide +kernel
theorem dX9_isOfLetters_24 : decode cX9_isOfLetters 24 = .ok (.iinc 1 1, 3) := by decide +kernel
theorem dX9_isOfLetters_27 : decode cX9_isOfLetters 27 = .ok (.goto (-25), 3) := by decide +kernel
theorem dX9_isOfLetters_30 : decode cX9_isOfLetters 30 = .ok (.iconst 1, 1) := by decide +kernel
theorem dX9_isOfLetters_31 : decode cX9_isOfLetters 31 = .ok (.ireturn, 1) := by decide +kernel
