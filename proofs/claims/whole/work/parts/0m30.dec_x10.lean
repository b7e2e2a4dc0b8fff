set_option maxRecDepth 20000 in
theorem ggX10_init_X7_init : GoodIn wsX10_init wsX7_init := goodIn_r _ [23, 24, 2, 3, 25, 26, 27, 28, 29, 30, 31, 32, 33, 34, 35, 36, 37, 127, 128, 103, 104, 105, 106] (by decide +kernel) (by decide +kernel)
set_option maxRecDepth 20000 in
theorem gX10_init_X7_init_n11 : GoodIn wsX10_init (wsX7_init) := ggX10_init_X7_init
set_option maxRecDepth 20000 in
theorem ggX10_init_X0_init : GoodIn wsX10_init wsX0_init := goodIn_r _ [39, 40, 2, 3, 41, 42, 43, 44, 115, 116, 117] (by decide +kernel) (by decide +kernel)
set_option maxRecDepth 20000 in
theorem gX10_init_X0_init_n23 : GoodIn wsX10_init (wsX0_init) := ggX10_init_X0_init
set_option maxRecDepth 20000 in
theorem ggX10_init_X5_init : GoodIn wsX10_init wsX5_init := goodIn_r _ [46, 47, 2, 3, 48, 49, 50, 51, 52, 53, 54, 55, 56, 57, 58, 59, 60, 61, 62, 63, 64, 65, 66, 67, 68, 69, 70, 71, 72, 73, 35, 74, 75, 76, 77, 78, 79, 80, 81, 82, 83, 84, 85, 86, 87, 88, 89, 90, 91, 92, 93, 94, 95, 96, 97, 98, 99, 100, 101, 102, 118, 119, 120, 121, 122, 123, 124, 125, 126, 129, 130, 131, 132, 133, 134, 135, 136, 137, 138, 139, 140, 141, 142, 143, 144, 145] (by decide +kernel) (by decide +kernel)
set_option maxRecDepth 20000 in
theorem gX10_init_X5_init_n30 : GoodIn wsX10_init (wsX5_init) := ggX10_init_X5_init
theorem dX10_init_0 : decode cX10_init 0 = .ok (.aload_n 0, 1) := by decide +kernel
theorem dX10_init_1 : decode cX10_init 1 = .ok (.invokespecial 3, 3) := by decide +kernel
theorem dX10_init_4 : decode cX10_init 4 = .ok (.aload_n 0, 1) := by decide +kernel
theorem dX10_init_5 : decode cX10_init 5 = .ok (.new 9, 3) := by decide +kernel
theorem dX10_init_8 : decode cX10_init 8 = .ok (.dup, 1) := by decide +kernel
theorem dX10_init_9 : decode cX10_init 9 = .ok (.invokespecial 11, 3) := by decide +kernel
theorem dX10_init_12 : decode cX10_init 12 = .ok (.putfield 12, 3) := by decide +kernel
theorem dX10_init_15 : decode cX10_init 15 = .ok (.aload_n 0, 1) := by decide +kernel
theorem dX10_init_16 : decode cX10_init 16 = .ok (.aload_n 0, 1) := by decide +kernel
theorem dX10_init_17 : decode cX10_init 17 = .ok (.getfield 12, 3) := by decide +kernel
theorem dX10_init_20 : decode cX10_init 20 = .ok (.getfield 16, 3) := by decide +kernel
theorem dX10_init_23 : decode cX10_init 23 = .ok (.putfield 20, 3) := by decide +kernel
theorem dX10_init_26 : decode cX10_init 26 = .ok (.aload_n 0, 1) := by decide +kernel
theorem dX10_init_27 : decode cX10_init 27 = .ok (.new 21, 3) := by decide +kernel
theorem dX10_init_30 : decode cX10_init 30 = .ok (.dup, 1) := by decide +kernel
theorem dX10_init_31 : decode cX10_init 31 = .ok (.invokespecial 23, 3) := by decide +kernel
theorem dX10_init_34 : decode cX10_init 34 = .ok (.putfield 24, 3) := by decide +kernel
theorem dX10_init_37 : decode cX10_init 37 = .ok (.aload_n 0, 1) := by decide +kernel
theorem dX10_init_38 : decode cX10_init 38 = .ok (.new 28, 3) := by decide +kernel
theorem dX10_init_41 : decode cX10_init 41 = .ok (.dup, 1) := by decide +kernel
theorem dX10_init_42 : decode cX10_init 42 = .ok (.invokespecial 30, 3) := by decide +kernel
theorem dX10_init_45 : decode cX10_init 45 = .ok (.putfield 31, 3) := by decide +kernel
theorem dX10_init_48 : decode cX10_init 48 = .ok (.aload_n 0, 1) := by decide +kernel
theorem dX10_init_49 : decode cX10_init 49 = .ok (.new 28, 3) := by decide +kernel
theorem dX10_init_52 : decode cX10_init 52 = .ok (.dup, 1) := by decide +kernel
theorem dX10_init_53 : decode cX10_init 53 = .ok (.invokespecial 30, 3) := by decide +kernel
theorem dX10_init_56 : decode cX10_init 56 = .ok (.putfield 35, 3) := by decide +kernel
theorem dX10_init_59 : decode cX10_init 59 = .ok (.aload_n 0, 1) := by decide +kernel
theorem dX10_init_60 : decode cX10_init 60 = .ok (.iconst 2, 1) := by decide +kernel
theorem dX10_init_61 : decode cX10_init 61 = .ok (.anewarray 28, 3) := by decide +kernel
theorem dX10_init_64 : decode cX10_init 64 = .ok (.putfield 38, 3) := by decide +kernel
theorem dX10_init_67 : decode cX10_init 67 = .ok (.aload_n 0, 1) := by decide +kernel
theorem dX10_init_68 : decode cX10_init 68 = .ok (.iconst 0, 1) := by decide +kernel
theorem dX10_init_69 : decode cX10_init 69 = .ok (.putfield 42, 3) := by decide +kernel
theorem dX10_init_72 : decode cX10_init 72 = .ok (.aload_n 0, 1) := by decide +kernel
theorem dX10_init_73 : decode cX10_init 73 = .ok (.iconst 0, 1) := by decide +kernel
theorem dX10_init_74 : decode cX10_init 74 = .ok (.putfield 46, 3) := by decide +kernel
theorem dX10_init_77 : decode cX10_init 77 = .ok (.return_, 1) := by decide +kernel
set_option maxRecDepth 20000 in
theorem ggX10_feed_X10_within : GoodIn wsX10_feed wsX10_within := goodIn_r _ [8] (by decide +kernel) (by decide +kernel)
set_option maxRecDepth 20000 in
theorem gX10_feed_X10_within : GoodIn wsX10_feed (va_wsS RX10 50 yX10_within wsX10_within) := goodIn_app (goodIn_of _ (by decide +kernel)) ggX10_feed_X10_within
set_option maxRecDepth 20000 in
theorem ggX10_feed_X9_take : GoodIn wsX10_feed wsX9_take := goodIn_r _ [13, 14, 15, 24, 25] (by decide +kernel) (by decide +kernel)
set_option maxRecDepth 20000 in
theorem gX10_feed_X9_take : GoodIn wsX10_feed (wsV RX10 55 RX9 yX9_take wsX9_take) := goodIn_app (goodIn_of _ (by decide +kernel)) ggX10_feed_X9_take
theorem dX10_feed_0 : decode cX10_feed 0 = .ok (.iload_n 1, 1) := by decide +kernel
theorem dX10_feed_1 : decode cX10_feed 1 = .ok (.iconst 0, 1) := by decide +kernel
theorem dX10_feed_2 : decode cX10_feed 2 = .ok (.sipush 255, 3) := by decide +kernel
theorem dX10_feed_5 : decode cX10_feed 5 = .ok (.invokestatic 50, 3) := by decide +kernel
theorem dX10_feed_8 : decode cX10_feed 8 = .ok (.ifCond .ne 6, 3) := by decide +kernel
theorem dX10_feed_11 : decode cX10_feed 11 = .ok (.ldc 54, 2) := by decide +kernel
theorem dX10_feed_13 : decode cX10_feed 13 = .ok (.ireturn, 1) := by decide +kernel
theorem dX10_feed_14 : decode cX10_feed 14 = .ok (.aload_n 0, 1) := by decide +kernel
theorem dX10_feed_15 : decode cX10_feed 15 = .ok (.getfield 20, 3) := by decide +kernel
theorem dX10_feed_18 : decode cX10_feed 18 = .ok (.iload_n 1, 1) := by decide +kernel
theorem dX10_feed_19 : decode cX10_feed 19 = .ok (.invokevirtual 55, 3) := by decide +kernel
theorem dX10_feed_22 : decode cX10_feed 22 = .ok (.ifCond .eq 13, 3) := by decide +kernel
theorem dX10_feed_25 : decode cX10_feed 25 = .ok (.aload_n 0, 1) := by decide +kernel
theorem dX10_feed_26 : decode cX10_feed 26 = .ok (.getfield 20, 3) := by decide +kernel
theorem dX10_feed_29 : decode cX10_feed 29 = .ok (.getfield 61, 3) := by decide +kernel
theorem dX10_feed_32 : decode cX10_feed 32 = .ok (.goto 5, 3) := by decide +kernel
theorem dX10_feed_35 : decode cX10_feed 35 = .ok (.ldc 64, 2) := by decide +kernel
theorem dX10_feed_37 : decode cX10_feed 37 = .ok (.ireturn, 1) := by decide +kernel
set_option maxRecDepth 20000 in
theorem ggX10_house_X7_readInto : GoodIn wsX10_house wsX7_readInto := goodIn_r _ [17, 18, 19, 20, 21, 22, 23, 24, 16, 25, 26, 27, 28, 29, 30, 31, 32, 33, 34, 35, 36, 37, 38, 39, 40, 41, 42, 43, 44, 45, 46, 47, 48, 49, 50, 51, 52, 53, 54, 55, 56, 57, 58, 59, 60, 61, 62, 63, 64, 65, 66, 67, 68, 69, 70, 71, 72, 73, 74, 75, 76, 77, 78, 79, 80, 81, 82, 83, 84, 85, 86, 87, 88, 89, 90, 91, 92, 93, 94, 95, 96, 97, 98, 99, 100, 101, 102, 103, 104, 105, 106, 107, 108, 109, 110, 111, 112, 113, 114, 115, 116, 117, 179, 180, 181, 182, 177, 178, 183, 184, 185, 186, 187, 188, 189, 190, 191, 192, 193, 194, 195, 196, 197, 198, 199, 200, 201, 202, 203, 204, 205, 206, 207, 208] (by decide +kernel) (by decide +kernel)
set_option maxRecDepth 20000 in
theorem gX10_house_X7_readInto : GoodIn wsX10_house (wsV RX10 65 RX7 yX7_readInto wsX7_readInto) := goodIn_app (goodIn_of _ (by decide +kernel)) ggX10_house_X7_readInto
set_option maxRecDepth 20000 in
theorem ggX10_house_X5_become : GoodIn wsX10_house wsX5_become := goodIn_r _ [121, 122, 123, 124, 125, 58, 59, 60, 62, 63, 126, 127, 128, 67, 129, 73, 74, 75, 130, 131, 132, 133, 76, 134, 135, 136, 137, 138, 139, 140, 141, 142, 143, 144, 145, 146, 147, 84, 148, 86, 149, 150, 151, 152, 153, 154, 91, 155, 93, 156, 117, 157, 94, 158, 183, 184, 185, 186, 187, 188, 189, 190, 191, 197, 198, 199, 200, 192, 193, 194, 195, 196, 201, 202, 203, 204, 205, 206, 207, 208] (by decide +kernel) (by decide +kernel)
set_option maxRecDepth 20000 in
theorem gX10_house_X5_become : GoodIn wsX10_house (wsV RX10 76 RX5 yX5_become wsX5_become) := goodIn_app (goodIn_of _ (by decide +kernel)) ggX10_house_X5_become
set_option maxRecDepth 20000 in
theorem ggX10_house_X0_forget : GoodIn wsX10_house wsX0_forget := goodIn_r _ [163, 164, 209, 210, 211] (by decide +kernel) (by decide +kernel)
set_option maxRecDepth 20000 in
theorem gX10_house_X0_forget : GoodIn wsX10_house (wsV RX10 80 RX0 yX0_forget wsX0_forget) := goodIn_app (goodIn_of _ (by decide +kernel)) ggX10_house_X0_forget
set_option maxRecDepth 20000 in
theorem ggX10_house_X3_manyOf : GoodIn wsX10_house wsX3_manyOf := goodIn_r _ [168, 93, 204, 205, 206, 207, 208] (by decide +kernel) (by decide +kernel)
set_option maxRecDepth 20000 in
theorem gX10_house_X3_manyOf : GoodIn wsX10_house (wsV RX10 89 RX3 yX3_manyOf wsX3_manyOf) := goodIn_app (goodIn_of _ (by decide +kernel)) ggX10_house_X3_manyOf
theorem dX10_house_0 : decode cX10_house 0 = .ok (.aload_n 0, 1) := by decide +kernel
theorem dX10_house_1 : decode cX10_house 1 = .ok (.getfield 12, 3) := by decide +kernel
theorem dX10_house_4 : decode cX10_house 4 = .ok (.aload_n 0, 1) := by decide +kernel
theorem dX10_house_5 : decode cX10_house 5 = .ok (.getfield 35, 3) := by decide +kernel
theorem dX10_house_8 : decode cX10_house 8 = .ok (.invokevirtual 65, 3) := by decide +kernel
theorem dX10_house_11 : decode cX10_house 11 = .ok (.istore_n 1, 1) := by decide +kernel
theorem dX10_house_12 : decode cX10_house 12 = .ok (.aload_n 0, 1) := by decide +kernel
theorem dX10_house_13 : decode cX10_house 13 = .ok (.getfield 20, 3) := by decide +kernel
theorem dX10_house_16 : decode cX10_house 16 = .ok (.iconst 0, 1) := by decide +kernel
theorem dX10_house_17 : decode cX10_house 17 = .ok (.putfield 61, 3) := by decide +kernel
theorem dX10_house_20 : decode cX10_house 20 = .ok (.iload_n 1, 1) := by decide +kernel
theorem dX10_house_21 : decode cX10_house 21 = .ok (.ifCond .ne 25, 3) := by decide +kernel
theorem dX10_house_24 : decode cX10_house 24 = .ok (.aload_n 0, 1) := by decide +kernel
theorem dX10_house_25 : decode cX10_house 25 = .ok (.aload_n 0, 1) := by decide +kernel
theorem dX10_house_26 : decode cX10_house 26 = .ok (.getfield 12, 3) := by decide +kernel
theorem dX10_house_29 : decode cX10_house 29 = .ok (.getfield 69, 3) := by decide +kernel
theorem dX10_house_32 : decode cX10_house 32 = .ok (.putfield 46, 3) := by decide +kernel
theorem dX10_house_35 : decode cX10_house 35 = .ok (.ldc 72, 2) := by decide +kernel
theorem dX10_house_37 : decode cX10_house 37 = .ok (.aload_n 0, 1) := by decide +kernel
theorem dX10_house_38 : decode cX10_house 38 = .ok (.getfield 12, 3) := by decide +kernel
theorem dX10_house_41 : decode cX10_house 41 = .ok (.getfield 73, 3) := by decide +kernel
theorem dX10_house_44 : decode cX10_house 44 = .ok (.isub, 1) := by decide +kernel
theorem dX10_house_45 : decode cX10_house 45 = .ok (.ireturn, 1) := by decide +kernel
theorem dX10_house_46 : decode cX10_house 46 = .ok (.aload_n 0, 1) := by decide +kernel
theorem dX10_house_47 : decode cX10_house 47 = .ok (.getfield 31, 3) := by decide +kernel
theorem dX10_house_50 : decode cX10_house 50 = .ok (.aload_n 0, 1) := by decide +kernel
theorem dX10_house_51 : decode cX10_house 51 = .ok (.getfield 35, 3) := by decide +kernel
theorem dX10_house_54 : decode cX10_house 54 = .ok (.invokevirtual 76, 3) := by decide +kernel
theorem dX10_house_57 : decode cX10_house 57 = .ok (.aload_n 0, 1) := by decide +kernel
theorem dX10_house_58 : decode cX10_house 58 = .ok (.iconst 1, 1) := by decide +kernel
theorem dX10_house_59 : decode cX10_house 59 = .ok (.putfield 42, 3) := by decide +kernel
theorem dX10_house_62 : decode cX10_house 62 = .ok (.aload_n 0, 1) := by decide +kernel
theorem dX10_house_63 : decode cX10_house 63 = .ok (.getfield 24, 3) := by decide +kernel
theorem dX10_house_66 : decode cX10_house 66 = .ok (.invokevirtual 80, 3) := by decide +kernel
theorem dX10_house_69 : decode cX10_house 69 = .ok (.aload_n 0, 1) := by decide +kernel
theorem dX10_house_70 : decode cX10_house 70 = .ok (.getfield 31, 3) := by decide +kernel
theorem dX10_house_73 : decode cX10_house 73 = .ok (.getfield 83, 3) := by decide +kernel
theorem dX10_house_76 : decode cX10_house 76 = .ok (.iconst 1, 1) := by decide +kernel
theorem dX10_house_77 : decode cX10_house 77 = .ok (.invokevirtual 89, 3) := by decide +kernel
theorem dX10_house_80 : decode cX10_house 80 = .ok (.ireturn, 1) := by decide +kernel
theorem dX10_fault_0 : decode cX10_fault 0 = .ok (.aload_n 0, 1) := by decide +kernel
theorem dX10_fault_1 : decode cX10_fault 1 = .ok (.getfield 46, 3) := by decide +kernel
theorem dX10_fault_4 : decode cX10_fault 4 = .ok (.ireturn, 1) := by decide +kernel
set_option maxRecDepth 20000 in
theorem ggX10_undo_X0_takeBack : GoodIn wsX10_undo wsX0_takeBack := goodIn_r _ [9, 10, 11, 12, 13, 14, 15, 16, 17, 18, 19, 20, 21, 22, 23, 24, 25, 26, 27, 28, 29, 30, 31, 32, 33, 34, 35, 36, 37, 38, 39, 40, 41, 42, 43, 44, 45, 46, 47, 48, 49, 50, 51, 52, 53, 54, 55, 56, 57, 58, 59, 60, 61, 62, 63, 64, 65, 66, 67, 68, 69, 70, 79, 80, 81, 82, 83, 84, 85, 86, 87, 88, 89, 90, 91, 92, 93, 94, 95, 96, 97, 98, 99, 100, 101, 102, 103, 104, 105, 106, 107] (by decide +kernel) (by decide +kernel)
set_option maxRecDepth 20000 in
theorem gX10_undo_X0_takeBack : GoodIn wsX10_undo (wsV RX10 93 RX0 yX0_takeBack wsX0_takeBack) := goodIn_app (goodIn_of _ (by decide +kernel)) ggX10_undo_X0_takeBack
theorem dX10_undo_0 : decode cX10_undo 0 = .ok (.aload_n 0, 1) := by decide +kernel
theorem dX10_undo_1 : decode cX10_undo 1 = .ok (.getfield 24, 3) := by decide +kernel
theorem dX10_undo_4 : decode cX10_undo 4 = .ok (.aload_n 0, 1) := by decide +kernel
theorem dX10_undo_5 : decode cX10_undo 5 = .ok (.getfield 31, 3) := by decide +kernel
theorem dX10_undo_8 : decode cX10_undo 8 = .ok (.invokevirtual 93, 3) := by decide +kernel
theorem dX10_undo_11 : decode cX10_undo 11 = .ok (.ifCond .eq 13, 3) := by decide +kernel
theorem dX10_undo_14 : decode cX10_undo 14 = .ok (.aload_n 0, 1) := by decide +kernel
theorem dX10_undo_15 : decode cX10_undo 15 = .ok (.getfield 24, 3) := by decide +kernel
theorem dX10_undo_18 : decode cX10_undo 18 = .ok (.getfield 96, 3) := by decide +kernel
theorem dX10_undo_21 : decode cX10_undo 21 = .ok (.goto 5, 3) := by decide +kernel
theorem dX10_undo_24 : decode cX10_undo 24 = .ok (.ldc 99, 2) := by decide +kernel
theorem dX10_undo_26 : decode cX10_undo 26 = .ok (.ireturn, 1) := by decide +kernel
set_option maxRecDepth 20000 in
theorem ggX10_create_X10_isFile : GoodIn wsX10_create wsX10_isFile := goodIn_r _ [10, 11, 12, 9, 13] (by decide +kernel) (by decide +kernel)
set_option maxRecDepth 20000 in
theorem gX10_create_X10_isFile : GoodIn wsX10_create (va_wsS RX10 100 yX10_isFile wsX10_isFile) := goodIn_app (goodIn_of _ (by decide +kernel)) ggX10_create_X10_isFile
set_option maxRecDepth 20000 in
theorem ggX10_create_X10_isKindOfFiles : GoodIn wsX10_create wsX10_isKindOfFiles := goodIn_r _ [16, 17, 18, 19, 20, 21] (by decide +kernel) (by decide +kernel)
set_option maxRecDepth 20000 in
theorem gX10_create_X10_isKindOfFiles : GoodIn wsX10_create (va_wsS RX10 103 yX10_isKindOfFiles wsX10_isKindOfFiles) := goodIn_app (goodIn_of _ (by decide +kernel)) ggX10_create_X10_isKindOfFiles
set_option maxRecDepth 20000 in
theorem ggX10_create_X3_is : GoodIn wsX10_create wsX3_is := goodIn_r _ [26, 27, 8, 9, 10, 11, 12, 13, 154, 155, 156, 157, 158] (by decide +kernel) (by decide +kernel)
set_option maxRecDepth 20000 in
theorem gX10_create_X3_is : GoodIn wsX10_create (wsV RX10 106 RX3 yX3_is wsX3_is) := goodIn_app (goodIn_of _ (by decide +kernel)) ggX10_create_X3_is
set_option maxRecDepth 20000 in
theorem ggX10_create_X0_keep : GoodIn wsX10_create wsX0_keep := goodIn_r _ [32, 33, 34, 35, 36, 37, 38, 39, 40, 41, 42, 43, 44, 45, 46, 47, 48, 49, 50, 51, 52, 53, 54, 55, 56, 57, 58, 59, 60, 61, 62, 63, 64, 65, 66, 25, 67, 68, 69, 70, 71, 72, 73, 74, 75, 76, 77, 78, 79, 80, 81, 82, 83, 84, 85, 86, 87, 88, 89, 90, 91, 92, 93, 94, 95, 96, 97, 27, 98, 99, 100, 101, 102, 103, 104, 105, 106, 107, 108, 109, 110, 111, 112, 113, 114, 115, 116, 117, 118, 119, 120, 121, 122, 123, 124, 125, 126, 127, 128, 159, 160, 161, 145, 146, 147, 148, 149, 150, 151, 152, 153, 162, 163, 164, 165, 166, 167, 168, 169, 170, 171, 172, 173, 154, 155, 156, 157, 158] (by decide +kernel) (by decide +kernel)
set_option maxRecDepth 20000 in
theorem gX10_create_X0_keep : GoodIn wsX10_create (wsV RX10 110 RX0 yX0_keep wsX0_keep) := goodIn_app (goodIn_of _ (by decide +kernel)) ggX10_create_X0_keep
set_option maxRecDepth 20000 in
theorem ggX10_create_X3_begin : GoodIn wsX10_create wsX3_begin := goodIn_r _ [132, 27, 98, 100, 8, 9, 10, 11, 12, 13, 154, 155, 156, 157, 158] (by decide +kernel) (by decide +kernel)
set_option maxRecDepth 20000 in
theorem gX10_create_X3_begin : GoodIn wsX10_create (wsV RX10 113 RX3 yX3_begin wsX3_begin) := goodIn_app (goodIn_of _ (by decide +kernel)) ggX10_create_X3_begin
set_option maxRecDepth 20000 in
theorem ggX10_create_X3_manyOf : GoodIn wsX10_create wsX3_manyOf := goodIn_r _ [136, 27, 154, 155, 156, 157, 158] (by decide +kernel) (by decide +kernel)
set_option maxRecDepth 20000 in
theorem gX10_create_X3_manyOf : GoodIn wsX10_create (wsV RX10 89 RX3 yX3_manyOf wsX3_manyOf) := goodIn_app (goodIn_of _ (by decide +kernel)) ggX10_create_X3_manyOf
theorem dX10_create_0 : decode cX10_create 0 = .ok (.aload_n 0, 1) := by decide +kernel
theorem dX10_create_1 : decode cX10_create 1 = .ok (.getfield 42, 3) := by decide +kernel
theorem dX10_create_4 : decode cX10_create 4 = .ok (.ifCond .ne 6, 3) := by decide +kernel
theorem dX10_create_7 : decode cX10_create 7 = .ok (.ldc 99, 2) := by decide +kernel
theorem dX10_create_9 : decode cX10_create 9 = .ok (.ireturn, 1) := by decide +kernel
theorem dX10_create_10 : decode cX10_create 10 = .ok (.iload_n 1, 1) := by decide +kernel
theorem dX10_create_11 : decode cX10_create 11 = .ok (.invokestatic 100, 3) := by decide +kernel
theorem dX10_create_14 : decode cX10_create 14 = .ok (.ifCond .eq 10, 3) := by decide +kernel
theorem dX10_create_17 : decode cX10_create 17 = .ok (.iload_n 2, 1) := by decide +kernel
theorem dX10_create_18 : decode cX10_create 18 = .ok (.invokestatic 103, 3) := by decide +kernel
theorem dX10_create_21 : decode cX10_create 21 = .ok (.ifCond .ne 6, 3) := by decide +kernel
theorem dX10_create_24 : decode cX10_create 24 = .ok (.ldc 54, 2) := by decide +kernel
theorem dX10_create_26 : decode cX10_create 26 = .ok (.ireturn, 1) := by decide +kernel
theorem dX10_create_27 : decode cX10_create 27 = .ok (.aload_n 0, 1) := by decide +kernel
theorem dX10_create_28 : decode cX10_create 28 = .ok (.getfield 31, 3) := by decide +kernel
theorem dX10_create_31 : decode cX10_create 31 = .ok (.getfield 83, 3) := by decide +kernel
theorem dX10_create_34 : decode cX10_create 34 = .ok (.iload_n 1, 1) := by decide +kernel
theorem dX10_create_35 : decode cX10_create 35 = .ok (.iconst 0, 1) := by decide +kernel
theorem dX10_create_36 : decode cX10_create 36 = .ok (.invokevirtual 106, 3) := by decide +kernel
theorem dX10_create_39 : decode cX10_create 39 = .ok (.ifCond .ne 6, 3) := by decide +kernel
theorem dX10_create_42 : decode cX10_create 42 = .ok (.ldc 99, 2) := by decide +kernel
theorem dX10_create_44 : decode cX10_create 44 = .ok (.ireturn, 1) := by decide +kernel
theorem dX10_create_45 : decode cX10_create 45 = .ok (.aload_n 0, 1) := by decide +kernel
theorem dX10_create_46 : decode cX10_create 46 = .ok (.getfield 24, 3) := by decide +kernel
theorem dX10_create_49 : decode cX10_create 49 = .ok (.aload_n 0, 1) := by decide +kernel
theorem dX10_create_50 : decode cX10_create 50 = .ok (.getfield 31, 3) := by decide +kernel
theorem dX10_create_53 : decode cX10_create 53 = .ok (.invokevirtual 110, 3) := by decide +kernel
theorem dX10_create_56 : decode cX10_create 56 = .ok (.aload_n 0, 1) := by decide +kernel
theorem dX10_create_57 : decode cX10_create 57 = .ok (.getfield 31, 3) := by decide +kernel
theorem dX10_create_60 : decode cX10_create 60 = .ok (.getfield 83, 3) := by decide +kernel
theorem dX10_create_63 : decode cX10_create 63 = .ok (.iload_n 1, 1) := by decide +kernel
theorem dX10_create_64 : decode cX10_create 64 = .ok (.iload_n 2, 1) := by decide +kernel
theorem dX10_create_65 : decode cX10_create 65 = .ok (.invokevirtual 113, 3) := by decide +kernel
theorem dX10_create_68 : decode cX10_create 68 = .ok (.aload_n 0, 1) := by decide +kernel
theorem dX10_create_69 : decode cX10_create 69 = .ok (.getfield 31, 3) := by decide +kernel
theorem dX10_create_72 : decode cX10_create 72 = .ok (.getfield 83, 3) := by decide +kernel
theorem dX10_create_75 : decode cX10_create 75 = .ok (.iconst 1, 1) := by decide +kernel
theorem dX10_create_76 : decode cX10_create 76 = .ok (.invokevirtual 89, 3) := by decide +kernel
theorem dX10_create_79 : decode cX10_create 79 = .ok (.ireturn, 1) := by decide +kernel
set_option maxRecDepth 20000 in
theorem ggX10_append_X10_takeRecord : GoodIn wsX10_append wsX10_takeRecord := goodIn_r _ [9, 3, 10, 11, 12, 13, 14, 15, 16, 17, 18, 8, 19, 20, 21, 22, 344, 345, 346, 347, 348, 349, 350, 351, 352, 353] (by decide +kernel) (by decide +kernel)
set_option maxRecDepth 20000 in
theorem gX10_append_X10_takeRecord : GoodIn wsX10_append (wsV RX10 117 RX10 yX10_takeRecord wsX10_takeRecord) := goodIn_app (goodIn_of _ (by decide +kernel)) ggX10_append_X10_takeRecord
set_option maxRecDepth 20000 in
theorem ggX10_append_X10_refusalOfRecord : GoodIn wsX10_append wsX10_refusalOfRecord := goodIn_r _ [26, 2, 27, 28, 29, 20, 21, 8, 22, 30, 31, 32, 33, 34, 35, 36, 37, 38, 39, 40, 41, 42, 43, 44, 344, 345, 346, 347, 348, 349, 350, 351, 354, 355, 356, 357, 358, 359, 360, 361, 362, 363, 364, 365, 366, 367] (by decide +kernel) (by decide +kernel)
set_option maxRecDepth 20000 in
theorem gX10_append_X10_refusalOfRecord : GoodIn wsX10_append (wsV RX10 121 RX10 yX10_refusalOfRecord wsX10_refusalOfRecord) := goodIn_app (goodIn_of _ (by decide +kernel)) ggX10_append_X10_refusalOfRecord
set_option maxRecDepth 20000 in
theorem ggX10_append_X0_keep : GoodIn wsX10_append wsX0_keep := goodIn_r _ [49, 50, 51, 52, 53, 54, 55, 56, 57, 58, 59, 60, 61, 62, 63, 64, 65, 66, 67, 68, 69, 70, 71, 72, 73, 74, 75, 76, 77, 78, 79, 80, 81, 82, 83, 42, 84, 85, 86, 87, 88, 89, 90, 91, 92, 93, 94, 95, 96, 97, 98, 99, 100, 101, 102, 103, 104, 105, 106, 107, 108, 109, 110, 111, 112, 113, 114, 44, 115, 116, 117, 118, 119, 120, 121, 122, 123, 124, 125, 126, 127, 128, 129, 130, 131, 132, 133, 134, 135, 136, 137, 138, 139, 140, 141, 142, 143, 144, 145, 368, 369, 370, 354, 355, 356, 357, 358, 359, 360, 361, 362, 371, 372, 373, 374, 375, 376, 377, 378, 379, 380, 381, 382, 363, 364, 365, 366, 367] (by decide +kernel) (by decide +kernel)
set_option maxRecDepth 20000 in
theorem gX10_append_X0_keep : GoodIn wsX10_append (wsV RX10 110 RX0 yX0_keep wsX0_keep) := goodIn_app (goodIn_of _ (by decide +kernel)) ggX10_append_X0_keep
set_option maxRecDepth 20000 in
theorem ggX10_append_X5_addRecord : GoodIn wsX10_append wsX5_addRecord := goodIn_r _ [149, 84, 150, 151, 66, 152, 153, 154, 155, 42, 156, 117, 37, 8, 38, 20, 21, 22, 157, 158, 159, 160, 118, 161, 162, 163, 54, 164, 77, 165, 166, 73, 167, 81, 168, 169, 170, 76, 171, 96, 172, 173, 174, 175, 176, 177, 178, 179, 180, 181, 182, 183, 184, 65, 185, 186, 187, 188, 189, 190, 191, 192, 193, 194, 195, 196, 197, 198, 199, 200, 201, 202, 203, 204, 205, 80, 206, 105, 207, 208, 209, 72, 210, 88, 91, 211, 212, 213, 214, 97, 98, 215, 216, 217, 218, 219, 99, 100, 220, 221, 222, 223, 224, 225, 226, 227, 228, 229, 230, 231, 232, 107, 233, 234, 235, 236, 237, 238, 239, 106, 240, 241, 242, 243, 244, 245, 246, 247, 248, 249, 250, 251, 252, 253, 254, 255, 256, 257, 258, 259, 260, 261, 262, 263, 264, 265, 266, 267, 268, 269, 270, 271, 272, 273, 274, 275, 276, 277, 278, 279, 280, 281, 282, 283, 284, 285, 286, 287, 288, 289, 290, 291, 292, 293, 294, 295, 296, 69, 297, 298, 299, 300, 301, 89, 302, 303, 304, 305, 306, 307, 308, 309, 310, 311, 312, 313, 67, 314, 315, 316, 317, 318, 319, 320, 58, 321, 322, 323, 324, 325, 326, 327, 328, 329, 330, 331, 332, 333, 334, 335, 336, 337, 338, 92, 339, 340, 341, 342, 343, 354, 355, 356, 357, 358, 359, 360, 361, 362, 363, 364, 365, 366, 367, 371, 372, 373, 374, 375, 376, 377, 378, 379, 380, 381, 382] (by decide +kernel) (by decide +kernel)
set_option maxRecDepth 20000 in
theorem gX10_append_X5_addRecord : GoodIn wsX10_append (wsV RX10 129 RX5 yX5_addRecord wsX5_addRecord) := goodIn_app (goodIn_of _ (by decide +kernel)) ggX10_append_X5_addRecord
theorem dX10_append_0 : decode cX10_append 0 = .ok (.aload_n 0, 1) := by decide +kernel
theorem dX10_append_1 : decode cX10_append 1 = .ok (.invokevirtual 117, 3) := by decide +kernel
theorem dX10_append_4 : decode cX10_append 4 = .ok (.istore_n 2, 1) := by decide +kernel
theorem dX10_append_5 : decode cX10_append 5 = .ok (.aload_n 0, 1) := by decide +kernel
theorem dX10_append_6 : decode cX10_append 6 = .ok (.iload_n 1, 1) := by decide +kernel
theorem dX10_append_7 : decode cX10_append 7 = .ok (.iload_n 2, 1) := by decide +kernel
theorem dX10_append_8 : decode cX10_append 8 = .ok (.invokevirtual 121, 3) := by decide +kernel
theorem dX10_append_11 : decode cX10_append 11 = .ok (.istore_n 3, 1) := by decide +kernel
theorem dX10_append_12 : decode cX10_append 12 = .ok (.iload_n 3, 1) := by decide +kernel
theorem dX10_append_13 : decode cX10_append 13 = .ok (.ifCond .eq 5, 3) := by decide +kernel
theorem dX10_append_16 : decode cX10_append 16 = .ok (.iload_n 3, 1) := by decide +kernel
theorem dX10_append_17 : decode cX10_append 17 = .ok (.ireturn, 1) := by decide +kernel
theorem dX10_append_18 : decode cX10_append 18 = .ok (.aload_n 0, 1) := by decide +kernel
theorem dX10_append_19 : decode cX10_append 19 = .ok (.getfield 24, 3) := by decide +kernel
theorem dX10_append_22 : decode cX10_append 22 = .ok (.aload_n 0, 1) := by decide +kernel
theorem dX10_append_23 : decode cX10_append 23 = .ok (.getfield 31, 3) := by decide +kernel
theorem dX10_append_26 : decode cX10_append 26 = .ok (.invokevirtual 110, 3) := by decide +kernel
theorem dX10_append_29 : decode cX10_append 29 = .ok (.aload_n 0, 1) := by decide +kernel
theorem dX10_append_30 : decode cX10_append 30 = .ok (.getfield 31, 3) := by decide +kernel
theorem dX10_append_33 : decode cX10_append 33 = .ok (.iload_n 1, 1) := by decide +kernel
theorem dX10_append_34 : decode cX10_append 34 = .ok (.aload_n 0, 1) := by decide +kernel
theorem dX10_append_35 : decode cX10_append 35 = .ok (.getfield 20, 3) := by decide +kernel
theorem dX10_append_38 : decode cX10_append 38 = .ok (.getfield 125, 3) := by decide +kernel
theorem dX10_append_41 : decode cX10_append 41 = .ok (.iload_n 2, 1) := by decide +kernel
theorem dX10_append_42 : decode cX10_append 42 = .ok (.invokevirtual 129, 3) := by decide +kernel
theorem dX10_append_45 : decode cX10_append 45 = .ok (.ireturn, 1) := by decide +kernel
set_option maxRecDepth 20000 in
theorem ggX10_put_X10_isFile : GoodIn wsX10_put wsX10_isFile := goodIn_r _ [11, 12, 13, 10, 14] (by decide +kernel) (by decide +kernel)
set_option maxRecDepth 20000 in
theorem gX10_put_X10_isFile : GoodIn wsX10_put (va_wsS RX10 100 yX10_isFile wsX10_isFile) := goodIn_app (goodIn_of _ (by decide +kernel)) ggX10_put_X10_isFile
set_option maxRecDepth 20000 in
theorem ggX10_put_X3_is : GoodIn wsX10_put wsX3_is := goodIn_r _ [19, 20, 9, 10, 11, 12, 13, 14, 294, 295, 296, 297, 298] (by decide +kernel) (by decide +kernel)
set_option maxRecDepth 20000 in
theorem gX10_put_X3_is : GoodIn wsX10_put (wsV RX10 106 RX3 yX3_is wsX3_is) := goodIn_app (goodIn_of _ (by decide +kernel)) ggX10_put_X3_is
set_option maxRecDepth 20000 in
theorem ggX10_put_X6_isOne : GoodIn wsX10_put wsX6_isOne := goodIn_r _ [24, 25, 26, 27, 23, 28] (by decide +kernel) (by decide +kernel)
set_option maxRecDepth 20000 in
theorem gX10_put_X6_isOne : GoodIn wsX10_put (va_wsS RX10 138 yX6_isOne wsX6_isOne) := goodIn_app (goodIn_of _ (by decide +kernel)) ggX10_put_X6_isOne
set_option maxRecDepth 20000 in
theorem ggX10_put_X5_hasCell : GoodIn wsX10_put wsX5_hasCell := goodIn_r _ [33, 34, 35, 36, 9, 10, 11, 12, 13, 14, 285, 286, 287, 288, 289, 290, 291, 292, 293, 294, 295, 296, 297, 298] (by decide +kernel) (by decide +kernel)
set_option maxRecDepth 20000 in
theorem gX10_put_X5_hasCell : GoodIn wsX10_put (wsV RX10 141 RX5 yX5_hasCell wsX5_hasCell) := goodIn_app (goodIn_of _ (by decide +kernel)) ggX10_put_X5_hasCell
set_option maxRecDepth 20000 in
theorem ggX10_put_X10_isLetter : GoodIn wsX10_put wsX10_isLetter := goodIn_r _ [39, 12, 13, 10, 14] (by decide +kernel) (by decide +kernel)
set_option maxRecDepth 20000 in
theorem gX10_put_X10_isLetter : GoodIn wsX10_put (va_wsS RX10 144 yX10_isLetter wsX10_isLetter) := goodIn_app (goodIn_of _ (by decide +kernel)) ggX10_put_X10_isLetter
set_option maxRecDepth 20000 in
theorem ggX10_put_X0_keep : GoodIn wsX10_put wsX0_keep := goodIn_r _ [44, 45, 46, 47, 48, 32, 49, 50, 51, 52, 53, 54, 55, 56, 57, 58, 59, 34, 60, 61, 62, 63, 64, 65, 66, 67, 68, 69, 70, 71, 72, 73, 74, 75, 76, 18, 35, 77, 78, 79, 80, 81, 82, 83, 84, 85, 86, 87, 88, 89, 90, 91, 92, 93, 94, 95, 96, 97, 98, 99, 100, 101, 102, 103, 104, 105, 106, 20, 107, 108, 109, 110, 111, 112, 113, 114, 115, 116, 117, 118, 119, 120, 121, 122, 123, 124, 125, 126, 127, 128, 129, 130, 131, 132, 133, 134, 135, 136, 137, 299, 300, 301, 285, 286, 287, 288, 289, 290, 291, 292, 293, 302, 303, 304, 305, 306, 307, 308, 309, 310, 311, 312, 313, 294, 295, 296, 297, 298] (by decide +kernel) (by decide +kernel)
set_option maxRecDepth 20000 in
theorem gX10_put_X0_keep : GoodIn wsX10_put (wsV RX10 110 RX0 yX0_keep wsX0_keep) := goodIn_app (goodIn_of _ (by decide +kernel)) ggX10_put_X0_keep
set_option maxRecDepth 20000 in
theorem ggX10_put_X5_tellCell : GoodIn wsX10_put wsX5_tellCell := goodIn_r _ [141, 35, 142, 66, 143, 144, 145, 146, 32, 147, 34, 148, 149, 150, 151, 70, 152, 74, 153, 154, 155, 18, 156, 109, 110, 9, 10, 11, 12, 13, 14, 157, 158, 159, 69, 160, 90, 161, 162, 163, 164, 88, 165, 166, 167, 168, 169, 170, 171, 172, 173, 174, 175, 176, 177, 178, 179, 180, 181, 182, 73, 183, 97, 184, 185, 186, 187, 188, 189, 190, 89, 191, 192, 193, 194, 195, 91, 92, 196, 197, 198, 199, 200, 201, 202, 203, 204, 205, 99, 206, 207, 208, 209, 210, 211, 212, 213, 214, 98, 215, 216, 217, 218, 219, 220, 221, 222, 223, 224, 225, 226, 227, 228, 229, 230, 231, 232, 233, 234, 235, 236, 237, 62, 60, 238, 239, 240, 241, 242, 243, 244, 245, 246, 247, 248, 249, 250, 251, 252, 253, 65, 254, 80, 83, 255, 256, 257, 258, 259, 260, 261, 262, 263, 264, 52, 265, 266, 267, 268, 269, 84, 270, 271, 272, 273, 274, 275, 276, 285, 286, 287, 288, 289, 290, 291, 292, 293, 302, 303, 304, 305, 294, 295, 296, 297, 298, 306, 307, 308, 309, 310, 311, 312, 313] (by decide +kernel) (by decide +kernel)
set_option maxRecDepth 20000 in
theorem gX10_put_X5_tellCell : GoodIn wsX10_put (wsV RX10 147 RX5 yX5_tellCell wsX5_tellCell) := goodIn_app (goodIn_of _ (by decide +kernel)) ggX10_put_X5_tellCell
theorem dX10_put_0 : decode cX10_put 0 = .ok (.aload_n 0, 1) := by decide +kernel
theorem dX10_put_1 : decode cX10_put 1 = .ok (.getfield 42, 3) := by decide +kernel
theorem dX10_put_4 : decode cX10_put 4 = .ok (.ifCond .ne 6, 3) := by decide +kernel
theorem dX10_put_7 : decode cX10_put 7 = .ok (.ldc 99, 2) := by decide +kernel
theorem dX10_put_9 : decode cX10_put 9 = .ok (.ireturn, 1) := by decide +kernel
theorem dX10_put_10 : decode cX10_put 10 = .ok (.iload_n 1, 1) := by decide +kernel
theorem dX10_put_11 : decode cX10_put 11 = .ok (.invokestatic 100, 3) := by decide +kernel
theorem dX10_put_14 : decode cX10_put 14 = .ok (.ifCond .ne 6, 3) := by decide +kernel
theorem dX10_put_17 : decode cX10_put 17 = .ok (.ldc 54, 2) := by decide +kernel
theorem dX10_put_19 : decode cX10_put 19 = .ok (.ireturn, 1) := by decide +kernel
theorem dX10_put_20 : decode cX10_put 20 = .ok (.aload_n 0, 1) := by decide +kernel
theorem dX10_put_21 : decode cX10_put 21 = .ok (.getfield 31, 3) := by decide +kernel
theorem dX10_put_24 : decode cX10_put 24 = .ok (.getfield 83, 3) := by decide +kernel
theorem dX10_put_27 : decode cX10_put 27 = .ok (.iload_n 1, 1) := by decide +kernel
theorem dX10_put_28 : decode cX10_put 28 = .ok (.iconst 1, 1) := by decide +kernel
theorem dX10_put_29 : decode cX10_put 29 = .ok (.invokevirtual 106, 3) := by decide +kernel
theorem dX10_put_32 : decode cX10_put 32 = .ok (.ifCond .eq 22, 3) := by decide +kernel
theorem dX10_put_35 : decode cX10_put 35 = .ok (.aload_n 0, 1) := by decide +kernel
theorem dX10_put_36 : decode cX10_put 36 = .ok (.getfield 31, 3) := by decide +kernel
theorem dX10_put_39 : decode cX10_put 39 = .ok (.getfield 83, 3) := by decide +kernel
theorem dX10_put_42 : decode cX10_put 42 = .ok (.getfield 133, 3) := by decide +kernel
theorem dX10_put_45 : decode cX10_put 45 = .ok (.iload_n 1, 1) := by decide +kernel
theorem dX10_put_46 : decode cX10_put 46 = .ok (.iaload, 1) := by decide +kernel
theorem dX10_put_47 : decode cX10_put 47 = .ok (.iconst 2, 1) := by decide +kernel
theorem dX10_put_48 : decode cX10_put 48 = .ok (.invokestatic 138, 3) := by decide +kernel
theorem dX10_put_51 : decode cX10_put 51 = .ok (.ifCond .eq 6, 3) := by decide +kernel
theorem dX10_put_54 : decode cX10_put 54 = .ok (.ldc 99, 2) := by decide +kernel
theorem dX10_put_56 : decode cX10_put 56 = .ok (.ireturn, 1) := by decide +kernel
theorem dX10_put_57 : decode cX10_put 57 = .ok (.aload_n 0, 1) := by decide +kernel
theorem dX10_put_58 : decode cX10_put 58 = .ok (.getfield 31, 3) := by decide +kernel
theorem dX10_put_61 : decode cX10_put 61 = .ok (.iload_n 1, 1) := by decide +kernel
theorem dX10_put_62 : decode cX10_put 62 = .ok (.iload_n 2, 1) := by decide +kernel
theorem dX10_put_63 : decode cX10_put 63 = .ok (.invokevirtual 141, 3) := by decide +kernel
theorem dX10_put_66 : decode cX10_put 66 = .ok (.ifCond .eq 10, 3) := by decide +kernel
theorem dX10_put_69 : decode cX10_put 69 = .ok (.iload_n 3, 1) := by decide +kernel
theorem dX10_put_70 : decode cX10_put 70 = .ok (.invokestatic 144, 3) := by decide +kernel
theorem dX10_put_73 : decode cX10_put 73 = .ok (.ifCond .ne 6, 3) := by decide +kernel
theorem dX10_put_76 : decode cX10_put 76 = .ok (.ldc 54, 2) := by decide +kernel
theorem dX10_put_78 : decode cX10_put 78 = .ok (.ireturn, 1) := by decide +kernel
theorem dX10_put_79 : decode cX10_put 79 = .ok (.aload_n 0, 1) := by decide +kernel
theorem dX10_put_80 : decode cX10_put 80 = .ok (.getfield 24, 3) := by decide +kernel
theorem dX10_put_83 : decode cX10_put 83 = .ok (.aload_n 0, 1) := by decide +kernel
theorem dX10_put_84 : decode cX10_put 84 = .ok (.getfield 31, 3) := by decide +kernel
theorem dX10_put_87 : decode cX10_put 87 = .ok (.invokevirtual 110, 3) := by decide +kernel
theorem dX10_put_90 : decode cX10_put 90 = .ok (.aload_n 0, 1) := by decide +kernel
theorem dX10_put_91 : decode cX10_put 91 = .ok (.getfield 31, 3) := by decide +kernel
theorem dX10_put_94 : decode cX10_put 94 = .ok (.iload_n 1, 1) := by decide +kernel
theorem dX10_put_95 : decode cX10_put 95 = .ok (.iload_n 2, 1) := by decide +kernel
theorem dX10_put_96 : decode cX10_put 96 = .ok (.iload_n 3, 1) := by decide +kernel
theorem dX10_put_97 : decode cX10_put 97 = .ok (.invokevirtual 147, 3) := by decide +kernel
theorem dX10_put_100 : decode cX10_put 100 = .ok (.ireturn, 1) := by decide +kernel
set_option maxRecDepth 20000 in
theorem ggX10_both_X10_isFile : GoodIn wsX10_both wsX10_isFile := goodIn_r _ [10, 11, 12, 9, 13] (by decide +kernel) (by decide +kernel)
set_option maxRecDepth 20000 in
theorem gX10_both_X10_isFile : GoodIn wsX10_both (va_wsS RX10 100 yX10_isFile wsX10_isFile) := goodIn_app (goodIn_of _ (by decide +kernel)) ggX10_both_X10_isFile
set_option maxRecDepth 20000 in
theorem ggX10_both_X3_is : GoodIn wsX10_both wsX3_is := goodIn_r _ [18, 19, 8, 9, 10, 11, 12, 13, 172, 173, 174, 175, 176] (by decide +kernel) (by decide +kernel)
set_option maxRecDepth 20000 in
theorem gX10_both_X3_is : GoodIn wsX10_both (wsV RX10 106 RX3 yX3_is wsX3_is) := goodIn_app (goodIn_of _ (by decide +kernel)) ggX10_both_X3_is
set_option maxRecDepth 20000 in
theorem ggX10_both_X0_keep : GoodIn wsX10_both wsX0_keep := goodIn_r _ [24, 25, 26, 27, 28, 29, 30, 31, 32, 33, 34, 35, 36, 37, 38, 39, 40, 41, 42, 43, 44, 45, 46, 47, 48, 49, 50, 51, 52, 53, 54, 55, 56, 57, 58, 17, 59, 60, 61, 62, 63, 64, 65, 66, 67, 68, 69, 70, 71, 72, 73, 74, 75, 76, 77, 78, 79, 80, 81, 82, 83, 84, 85, 86, 87, 88, 89, 19, 90, 91, 92, 93, 94, 95, 96, 97, 98, 99, 100, 101, 102, 103, 104, 105, 106, 107, 108, 109, 110, 111, 112, 113, 114, 115, 116, 117, 118, 119, 120, 177, 178, 179, 163, 164, 165, 166, 167, 168, 169, 170, 171, 180, 181, 182, 183, 184, 185, 186, 187, 188, 189, 190, 191, 172, 173, 174, 175, 176] (by decide +kernel) (by decide +kernel)
set_option maxRecDepth 20000 in
theorem gX10_both_X0_keep : GoodIn wsX10_both (wsV RX10 110 RX0 yX0_keep wsX0_keep) := goodIn_app (goodIn_of _ (by decide +kernel)) ggX10_both_X0_keep
set_option maxRecDepth 20000 in
theorem ggX10_both_X5_shareFile : GoodIn wsX10_both wsX5_shareFile := goodIn_r _ [124, 59, 125, 52, 126, 8, 9, 10, 11, 12, 13, 127, 128, 129, 17, 130, 19, 90, 92, 131, 132, 133, 134, 93, 135, 136, 137, 138, 139, 140, 141, 142, 143, 144, 145, 51, 146, 73, 147, 148, 149, 150, 71, 151, 152, 153, 154, 74, 75, 163, 164, 165, 166, 167, 168, 169, 170, 171, 172, 173, 174, 175, 176, 184, 185, 186, 187, 188] (by decide +kernel) (by decide +kernel)
set_option maxRecDepth 20000 in
theorem gX10_both_X5_shareFile : GoodIn wsX10_both (wsV RX10 151 RX5 yX5_shareFile wsX5_shareFile) := goodIn_app (goodIn_of _ (by decide +kernel)) ggX10_both_X5_shareFile
theorem dX10_both_0 : decode cX10_both 0 = .ok (.aload_n 0, 1) := by decide +kernel
theorem dX10_both_1 : decode cX10_both 1 = .ok (.getfield 42, 3) := by decide +kernel
theorem dX10_both_4 : decode cX10_both 4 = .ok (.ifCond .ne 6, 3) := by decide +kernel
theorem dX10_both_7 : decode cX10_both 7 = .ok (.ldc 99, 2) := by decide +kernel
theorem dX10_both_9 : decode cX10_both 9 = .ok (.ireturn, 1) := by decide +kernel
theorem dX10_both_10 : decode cX10_both 10 = .ok (.iload_n 1, 1) := by decide +kernel
theorem dX10_both_11 : decode cX10_both 11 = .ok (.invokestatic 100, 3) := by decide +kernel
theorem dX10_both_14 : decode cX10_both 14 = .ok (.ifCond .eq 10, 3) := by decide +kernel
theorem dX10_both_17 : decode cX10_both 17 = .ok (.iload_n 2, 1) := by decide +kernel
theorem dX10_both_18 : decode cX10_both 18 = .ok (.invokestatic 100, 3) := by decide +kernel
theorem dX10_both_21 : decode cX10_both 21 = .ok (.ifCond .ne 6, 3) := by decide +kernel
theorem dX10_both_24 : decode cX10_both 24 = .ok (.ldc 54, 2) := by decide +kernel
theorem dX10_both_26 : decode cX10_both 26 = .ok (.ireturn, 1) := by decide +kernel
theorem dX10_both_27 : decode cX10_both 27 = .ok (.aload_n 0, 1) := by decide +kernel
theorem dX10_both_28 : decode cX10_both 28 = .ok (.getfield 31, 3) := by decide +kernel
theorem dX10_both_31 : decode cX10_both 31 = .ok (.getfield 83, 3) := by decide +kernel
theorem dX10_both_34 : decode cX10_both 34 = .ok (.iload_n 1, 1) := by decide +kernel
theorem dX10_both_35 : decode cX10_both 35 = .ok (.iconst 1, 1) := by decide +kernel
theorem dX10_both_36 : decode cX10_both 36 = .ok (.invokevirtual 106, 3) := by decide +kernel
theorem dX10_both_39 : decode cX10_both 39 = .ok (.ifCond .eq 18, 3) := by decide +kernel
theorem dX10_both_42 : decode cX10_both 42 = .ok (.aload_n 0, 1) := by decide +kernel
theorem dX10_both_43 : decode cX10_both 43 = .ok (.getfield 31, 3) := by decide +kernel
theorem dX10_both_46 : decode cX10_both 46 = .ok (.getfield 83, 3) := by decide +kernel
theorem dX10_both_49 : decode cX10_both 49 = .ok (.iload_n 2, 1) := by decide +kernel
theorem dX10_both_50 : decode cX10_both 50 = .ok (.iconst 0, 1) := by decide +kernel
theorem dX10_both_51 : decode cX10_both 51 = .ok (.invokevirtual 106, 3) := by decide +kernel
theorem dX10_both_54 : decode cX10_both 54 = .ok (.ifCond .ne 6, 3) := by decide +kernel
theorem dX10_both_57 : decode cX10_both 57 = .ok (.ldc 99, 2) := by decide +kernel
theorem dX10_both_59 : decode cX10_both 59 = .ok (.ireturn, 1) := by decide +kernel
theorem dX10_both_60 : decode cX10_both 60 = .ok (.aload_n 0, 1) := by decide +kernel
theorem dX10_both_61 : decode cX10_both 61 = .ok (.getfield 24, 3) := by decide +kernel
theorem dX10_both_64 : decode cX10_both 64 = .ok (.aload_n 0, 1) := by decide +kernel
theorem dX10_both_65 : decode cX10_both 65 = .ok (.getfield 31, 3) := by decide +kernel
theorem dX10_both_68 : decode cX10_both 68 = .ok (.invokevirtual 110, 3) := by decide +kernel
theorem dX10_both_71 : decode cX10_both 71 = .ok (.aload_n 0, 1) := by decide +kernel
theorem dX10_both_72 : decode cX10_both 72 = .ok (.getfield 31, 3) := by decide +kernel
theorem dX10_both_75 : decode cX10_both 75 = .ok (.iload_n 1, 1) := by decide +kernel
theorem dX10_both_76 : decode cX10_both 76 = .ok (.iload_n 2, 1) := by decide +kernel
theorem dX10_both_77 : decode cX10_both 77 = .ok (.invokevirtual 151, 3) := by decide +kernel
theorem dX10_both_80 : decode cX10_both 80 = .ok (.ireturn, 1) := by decide +kernel
set_option maxRecDepth 20000 in
theorem ggX10_remove_X10_refusalOfFile : GoodIn wsX10_remove wsX10_refusalOfFile := goodIn_r _ [7, 8, 9, 10, 2, 11, 12, 13, 6, 14, 15, 16, 17, 18, 19, 20, 21, 22, 23, 166, 167, 168, 169, 170, 171, 172, 173, 174, 175, 176, 177, 178, 179, 180, 181, 182, 183, 184, 185, 186, 187] (by decide +kernel) (by decide +kernel)
set_option maxRecDepth 20000 in
theorem gX10_remove_X10_refusalOfFile : GoodIn wsX10_remove (wsV RX10 154 RX10 yX10_refusalOfFile wsX10_refusalOfFile) := goodIn_app (goodIn_of _ (by decide +kernel)) ggX10_remove_X10_refusalOfFile
set_option maxRecDepth 20000 in
theorem ggX10_remove_X0_keep : GoodIn wsX10_remove wsX0_keep := goodIn_r _ [28, 29, 30, 31, 32, 33, 34, 35, 36, 37, 38, 39, 40, 41, 42, 43, 44, 45, 46, 47, 48, 49, 50, 51, 52, 53, 54, 55, 56, 57, 58, 59, 60, 61, 62, 21, 63, 64, 65, 66, 67, 68, 69, 70, 71, 72, 73, 74, 75, 76, 77, 78, 79, 80, 81, 82, 83, 84, 85, 86, 87, 88, 89, 90, 91, 92, 93, 23, 94, 95, 96, 97, 98, 99, 100, 101, 102, 103, 104, 105, 106, 107, 108, 109, 110, 111, 112, 113, 114, 115, 116, 117, 118, 119, 120, 121, 122, 123, 124, 188, 189, 190, 174, 175, 176, 177, 178, 179, 180, 181, 182, 191, 192, 193, 194, 195, 196, 197, 198, 199, 200, 201, 202, 183, 184, 185, 186, 187] (by decide +kernel) (by decide +kernel)
set_option maxRecDepth 20000 in
theorem gX10_remove_X0_keep : GoodIn wsX10_remove (wsV RX10 110 RX0 yX0_keep wsX0_keep) := goodIn_app (goodIn_of _ (by decide +kernel)) ggX10_remove_X0_keep
set_option maxRecDepth 20000 in
theorem ggX10_remove_X5_takeAway : GoodIn wsX10_remove wsX5_takeAway := goodIn_r _ [128, 48, 63, 129, 130, 131, 33, 132, 133, 47, 13, 6, 14, 15, 16, 17, 134, 135, 136, 137, 138, 139, 140, 141, 142, 143, 144, 145, 56, 146, 147, 148, 21, 149, 96, 97, 150, 151, 152, 55, 153, 77, 154, 155, 156, 157, 75, 158, 159, 160, 161, 23, 162, 163, 164, 165, 95, 174, 175, 176, 177, 178, 179, 180, 181, 182, 183, 184, 185, 186, 187, 195, 196, 197, 198, 199] (by decide +kernel) (by decide +kernel)
set_option maxRecDepth 20000 in
theorem gX10_remove_X5_takeAway : GoodIn wsX10_remove (wsV RX10 157 RX5 yX5_takeAway wsX5_takeAway) := goodIn_app (goodIn_of _ (by decide +kernel)) ggX10_remove_X5_takeAway
theorem dX10_remove_0 : decode cX10_remove 0 = .ok (.aload_n 0, 1) := by decide +kernel
theorem dX10_remove_1 : decode cX10_remove 1 = .ok (.iload_n 1, 1) := by decide +kernel
theorem dX10_remove_2 : decode cX10_remove 2 = .ok (.invokevirtual 154, 3) := by decide +kernel
theorem dX10_remove_5 : decode cX10_remove 5 = .ok (.istore_n 2, 1) := by decide +kernel
theorem dX10_remove_6 : decode cX10_remove 6 = .ok (.iload_n 2, 1) := by decide +kernel
theorem dX10_remove_7 : decode cX10_remove 7 = .ok (.ifCond .eq 5, 3) := by decide +kernel
theorem dX10_remove_10 : decode cX10_remove 10 = .ok (.iload_n 2, 1) := by decide +kernel
theorem dX10_remove_11 : decode cX10_remove 11 = .ok (.ireturn, 1) := by decide +kernel
theorem dX10_remove_12 : decode cX10_remove 12 = .ok (.aload_n 0, 1) := by decide +kernel
theorem dX10_remove_13 : decode cX10_remove 13 = .ok (.getfield 24, 3) := by decide +kernel
theorem dX10_remove_16 : decode cX10_remove 16 = .ok (.aload_n 0, 1) := by decide +kernel
theorem dX10_remove_17 : decode cX10_remove 17 = .ok (.getfield 31, 3) := by decide +kernel
theorem dX10_remove_20 : decode cX10_remove 20 = .ok (.invokevirtual 110, 3) := by decide +kernel
theorem dX10_remove_23 : decode cX10_remove 23 = .ok (.aload_n 0, 1) := by decide +kernel
theorem dX10_remove_24 : decode cX10_remove 24 = .ok (.getfield 31, 3) := by decide +kernel
theorem dX10_remove_27 : decode cX10_remove 27 = .ok (.iload_n 1, 1) := by decide +kernel
theorem dX10_remove_28 : decode cX10_remove 28 = .ok (.invokevirtual 157, 3) := by decide +kernel
theorem dX10_remove_31 : decode cX10_remove 31 = .ok (.ireturn, 1) := by decide +kernel
set_option maxRecDepth 20000 in
theorem ggX10_bring_X10_isFile : GoodIn wsX10_bring wsX10_isFile := goodIn_r _ [10, 11, 12, 9, 13] (by decide +kernel) (by decide +kernel)
set_option maxRecDepth 20000 in
theorem gX10_bring_X10_isFile : GoodIn wsX10_bring (va_wsS RX10 100 yX10_isFile wsX10_isFile) := goodIn_app (goodIn_of _ (by decide +kernel)) ggX10_bring_X10_isFile
set_option maxRecDepth 20000 in
theorem ggX10_bring_X3_is : GoodIn wsX10_bring wsX3_is := goodIn_r _ [18, 19, 8, 9, 10, 11, 12, 13, 143, 144, 145, 146, 147] (by decide +kernel) (by decide +kernel)
set_option maxRecDepth 20000 in
theorem gX10_bring_X3_is : GoodIn wsX10_bring (wsV RX10 106 RX3 yX3_is wsX3_is) := goodIn_app (goodIn_of _ (by decide +kernel)) ggX10_bring_X3_is
set_option maxRecDepth 20000 in
theorem ggX10_bring_X0_keep : GoodIn wsX10_bring wsX0_keep := goodIn_r _ [24, 25, 26, 27, 28, 29, 30, 31, 32, 33, 34, 35, 36, 37, 38, 39, 40, 41, 42, 43, 44, 45, 46, 47, 48, 49, 50, 51, 52, 53, 54, 55, 56, 57, 58, 17, 59, 60, 61, 62, 63, 64, 65, 66, 67, 68, 69, 70, 71, 72, 73, 74, 75, 76, 77, 78, 79, 80, 81, 82, 83, 84, 85, 86, 87, 88, 89, 19, 90, 91, 92, 93, 94, 95, 96, 97, 98, 99, 100, 101, 102, 103, 104, 105, 106, 107, 108, 109, 110, 111, 112, 113, 114, 115, 116, 117, 118, 119, 120, 148, 149, 150, 134, 135, 136, 137, 138, 139, 140, 141, 142, 151, 152, 153, 154, 155, 156, 157, 158, 159, 160, 161, 162, 143, 144, 145, 146, 147] (by decide +kernel) (by decide +kernel)
set_option maxRecDepth 20000 in
theorem gX10_bring_X0_keep : GoodIn wsX10_bring (wsV RX10 110 RX0 yX0_keep wsX0_keep) := goodIn_app (goodIn_of _ (by decide +kernel)) ggX10_bring_X0_keep
set_option maxRecDepth 20000 in
theorem ggX10_bring_X3_showAgain : GoodIn wsX10_bring wsX3_showAgain := goodIn_r _ [124, 125, 19, 91, 8, 9, 10, 11, 12, 13, 143, 144, 145, 146, 147] (by decide +kernel) (by decide +kernel)
set_option maxRecDepth 20000 in
theorem gX10_bring_X3_showAgain : GoodIn wsX10_bring (wsV RX10 160 RX3 yX3_showAgain wsX3_showAgain) := goodIn_app (goodIn_of _ (by decide +kernel)) ggX10_bring_X3_showAgain
theorem dX10_bring_0 : decode cX10_bring 0 = .ok (.aload_n 0, 1) := by decide +kernel
theorem dX10_bring_1 : decode cX10_bring 1 = .ok (.getfield 42, 3) := by decide +kernel
theorem dX10_bring_4 : decode cX10_bring 4 = .ok (.ifCond .ne 6, 3) := by decide +kernel
theorem dX10_bring_7 : decode cX10_bring 7 = .ok (.ldc 99, 2) := by decide +kernel
theorem dX10_bring_9 : decode cX10_bring 9 = .ok (.ireturn, 1) := by decide +kernel
theorem dX10_bring_10 : decode cX10_bring 10 = .ok (.iload_n 1, 1) := by decide +kernel
theorem dX10_bring_11 : decode cX10_bring 11 = .ok (.invokestatic 100, 3) := by decide +kernel
theorem dX10_bring_14 : decode cX10_bring 14 = .ok (.ifCond .ne 6, 3) := by decide +kernel
theorem dX10_bring_17 : decode cX10_bring 17 = .ok (.ldc 54, 2) := by decide +kernel
theorem dX10_bring_19 : decode cX10_bring 19 = .ok (.ireturn, 1) := by decide +kernel
theorem dX10_bring_20 : decode cX10_bring 20 = .ok (.aload_n 0, 1) := by decide +kernel
theorem dX10_bring_21 : decode cX10_bring 21 = .ok (.getfield 31, 3) := by decide +kernel
theorem dX10_bring_24 : decode cX10_bring 24 = .ok (.getfield 83, 3) := by decide +kernel
theorem dX10_bring_27 : decode cX10_bring 27 = .ok (.iload_n 1, 1) := by decide +kernel
theorem dX10_bring_28 : decode cX10_bring 28 = .ok (.iconst 2, 1) := by decide +kernel
theorem dX10_bring_29 : decode cX10_bring 29 = .ok (.invokevirtual 106, 3) := by decide +kernel
theorem dX10_bring_32 : decode cX10_bring 32 = .ok (.ifCond .ne 6, 3) := by decide +kernel
theorem dX10_bring_35 : decode cX10_bring 35 = .ok (.ldc 99, 2) := by decide +kernel
theorem dX10_bring_37 : decode cX10_bring 37 = .ok (.ireturn, 1) := by decide +kernel
theorem dX10_bring_38 : decode cX10_bring 38 = .ok (.aload_n 0, 1) := by decide +kernel
theorem dX10_bring_39 : decode cX10_bring 39 = .ok (.getfield 24, 3) := by decide +kernel
theorem dX10_bring_42 : decode cX10_bring 42 = .ok (.aload_n 0, 1) := by decide +kernel
theorem dX10_bring_43 : decode cX10_bring 43 = .ok (.getfield 31, 3) := by decide +kernel
theorem dX10_bring_46 : decode cX10_bring 46 = .ok (.invokevirtual 110, 3) := by decide +kernel
theorem dX10_bring_49 : decode cX10_bring 49 = .ok (.aload_n 0, 1) := by decide +kernel
theorem dX10_bring_50 : decode cX10_bring 50 = .ok (.getfield 31, 3) := by decide +kernel
theorem dX10_bring_53 : decode cX10_bring 53 = .ok (.getfield 83, 3) := by decide +kernel
theorem dX10_bring_56 : decode cX10_bring 56 = .ok (.iload_n 1, 1) := by decide +kernel
theorem dX10_bring_57 : decode cX10_bring 57 = .ok (.invokevirtual 160, 3) := by decide +kernel
theorem dX10_bring_60 : decode cX10_bring 60 = .ok (.ireturn, 1) := by decide +kernel
set_option maxRecDepth 20000 in
theorem ggX10_tick_X10_within : GoodIn wsX10_tick wsX10_within := goodIn_r _ [9] (by decide +kernel) (by decide +kernel)
set_option maxRecDepth 20000 in
theorem gX10_tick_X10_within : GoodIn wsX10_tick (va_wsS RX10 50 yX10_within wsX10_within) := goodIn_app (goodIn_of _ (by decide +kernel)) ggX10_tick_X10_within
set_option maxRecDepth 20000 in
theorem ggX10_tick_X0_keep : GoodIn wsX10_tick wsX0_keep := goodIn_r _ [14, 15, 16, 17, 18, 19, 20, 21, 22, 23, 24, 25, 26, 27, 28, 29, 30, 31, 32, 33, 34, 35, 36, 37, 38, 39, 40, 41, 42, 43, 44, 45, 46, 47, 48, 49, 50, 51, 52, 53, 54, 55, 56, 57, 58, 59, 60, 61, 62, 63, 64, 65, 66, 67, 68, 69, 70, 71, 72, 73, 74, 75, 76, 77, 78, 79, 80, 81, 82, 83, 84, 85, 86, 87, 88, 89, 90, 91, 92, 93, 94, 95, 96, 97, 98, 99, 100, 101, 102, 103, 104, 105, 106, 107, 108, 109, 110, 111, 112, 165, 166, 167, 168, 169, 170, 171, 172, 173, 174, 175, 176, 177, 178, 179, 180, 181, 182, 183, 184, 185, 186, 187, 188, 189, 190, 191, 192, 193] (by decide +kernel) (by decide +kernel)
set_option maxRecDepth 20000 in
theorem gX10_tick_X0_keep : GoodIn wsX10_tick (wsV RX10 110 RX0 yX0_keep wsX0_keep) := goodIn_app (goodIn_of _ (by decide +kernel)) ggX10_tick_X0_keep
set_option maxRecDepth 20000 in
theorem ggX10_tick_X5_comeOn : GoodIn wsX10_tick wsX5_comeOn := goodIn_r _ [116, 34, 50, 117, 118, 119, 120, 49, 121, 81, 122, 8, 123, 6, 7, 9, 124, 125, 126, 19, 127, 128, 33, 129, 130, 131, 132, 133, 134, 135, 136, 137, 138, 139, 140, 42, 141, 142, 143, 144, 84, 85, 145, 146, 147, 41, 148, 64, 149, 150, 151, 152, 62, 153, 154, 155, 156, 168, 169, 170, 171, 172, 173, 174, 175, 176, 189, 190, 191, 192, 193, 181, 182, 183, 184, 185] (by decide +kernel) (by decide +kernel)
set_option maxRecDepth 20000 in
theorem gX10_tick_X5_comeOn : GoodIn wsX10_tick (wsV RX10 163 RX5 yX5_comeOn wsX5_comeOn) := goodIn_app (goodIn_of _ (by decide +kernel)) ggX10_tick_X5_comeOn
theorem dX10_tick_0 : decode cX10_tick 0 = .ok (.aload_n 0, 1) := by decide +kernel
theorem dX10_tick_1 : decode cX10_tick 1 = .ok (.getfield 42, 3) := by decide +kernel
theorem dX10_tick_4 : decode cX10_tick 4 = .ok (.ifCond .ne 6, 3) := by decide +kernel
theorem dX10_tick_7 : decode cX10_tick 7 = .ok (.ldc 99, 2) := by decide +kernel
theorem dX10_tick_9 : decode cX10_tick 9 = .ok (.ireturn, 1) := by decide +kernel
theorem dX10_tick_10 : decode cX10_tick 10 = .ok (.iload_n 1, 1) := by decide +kernel
theorem dX10_tick_11 : decode cX10_tick 11 = .ok (.iconst 1, 1) := by decide +kernel
theorem dX10_tick_12 : decode cX10_tick 12 = .ok (.bipush 50, 2) := by decide +kernel
theorem dX10_tick_14 : decode cX10_tick 14 = .ok (.invokestatic 50, 3) := by decide +kernel
theorem dX10_tick_17 : decode cX10_tick 17 = .ok (.ifCond .ne 6, 3) := by decide +kernel
theorem dX10_tick_20 : decode cX10_tick 20 = .ok (.ldc 54, 2) := by decide +kernel
theorem dX10_tick_22 : decode cX10_tick 22 = .ok (.ireturn, 1) := by decide +kernel
theorem dX10_tick_23 : decode cX10_tick 23 = .ok (.aload_n 0, 1) := by decide +kernel
theorem dX10_tick_24 : decode cX10_tick 24 = .ok (.getfield 24, 3) := by decide +kernel
theorem dX10_tick_27 : decode cX10_tick 27 = .ok (.aload_n 0, 1) := by decide +kernel
theorem dX10_tick_28 : decode cX10_tick 28 = .ok (.getfield 31, 3) := by decide +kernel
theorem dX10_tick_31 : decode cX10_tick 31 = .ok (.invokevirtual 110, 3) := by decide +kernel
theorem dX10_tick_34 : decode cX10_tick 34 = .ok (.aload_n 0, 1) := by decide +kernel
theorem dX10_tick_35 : decode cX10_tick 35 = .ok (.getfield 31, 3) := by decide +kernel
theorem dX10_tick_38 : decode cX10_tick 38 = .ok (.iload_n 1, 1) := by decide +kernel
theorem dX10_tick_39 : decode cX10_tick 39 = .ok (.invokevirtual 163, 3) := by decide +kernel
theorem dX10_tick_42 : decode cX10_tick 42 = .ok (.ireturn, 1) := by decide +kernel
set_option maxRecDepth 20000 in
theorem ggX10_down_X10_turn : GoodIn wsX10_down wsX10_turn := goodIn_r _ [5, 6, 7, 8, 9, 10, 11, 12, 13, 14, 15, 16, 17, 18, 19, 20, 21, 22, 23, 4, 24, 25, 26, 27, 28, 29, 30, 31, 32, 33, 34, 35, 36, 37, 38, 39, 40, 41, 42, 43, 44, 45, 46, 47, 48, 49, 50, 51, 52, 53, 54, 55, 56, 57, 58, 59, 60, 61, 62, 63, 64, 65, 66, 67, 68, 69, 70, 71, 72, 73, 74, 75, 76, 77, 78, 79, 80, 81, 82, 83, 84, 85, 86, 87, 88, 89, 90, 91, 92, 93, 94, 95, 96, 97, 98, 99, 100, 101, 102, 103, 104, 105, 106, 107, 108, 109, 110, 111, 112, 113, 114, 115, 116, 117, 118, 119, 120, 121, 122, 123, 124, 125, 126, 127, 128, 129, 130, 131, 132, 133, 134, 135, 136, 137, 138, 139, 140, 141, 142, 143, 144, 145, 146, 147, 148, 149, 150, 151, 152, 153, 154, 155, 156, 157, 158, 159, 160, 161, 162, 163, 164, 165, 166, 167, 168, 169, 170, 171, 172, 173, 174, 175, 176] (by decide +kernel) (by decide +kernel)
set_option maxRecDepth 20000 in
theorem gX10_down_X10_turn : GoodIn wsX10_down (wsV RX10 166 RX10 yX10_turn wsX10_turn) := goodIn_app (goodIn_of _ (by decide +kernel)) ggX10_down_X10_turn
theorem dX10_down_0 : decode cX10_down 0 = .ok (.aload_n 0, 1) := by decide +kernel
theorem dX10_down_1 : decode cX10_down 1 = .ok (.iload_n 1, 1) := by decide +kernel
theorem dX10_down_2 : decode cX10_down 2 = .ok (.iconst 1, 1) := by decide +kernel
theorem dX10_down_3 : decode cX10_down 3 = .ok (.iconst 0, 1) := by decide +kernel
theorem dX10_down_4 : decode cX10_down 4 = .ok (.invokevirtual 166, 3) := by decide +kernel
theorem dX10_down_7 : decode cX10_down 7 = .ok (.ireturn, 1) := by decide +kernel
set_option maxRecDepth 20000 in
theorem ggX10_up_X10_turn : GoodIn wsX10_up wsX10_turn := goodIn_r _ [5, 6, 7, 8, 9, 10, 11, 12, 13, 14, 15, 16, 17, 18, 19, 20, 21, 22, 23, 4, 24, 25, 26, 27, 28, 29, 30, 31, 32, 33, 34, 35, 36, 37, 38, 39, 40, 41, 42, 43, 44, 45, 46, 47, 48, 49, 50, 51, 52, 53, 54, 55, 56, 57, 58, 59, 60, 61, 62, 63, 64, 65, 66, 67, 68, 69, 70, 71, 72, 73, 74, 75, 76, 77, 78, 79, 80, 81, 82, 83, 84, 85, 86, 87, 88, 89, 90, 91, 92, 93, 94, 95, 96, 97, 98, 99, 100, 101, 102, 103, 104, 105, 106, 107, 108, 109, 110, 111, 112, 113, 114, 115, 116, 117, 118, 119, 120, 121, 122, 123, 124, 125, 126, 127, 128, 129, 130, 131, 132, 133, 134, 135, 136, 137, 138, 139, 140, 141, 142, 143, 144, 145, 146, 147, 148, 149, 150, 151, 152, 153, 154, 155, 156, 157, 158, 159, 160, 161, 162, 163, 164, 165, 166, 167, 168, 169, 170, 171, 172, 173, 174, 175, 176] (by decide +kernel) (by decide +kernel)
set_option maxRecDepth 20000 in
theorem gX10_up_X10_turn : GoodIn wsX10_up (wsV RX10 166 RX10 yX10_turn wsX10_turn) := goodIn_app (goodIn_of _ (by decide +kernel)) ggX10_up_X10_turn
theorem dX10_up_0 : decode cX10_up 0 = .ok (.aload_n 0, 1) := by decide +kernel
theorem dX10_up_1 : decode cX10_up 1 = .ok (.iload_n 1, 1) := by decide +kernel
theorem dX10_up_2 : decode cX10_up 2 = .ok (.iconst 0, 1) := by decide +kernel
theorem dX10_up_3 : decode cX10_up 3 = .ok (.iconst 1, 1) := by decide +kernel
theorem dX10_up_4 : decode cX10_up 4 = .ok (.invokevirtual 166, 3) := by decide +kernel
theorem dX10_up_7 : decode cX10_up 7 = .ok (.ireturn, 1) := by decide +kernel
set_option maxRecDepth 20000 in
theorem ggX10_spoil_X8_has : GoodIn wsX10_spoil wsX8_has := goodIn_r _ [10, 11, 134, 135, 136, 137] (by decide +kernel) (by decide +kernel)
set_option maxRecDepth 20000 in
theorem gX10_spoil_X8_has : GoodIn wsX10_spoil (wsV RX10 174 RX8 yX8_has wsX8_has) := goodIn_app (goodIn_of _ (by decide +kernel)) ggX10_spoil_X8_has
set_option maxRecDepth 20000 in
theorem ggX10_spoil_X10_within : GoodIn wsX10_spoil wsX10_within := goodIn_r _ [15] (by decide +kernel) (by decide +kernel)
set_option maxRecDepth 20000 in
theorem gX10_spoil_X10_within : GoodIn wsX10_spoil (va_wsS RX10 50 yX10_within wsX10_within) := goodIn_app (goodIn_of _ (by decide +kernel)) ggX10_spoil_X10_within
set_option maxRecDepth 20000 in
theorem ggX10_spoil_X0_keep : GoodIn wsX10_spoil wsX0_keep := goodIn_r _ [20, 21, 22, 23, 24, 25, 26, 27, 28, 29, 30, 31, 32, 33, 34, 35, 36, 37, 38, 39, 40, 41, 42, 9, 43, 44, 45, 46, 47, 48, 49, 50, 51, 52, 53, 54, 55, 56, 57, 58, 11, 59, 60, 61, 62, 63, 64, 65, 66, 67, 68, 69, 70, 71, 72, 73, 74, 75, 76, 77, 78, 79, 80, 81, 82, 83, 84, 85, 86, 87, 88, 89, 90, 91, 92, 93, 94, 95, 96, 97, 98, 99, 100, 101, 102, 103, 104, 105, 106, 107, 108, 109, 110, 111, 112, 113, 114, 115, 116, 138, 139, 140, 125, 126, 127, 128, 129, 130, 131, 132, 133, 134, 135, 136, 137, 141, 142, 143, 144, 145, 146, 147, 148, 149, 150, 151, 152, 153] (by decide +kernel) (by decide +kernel)
set_option maxRecDepth 20000 in
theorem gX10_spoil_X0_keep : GoodIn wsX10_spoil (wsV RX10 110 RX0 yX0_keep wsX0_keep) := goodIn_app (goodIn_of _ (by decide +kernel)) ggX10_spoil_X0_keep
theorem dX10_spoil_0 : decode cX10_spoil 0 = .ok (.aload_n 0, 1) := by decide +kernel
theorem dX10_spoil_1 : decode cX10_spoil 1 = .ok (.getfield 31, 3) := by decide +kernel
theorem dX10_spoil_4 : decode cX10_spoil 4 = .ok (.getfield 170, 3) := by decide +kernel
theorem dX10_spoil_7 : decode cX10_spoil 7 = .ok (.iload_n 1, 1) := by decide +kernel
theorem dX10_spoil_8 : decode cX10_spoil 8 = .ok (.invokevirtual 174, 3) := by decide +kernel
theorem dX10_spoil_11 : decode cX10_spoil 11 = .ok (.ifCond .eq 13, 3) := by decide +kernel
theorem dX10_spoil_14 : decode cX10_spoil 14 = .ok (.iload_n 2, 1) := by decide +kernel
theorem dX10_spoil_15 : decode cX10_spoil 15 = .ok (.iconst 0, 1) := by decide +kernel
theorem dX10_spoil_16 : decode cX10_spoil 16 = .ok (.bipush 9, 2) := by decide +kernel
theorem dX10_spoil_18 : decode cX10_spoil 18 = .ok (.invokestatic 50, 3) := by decide +kernel
theorem dX10_spoil_21 : decode cX10_spoil 21 = .ok (.ifCond .ne 6, 3) := by decide +kernel
theorem dX10_spoil_24 : decode cX10_spoil 24 = .ok (.ldc 54, 2) := by decide +kernel
theorem dX10_spoil_26 : decode cX10_spoil 26 = .ok (.ireturn, 1) := by decide +kernel
theorem dX10_spoil_27 : decode cX10_spoil 27 = .ok (.aload_n 0, 1) := by decide +kernel
theorem dX10_spoil_28 : decode cX10_spoil 28 = .ok (.getfield 24, 3) := by decide +kernel
theorem dX10_spoil_31 : decode cX10_spoil 31 = .ok (.aload_n 0, 1) := by decide +kernel
theorem dX10_spoil_32 : decode cX10_spoil 32 = .ok (.getfield 31, 3) := by decide +kernel
theorem dX10_spoil_35 : decode cX10_spoil 35 = .ok (.invokevirtual 110, 3) := by decide +kernel
theorem dX10_spoil_38 : decode cX10_spoil 38 = .ok (.aload_n 0, 1) := by decide +kernel
theorem dX10_spoil_39 : decode cX10_spoil 39 = .ok (.getfield 31, 3) := by decide +kernel
theorem dX10_spoil_42 : decode cX10_spoil 42 = .ok (.getfield 170, 3) := by decide +kernel
theorem dX10_spoil_45 : decode cX10_spoil 45 = .ok (.getfield 179, 3) := by decide +kernel
theorem dX10_spoil_48 : decode cX10_spoil 48 = .ok (.iload_n 1, 1) := by decide +kernel
theorem dX10_spoil_49 : decode cX10_spoil 49 = .ok (.iaload, 1) := by decide +kernel
theorem dX10_spoil_50 : decode cX10_spoil 50 = .ok (.istore_n 3, 1) := by decide +kernel
theorem dX10_spoil_51 : decode cX10_spoil 51 = .ok (.aload_n 0, 1) := by decide +kernel
theorem dX10_spoil_52 : decode cX10_spoil 52 = .ok (.getfield 31, 3) := by decide +kernel
theorem dX10_spoil_55 : decode cX10_spoil 55 = .ok (.getfield 170, 3) := by decide +kernel
theorem dX10_spoil_58 : decode cX10_spoil 58 = .ok (.getfield 179, 3) := by decide +kernel
theorem dX10_spoil_61 : decode cX10_spoil 61 = .ok (.iload_n 1, 1) := by decide +kernel
theorem dX10_spoil_62 : decode cX10_spoil 62 = .ok (.iload_n 2, 1) := by decide +kernel
theorem dX10_spoil_63 : decode cX10_spoil 63 = .ok (.iastore, 1) := by decide +kernel
theorem dX10_spoil_64 : decode cX10_spoil 64 = .ok (.iload_n 3, 1) := by decide +kernel
theorem dX10_spoil_65 : decode cX10_spoil 65 = .ok (.ireturn, 1) := by decide +kernel
set_option maxRecDepth 20000 in
theorem ggX10_beat_X8_has : GoodIn wsX10_beat wsX8_has := goodIn_r _ [10, 11, 181, 182, 183, 184] (by decide +kernel) (by decide +kernel)
set_option maxRecDepth 20000 in
theorem gX10_beat_X8_has : GoodIn wsX10_beat (wsV RX10 174 RX8 yX8_has wsX8_has) := goodIn_app (goodIn_of _ (by decide +kernel)) ggX10_beat_X8_has
set_option maxRecDepth 20000 in
theorem ggX10_beat_X8_hasUp : GoodIn wsX10_beat wsX8_hasUp := goodIn_r _ [15, 16, 17, 7, 8, 9, 10, 11, 18, 19, 20, 181, 182, 183, 184] (by decide +kernel) (by decide +kernel)
set_option maxRecDepth 20000 in
theorem gX10_beat_X8_hasUp : GoodIn wsX10_beat (wsV RX10 182 RX8 yX8_hasUp wsX8_hasUp) := goodIn_app (goodIn_of _ (by decide +kernel)) ggX10_beat_X8_hasUp
set_option maxRecDepth 20000 in
theorem ggX10_beat_X0_keep : GoodIn wsX10_beat wsX0_keep := goodIn_r _ [25, 26, 27, 28, 29, 30, 31, 32, 33, 34, 35, 36, 37, 38, 39, 40, 41, 42, 43, 44, 45, 46, 47, 9, 48, 49, 50, 51, 52, 53, 54, 55, 56, 57, 58, 59, 60, 61, 62, 63, 11, 16, 64, 65, 66, 67, 68, 69, 70, 71, 72, 73, 74, 75, 76, 77, 78, 79, 80, 81, 82, 83, 84, 85, 86, 87, 88, 89, 90, 91, 92, 93, 94, 95, 96, 97, 98, 99, 100, 101, 102, 103, 104, 105, 106, 107, 108, 109, 110, 111, 112, 113, 114, 115, 116, 117, 118, 119, 120, 185, 186, 187, 172, 173, 174, 175, 176, 177, 178, 179, 180, 181, 182, 183, 184, 188, 189, 190, 191, 192, 193, 194, 195, 196, 197, 198, 199, 200] (by decide +kernel) (by decide +kernel)
set_option maxRecDepth 20000 in
theorem gX10_beat_X0_keep : GoodIn wsX10_beat (wsV RX10 110 RX0 yX0_keep wsX0_keep) := goodIn_app (goodIn_of _ (by decide +kernel)) ggX10_beat_X0_keep
set_option maxRecDepth 20000 in
theorem ggX10_beat_X5_throwAway : GoodIn wsX10_beat wsX5_throwAway := goodIn_r _ [124, 52, 125, 56, 126, 127, 128, 30, 129, 130, 131, 132, 55, 133, 134, 135, 136, 137, 79, 138, 139, 140, 141, 142, 143, 144, 145, 146, 147, 148, 51, 149, 70, 150, 151, 152, 153, 154, 72, 155, 156, 157, 158, 159, 160, 161, 162, 163, 172, 173, 174, 175, 176, 177, 178, 179, 180, 188, 189, 190, 191, 192, 193, 194, 195] (by decide +kernel) (by decide +kernel)
set_option maxRecDepth 20000 in
theorem gX10_beat_X5_throwAway : GoodIn wsX10_beat (wsV RX10 185 RX5 yX5_throwAway wsX5_throwAway) := goodIn_app (goodIn_of _ (by decide +kernel)) ggX10_beat_X5_throwAway
theorem dX10_beat_0 : decode cX10_beat 0 = .ok (.aload_n 0, 1) := by decide +kernel
theorem dX10_beat_1 : decode cX10_beat 1 = .ok (.getfield 31, 3) := by decide +kernel
theorem dX10_beat_4 : decode cX10_beat 4 = .ok (.getfield 170, 3) := by decide +kernel
theorem dX10_beat_7 : decode cX10_beat 7 = .ok (.iload_n 1, 1) := by decide +kernel
theorem dX10_beat_8 : decode cX10_beat 8 = .ok (.invokevirtual 174, 3) := by decide +kernel
theorem dX10_beat_11 : decode cX10_beat 11 = .ok (.ifCond .ne 6, 3) := by decide +kernel
theorem dX10_beat_14 : decode cX10_beat 14 = .ok (.ldc 54, 2) := by decide +kernel
theorem dX10_beat_16 : decode cX10_beat 16 = .ok (.ireturn, 1) := by decide +kernel
theorem dX10_beat_17 : decode cX10_beat 17 = .ok (.aload_n 0, 1) := by decide +kernel
theorem dX10_beat_18 : decode cX10_beat 18 = .ok (.getfield 31, 3) := by decide +kernel
theorem dX10_beat_21 : decode cX10_beat 21 = .ok (.getfield 170, 3) := by decide +kernel
theorem dX10_beat_24 : decode cX10_beat 24 = .ok (.iload_n 1, 1) := by decide +kernel
theorem dX10_beat_25 : decode cX10_beat 25 = .ok (.invokevirtual 182, 3) := by decide +kernel
theorem dX10_beat_28 : decode cX10_beat 28 = .ok (.ifCond .ne 6, 3) := by decide +kernel
theorem dX10_beat_31 : decode cX10_beat 31 = .ok (.ldc 99, 2) := by decide +kernel
theorem dX10_beat_33 : decode cX10_beat 33 = .ok (.ireturn, 1) := by decide +kernel
theorem dX10_beat_34 : decode cX10_beat 34 = .ok (.aload_n 0, 1) := by decide +kernel
theorem dX10_beat_35 : decode cX10_beat 35 = .ok (.getfield 24, 3) := by decide +kernel
theorem dX10_beat_38 : decode cX10_beat 38 = .ok (.aload_n 0, 1) := by decide +kernel
theorem dX10_beat_39 : decode cX10_beat 39 = .ok (.getfield 31, 3) := by decide +kernel
theorem dX10_beat_42 : decode cX10_beat 42 = .ok (.invokevirtual 110, 3) := by decide +kernel
theorem dX10_beat_45 : decode cX10_beat 45 = .ok (.aload_n 0, 1) := by decide +kernel
theorem dX10_beat_46 : decode cX10_beat 46 = .ok (.getfield 31, 3) := by decide +kernel
theorem dX10_beat_49 : decode cX10_beat 49 = .ok (.iload_n 1, 1) := by decide +kernel
theorem dX10_beat_50 : decode cX10_beat 50 = .ok (.invokevirtual 185, 3) := by decide +kernel
theorem dX10_beat_53 : decode cX10_beat 53 = .ok (.ireturn, 1) := by decide +kernel
set_option maxRecDepth 20000 in
theorem ggX10_mend_X5_firstToMend : GoodIn wsX10_mend wsX5_firstToMend := goodIn_r _ [10, 11, 12, 13, 14, 15, 9, 16, 17, 18, 19, 20, 21, 22, 23, 24, 25, 26, 27, 28, 29, 30, 31, 32, 33, 34, 35, 36, 37, 38, 39, 40, 41, 42, 43, 44, 45, 46, 47, 48, 49, 50, 51, 52, 53, 54, 55, 56, 57, 58, 59, 60, 61, 62, 63, 64, 65, 66, 67, 68, 69, 70, 71, 72, 73, 74, 75, 76, 77, 78, 79, 80, 81, 82, 83, 84, 85, 86, 87, 88, 89, 90, 91, 92, 93, 94, 95, 96, 97, 245, 246, 247, 248, 249, 250, 251, 252, 253, 254, 255, 256, 257, 258, 259, 260, 261, 262, 263, 264, 265, 266, 267, 268, 269, 270] (by decide +kernel) (by decide +kernel)
set_option maxRecDepth 20000 in
theorem gX10_mend_X5_firstToMend : GoodIn wsX10_mend (wsV RX10 188 RX5 yX5_firstToMend wsX5_firstToMend) := goodIn_app (goodIn_of _ (by decide +kernel)) ggX10_mend_X5_firstToMend
set_option maxRecDepth 20000 in
theorem ggX10_mend_X0_keep : GoodIn wsX10_mend wsX0_keep := goodIn_r _ [102, 103, 104, 105, 106, 9, 107, 108, 109, 66, 110, 111, 112, 113, 114, 115, 89, 116, 117, 118, 119, 120, 121, 122, 17, 123, 124, 33, 11, 125, 126, 39, 29, 127, 128, 71, 62, 129, 130, 131, 132, 133, 134, 135, 136, 137, 138, 139, 35, 140, 49, 141, 142, 143, 144, 145, 146, 41, 147, 148, 149, 150, 151, 152, 153, 154, 155, 156, 157, 158, 77, 78, 159, 160, 161, 162, 163, 164, 165, 166, 167, 168, 169, 170, 171, 172, 173, 174, 175, 176, 177, 178, 179, 180, 181, 182, 183, 184, 185, 271, 272, 273, 245, 246, 247, 248, 249, 250, 251, 252, 253, 259, 260, 261, 262, 254, 255, 256, 257, 258, 263, 264, 265, 266, 267, 268, 269, 270] (by decide +kernel) (by decide +kernel)
set_option maxRecDepth 20000 in
theorem gX10_mend_X0_keep : GoodIn wsX10_mend (wsV RX10 110 RX0 yX0_keep wsX0_keep) := goodIn_app (goodIn_of _ (by decide +kernel)) ggX10_mend_X0_keep
set_option maxRecDepth 20000 in
theorem ggX10_mend_X5_addCopy : GoodIn wsX10_mend wsX5_addCopy := goodIn_r _ [189, 17, 18, 29, 19, 20, 21, 9, 22, 23, 24, 25, 26, 11, 27, 28, 30, 31, 32, 33, 34, 35, 36, 37, 38, 39, 40, 41, 42, 43, 44, 190, 191, 192, 193, 194, 80, 195, 196, 197, 198, 199, 200, 201, 202, 203, 204, 205, 206, 207, 208, 209, 210, 122, 211, 132, 135, 212, 213, 214, 215, 216, 217, 218, 219, 148, 220, 221, 222, 223, 224, 225, 226, 227, 228, 147, 229, 230, 231, 232, 233, 234, 235, 236, 245, 246, 247, 248, 249, 250, 251, 252, 253, 259, 260, 261, 262, 254, 255, 256, 257, 258, 263, 264, 265] (by decide +kernel) (by decide +kernel)
set_option maxRecDepth 20000 in
theorem gX10_mend_X5_addCopy : GoodIn wsX10_mend (wsV RX10 192 RX5 yX5_addCopy wsX5_addCopy) := goodIn_app (goodIn_of _ (by decide +kernel)) ggX10_mend_X5_addCopy
theorem dX10_mend_0 : decode cX10_mend 0 = .ok (.aload_n 0, 1) := by decide +kernel
theorem dX10_mend_1 : decode cX10_mend 1 = .ok (.getfield 42, 3) := by decide +kernel
theorem dX10_mend_4 : decode cX10_mend 4 = .ok (.ifCond .ne 6, 3) := by decide +kernel
theorem dX10_mend_7 : decode cX10_mend 7 = .ok (.ldc 99, 2) := by decide +kernel
theorem dX10_mend_9 : decode cX10_mend 9 = .ok (.ireturn, 1) := by decide +kernel
theorem dX10_mend_10 : decode cX10_mend 10 = .ok (.aload_n 0, 1) := by decide +kernel
theorem dX10_mend_11 : decode cX10_mend 11 = .ok (.getfield 31, 3) := by decide +kernel
theorem dX10_mend_14 : decode cX10_mend 14 = .ok (.invokevirtual 188, 3) := by decide +kernel
theorem dX10_mend_17 : decode cX10_mend 17 = .ok (.istore_n 1, 1) := by decide +kernel
theorem dX10_mend_18 : decode cX10_mend 18 = .ok (.iload_n 1, 1) := by decide +kernel
theorem dX10_mend_19 : decode cX10_mend 19 = .ok (.iconst (-1), 1) := by decide +kernel
theorem dX10_mend_20 : decode cX10_mend 20 = .ok (.if_icmp .ne 6, 3) := by decide +kernel
theorem dX10_mend_23 : decode cX10_mend 23 = .ok (.ldc 191, 2) := by decide +kernel
theorem dX10_mend_25 : decode cX10_mend 25 = .ok (.ireturn, 1) := by decide +kernel
theorem dX10_mend_26 : decode cX10_mend 26 = .ok (.aload_n 0, 1) := by decide +kernel
theorem dX10_mend_27 : decode cX10_mend 27 = .ok (.getfield 24, 3) := by decide +kernel
theorem dX10_mend_30 : decode cX10_mend 30 = .ok (.aload_n 0, 1) := by decide +kernel
theorem dX10_mend_31 : decode cX10_mend 31 = .ok (.getfield 31, 3) := by decide +kernel
theorem dX10_mend_34 : decode cX10_mend 34 = .ok (.invokevirtual 110, 3) := by decide +kernel
theorem dX10_mend_37 : decode cX10_mend 37 = .ok (.aload_n 0, 1) := by decide +kernel
theorem dX10_mend_38 : decode cX10_mend 38 = .ok (.getfield 31, 3) := by decide +kernel
theorem dX10_mend_41 : decode cX10_mend 41 = .ok (.iload_n 1, 1) := by decide +kernel
theorem dX10_mend_42 : decode cX10_mend 42 = .ok (.invokevirtual 192, 3) := by decide +kernel
theorem dX10_mend_45 : decode cX10_mend 45 = .ok (.iload_n 1, 1) := by decide +kernel
theorem dX10_mend_46 : decode cX10_mend 46 = .ok (.ireturn, 1) := by decide +kernel
set_option maxRecDepth 20000 in
theorem ggX10_server_X8_has : GoodIn wsX10_server wsX8_has := goodIn_r _ [11, 12, 102, 103, 104, 105] (by decide +kernel) (by decide +kernel)
set_option maxRecDepth 20000 in
theorem gX10_server_X8_has : GoodIn wsX10_server (wsV RX10 174 RX8 yX8_has wsX8_has) := goodIn_app (goodIn_of _ (by decide +kernel)) ggX10_server_X8_has
set_option maxRecDepth 20000 in
theorem ggX10_server_X8_hasUp : GoodIn wsX10_server wsX8_hasUp := goodIn_r _ [16, 17, 18, 8, 9, 10, 11, 12, 19, 20, 21, 102, 103, 104, 105] (by decide +kernel) (by decide +kernel)
set_option maxRecDepth 20000 in
theorem gX10_server_X8_hasUp : GoodIn wsX10_server (wsV RX10 182 RX8 yX8_hasUp wsX8_hasUp) := goodIn_app (goodIn_of _ (by decide +kernel)) ggX10_server_X8_hasUp
set_option maxRecDepth 20000 in
theorem ggX10_server_X8_roomOf : GoodIn wsX10_server wsX8_roomOf := goodIn_r _ [25, 12, 26, 102, 103, 104, 105] (by decide +kernel) (by decide +kernel)
set_option maxRecDepth 20000 in
theorem gX10_server_X8_roomOf : GoodIn wsX10_server (wsV RX10 196 RX8 yX8_roomOf wsX8_roomOf) := goodIn_app (goodIn_of _ (by decide +kernel)) ggX10_server_X8_roomOf
set_option maxRecDepth 20000 in
theorem ggX10_server_X2_manyAt : GoodIn wsX10_server wsX2_manyAt := goodIn_r _ [31, 32, 106, 107, 108] (by decide +kernel) (by decide +kernel)
set_option maxRecDepth 20000 in
theorem gX10_server_X2_manyAt : GoodIn wsX10_server (wsV RX10 203 RX2 yX2_manyAt wsX2_manyAt) := goodIn_app (goodIn_of _ (by decide +kernel)) ggX10_server_X2_manyAt
set_option maxRecDepth 20000 in
theorem ggX10_server_X5_staleAt : GoodIn wsX10_server wsX5_staleAt := goodIn_r _ [37, 38, 39, 40, 41, 42, 36, 43, 44, 45, 46, 47, 30, 48, 49, 50, 51, 52, 32, 53, 54, 55, 56, 57, 58, 59, 60, 61, 62, 63, 64, 65, 66, 67, 93, 94, 95, 96, 97, 98, 99, 100, 101, 109, 110, 111, 112, 113, 106, 107, 108] (by decide +kernel) (by decide +kernel)
set_option maxRecDepth 20000 in
theorem gX10_server_X5_staleAt : GoodIn wsX10_server (wsV RX10 208 RX5 yX5_staleAt wsX5_staleAt) := goodIn_app (goodIn_of _ (by decide +kernel)) ggX10_server_X5_staleAt
set_option maxRecDepth 20000 in
theorem ggX10_server_X5_forgottenAt : GoodIn wsX10_server wsX5_forgottenAt := goodIn_r _ [71, 38, 39, 44, 45, 46, 47, 30, 48, 49, 50, 51, 52, 32, 53, 54, 55, 72, 73, 74, 64, 75, 76, 77, 62, 63, 65, 66, 93, 94, 95, 96, 97, 98, 99, 100, 101, 109, 110, 111, 112, 113, 106, 107, 108] (by decide +kernel) (by decide +kernel)
set_option maxRecDepth 20000 in
theorem gX10_server_X5_forgottenAt : GoodIn wsX10_server (wsV RX10 211 RX5 yX5_forgottenAt wsX5_forgottenAt) := goodIn_app (goodIn_of _ (by decide +kernel)) ggX10_server_X5_forgottenAt
set_option maxRecDepth 20000 in
theorem ggX10_server_X5_load : GoodIn wsX10_server wsX5_load := goodIn_r _ [81, 44, 82, 83, 28, 29, 30, 31, 32, 84, 23, 24, 10, 25, 12, 26, 93, 94, 95, 96, 97, 98, 99, 100, 101, 106, 107, 108, 102, 103, 104, 105] (by decide +kernel) (by decide +kernel)
set_option maxRecDepth 20000 in
theorem gX10_server_X5_load : GoodIn wsX10_server (wsV RX10 214 RX5 yX5_load wsX5_load) := goodIn_app (goodIn_of _ (by decide +kernel)) ggX10_server_X5_load
theorem dX10_server_0 : decode cX10_server 0 = .ok (.aload_n 0, 1) := by decide +kernel
theorem dX10_server_1 : decode cX10_server 1 = .ok (.getfield 31, 3) := by decide +kernel
theorem dX10_server_4 : decode cX10_server 4 = .ok (.getfield 170, 3) := by decide +kernel
theorem dX10_server_7 : decode cX10_server 7 = .ok (.iload_n 1, 1) := by decide +kernel
theorem dX10_server_8 : decode cX10_server 8 = .ok (.invokevirtual 174, 3) := by decide +kernel
theorem dX10_server_11 : decode cX10_server 11 = .ok (.ifCond .ne 6, 3) := by decide +kernel
theorem dX10_server_14 : decode cX10_server 14 = .ok (.ldc 54, 2) := by decide +kernel
theorem dX10_server_16 : decode cX10_server 16 = .ok (.ireturn, 1) := by decide +kernel
theorem dX10_server_17 : decode cX10_server 17 = .ok (.iload_n 2, 1) := by decide +kernel
theorem dX10_server_18 : decode cX10_server 18 = .ok (.tableswitch 130 0 6 #[42, 62, 74, 86, 95, 104, 117], 42) := by decide +kernel
theorem dX10_server_60 : decode cX10_server 60 = .ok (.aload_n 0, 1) := by decide +kernel
theorem dX10_server_61 : decode cX10_server 61 = .ok (.getfield 31, 3) := by decide +kernel
theorem dX10_server_64 : decode cX10_server 64 = .ok (.getfield 170, 3) := by decide +kernel
theorem dX10_server_67 : decode cX10_server 67 = .ok (.iload_n 1, 1) := by decide +kernel
theorem dX10_server_68 : decode cX10_server 68 = .ok (.invokevirtual 182, 3) := by decide +kernel
theorem dX10_server_71 : decode cX10_server 71 = .ok (.ifCond .eq 7, 3) := by decide +kernel
theorem dX10_server_74 : decode cX10_server 74 = .ok (.iconst 1, 1) := by decide +kernel
theorem dX10_server_75 : decode cX10_server 75 = .ok (.goto 4, 3) := by decide +kernel
theorem dX10_server_78 : decode cX10_server 78 = .ok (.iconst 0, 1) := by decide +kernel
theorem dX10_server_79 : decode cX10_server 79 = .ok (.ireturn, 1) := by decide +kernel
theorem dX10_server_80 : decode cX10_server 80 = .ok (.aload_n 0, 1) := by decide +kernel
theorem dX10_server_81 : decode cX10_server 81 = .ok (.getfield 31, 3) := by decide +kernel
theorem dX10_server_84 : decode cX10_server 84 = .ok (.getfield 170, 3) := by decide +kernel
theorem dX10_server_87 : decode cX10_server 87 = .ok (.iload_n 1, 1) := by decide +kernel
theorem dX10_server_88 : decode cX10_server 88 = .ok (.invokevirtual 196, 3) := by decide +kernel
theorem dX10_server_91 : decode cX10_server 91 = .ok (.ireturn, 1) := by decide +kernel
theorem dX10_server_92 : decode cX10_server 92 = .ok (.aload_n 0, 1) := by decide +kernel
theorem dX10_server_93 : decode cX10_server 93 = .ok (.getfield 31, 3) := by decide +kernel
theorem dX10_server_96 : decode cX10_server 96 = .ok (.getfield 199, 3) := by decide +kernel
theorem dX10_server_99 : decode cX10_server 99 = .ok (.iload_n 1, 1) := by decide +kernel
theorem dX10_server_100 : decode cX10_server 100 = .ok (.invokevirtual 203, 3) := by decide +kernel
theorem dX10_server_103 : decode cX10_server 103 = .ok (.ireturn, 1) := by decide +kernel
theorem dX10_server_104 : decode cX10_server 104 = .ok (.aload_n 0, 1) := by decide +kernel
theorem dX10_server_105 : decode cX10_server 105 = .ok (.getfield 31, 3) := by decide +kernel
theorem dX10_server_108 : decode cX10_server 108 = .ok (.iload_n 1, 1) := by decide +kernel
theorem dX10_server_109 : decode cX10_server 109 = .ok (.invokevirtual 208, 3) := by decide +kernel
theorem dX10_server_112 : decode cX10_server 112 = .ok (.ireturn, 1) := by decide +kernel
theorem dX10_server_113 : decode cX10_server 113 = .ok (.aload_n 0, 1) := by decide +kernel
theorem dX10_server_114 : decode cX10_server 114 = .ok (.getfield 31, 3) := by decide +kernel
theorem dX10_server_117 : decode cX10_server 117 = .ok (.iload_n 1, 1) := by decide +kernel
theorem dX10_server_118 : decode cX10_server 118 = .ok (.invokevirtual 211, 3) := by decide +kernel
theorem dX10_server_121 : decode cX10_server 121 = .ok (.ireturn, 1) := by decide +kernel
theorem dX10_server_122 : decode cX10_server 122 = .ok (.aload_n 0, 1) := by decide +kernel
theorem dX10_server_123 : decode cX10_server 123 = .ok (.getfield 31, 3) := by decide +kernel
theorem dX10_server_126 : decode cX10_server 126 = .ok (.getfield 170, 3) := by decide +kernel
theorem dX10_server_129 : decode cX10_server 129 = .ok (.getfield 179, 3) := by decide +kernel
theorem dX10_server_132 : decode cX10_server 132 = .ok (.iload_n 1, 1) := by decide +kernel
theorem dX10_server_133 : decode cX10_server 133 = .ok (.iaload, 1) := by decide +kernel
theorem dX10_server_134 : decode cX10_server 134 = .ok (.ireturn, 1) := by decide +kernel
theorem dX10_server_135 : decode cX10_server 135 = .ok (.aload_n 0, 1) := by decide +kernel
theorem dX10_server_136 : decode cX10_server 136 = .ok (.getfield 31, 3) := by decide +kernel
theorem dX10_server_139 : decode cX10_server 139 = .ok (.iload_n 1, 1) := by decide +kernel
theorem dX10_server_140 : decode cX10_server 140 = .ok (.invokevirtual 214, 3) := by decide +kernel
theorem dX10_server_143 : decode cX10_server 143 = .ok (.ldc 218, 2) := by decide +kernel
theorem dX10_server_145 : decode cX10_server 145 = .ok (.fmul, 1) := by decide +kernel
theorem dX10_server_146 : decode cX10_server 146 = .ok (.f2i, 1) := by decide +kernel
theorem dX10_server_147 : decode cX10_server 147 = .ok (.ireturn, 1) := by decide +kernel
theorem dX10_server_148 : decode cX10_server 148 = .ok (.ldc 54, 2) := by decide +kernel
theorem dX10_server_150 : decode cX10_server 150 = .ok (.ireturn, 1) := by decide +kernel
set_option maxRecDepth 20000 in
theorem ggX10_chunk_X1_has : GoodIn wsX10_chunk wsX1_has := goodIn_r _ [13, 14, 96, 97, 98, 99, 100] (by decide +kernel) (by decide +kernel)
set_option maxRecDepth 20000 in
theorem gX10_chunk_X1_has : GoodIn wsX10_chunk (wsV RX10 223 RX1 yX1_has wsX1_has) := goodIn_app (goodIn_of _ (by decide +kernel)) ggX10_chunk_X1_has
set_option maxRecDepth 20000 in
theorem ggX10_chunk_X5_leaseHolds : GoodIn wsX10_chunk wsX5_leaseHolds := goodIn_r _ [19, 20, 21, 22, 23, 24, 25, 10, 11, 12, 13, 14, 26, 27, 28, 29, 30, 31, 32, 33, 34, 35, 36, 37, 38, 39, 40, 41, 42, 18, 43, 44, 45, 46, 47, 48, 49, 50, 51, 52, 53, 54, 87, 88, 89, 90, 91, 92, 93, 94, 95, 96, 97, 98, 99, 100, 101, 102, 103, 104, 105, 106, 107] (by decide +kernel) (by decide +kernel)
set_option maxRecDepth 20000 in
theorem gX10_chunk_X5_leaseHolds : GoodIn wsX10_chunk (wsV RX10 232 RX5 yX5_leaseHolds wsX5_leaseHolds) := goodIn_app (goodIn_of _ (by decide +kernel)) ggX10_chunk_X5_leaseHolds
set_option maxRecDepth 20000 in
theorem ggX10_chunk_X5_good : GoodIn wsX10_chunk wsX5_good := goodIn_r _ [58, 20, 45, 24, 59, 44, 25, 10, 11, 12, 13, 14, 46, 47, 48, 49, 50, 51, 52, 53, 54, 87, 88, 89, 90, 91, 92, 93, 94, 95, 96, 97, 98, 99, 100, 101, 102, 103, 104, 105, 106, 107] (by decide +kernel) (by decide +kernel)
set_option maxRecDepth 20000 in
theorem gX10_chunk_X5_good : GoodIn wsX10_chunk (wsV RX10 241 RX5 yX5_good wsX5_good) := goodIn_app (goodIn_of _ (by decide +kernel)) ggX10_chunk_X5_good
set_option maxRecDepth 20000 in
theorem ggX10_chunk_X5_stale : GoodIn wsX10_chunk wsX5_stale := goodIn_r _ [63, 24, 59, 64, 65, 66, 18, 67, 44, 68, 69, 70, 49, 71, 72, 47, 48, 50, 51, 52, 53, 54, 40, 41, 42, 43, 20, 45, 25, 10, 11, 12, 13, 14, 46, 87, 88, 89, 90, 91, 92, 93, 94, 95, 101, 102, 103, 104, 105, 106, 107, 96, 97, 98, 99, 100] (by decide +kernel) (by decide +kernel)
set_option maxRecDepth 20000 in
theorem gX10_chunk_X5_stale : GoodIn wsX10_chunk (wsV RX10 244 RX5 yX5_stale wsX5_stale) := goodIn_app (goodIn_of _ (by decide +kernel)) ggX10_chunk_X5_stale
set_option maxRecDepth 20000 in
theorem ggX10_chunk_X5_able : GoodIn wsX10_chunk wsX5_able := goodIn_r _ [76, 24, 77, 78, 56, 57, 18, 58, 20, 45, 59, 44, 25, 10, 11, 12, 13, 14, 46, 47, 48, 49, 50, 51, 52, 53, 54, 87, 88, 89, 90, 91, 92, 93, 94, 95, 101, 102, 103, 104, 96, 97, 98, 99, 100, 105, 106, 107] (by decide +kernel) (by decide +kernel)
set_option maxRecDepth 20000 in
theorem gX10_chunk_X5_able : GoodIn wsX10_chunk (wsV RX10 247 RX5 yX5_able wsX5_able) := goodIn_app (goodIn_of _ (by decide +kernel)) ggX10_chunk_X5_able
theorem dX10_chunk_0 : decode cX10_chunk 0 = .ok (.aload_n 0, 1) := by decide +kernel
theorem dX10_chunk_1 : decode cX10_chunk 1 = .ok (.getfield 31, 3) := by decide +kernel
theorem dX10_chunk_4 : decode cX10_chunk 4 = .ok (.getfield 219, 3) := by decide +kernel
theorem dX10_chunk_7 : decode cX10_chunk 7 = .ok (.iload_n 1, 1) := by decide +kernel
theorem dX10_chunk_8 : decode cX10_chunk 8 = .ok (.invokevirtual 223, 3) := by decide +kernel
theorem dX10_chunk_11 : decode cX10_chunk 11 = .ok (.ifCond .ne 6, 3) := by decide +kernel
theorem dX10_chunk_14 : decode cX10_chunk 14 = .ok (.ldc 54, 2) := by decide +kernel
theorem dX10_chunk_16 : decode cX10_chunk 16 = .ok (.ireturn, 1) := by decide +kernel
theorem dX10_chunk_17 : decode cX10_chunk 17 = .ok (.iload_n 2, 1) := by decide +kernel
theorem dX10_chunk_18 : decode cX10_chunk 18 = .ok (.tableswitch 153 0 6 #[42, 55, 68, 97, 126, 135, 144], 42) := by decide +kernel
theorem dX10_chunk_60 : decode cX10_chunk 60 = .ok (.aload_n 0, 1) := by decide +kernel
theorem dX10_chunk_61 : decode cX10_chunk 61 = .ok (.getfield 31, 3) := by decide +kernel
theorem dX10_chunk_64 : decode cX10_chunk 64 = .ok (.getfield 219, 3) := by decide +kernel
theorem dX10_chunk_67 : decode cX10_chunk 67 = .ok (.getfield 226, 3) := by decide +kernel
theorem dX10_chunk_70 : decode cX10_chunk 70 = .ok (.iload_n 1, 1) := by decide +kernel
theorem dX10_chunk_71 : decode cX10_chunk 71 = .ok (.iaload, 1) := by decide +kernel
theorem dX10_chunk_72 : decode cX10_chunk 72 = .ok (.ireturn, 1) := by decide +kernel
theorem dX10_chunk_73 : decode cX10_chunk 73 = .ok (.aload_n 0, 1) := by decide +kernel
theorem dX10_chunk_74 : decode cX10_chunk 74 = .ok (.getfield 31, 3) := by decide +kernel
theorem dX10_chunk_77 : decode cX10_chunk 77 = .ok (.getfield 219, 3) := by decide +kernel
theorem dX10_chunk_80 : decode cX10_chunk 80 = .ok (.getfield 229, 3) := by decide +kernel
theorem dX10_chunk_83 : decode cX10_chunk 83 = .ok (.iload_n 1, 1) := by decide +kernel
theorem dX10_chunk_84 : decode cX10_chunk 84 = .ok (.iaload, 1) := by decide +kernel
theorem dX10_chunk_85 : decode cX10_chunk 85 = .ok (.ireturn, 1) := by decide +kernel
theorem dX10_chunk_86 : decode cX10_chunk 86 = .ok (.aload_n 0, 1) := by decide +kernel
theorem dX10_chunk_87 : decode cX10_chunk 87 = .ok (.getfield 31, 3) := by decide +kernel
theorem dX10_chunk_90 : decode cX10_chunk 90 = .ok (.iload_n 1, 1) := by decide +kernel
theorem dX10_chunk_91 : decode cX10_chunk 91 = .ok (.invokevirtual 232, 3) := by decide +kernel
theorem dX10_chunk_94 : decode cX10_chunk 94 = .ok (.ifCond .eq 18, 3) := by decide +kernel
theorem dX10_chunk_97 : decode cX10_chunk 97 = .ok (.aload_n 0, 1) := by decide +kernel
theorem dX10_chunk_98 : decode cX10_chunk 98 = .ok (.getfield 31, 3) := by decide +kernel
theorem dX10_chunk_101 : decode cX10_chunk 101 = .ok (.getfield 219, 3) := by decide +kernel
theorem dX10_chunk_104 : decode cX10_chunk 104 = .ok (.getfield 235, 3) := by decide +kernel
theorem dX10_chunk_107 : decode cX10_chunk 107 = .ok (.iload_n 1, 1) := by decide +kernel
theorem dX10_chunk_108 : decode cX10_chunk 108 = .ok (.iaload, 1) := by decide +kernel
theorem dX10_chunk_109 : decode cX10_chunk 109 = .ok (.goto 5, 3) := by decide +kernel
theorem dX10_chunk_112 : decode cX10_chunk 112 = .ok (.ldc 191, 2) := by decide +kernel
theorem dX10_chunk_114 : decode cX10_chunk 114 = .ok (.ireturn, 1) := by decide +kernel
theorem dX10_chunk_115 : decode cX10_chunk 115 = .ok (.aload_n 0, 1) := by decide +kernel
theorem dX10_chunk_116 : decode cX10_chunk 116 = .ok (.getfield 31, 3) := by decide +kernel
theorem dX10_chunk_119 : decode cX10_chunk 119 = .ok (.iload_n 1, 1) := by decide +kernel
theorem dX10_chunk_120 : decode cX10_chunk 120 = .ok (.invokevirtual 232, 3) := by decide +kernel
theorem dX10_chunk_123 : decode cX10_chunk 123 = .ok (.ifCond .eq 18, 3) := by decide +kernel
theorem dX10_chunk_126 : decode cX10_chunk 126 = .ok (.aload_n 0, 1) := by decide +kernel
theorem dX10_chunk_127 : decode cX10_chunk 127 = .ok (.getfield 31, 3) := by decide +kernel
theorem dX10_chunk_130 : decode cX10_chunk 130 = .ok (.getfield 219, 3) := by decide +kernel
theorem dX10_chunk_133 : decode cX10_chunk 133 = .ok (.getfield 238, 3) := by decide +kernel
theorem dX10_chunk_136 : decode cX10_chunk 136 = .ok (.iload_n 1, 1) := by decide +kernel
theorem dX10_chunk_137 : decode cX10_chunk 137 = .ok (.iaload, 1) := by decide +kernel
theorem dX10_chunk_138 : decode cX10_chunk 138 = .ok (.goto 5, 3) := by decide +kernel
theorem dX10_chunk_141 : decode cX10_chunk 141 = .ok (.ldc 191, 2) := by decide +kernel
theorem dX10_chunk_143 : decode cX10_chunk 143 = .ok (.ireturn, 1) := by decide +kernel
theorem dX10_chunk_144 : decode cX10_chunk 144 = .ok (.aload_n 0, 1) := by decide +kernel
theorem dX10_chunk_145 : decode cX10_chunk 145 = .ok (.getfield 31, 3) := by decide +kernel
theorem dX10_chunk_148 : decode cX10_chunk 148 = .ok (.iload_n 1, 1) := by decide +kernel
theorem dX10_chunk_149 : decode cX10_chunk 149 = .ok (.invokevirtual 241, 3) := by decide +kernel
theorem dX10_chunk_152 : decode cX10_chunk 152 = .ok (.ireturn, 1) := by decide +kernel
theorem dX10_chunk_153 : decode cX10_chunk 153 = .ok (.aload_n 0, 1) := by decide +kernel
theorem dX10_chunk_154 : decode cX10_chunk 154 = .ok (.getfield 31, 3) := by decide +kernel
theorem dX10_chunk_157 : decode cX10_chunk 157 = .ok (.iload_n 1, 1) := by decide +kernel
theorem dX10_chunk_158 : decode cX10_chunk 158 = .ok (.invokevirtual 244, 3) := by decide +kernel
theorem dX10_chunk_161 : decode cX10_chunk 161 = .ok (.ireturn, 1) := by decide +kernel
theorem dX10_chunk_162 : decode cX10_chunk 162 = .ok (.aload_n 0, 1) := by decide +kernel
theorem dX10_chunk_163 : decode cX10_chunk 163 = .ok (.getfield 31, 3) := by decide +kernel
theorem dX10_chunk_166 : decode cX10_chunk 166 = .ok (.iload_n 1, 1) := by decide +kernel
theorem dX10_chunk_167 : decode cX10_chunk 167 = .ok (.invokevirtual 247, 3) := by decide +kernel
theorem dX10_chunk_170 : decode cX10_chunk 170 = .ok (.ireturn, 1) := by decide +kernel
theorem dX10_chunk_171 : decode cX10_chunk 171 = .ok (.ldc 54, 2) := by decide +kernel
theorem dX10_chunk_173 : decode cX10_chunk 173 = .ok (.ireturn, 1) := by decide +kernel
set_option maxRecDepth 20000 in
theorem ggX10_file_X10_isFile : GoodIn wsX10_file wsX10_isFile := goodIn_r _ [14, 15, 16, 13, 17] (by decide +kernel) (by decide +kernel)
set_option maxRecDepth 20000 in
theorem gX10_file_X10_isFile : GoodIn wsX10_file (va_wsS RX10 100 yX10_isFile wsX10_isFile) := goodIn_app (goodIn_of _ (by decide +kernel)) ggX10_file_X10_isFile
set_option maxRecDepth 20000 in
theorem ggX10_file_X10_within : GoodIn wsX10_file wsX10_within := goodIn_r _ [17] (by decide +kernel) (by decide +kernel)
set_option maxRecDepth 20000 in
theorem gX10_file_X10_within : GoodIn wsX10_file (va_wsS RX10 50 yX10_within wsX10_within) := goodIn_app (goodIn_of _ (by decide +kernel)) ggX10_file_X10_within
set_option maxRecDepth 20000 in
theorem ggX10_file_X3_chunkOf : GoodIn wsX10_file wsX3_chunkOf := goodIn_r _ [22, 23, 24, 12, 13, 14, 15, 16, 17, 47, 48, 49, 50, 51] (by decide +kernel) (by decide +kernel)
set_option maxRecDepth 20000 in
theorem gX10_file_X3_chunkOf : GoodIn wsX10_file (wsV RX10 250 RX3 yX3_chunkOf wsX3_chunkOf) := goodIn_app (goodIn_of _ (by decide +kernel)) ggX10_file_X3_chunkOf
set_option maxRecDepth 20000 in
theorem ggX10_file_X3_is : GoodIn wsX10_file wsX3_is := goodIn_r _ [28, 29, 12, 13, 14, 15, 16, 17, 47, 48, 49, 50, 51] (by decide +kernel) (by decide +kernel)
set_option maxRecDepth 20000 in
theorem gX10_file_X3_is : GoodIn wsX10_file (wsV RX10 106 RX3 yX3_is wsX3_is) := goodIn_app (goodIn_of _ (by decide +kernel)) ggX10_file_X3_is
theorem dX10_file_0 : decode cX10_file 0 = .ok (.aload_n 0, 1) := by decide +kernel
theorem dX10_file_1 : decode cX10_file 1 = .ok (.getfield 42, 3) := by decide +kernel
theorem dX10_file_4 : decode cX10_file 4 = .ok (.ifCond .ne 6, 3) := by decide +kernel
theorem dX10_file_7 : decode cX10_file 7 = .ok (.ldc 99, 2) := by decide +kernel
theorem dX10_file_9 : decode cX10_file 9 = .ok (.ireturn, 1) := by decide +kernel
theorem dX10_file_10 : decode cX10_file 10 = .ok (.iload_n 1, 1) := by decide +kernel
theorem dX10_file_11 : decode cX10_file 11 = .ok (.invokestatic 100, 3) := by decide +kernel
theorem dX10_file_14 : decode cX10_file 14 = .ok (.ifCond .ne 6, 3) := by decide +kernel
theorem dX10_file_17 : decode cX10_file 17 = .ok (.ldc 54, 2) := by decide +kernel
theorem dX10_file_19 : decode cX10_file 19 = .ok (.ireturn, 1) := by decide +kernel
theorem dX10_file_20 : decode cX10_file 20 = .ok (.iload_n 2, 1) := by decide +kernel
theorem dX10_file_21 : decode cX10_file 21 = .ok (.bipush 10, 2) := by decide +kernel
theorem dX10_file_23 : decode cX10_file 23 = .ok (.bipush 13, 2) := by decide +kernel
theorem dX10_file_25 : decode cX10_file 25 = .ok (.invokestatic 50, 3) := by decide +kernel
theorem dX10_file_28 : decode cX10_file 28 = .ok (.ifCond .eq 31, 3) := by decide +kernel
theorem dX10_file_31 : decode cX10_file 31 = .ok (.aload_n 0, 1) := by decide +kernel
theorem dX10_file_32 : decode cX10_file 32 = .ok (.getfield 31, 3) := by decide +kernel
theorem dX10_file_35 : decode cX10_file 35 = .ok (.getfield 83, 3) := by decide +kernel
theorem dX10_file_38 : decode cX10_file 38 = .ok (.iload_n 1, 1) := by decide +kernel
theorem dX10_file_39 : decode cX10_file 39 = .ok (.iload_n 2, 1) := by decide +kernel
theorem dX10_file_40 : decode cX10_file 40 = .ok (.bipush 10, 2) := by decide +kernel
theorem dX10_file_42 : decode cX10_file 42 = .ok (.isub, 1) := by decide +kernel
theorem dX10_file_43 : decode cX10_file 43 = .ok (.invokevirtual 250, 3) := by decide +kernel
theorem dX10_file_46 : decode cX10_file 46 = .ok (.istore_n 3, 1) := by decide +kernel
theorem dX10_file_47 : decode cX10_file 47 = .ok (.iload_n 3, 1) := by decide +kernel
theorem dX10_file_48 : decode cX10_file 48 = .ok (.iconst (-1), 1) := by decide +kernel
theorem dX10_file_49 : decode cX10_file 49 = .ok (.if_icmp .ne 8, 3) := by decide +kernel
theorem dX10_file_52 : decode cX10_file 52 = .ok (.ldc 191, 2) := by decide +kernel
theorem dX10_file_54 : decode cX10_file 54 = .ok (.goto 4, 3) := by decide +kernel
theorem dX10_file_57 : decode cX10_file 57 = .ok (.iload_n 3, 1) := by decide +kernel
theorem dX10_file_58 : decode cX10_file 58 = .ok (.ireturn, 1) := by decide +kernel
theorem dX10_file_59 : decode cX10_file 59 = .ok (.iload_n 2, 1) := by decide +kernel
theorem dX10_file_60 : decode cX10_file 60 = .ok (.tableswitch 124 0 3 #[32, 45, 78, 91], 32) := by decide +kernel
theorem dX10_file_92 : decode cX10_file 92 = .ok (.aload_n 0, 1) := by decide +kernel
theorem dX10_file_93 : decode cX10_file 93 = .ok (.getfield 31, 3) := by decide +kernel
theorem dX10_file_96 : decode cX10_file 96 = .ok (.getfield 83, 3) := by decide +kernel
theorem dX10_file_99 : decode cX10_file 99 = .ok (.getfield 253, 3) := by decide +kernel
theorem dX10_file_102 : decode cX10_file 102 = .ok (.iload_n 1, 1) := by decide +kernel
theorem dX10_file_103 : decode cX10_file 103 = .ok (.iaload, 1) := by decide +kernel
theorem dX10_file_104 : decode cX10_file 104 = .ok (.ireturn, 1) := by decide +kernel
theorem dX10_file_105 : decode cX10_file 105 = .ok (.aload_n 0, 1) := by decide +kernel
theorem dX10_file_106 : decode cX10_file 106 = .ok (.getfield 31, 3) := by decide +kernel
theorem dX10_file_109 : decode cX10_file 109 = .ok (.getfield 83, 3) := by decide +kernel
theorem dX10_file_112 : decode cX10_file 112 = .ok (.iload_n 1, 1) := by decide +kernel
theorem dX10_file_113 : decode cX10_file 113 = .ok (.iconst 0, 1) := by decide +kernel
theorem dX10_file_114 : decode cX10_file 114 = .ok (.invokevirtual 106, 3) := by decide +kernel
theorem dX10_file_117 : decode cX10_file 117 = .ok (.ifCond .eq 8, 3) := by decide +kernel
theorem dX10_file_120 : decode cX10_file 120 = .ok (.ldc 191, 2) := by decide +kernel
theorem dX10_file_122 : decode cX10_file 122 = .ok (.goto 15, 3) := by decide +kernel
theorem dX10_file_125 : decode cX10_file 125 = .ok (.aload_n 0, 1) := by decide +kernel
theorem dX10_file_126 : decode cX10_file 126 = .ok (.getfield 31, 3) := by decide +kernel
theorem dX10_file_129 : decode cX10_file 129 = .ok (.getfield 83, 3) := by decide +kernel
theorem dX10_file_132 : decode cX10_file 132 = .ok (.getfield 133, 3) := by decide +kernel
theorem dX10_file_135 : decode cX10_file 135 = .ok (.iload_n 1, 1) := by decide +kernel
theorem dX10_file_136 : decode cX10_file 136 = .ok (.iaload, 1) := by decide +kernel
theorem dX10_file_137 : decode cX10_file 137 = .ok (.ireturn, 1) := by decide +kernel
theorem dX10_file_138 : decode cX10_file 138 = .ok (.aload_n 0, 1) := by decide +kernel
theorem dX10_file_139 : decode cX10_file 139 = .ok (.getfield 31, 3) := by decide +kernel
theorem dX10_file_142 : decode cX10_file 142 = .ok (.getfield 83, 3) := by decide +kernel
theorem dX10_file_145 : decode cX10_file 145 = .ok (.getfield 256, 3) := by decide +kernel
theorem dX10_file_148 : decode cX10_file 148 = .ok (.iload_n 1, 1) := by decide +kernel
theorem dX10_file_149 : decode cX10_file 149 = .ok (.iaload, 1) := by decide +kernel
theorem dX10_file_150 : decode cX10_file 150 = .ok (.ireturn, 1) := by decide +kernel
theorem dX10_file_151 : decode cX10_file 151 = .ok (.aload_n 0, 1) := by decide +kernel
theorem dX10_file_152 : decode cX10_file 152 = .ok (.getfield 31, 3) := by decide +kernel
theorem dX10_file_155 : decode cX10_file 155 = .ok (.getfield 83, 3) := by decide +kernel
theorem dX10_file_158 : decode cX10_file 158 = .ok (.iload_n 1, 1) := by decide +kernel
theorem dX10_file_159 : decode cX10_file 159 = .ok (.iconst 2, 1) := by decide +kernel
theorem dX10_file_160 : decode cX10_file 160 = .ok (.invokevirtual 106, 3) := by decide +kernel
theorem dX10_file_163 : decode cX10_file 163 = .ok (.ifCond .eq 18, 3) := by decide +kernel
theorem dX10_file_166 : decode cX10_file 166 = .ok (.aload_n 0, 1) := by decide +kernel
theorem dX10_file_167 : decode cX10_file 167 = .ok (.getfield 31, 3) := by decide +kernel
theorem dX10_file_170 : decode cX10_file 170 = .ok (.getfield 83, 3) := by decide +kernel
theorem dX10_file_173 : decode cX10_file 173 = .ok (.getfield 258, 3) := by decide +kernel
theorem dX10_file_176 : decode cX10_file 176 = .ok (.iload_n 1, 1) := by decide +kernel
theorem dX10_file_177 : decode cX10_file 177 = .ok (.iaload, 1) := by decide +kernel
theorem dX10_file_178 : decode cX10_file 178 = .ok (.goto 5, 3) := by decide +kernel
theorem dX10_file_181 : decode cX10_file 181 = .ok (.ldc 191, 2) := by decide +kernel
theorem dX10_file_183 : decode cX10_file 183 = .ok (.ireturn, 1) := by decide +kernel
theorem dX10_file_184 : decode cX10_file 184 = .ok (.ldc 54, 2) := by decide +kernel
theorem dX10_file_186 : decode cX10_file 186 = .ok (.ireturn, 1) := by decide +kernel
set_option maxRecDepth 20000 in
theorem ggX10_part_X8_has : GoodIn wsX10_part wsX8_has := goodIn_r _ [12, 13, 66, 67, 68, 69] (by decide +kernel) (by decide +kernel)
set_option maxRecDepth 20000 in
theorem gX10_part_X8_has : GoodIn wsX10_part (wsV RX10 174 RX8 yX8_has wsX8_has) := goodIn_app (goodIn_of _ (by decide +kernel)) ggX10_part_X8_has
set_option maxRecDepth 20000 in
theorem ggX10_part_X1_has : GoodIn wsX10_part wsX1_has := goodIn_r _ [18, 19, 70, 71, 72, 73, 74] (by decide +kernel) (by decide +kernel)
set_option maxRecDepth 20000 in
theorem gX10_part_X1_has : GoodIn wsX10_part (wsV RX10 223 RX1 yX1_has wsX1_has) := goodIn_app (goodIn_of _ (by decide +kernel)) ggX10_part_X1_has
set_option maxRecDepth 20000 in
theorem ggX10_part_X10_within : GoodIn wsX10_part wsX10_within := goodIn_r _ [23] (by decide +kernel) (by decide +kernel)
set_option maxRecDepth 20000 in
theorem gX10_part_X10_within : GoodIn wsX10_part (va_wsS RX10 50 yX10_within wsX10_within) := goodIn_app (goodIn_of _ (by decide +kernel)) ggX10_part_X10_within
set_option maxRecDepth 20000 in
theorem ggX10_part_X2_lies : GoodIn wsX10_part wsX2_lies := goodIn_r _ [28, 29, 30, 31, 27, 32, 33, 34, 35, 36, 75, 76, 77] (by decide +kernel) (by decide +kernel)
set_option maxRecDepth 20000 in
theorem gX10_part_X2_lies : GoodIn wsX10_part (wsV RX10 264 RX2 yX2_lies wsX2_lies) := goodIn_app (goodIn_of _ (by decide +kernel)) ggX10_part_X2_lies
set_option maxRecDepth 20000 in
theorem ggX10_part_X2_cell : GoodIn wsX10_part wsX2_cell := goodIn_r _ [40, 41, 42, 34, 35, 27, 36, 75, 76, 77] (by decide +kernel) (by decide +kernel)
set_option maxRecDepth 20000 in
theorem gX10_part_X2_cell : GoodIn wsX10_part (wsV RX10 267 RX2 yX2_cell wsX2_cell) := goodIn_app (goodIn_of _ (by decide +kernel)) ggX10_part_X2_cell
set_option maxRecDepth 20000 in
theorem ggX10_part_X2_versionOf : GoodIn wsX10_part wsX2_versionOf := goodIn_r _ [32, 33, 34, 35, 27, 36, 75, 76, 77] (by decide +kernel) (by decide +kernel)
set_option maxRecDepth 20000 in
theorem gX10_part_X2_versionOf : GoodIn wsX10_part (wsV RX10 270 RX2 yX2_versionOf wsX2_versionOf) := goodIn_app (goodIn_of _ (by decide +kernel)) ggX10_part_X2_versionOf
set_option maxRecDepth 20000 in
theorem ggX10_part_X2_filledOf : GoodIn wsX10_part wsX2_filledOf := goodIn_r _ [47, 48, 34, 35, 27, 36, 75, 76, 77] (by decide +kernel) (by decide +kernel)
set_option maxRecDepth 20000 in
theorem gX10_part_X2_filledOf : GoodIn wsX10_part (wsV RX10 273 RX2 yX2_filledOf wsX2_filledOf) := goodIn_app (goodIn_of _ (by decide +kernel)) ggX10_part_X2_filledOf
theorem dX10_part_0 : decode cX10_part 0 = .ok (.aload_n 0, 1) := by decide +kernel
theorem dX10_part_1 : decode cX10_part 1 = .ok (.getfield 31, 3) := by decide +kernel
theorem dX10_part_4 : decode cX10_part 4 = .ok (.getfield 170, 3) := by decide +kernel
theorem dX10_part_7 : decode cX10_part 7 = .ok (.iload_n 1, 1) := by decide +kernel
theorem dX10_part_8 : decode cX10_part 8 = .ok (.invokevirtual 174, 3) := by decide +kernel
theorem dX10_part_11 : decode cX10_part 11 = .ok (.ifCond .eq 17, 3) := by decide +kernel
theorem dX10_part_14 : decode cX10_part 14 = .ok (.aload_n 0, 1) := by decide +kernel
theorem dX10_part_15 : decode cX10_part 15 = .ok (.getfield 31, 3) := by decide +kernel
theorem dX10_part_18 : decode cX10_part 18 = .ok (.getfield 219, 3) := by decide +kernel
theorem dX10_part_21 : decode cX10_part 21 = .ok (.iload_n 2, 1) := by decide +kernel
theorem dX10_part_22 : decode cX10_part 22 = .ok (.invokevirtual 223, 3) := by decide +kernel
theorem dX10_part_25 : decode cX10_part 25 = .ok (.ifCond .ne 6, 3) := by decide +kernel
theorem dX10_part_28 : decode cX10_part 28 = .ok (.ldc 54, 2) := by decide +kernel
theorem dX10_part_30 : decode cX10_part 30 = .ok (.ireturn, 1) := by decide +kernel
theorem dX10_part_31 : decode cX10_part 31 = .ok (.iload_n 3, 1) := by decide +kernel
theorem dX10_part_32 : decode cX10_part 32 = .ok (.bipush 10, 2) := by decide +kernel
theorem dX10_part_34 : decode cX10_part 34 = .ok (.bipush 9, 2) := by decide +kernel
theorem dX10_part_36 : decode cX10_part 36 = .ok (.aload_n 0, 1) := by decide +kernel
theorem dX10_part_37 : decode cX10_part 37 = .ok (.getfield 31, 3) := by decide +kernel
theorem dX10_part_40 : decode cX10_part 40 = .ok (.getfield 261, 3) := by decide +kernel
theorem dX10_part_43 : decode cX10_part 43 = .ok (.iadd, 1) := by decide +kernel
theorem dX10_part_44 : decode cX10_part 44 = .ok (.invokestatic 50, 3) := by decide +kernel
theorem dX10_part_47 : decode cX10_part 47 = .ok (.istore 4, 2) := by decide +kernel
theorem dX10_part_49 : decode cX10_part 49 = .ok (.iload 4, 2) := by decide +kernel
theorem dX10_part_51 : decode cX10_part 51 = .ok (.ifCond .ne 15, 3) := by decide +kernel
theorem dX10_part_54 : decode cX10_part 54 = .ok (.iload_n 3, 1) := by decide +kernel
theorem dX10_part_55 : decode cX10_part 55 = .ok (.iconst 0, 1) := by decide +kernel
theorem dX10_part_56 : decode cX10_part 56 = .ok (.iconst 1, 1) := by decide +kernel
theorem dX10_part_57 : decode cX10_part 57 = .ok (.invokestatic 50, 3) := by decide +kernel
theorem dX10_part_60 : decode cX10_part 60 = .ok (.ifCond .ne 6, 3) := by decide +kernel
theorem dX10_part_63 : decode cX10_part 63 = .ok (.ldc 54, 2) := by decide +kernel
theorem dX10_part_65 : decode cX10_part 65 = .ok (.ireturn, 1) := by decide +kernel
theorem dX10_part_66 : decode cX10_part 66 = .ok (.aload_n 0, 1) := by decide +kernel
theorem dX10_part_67 : decode cX10_part 67 = .ok (.getfield 31, 3) := by decide +kernel
theorem dX10_part_70 : decode cX10_part 70 = .ok (.getfield 199, 3) := by decide +kernel
theorem dX10_part_73 : decode cX10_part 73 = .ok (.iload_n 1, 1) := by decide +kernel
theorem dX10_part_74 : decode cX10_part 74 = .ok (.iload_n 2, 1) := by decide +kernel
theorem dX10_part_75 : decode cX10_part 75 = .ok (.invokevirtual 264, 3) := by decide +kernel
theorem dX10_part_78 : decode cX10_part 78 = .ok (.ifCond .ne 6, 3) := by decide +kernel
theorem dX10_part_81 : decode cX10_part 81 = .ok (.ldc 191, 2) := by decide +kernel
theorem dX10_part_83 : decode cX10_part 83 = .ok (.ireturn, 1) := by decide +kernel
theorem dX10_part_84 : decode cX10_part 84 = .ok (.iload 4, 2) := by decide +kernel
theorem dX10_part_86 : decode cX10_part 86 = .ok (.ifCond .eq 20, 3) := by decide +kernel
theorem dX10_part_89 : decode cX10_part 89 = .ok (.aload_n 0, 1) := by decide +kernel
theorem dX10_part_90 : decode cX10_part 90 = .ok (.getfield 31, 3) := by decide +kernel
theorem dX10_part_93 : decode cX10_part 93 = .ok (.getfield 199, 3) := by decide +kernel
theorem dX10_part_96 : decode cX10_part 96 = .ok (.iload_n 1, 1) := by decide +kernel
theorem dX10_part_97 : decode cX10_part 97 = .ok (.iload_n 2, 1) := by decide +kernel
theorem dX10_part_98 : decode cX10_part 98 = .ok (.iload_n 3, 1) := by decide +kernel
theorem dX10_part_99 : decode cX10_part 99 = .ok (.bipush 10, 2) := by decide +kernel
theorem dX10_part_101 : decode cX10_part 101 = .ok (.isub, 1) := by decide +kernel
theorem dX10_part_102 : decode cX10_part 102 = .ok (.invokevirtual 267, 3) := by decide +kernel
theorem dX10_part_105 : decode cX10_part 105 = .ok (.ireturn, 1) := by decide +kernel
theorem dX10_part_106 : decode cX10_part 106 = .ok (.iload_n 3, 1) := by decide +kernel
theorem dX10_part_107 : decode cX10_part 107 = .ok (.ifCond .ne 18, 3) := by decide +kernel
theorem dX10_part_110 : decode cX10_part 110 = .ok (.aload_n 0, 1) := by decide +kernel
theorem dX10_part_111 : decode cX10_part 111 = .ok (.getfield 31, 3) := by decide +kernel
theorem dX10_part_114 : decode cX10_part 114 = .ok (.getfield 199, 3) := by decide +kernel
theorem dX10_part_117 : decode cX10_part 117 = .ok (.iload_n 1, 1) := by decide +kernel
theorem dX10_part_118 : decode cX10_part 118 = .ok (.iload_n 2, 1) := by decide +kernel
theorem dX10_part_119 : decode cX10_part 119 = .ok (.invokevirtual 270, 3) := by decide +kernel
theorem dX10_part_122 : decode cX10_part 122 = .ok (.goto 15, 3) := by decide +kernel
theorem dX10_part_125 : decode cX10_part 125 = .ok (.aload_n 0, 1) := by decide +kernel
theorem dX10_part_126 : decode cX10_part 126 = .ok (.getfield 31, 3) := by decide +kernel
theorem dX10_part_129 : decode cX10_part 129 = .ok (.getfield 199, 3) := by decide +kernel
theorem dX10_part_132 : decode cX10_part 132 = .ok (.iload_n 1, 1) := by decide +kernel
theorem dX10_part_133 : decode cX10_part 133 = .ok (.iload_n 2, 1) := by decide +kernel
theorem dX10_part_134 : decode cX10_part 134 = .ok (.invokevirtual 273, 3) := by decide +kernel
theorem dX10_part_137 : decode cX10_part 137 = .ok (.ireturn, 1) := by decide +kernel
set_option maxRecDepth 20000 in
theorem ggX10_read_X10_isFile : GoodIn wsX10_read wsX10_isFile := goodIn_r _ [10, 11, 12, 9, 13] (by decide +kernel) (by decide +kernel)
set_option maxRecDepth 20000 in
theorem gX10_read_X10_isFile : GoodIn wsX10_read (va_wsS RX10 100 yX10_isFile wsX10_isFile) := goodIn_app (goodIn_of _ (by decide +kernel)) ggX10_read_X10_isFile
set_option maxRecDepth 20000 in
theorem ggX10_read_X8_has : GoodIn wsX10_read wsX8_has := goodIn_r _ [18, 19, 114, 115, 116, 117] (by decide +kernel) (by decide +kernel)
set_option maxRecDepth 20000 in
theorem gX10_read_X8_has : GoodIn wsX10_read (wsV RX10 174 RX8 yX8_has wsX8_has) := goodIn_app (goodIn_of _ (by decide +kernel)) ggX10_read_X8_has
set_option maxRecDepth 20000 in
theorem ggX10_read_X3_is : GoodIn wsX10_read wsX3_is := goodIn_r _ [24, 25, 8, 9, 10, 11, 12, 13, 118, 119, 120, 121, 122] (by decide +kernel) (by decide +kernel)
set_option maxRecDepth 20000 in
theorem gX10_read_X3_is : GoodIn wsX10_read (wsV RX10 106 RX3 yX3_is wsX3_is) := goodIn_app (goodIn_of _ (by decide +kernel)) ggX10_read_X3_is
set_option maxRecDepth 20000 in
theorem ggX10_read_X5_hasCell : GoodIn wsX10_read wsX5_hasCell := goodIn_r _ [30, 31, 32, 33, 8, 9, 10, 11, 12, 13, 105, 106, 107, 108, 109, 110, 111, 112, 113, 118, 119, 120, 121, 122] (by decide +kernel) (by decide +kernel)
set_option maxRecDepth 20000 in
theorem gX10_read_X5_hasCell : GoodIn wsX10_read (wsV RX10 141 RX5 yX5_hasCell wsX5_hasCell) := goodIn_app (goodIn_of _ (by decide +kernel)) ggX10_read_X5_hasCell
set_option maxRecDepth 20000 in
theorem ggX10_read_X5_readCell : GoodIn wsX10_read wsX5_readCell := goodIn_r _ [37, 38, 39, 32, 40, 41, 42, 43, 44, 45, 17, 46, 47, 48, 15, 16, 18, 19, 49, 9, 50, 51, 52, 53, 29, 54, 31, 55, 56, 57, 23, 58, 59, 60, 8, 10, 11, 12, 13, 61, 62, 63, 64, 65, 66, 67, 68, 69, 70, 71, 72, 73, 74, 75, 76, 77, 78, 79, 80, 81, 82, 83, 84, 85, 86, 87, 88, 89, 90, 91, 92, 93, 94, 95, 96, 105, 106, 107, 108, 109, 110, 111, 112, 113, 114, 115, 116, 117, 118, 119, 120, 121, 122, 123, 124, 125, 126, 127, 128, 129, 130] (by decide +kernel) (by decide +kernel)
set_option maxRecDepth 20000 in
theorem gX10_read_X5_readCell : GoodIn wsX10_read (wsV RX10 276 RX5 yX5_readCell wsX5_readCell) := goodIn_app (goodIn_of _ (by decide +kernel)) ggX10_read_X5_readCell
theorem dX10_read_0 : decode cX10_read 0 = .ok (.aload_n 0, 1) := by decide +kernel
theorem dX10_read_1 : decode cX10_read 1 = .ok (.getfield 42, 3) := by decide +kernel
theorem dX10_read_4 : decode cX10_read 4 = .ok (.ifCond .ne 6, 3) := by decide +kernel
theorem dX10_read_7 : decode cX10_read 7 = .ok (.ldc 99, 2) := by decide +kernel
theorem dX10_read_9 : decode cX10_read 9 = .ok (.ireturn, 1) := by decide +kernel
theorem dX10_read_10 : decode cX10_read 10 = .ok (.iload_n 1, 1) := by decide +kernel
theorem dX10_read_11 : decode cX10_read 11 = .ok (.invokestatic 100, 3) := by decide +kernel
theorem dX10_read_14 : decode cX10_read 14 = .ok (.ifCond .eq 17, 3) := by decide +kernel
theorem dX10_read_17 : decode cX10_read 17 = .ok (.aload_n 0, 1) := by decide +kernel
theorem dX10_read_18 : decode cX10_read 18 = .ok (.getfield 31, 3) := by decide +kernel
theorem dX10_read_21 : decode cX10_read 21 = .ok (.getfield 170, 3) := by decide +kernel
theorem dX10_read_24 : decode cX10_read 24 = .ok (.iload_n 3, 1) := by decide +kernel
theorem dX10_read_25 : decode cX10_read 25 = .ok (.invokevirtual 174, 3) := by decide +kernel
theorem dX10_read_28 : decode cX10_read 28 = .ok (.ifCond .ne 6, 3) := by decide +kernel
theorem dX10_read_31 : decode cX10_read 31 = .ok (.ldc 54, 2) := by decide +kernel
theorem dX10_read_33 : decode cX10_read 33 = .ok (.ireturn, 1) := by decide +kernel
theorem dX10_read_34 : decode cX10_read 34 = .ok (.aload_n 0, 1) := by decide +kernel
theorem dX10_read_35 : decode cX10_read 35 = .ok (.getfield 31, 3) := by decide +kernel
theorem dX10_read_38 : decode cX10_read 38 = .ok (.getfield 83, 3) := by decide +kernel
theorem dX10_read_41 : decode cX10_read 41 = .ok (.iload_n 1, 1) := by decide +kernel
theorem dX10_read_42 : decode cX10_read 42 = .ok (.iconst 1, 1) := by decide +kernel
theorem dX10_read_43 : decode cX10_read 43 = .ok (.invokevirtual 106, 3) := by decide +kernel
theorem dX10_read_46 : decode cX10_read 46 = .ok (.ifCond .ne 6, 3) := by decide +kernel
theorem dX10_read_49 : decode cX10_read 49 = .ok (.ldc 99, 2) := by decide +kernel
theorem dX10_read_51 : decode cX10_read 51 = .ok (.ireturn, 1) := by decide +kernel
theorem dX10_read_52 : decode cX10_read 52 = .ok (.aload_n 0, 1) := by decide +kernel
theorem dX10_read_53 : decode cX10_read 53 = .ok (.getfield 31, 3) := by decide +kernel
theorem dX10_read_56 : decode cX10_read 56 = .ok (.iload_n 1, 1) := by decide +kernel
theorem dX10_read_57 : decode cX10_read 57 = .ok (.iload_n 2, 1) := by decide +kernel
theorem dX10_read_58 : decode cX10_read 58 = .ok (.invokevirtual 141, 3) := by decide +kernel
theorem dX10_read_61 : decode cX10_read 61 = .ok (.ifCond .ne 6, 3) := by decide +kernel
theorem dX10_read_64 : decode cX10_read 64 = .ok (.ldc 54, 2) := by decide +kernel
theorem dX10_read_66 : decode cX10_read 66 = .ok (.ireturn, 1) := by decide +kernel
theorem dX10_read_67 : decode cX10_read 67 = .ok (.aload_n 0, 1) := by decide +kernel
theorem dX10_read_68 : decode cX10_read 68 = .ok (.getfield 31, 3) := by decide +kernel
theorem dX10_read_71 : decode cX10_read 71 = .ok (.iload_n 1, 1) := by decide +kernel
theorem dX10_read_72 : decode cX10_read 72 = .ok (.iload_n 2, 1) := by decide +kernel
theorem dX10_read_73 : decode cX10_read 73 = .ok (.iload_n 3, 1) := by decide +kernel
theorem dX10_read_74 : decode cX10_read 74 = .ok (.invokevirtual 276, 3) := by decide +kernel
theorem dX10_read_77 : decode cX10_read 77 = .ok (.ireturn, 1) := by decide +kernel
set_option maxRecDepth 20000 in
theorem ggX10_find_X10_takeRecord : GoodIn wsX10_find wsX10_takeRecord := goodIn_r _ [8, 2, 9, 10, 11, 12, 13, 14, 15, 16, 17, 7, 18, 19, 20, 21, 107, 108, 109, 110, 111, 112, 113, 114, 115, 116] (by decide +kernel) (by decide +kernel)
set_option maxRecDepth 20000 in
theorem gX10_find_X10_takeRecord : GoodIn wsX10_find (wsV RX10 117 RX10 yX10_takeRecord wsX10_takeRecord) := goodIn_app (goodIn_of _ (by decide +kernel)) ggX10_find_X10_takeRecord
set_option maxRecDepth 20000 in
theorem ggX10_find_X10_refusalOfRecord : GoodIn wsX10_find wsX10_refusalOfRecord := goodIn_r _ [25, 1, 26, 27, 28, 19, 20, 7, 21, 29, 30, 31, 32, 33, 34, 35, 36, 37, 38, 39, 40, 41, 42, 43, 107, 108, 109, 110, 111, 112, 113, 114, 117, 118, 119, 120, 121, 122, 123, 124, 125, 126, 127, 128, 129, 130] (by decide +kernel) (by decide +kernel)
set_option maxRecDepth 20000 in
theorem gX10_find_X10_refusalOfRecord : GoodIn wsX10_find (wsV RX10 121 RX10 yX10_refusalOfRecord wsX10_refusalOfRecord) := goodIn_app (goodIn_of _ (by decide +kernel)) ggX10_find_X10_refusalOfRecord
set_option maxRecDepth 20000 in
theorem ggX10_find_X5_placesOf : GoodIn wsX10_find wsX5_placesOf := goodIn_r _ [48, 49, 50, 51, 52, 53, 41, 54, 55, 56, 36, 7, 37, 19, 20, 21, 57, 58, 59, 47, 60, 61, 62, 63, 64, 65, 66, 67, 68, 69, 70, 71, 72, 73, 74, 75, 76, 77, 78, 79, 80, 81, 82, 83, 84, 85, 86, 87, 88, 89, 90, 91, 92, 93, 94, 95, 96, 97, 98, 99, 100, 101, 102, 103, 104, 105, 106, 117, 118, 119, 120, 121, 122, 123, 124, 125, 126, 127, 128, 129, 130, 131, 132, 133, 134, 135, 136, 137, 138, 139, 140, 141, 142] (by decide +kernel) (by decide +kernel)
set_option maxRecDepth 20000 in
theorem gX10_find_X5_placesOf : GoodIn wsX10_find (wsV RX10 279 RX5 yX5_placesOf wsX5_placesOf) := goodIn_app (goodIn_of _ (by decide +kernel)) ggX10_find_X5_placesOf
theorem dX10_find_0 : decode cX10_find 0 = .ok (.aload_n 0, 1) := by decide +kernel
theorem dX10_find_1 : decode cX10_find 1 = .ok (.invokevirtual 117, 3) := by decide +kernel
theorem dX10_find_4 : decode cX10_find 4 = .ok (.istore_n 2, 1) := by decide +kernel
theorem dX10_find_5 : decode cX10_find 5 = .ok (.aload_n 0, 1) := by decide +kernel
theorem dX10_find_6 : decode cX10_find 6 = .ok (.iload_n 1, 1) := by decide +kernel
theorem dX10_find_7 : decode cX10_find 7 = .ok (.iload_n 2, 1) := by decide +kernel
theorem dX10_find_8 : decode cX10_find 8 = .ok (.invokevirtual 121, 3) := by decide +kernel
theorem dX10_find_11 : decode cX10_find 11 = .ok (.istore_n 3, 1) := by decide +kernel
theorem dX10_find_12 : decode cX10_find 12 = .ok (.iload_n 3, 1) := by decide +kernel
theorem dX10_find_13 : decode cX10_find 13 = .ok (.ifCond .eq 7, 3) := by decide +kernel
theorem dX10_find_16 : decode cX10_find 16 = .ok (.iload_n 3, 1) := by decide +kernel
theorem dX10_find_17 : decode cX10_find 17 = .ok (.goto 19, 3) := by decide +kernel
theorem dX10_find_20 : decode cX10_find 20 = .ok (.aload_n 0, 1) := by decide +kernel
theorem dX10_find_21 : decode cX10_find 21 = .ok (.getfield 31, 3) := by decide +kernel
theorem dX10_find_24 : decode cX10_find 24 = .ok (.iload_n 1, 1) := by decide +kernel
theorem dX10_find_25 : decode cX10_find 25 = .ok (.aload_n 0, 1) := by decide +kernel
theorem dX10_find_26 : decode cX10_find 26 = .ok (.getfield 20, 3) := by decide +kernel
theorem dX10_find_29 : decode cX10_find 29 = .ok (.getfield 125, 3) := by decide +kernel
theorem dX10_find_32 : decode cX10_find 32 = .ok (.iload_n 2, 1) := by decide +kernel
theorem dX10_find_33 : decode cX10_find 33 = .ok (.invokevirtual 279, 3) := by decide +kernel
theorem dX10_find_36 : decode cX10_find 36 = .ok (.ireturn, 1) := by decide +kernel
set_option maxRecDepth 20000 in
theorem ggX10_sums_X1_manyForgotten : GoodIn wsX10_sums wsX1_manyForgotten := goodIn_r _ [12, 13, 14, 111, 112, 113, 114, 115] (by decide +kernel) (by decide +kernel)
set_option maxRecDepth 20000 in
theorem gX10_sums_X1_manyForgotten : GoodIn wsX10_sums (wsV RX10 288 RX1 yX1_manyForgotten wsX1_manyForgotten) := goodIn_app (goodIn_of _ (by decide +kernel)) ggX10_sums_X1_manyForgotten
set_option maxRecDepth 20000 in
theorem ggX10_sums_X5_allCopies : GoodIn wsX10_sums wsX5_allCopies := goodIn_r _ [19, 20, 21, 22, 23, 24, 25, 26, 27, 28, 102, 103, 104, 105, 106, 107, 108, 109, 110, 116, 117, 118, 119, 120, 121, 122] (by decide +kernel) (by decide +kernel)
set_option maxRecDepth 20000 in
theorem gX10_sums_X5_allCopies : GoodIn wsX10_sums (wsV RX10 291 RX5 yX5_allCopies wsX5_allCopies) := goodIn_app (goodIn_of _ (by decide +kernel)) ggX10_sums_X5_allCopies
set_option maxRecDepth 20000 in
theorem ggX10_sums_X5_allStale : GoodIn wsX10_sums wsX5_allStale := goodIn_r _ [32, 20, 21, 33, 34, 35, 18, 36, 37, 38, 39, 40, 41, 42, 22, 43, 44, 45, 26, 46, 47, 48, 49, 50, 28, 51, 52, 53, 54, 55, 56, 57, 58, 59, 60, 61, 11, 62, 13, 63, 102, 103, 104, 105, 106, 107, 108, 109, 110, 116, 117, 118, 119, 111, 112, 113, 114, 115, 120, 121, 122] (by decide +kernel) (by decide +kernel)
set_option maxRecDepth 20000 in
theorem gX10_sums_X5_allStale : GoodIn wsX10_sums (wsV RX10 294 RX5 yX5_allStale wsX5_allStale) := goodIn_app (goodIn_of _ (by decide +kernel)) ggX10_sums_X5_allStale
set_option maxRecDepth 20000 in
theorem ggX10_sums_X5_goodCells : GoodIn wsX10_sums wsX5_goodCells := goodIn_r _ [67, 37, 38, 20, 21, 22, 68, 69, 70, 18, 71, 58, 59, 60, 61, 11, 62, 13, 63, 48, 49, 26, 50, 28, 51, 52, 53, 72, 73, 74, 75, 76, 77, 78, 79, 80, 81, 82, 83, 84, 85, 86, 87, 88, 89, 90, 91, 92, 93, 102, 103, 104, 105, 106, 107, 108, 109, 110, 111, 112, 113, 114, 115, 116, 117, 118, 119, 120, 121, 122] (by decide +kernel) (by decide +kernel)
set_option maxRecDepth 20000 in
theorem gX10_sums_X5_goodCells : GoodIn wsX10_sums (wsV RX10 297 RX5 yX5_goodCells wsX5_goodCells) := goodIn_app (goodIn_of _ (by decide +kernel)) ggX10_sums_X5_goodCells
theorem dX10_sums_0 : decode cX10_sums 0 = .ok (.aload_n 0, 1) := by decide +kernel
theorem dX10_sums_1 : decode cX10_sums 1 = .ok (.getfield 42, 3) := by decide +kernel
theorem dX10_sums_4 : decode cX10_sums 4 = .ok (.ifCond .ne 6, 3) := by decide +kernel
theorem dX10_sums_7 : decode cX10_sums 7 = .ok (.ldc 99, 2) := by decide +kernel
theorem dX10_sums_9 : decode cX10_sums 9 = .ok (.ireturn, 1) := by decide +kernel
theorem dX10_sums_10 : decode cX10_sums 10 = .ok (.iload_n 1, 1) := by decide +kernel
theorem dX10_sums_11 : decode cX10_sums 11 = .ok (.tableswitch 105 0 6 #[41, 49, 60, 71, 79, 87, 96], 41) := by decide +kernel
theorem dX10_sums_52 : decode cX10_sums 52 = .ok (.aload_n 0, 1) := by decide +kernel
theorem dX10_sums_53 : decode cX10_sums 53 = .ok (.getfield 31, 3) := by decide +kernel
theorem dX10_sums_56 : decode cX10_sums 56 = .ok (.getfield 282, 3) := by decide +kernel
theorem dX10_sums_59 : decode cX10_sums 59 = .ok (.ireturn, 1) := by decide +kernel
theorem dX10_sums_60 : decode cX10_sums 60 = .ok (.aload_n 0, 1) := by decide +kernel
theorem dX10_sums_61 : decode cX10_sums 61 = .ok (.getfield 31, 3) := by decide +kernel
theorem dX10_sums_64 : decode cX10_sums 64 = .ok (.getfield 219, 3) := by decide +kernel
theorem dX10_sums_67 : decode cX10_sums 67 = .ok (.getfield 285, 3) := by decide +kernel
theorem dX10_sums_70 : decode cX10_sums 70 = .ok (.ireturn, 1) := by decide +kernel
theorem dX10_sums_71 : decode cX10_sums 71 = .ok (.aload_n 0, 1) := by decide +kernel
theorem dX10_sums_72 : decode cX10_sums 72 = .ok (.getfield 31, 3) := by decide +kernel
theorem dX10_sums_75 : decode cX10_sums 75 = .ok (.getfield 219, 3) := by decide +kernel
theorem dX10_sums_78 : decode cX10_sums 78 = .ok (.invokevirtual 288, 3) := by decide +kernel
theorem dX10_sums_81 : decode cX10_sums 81 = .ok (.ireturn, 1) := by decide +kernel
theorem dX10_sums_82 : decode cX10_sums 82 = .ok (.aload_n 0, 1) := by decide +kernel
theorem dX10_sums_83 : decode cX10_sums 83 = .ok (.getfield 31, 3) := by decide +kernel
theorem dX10_sums_86 : decode cX10_sums 86 = .ok (.invokevirtual 291, 3) := by decide +kernel
theorem dX10_sums_89 : decode cX10_sums 89 = .ok (.ireturn, 1) := by decide +kernel
theorem dX10_sums_90 : decode cX10_sums 90 = .ok (.aload_n 0, 1) := by decide +kernel
theorem dX10_sums_91 : decode cX10_sums 91 = .ok (.getfield 31, 3) := by decide +kernel
theorem dX10_sums_94 : decode cX10_sums 94 = .ok (.invokevirtual 294, 3) := by decide +kernel
theorem dX10_sums_97 : decode cX10_sums 97 = .ok (.ireturn, 1) := by decide +kernel
theorem dX10_sums_98 : decode cX10_sums 98 = .ok (.aload_n 0, 1) := by decide +kernel
theorem dX10_sums_99 : decode cX10_sums 99 = .ok (.getfield 31, 3) := by decide +kernel
theorem dX10_sums_102 : decode cX10_sums 102 = .ok (.iconst 1, 1) := by decide +kernel
theorem dX10_sums_103 : decode cX10_sums 103 = .ok (.invokevirtual 297, 3) := by decide +kernel
theorem dX10_sums_106 : decode cX10_sums 106 = .ok (.ireturn, 1) := by decide +kernel
theorem dX10_sums_107 : decode cX10_sums 107 = .ok (.aload_n 0, 1) := by decide +kernel
theorem dX10_sums_108 : decode cX10_sums 108 = .ok (.getfield 31, 3) := by decide +kernel
theorem dX10_sums_111 : decode cX10_sums 111 = .ok (.iconst 0, 1) := by decide +kernel
theorem dX10_sums_112 : decode cX10_sums 112 = .ok (.invokevirtual 297, 3) := by decide +kernel
theorem dX10_sums_115 : decode cX10_sums 115 = .ok (.ireturn, 1) := by decide +kernel
theorem dX10_sums_116 : decode cX10_sums 116 = .ok (.ldc 54, 2) := by decide +kernel
theorem dX10_sums_118 : decode cX10_sums 118 = .ok (.ireturn, 1) := by decide +kernel
set_option maxRecDepth 20000 in
theorem ggX10_as_X10_isFile : GoodIn wsX10_as wsX10_isFile := goodIn_r _ [11, 12, 13, 10, 14] (by decide +kernel) (by decide +kernel)
set_option maxRecDepth 20000 in
theorem gX10_as_X10_isFile : GoodIn wsX10_as (va_wsS RX10 100 yX10_isFile wsX10_isFile) := goodIn_app (goodIn_of _ (by decide +kernel)) ggX10_as_X10_isFile
set_option maxRecDepth 20000 in
theorem ggX10_as_X6_has : GoodIn wsX10_as wsX6_has := goodIn_r _ [18, 19] (by decide +kernel) (by decide +kernel)
set_option maxRecDepth 20000 in
theorem gX10_as_X6_has : GoodIn wsX10_as (va_wsS RX10 301 yX6_has wsX6_has) := goodIn_app (goodIn_of _ (by decide +kernel)) ggX10_as_X6_has
set_option maxRecDepth 20000 in
theorem ggX10_as_X3_is : GoodIn wsX10_as wsX3_is := goodIn_r _ [24, 25, 9, 10, 11, 12, 13, 14, 47, 48, 49, 50, 51] (by decide +kernel) (by decide +kernel)
set_option maxRecDepth 20000 in
theorem gX10_as_X3_is : GoodIn wsX10_as (wsV RX10 106 RX3 yX3_is wsX3_is) := goodIn_app (goodIn_of _ (by decide +kernel)) ggX10_as_X3_is
set_option maxRecDepth 20000 in
theorem ggX10_as_X6_isOne : GoodIn wsX10_as wsX6_isOne := goodIn_r _ [28, 19, 29, 16, 17, 18] (by decide +kernel) (by decide +kernel)
set_option maxRecDepth 20000 in
theorem gX10_as_X6_isOne : GoodIn wsX10_as (va_wsS RX10 138 yX6_isOne wsX6_isOne) := goodIn_app (goodIn_of _ (by decide +kernel)) ggX10_as_X6_isOne
theorem dX10_as_0 : decode cX10_as 0 = .ok (.aload_n 0, 1) := by decide +kernel
theorem dX10_as_1 : decode cX10_as 1 = .ok (.getfield 42, 3) := by decide +kernel
theorem dX10_as_4 : decode cX10_as 4 = .ok (.ifCond .ne 6, 3) := by decide +kernel
theorem dX10_as_7 : decode cX10_as 7 = .ok (.ldc 99, 2) := by decide +kernel
theorem dX10_as_9 : decode cX10_as 9 = .ok (.ireturn, 1) := by decide +kernel
theorem dX10_as_10 : decode cX10_as 10 = .ok (.iload_n 1, 1) := by decide +kernel
theorem dX10_as_11 : decode cX10_as 11 = .ok (.invokestatic 100, 3) := by decide +kernel
theorem dX10_as_14 : decode cX10_as 14 = .ok (.ifCond .eq 10, 3) := by decide +kernel
theorem dX10_as_17 : decode cX10_as 17 = .ok (.iload_n 2, 1) := by decide +kernel
theorem dX10_as_18 : decode cX10_as 18 = .ok (.invokestatic 301, 3) := by decide +kernel
theorem dX10_as_21 : decode cX10_as 21 = .ok (.ifCond .ne 6, 3) := by decide +kernel
theorem dX10_as_24 : decode cX10_as 24 = .ok (.ldc 54, 2) := by decide +kernel
theorem dX10_as_26 : decode cX10_as 26 = .ok (.ireturn, 1) := by decide +kernel
theorem dX10_as_27 : decode cX10_as 27 = .ok (.aload_n 0, 1) := by decide +kernel
theorem dX10_as_28 : decode cX10_as 28 = .ok (.getfield 31, 3) := by decide +kernel
theorem dX10_as_31 : decode cX10_as 31 = .ok (.getfield 83, 3) := by decide +kernel
theorem dX10_as_34 : decode cX10_as 34 = .ok (.iload_n 1, 1) := by decide +kernel
theorem dX10_as_35 : decode cX10_as 35 = .ok (.iconst 0, 1) := by decide +kernel
theorem dX10_as_36 : decode cX10_as 36 = .ok (.invokevirtual 106, 3) := by decide +kernel
theorem dX10_as_39 : decode cX10_as 39 = .ok (.ifCond .eq 6, 3) := by decide +kernel
theorem dX10_as_42 : decode cX10_as 42 = .ok (.ldc 99, 2) := by decide +kernel
theorem dX10_as_44 : decode cX10_as 44 = .ok (.ireturn, 1) := by decide +kernel
theorem dX10_as_45 : decode cX10_as 45 = .ok (.aload_n 0, 1) := by decide +kernel
theorem dX10_as_46 : decode cX10_as 46 = .ok (.getfield 31, 3) := by decide +kernel
theorem dX10_as_49 : decode cX10_as 49 = .ok (.getfield 83, 3) := by decide +kernel
theorem dX10_as_52 : decode cX10_as 52 = .ok (.getfield 133, 3) := by decide +kernel
theorem dX10_as_55 : decode cX10_as 55 = .ok (.iload_n 1, 1) := by decide +kernel
theorem dX10_as_56 : decode cX10_as 56 = .ok (.iaload, 1) := by decide +kernel
theorem dX10_as_57 : decode cX10_as 57 = .ok (.iload_n 2, 1) := by decide +kernel
theorem dX10_as_58 : decode cX10_as 58 = .ok (.invokestatic 138, 3) := by decide +kernel
theorem dX10_as_61 : decode cX10_as 61 = .ok (.ifCond .eq 7, 3) := by decide +kernel
theorem dX10_as_64 : decode cX10_as 64 = .ok (.iload_n 1, 1) := by decide +kernel
theorem dX10_as_65 : decode cX10_as 65 = .ok (.goto 5, 3) := by decide +kernel
theorem dX10_as_68 : decode cX10_as 68 = .ok (.ldc 191, 2) := by decide +kernel
theorem dX10_as_70 : decode cX10_as 70 = .ok (.ireturn, 1) := by decide +kernel
set_option maxRecDepth 20000 in
theorem ggX10_target_X10_isKindOfFiles : GoodIn wsX10_target wsX10_isKindOfFiles := goodIn_r _ [8, 9, 10, 11, 12, 13] (by decide +kernel) (by decide +kernel)
set_option maxRecDepth 20000 in
theorem gX10_target_X10_isKindOfFiles : GoodIn wsX10_target (va_wsS RX10 103 yX10_isKindOfFiles wsX10_isKindOfFiles) := goodIn_app (goodIn_of _ (by decide +kernel)) ggX10_target_X10_isKindOfFiles
set_option maxRecDepth 20000 in
theorem ggX10_target_X5_placesForNew : GoodIn wsX10_target wsX5_placesForNew := goodIn_r _ [18, 19, 20, 21, 22, 23, 17, 24, 25, 26, 27, 11, 28, 13, 29, 10, 12, 30, 31, 32, 33, 34, 35, 7, 36, 37, 38, 39, 40, 41, 42, 43, 44, 45, 46, 47, 48, 49, 50, 51, 52, 53, 54, 63, 64, 65, 66, 67, 68, 69, 70, 71, 72, 73, 74, 75, 76, 77, 78] (by decide +kernel) (by decide +kernel)
set_option maxRecDepth 20000 in
theorem gX10_target_X5_placesForNew : GoodIn wsX10_target (wsV RX10 302 RX5 yX5_placesForNew wsX5_placesForNew) := goodIn_app (goodIn_of _ (by decide +kernel)) ggX10_target_X5_placesForNew
theorem dX10_target_0 : decode cX10_target 0 = .ok (.aload_n 0, 1) := by decide +kernel
theorem dX10_target_1 : decode cX10_target 1 = .ok (.getfield 42, 3) := by decide +kernel
theorem dX10_target_4 : decode cX10_target 4 = .ok (.ifCond .ne 6, 3) := by decide +kernel
theorem dX10_target_7 : decode cX10_target 7 = .ok (.ldc 99, 2) := by decide +kernel
theorem dX10_target_9 : decode cX10_target 9 = .ok (.ireturn, 1) := by decide +kernel
theorem dX10_target_10 : decode cX10_target 10 = .ok (.iload_n 1, 1) := by decide +kernel
theorem dX10_target_11 : decode cX10_target 11 = .ok (.invokestatic 103, 3) := by decide +kernel
theorem dX10_target_14 : decode cX10_target 14 = .ok (.ifCond .eq 14, 3) := by decide +kernel
theorem dX10_target_17 : decode cX10_target 17 = .ok (.aload_n 0, 1) := by decide +kernel
theorem dX10_target_18 : decode cX10_target 18 = .ok (.getfield 31, 3) := by decide +kernel
theorem dX10_target_21 : decode cX10_target 21 = .ok (.iload_n 1, 1) := by decide +kernel
theorem dX10_target_22 : decode cX10_target 22 = .ok (.invokevirtual 302, 3) := by decide +kernel
theorem dX10_target_25 : decode cX10_target 25 = .ok (.goto 5, 3) := by decide +kernel
theorem dX10_target_28 : decode cX10_target 28 = .ok (.ldc 54, 2) := by decide +kernel
theorem dX10_target_30 : decode cX10_target 30 = .ok (.ireturn, 1) := by decide +kernel
set_option maxRecDepth 20000 in
theorem ggX10_left_X10_refusalOfFile : GoodIn wsX10_left wsX10_refusalOfFile := goodIn_r _ [6, 7, 8, 9, 1, 10, 11, 12, 5, 13, 14, 15, 16, 17, 18, 19, 20, 21, 22, 85, 86, 87, 88, 89, 90, 91, 92, 93, 94, 95, 96, 97, 98, 99, 100, 101, 102, 103, 104, 105, 106] (by decide +kernel) (by decide +kernel)
set_option maxRecDepth 20000 in
theorem gX10_left_X10_refusalOfFile : GoodIn wsX10_left (wsV RX10 154 RX10 yX10_refusalOfFile wsX10_refusalOfFile) := goodIn_app (goodIn_of _ (by decide +kernel)) ggX10_left_X10_refusalOfFile
set_option maxRecDepth 20000 in
theorem ggX10_left_X5_lettersLeft : GoodIn wsX10_left wsX5_lettersLeft := goodIn_r _ [27, 28, 29, 30, 31, 32, 33, 20, 34, 35, 12, 5, 13, 14, 15, 16, 36, 37, 38, 39, 40, 41, 42, 43, 26, 44, 45, 46, 47, 48, 49, 50, 51, 52, 53, 54, 55, 56, 57, 58, 59, 60, 61, 62, 63, 64, 65, 66, 67, 68, 69, 70, 71, 72, 73, 74, 75, 76, 77, 78, 79, 80, 81, 82, 83, 84, 93, 94, 95, 96, 97, 98, 99, 100, 101, 102, 103, 104, 105, 106, 107, 108, 109, 110, 111, 112, 113, 114, 115, 116, 117, 118] (by decide +kernel) (by decide +kernel)
set_option maxRecDepth 20000 in
theorem gX10_left_X5_lettersLeft : GoodIn wsX10_left (wsV RX10 305 RX5 yX5_lettersLeft wsX5_lettersLeft) := goodIn_app (goodIn_of _ (by decide +kernel)) ggX10_left_X5_lettersLeft
theorem dX10_left_0 : decode cX10_left 0 = .ok (.aload_n 0, 1) := by decide +kernel
theorem dX10_left_1 : decode cX10_left 1 = .ok (.iload_n 1, 1) := by decide +kernel
theorem dX10_left_2 : decode cX10_left 2 = .ok (.invokevirtual 154, 3) := by decide +kernel
theorem dX10_left_5 : decode cX10_left 5 = .ok (.istore_n 2, 1) := by decide +kernel
theorem dX10_left_6 : decode cX10_left 6 = .ok (.iload_n 2, 1) := by decide +kernel
theorem dX10_left_7 : decode cX10_left 7 = .ok (.ifCond .eq 7, 3) := by decide +kernel
theorem dX10_left_10 : decode cX10_left 10 = .ok (.iload_n 2, 1) := by decide +kernel
theorem dX10_left_11 : decode cX10_left 11 = .ok (.goto 11, 3) := by decide +kernel
theorem dX10_left_14 : decode cX10_left 14 = .ok (.aload_n 0, 1) := by decide +kernel
theorem dX10_left_15 : decode cX10_left 15 = .ok (.getfield 31, 3) := by decide +kernel
theorem dX10_left_18 : decode cX10_left 18 = .ok (.iload_n 1, 1) := by decide +kernel
theorem dX10_left_19 : decode cX10_left 19 = .ok (.invokevirtual 305, 3) := by decide +kernel
theorem dX10_left_22 : decode cX10_left 22 = .ok (.ireturn, 1) := by decide +kernel
set_option maxRecDepth 20000 in
theorem ggX10_strength_X10_refusalOfFile : GoodIn wsX10_strength wsX10_refusalOfFile := goodIn_r _ [6, 7, 8, 9, 1, 10, 11, 12, 5, 13, 14, 15, 16, 17, 18, 19, 20, 21, 22, 76, 77, 78, 79, 80, 81, 82, 83, 84, 85, 86, 87, 88, 89, 90, 91, 92, 93, 94, 95, 96, 97] (by decide +kernel) (by decide +kernel)
set_option maxRecDepth 20000 in
theorem gX10_strength_X10_refusalOfFile : GoodIn wsX10_strength (wsV RX10 154 RX10 yX10_refusalOfFile wsX10_refusalOfFile) := goodIn_app (goodIn_of _ (by decide +kernel)) ggX10_strength_X10_refusalOfFile
set_option maxRecDepth 20000 in
theorem ggX10_strength_X4_strengthOf : GoodIn wsX10_strength wsX4_strengthOf := goodIn_r _ [26, 27, 28, 29, 30, 31, 32, 33, 34, 35, 20, 36, 37, 38, 12, 5, 13, 14, 15, 16, 39, 40, 41, 42, 43, 44, 45, 46, 47, 48, 49, 50, 51, 52, 53, 54, 55, 56, 57, 58, 59, 60, 61, 62, 63, 64, 65, 66, 67, 68, 69, 70, 71, 72, 73, 74, 75, 84, 85, 86, 87, 88, 89, 90, 91, 92, 93, 94, 95, 96, 97, 98, 99, 100, 101, 102, 103, 104, 105, 106, 107, 108, 109] (by decide +kernel) (by decide +kernel)
set_option maxRecDepth 20000 in
theorem gX10_strength_X4_strengthOf : GoodIn wsX10_strength (va_wsS RX10 308 yX4_strengthOf wsX4_strengthOf) := goodIn_app (goodIn_of _ (by decide +kernel)) ggX10_strength_X4_strengthOf
theorem dX10_strength_0 : decode cX10_strength 0 = .ok (.aload_n 0, 1) := by decide +kernel
theorem dX10_strength_1 : decode cX10_strength 1 = .ok (.iload_n 1, 1) := by decide +kernel
theorem dX10_strength_2 : decode cX10_strength 2 = .ok (.invokevirtual 154, 3) := by decide +kernel
theorem dX10_strength_5 : decode cX10_strength 5 = .ok (.istore_n 2, 1) := by decide +kernel
theorem dX10_strength_6 : decode cX10_strength 6 = .ok (.iload_n 2, 1) := by decide +kernel
theorem dX10_strength_7 : decode cX10_strength 7 = .ok (.ifCond .eq 7, 3) := by decide +kernel
theorem dX10_strength_10 : decode cX10_strength 10 = .ok (.iload_n 2, 1) := by decide +kernel
theorem dX10_strength_11 : decode cX10_strength 11 = .ok (.goto 11, 3) := by decide +kernel
theorem dX10_strength_14 : decode cX10_strength 14 = .ok (.aload_n 0, 1) := by decide +kernel
theorem dX10_strength_15 : decode cX10_strength 15 = .ok (.getfield 31, 3) := by decide +kernel
theorem dX10_strength_18 : decode cX10_strength 18 = .ok (.iload_n 1, 1) := by decide +kernel
theorem dX10_strength_19 : decode cX10_strength 19 = .ok (.invokestatic 308, 3) := by decide +kernel
theorem dX10_strength_22 : decode cX10_strength 22 = .ok (.ireturn, 1) := by decide +kernel
set_option maxRecDepth 20000 in
theorem ggX10_mends_X5_become : GoodIn wsX10_mends wsX5_become := goodIn_r _ [9, 10, 11, 12, 13, 14, 15, 16, 17, 18, 19, 20, 21, 22, 23, 24, 25, 26, 27, 28, 29, 30, 31, 32, 33, 34, 35, 36, 37, 38, 39, 40, 41, 42, 43, 44, 45, 46, 47, 48, 49, 50, 51, 52, 53, 54, 55, 56, 57, 58, 59, 60, 61, 62, 201, 202, 203, 204, 205, 206, 207, 208, 209, 210, 211, 212, 213, 214, 215, 216, 217, 218, 219, 220, 221, 222, 223, 224, 225, 226] (by decide +kernel) (by decide +kernel)
set_option maxRecDepth 20000 in
theorem gX10_mends_X5_become : GoodIn wsX10_mends (wsV RX10 76 RX5 yX5_become wsX5_become) := goodIn_app (goodIn_of _ (by decide +kernel)) ggX10_mends_X5_become
set_option maxRecDepth 20000 in
theorem ggX10_mends_X4_mendAll : GoodIn wsX10_mends wsX4_mendAll := goodIn_r _ [66, 67, 68, 69, 70, 71, 8, 72, 16, 15, 73, 74, 75, 76, 77, 78, 79, 80, 81, 82, 83, 17, 84, 85, 86, 35, 87, 37, 88, 89, 90, 46, 91, 48, 92, 93, 94, 95, 96, 97, 98, 40, 99, 100, 101, 102, 103, 104, 105, 106, 107, 108, 109, 110, 18, 111, 112, 113, 114, 115, 116, 117, 118, 55, 119, 120, 121, 122, 123, 61, 62, 124, 125, 126, 127, 128, 129, 130, 131, 132, 133, 10, 134, 135, 136, 137, 138, 139, 140, 141, 142, 143, 144, 145, 146, 147, 148, 149, 150, 151, 152, 153, 154, 155, 156, 157, 158, 159, 160, 161, 162, 163, 164, 165, 166, 22, 167, 24, 26, 168, 169, 170, 171, 172, 173, 174, 175, 51, 176, 177, 178, 179, 180, 181, 182, 183, 184, 50, 185, 186, 187, 188, 189, 190, 191, 192, 201, 202, 203, 204, 205, 206, 207, 208, 209, 214, 215, 216, 217, 218, 210, 211, 212, 213, 219, 220, 221, 222, 223, 224, 225, 226] (by decide +kernel) (by decide +kernel)
set_option maxRecDepth 20000 in
theorem gX10_mends_X4_mendAll : GoodIn wsX10_mends (va_wsS RX10 314 yX4_mendAll wsX4_mendAll) := goodIn_app (goodIn_of _ (by decide +kernel)) ggX10_mends_X4_mendAll
theorem dX10_mends_0 : decode cX10_mends 0 = .ok (.aload_n 0, 1) := by decide +kernel
theorem dX10_mends_1 : decode cX10_mends 1 = .ok (.getfield 42, 3) := by decide +kernel
theorem dX10_mends_4 : decode cX10_mends 4 = .ok (.ifCond .ne 6, 3) := by decide +kernel
theorem dX10_mends_7 : decode cX10_mends 7 = .ok (.ldc 99, 2) := by decide +kernel
theorem dX10_mends_9 : decode cX10_mends 9 = .ok (.ireturn, 1) := by decide +kernel
theorem dX10_mends_10 : decode cX10_mends 10 = .ok (.aload_n 0, 1) := by decide +kernel
theorem dX10_mends_11 : decode cX10_mends 11 = .ok (.getfield 35, 3) := by decide +kernel
theorem dX10_mends_14 : decode cX10_mends 14 = .ok (.aload_n 0, 1) := by decide +kernel
theorem dX10_mends_15 : decode cX10_mends 15 = .ok (.getfield 31, 3) := by decide +kernel
theorem dX10_mends_18 : decode cX10_mends 18 = .ok (.invokevirtual 76, 3) := by decide +kernel
theorem dX10_mends_21 : decode cX10_mends 21 = .ok (.aload_n 0, 1) := by decide +kernel
theorem dX10_mends_22 : decode cX10_mends 22 = .ok (.getfield 35, 3) := by decide +kernel
theorem dX10_mends_25 : decode cX10_mends 25 = .ok (.invokestatic 314, 3) := by decide +kernel
theorem dX10_mends_28 : decode cX10_mends 28 = .ok (.ireturn, 1) := by decide +kernel
set_option maxRecDepth 20000 in
theorem ggX10_odds_X10_isFile : GoodIn wsX10_odds wsX10_isFile := goodIn_r _ [9, 10, 11, 8, 12] (by decide +kernel) (by decide +kernel)
set_option maxRecDepth 20000 in
theorem gX10_odds_X10_isFile : GoodIn wsX10_odds (va_wsS RX10 100 yX10_isFile wsX10_isFile) := goodIn_app (goodIn_of _ (by decide +kernel)) ggX10_odds_X10_isFile
set_option maxRecDepth 20000 in
theorem ggX10_odds_X10_within : GoodIn wsX10_odds wsX10_within := goodIn_r _ [12] (by decide +kernel) (by decide +kernel)
set_option maxRecDepth 20000 in
theorem gX10_odds_X10_within : GoodIn wsX10_odds (va_wsS RX10 50 yX10_within wsX10_within) := goodIn_app (goodIn_of _ (by decide +kernel)) ggX10_odds_X10_within
set_option maxRecDepth 20000 in
theorem ggX10_odds_X3_is : GoodIn wsX10_odds wsX3_is := goodIn_r _ [17, 18, 7, 8, 9, 10, 11, 12, 106, 107, 108, 109, 110] (by decide +kernel) (by decide +kernel)
set_option maxRecDepth 20000 in
theorem gX10_odds_X3_is : GoodIn wsX10_odds (wsV RX10 106 RX3 yX3_is wsX3_is) := goodIn_app (goodIn_of _ (by decide +kernel)) ggX10_odds_X3_is
set_option maxRecDepth 20000 in
theorem ggX10_odds_X4_readableCases : GoodIn wsX10_odds wsX4_readableCases := goodIn_r _ [22, 23, 24, 25, 26, 21, 27, 28, 29, 30, 31, 16, 32, 33, 34, 7, 8, 9, 10, 11, 12, 35, 36, 37, 38, 39, 40, 41, 42, 43, 44, 45, 46, 47, 48, 49, 50, 51, 52, 53, 54, 55, 56, 57, 58, 59, 60, 61, 62, 63, 64, 65, 66, 67, 68, 69, 70, 71, 72, 73, 74, 75, 76, 77, 78, 79, 80, 81, 97, 98, 99, 100, 101, 102, 103, 104, 105, 111, 112, 113, 114, 106, 107, 108, 109, 110, 115, 116, 117, 118, 119, 120, 121, 122] (by decide +kernel) (by decide +kernel)
set_option maxRecDepth 20000 in
theorem gX10_odds_X4_readableCases : GoodIn wsX10_odds (va_wsS RX10 322 yX4_readableCases wsX4_readableCases) := goodIn_app (goodIn_of _ (by decide +kernel)) ggX10_odds_X4_readableCases
set_option maxRecDepth 20000 in
theorem ggX10_odds_X4_allCases : GoodIn wsX10_odds wsX4_allCases := goodIn_r _ [84, 23, 68, 85, 69, 70, 71, 72, 73, 74, 75, 76, 77, 78, 79, 80, 8, 81, 97, 98, 99, 100, 101, 102, 103, 104, 105, 111, 112, 113, 114] (by decide +kernel) (by decide +kernel)
set_option maxRecDepth 20000 in
theorem gX10_odds_X4_allCases : GoodIn wsX10_odds (va_wsS RX10 326 yX4_allCases wsX4_allCases) := goodIn_app (goodIn_of _ (by decide +kernel)) ggX10_odds_X4_allCases
set_option maxRecDepth 20000 in
theorem ggX10_odds_X4_commonDivisor : GoodIn wsX10_odds wsX4_commonDivisor := goodIn_r _ [88] (by decide +kernel) (by decide +kernel)
set_option maxRecDepth 20000 in
theorem gX10_odds_X4_commonDivisor : GoodIn wsX10_odds (va_wsS RX10 330 yX4_commonDivisor wsX4_commonDivisor) := goodIn_app (goodIn_of _ (by decide +kernel)) ggX10_odds_X4_commonDivisor
theorem dX10_odds_0 : decode cX10_odds 0 = .ok (.aload_n 0, 1) := by decide +kernel
theorem dX10_odds_1 : decode cX10_odds 1 = .ok (.getfield 42, 3) := by decide +kernel
theorem dX10_odds_4 : decode cX10_odds 4 = .ok (.ifCond .ne 7, 3) := by decide +kernel
theorem dX10_odds_7 : decode cX10_odds 7 = .ok (.ldc2_w 318, 3) := by decide +kernel
theorem dX10_odds_10 : decode cX10_odds 10 = .ok (.lreturn, 1) := by decide +kernel
theorem dX10_odds_11 : decode cX10_odds 11 = .ok (.iload_n 1, 1) := by decide +kernel
theorem dX10_odds_12 : decode cX10_odds 12 = .ok (.invokestatic 100, 3) := by decide +kernel
theorem dX10_odds_15 : decode cX10_odds 15 = .ok (.ifCond .eq 22, 3) := by decide +kernel
theorem dX10_odds_18 : decode cX10_odds 18 = .ok (.iload_n 2, 1) := by decide +kernel
theorem dX10_odds_19 : decode cX10_odds 19 = .ok (.iconst 0, 1) := by decide +kernel
theorem dX10_odds_20 : decode cX10_odds 20 = .ok (.bipush 10, 2) := by decide +kernel
theorem dX10_odds_22 : decode cX10_odds 22 = .ok (.invokestatic 50, 3) := by decide +kernel
theorem dX10_odds_25 : decode cX10_odds 25 = .ok (.ifCond .eq 12, 3) := by decide +kernel
theorem dX10_odds_28 : decode cX10_odds 28 = .ok (.iload_n 3, 1) := by decide +kernel
theorem dX10_odds_29 : decode cX10_odds 29 = .ok (.iconst 0, 1) := by decide +kernel
theorem dX10_odds_30 : decode cX10_odds 30 = .ok (.iconst 1, 1) := by decide +kernel
theorem dX10_odds_31 : decode cX10_odds 31 = .ok (.invokestatic 50, 3) := by decide +kernel
theorem dX10_odds_34 : decode cX10_odds 34 = .ok (.ifCond .ne 7, 3) := by decide +kernel
theorem dX10_odds_37 : decode cX10_odds 37 = .ok (.ldc2_w 320, 3) := by decide +kernel
theorem dX10_odds_40 : decode cX10_odds 40 = .ok (.lreturn, 1) := by decide +kernel
theorem dX10_odds_41 : decode cX10_odds 41 = .ok (.aload_n 0, 1) := by decide +kernel
theorem dX10_odds_42 : decode cX10_odds 42 = .ok (.getfield 31, 3) := by decide +kernel
theorem dX10_odds_45 : decode cX10_odds 45 = .ok (.getfield 83, 3) := by decide +kernel
theorem dX10_odds_48 : decode cX10_odds 48 = .ok (.iload_n 1, 1) := by decide +kernel
theorem dX10_odds_49 : decode cX10_odds 49 = .ok (.iconst 1, 1) := by decide +kernel
theorem dX10_odds_50 : decode cX10_odds 50 = .ok (.invokevirtual 106, 3) := by decide +kernel
theorem dX10_odds_53 : decode cX10_odds 53 = .ok (.ifCond .ne 7, 3) := by decide +kernel
theorem dX10_odds_56 : decode cX10_odds 56 = .ok (.ldc2_w 318, 3) := by decide +kernel
theorem dX10_odds_59 : decode cX10_odds 59 = .ok (.lreturn, 1) := by decide +kernel
theorem dX10_odds_60 : decode cX10_odds 60 = .ok (.aload_n 0, 1) := by decide +kernel
theorem dX10_odds_61 : decode cX10_odds 61 = .ok (.getfield 31, 3) := by decide +kernel
theorem dX10_odds_64 : decode cX10_odds 64 = .ok (.iload_n 1, 1) := by decide +kernel
theorem dX10_odds_65 : decode cX10_odds 65 = .ok (.iload_n 2, 1) := by decide +kernel
theorem dX10_odds_66 : decode cX10_odds 66 = .ok (.invokestatic 322, 3) := by decide +kernel
theorem dX10_odds_69 : decode cX10_odds 69 = .ok (.lstore 4, 2) := by decide +kernel
theorem dX10_odds_71 : decode cX10_odds 71 = .ok (.aload_n 0, 1) := by decide +kernel
theorem dX10_odds_72 : decode cX10_odds 72 = .ok (.getfield 31, 3) := by decide +kernel
theorem dX10_odds_75 : decode cX10_odds 75 = .ok (.invokestatic 326, 3) := by decide +kernel
theorem dX10_odds_78 : decode cX10_odds 78 = .ok (.lstore 6, 2) := by decide +kernel
theorem dX10_odds_80 : decode cX10_odds 80 = .ok (.lload 4, 2) := by decide +kernel
theorem dX10_odds_82 : decode cX10_odds 82 = .ok (.lload 6, 2) := by decide +kernel
theorem dX10_odds_84 : decode cX10_odds 84 = .ok (.invokestatic 330, 3) := by decide +kernel
theorem dX10_odds_87 : decode cX10_odds 87 = .ok (.lstore 8, 2) := by decide +kernel
theorem dX10_odds_89 : decode cX10_odds 89 = .ok (.iload_n 3, 1) := by decide +kernel
theorem dX10_odds_90 : decode cX10_odds 90 = .ok (.ifCond .ne 8, 3) := by decide +kernel
theorem dX10_odds_93 : decode cX10_odds 93 = .ok (.lload 4, 2) := by decide +kernel
theorem dX10_odds_95 : decode cX10_odds 95 = .ok (.goto 5, 3) := by decide +kernel
theorem dX10_odds_98 : decode cX10_odds 98 = .ok (.lload 6, 2) := by decide +kernel
theorem dX10_odds_100 : decode cX10_odds 100 = .ok (.lstore 10, 2) := by decide +kernel
theorem dX10_odds_102 : decode cX10_odds 102 = .ok (.lload 8, 2) := by decide +kernel
theorem dX10_odds_104 : decode cX10_odds 104 = .ok (.lconst 0, 1) := by decide +kernel
theorem dX10_odds_105 : decode cX10_odds 105 = .ok (.lcmp, 1) := by decide +kernel
theorem dX10_odds_106 : decode cX10_odds 106 = .ok (.ifCond .ne 8, 3) := by decide +kernel
theorem dX10_odds_109 : decode cX10_odds 109 = .ok (.lload 10, 2) := by decide +kernel
theorem dX10_odds_111 : decode cX10_odds 111 = .ok (.goto 8, 3) := by decide +kernel
theorem dX10_odds_114 : decode cX10_odds 114 = .ok (.lload 10, 2) := by decide +kernel
theorem dX10_odds_116 : decode cX10_odds 116 = .ok (.lload 8, 2) := by decide +kernel
theorem dX10_odds_118 : decode cX10_odds 118 = .ok (.ldiv, 1) := by decide +kernel
theorem dX10_odds_119 : decode cX10_odds 119 = .ok (.lreturn, 1) := by decide +kernel
set_option maxRecDepth 20000 in
theorem ggX10_drawn_X10_within : GoodIn wsX10_drawn wsX10_within := goodIn_r _ [12] (by decide +kernel) (by decide +kernel)
set_option maxRecDepth 20000 in
theorem gX10_drawn_X10_within : GoodIn wsX10_drawn (va_wsS RX10 50 yX10_within wsX10_within) := goodIn_app (goodIn_of _ (by decide +kernel)) ggX10_drawn_X10_within
set_option maxRecDepth 20000 in
theorem ggX10_drawn_X5_become : GoodIn wsX10_drawn wsX5_become := goodIn_r _ [17, 18, 19, 20, 21, 22, 23, 24, 25, 26, 27, 28, 29, 30, 31, 32, 33, 34, 35, 36, 37, 38, 39, 40, 41, 42, 43, 44, 45, 46, 47, 48, 49, 50, 51, 52, 53, 54, 55, 56, 57, 58, 59, 60, 61, 62, 63, 64, 65, 66, 67, 68, 69, 70, 315, 316, 317, 318, 319, 320, 321, 322, 323, 329, 330, 331, 332, 324, 325, 326, 327, 328, 333, 334, 335, 336, 337, 338, 339, 340] (by decide +kernel) (by decide +kernel)
set_option maxRecDepth 20000 in
theorem gX10_drawn_X5_become : GoodIn wsX10_drawn (wsV RX10 76 RX5 yX5_become wsX5_become) := goodIn_app (goodIn_of _ (by decide +kernel)) ggX10_drawn_X5_become
set_option maxRecDepth 20000 in
theorem ggX10_drawn_X4_liveYears : GoodIn wsX10_drawn wsX4_liveYears := goodIn_r _ [74, 75, 76, 77, 78, 79, 80, 81, 82, 83, 84, 85, 86, 87, 88, 89, 30, 90, 39, 91, 92, 93, 94, 95, 96, 97, 98, 32, 99, 100, 101, 102, 103, 104, 105, 63, 106, 65, 107, 11, 108, 9, 10, 12, 109, 110, 111, 16, 112, 26, 113, 114, 19, 115, 116, 117, 118, 119, 69, 120, 121, 122, 123, 70, 124, 125, 126, 127, 24, 128, 129, 23, 130, 25, 131, 132, 133, 43, 134, 45, 135, 136, 137, 138, 139, 140, 141, 142, 143, 144, 145, 146, 147, 18, 148, 149, 150, 151, 152, 153, 154, 155, 156, 157, 158, 159, 160, 161, 162, 163, 164, 165, 166, 167, 168, 54, 169, 56, 170, 171, 172, 173, 34, 174, 175, 176, 177, 46, 48, 178, 179, 180, 181, 182, 49, 50, 183, 184, 185, 186, 187, 188, 189, 190, 191, 192, 193, 194, 195, 59, 196, 197, 198, 199, 200, 201, 202, 58, 203, 204, 205, 206, 207, 208, 209, 210, 211, 212, 213, 214, 215, 216, 217, 218, 219, 220, 221, 222, 223, 224, 225, 226, 227, 228, 229, 230, 231, 232, 233, 234, 235, 236, 237, 238, 239, 240, 241, 242, 243, 244, 245, 246, 247, 248, 249, 250, 251, 252, 253, 254, 255, 256, 257, 258, 259, 22, 260, 261, 262, 263, 264, 33, 265, 266, 267, 268, 269, 270, 271, 272, 20, 273, 274, 275, 276, 277, 278, 279, 280, 281, 282, 283, 284, 285, 286, 287, 288, 289, 290, 291, 292, 293, 294, 295, 296, 297, 298, 299, 300, 301, 302, 315, 316, 317, 318, 319, 320, 321, 322, 323, 329, 330, 331, 332, 336, 337, 338, 339, 340, 324, 325, 326, 327, 328, 333, 334, 335] (by decide +kernel) (by decide +kernel)
set_option maxRecDepth 20000 in
theorem gX10_drawn_X4_liveYears : GoodIn wsX10_drawn (va_wsS RX10 335 yX4_liveYears wsX4_liveYears) := goodIn_app (goodIn_of _ (by decide +kernel)) ggX10_drawn_X4_liveYears
set_option maxRecDepth 20000 in
theorem ggX10_drawn_X5_allCopies : GoodIn wsX10_drawn wsX5_allCopies := goodIn_r _ [306, 23, 130, 25, 166, 167, 168, 54, 169, 56, 315, 316, 317, 318, 319, 320, 321, 322, 323, 329, 330, 331, 332, 333, 334, 335] (by decide +kernel) (by decide +kernel)
set_option maxRecDepth 20000 in
theorem gX10_drawn_X5_allCopies : GoodIn wsX10_drawn (wsV RX10 291 RX5 yX5_allCopies wsX5_allCopies) := goodIn_app (goodIn_of _ (by decide +kernel)) ggX10_drawn_X5_allCopies
theorem dX10_drawn_0 : decode cX10_drawn 0 = .ok (.aload_n 0, 1) := by decide +kernel
theorem dX10_drawn_1 : decode cX10_drawn 1 = .ok (.getfield 42, 3) := by decide +kernel
theorem dX10_drawn_4 : decode cX10_drawn 4 = .ok (.ifCond .ne 6, 3) := by decide +kernel
theorem dX10_drawn_7 : decode cX10_drawn 7 = .ok (.ldc 99, 2) := by decide +kernel
theorem dX10_drawn_9 : decode cX10_drawn 9 = .ok (.ireturn, 1) := by decide +kernel
theorem dX10_drawn_10 : decode cX10_drawn 10 = .ok (.iload_n 1, 1) := by decide +kernel
theorem dX10_drawn_11 : decode cX10_drawn 11 = .ok (.iconst 0, 1) := by decide +kernel
theorem dX10_drawn_12 : decode cX10_drawn 12 = .ok (.bipush 12, 2) := by decide +kernel
theorem dX10_drawn_14 : decode cX10_drawn 14 = .ok (.invokestatic 50, 3) := by decide +kernel
theorem dX10_drawn_17 : decode cX10_drawn 17 = .ok (.ifCond .eq 23, 3) := by decide +kernel
theorem dX10_drawn_20 : decode cX10_drawn 20 = .ok (.iload_n 2, 1) := by decide +kernel
theorem dX10_drawn_21 : decode cX10_drawn 21 = .ok (.iconst 1, 1) := by decide +kernel
theorem dX10_drawn_22 : decode cX10_drawn 22 = .ok (.ldc_w 334, 3) := by decide +kernel
theorem dX10_drawn_25 : decode cX10_drawn 25 = .ok (.invokestatic 50, 3) := by decide +kernel
theorem dX10_drawn_28 : decode cX10_drawn 28 = .ok (.ifCond .eq 12, 3) := by decide +kernel
theorem dX10_drawn_31 : decode cX10_drawn 31 = .ok (.iload_n 3, 1) := by decide +kernel
theorem dX10_drawn_32 : decode cX10_drawn 32 = .ok (.iconst 0, 1) := by decide +kernel
theorem dX10_drawn_33 : decode cX10_drawn 33 = .ok (.iconst 2, 1) := by decide +kernel
theorem dX10_drawn_34 : decode cX10_drawn 34 = .ok (.invokestatic 50, 3) := by decide +kernel
theorem dX10_drawn_37 : decode cX10_drawn 37 = .ok (.ifCond .ne 6, 3) := by decide +kernel
theorem dX10_drawn_40 : decode cX10_drawn 40 = .ok (.ldc 54, 2) := by decide +kernel
theorem dX10_drawn_42 : decode cX10_drawn 42 = .ok (.ireturn, 1) := by decide +kernel
theorem dX10_drawn_43 : decode cX10_drawn 43 = .ok (.aload_n 0, 1) := by decide +kernel
theorem dX10_drawn_44 : decode cX10_drawn 44 = .ok (.getfield 35, 3) := by decide +kernel
theorem dX10_drawn_47 : decode cX10_drawn 47 = .ok (.aload_n 0, 1) := by decide +kernel
theorem dX10_drawn_48 : decode cX10_drawn 48 = .ok (.getfield 31, 3) := by decide +kernel
theorem dX10_drawn_51 : decode cX10_drawn 51 = .ok (.invokevirtual 76, 3) := by decide +kernel
theorem dX10_drawn_54 : decode cX10_drawn 54 = .ok (.aload_n 0, 1) := by decide +kernel
theorem dX10_drawn_55 : decode cX10_drawn 55 = .ok (.getfield 35, 3) := by decide +kernel
theorem dX10_drawn_58 : decode cX10_drawn 58 = .ok (.iload_n 1, 1) := by decide +kernel
theorem dX10_drawn_59 : decode cX10_drawn 59 = .ok (.iload_n 2, 1) := by decide +kernel
theorem dX10_drawn_60 : decode cX10_drawn 60 = .ok (.invokestatic 335, 3) := by decide +kernel
theorem dX10_drawn_63 : decode cX10_drawn 63 = .ok (.istore 4, 2) := by decide +kernel
theorem dX10_drawn_65 : decode cX10_drawn 65 = .ok (.iload_n 3, 1) := by decide +kernel
theorem dX10_drawn_66 : decode cX10_drawn 66 = .ok (.lookupswitch 40 #[(0, 26), (1, 29)], 26) := by decide +kernel
theorem dX10_drawn_92 : decode cX10_drawn 92 = .ok (.iload 4, 2) := by decide +kernel
theorem dX10_drawn_94 : decode cX10_drawn 94 = .ok (.ireturn, 1) := by decide +kernel
theorem dX10_drawn_95 : decode cX10_drawn 95 = .ok (.aload_n 0, 1) := by decide +kernel
theorem dX10_drawn_96 : decode cX10_drawn 96 = .ok (.getfield 35, 3) := by decide +kernel
theorem dX10_drawn_99 : decode cX10_drawn 99 = .ok (.getfield 219, 3) := by decide +kernel
theorem dX10_drawn_102 : decode cX10_drawn 102 = .ok (.getfield 285, 3) := by decide +kernel
theorem dX10_drawn_105 : decode cX10_drawn 105 = .ok (.ireturn, 1) := by decide +kernel
theorem dX10_drawn_106 : decode cX10_drawn 106 = .ok (.aload_n 0, 1) := by decide +kernel
theorem dX10_drawn_107 : decode cX10_drawn 107 = .ok (.getfield 35, 3) := by decide +kernel
theorem dX10_drawn_110 : decode cX10_drawn 110 = .ok (.invokevirtual 291, 3) := by decide +kernel
theorem dX10_drawn_113 : decode cX10_drawn 113 = .ok (.ireturn, 1) := by decide +kernel
set_option maxRecDepth 20000 in
theorem ggX10_image_X10_isImage : GoodIn wsX10_image wsX10_isImage := goodIn_r _ [12, 13, 14, 11, 15] (by decide +kernel) (by decide +kernel)
set_option maxRecDepth 20000 in
theorem gX10_image_X10_isImage : GoodIn wsX10_image (va_wsS RX10 339 yX10_isImage wsX10_isImage) := goodIn_app (goodIn_of _ (by decide +kernel)) ggX10_image_X10_isImage
set_option maxRecDepth 20000 in
theorem ggX10_image_X5_init : GoodIn wsX10_image wsX5_init := goodIn_r _ [17, 18, 19, 20, 21, 22, 23, 24, 25, 26, 27, 28, 29, 30, 31, 32, 33, 34, 35, 36, 37, 38, 39, 40, 41, 42, 43, 44, 45, 46, 47, 48, 49, 50, 51, 52, 53, 54, 55, 56, 57, 58, 59, 60, 61, 62, 63, 64, 65, 66, 67, 68, 69, 70, 71, 72, 73, 74, 75, 76, 112, 113, 114, 115, 116, 117, 118, 119, 120, 121, 122, 123, 124, 125, 126, 127, 128, 129, 130, 131, 132, 133, 134, 135, 136, 137] (by decide +kernel) (by decide +kernel)
set_option maxRecDepth 20000 in
theorem gX10_image_X5_init_n30 : GoodIn wsX10_image (wsX5_init) := ggX10_image_X5_init
set_option maxRecDepth 20000 in
theorem ggX10_image_X5_become : GoodIn wsX10_image wsX5_become := goodIn_r _ [80, 21, 22, 23, 24, 25, 29, 33, 37, 41, 81, 82, 83, 28, 84, 45, 46, 48, 85, 86, 87, 88, 49, 89, 90, 91, 32, 92, 53, 54, 93, 55, 56, 57, 94, 95, 96, 36, 97, 62, 98, 63, 64, 99, 100, 101, 40, 102, 72, 103, 73, 74, 75, 76, 112, 113, 114, 115, 116, 117, 118, 119, 120, 121, 122, 123, 124, 125, 126, 127, 128, 129, 130, 131, 132, 133, 134, 135, 136, 137] (by decide +kernel) (by decide +kernel)
set_option maxRecDepth 20000 in
theorem gX10_image_X5_become : GoodIn wsX10_image (wsV RX10 76 RX5 yX5_become wsX5_become) := goodIn_app (goodIn_of _ (by decide +kernel)) ggX10_image_X5_become
theorem dX10_image_0 : decode cX10_image 0 = .ok (.iload_n 1, 1) := by decide +kernel
theorem dX10_image_1 : decode cX10_image 1 = .ok (.invokestatic 339, 3) := by decide +kernel
theorem dX10_image_4 : decode cX10_image 4 = .ok (.ifCond .ne 6, 3) := by decide +kernel
theorem dX10_image_7 : decode cX10_image 7 = .ok (.ldc 54, 2) := by decide +kernel
theorem dX10_image_9 : decode cX10_image 9 = .ok (.ireturn, 1) := by decide +kernel
theorem dX10_image_10 : decode cX10_image 10 = .ok (.aload_n 0, 1) := by decide +kernel
theorem dX10_image_11 : decode cX10_image 11 = .ok (.getfield 42, 3) := by decide +kernel
theorem dX10_image_14 : decode cX10_image 14 = .ok (.ifCond .ne 6, 3) := by decide +kernel
theorem dX10_image_17 : decode cX10_image 17 = .ok (.ldc 99, 2) := by decide +kernel
theorem dX10_image_19 : decode cX10_image 19 = .ok (.ireturn, 1) := by decide +kernel
theorem dX10_image_20 : decode cX10_image 20 = .ok (.aload_n 0, 1) := by decide +kernel
theorem dX10_image_21 : decode cX10_image 21 = .ok (.getfield 38, 3) := by decide +kernel
theorem dX10_image_24 : decode cX10_image 24 = .ok (.iload_n 1, 1) := by decide +kernel
theorem dX10_image_25 : decode cX10_image 25 = .ok (.aaload, 1) := by decide +kernel
theorem dX10_image_26 : decode cX10_image 26 = .ok (.ifnonnull 16, 3) := by decide +kernel
theorem dX10_image_29 : decode cX10_image 29 = .ok (.aload_n 0, 1) := by decide +kernel
theorem dX10_image_30 : decode cX10_image 30 = .ok (.getfield 38, 3) := by decide +kernel
theorem dX10_image_33 : decode cX10_image 33 = .ok (.iload_n 1, 1) := by decide +kernel
theorem dX10_image_34 : decode cX10_image 34 = .ok (.new 28, 3) := by decide +kernel
theorem dX10_image_37 : decode cX10_image 37 = .ok (.dup, 1) := by decide +kernel
theorem dX10_image_38 : decode cX10_image 38 = .ok (.invokespecial 30, 3) := by decide +kernel
theorem dX10_image_41 : decode cX10_image 41 = .ok (.aastore, 1) := by decide +kernel
theorem dX10_image_42 : decode cX10_image 42 = .ok (.aload_n 0, 1) := by decide +kernel
theorem dX10_image_43 : decode cX10_image 43 = .ok (.getfield 38, 3) := by decide +kernel
theorem dX10_image_46 : decode cX10_image 46 = .ok (.iload_n 1, 1) := by decide +kernel
theorem dX10_image_47 : decode cX10_image 47 = .ok (.aaload, 1) := by decide +kernel
theorem dX10_image_48 : decode cX10_image 48 = .ok (.aload_n 0, 1) := by decide +kernel
theorem dX10_image_49 : decode cX10_image 49 = .ok (.getfield 31, 3) := by decide +kernel
theorem dX10_image_52 : decode cX10_image 52 = .ok (.invokevirtual 76, 3) := by decide +kernel
theorem dX10_image_55 : decode cX10_image 55 = .ok (.iconst 1, 1) := by decide +kernel
theorem dX10_image_56 : decode cX10_image 56 = .ok (.ireturn, 1) := by decide +kernel
set_option maxRecDepth 20000 in
theorem ggX10_restore_X10_isImage : GoodIn wsX10_restore wsX10_isImage := goodIn_r _ [9, 10, 11, 8, 12] (by decide +kernel) (by decide +kernel)
set_option maxRecDepth 20000 in
theorem gX10_restore_X10_isImage : GoodIn wsX10_restore (va_wsS RX10 339 yX10_isImage wsX10_isImage) := goodIn_app (goodIn_of _ (by decide +kernel)) ggX10_restore_X10_isImage
set_option maxRecDepth 20000 in
theorem ggX10_restore_X5_become : GoodIn wsX10_restore wsX5_become := goodIn_r _ [17, 18, 19, 20, 21, 22, 23, 24, 25, 26, 27, 28, 29, 30, 31, 32, 33, 34, 35, 36, 37, 38, 39, 40, 41, 42, 43, 44, 45, 46, 47, 48, 49, 50, 51, 52, 53, 54, 55, 56, 57, 58, 59, 60, 61, 62, 63, 64, 65, 66, 67, 68, 69, 70, 85, 86, 87, 88, 89, 90, 91, 92, 93, 94, 95, 96, 97, 98, 99, 100, 101, 102, 103, 104, 105, 106, 107, 108, 109, 110] (by decide +kernel) (by decide +kernel)
set_option maxRecDepth 20000 in
theorem gX10_restore_X5_become : GoodIn wsX10_restore (wsV RX10 76 RX5 yX5_become wsX5_become) := goodIn_app (goodIn_of _ (by decide +kernel)) ggX10_restore_X5_become
set_option maxRecDepth 20000 in
theorem ggX10_restore_X0_forget : GoodIn wsX10_restore wsX0_forget := goodIn_r _ [75, 76, 111, 112, 113] (by decide +kernel) (by decide +kernel)
set_option maxRecDepth 20000 in
theorem gX10_restore_X0_forget : GoodIn wsX10_restore (wsV RX10 80 RX0 yX0_forget wsX0_forget) := goodIn_app (goodIn_of _ (by decide +kernel)) ggX10_restore_X0_forget
theorem dX10_restore_0 : decode cX10_restore 0 = .ok (.iload_n 1, 1) := by decide +kernel
theorem dX10_restore_1 : decode cX10_restore 1 = .ok (.invokestatic 339, 3) := by decide +kernel
theorem dX10_restore_4 : decode cX10_restore 4 = .ok (.ifCond .ne 6, 3) := by decide +kernel
theorem dX10_restore_7 : decode cX10_restore 7 = .ok (.ldc 54, 2) := by decide +kernel
theorem dX10_restore_9 : decode cX10_restore 9 = .ok (.ireturn, 1) := by decide +kernel
theorem dX10_restore_10 : decode cX10_restore 10 = .ok (.aload_n 0, 1) := by decide +kernel
theorem dX10_restore_11 : decode cX10_restore 11 = .ok (.getfield 38, 3) := by decide +kernel
theorem dX10_restore_14 : decode cX10_restore 14 = .ok (.iload_n 1, 1) := by decide +kernel
theorem dX10_restore_15 : decode cX10_restore 15 = .ok (.aaload, 1) := by decide +kernel
theorem dX10_restore_16 : decode cX10_restore 16 = .ok (.ifnonnull 6, 3) := by decide +kernel
theorem dX10_restore_19 : decode cX10_restore 19 = .ok (.ldc 99, 2) := by decide +kernel
theorem dX10_restore_21 : decode cX10_restore 21 = .ok (.ireturn, 1) := by decide +kernel
theorem dX10_restore_22 : decode cX10_restore 22 = .ok (.aload_n 0, 1) := by decide +kernel
theorem dX10_restore_23 : decode cX10_restore 23 = .ok (.getfield 31, 3) := by decide +kernel
theorem dX10_restore_26 : decode cX10_restore 26 = .ok (.aload_n 0, 1) := by decide +kernel
theorem dX10_restore_27 : decode cX10_restore 27 = .ok (.getfield 38, 3) := by decide +kernel
theorem dX10_restore_30 : decode cX10_restore 30 = .ok (.iload_n 1, 1) := by decide +kernel
theorem dX10_restore_31 : decode cX10_restore 31 = .ok (.aaload, 1) := by decide +kernel
theorem dX10_restore_32 : decode cX10_restore 32 = .ok (.invokevirtual 76, 3) := by decide +kernel
theorem dX10_restore_35 : decode cX10_restore 35 = .ok (.aload_n 0, 1) := by decide +kernel
theorem dX10_restore_36 : decode cX10_restore 36 = .ok (.getfield 24, 3) := by decide +kernel
theorem dX10_restore_39 : decode cX10_restore 39 = .ok (.invokevirtual 80, 3) := by decide +kernel
theorem dX10_restore_42 : decode cX10_restore 42 = .ok (.iconst 1, 1) := by decide +kernel
theorem dX10_restore_43 : decode cX10_restore 43 = .ok (.ireturn, 1) := by decide +kernel
set_option maxRecDepth 20000 in
theorem ggX10_count_X8_manyUp : GoodIn wsX10_count wsX8_manyUp := goodIn_r _ [16, 17, 18, 19, 20, 21, 22, 23, 24, 48, 49, 50, 51] (by decide +kernel) (by decide +kernel)
set_option maxRecDepth 20000 in
theorem gX10_count_X8_manyUp : GoodIn wsX10_count (wsV RX10 343 RX8 yX8_manyUp wsX8_manyUp) := goodIn_app (goodIn_of _ (by decide +kernel)) ggX10_count_X8_manyUp
set_option maxRecDepth 20000 in
theorem ggX10_count_X3_manyOf : GoodIn wsX10_count wsX3_manyOf := goodIn_r _ [29, 30, 62, 63, 64, 65, 66] (by decide +kernel) (by decide +kernel)
set_option maxRecDepth 20000 in
theorem gX10_count_X3_manyOf : GoodIn wsX10_count (wsV RX10 89 RX3 yX3_manyOf wsX3_manyOf) := goodIn_app (goodIn_of _ (by decide +kernel)) ggX10_count_X3_manyOf
theorem dX10_count_0 : decode cX10_count 0 = .ok (.iload_n 1, 1) := by decide +kernel
theorem dX10_count_1 : decode cX10_count 1 = .ok (.tableswitch 116 0 6 #[43, 54, 65, 77, 89, 100, 108], 43) := by decide +kernel
theorem dX10_count_44 : decode cX10_count 44 = .ok (.aload_n 0, 1) := by decide +kernel
theorem dX10_count_45 : decode cX10_count 45 = .ok (.getfield 31, 3) := by decide +kernel
theorem dX10_count_48 : decode cX10_count 48 = .ok (.getfield 170, 3) := by decide +kernel
theorem dX10_count_51 : decode cX10_count 51 = .ok (.getfield 342, 3) := by decide +kernel
theorem dX10_count_54 : decode cX10_count 54 = .ok (.ireturn, 1) := by decide +kernel
theorem dX10_count_55 : decode cX10_count 55 = .ok (.aload_n 0, 1) := by decide +kernel
theorem dX10_count_56 : decode cX10_count 56 = .ok (.getfield 31, 3) := by decide +kernel
theorem dX10_count_59 : decode cX10_count 59 = .ok (.getfield 170, 3) := by decide +kernel
theorem dX10_count_62 : decode cX10_count 62 = .ok (.invokevirtual 343, 3) := by decide +kernel
theorem dX10_count_65 : decode cX10_count 65 = .ok (.ireturn, 1) := by decide +kernel
theorem dX10_count_66 : decode cX10_count 66 = .ok (.aload_n 0, 1) := by decide +kernel
theorem dX10_count_67 : decode cX10_count 67 = .ok (.getfield 31, 3) := by decide +kernel
theorem dX10_count_70 : decode cX10_count 70 = .ok (.getfield 83, 3) := by decide +kernel
theorem dX10_count_73 : decode cX10_count 73 = .ok (.iconst 1, 1) := by decide +kernel
theorem dX10_count_74 : decode cX10_count 74 = .ok (.invokevirtual 89, 3) := by decide +kernel
theorem dX10_count_77 : decode cX10_count 77 = .ok (.ireturn, 1) := by decide +kernel
theorem dX10_count_78 : decode cX10_count 78 = .ok (.aload_n 0, 1) := by decide +kernel
theorem dX10_count_79 : decode cX10_count 79 = .ok (.getfield 31, 3) := by decide +kernel
theorem dX10_count_82 : decode cX10_count 82 = .ok (.getfield 83, 3) := by decide +kernel
theorem dX10_count_85 : decode cX10_count 85 = .ok (.iconst 2, 1) := by decide +kernel
theorem dX10_count_86 : decode cX10_count 86 = .ok (.invokevirtual 89, 3) := by decide +kernel
theorem dX10_count_89 : decode cX10_count 89 = .ok (.ireturn, 1) := by decide +kernel
theorem dX10_count_90 : decode cX10_count 90 = .ok (.aload_n 0, 1) := by decide +kernel
theorem dX10_count_91 : decode cX10_count 91 = .ok (.getfield 31, 3) := by decide +kernel
theorem dX10_count_94 : decode cX10_count 94 = .ok (.getfield 219, 3) := by decide +kernel
theorem dX10_count_97 : decode cX10_count 97 = .ok (.getfield 285, 3) := by decide +kernel
theorem dX10_count_100 : decode cX10_count 100 = .ok (.ireturn, 1) := by decide +kernel
theorem dX10_count_101 : decode cX10_count 101 = .ok (.aload_n 0, 1) := by decide +kernel
theorem dX10_count_102 : decode cX10_count 102 = .ok (.getfield 24, 3) := by decide +kernel
theorem dX10_count_105 : decode cX10_count 105 = .ok (.getfield 96, 3) := by decide +kernel
theorem dX10_count_108 : decode cX10_count 108 = .ok (.ireturn, 1) := by decide +kernel
theorem dX10_count_109 : decode cX10_count 109 = .ok (.aload_n 0, 1) := by decide +kernel
theorem dX10_count_110 : decode cX10_count 110 = .ok (.getfield 20, 3) := by decide +kernel
theorem dX10_count_113 : decode cX10_count 113 = .ok (.getfield 61, 3) := by decide +kernel
theorem dX10_count_116 : decode cX10_count 116 = .ok (.ireturn, 1) := by decide +kernel
theorem dX10_count_117 : decode cX10_count 117 = .ok (.ldc 54, 2) := by decide +kernel
theorem dX10_count_119 : decode cX10_count 119 = .ok (.ireturn, 1) := by decide +kernel
set_option maxRecDepth 20000 in
theorem ggX10_takeRecord_X9_isOfLetters : GoodIn wsX10_takeRecord wsX9_isOfLetters := goodIn_r _ [7, 8, 9, 10, 11, 12, 13, 14, 15, 24, 25] (by decide +kernel) (by decide +kernel)
set_option maxRecDepth 20000 in
theorem gX10_takeRecord_X9_isOfLetters : GoodIn wsX10_takeRecord (wsV RX10 346 RX9 yX9_isOfLetters wsX9_isOfLetters) := goodIn_app (goodIn_of _ (by decide +kernel)) ggX10_takeRecord_X9_isOfLetters
theorem dX10_takeRecord_0 : decode cX10_takeRecord 0 = .ok (.aload_n 0, 1) := by decide +kernel
theorem dX10_takeRecord_1 : decode cX10_takeRecord 1 = .ok (.getfield 20, 3) := by decide +kernel
theorem dX10_takeRecord_4 : decode cX10_takeRecord 4 = .ok (.invokevirtual 346, 3) := by decide +kernel
theorem dX10_takeRecord_7 : decode cX10_takeRecord 7 = .ok (.ifCond .eq 13, 3) := by decide +kernel
theorem dX10_takeRecord_10 : decode cX10_takeRecord 10 = .ok (.aload_n 0, 1) := by decide +kernel
theorem dX10_takeRecord_11 : decode cX10_takeRecord 11 = .ok (.getfield 20, 3) := by decide +kernel
theorem dX10_takeRecord_14 : decode cX10_takeRecord 14 = .ok (.getfield 61, 3) := by decide +kernel
theorem dX10_takeRecord_17 : decode cX10_takeRecord 17 = .ok (.goto 4, 3) := by decide +kernel
theorem dX10_takeRecord_20 : decode cX10_takeRecord 20 = .ok (.iconst 0, 1) := by decide +kernel
theorem dX10_takeRecord_21 : decode cX10_takeRecord 21 = .ok (.istore_n 1, 1) := by decide +kernel
theorem dX10_takeRecord_22 : decode cX10_takeRecord 22 = .ok (.aload_n 0, 1) := by decide +kernel
theorem dX10_takeRecord_23 : decode cX10_takeRecord 23 = .ok (.getfield 20, 3) := by decide +kernel
theorem dX10_takeRecord_26 : decode cX10_takeRecord 26 = .ok (.iconst 0, 1) := by decide +kernel
theorem dX10_takeRecord_27 : decode cX10_takeRecord 27 = .ok (.putfield 61, 3) := by decide +kernel
theorem dX10_takeRecord_30 : decode cX10_takeRecord 30 = .ok (.iload_n 1, 1) := by decide +kernel
theorem dX10_takeRecord_31 : decode cX10_takeRecord 31 = .ok (.ireturn, 1) := by decide +kernel
set_option maxRecDepth 20000 in
theorem ggX10_refusalOfRecord_X10_within : GoodIn wsX10_refusalOfRecord wsX10_within := goodIn_r _ [8] (by decide +kernel) (by decide +kernel)
set_option maxRecDepth 20000 in
theorem gX10_refusalOfRecord_X10_within : GoodIn wsX10_refusalOfRecord (va_wsS RX10 50 yX10_within wsX10_within) := goodIn_app (goodIn_of _ (by decide +kernel)) ggX10_refusalOfRecord_X10_within
set_option maxRecDepth 20000 in
theorem ggX10_refusalOfRecord_X10_refusalOfFile : GoodIn wsX10_refusalOfRecord wsX10_refusalOfFile := goodIn_r _ [12, 3, 13, 4, 1, 14, 15, 16, 7, 17, 5, 6, 8, 18, 19, 20, 21, 22, 23, 24, 25, 26, 27, 28, 29, 30, 31, 32, 33, 34, 35, 36, 37, 38, 39, 40, 41, 42, 43, 44, 45] (by decide +kernel) (by decide +kernel)
set_option maxRecDepth 20000 in
theorem gX10_refusalOfRecord_X10_refusalOfFile : GoodIn wsX10_refusalOfRecord (wsV RX10 154 RX10 yX10_refusalOfFile wsX10_refusalOfFile) := goodIn_app (goodIn_of _ (by decide +kernel)) ggX10_refusalOfRecord_X10_refusalOfFile
theorem dX10_refusalOfRecord_0 : decode cX10_refusalOfRecord 0 = .ok (.iload_n 2, 1) := by decide +kernel
theorem dX10_refusalOfRecord_1 : decode cX10_refusalOfRecord 1 = .ok (.iconst 1, 1) := by decide +kernel
theorem dX10_refusalOfRecord_2 : decode cX10_refusalOfRecord 2 = .ok (.aload_n 0, 1) := by decide +kernel
theorem dX10_refusalOfRecord_3 : decode cX10_refusalOfRecord 3 = .ok (.getfield 31, 3) := by decide +kernel
theorem dX10_refusalOfRecord_6 : decode cX10_refusalOfRecord 6 = .ok (.getfield 261, 3) := by decide +kernel
theorem dX10_refusalOfRecord_9 : decode cX10_refusalOfRecord 9 = .ok (.invokestatic 50, 3) := by decide +kernel
theorem dX10_refusalOfRecord_12 : decode cX10_refusalOfRecord 12 = .ok (.istore_n 3, 1) := by decide +kernel
theorem dX10_refusalOfRecord_13 : decode cX10_refusalOfRecord 13 = .ok (.aload_n 0, 1) := by decide +kernel
theorem dX10_refusalOfRecord_14 : decode cX10_refusalOfRecord 14 = .ok (.getfield 42, 3) := by decide +kernel
theorem dX10_refusalOfRecord_17 : decode cX10_refusalOfRecord 17 = .ok (.ifCond .eq 12, 3) := by decide +kernel
theorem dX10_refusalOfRecord_20 : decode cX10_refusalOfRecord 20 = .ok (.iload_n 3, 1) := by decide +kernel
theorem dX10_refusalOfRecord_21 : decode cX10_refusalOfRecord 21 = .ok (.ifCond .ne 8, 3) := by decide +kernel
theorem dX10_refusalOfRecord_24 : decode cX10_refusalOfRecord 24 = .ok (.ldc 54, 2) := by decide +kernel
theorem dX10_refusalOfRecord_26 : decode cX10_refusalOfRecord 26 = .ok (.goto 8, 3) := by decide +kernel
theorem dX10_refusalOfRecord_29 : decode cX10_refusalOfRecord 29 = .ok (.aload_n 0, 1) := by decide +kernel
theorem dX10_refusalOfRecord_30 : decode cX10_refusalOfRecord 30 = .ok (.iload_n 1, 1) := by decide +kernel
theorem dX10_refusalOfRecord_31 : decode cX10_refusalOfRecord 31 = .ok (.invokevirtual 154, 3) := by decide +kernel
theorem dX10_refusalOfRecord_34 : decode cX10_refusalOfRecord 34 = .ok (.ireturn, 1) := by decide +kernel
set_option maxRecDepth 20000 in
theorem ggX10_refusalOfFile_X10_isFile : GoodIn wsX10_refusalOfFile wsX10_isFile := goodIn_r _ [9, 10, 11, 8, 12] (by decide +kernel) (by decide +kernel)
set_option maxRecDepth 20000 in
theorem gX10_refusalOfFile_X10_isFile : GoodIn wsX10_refusalOfFile (va_wsS RX10 100 yX10_isFile wsX10_isFile) := goodIn_app (goodIn_of _ (by decide +kernel)) ggX10_refusalOfFile_X10_isFile
set_option maxRecDepth 20000 in
theorem ggX10_refusalOfFile_X3_is : GoodIn wsX10_refusalOfFile wsX3_is := goodIn_r _ [17, 18, 7, 8, 9, 10, 11, 12, 36, 37, 38, 39, 40] (by decide +kernel) (by decide +kernel)
set_option maxRecDepth 20000 in
theorem gX10_refusalOfFile_X3_is : GoodIn wsX10_refusalOfFile (wsV RX10 106 RX3 yX3_is wsX3_is) := goodIn_app (goodIn_of _ (by decide +kernel)) ggX10_refusalOfFile_X3_is
theorem dX10_refusalOfFile_0 : decode cX10_refusalOfFile 0 = .ok (.aload_n 0, 1) := by decide +kernel
theorem dX10_refusalOfFile_1 : decode cX10_refusalOfFile 1 = .ok (.getfield 42, 3) := by decide +kernel
theorem dX10_refusalOfFile_4 : decode cX10_refusalOfFile 4 = .ok (.ifCond .ne 6, 3) := by decide +kernel
theorem dX10_refusalOfFile_7 : decode cX10_refusalOfFile 7 = .ok (.ldc 99, 2) := by decide +kernel
theorem dX10_refusalOfFile_9 : decode cX10_refusalOfFile 9 = .ok (.ireturn, 1) := by decide +kernel
theorem dX10_refusalOfFile_10 : decode cX10_refusalOfFile 10 = .ok (.iload_n 1, 1) := by decide +kernel
theorem dX10_refusalOfFile_11 : decode cX10_refusalOfFile 11 = .ok (.invokestatic 100, 3) := by decide +kernel
theorem dX10_refusalOfFile_14 : decode cX10_refusalOfFile 14 = .ok (.ifCond .ne 6, 3) := by decide +kernel
theorem dX10_refusalOfFile_17 : decode cX10_refusalOfFile 17 = .ok (.ldc 54, 2) := by decide +kernel
theorem dX10_refusalOfFile_19 : decode cX10_refusalOfFile 19 = .ok (.ireturn, 1) := by decide +kernel
theorem dX10_refusalOfFile_20 : decode cX10_refusalOfFile 20 = .ok (.aload_n 0, 1) := by decide +kernel
theorem dX10_refusalOfFile_21 : decode cX10_refusalOfFile 21 = .ok (.getfield 31, 3) := by decide +kernel
theorem dX10_refusalOfFile_24 : decode cX10_refusalOfFile 24 = .ok (.getfield 83, 3) := by decide +kernel
theorem dX10_refusalOfFile_27 : decode cX10_refusalOfFile 27 = .ok (.iload_n 1, 1) := by decide +kernel
theorem dX10_refusalOfFile_28 : decode cX10_refusalOfFile 28 = .ok (.iconst 1, 1) := by decide +kernel
theorem dX10_refusalOfFile_29 : decode cX10_refusalOfFile 29 = .ok (.invokevirtual 106, 3) := by decide +kernel
theorem dX10_refusalOfFile_32 : decode cX10_refusalOfFile 32 = .ok (.ifCond .eq 7, 3) := by decide +kernel
theorem dX10_refusalOfFile_35 : decode cX10_refusalOfFile 35 = .ok (.iconst 0, 1) := by decide +kernel
theorem dX10_refusalOfFile_36 : decode cX10_refusalOfFile 36 = .ok (.goto 5, 3) := by decide +kernel
theorem dX10_refusalOfFile_39 : decode cX10_refusalOfFile 39 = .ok (.ldc 99, 2) := by decide +kernel
theorem dX10_refusalOfFile_41 : decode cX10_refusalOfFile 41 = .ok (.ireturn, 1) := by decide +kernel
set_option maxRecDepth 20000 in
theorem ggX10_turn_X8_has : GoodIn wsX10_turn wsX8_has := goodIn_r _ [10, 11, 153, 154, 155, 156] (by decide +kernel) (by decide +kernel)
set_option maxRecDepth 20000 in
theorem gX10_turn_X8_has : GoodIn wsX10_turn (wsV RX10 174 RX8 yX8_has wsX8_has) := goodIn_app (goodIn_of _ (by decide +kernel)) ggX10_turn_X8_has
set_option maxRecDepth 20000 in
theorem ggX10_turn_X8_hasUp : GoodIn wsX10_turn wsX8_hasUp := goodIn_r _ [15, 16, 17, 7, 8, 9, 10, 11, 18, 19, 20, 153, 154, 155, 156] (by decide +kernel) (by decide +kernel)
set_option maxRecDepth 20000 in
theorem gX10_turn_X8_hasUp : GoodIn wsX10_turn (wsV RX10 182 RX8 yX8_hasUp wsX8_hasUp) := goodIn_app (goodIn_of _ (by decide +kernel)) ggX10_turn_X8_hasUp
set_option maxRecDepth 20000 in
theorem ggX10_turn_X0_keep : GoodIn wsX10_turn wsX0_keep := goodIn_r _ [25, 26, 27, 28, 29, 30, 31, 32, 33, 34, 35, 36, 37, 38, 39, 40, 41, 42, 43, 44, 45, 46, 47, 9, 48, 49, 50, 51, 52, 53, 54, 55, 56, 57, 58, 59, 60, 61, 62, 63, 11, 16, 64, 65, 66, 67, 68, 69, 70, 71, 72, 73, 74, 75, 76, 77, 78, 79, 80, 81, 82, 83, 84, 85, 86, 87, 88, 89, 90, 91, 92, 93, 94, 95, 96, 97, 98, 99, 100, 101, 102, 103, 104, 105, 106, 107, 108, 109, 110, 111, 112, 113, 114, 115, 116, 117, 118, 119, 120, 157, 158, 159, 144, 145, 146, 147, 148, 149, 150, 151, 152, 153, 154, 155, 156, 160, 161, 162, 163, 164, 165, 166, 167, 168, 169, 170, 171, 172] (by decide +kernel) (by decide +kernel)
set_option maxRecDepth 20000 in
theorem gX10_turn_X0_keep : GoodIn wsX10_turn (wsV RX10 110 RX0 yX0_keep wsX0_keep) := goodIn_app (goodIn_of _ (by decide +kernel)) ggX10_turn_X0_keep
set_option maxRecDepth 20000 in
theorem ggX10_turn_X8_turn : GoodIn wsX10_turn wsX8_turn := goodIn_r _ [124, 16, 17, 7, 8, 9, 10, 11, 153, 154, 155, 156] (by decide +kernel) (by decide +kernel)
set_option maxRecDepth 20000 in
theorem gX10_turn_X8_turn : GoodIn wsX10_turn (wsV RX10 350 RX8 yX8_turn wsX8_turn) := goodIn_app (goodIn_of _ (by decide +kernel)) ggX10_turn_X8_turn
set_option maxRecDepth 20000 in
theorem ggX10_turn_X8_manyUp : GoodIn wsX10_turn wsX8_manyUp := goodIn_r _ [128, 16, 129, 130, 131, 132, 133, 134, 135, 153, 154, 155, 156] (by decide +kernel) (by decide +kernel)
set_option maxRecDepth 20000 in
theorem gX10_turn_X8_manyUp : GoodIn wsX10_turn (wsV RX10 343 RX8 yX8_manyUp wsX8_manyUp) := goodIn_app (goodIn_of _ (by decide +kernel)) ggX10_turn_X8_manyUp
theorem dX10_turn_0 : decode cX10_turn 0 = .ok (.aload_n 0, 1) := by decide +kernel
theorem dX10_turn_1 : decode cX10_turn 1 = .ok (.getfield 31, 3) := by decide +kernel
theorem dX10_turn_4 : decode cX10_turn 4 = .ok (.getfield 170, 3) := by decide +kernel
theorem dX10_turn_7 : decode cX10_turn 7 = .ok (.iload_n 1, 1) := by decide +kernel
theorem dX10_turn_8 : decode cX10_turn 8 = .ok (.invokevirtual 174, 3) := by decide +kernel
theorem dX10_turn_11 : decode cX10_turn 11 = .ok (.ifCond .ne 6, 3) := by decide +kernel
theorem dX10_turn_14 : decode cX10_turn 14 = .ok (.ldc 54, 2) := by decide +kernel
theorem dX10_turn_16 : decode cX10_turn 16 = .ok (.ireturn, 1) := by decide +kernel
theorem dX10_turn_17 : decode cX10_turn 17 = .ok (.aload_n 0, 1) := by decide +kernel
theorem dX10_turn_18 : decode cX10_turn 18 = .ok (.getfield 31, 3) := by decide +kernel
theorem dX10_turn_21 : decode cX10_turn 21 = .ok (.getfield 170, 3) := by decide +kernel
theorem dX10_turn_24 : decode cX10_turn 24 = .ok (.iload_n 1, 1) := by decide +kernel
theorem dX10_turn_25 : decode cX10_turn 25 = .ok (.invokevirtual 182, 3) := by decide +kernel
theorem dX10_turn_28 : decode cX10_turn 28 = .ok (.iload_n 2, 1) := by decide +kernel
theorem dX10_turn_29 : decode cX10_turn 29 = .ok (.if_icmp .eq 6, 3) := by decide +kernel
theorem dX10_turn_32 : decode cX10_turn 32 = .ok (.ldc 99, 2) := by decide +kernel
theorem dX10_turn_34 : decode cX10_turn 34 = .ok (.ireturn, 1) := by decide +kernel
theorem dX10_turn_35 : decode cX10_turn 35 = .ok (.aload_n 0, 1) := by decide +kernel
theorem dX10_turn_36 : decode cX10_turn 36 = .ok (.getfield 24, 3) := by decide +kernel
theorem dX10_turn_39 : decode cX10_turn 39 = .ok (.aload_n 0, 1) := by decide +kernel
theorem dX10_turn_40 : decode cX10_turn 40 = .ok (.getfield 31, 3) := by decide +kernel
theorem dX10_turn_43 : decode cX10_turn 43 = .ok (.invokevirtual 110, 3) := by decide +kernel
theorem dX10_turn_46 : decode cX10_turn 46 = .ok (.aload_n 0, 1) := by decide +kernel
theorem dX10_turn_47 : decode cX10_turn 47 = .ok (.getfield 31, 3) := by decide +kernel
theorem dX10_turn_50 : decode cX10_turn 50 = .ok (.getfield 170, 3) := by decide +kernel
theorem dX10_turn_53 : decode cX10_turn 53 = .ok (.iload_n 1, 1) := by decide +kernel
theorem dX10_turn_54 : decode cX10_turn 54 = .ok (.iload_n 3, 1) := by decide +kernel
theorem dX10_turn_55 : decode cX10_turn 55 = .ok (.invokevirtual 350, 3) := by decide +kernel
theorem dX10_turn_58 : decode cX10_turn 58 = .ok (.aload_n 0, 1) := by decide +kernel
theorem dX10_turn_59 : decode cX10_turn 59 = .ok (.getfield 31, 3) := by decide +kernel
theorem dX10_turn_62 : decode cX10_turn 62 = .ok (.getfield 170, 3) := by decide +kernel
theorem dX10_turn_65 : decode cX10_turn 65 = .ok (.invokevirtual 343, 3) := by decide +kernel
theorem dX10_turn_68 : decode cX10_turn 68 = .ok (.ireturn, 1) := by decide +kernel
