theorem dX3_init_1 : decode cX3_init 1 = .ok (.invokespecial 1, 3) := by decide +kernel
theorem dX3_init_4 : decode cX3_init 4 = .ok (.aload_n 0, 1) := by decide +kernel
theorem dX3_init_5 : decode cX3_init 5 = .ok (.new 7, 3) := by decide +kernel
theorem dX3_init_8 : decode cX3_init 8 = .ok (.dup, 1) := by decide +kernel
theorem dX3_init_9 : decode cX3_init 9 = .ok (.invokespecial 9, 3) := by decide +kernel
theorem dX3_init_12 : decode cX3_init 12 = .ok (.putfield 10, 3) := by decide +kernel
theorem dX3_init_15 : decode cX3_init 15 = .ok (.aload_n 0, 1) := by decide +kernel
theorem dX3_init_16 : decode cX3_init 16 = .ok (.new 7, 3) := by decide +kernel
theorem dX3_init_19 : decode cX3_init 19 = .ok (.dup, 1) := by decide +kernel
theorem dX3_init_20 : decode cX3_init 20 = .ok (.invokespecial 9, 3) := by decide +kernel
theorem dX3_init_23 : decode cX3_init 23 = .ok (.putfield 16, 3) := by decide +kernel
theorem dX3_init_26 : decode cX3_init 26 = .ok (.return_, 1) := by decide +kernel
set_option maxRecDepth 20000 in
theorem ggX3_addHouse_X3_requireArgument : GoodIn wsX3_addHouse wsX3_requireArgument := goodIn_ca (goodIn_r _ [13, 14, 15] (by decide +kernel) (by decide +kernel)) (goodIn_sub (fun _ h => List.mem_cons_of_mem _ (List.mem_append_right _ h)) (by decide +kernel))
set_option maxRecDepth 20000 in
theorem gX3_addHouse_X3_requireArgument : GoodIn wsX3_addHouse (va_wsS RX3 19 yX3_requireArgument wsX3_requireArgument) := goodIn_app (goodIn_of _ (by decide +kernel)) ggX3_addHouse_X3_requireArgument
theorem dX3_addHouse_0 : decode cX3_addHouse 0 = .ok (.iload_n 1, 1) := by decide +kernel
theorem dX3_addHouse_1 : decode cX3_addHouse 1 = .ok (.iconst 0, 1) := by decide +kernel
theorem dX3_addHouse_2 : decode cX3_addHouse 2 = .ok (.bipush 9, 2) := by decide +kernel
theorem dX3_addHouse_4 : decode cX3_addHouse 4 = .ok (.invokestatic 19, 3) := by decide +kernel
theorem dX3_addHouse_7 : decode cX3_addHouse 7 = .ok (.iload_n 2, 1) := by decide +kernel
theorem dX3_addHouse_8 : decode cX3_addHouse 8 = .ok (.iconst 0, 1) := by decide +kernel
theorem dX3_addHouse_9 : decode cX3_addHouse 9 = .ok (.bipush 9, 2) := by decide +kernel
theorem dX3_addHouse_11 : decode cX3_addHouse 11 = .ok (.invokestatic 19, 3) := by decide +kernel
theorem dX3_addHouse_14 : decode cX3_addHouse 14 = .ok (.iload_n 3, 1) := by decide +kernel
theorem dX3_addHouse_15 : decode cX3_addHouse 15 = .ok (.iconst 1, 1) := by decide +kernel
theorem dX3_addHouse_16 : decode cX3_addHouse 16 = .ok (.bipush 9, 2) := by decide +kernel
theorem dX3_addHouse_18 : decode cX3_addHouse 18 = .ok (.invokestatic 19, 3) := by decide +kernel
theorem dX3_addHouse_21 : decode cX3_addHouse 21 = .ok (.aload_n 0, 1) := by decide +kernel
theorem dX3_addHouse_22 : decode cX3_addHouse 22 = .ok (.getfield 10, 3) := by decide +kernel
theorem dX3_addHouse_25 : decode cX3_addHouse 25 = .ok (.getfield 23, 3) := by decide +kernel
theorem dX3_addHouse_28 : decode cX3_addHouse 28 = .ok (.bipush 10, 2) := by decide +kernel
theorem dX3_addHouse_30 : decode cX3_addHouse 30 = .ok (.if_icmp .lt 13, 3) := by decide +kernel
theorem dX3_addHouse_33 : decode cX3_addHouse 33 = .ok (.new 27, 3) := by decide +kernel
theorem dX3_addHouse_36 : decode cX3_addHouse 36 = .ok (.dup, 1) := by decide +kernel
theorem dX3_addHouse_37 : decode cX3_addHouse 37 = .ok (.ldc 29, 2) := by decide +kernel
theorem dX3_addHouse_39 : decode cX3_addHouse 39 = .ok (.invokespecial 31, 3) := by decide +kernel
theorem dX3_addHouse_42 : decode cX3_addHouse 42 = .ok (.athrow, 1) := by decide +kernel
theorem dX3_addHouse_43 : decode cX3_addHouse 43 = .ok (.aload_n 0, 1) := by decide +kernel
theorem dX3_addHouse_44 : decode cX3_addHouse 44 = .ok (.getfield 10, 3) := by decide +kernel
theorem dX3_addHouse_47 : decode cX3_addHouse 47 = .ok (.getfield 34, 3) := by decide +kernel
theorem dX3_addHouse_50 : decode cX3_addHouse 50 = .ok (.aload_n 0, 1) := by decide +kernel
theorem dX3_addHouse_51 : decode cX3_addHouse 51 = .ok (.getfield 10, 3) := by decide +kernel
theorem dX3_addHouse_54 : decode cX3_addHouse 54 = .ok (.getfield 23, 3) := by decide +kernel
theorem dX3_addHouse_57 : decode cX3_addHouse 57 = .ok (.aaload, 1) := by decide +kernel
theorem dX3_addHouse_58 : decode cX3_addHouse 58 = .ok (.astore 4, 2) := by decide +kernel
theorem dX3_addHouse_60 : decode cX3_addHouse 60 = .ok (.aload 4, 2) := by decide +kernel
theorem dX3_addHouse_62 : decode cX3_addHouse 62 = .ok (.iload_n 1, 1) := by decide +kernel
theorem dX3_addHouse_63 : decode cX3_addHouse 63 = .ok (.putfield 38, 3) := by decide +kernel
theorem dX3_addHouse_66 : decode cX3_addHouse 66 = .ok (.aload 4, 2) := by decide +kernel
theorem dX3_addHouse_68 : decode cX3_addHouse 68 = .ok (.iload_n 2, 1) := by decide +kernel
theorem dX3_addHouse_69 : decode cX3_addHouse 69 = .ok (.putfield 43, 3) := by decide +kernel
theorem dX3_addHouse_72 : decode cX3_addHouse 72 = .ok (.aload 4, 2) := by decide +kernel
theorem dX3_addHouse_74 : decode cX3_addHouse 74 = .ok (.iload_n 3, 1) := by decide +kernel
theorem dX3_addHouse_75 : decode cX3_addHouse 75 = .ok (.putfield 46, 3) := by decide +kernel
theorem dX3_addHouse_78 : decode cX3_addHouse 78 = .ok (.aload_n 0, 1) := by decide +kernel
theorem dX3_addHouse_79 : decode cX3_addHouse 79 = .ok (.getfield 10, 3) := by decide +kernel
theorem dX3_addHouse_82 : decode cX3_addHouse 82 = .ok (.dup, 1) := by decide +kernel
theorem dX3_addHouse_83 : decode cX3_addHouse 83 = .ok (.getfield 23, 3) := by decide +kernel
theorem dX3_addHouse_86 : decode cX3_addHouse 86 = .ok (.iconst 1, 1) := by decide +kernel
theorem dX3_addHouse_87 : decode cX3_addHouse 87 = .ok (.iadd, 1) := by decide +kernel
theorem dX3_addHouse_88 : decode cX3_addHouse 88 = .ok (.putfield 23, 3) := by decide +kernel
theorem dX3_addHouse_91 : decode cX3_addHouse 91 = .ok (.aload 4, 2) := by decide +kernel
theorem dX3_addHouse_93 : decode cX3_addHouse 93 = .ok (.getfield 49, 3) := by decide +kernel
theorem dX3_addHouse_96 : decode cX3_addHouse 96 = .ok (.ireturn, 1) := by decide +kernel
set_option maxRecDepth 20000 in
theorem ggX3_addPump_X3_requireArgument : GoodIn wsX3_addPump wsX3_requireArgument := goodIn_ca (goodIn_r _ [11, 12, 13] (by decide +kernel) (by decide +kernel)) (goodIn_sub (fun _ h => List.mem_cons_of_mem _ (List.mem_append_right _ h)) (by decide +kernel))
set_option maxRecDepth 20000 in
theorem gX3_addPump_X3_requireArgument : GoodIn wsX3_addPump (va_wsS RX3 19 yX3_requireArgument wsX3_requireArgument) := goodIn_app (goodIn_of _ (by decide +kernel)) ggX3_addPump_X3_requireArgument
theorem dX3_addPump_0 : decode cX3_addPump 0 = .ok (.iload_n 1, 1) := by decide +kernel
theorem dX3_addPump_1 : decode cX3_addPump 1 = .ok (.iconst 0, 1) := by decide +kernel
theorem dX3_addPump_2 : decode cX3_addPump 2 = .ok (.sipush 200, 3) := by decide +kernel
theorem dX3_addPump_5 : decode cX3_addPump 5 = .ok (.invokestatic 19, 3) := by decide +kernel
theorem dX3_addPump_8 : decode cX3_addPump 8 = .ok (.iload_n 2, 1) := by decide +kernel
theorem dX3_addPump_9 : decode cX3_addPump 9 = .ok (.iconst 0, 1) := by decide +kernel
theorem dX3_addPump_10 : decode cX3_addPump 10 = .ok (.bipush 50, 2) := by decide +kernel
theorem dX3_addPump_12 : decode cX3_addPump 12 = .ok (.invokestatic 19, 3) := by decide +kernel
theorem dX3_addPump_15 : decode cX3_addPump 15 = .ok (.aload_n 0, 1) := by decide +kernel
theorem dX3_addPump_16 : decode cX3_addPump 16 = .ok (.getfield 10, 3) := by decide +kernel
theorem dX3_addPump_19 : decode cX3_addPump 19 = .ok (.getfield 52, 3) := by decide +kernel
theorem dX3_addPump_22 : decode cX3_addPump 22 = .ok (.iconst 3, 1) := by decide +kernel
theorem dX3_addPump_23 : decode cX3_addPump 23 = .ok (.if_icmp .lt 13, 3) := by decide +kernel
theorem dX3_addPump_26 : decode cX3_addPump 26 = .ok (.new 27, 3) := by decide +kernel
theorem dX3_addPump_29 : decode cX3_addPump 29 = .ok (.dup, 1) := by decide +kernel
theorem dX3_addPump_30 : decode cX3_addPump 30 = .ok (.ldc 55, 2) := by decide +kernel
theorem dX3_addPump_32 : decode cX3_addPump 32 = .ok (.invokespecial 31, 3) := by decide +kernel
theorem dX3_addPump_35 : decode cX3_addPump 35 = .ok (.athrow, 1) := by decide +kernel
theorem dX3_addPump_36 : decode cX3_addPump 36 = .ok (.aload_n 0, 1) := by decide +kernel
theorem dX3_addPump_37 : decode cX3_addPump 37 = .ok (.getfield 10, 3) := by decide +kernel
theorem dX3_addPump_40 : decode cX3_addPump 40 = .ok (.getfield 52, 3) := by decide +kernel
theorem dX3_addPump_43 : decode cX3_addPump 43 = .ok (.istore_n 3, 1) := by decide +kernel
theorem dX3_addPump_44 : decode cX3_addPump 44 = .ok (.aload_n 0, 1) := by decide +kernel
theorem dX3_addPump_45 : decode cX3_addPump 45 = .ok (.getfield 10, 3) := by decide +kernel
theorem dX3_addPump_48 : decode cX3_addPump 48 = .ok (.getfield 57, 3) := by decide +kernel
theorem dX3_addPump_51 : decode cX3_addPump 51 = .ok (.iload_n 3, 1) := by decide +kernel
theorem dX3_addPump_52 : decode cX3_addPump 52 = .ok (.aaload, 1) := by decide +kernel
theorem dX3_addPump_53 : decode cX3_addPump 53 = .ok (.astore 4, 2) := by decide +kernel
theorem dX3_addPump_55 : decode cX3_addPump 55 = .ok (.aload 4, 2) := by decide +kernel
theorem dX3_addPump_57 : decode cX3_addPump 57 = .ok (.iload_n 1, 1) := by decide +kernel
theorem dX3_addPump_58 : decode cX3_addPump 58 = .ok (.putfield 61, 3) := by decide +kernel
theorem dX3_addPump_61 : decode cX3_addPump 61 = .ok (.aload 4, 2) := by decide +kernel
theorem dX3_addPump_63 : decode cX3_addPump 63 = .ok (.iload_n 2, 1) := by decide +kernel
theorem dX3_addPump_64 : decode cX3_addPump 64 = .ok (.putfield 66, 3) := by decide +kernel
theorem dX3_addPump_67 : decode cX3_addPump 67 = .ok (.aload_n 0, 1) := by decide +kernel
theorem dX3_addPump_68 : decode cX3_addPump 68 = .ok (.getfield 10, 3) := by decide +kernel
theorem dX3_addPump_71 : decode cX3_addPump 71 = .ok (.dup, 1) := by decide +kernel
theorem dX3_addPump_72 : decode cX3_addPump 72 = .ok (.getfield 52, 3) := by decide +kernel
theorem dX3_addPump_75 : decode cX3_addPump 75 = .ok (.iconst 1, 1) := by decide +kernel
theorem dX3_addPump_76 : decode cX3_addPump 76 = .ok (.iadd, 1) := by decide +kernel
theorem dX3_addPump_77 : decode cX3_addPump 77 = .ok (.putfield 52, 3) := by decide +kernel
theorem dX3_addPump_80 : decode cX3_addPump 80 = .ok (.iload_n 3, 1) := by decide +kernel
theorem dX3_addPump_81 : decode cX3_addPump 81 = .ok (.ireturn, 1) := by decide +kernel
set_option maxRecDepth 20000 in
theorem ggX3_lodge_X3_requireHouse : GoodIn wsX3_lodge wsX3_requireHouse := goodIn_ca (goodIn_r _ [8, 9, 10, 1, 11, 12, 13, 14, 15, 16, 22, 23, 24, 25, 26, 27, 28, 29] (by decide +kernel) (by decide +kernel)) (goodIn_sub (fun _ h => List.mem_cons_of_mem _ (List.mem_append_left _ (List.mem_append_right _ h))) (by decide +kernel))
set_option maxRecDepth 20000 in
theorem gX3_lodge_X3_requireHouse : GoodIn wsX3_lodge (wsV RX3 69 RX3 yX3_requireHouse wsX3_requireHouse) := goodIn_app (goodIn_of _ (by decide +kernel)) ggX3_lodge_X3_requireHouse
set_option maxRecDepth 20000 in
theorem ggX3_lodge_X3_requireArgument : GoodIn wsX3_lodge wsX3_requireArgument := goodIn_ca (goodIn_r _ [19, 20, 21] (by decide +kernel) (by decide +kernel)) (goodIn_sub (fun _ h => List.mem_cons_of_mem _ (List.mem_append_right _ h)) (by decide +kernel))
set_option maxRecDepth 20000 in
theorem gX3_lodge_X3_requireArgument : GoodIn wsX3_lodge (va_wsS RX3 19 yX3_requireArgument wsX3_requireArgument) := goodIn_app (goodIn_of _ (by decide +kernel)) ggX3_lodge_X3_requireArgument
theorem dX3_lodge_0 : decode cX3_lodge 0 = .ok (.aload_n 0, 1) := by decide +kernel
theorem dX3_lodge_1 : decode cX3_lodge 1 = .ok (.iload_n 1, 1) := by decide +kernel
theorem dX3_lodge_2 : decode cX3_lodge 2 = .ok (.invokevirtual 69, 3) := by decide +kernel
theorem dX3_lodge_5 : decode cX3_lodge 5 = .ok (.iload_n 2, 1) := by decide +kernel
theorem dX3_lodge_6 : decode cX3_lodge 6 = .ok (.iconst 0, 1) := by decide +kernel
theorem dX3_lodge_7 : decode cX3_lodge 7 = .ok (.bipush 9, 2) := by decide +kernel
theorem dX3_lodge_9 : decode cX3_lodge 9 = .ok (.invokestatic 19, 3) := by decide +kernel
theorem dX3_lodge_12 : decode cX3_lodge 12 = .ok (.aload_n 0, 1) := by decide +kernel
theorem dX3_lodge_13 : decode cX3_lodge 13 = .ok (.getfield 10, 3) := by decide +kernel
theorem dX3_lodge_16 : decode cX3_lodge 16 = .ok (.getfield 34, 3) := by decide +kernel
theorem dX3_lodge_19 : decode cX3_lodge 19 = .ok (.iload_n 1, 1) := by decide +kernel
theorem dX3_lodge_20 : decode cX3_lodge 20 = .ok (.aaload, 1) := by decide +kernel
theorem dX3_lodge_21 : decode cX3_lodge 21 = .ok (.astore_n 3, 1) := by decide +kernel
theorem dX3_lodge_22 : decode cX3_lodge 22 = .ok (.aload_n 3, 1) := by decide +kernel
theorem dX3_lodge_23 : decode cX3_lodge 23 = .ok (.getfield 38, 3) := by decide +kernel
theorem dX3_lodge_26 : decode cX3_lodge 26 = .ok (.istore 4, 2) := by decide +kernel
theorem dX3_lodge_28 : decode cX3_lodge 28 = .ok (.aload_n 3, 1) := by decide +kernel
theorem dX3_lodge_29 : decode cX3_lodge 29 = .ok (.iload_n 2, 1) := by decide +kernel
theorem dX3_lodge_30 : decode cX3_lodge 30 = .ok (.putfield 38, 3) := by decide +kernel
theorem dX3_lodge_33 : decode cX3_lodge 33 = .ok (.iload 4, 2) := by decide +kernel
theorem dX3_lodge_35 : decode cX3_lodge 35 = .ok (.ireturn, 1) := by decide +kernel
set_option maxRecDepth 20000 in
theorem ggX3_prefer_X3_requireHouse : GoodIn wsX3_prefer wsX3_requireHouse := goodIn_ca (goodIn_r _ [8, 9, 10, 1, 11, 12, 13, 14, 15, 16, 26, 27, 28, 29, 30, 31, 32, 33] (by decide +kernel) (by decide +kernel)) (goodIn_sub (fun _ h => List.mem_cons_of_mem _ (List.mem_append_right _ h)) (by decide +kernel))
set_option maxRecDepth 20000 in
theorem gX3_prefer_X3_requireHouse : GoodIn wsX3_prefer (wsV RX3 69 RX3 yX3_requireHouse wsX3_requireHouse) := goodIn_app (goodIn_of _ (by decide +kernel)) ggX3_prefer_X3_requireHouse
set_option maxRecDepth 20000 in
theorem ggX3_prefer_X3_requirePump : GoodIn wsX3_prefer wsX3_requirePump := goodIn_ca (goodIn_r _ [20, 9, 10, 1, 21, 22, 23, 14, 24, 25, 26, 27, 28, 29, 30, 31, 32, 33] (by decide +kernel) (by decide +kernel)) (goodIn_sub (fun _ h => List.mem_cons_of_mem _ (List.mem_append_right _ h)) (by decide +kernel))
set_option maxRecDepth 20000 in
theorem gX3_prefer_X3_requirePump : GoodIn wsX3_prefer (wsV RX3 73 RX3 yX3_requirePump wsX3_requirePump) := goodIn_app (goodIn_of _ (by decide +kernel)) ggX3_prefer_X3_requirePump
theorem dX3_prefer_0 : decode cX3_prefer 0 = .ok (.aload_n 0, 1) := by decide +kernel
theorem dX3_prefer_1 : decode cX3_prefer 1 = .ok (.iload_n 1, 1) := by decide +kernel
theorem dX3_prefer_2 : decode cX3_prefer 2 = .ok (.invokevirtual 69, 3) := by decide +kernel
theorem dX3_prefer_5 : decode cX3_prefer 5 = .ok (.aload_n 0, 1) := by decide +kernel
theorem dX3_prefer_6 : decode cX3_prefer 6 = .ok (.iload_n 2, 1) := by decide +kernel
theorem dX3_prefer_7 : decode cX3_prefer 7 = .ok (.invokevirtual 73, 3) := by decide +kernel
theorem dX3_prefer_10 : decode cX3_prefer 10 = .ok (.aload_n 0, 1) := by decide +kernel
theorem dX3_prefer_11 : decode cX3_prefer 11 = .ok (.getfield 10, 3) := by decide +kernel
theorem dX3_prefer_14 : decode cX3_prefer 14 = .ok (.getfield 34, 3) := by decide +kernel
theorem dX3_prefer_17 : decode cX3_prefer 17 = .ok (.iload_n 1, 1) := by decide +kernel
theorem dX3_prefer_18 : decode cX3_prefer 18 = .ok (.aaload, 1) := by decide +kernel
theorem dX3_prefer_19 : decode cX3_prefer 19 = .ok (.astore_n 3, 1) := by decide +kernel
theorem dX3_prefer_20 : decode cX3_prefer 20 = .ok (.aload_n 3, 1) := by decide +kernel
theorem dX3_prefer_21 : decode cX3_prefer 21 = .ok (.getfield 76, 3) := by decide +kernel
theorem dX3_prefer_24 : decode cX3_prefer 24 = .ok (.istore 4, 2) := by decide +kernel
theorem dX3_prefer_26 : decode cX3_prefer 26 = .ok (.aload_n 3, 1) := by decide +kernel
theorem dX3_prefer_27 : decode cX3_prefer 27 = .ok (.iload_n 2, 1) := by decide +kernel
theorem dX3_prefer_28 : decode cX3_prefer 28 = .ok (.putfield 76, 3) := by decide +kernel
theorem dX3_prefer_31 : decode cX3_prefer 31 = .ok (.iload 4, 2) := by decide +kernel
theorem dX3_prefer_33 : decode cX3_prefer 33 = .ok (.ireturn, 1) := by decide +kernel
set_option maxRecDepth 20000 in
theorem ggX3_leave_X3_requireHouse : GoodIn wsX3_leave wsX3_requireHouse := goodIn_ca (goodIn_r _ [8, 9, 10, 1, 11, 12, 13, 14, 15, 16, 22, 23, 24, 25, 26, 27, 28, 29] (by decide +kernel) (by decide +kernel)) (goodIn_sub (fun _ h => List.mem_cons_of_mem _ (List.mem_append_left _ (List.mem_append_right _ h))) (by decide +kernel))
set_option maxRecDepth 20000 in
theorem gX3_leave_X3_requireHouse : GoodIn wsX3_leave (wsV RX3 69 RX3 yX3_requireHouse wsX3_requireHouse) := goodIn_app (goodIn_of _ (by decide +kernel)) ggX3_leave_X3_requireHouse
set_option maxRecDepth 20000 in
theorem ggX3_leave_X3_requireArgument : GoodIn wsX3_leave wsX3_requireArgument := goodIn_ca (goodIn_r _ [19, 20, 21] (by decide +kernel) (by decide +kernel)) (goodIn_sub (fun _ h => List.mem_cons_of_mem _ (List.mem_append_right _ h)) (by decide +kernel))
set_option maxRecDepth 20000 in
theorem gX3_leave_X3_requireArgument : GoodIn wsX3_leave (va_wsS RX3 19 yX3_requireArgument wsX3_requireArgument) := goodIn_app (goodIn_of _ (by decide +kernel)) ggX3_leave_X3_requireArgument
theorem dX3_leave_0 : decode cX3_leave 0 = .ok (.aload_n 0, 1) := by decide +kernel
theorem dX3_leave_1 : decode cX3_leave 1 = .ok (.iload_n 1, 1) := by decide +kernel
theorem dX3_leave_2 : decode cX3_leave 2 = .ok (.invokevirtual 69, 3) := by decide +kernel
theorem dX3_leave_5 : decode cX3_leave 5 = .ok (.iload_n 2, 1) := by decide +kernel
theorem dX3_leave_6 : decode cX3_leave 6 = .ok (.iconst 0, 1) := by decide +kernel
theorem dX3_leave_7 : decode cX3_leave 7 = .ok (.bipush 30, 2) := by decide +kernel
theorem dX3_leave_9 : decode cX3_leave 9 = .ok (.invokestatic 19, 3) := by decide +kernel
theorem dX3_leave_12 : decode cX3_leave 12 = .ok (.aload_n 0, 1) := by decide +kernel
theorem dX3_leave_13 : decode cX3_leave 13 = .ok (.getfield 10, 3) := by decide +kernel
theorem dX3_leave_16 : decode cX3_leave 16 = .ok (.getfield 34, 3) := by decide +kernel
theorem dX3_leave_19 : decode cX3_leave 19 = .ok (.iload_n 1, 1) := by decide +kernel
theorem dX3_leave_20 : decode cX3_leave 20 = .ok (.aaload, 1) := by decide +kernel
theorem dX3_leave_21 : decode cX3_leave 21 = .ok (.astore_n 3, 1) := by decide +kernel
theorem dX3_leave_22 : decode cX3_leave 22 = .ok (.aload_n 3, 1) := by decide +kernel
theorem dX3_leave_23 : decode cX3_leave 23 = .ok (.getfield 79, 3) := by decide +kernel
theorem dX3_leave_26 : decode cX3_leave 26 = .ok (.istore 4, 2) := by decide +kernel
theorem dX3_leave_28 : decode cX3_leave 28 = .ok (.aload_n 3, 1) := by decide +kernel
theorem dX3_leave_29 : decode cX3_leave 29 = .ok (.iload_n 2, 1) := by decide +kernel
theorem dX3_leave_30 : decode cX3_leave 30 = .ok (.putfield 79, 3) := by decide +kernel
theorem dX3_leave_33 : decode cX3_leave 33 = .ok (.iload 4, 2) := by decide +kernel
theorem dX3_leave_35 : decode cX3_leave 35 = .ok (.ireturn, 1) := by decide +kernel
set_option maxRecDepth 20000 in
theorem ggX3_fine_X3_requireHouse : GoodIn wsX3_fine wsX3_requireHouse := goodIn_ca (goodIn_r _ [7, 8, 9, 1, 10, 11, 12, 13, 14, 15, 48, 49, 50, 51, 52, 53, 54, 55] (by decide +kernel) (by decide +kernel)) (goodIn_sub (fun _ h => List.mem_cons_of_mem _ (List.mem_append_left _ (List.mem_append_right _ h))) (by decide +kernel))
set_option maxRecDepth 20000 in
theorem gX3_fine_X3_requireHouse : GoodIn wsX3_fine (wsV RX3 69 RX3 yX3_requireHouse wsX3_requireHouse) := goodIn_app (goodIn_of _ (by decide +kernel)) ggX3_fine_X3_requireHouse
set_option maxRecDepth 20000 in
theorem ggX3_fine_X3_requireArgument : GoodIn wsX3_fine wsX3_requireArgument := goodIn_ca (goodIn_r _ [18, 19, 20] (by decide +kernel) (by decide +kernel)) (goodIn_sub (fun _ h => List.mem_cons_of_mem _ (List.mem_append_right _ h)) (by decide +kernel))
set_option maxRecDepth 20000 in
theorem gX3_fine_X3_requireArgument : GoodIn wsX3_fine (va_wsS RX3 19 yX3_requireArgument wsX3_requireArgument) := goodIn_app (goodIn_of _ (by decide +kernel)) ggX3_fine_X3_requireArgument
set_option maxRecDepth 20000 in
theorem ggX3_fine_X2_charge : GoodIn wsX3_fine wsX2_charge := goodIn_r _ [24, 25, 26, 27, 28, 29, 30, 31, 32, 33, 34, 35, 36, 37, 38, 39, 40, 41, 42, 43, 44, 45, 46, 47, 56, 57, 58, 59, 60, 61, 62, 63, 64, 65, 66, 67, 50, 51, 52, 53, 54, 55, 68, 69, 70, 71, 72, 73, 74, 75, 76, 77, 78, 79, 80, 81] (by decide +kernel) (by decide +kernel)
set_option maxRecDepth 20000 in
theorem gX3_fine_X2_charge : GoodIn wsX3_fine (wsV RX3 82 RX2 yX2_charge wsX2_charge) := goodIn_app (goodIn_of _ (by decide +kernel)) ggX3_fine_X2_charge
theorem dX3_fine_0 : decode cX3_fine 0 = .ok (.aload_n 0, 1) := by decide +kernel
theorem dX3_fine_1 : decode cX3_fine 1 = .ok (.iload_n 1, 1) := by decide +kernel
theorem dX3_fine_2 : decode cX3_fine 2 = .ok (.invokevirtual 69, 3) := by decide +kernel
theorem dX3_fine_5 : decode cX3_fine 5 = .ok (.iload_n 2, 1) := by decide +kernel
theorem dX3_fine_6 : decode cX3_fine 6 = .ok (.iconst 1, 1) := by decide +kernel
theorem dX3_fine_7 : decode cX3_fine 7 = .ok (.bipush 50, 2) := by decide +kernel
theorem dX3_fine_9 : decode cX3_fine 9 = .ok (.invokestatic 19, 3) := by decide +kernel
theorem dX3_fine_12 : decode cX3_fine 12 = .ok (.aload_n 0, 1) := by decide +kernel
theorem dX3_fine_13 : decode cX3_fine 13 = .ok (.getfield 10, 3) := by decide +kernel
theorem dX3_fine_16 : decode cX3_fine 16 = .ok (.aload_n 0, 1) := by decide +kernel
theorem dX3_fine_17 : decode cX3_fine 17 = .ok (.getfield 10, 3) := by decide +kernel
theorem dX3_fine_20 : decode cX3_fine 20 = .ok (.getfield 34, 3) := by decide +kernel
theorem dX3_fine_23 : decode cX3_fine 23 = .ok (.iload_n 1, 1) := by decide +kernel
theorem dX3_fine_24 : decode cX3_fine 24 = .ok (.aaload, 1) := by decide +kernel
theorem dX3_fine_25 : decode cX3_fine 25 = .ok (.iload_n 2, 1) := by decide +kernel
theorem dX3_fine_26 : decode cX3_fine 26 = .ok (.invokevirtual 82, 3) := by decide +kernel
theorem dX3_fine_29 : decode cX3_fine 29 = .ok (.ireturn, 1) := by decide +kernel
set_option maxRecDepth 20000 in
theorem ggX3_enrol_X3_requirePump : GoodIn wsX3_enrol wsX3_requirePump := goodIn_ca (goodIn_r _ [12, 13, 14, 3, 15, 16, 17, 18, 19, 20, 41, 42, 43, 44, 45, 46, 47, 48] (by decide +kernel) (by decide +kernel)) (goodIn_sub (fun _ h => List.mem_cons_of_mem _ (List.mem_append_right _ h)) (by decide +kernel))
set_option maxRecDepth 20000 in
theorem gX3_enrol_X3_requirePump : GoodIn wsX3_enrol (wsV RX3 73 RX3 yX3_requirePump wsX3_requirePump) := goodIn_app (goodIn_of _ (by decide +kernel)) ggX3_enrol_X3_requirePump
set_option maxRecDepth 20000 in
theorem ggX3_enrol_X3_requireHouse : GoodIn wsX3_enrol wsX3_requireHouse := goodIn_ca (goodIn_r _ [24, 13, 14, 3, 25, 26, 27, 18, 28, 29, 41, 42, 43, 44, 45, 46, 47, 48] (by decide +kernel) (by decide +kernel)) (goodIn_sub (fun _ h => List.mem_cons_of_mem _ (List.mem_append_right _ h)) (by decide +kernel))
set_option maxRecDepth 20000 in
theorem gX3_enrol_X3_requireHouse : GoodIn wsX3_enrol (wsV RX3 69 RX3 yX3_requireHouse wsX3_requireHouse) := goodIn_app (goodIn_of _ (by decide +kernel)) ggX3_enrol_X3_requireHouse
set_option maxRecDepth 20000 in
theorem ggX3_enrol_X1_placeOf : GoodIn wsX3_enrol wsX1_placeOf := goodIn_r _ [34, 35, 36, 61, 62, 63, 64, 65, 66, 67, 68, 69, 70, 71, 72, 73, 74] (by decide +kernel) (by decide +kernel)
set_option maxRecDepth 20000 in
theorem gX3_enrol_X1_placeOf : GoodIn wsX3_enrol (wsV RX3 86 RX1 yX1_placeOf wsX1_placeOf) := goodIn_app (goodIn_of _ (by decide +kernel)) ggX3_enrol_X1_placeOf
set_option maxRecDepth 20000 in
theorem ggX3_enrol_X1_append : GoodIn wsX3_enrol wsX1_append := goodIn_r _ [40, 35, 36, 61, 62, 63, 64, 65, 66, 67, 68, 69, 70, 71, 72, 73, 74] (by decide +kernel) (by decide +kernel)
set_option maxRecDepth 20000 in
theorem gX3_enrol_X1_append : GoodIn wsX3_enrol (wsV RX3 97 RX1 yX1_append wsX1_append) := goodIn_app (goodIn_of _ (by decide +kernel)) ggX3_enrol_X1_append
theorem dX3_enrol_0 : decode cX3_enrol 0 = .ok (.aload_n 0, 1) := by decide +kernel
theorem dX3_enrol_1 : decode cX3_enrol 1 = .ok (.iload_n 1, 1) := by decide +kernel
theorem dX3_enrol_2 : decode cX3_enrol 2 = .ok (.invokevirtual 73, 3) := by decide +kernel
theorem dX3_enrol_5 : decode cX3_enrol 5 = .ok (.aload_n 0, 1) := by decide +kernel
theorem dX3_enrol_6 : decode cX3_enrol 6 = .ok (.iload_n 2, 1) := by decide +kernel
theorem dX3_enrol_7 : decode cX3_enrol 7 = .ok (.invokevirtual 69, 3) := by decide +kernel
theorem dX3_enrol_10 : decode cX3_enrol 10 = .ok (.aload_n 0, 1) := by decide +kernel
theorem dX3_enrol_11 : decode cX3_enrol 11 = .ok (.getfield 10, 3) := by decide +kernel
theorem dX3_enrol_14 : decode cX3_enrol 14 = .ok (.getfield 57, 3) := by decide +kernel
theorem dX3_enrol_17 : decode cX3_enrol 17 = .ok (.iload_n 1, 1) := by decide +kernel
theorem dX3_enrol_18 : decode cX3_enrol 18 = .ok (.aaload, 1) := by decide +kernel
theorem dX3_enrol_19 : decode cX3_enrol 19 = .ok (.astore_n 3, 1) := by decide +kernel
theorem dX3_enrol_20 : decode cX3_enrol 20 = .ok (.aload_n 3, 1) := by decide +kernel
theorem dX3_enrol_21 : decode cX3_enrol 21 = .ok (.iload_n 2, 1) := by decide +kernel
theorem dX3_enrol_22 : decode cX3_enrol 22 = .ok (.invokevirtual 86, 3) := by decide +kernel
theorem dX3_enrol_25 : decode cX3_enrol 25 = .ok (.iconst (-1), 1) := by decide +kernel
theorem dX3_enrol_26 : decode cX3_enrol 26 = .ok (.if_icmp .eq 13, 3) := by decide +kernel
theorem dX3_enrol_29 : decode cX3_enrol 29 = .ok (.new 27, 3) := by decide +kernel
theorem dX3_enrol_32 : decode cX3_enrol 32 = .ok (.dup, 1) := by decide +kernel
theorem dX3_enrol_33 : decode cX3_enrol 33 = .ok (.ldc 90, 2) := by decide +kernel
theorem dX3_enrol_35 : decode cX3_enrol 35 = .ok (.invokespecial 31, 3) := by decide +kernel
theorem dX3_enrol_38 : decode cX3_enrol 38 = .ok (.athrow, 1) := by decide +kernel
theorem dX3_enrol_39 : decode cX3_enrol 39 = .ok (.aload_n 0, 1) := by decide +kernel
theorem dX3_enrol_40 : decode cX3_enrol 40 = .ok (.getfield 10, 3) := by decide +kernel
theorem dX3_enrol_43 : decode cX3_enrol 43 = .ok (.getfield 34, 3) := by decide +kernel
theorem dX3_enrol_46 : decode cX3_enrol 46 = .ok (.iload_n 2, 1) := by decide +kernel
theorem dX3_enrol_47 : decode cX3_enrol 47 = .ok (.aaload, 1) := by decide +kernel
theorem dX3_enrol_48 : decode cX3_enrol 48 = .ok (.getfield 92, 3) := by decide +kernel
theorem dX3_enrol_51 : decode cX3_enrol 51 = .ok (.iconst 3, 1) := by decide +kernel
theorem dX3_enrol_52 : decode cX3_enrol 52 = .ok (.if_icmp .lt 13, 3) := by decide +kernel
theorem dX3_enrol_55 : decode cX3_enrol 55 = .ok (.new 27, 3) := by decide +kernel
theorem dX3_enrol_58 : decode cX3_enrol 58 = .ok (.dup, 1) := by decide +kernel
theorem dX3_enrol_59 : decode cX3_enrol 59 = .ok (.ldc 95, 2) := by decide +kernel
theorem dX3_enrol_61 : decode cX3_enrol 61 = .ok (.invokespecial 31, 3) := by decide +kernel
theorem dX3_enrol_64 : decode cX3_enrol 64 = .ok (.athrow, 1) := by decide +kernel
theorem dX3_enrol_65 : decode cX3_enrol 65 = .ok (.aload_n 3, 1) := by decide +kernel
theorem dX3_enrol_66 : decode cX3_enrol 66 = .ok (.iload_n 2, 1) := by decide +kernel
theorem dX3_enrol_67 : decode cX3_enrol 67 = .ok (.invokevirtual 97, 3) := by decide +kernel
theorem dX3_enrol_70 : decode cX3_enrol 70 = .ok (.aload_n 3, 1) := by decide +kernel
theorem dX3_enrol_71 : decode cX3_enrol 71 = .ok (.getfield 100, 3) := by decide +kernel
theorem dX3_enrol_74 : decode cX3_enrol 74 = .ok (.ireturn, 1) := by decide +kernel
set_option maxRecDepth 20000 in
theorem ggX3_roster_X3_requirePlace : GoodIn wsX3_roster wsX3_requirePlace := goodIn_ca (goodIn_r _ [7, 8, 9, 1, 2, 10, 11, 12, 13, 6, 14, 15, 16, 17, 18, 19, 20, 28, 29, 30, 31, 32, 33, 34, 35, 36, 37, 38, 39, 40, 41, 42, 43, 44, 45, 46, 47, 48, 49] (by decide +kernel) (by decide +kernel)) (goodIn_sub (fun _ h => List.mem_cons_of_mem _ (List.mem_append_right _ h)) (by decide +kernel))
set_option maxRecDepth 20000 in
theorem gX3_roster_X3_requirePlace : GoodIn wsX3_roster (wsV RX3 103 RX3 yX3_requirePlace wsX3_requirePlace) := goodIn_app (goodIn_of _ (by decide +kernel)) ggX3_roster_X3_requirePlace
set_option maxRecDepth 20000 in
theorem ggX3_roster_X1_houseAt : GoodIn wsX3_roster wsX1_houseAt := goodIn_r _ [25, 26, 27, 36, 37, 38, 39, 40, 41, 42, 43, 44, 45, 46, 47, 48, 49] (by decide +kernel) (by decide +kernel)
set_option maxRecDepth 20000 in
theorem gX3_roster_X1_houseAt : GoodIn wsX3_roster (wsV RX3 114 RX1 yX1_houseAt wsX1_houseAt) := goodIn_app (goodIn_of _ (by decide +kernel)) ggX3_roster_X1_houseAt
theorem dX3_roster_0 : decode cX3_roster 0 = .ok (.aload_n 0, 1) := by decide +kernel
theorem dX3_roster_1 : decode cX3_roster 1 = .ok (.iload_n 1, 1) := by decide +kernel
theorem dX3_roster_2 : decode cX3_roster 2 = .ok (.iload_n 2, 1) := by decide +kernel
theorem dX3_roster_3 : decode cX3_roster 3 = .ok (.invokevirtual 103, 3) := by decide +kernel
theorem dX3_roster_6 : decode cX3_roster 6 = .ok (.aload_n 0, 1) := by decide +kernel
theorem dX3_roster_7 : decode cX3_roster 7 = .ok (.getfield 10, 3) := by decide +kernel
theorem dX3_roster_10 : decode cX3_roster 10 = .ok (.getfield 57, 3) := by decide +kernel
theorem dX3_roster_13 : decode cX3_roster 13 = .ok (.iload_n 1, 1) := by decide +kernel
theorem dX3_roster_14 : decode cX3_roster 14 = .ok (.aaload, 1) := by decide +kernel
theorem dX3_roster_15 : decode cX3_roster 15 = .ok (.iload_n 2, 1) := by decide +kernel
theorem dX3_roster_16 : decode cX3_roster 16 = .ok (.invokevirtual 114, 3) := by decide +kernel
theorem dX3_roster_19 : decode cX3_roster 19 = .ok (.ireturn, 1) := by decide +kernel
set_option maxRecDepth 20000 in
theorem ggX3_ahead_X3_requirePump : GoodIn wsX3_ahead wsX3_requirePump := goodIn_ca (goodIn_r _ [9, 10, 11, 1, 12, 13, 14, 15, 16, 17, 34, 35, 36, 37, 38, 39, 40, 41] (by decide +kernel) (by decide +kernel)) (goodIn_sub (fun _ h => List.mem_cons_of_mem _ (List.mem_append_right _ h)) (by decide +kernel))
set_option maxRecDepth 20000 in
theorem gX3_ahead_X3_requirePump : GoodIn wsX3_ahead (wsV RX3 73 RX3 yX3_requirePump wsX3_requirePump) := goodIn_app (goodIn_of _ (by decide +kernel)) ggX3_ahead_X3_requirePump
set_option maxRecDepth 20000 in
theorem ggX3_ahead_X3_requireHouse : GoodIn wsX3_ahead wsX3_requireHouse := goodIn_ca (goodIn_r _ [21, 10, 11, 1, 22, 23, 24, 15, 25, 26, 34, 35, 36, 37, 38, 39, 40, 41] (by decide +kernel) (by decide +kernel)) (goodIn_sub (fun _ h => List.mem_cons_of_mem _ (List.mem_append_right _ h)) (by decide +kernel))
set_option maxRecDepth 20000 in
theorem gX3_ahead_X3_requireHouse : GoodIn wsX3_ahead (wsV RX3 69 RX3 yX3_requireHouse wsX3_requireHouse) := goodIn_app (goodIn_of _ (by decide +kernel)) ggX3_ahead_X3_requireHouse
set_option maxRecDepth 20000 in
theorem ggX3_ahead_X1_placeOf : GoodIn wsX3_ahead wsX1_placeOf := goodIn_r _ [31, 32, 33, 42, 43, 44, 45, 46, 47, 48, 49, 50, 51, 52, 53, 54, 55] (by decide +kernel) (by decide +kernel)
set_option maxRecDepth 20000 in
theorem gX3_ahead_X1_placeOf : GoodIn wsX3_ahead (wsV RX3 86 RX1 yX1_placeOf wsX1_placeOf) := goodIn_app (goodIn_of _ (by decide +kernel)) ggX3_ahead_X1_placeOf
theorem dX3_ahead_0 : decode cX3_ahead 0 = .ok (.aload_n 0, 1) := by decide +kernel
theorem dX3_ahead_1 : decode cX3_ahead 1 = .ok (.iload_n 1, 1) := by decide +kernel
theorem dX3_ahead_2 : decode cX3_ahead 2 = .ok (.invokevirtual 73, 3) := by decide +kernel
theorem dX3_ahead_5 : decode cX3_ahead 5 = .ok (.aload_n 0, 1) := by decide +kernel
theorem dX3_ahead_6 : decode cX3_ahead 6 = .ok (.iload_n 2, 1) := by decide +kernel
theorem dX3_ahead_7 : decode cX3_ahead 7 = .ok (.invokevirtual 69, 3) := by decide +kernel
theorem dX3_ahead_10 : decode cX3_ahead 10 = .ok (.aload_n 0, 1) := by decide +kernel
theorem dX3_ahead_11 : decode cX3_ahead 11 = .ok (.getfield 10, 3) := by decide +kernel
theorem dX3_ahead_14 : decode cX3_ahead 14 = .ok (.getfield 57, 3) := by decide +kernel
theorem dX3_ahead_17 : decode cX3_ahead 17 = .ok (.iload_n 1, 1) := by decide +kernel
theorem dX3_ahead_18 : decode cX3_ahead 18 = .ok (.aaload, 1) := by decide +kernel
theorem dX3_ahead_19 : decode cX3_ahead 19 = .ok (.astore_n 3, 1) := by decide +kernel
theorem dX3_ahead_20 : decode cX3_ahead 20 = .ok (.aload_n 3, 1) := by decide +kernel
theorem dX3_ahead_21 : decode cX3_ahead 21 = .ok (.iload_n 2, 1) := by decide +kernel
theorem dX3_ahead_22 : decode cX3_ahead 22 = .ok (.invokevirtual 86, 3) := by decide +kernel
theorem dX3_ahead_25 : decode cX3_ahead 25 = .ok (.istore 4, 2) := by decide +kernel
theorem dX3_ahead_27 : decode cX3_ahead 27 = .ok (.iload 4, 2) := by decide +kernel
theorem dX3_ahead_29 : decode cX3_ahead 29 = .ok (.iconst (-1), 1) := by decide +kernel
theorem dX3_ahead_30 : decode cX3_ahead 30 = .ok (.if_icmp .ne 5, 3) := by decide +kernel
theorem dX3_ahead_33 : decode cX3_ahead 33 = .ok (.iconst (-1), 1) := by decide +kernel
theorem dX3_ahead_34 : decode cX3_ahead 34 = .ok (.ireturn, 1) := by decide +kernel
theorem dX3_ahead_35 : decode cX3_ahead 35 = .ok (.iload 4, 2) := by decide +kernel
theorem dX3_ahead_37 : decode cX3_ahead 37 = .ok (.aload_n 3, 1) := by decide +kernel
theorem dX3_ahead_38 : decode cX3_ahead 38 = .ok (.getfield 111, 3) := by decide +kernel
theorem dX3_ahead_41 : decode cX3_ahead 41 = .ok (.if_icmp .lt 13, 3) := by decide +kernel
theorem dX3_ahead_44 : decode cX3_ahead 44 = .ok (.iload 4, 2) := by decide +kernel
theorem dX3_ahead_46 : decode cX3_ahead 46 = .ok (.aload_n 3, 1) := by decide +kernel
theorem dX3_ahead_47 : decode cX3_ahead 47 = .ok (.getfield 111, 3) := by decide +kernel
theorem dX3_ahead_50 : decode cX3_ahead 50 = .ok (.isub, 1) := by decide +kernel
theorem dX3_ahead_51 : decode cX3_ahead 51 = .ok (.goto 15, 3) := by decide +kernel
theorem dX3_ahead_54 : decode cX3_ahead 54 = .ok (.iload 4, 2) := by decide +kernel
theorem dX3_ahead_56 : decode cX3_ahead 56 = .ok (.aload_n 3, 1) := by decide +kernel
theorem dX3_ahead_57 : decode cX3_ahead 57 = .ok (.getfield 111, 3) := by decide +kernel
theorem dX3_ahead_60 : decode cX3_ahead 60 = .ok (.isub, 1) := by decide +kernel
theorem dX3_ahead_61 : decode cX3_ahead 61 = .ok (.aload_n 3, 1) := by decide +kernel
theorem dX3_ahead_62 : decode cX3_ahead 62 = .ok (.getfield 100, 3) := by decide +kernel
theorem dX3_ahead_65 : decode cX3_ahead 65 = .ok (.iadd, 1) := by decide +kernel
theorem dX3_ahead_66 : decode cX3_ahead 66 = .ok (.ireturn, 1) := by decide +kernel
set_option maxRecDepth 20000 in
theorem ggX3_house_X3_requireHouse : GoodIn wsX3_house wsX3_requireHouse := goodIn_ca (goodIn_r _ [7, 8, 9, 1, 10, 11, 12, 13, 14, 15, 41, 42, 43, 44, 45, 46, 47, 48] (by decide +kernel) (by decide +kernel)) (goodIn_sub (fun _ h => List.mem_cons_of_mem _ (List.mem_append_right _ h)) (by decide +kernel))
set_option maxRecDepth 20000 in
theorem gX3_house_X3_requireHouse : GoodIn wsX3_house (wsV RX3 69 RX3 yX3_requireHouse wsX3_requireHouse) := goodIn_app (goodIn_of _ (by decide +kernel)) ggX3_house_X3_requireHouse
set_option maxRecDepth 20000 in
theorem ggX3_house_X3_requireIndex : GoodIn wsX3_house wsX3_requireIndex := goodIn_ca (goodIn_r _ [18, 8, 9] (by decide +kernel) (by decide +kernel)) (goodIn_sub (fun _ h => List.mem_cons_of_mem _ (List.mem_append_right _ h)) (by decide +kernel))
set_option maxRecDepth 20000 in
theorem gX3_house_X3_requireIndex : GoodIn wsX3_house (va_wsS RX3 117 yX3_requireIndex wsX3_requireIndex) := goodIn_app (goodIn_of _ (by decide +kernel)) ggX3_house_X3_requireIndex
set_option maxRecDepth 20000 in
theorem ggX3_house_X2_houseFact : GoodIn wsX3_house wsX2_houseFact := goodIn_r _ [22, 23, 24, 25, 26, 27, 28, 29, 30, 31, 32, 33, 34, 35, 36, 13, 37, 38, 39, 40, 49, 50, 51, 52, 53, 54, 55, 56, 57, 58, 59, 60, 43, 44, 45, 46, 47, 48, 61, 62, 63, 64, 65, 66, 67, 68, 69, 70, 71, 72, 73, 74] (by decide +kernel) (by decide +kernel)
set_option maxRecDepth 20000 in
theorem gX3_house_X2_houseFact : GoodIn wsX3_house (wsV RX3 120 RX2 yX2_houseFact wsX2_houseFact) := goodIn_app (goodIn_of _ (by decide +kernel)) ggX3_house_X2_houseFact
theorem dX3_house_0 : decode cX3_house 0 = .ok (.aload_n 0, 1) := by decide +kernel
theorem dX3_house_1 : decode cX3_house 1 = .ok (.iload_n 1, 1) := by decide +kernel
theorem dX3_house_2 : decode cX3_house 2 = .ok (.invokevirtual 69, 3) := by decide +kernel
theorem dX3_house_5 : decode cX3_house 5 = .ok (.iload_n 2, 1) := by decide +kernel
theorem dX3_house_6 : decode cX3_house 6 = .ok (.bipush 10, 2) := by decide +kernel
theorem dX3_house_8 : decode cX3_house 8 = .ok (.invokestatic 117, 3) := by decide +kernel
theorem dX3_house_11 : decode cX3_house 11 = .ok (.aload_n 0, 1) := by decide +kernel
theorem dX3_house_12 : decode cX3_house 12 = .ok (.getfield 10, 3) := by decide +kernel
theorem dX3_house_15 : decode cX3_house 15 = .ok (.aload_n 0, 1) := by decide +kernel
theorem dX3_house_16 : decode cX3_house 16 = .ok (.getfield 10, 3) := by decide +kernel
theorem dX3_house_19 : decode cX3_house 19 = .ok (.getfield 34, 3) := by decide +kernel
theorem dX3_house_22 : decode cX3_house 22 = .ok (.iload_n 1, 1) := by decide +kernel
theorem dX3_house_23 : decode cX3_house 23 = .ok (.aaload, 1) := by decide +kernel
theorem dX3_house_24 : decode cX3_house 24 = .ok (.iload_n 2, 1) := by decide +kernel
theorem dX3_house_25 : decode cX3_house 25 = .ok (.invokevirtual 120, 3) := by decide +kernel
theorem dX3_house_28 : decode cX3_house 28 = .ok (.ireturn, 1) := by decide +kernel
set_option maxRecDepth 20000 in
theorem ggX3_pump_X3_requirePump : GoodIn wsX3_pump wsX3_requirePump := goodIn_ca (goodIn_r _ [7, 8, 9, 1, 10, 11, 12, 13, 14, 15, 35, 36, 37, 38, 39, 40, 41, 42] (by decide +kernel) (by decide +kernel)) (goodIn_sub (fun _ h => List.mem_cons_of_mem _ (List.mem_append_right _ h)) (by decide +kernel))
set_option maxRecDepth 20000 in
theorem gX3_pump_X3_requirePump : GoodIn wsX3_pump (wsV RX3 73 RX3 yX3_requirePump wsX3_requirePump) := goodIn_app (goodIn_of _ (by decide +kernel)) ggX3_pump_X3_requirePump
set_option maxRecDepth 20000 in
theorem ggX3_pump_X3_requireIndex : GoodIn wsX3_pump wsX3_requireIndex := goodIn_ca (goodIn_r _ [18, 8, 9] (by decide +kernel) (by decide +kernel)) (goodIn_sub (fun _ h => List.mem_cons_of_mem _ (List.mem_append_right _ h)) (by decide +kernel))
set_option maxRecDepth 20000 in
theorem gX3_pump_X3_requireIndex : GoodIn wsX3_pump (va_wsS RX3 117 yX3_requireIndex wsX3_requireIndex) := goodIn_app (goodIn_of _ (by decide +kernel)) ggX3_pump_X3_requireIndex
set_option maxRecDepth 20000 in
theorem ggX3_pump_X1_fact : GoodIn wsX3_pump wsX1_fact := goodIn_r _ [23, 24, 25, 26, 27, 28, 29, 30, 31, 32, 33, 34, 43, 44, 45, 46, 47, 48, 49, 50, 51, 52, 53, 54, 55, 56] (by decide +kernel) (by decide +kernel)
set_option maxRecDepth 20000 in
theorem gX3_pump_X1_fact : GoodIn wsX3_pump (wsV RX3 123 RX1 yX1_fact wsX1_fact) := goodIn_app (goodIn_of _ (by decide +kernel)) ggX3_pump_X1_fact
theorem dX3_pump_0 : decode cX3_pump 0 = .ok (.aload_n 0, 1) := by decide +kernel
theorem dX3_pump_1 : decode cX3_pump 1 = .ok (.iload_n 1, 1) := by decide +kernel
theorem dX3_pump_2 : decode cX3_pump 2 = .ok (.invokevirtual 73, 3) := by decide +kernel
theorem dX3_pump_5 : decode cX3_pump 5 = .ok (.iload_n 2, 1) := by decide +kernel
theorem dX3_pump_6 : decode cX3_pump 6 = .ok (.bipush 10, 2) := by decide +kernel
theorem dX3_pump_8 : decode cX3_pump 8 = .ok (.invokestatic 117, 3) := by decide +kernel
theorem dX3_pump_11 : decode cX3_pump 11 = .ok (.aload_n 0, 1) := by decide +kernel
theorem dX3_pump_12 : decode cX3_pump 12 = .ok (.getfield 10, 3) := by decide +kernel
theorem dX3_pump_15 : decode cX3_pump 15 = .ok (.getfield 57, 3) := by decide +kernel
theorem dX3_pump_18 : decode cX3_pump 18 = .ok (.iload_n 1, 1) := by decide +kernel
theorem dX3_pump_19 : decode cX3_pump 19 = .ok (.aaload, 1) := by decide +kernel
theorem dX3_pump_20 : decode cX3_pump 20 = .ok (.iload_n 2, 1) := by decide +kernel
theorem dX3_pump_21 : decode cX3_pump 21 = .ok (.invokevirtual 123, 3) := by decide +kernel
theorem dX3_pump_24 : decode cX3_pump 24 = .ok (.ireturn, 1) := by decide +kernel
set_option maxRecDepth 20000 in
theorem ggX3_pass_X3_requireArgument : GoodIn wsX3_pass wsX3_requireArgument := goodIn_ca (goodIn_r _ [5, 6, 7] (by decide +kernel) (by decide +kernel)) (goodIn_sub (fun _ h => List.mem_cons_of_mem _ (List.mem_append_right _ h)) (by decide +kernel))
set_option maxRecDepth 20000 in
theorem gX3_pass_X3_requireArgument : GoodIn wsX3_pass (va_wsS RX3 19 yX3_requireArgument wsX3_requireArgument) := goodIn_app (goodIn_of _ (by decide +kernel)) ggX3_pass_X3_requireArgument
set_option maxRecDepth 20000 in
theorem ggX3_pass_X2_runDays : GoodIn wsX3_pass wsX2_runDays := goodIn_r _ [12, 13, 14, 15, 11, 16, 17, 18, 19, 20, 21, 22, 23, 24, 25, 26, 27, 28, 29, 30, 31, 32, 33, 34, 35, 36, 37, 38, 39, 40, 41, 42, 43, 44, 45, 46, 47, 48, 49, 50, 51, 52, 53, 54, 55, 56, 57, 58, 59, 60, 61, 62, 63, 64, 65, 66, 67, 68, 69, 70, 71, 72, 73, 74, 75, 76, 77, 78, 79, 80, 81, 82, 83, 84, 85, 86, 87, 88, 89, 90, 91, 92, 93, 94, 95, 96, 97, 98, 99, 100, 101, 102, 103, 104, 105, 106, 107, 108, 109, 110, 111, 112, 113, 114, 115, 116, 117, 118, 119, 120, 121, 122, 123, 124, 125, 126, 127, 128, 129, 130, 131, 132, 133, 134, 135, 136, 137, 138, 139, 140, 141, 142, 143, 144, 145, 146, 147, 148, 149, 150, 151, 152, 153, 154, 155, 156, 157, 158, 159, 160, 161, 162, 165, 166, 167, 168, 169, 170, 171, 172, 173, 174, 175, 176, 177, 178, 179, 180, 181, 182, 183, 184, 185, 186, 187, 188, 189, 190, 191, 192, 193, 194, 195, 196] (by decide +kernel) (by decide +kernel)
set_option maxRecDepth 20000 in
theorem gX3_pass_X2_runDays : GoodIn wsX3_pass (wsV RX3 126 RX2 yX2_runDays wsX2_runDays) := goodIn_app (goodIn_of _ (by decide +kernel)) ggX3_pass_X2_runDays
theorem dX3_pass_0 : decode cX3_pass 0 = .ok (.iload_n 1, 1) := by decide +kernel
theorem dX3_pass_1 : decode cX3_pass 1 = .ok (.iconst 1, 1) := by decide +kernel
theorem dX3_pass_2 : decode cX3_pass 2 = .ok (.bipush 100, 2) := by decide +kernel
theorem dX3_pass_4 : decode cX3_pass 4 = .ok (.invokestatic 19, 3) := by decide +kernel
theorem dX3_pass_7 : decode cX3_pass 7 = .ok (.aload_n 0, 1) := by decide +kernel
theorem dX3_pass_8 : decode cX3_pass 8 = .ok (.getfield 10, 3) := by decide +kernel
theorem dX3_pass_11 : decode cX3_pass 11 = .ok (.iload_n 1, 1) := by decide +kernel
theorem dX3_pass_12 : decode cX3_pass 12 = .ok (.invokevirtual 126, 3) := by decide +kernel
theorem dX3_pass_15 : decode cX3_pass 15 = .ok (.ireturn, 1) := by decide +kernel
set_option maxRecDepth 20000 in
theorem ggX3_count_X3_requireIndex : GoodIn wsX3_count wsX3_requireIndex := goodIn_ca (goodIn_r _ [5, 6, 7] (by decide +kernel) (by decide +kernel)) (goodIn_sub (fun _ h => List.mem_cons_of_mem _ (List.mem_append_right _ h)) (by decide +kernel))
set_option maxRecDepth 20000 in
theorem gX3_count_X3_requireIndex : GoodIn wsX3_count (va_wsS RX3 117 yX3_requireIndex wsX3_requireIndex) := goodIn_app (goodIn_of _ (by decide +kernel)) ggX3_count_X3_requireIndex
set_option maxRecDepth 20000 in
theorem ggX3_count_X2_total : GoodIn wsX3_count wsX2_total := goodIn_r _ [12, 13, 14, 15, 16, 17, 18, 19, 11, 20, 21, 22, 23, 24, 25, 26, 27, 28, 29, 30, 31, 32, 33, 34, 35, 36, 37, 38, 39, 40, 41, 42, 43, 44, 45, 46, 47, 48, 49, 50, 51, 52, 53, 54, 55, 56, 57, 60, 61, 62, 63, 64, 65, 66, 67, 68, 69, 70, 71, 72, 73, 74, 75, 76, 77, 78, 79, 80, 81, 82, 83, 84, 85, 86, 87, 88, 89, 90, 91] (by decide +kernel) (by decide +kernel)
set_option maxRecDepth 20000 in
theorem gX3_count_X2_total : GoodIn wsX3_count (wsV RX3 129 RX2 yX2_total wsX2_total) := goodIn_app (goodIn_of _ (by decide +kernel)) ggX3_count_X2_total
theorem dX3_count_0 : decode cX3_count 0 = .ok (.iload_n 1, 1) := by decide +kernel
theorem dX3_count_1 : decode cX3_count 1 = .ok (.bipush 9, 2) := by decide +kernel
theorem dX3_count_3 : decode cX3_count 3 = .ok (.invokestatic 117, 3) := by decide +kernel
theorem dX3_count_6 : decode cX3_count 6 = .ok (.aload_n 0, 1) := by decide +kernel
theorem dX3_count_7 : decode cX3_count 7 = .ok (.getfield 10, 3) := by decide +kernel
theorem dX3_count_10 : decode cX3_count 10 = .ok (.iload_n 1, 1) := by decide +kernel
theorem dX3_count_11 : decode cX3_count 11 = .ok (.invokevirtual 129, 3) := by decide +kernel
theorem dX3_count_14 : decode cX3_count 14 = .ok (.ireturn, 1) := by decide +kernel
set_option maxRecDepth 20000 in
theorem ggX3_foresee_X3_requireArgument : GoodIn wsX3_foresee wsX3_requireArgument := goodIn_ca (goodIn_r _ [7, 8, 9] (by decide +kernel) (by decide +kernel)) (goodIn_sub (fun _ h => List.mem_cons_of_mem _ (List.mem_append_left _ (List.mem_append_right _ h))) (by decide +kernel))
set_option maxRecDepth 20000 in
theorem gX3_foresee_X3_requireArgument : GoodIn wsX3_foresee (va_wsS RX3 19 yX3_requireArgument wsX3_requireArgument) := goodIn_app (goodIn_of _ (by decide +kernel)) ggX3_foresee_X3_requireArgument
set_option maxRecDepth 20000 in
theorem ggX3_foresee_X3_requireIndex : GoodIn wsX3_foresee wsX3_requireIndex := goodIn_ca (goodIn_r _ [12, 13, 14] (by decide +kernel) (by decide +kernel)) (goodIn_sub (fun _ h => List.mem_cons_of_mem _ (List.mem_append_right _ h)) (by decide +kernel))
set_option maxRecDepth 20000 in
theorem gX3_foresee_X3_requireIndex : GoodIn wsX3_foresee (va_wsS RX3 117 yX3_requireIndex wsX3_requireIndex) := goodIn_app (goodIn_of _ (by decide +kernel)) ggX3_foresee_X3_requireIndex
set_option maxRecDepth 20000 in
theorem ggX3_foresee_X2_copyFrom : GoodIn wsX3_foresee wsX2_copyFrom := goodIn_r _ [19, 20, 21, 22, 23, 24, 25, 26, 27, 28, 29, 30, 31, 32, 33, 34, 35, 36, 37, 38, 39, 40, 41, 42, 43, 44, 45, 46, 47, 48, 49, 50, 51, 52, 53, 54, 55, 56, 57, 58, 59, 60, 61, 62, 212, 213, 214, 215, 216, 217, 218, 219, 220, 221, 222, 223, 224, 225, 226, 227, 228, 229, 230, 231, 232, 233, 234, 235, 236, 237, 238, 239, 240, 241, 242, 243] (by decide +kernel) (by decide +kernel)
set_option maxRecDepth 20000 in
theorem gX3_foresee_X2_copyFrom : GoodIn wsX3_foresee (wsV RX3 132 RX2 yX2_copyFrom wsX2_copyFrom) := goodIn_app (goodIn_of _ (by decide +kernel)) ggX3_foresee_X2_copyFrom
set_option maxRecDepth 20000 in
theorem ggX3_foresee_X2_runDays : GoodIn wsX3_foresee wsX2_runDays := goodIn_r _ [66, 67, 68, 69, 18, 70, 21, 25, 71, 72, 73, 74, 75, 20, 24, 76, 77, 78, 79, 80, 29, 81, 36, 82, 83, 84, 85, 86, 87, 88, 89, 90, 91, 92, 93, 94, 95, 96, 97, 98, 99, 45, 100, 58, 53, 101, 102, 103, 104, 105, 106, 107, 108, 109, 110, 111, 112, 113, 114, 115, 116, 117, 33, 40, 118, 119, 120, 121, 122, 123, 124, 125, 126, 22, 127, 128, 129, 130, 131, 132, 133, 134, 135, 136, 59, 137, 138, 139, 140, 141, 142, 143, 144, 145, 146, 147, 148, 149, 150, 31, 151, 152, 153, 154, 155, 156, 157, 158, 159, 160, 161, 162, 163, 164, 165, 50, 166, 51, 167, 168, 169, 170, 171, 172, 173, 174, 175, 176, 177, 178, 179, 49, 62, 180, 181, 182, 183, 184, 185, 186, 187, 188, 23, 189, 190, 191, 192, 193, 194, 195, 196, 197, 212, 213, 214, 215, 216, 217, 230, 231, 232, 233, 234, 235, 236, 237, 238, 239, 240, 241, 242, 243, 218, 219, 220, 221, 222, 223, 224, 225, 226, 227, 228, 229] (by decide +kernel) (by decide +kernel)
set_option maxRecDepth 20000 in
theorem gX3_foresee_X2_runDays : GoodIn wsX3_foresee (wsV RX3 126 RX2 yX2_runDays wsX2_runDays) := goodIn_app (goodIn_of _ (by decide +kernel)) ggX3_foresee_X2_runDays
set_option maxRecDepth 20000 in
theorem ggX3_foresee_X2_allThirst : GoodIn wsX3_foresee wsX2_allThirst := goodIn_r _ [201, 20, 24, 146, 212, 213, 214, 215, 216, 217, 218, 219, 220, 221, 222, 223, 224, 225, 226, 227, 228, 229] (by decide +kernel) (by decide +kernel)
set_option maxRecDepth 20000 in
theorem gX3_foresee_X2_allThirst : GoodIn wsX3_foresee (wsV RX3 136 RX2 yX2_allThirst wsX2_allThirst) := goodIn_app (goodIn_of _ (by decide +kernel)) ggX3_foresee_X2_allThirst
set_option maxRecDepth 20000 in
theorem ggX3_foresee_X2_allMarks : GoodIn wsX3_foresee wsX2_allMarks := goodIn_r _ [205, 20, 24, 127, 212, 213, 214, 215, 216, 217, 218, 219, 220, 221, 222, 223, 224, 225, 226, 227, 228, 229] (by decide +kernel) (by decide +kernel)
set_option maxRecDepth 20000 in
theorem gX3_foresee_X2_allMarks : GoodIn wsX3_foresee (wsV RX3 143 RX2 yX2_allMarks wsX2_allMarks) := goodIn_app (goodIn_of _ (by decide +kernel)) ggX3_foresee_X2_allMarks
set_option maxRecDepth 20000 in
theorem ggX3_foresee_X2_brokenHandles : GoodIn wsX3_foresee wsX2_brokenHandles := goodIn_r _ [209, 21, 25, 159, 212, 213, 214, 215, 216, 217, 230, 231, 232, 233, 234, 235, 236, 237, 238, 239, 240, 241, 242, 243] (by decide +kernel) (by decide +kernel)
set_option maxRecDepth 20000 in
theorem gX3_foresee_X2_brokenHandles : GoodIn wsX3_foresee (wsV RX3 146 RX2 yX2_brokenHandles wsX2_brokenHandles) := goodIn_app (goodIn_of _ (by decide +kernel)) ggX3_foresee_X2_brokenHandles
theorem dX3_foresee_0 : decode cX3_foresee 0 = .ok (.iload_n 1, 1) := by decide +kernel
theorem dX3_foresee_1 : decode cX3_foresee 1 = .ok (.iconst 1, 1) := by decide +kernel
theorem dX3_foresee_2 : decode cX3_foresee 2 = .ok (.bipush 100, 2) := by decide +kernel
theorem dX3_foresee_4 : decode cX3_foresee 4 = .ok (.invokestatic 19, 3) := by decide +kernel
theorem dX3_foresee_7 : decode cX3_foresee 7 = .ok (.iload_n 2, 1) := by decide +kernel
theorem dX3_foresee_8 : decode cX3_foresee 8 = .ok (.iconst 3, 1) := by decide +kernel
theorem dX3_foresee_9 : decode cX3_foresee 9 = .ok (.invokestatic 117, 3) := by decide +kernel
theorem dX3_foresee_12 : decode cX3_foresee 12 = .ok (.aload_n 0, 1) := by decide +kernel
theorem dX3_foresee_13 : decode cX3_foresee 13 = .ok (.getfield 16, 3) := by decide +kernel
theorem dX3_foresee_16 : decode cX3_foresee 16 = .ok (.aload_n 0, 1) := by decide +kernel
theorem dX3_foresee_17 : decode cX3_foresee 17 = .ok (.getfield 10, 3) := by decide +kernel
theorem dX3_foresee_20 : decode cX3_foresee 20 = .ok (.invokevirtual 132, 3) := by decide +kernel
theorem dX3_foresee_23 : decode cX3_foresee 23 = .ok (.aload_n 0, 1) := by decide +kernel
theorem dX3_foresee_24 : decode cX3_foresee 24 = .ok (.getfield 16, 3) := by decide +kernel
theorem dX3_foresee_27 : decode cX3_foresee 27 = .ok (.iload_n 1, 1) := by decide +kernel
theorem dX3_foresee_28 : decode cX3_foresee 28 = .ok (.invokevirtual 126, 3) := by decide +kernel
theorem dX3_foresee_31 : decode cX3_foresee 31 = .ok (.pop, 1) := by decide +kernel
theorem dX3_foresee_32 : decode cX3_foresee 32 = .ok (.iload_n 2, 1) := by decide +kernel
theorem dX3_foresee_33 : decode cX3_foresee 33 = .ok (.tableswitch 59 0 2 #[27, 43, 51], 27) := by decide +kernel
theorem dX3_foresee_60 : decode cX3_foresee 60 = .ok (.aload_n 0, 1) := by decide +kernel
theorem dX3_foresee_61 : decode cX3_foresee 61 = .ok (.getfield 16, 3) := by decide +kernel
theorem dX3_foresee_64 : decode cX3_foresee 64 = .ok (.invokevirtual 136, 3) := by decide +kernel
theorem dX3_foresee_67 : decode cX3_foresee 67 = .ok (.aload_n 0, 1) := by decide +kernel
theorem dX3_foresee_68 : decode cX3_foresee 68 = .ok (.getfield 10, 3) := by decide +kernel
theorem dX3_foresee_71 : decode cX3_foresee 71 = .ok (.invokevirtual 136, 3) := by decide +kernel
theorem dX3_foresee_74 : decode cX3_foresee 74 = .ok (.isub, 1) := by decide +kernel
theorem dX3_foresee_75 : decode cX3_foresee 75 = .ok (.ireturn, 1) := by decide +kernel
theorem dX3_foresee_76 : decode cX3_foresee 76 = .ok (.aload_n 0, 1) := by decide +kernel
theorem dX3_foresee_77 : decode cX3_foresee 77 = .ok (.getfield 16, 3) := by decide +kernel
theorem dX3_foresee_80 : decode cX3_foresee 80 = .ok (.getfield 140, 3) := by decide +kernel
theorem dX3_foresee_83 : decode cX3_foresee 83 = .ok (.ireturn, 1) := by decide +kernel
theorem dX3_foresee_84 : decode cX3_foresee 84 = .ok (.aload_n 0, 1) := by decide +kernel
theorem dX3_foresee_85 : decode cX3_foresee 85 = .ok (.getfield 16, 3) := by decide +kernel
theorem dX3_foresee_88 : decode cX3_foresee 88 = .ok (.invokevirtual 143, 3) := by decide +kernel
theorem dX3_foresee_91 : decode cX3_foresee 91 = .ok (.ireturn, 1) := by decide +kernel
theorem dX3_foresee_92 : decode cX3_foresee 92 = .ok (.aload_n 0, 1) := by decide +kernel
theorem dX3_foresee_93 : decode cX3_foresee 93 = .ok (.getfield 16, 3) := by decide +kernel
theorem dX3_foresee_96 : decode cX3_foresee 96 = .ok (.invokevirtual 146, 3) := by decide +kernel
theorem dX3_foresee_99 : decode cX3_foresee 99 = .ok (.ireturn, 1) := by decide +kernel
set_option maxRecDepth 20000 in
theorem ggX3_advise_X3_requireHouse : GoodIn wsX3_advise wsX3_requireHouse := goodIn_ca (goodIn_r _ [10, 11, 12, 1, 13, 14, 15, 16, 17, 18, 206, 207, 208, 209, 210, 211, 212, 213] (by decide +kernel) (by decide +kernel)) (goodIn_sub (fun _ h => List.mem_cons_of_mem _ (List.mem_append_left _ (List.mem_append_right _ h))) (by decide +kernel))
set_option maxRecDepth 20000 in
theorem gX3_advise_X3_requireHouse : GoodIn wsX3_advise (wsV RX3 69 RX3 yX3_requireHouse wsX3_requireHouse) := goodIn_app (goodIn_of _ (by decide +kernel)) ggX3_advise_X3_requireHouse
set_option maxRecDepth 20000 in
theorem ggX3_advise_X3_requireArgument : GoodIn wsX3_advise wsX3_requireArgument := goodIn_ca (goodIn_r _ [21, 22, 23] (by decide +kernel) (by decide +kernel)) (goodIn_sub (fun _ h => List.mem_cons_of_mem _ (List.mem_append_right _ h)) (by decide +kernel))
set_option maxRecDepth 20000 in
theorem gX3_advise_X3_requireArgument : GoodIn wsX3_advise (va_wsS RX3 19 yX3_requireArgument wsX3_requireArgument) := goodIn_app (goodIn_of _ (by decide +kernel)) ggX3_advise_X3_requireArgument
set_option maxRecDepth 20000 in
theorem ggX3_advise_X2_copyFrom : GoodIn wsX3_advise wsX2_copyFrom := goodIn_r _ [27, 18, 28, 29, 30, 31, 32, 33, 34, 35, 36, 37, 38, 39, 40, 41, 42, 43, 44, 45, 46, 47, 48, 49, 50, 51, 52, 53, 54, 55, 56, 57, 58, 59, 60, 61, 62, 63, 64, 65, 66, 67, 68, 69, 208, 209, 210, 211, 212, 213, 214, 215, 216, 217, 218, 219, 220, 221, 222, 223, 224, 225, 226, 227, 228, 229, 230, 231, 232, 233, 234, 235, 236, 237, 238, 239] (by decide +kernel) (by decide +kernel)
set_option maxRecDepth 20000 in
theorem gX3_advise_X2_copyFrom : GoodIn wsX3_advise (wsV RX3 132 RX2 yX2_copyFrom wsX2_copyFrom) := goodIn_app (goodIn_of _ (by decide +kernel)) ggX3_advise_X2_copyFrom
set_option maxRecDepth 20000 in
theorem ggX3_advise_X2_runDays : GoodIn wsX3_advise wsX2_runDays := goodIn_r _ [73, 74, 75, 76, 16, 77, 28, 32, 78, 79, 80, 81, 82, 18, 31, 83, 84, 85, 86, 87, 36, 88, 43, 89, 90, 91, 92, 93, 94, 95, 96, 97, 98, 99, 100, 101, 102, 103, 104, 105, 106, 52, 107, 65, 60, 108, 109, 110, 111, 112, 14, 15, 17, 113, 114, 115, 116, 117, 118, 119, 120, 121, 40, 47, 122, 123, 124, 125, 126, 127, 128, 129, 130, 29, 131, 132, 133, 134, 135, 136, 137, 138, 139, 140, 66, 141, 142, 143, 144, 145, 146, 147, 148, 149, 150, 151, 152, 153, 154, 38, 155, 156, 157, 158, 159, 160, 161, 162, 163, 164, 165, 166, 167, 168, 169, 57, 170, 58, 171, 172, 173, 174, 175, 176, 177, 178, 179, 180, 181, 182, 183, 56, 69, 184, 185, 186, 187, 188, 189, 190, 191, 192, 30, 193, 194, 195, 196, 197, 198, 199, 200, 201, 208, 209, 210, 211, 212, 213, 226, 227, 228, 229, 230, 231, 232, 233, 234, 235, 236, 237, 238, 239, 214, 215, 216, 217, 218, 219, 220, 221, 222, 223, 224, 225] (by decide +kernel) (by decide +kernel)
set_option maxRecDepth 20000 in
theorem gX3_advise_X2_runDays : GoodIn wsX3_advise (wsV RX3 126 RX2 yX2_runDays wsX2_runDays) := goodIn_app (goodIn_of _ (by decide +kernel)) ggX3_advise_X2_runDays
set_option maxRecDepth 20000 in
theorem ggX3_advise_X2_allThirst : GoodIn wsX3_advise wsX2_allThirst := goodIn_r _ [205, 18, 31, 150, 208, 209, 210, 211, 212, 213, 214, 215, 216, 217, 218, 219, 220, 221, 222, 223, 224, 225] (by decide +kernel) (by decide +kernel)
set_option maxRecDepth 20000 in
theorem gX3_advise_X2_allThirst : GoodIn wsX3_advise (wsV RX3 136 RX2 yX2_allThirst wsX2_allThirst) := goodIn_app (goodIn_of _ (by decide +kernel)) ggX3_advise_X2_allThirst
theorem dX3_advise_0 : decode cX3_advise 0 = .ok (.aload_n 0, 1) := by decide +kernel
theorem dX3_advise_1 : decode cX3_advise 1 = .ok (.iload_n 1, 1) := by decide +kernel
theorem dX3_advise_2 : decode cX3_advise 2 = .ok (.invokevirtual 69, 3) := by decide +kernel
theorem dX3_advise_5 : decode cX3_advise 5 = .ok (.iload_n 2, 1) := by decide +kernel
theorem dX3_advise_6 : decode cX3_advise 6 = .ok (.iconst 1, 1) := by decide +kernel
theorem dX3_advise_7 : decode cX3_advise 7 = .ok (.bipush 50, 2) := by decide +kernel
theorem dX3_advise_9 : decode cX3_advise 9 = .ok (.invokestatic 19, 3) := by decide +kernel
theorem dX3_advise_12 : decode cX3_advise 12 = .ok (.iconst (-1), 1) := by decide +kernel
theorem dX3_advise_13 : decode cX3_advise 13 = .ok (.istore_n 3, 1) := by decide +kernel
theorem dX3_advise_14 : decode cX3_advise 14 = .ok (.iconst 0, 1) := by decide +kernel
theorem dX3_advise_15 : decode cX3_advise 15 = .ok (.istore 4, 2) := by decide +kernel
theorem dX3_advise_17 : decode cX3_advise 17 = .ok (.iconst 0, 1) := by decide +kernel
theorem dX3_advise_18 : decode cX3_advise 18 = .ok (.istore 5, 2) := by decide +kernel
theorem dX3_advise_20 : decode cX3_advise 20 = .ok (.iload 5, 2) := by decide +kernel
theorem dX3_advise_22 : decode cX3_advise 22 = .ok (.aload_n 0, 1) := by decide +kernel
theorem dX3_advise_23 : decode cX3_advise 23 = .ok (.getfield 10, 3) := by decide +kernel
theorem dX3_advise_26 : decode cX3_advise 26 = .ok (.getfield 52, 3) := by decide +kernel
theorem dX3_advise_29 : decode cX3_advise 29 = .ok (.if_icmp .ge 71, 3) := by decide +kernel
theorem dX3_advise_32 : decode cX3_advise 32 = .ok (.aload_n 0, 1) := by decide +kernel
theorem dX3_advise_33 : decode cX3_advise 33 = .ok (.getfield 16, 3) := by decide +kernel
theorem dX3_advise_36 : decode cX3_advise 36 = .ok (.aload_n 0, 1) := by decide +kernel
theorem dX3_advise_37 : decode cX3_advise 37 = .ok (.getfield 10, 3) := by decide +kernel
theorem dX3_advise_40 : decode cX3_advise 40 = .ok (.invokevirtual 132, 3) := by decide +kernel
theorem dX3_advise_43 : decode cX3_advise 43 = .ok (.aload_n 0, 1) := by decide +kernel
theorem dX3_advise_44 : decode cX3_advise 44 = .ok (.getfield 16, 3) := by decide +kernel
theorem dX3_advise_47 : decode cX3_advise 47 = .ok (.getfield 34, 3) := by decide +kernel
theorem dX3_advise_50 : decode cX3_advise 50 = .ok (.iload_n 1, 1) := by decide +kernel
theorem dX3_advise_51 : decode cX3_advise 51 = .ok (.aaload, 1) := by decide +kernel
theorem dX3_advise_52 : decode cX3_advise 52 = .ok (.iload 5, 2) := by decide +kernel
theorem dX3_advise_54 : decode cX3_advise 54 = .ok (.putfield 76, 3) := by decide +kernel
theorem dX3_advise_57 : decode cX3_advise 57 = .ok (.aload_n 0, 1) := by decide +kernel
theorem dX3_advise_58 : decode cX3_advise 58 = .ok (.getfield 16, 3) := by decide +kernel
theorem dX3_advise_61 : decode cX3_advise 61 = .ok (.iload_n 2, 1) := by decide +kernel
theorem dX3_advise_62 : decode cX3_advise 62 = .ok (.invokevirtual 126, 3) := by decide +kernel
theorem dX3_advise_65 : decode cX3_advise 65 = .ok (.pop, 1) := by decide +kernel
theorem dX3_advise_66 : decode cX3_advise 66 = .ok (.aload_n 0, 1) := by decide +kernel
theorem dX3_advise_67 : decode cX3_advise 67 = .ok (.getfield 16, 3) := by decide +kernel
theorem dX3_advise_70 : decode cX3_advise 70 = .ok (.invokevirtual 136, 3) := by decide +kernel
theorem dX3_advise_73 : decode cX3_advise 73 = .ok (.istore 6, 2) := by decide +kernel
theorem dX3_advise_75 : decode cX3_advise 75 = .ok (.iload_n 3, 1) := by decide +kernel
theorem dX3_advise_76 : decode cX3_advise 76 = .ok (.iconst (-1), 1) := by decide +kernel
theorem dX3_advise_77 : decode cX3_advise 77 = .ok (.if_icmp .eq 10, 3) := by decide +kernel
theorem dX3_advise_80 : decode cX3_advise 80 = .ok (.iload 6, 2) := by decide +kernel
theorem dX3_advise_82 : decode cX3_advise 82 = .ok (.iload 4, 2) := by decide +kernel
theorem dX3_advise_84 : decode cX3_advise 84 = .ok (.if_icmp .ge 10, 3) := by decide +kernel
theorem dX3_advise_87 : decode cX3_advise 87 = .ok (.iload 5, 2) := by decide +kernel
theorem dX3_advise_89 : decode cX3_advise 89 = .ok (.istore_n 3, 1) := by decide +kernel
theorem dX3_advise_90 : decode cX3_advise 90 = .ok (.iload 6, 2) := by decide +kernel
theorem dX3_advise_92 : decode cX3_advise 92 = .ok (.istore 4, 2) := by decide +kernel
theorem dX3_advise_94 : decode cX3_advise 94 = .ok (.iinc 5 1, 3) := by decide +kernel
theorem dX3_advise_97 : decode cX3_advise 97 = .ok (.goto (-77), 3) := by decide +kernel
theorem dX3_advise_100 : decode cX3_advise 100 = .ok (.iload_n 3, 1) := by decide +kernel
theorem dX3_advise_101 : decode cX3_advise 101 = .ok (.ireturn, 1) := by decide +kernel
set_option maxRecDepth 20000 in
theorem ggX3_daily_X2_allDrawn : GoodIn wsX3_daily wsX2_allDrawn := goodIn_r _ [7, 8, 9, 10, 13, 14, 15, 16, 17, 18, 19, 20, 21, 22, 23, 24, 25, 26, 27, 28, 29, 30, 31, 32] (by decide +kernel) (by decide +kernel)
set_option maxRecDepth 20000 in
theorem gX3_daily_X2_allDrawn : GoodIn wsX3_daily (wsV RX3 167 RX2 yX2_allDrawn wsX2_allDrawn) := goodIn_app (goodIn_of _ (by decide +kernel)) ggX3_daily_X2_allDrawn
theorem dX3_daily_0 : decode cX3_daily 0 = .ok (.aload_n 0, 1) := by decide +kernel
theorem dX3_daily_1 : decode cX3_daily 1 = .ok (.getfield 10, 3) := by decide +kernel
theorem dX3_daily_4 : decode cX3_daily 4 = .ok (.getfield 164, 3) := by decide +kernel
theorem dX3_daily_7 : decode cX3_daily 7 = .ok (.ifCond .ne 5, 3) := by decide +kernel
theorem dX3_daily_10 : decode cX3_daily 10 = .ok (.dconst 0, 1) := by decide +kernel
theorem dX3_daily_11 : decode cX3_daily 11 = .ok (.dreturn, 1) := by decide +kernel
theorem dX3_daily_12 : decode cX3_daily 12 = .ok (.aload_n 0, 1) := by decide +kernel
theorem dX3_daily_13 : decode cX3_daily 13 = .ok (.getfield 10, 3) := by decide +kernel
theorem dX3_daily_16 : decode cX3_daily 16 = .ok (.invokevirtual 167, 3) := by decide +kernel
theorem dX3_daily_19 : decode cX3_daily 19 = .ok (.i2d, 1) := by decide +kernel
theorem dX3_daily_20 : decode cX3_daily 20 = .ok (.aload_n 0, 1) := by decide +kernel
theorem dX3_daily_21 : decode cX3_daily 21 = .ok (.getfield 10, 3) := by decide +kernel
theorem dX3_daily_24 : decode cX3_daily 24 = .ok (.getfield 164, 3) := by decide +kernel
theorem dX3_daily_27 : decode cX3_daily 27 = .ok (.i2d, 1) := by decide +kernel
theorem dX3_daily_28 : decode cX3_daily 28 = .ok (.ddiv, 1) := by decide +kernel
theorem dX3_daily_29 : decode cX3_daily 29 = .ok (.dreturn, 1) := by decide +kernel
set_option maxRecDepth 20000 in
theorem ggX3_digest_X2_total : GoodIn wsX3_digest wsX2_total := goodIn_r _ [12, 13, 14, 15, 16, 17, 18, 19, 11, 20, 21, 22, 23, 24, 25, 26, 27, 28, 29, 30, 31, 32, 33, 34, 35, 36, 37, 38, 39, 40, 41, 42, 43, 44, 45, 46, 47, 48, 49, 50, 51, 52, 53, 54, 55, 56, 57, 99, 100, 101, 102, 103, 104, 105, 106, 107, 108, 109, 110, 111, 112, 113, 114, 115, 116, 117, 118, 119, 120, 121, 122, 123, 124, 125, 126, 127, 128, 129, 130] (by decide +kernel) (by decide +kernel)
set_option maxRecDepth 20000 in
theorem gX3_digest_X2_total : GoodIn wsX3_digest (wsV RX3 129 RX2 yX2_total wsX2_total) := goodIn_app (goodIn_of _ (by decide +kernel)) ggX3_digest_X2_total
set_option maxRecDepth 20000 in
theorem ggX3_digest_X2_houseFact : GoodIn wsX3_digest wsX2_houseFact := goodIn_r _ [61, 62, 63, 22, 37, 64, 65, 66, 42, 67, 68, 69, 70, 71, 72, 11, 73, 15, 56, 74, 105, 106, 107, 108, 109, 110, 111, 112, 113, 114, 115, 116, 99, 100, 101, 102, 103, 104, 117, 118, 119, 120, 121, 122, 123, 124, 125, 126, 127, 128, 129, 130] (by decide +kernel) (by decide +kernel)
set_option maxRecDepth 20000 in
theorem gX3_digest_X2_houseFact : GoodIn wsX3_digest (wsV RX3 120 RX2 yX2_houseFact wsX2_houseFact) := goodIn_app (goodIn_of _ (by decide +kernel)) ggX3_digest_X2_houseFact
set_option maxRecDepth 20000 in
theorem ggX3_digest_X1_mixInto : GoodIn wsX3_digest wsX1_mixInto := goodIn_r _ [79, 80, 81, 82, 83, 84, 85, 78, 86, 87, 88, 89, 90, 91, 92, 93, 94, 95, 96, 117, 118, 119, 120, 121, 122, 123, 124, 125, 126, 127, 128, 129, 130] (by decide +kernel) (by decide +kernel)
set_option maxRecDepth 20000 in
theorem gX3_digest_X1_mixInto : GoodIn wsX3_digest (wsV RX3 174 RX1 yX1_mixInto wsX1_mixInto) := goodIn_app (goodIn_of _ (by decide +kernel)) ggX3_digest_X1_mixInto
theorem dX3_digest_0 : decode cX3_digest 0 = .ok (.ldc2_w 170, 3) := by decide +kernel
theorem dX3_digest_3 : decode cX3_digest 3 = .ok (.lstore_n 1, 1) := by decide +kernel
theorem dX3_digest_4 : decode cX3_digest 4 = .ok (.iconst 0, 1) := by decide +kernel
theorem dX3_digest_5 : decode cX3_digest 5 = .ok (.istore_n 3, 1) := by decide +kernel
theorem dX3_digest_6 : decode cX3_digest 6 = .ok (.iload_n 3, 1) := by decide +kernel
theorem dX3_digest_7 : decode cX3_digest 7 = .ok (.bipush 9, 2) := by decide +kernel
theorem dX3_digest_9 : decode cX3_digest 9 = .ok (.if_icmp .gt 25, 3) := by decide +kernel
theorem dX3_digest_12 : decode cX3_digest 12 = .ok (.lload_n 1, 1) := by decide +kernel
theorem dX3_digest_13 : decode cX3_digest 13 = .ok (.ldc2_w 172, 3) := by decide +kernel
theorem dX3_digest_16 : decode cX3_digest 16 = .ok (.lmul, 1) := by decide +kernel
theorem dX3_digest_17 : decode cX3_digest 17 = .ok (.aload_n 0, 1) := by decide +kernel
theorem dX3_digest_18 : decode cX3_digest 18 = .ok (.getfield 10, 3) := by decide +kernel
theorem dX3_digest_21 : decode cX3_digest 21 = .ok (.iload_n 3, 1) := by decide +kernel
theorem dX3_digest_22 : decode cX3_digest 22 = .ok (.invokevirtual 129, 3) := by decide +kernel
theorem dX3_digest_25 : decode cX3_digest 25 = .ok (.i2l, 1) := by decide +kernel
theorem dX3_digest_26 : decode cX3_digest 26 = .ok (.ladd, 1) := by decide +kernel
theorem dX3_digest_27 : decode cX3_digest 27 = .ok (.lstore_n 1, 1) := by decide +kernel
theorem dX3_digest_28 : decode cX3_digest 28 = .ok (.iinc 3 1, 3) := by decide +kernel
theorem dX3_digest_31 : decode cX3_digest 31 = .ok (.goto (-25), 3) := by decide +kernel
theorem dX3_digest_34 : decode cX3_digest 34 = .ok (.iconst 0, 1) := by decide +kernel
theorem dX3_digest_35 : decode cX3_digest 35 = .ok (.istore_n 3, 1) := by decide +kernel
theorem dX3_digest_36 : decode cX3_digest 36 = .ok (.iload_n 3, 1) := by decide +kernel
theorem dX3_digest_37 : decode cX3_digest 37 = .ok (.aload_n 0, 1) := by decide +kernel
theorem dX3_digest_38 : decode cX3_digest 38 = .ok (.getfield 10, 3) := by decide +kernel
theorem dX3_digest_41 : decode cX3_digest 41 = .ok (.getfield 23, 3) := by decide +kernel
theorem dX3_digest_44 : decode cX3_digest 44 = .ok (.if_icmp .ge 51, 3) := by decide +kernel
theorem dX3_digest_47 : decode cX3_digest 47 = .ok (.iconst 0, 1) := by decide +kernel
theorem dX3_digest_48 : decode cX3_digest 48 = .ok (.istore 4, 2) := by decide +kernel
theorem dX3_digest_50 : decode cX3_digest 50 = .ok (.iload 4, 2) := by decide +kernel
theorem dX3_digest_52 : decode cX3_digest 52 = .ok (.bipush 10, 2) := by decide +kernel
theorem dX3_digest_54 : decode cX3_digest 54 = .ok (.if_icmp .gt 35, 3) := by decide +kernel
theorem dX3_digest_57 : decode cX3_digest 57 = .ok (.lload_n 1, 1) := by decide +kernel
theorem dX3_digest_58 : decode cX3_digest 58 = .ok (.ldc2_w 172, 3) := by decide +kernel
theorem dX3_digest_61 : decode cX3_digest 61 = .ok (.lmul, 1) := by decide +kernel
theorem dX3_digest_62 : decode cX3_digest 62 = .ok (.aload_n 0, 1) := by decide +kernel
theorem dX3_digest_63 : decode cX3_digest 63 = .ok (.getfield 10, 3) := by decide +kernel
theorem dX3_digest_66 : decode cX3_digest 66 = .ok (.aload_n 0, 1) := by decide +kernel
theorem dX3_digest_67 : decode cX3_digest 67 = .ok (.getfield 10, 3) := by decide +kernel
theorem dX3_digest_70 : decode cX3_digest 70 = .ok (.getfield 34, 3) := by decide +kernel
theorem dX3_digest_73 : decode cX3_digest 73 = .ok (.iload_n 3, 1) := by decide +kernel
theorem dX3_digest_74 : decode cX3_digest 74 = .ok (.aaload, 1) := by decide +kernel
theorem dX3_digest_75 : decode cX3_digest 75 = .ok (.iload 4, 2) := by decide +kernel
theorem dX3_digest_77 : decode cX3_digest 77 = .ok (.invokevirtual 120, 3) := by decide +kernel
theorem dX3_digest_80 : decode cX3_digest 80 = .ok (.i2l, 1) := by decide +kernel
theorem dX3_digest_81 : decode cX3_digest 81 = .ok (.ladd, 1) := by decide +kernel
theorem dX3_digest_82 : decode cX3_digest 82 = .ok (.lstore_n 1, 1) := by decide +kernel
theorem dX3_digest_83 : decode cX3_digest 83 = .ok (.iinc 4 1, 3) := by decide +kernel
theorem dX3_digest_86 : decode cX3_digest 86 = .ok (.goto (-36), 3) := by decide +kernel
theorem dX3_digest_89 : decode cX3_digest 89 = .ok (.iinc 3 1, 3) := by decide +kernel
theorem dX3_digest_92 : decode cX3_digest 92 = .ok (.goto (-56), 3) := by decide +kernel
theorem dX3_digest_95 : decode cX3_digest 95 = .ok (.iconst 0, 1) := by decide +kernel
theorem dX3_digest_96 : decode cX3_digest 96 = .ok (.istore_n 3, 1) := by decide +kernel
theorem dX3_digest_97 : decode cX3_digest 97 = .ok (.iload_n 3, 1) := by decide +kernel
theorem dX3_digest_98 : decode cX3_digest 98 = .ok (.aload_n 0, 1) := by decide +kernel
theorem dX3_digest_99 : decode cX3_digest 99 = .ok (.getfield 10, 3) := by decide +kernel
theorem dX3_digest_102 : decode cX3_digest 102 = .ok (.getfield 52, 3) := by decide +kernel
theorem dX3_digest_105 : decode cX3_digest 105 = .ok (.if_icmp .ge 23, 3) := by decide +kernel
theorem dX3_digest_108 : decode cX3_digest 108 = .ok (.aload_n 0, 1) := by decide +kernel
theorem dX3_digest_109 : decode cX3_digest 109 = .ok (.getfield 10, 3) := by decide +kernel
theorem dX3_digest_112 : decode cX3_digest 112 = .ok (.getfield 57, 3) := by decide +kernel
theorem dX3_digest_115 : decode cX3_digest 115 = .ok (.iload_n 3, 1) := by decide +kernel
theorem dX3_digest_116 : decode cX3_digest 116 = .ok (.aaload, 1) := by decide +kernel
theorem dX3_digest_117 : decode cX3_digest 117 = .ok (.lload_n 1, 1) := by decide +kernel
theorem dX3_digest_118 : decode cX3_digest 118 = .ok (.invokevirtual 174, 3) := by decide +kernel
theorem dX3_digest_121 : decode cX3_digest 121 = .ok (.lstore_n 1, 1) := by decide +kernel
theorem dX3_digest_122 : decode cX3_digest 122 = .ok (.iinc 3 1, 3) := by decide +kernel
theorem dX3_digest_125 : decode cX3_digest 125 = .ok (.goto (-28), 3) := by decide +kernel
theorem dX3_digest_128 : decode cX3_digest 128 = .ok (.lload_n 1, 1) := by decide +kernel
theorem dX3_digest_129 : decode cX3_digest 129 = .ok (.lreturn, 1) := by decide +kernel
theorem dX3_requireArgument_0 : decode cX3_requireArgument 0 = .ok (.iload_n 0, 1) := by decide +kernel
theorem dX3_requireArgument_1 : decode cX3_requireArgument 1 = .ok (.iload_n 1, 1) := by decide +kernel
theorem dX3_requireArgument_2 : decode cX3_requireArgument 2 = .ok (.if_icmp .lt 8, 3) := by decide +kernel
theorem dX3_requireArgument_5 : decode cX3_requireArgument 5 = .ok (.iload_n 0, 1) := by decide +kernel
theorem dX3_requireArgument_6 : decode cX3_requireArgument 6 = .ok (.iload_n 2, 1) := by decide +kernel
theorem dX3_requireArgument_7 : decode cX3_requireArgument 7 = .ok (.if_icmp .le 13, 3) := by decide +kernel
theorem dX3_requireArgument_10 : decode cX3_requireArgument 10 = .ok (.new 178, 3) := by decide +kernel
theorem dX3_requireArgument_13 : decode cX3_requireArgument 13 = .ok (.dup, 1) := by decide +kernel
theorem dX3_requireArgument_14 : decode cX3_requireArgument 14 = .ok (.ldc 180, 2) := by decide +kernel
theorem dX3_requireArgument_16 : decode cX3_requireArgument 16 = .ok (.invokespecial 182, 3) := by decide +kernel
theorem dX3_requireArgument_19 : decode cX3_requireArgument 19 = .ok (.athrow, 1) := by decide +kernel
theorem dX3_requireArgument_20 : decode cX3_requireArgument 20 = .ok (.return_, 1) := by decide +kernel
theorem dX3_requireIndex_0 : decode cX3_requireIndex 0 = .ok (.iload_n 0, 1) := by decide +kernel
theorem dX3_requireIndex_1 : decode cX3_requireIndex 1 = .ok (.ifCond .lt 8, 3) := by decide +kernel
theorem dX3_requireIndex_4 : decode cX3_requireIndex 4 = .ok (.iload_n 0, 1) := by decide +kernel
theorem dX3_requireIndex_5 : decode cX3_requireIndex 5 = .ok (.iload_n 1, 1) := by decide +kernel
theorem dX3_requireIndex_6 : decode cX3_requireIndex 6 = .ok (.if_icmp .le 13, 3) := by decide +kernel
theorem dX3_requireIndex_9 : decode cX3_requireIndex 9 = .ok (.new 183, 3) := by decide +kernel
theorem dX3_requireIndex_12 : decode cX3_requireIndex 12 = .ok (.dup, 1) := by decide +kernel
theorem dX3_requireIndex_13 : decode cX3_requireIndex 13 = .ok (.ldc 185, 2) := by decide +kernel
theorem dX3_requireIndex_15 : decode cX3_requireIndex 15 = .ok (.invokespecial 187, 3) := by decide +kernel
theorem dX3_requireIndex_18 : decode cX3_requireIndex 18 = .ok (.athrow, 1) := by decide +kernel
theorem dX3_requireIndex_19 : decode cX3_requireIndex 19 = .ok (.return_, 1) := by decide +kernel
set_option maxRecDepth 20000 in
theorem ggX3_requireHouse_X2_isHouse : GoodIn wsX3_requireHouse wsX2_isHouse := goodIn_r _ [8, 9, 12, 13, 14, 15, 16, 17] (by decide +kernel) (by decide +kernel)
set_option maxRecDepth 20000 in
theorem gX3_requireHouse_X2_isHouse : GoodIn wsX3_requireHouse (wsV RX3 188 RX2 yX2_isHouse wsX2_isHouse) := goodIn_app (goodIn_of _ (by decide +kernel)) ggX3_requireHouse_X2_isHouse
theorem dX3_requireHouse_0 : decode cX3_requireHouse 0 = .ok (.aload_n 0, 1) := by decide +kernel
theorem dX3_requireHouse_1 : decode cX3_requireHouse 1 = .ok (.getfield 10, 3) := by decide +kernel
theorem dX3_requireHouse_4 : decode cX3_requireHouse 4 = .ok (.iload_n 1, 1) := by decide +kernel
theorem dX3_requireHouse_5 : decode cX3_requireHouse 5 = .ok (.invokevirtual 188, 3) := by decide +kernel
theorem dX3_requireHouse_8 : decode cX3_requireHouse 8 = .ok (.ifCond .ne 13, 3) := by decide +kernel
theorem dX3_requireHouse_11 : decode cX3_requireHouse 11 = .ok (.new 183, 3) := by decide +kernel
theorem dX3_requireHouse_14 : decode cX3_requireHouse 14 = .ok (.dup, 1) := by decide +kernel
theorem dX3_requireHouse_15 : decode cX3_requireHouse 15 = .ok (.ldc 192, 2) := by decide +kernel
theorem dX3_requireHouse_17 : decode cX3_requireHouse 17 = .ok (.invokespecial 187, 3) := by decide +kernel
theorem dX3_requireHouse_20 : decode cX3_requireHouse 20 = .ok (.athrow, 1) := by decide +kernel
theorem dX3_requireHouse_21 : decode cX3_requireHouse 21 = .ok (.return_, 1) := by decide +kernel
set_option maxRecDepth 20000 in
theorem ggX3_requirePump_X2_isPump : GoodIn wsX3_requirePump wsX2_isPump := goodIn_r _ [8, 9, 12, 13, 14, 15, 16, 17] (by decide +kernel) (by decide +kernel)
set_option maxRecDepth 20000 in
theorem gX3_requirePump_X2_isPump : GoodIn wsX3_requirePump (wsV RX3 194 RX2 yX2_isPump wsX2_isPump) := goodIn_app (goodIn_of _ (by decide +kernel)) ggX3_requirePump_X2_isPump
theorem dX3_requirePump_0 : decode cX3_requirePump 0 = .ok (.aload_n 0, 1) := by decide +kernel
theorem dX3_requirePump_1 : decode cX3_requirePump 1 = .ok (.getfield 10, 3) := by decide +kernel
theorem dX3_requirePump_4 : decode cX3_requirePump 4 = .ok (.iload_n 1, 1) := by decide +kernel
theorem dX3_requirePump_5 : decode cX3_requirePump 5 = .ok (.invokevirtual 194, 3) := by decide +kernel
theorem dX3_requirePump_8 : decode cX3_requirePump 8 = .ok (.ifCond .ne 13, 3) := by decide +kernel
theorem dX3_requirePump_11 : decode cX3_requirePump 11 = .ok (.new 183, 3) := by decide +kernel
theorem dX3_requirePump_14 : decode cX3_requirePump 14 = .ok (.dup, 1) := by decide +kernel
theorem dX3_requirePump_15 : decode cX3_requirePump 15 = .ok (.ldc 197, 2) := by decide +kernel
theorem dX3_requirePump_17 : decode cX3_requirePump 17 = .ok (.invokespecial 187, 3) := by decide +kernel
theorem dX3_requirePump_20 : decode cX3_requirePump 20 = .ok (.athrow, 1) := by decide +kernel
theorem dX3_requirePump_21 : decode cX3_requirePump 21 = .ok (.return_, 1) := by decide +kernel
set_option maxRecDepth 20000 in
theorem ggX3_requirePlace_X3_requirePump : GoodIn wsX3_requirePlace wsX3_requirePump := goodIn_ca (goodIn_r _ [10, 1, 2, 3, 11, 12, 13, 14, 15, 16, 17, 18, 19, 20, 21, 22, 23, 24] (by decide +kernel) (by decide +kernel)) (goodIn_sub (fun _ h => List.mem_cons_of_mem _ (List.mem_append_right _ h)) (by decide +kernel))
set_option maxRecDepth 20000 in
theorem gX3_requirePlace_X3_requirePump : GoodIn wsX3_requirePlace (wsV RX3 73 RX3 yX3_requirePump wsX3_requirePump) := goodIn_app (goodIn_of _ (by decide +kernel)) ggX3_requirePlace_X3_requirePump
theorem dX3_requirePlace_0 : decode cX3_requirePlace 0 = .ok (.aload_n 0, 1) := by decide +kernel
theorem dX3_requirePlace_1 : decode cX3_requirePlace 1 = .ok (.iload_n 1, 1) := by decide +kernel
theorem dX3_requirePlace_2 : decode cX3_requirePlace 2 = .ok (.invokevirtual 73, 3) := by decide +kernel
theorem dX3_requirePlace_5 : decode cX3_requirePlace 5 = .ok (.iload_n 2, 1) := by decide +kernel
theorem dX3_requirePlace_6 : decode cX3_requirePlace 6 = .ok (.ifCond .lt 19, 3) := by decide +kernel
theorem dX3_requirePlace_9 : decode cX3_requirePlace 9 = .ok (.iload_n 2, 1) := by decide +kernel
theorem dX3_requirePlace_10 : decode cX3_requirePlace 10 = .ok (.aload_n 0, 1) := by decide +kernel
theorem dX3_requirePlace_11 : decode cX3_requirePlace 11 = .ok (.getfield 10, 3) := by decide +kernel
theorem dX3_requirePlace_14 : decode cX3_requirePlace 14 = .ok (.getfield 57, 3) := by decide +kernel
theorem dX3_requirePlace_17 : decode cX3_requirePlace 17 = .ok (.iload_n 1, 1) := by decide +kernel
theorem dX3_requirePlace_18 : decode cX3_requirePlace 18 = .ok (.aaload, 1) := by decide +kernel
theorem dX3_requirePlace_19 : decode cX3_requirePlace 19 = .ok (.getfield 100, 3) := by decide +kernel
theorem dX3_requirePlace_22 : decode cX3_requirePlace 22 = .ok (.if_icmp .lt 13, 3) := by decide +kernel
theorem dX3_requirePlace_25 : decode cX3_requirePlace 25 = .ok (.new 183, 3) := by decide +kernel
theorem dX3_requirePlace_28 : decode cX3_requirePlace 28 = .ok (.dup, 1) := by decide +kernel
theorem dX3_requirePlace_29 : decode cX3_requirePlace 29 = .ok (.ldc 199, 2) := by decide +kernel
theorem dX3_requirePlace_31 : decode cX3_requirePlace 31 = .ok (.invokespecial 187, 3) := by decide +kernel
theorem dX3_requirePlace_34 : decode cX3_requirePlace 34 = .ok (.athrow, 1) := by decide +kernel
theorem dX3_requirePlace_35 : decode cX3_requirePlace 35 = .ok (.return_, 1) := by decide +kernel
theorem dJ9_max_7cf53_0 : decode cJ9_max_7cf53 0 = .ok (.iload_n 0, 1) := by decide +kernel
theorem dJ9_max_7cf53_1 : decode cJ9_max_7cf53 1 = .ok (.iload_n 1, 1) := by decide +kernel
theorem dJ9_max_7cf53_2 : decode cJ9_max_7cf53 2 = .ok (.if_icmp .lt 7, 3) := by decide +kernel
theorem dJ9_max_7cf53_5 : decode cJ9_max_7cf53 5 = .ok (.iload_n 0, 1) := by decide +kernel
theorem dJ9_max_7cf53_6 : decode cJ9_max_7cf53 6 = .ok (.goto 4, 3) := by decide +kernel
theorem dJ9_max_7cf53_9 : decode cJ9_max_7cf53 9 = .ok (.iload_n 1, 1) := by decide +kernel
theorem dJ9_max_7cf53_10 : decode cJ9_max_7cf53 10 = .ok (.ireturn, 1) := by decide +kernel
theorem dJ9_min_7cf53_0 : decode cJ9_min_7cf53 0 = .ok (.iload_n 0, 1) := by decide +kernel
theorem dJ9_min_7cf53_1 : decode cJ9_min_7cf53 1 = .ok (.iload_n 1, 1) := by decide +kernel
theorem dJ9_min_7cf53_2 : decode cJ9_min_7cf53 2 = .ok (.if_icmp .gt 7, 3) := by decide +kernel
theorem dJ9_min_7cf53_5 : decode cJ9_min_7cf53 5 = .ok (.iload_n 0, 1) := by decide +kernel
theorem dJ9_min_7cf53_6 : decode cJ9_min_7cf53 6 = .ok (.goto 4, 3) := by decide +kernel
theorem dJ9_min_7cf53_9 : decode cJ9_min_7cf53 9 = .ok (.iload_n 1, 1) := by decide +kernel
theorem dJ9_min_7cf53_10 : decode cJ9_min_7cf53 10 = .ok (.ireturn, 1) := by decide +kernel
theorem dL_below_0 : decode cL_below 0 = .ok (.iload_n 0, 1) := by decide +kernel
theorem dL_below_1 : decode cL_below 1 = .ok (.ldc 7, 2) := by decide +kernel
theorem dL_below_3 : decode cL_below 3 = .ok (.iand, 1) := by decide +kernel
theorem dL_below_4 : decode cL_below 4 = .ok (.iload_n 1, 1) := by decide +kernel
theorem dL_below_5 : decode cL_below 5 = .ok (.irem, 1) := by decide +kernel
theorem dL_below_6 : decode cL_below 6 = .ok (.ireturn, 1) := by decide +kernel
theorem dL_cell_0 : decode cL_cell 0 = .ok (.iload_n 1, 1) := by decide +kernel
theorem dL_cell_1 : decode cL_cell 1 = .ok (.aload_n 0, 1) := by decide +kernel
theorem dL_cell_2 : decode cL_cell 2 = .ok (.arraylength, 1) := by decide +kernel
theorem dL_cell_3 : decode cL_cell 3 = .ok (.if_icmp .ge 9, 3) := by decide +kernel
theorem dL_cell_6 : decode cL_cell 6 = .ok (.aload_n 0, 1) := by decide +kernel
theorem dL_cell_7 : decode cL_cell 7 = .ok (.iload_n 1, 1) := by decide +kernel
theorem dL_cell_8 : decode cL_cell 8 = .ok (.iaload, 1) := by decide +kernel
theorem dL_cell_9 : decode cL_cell 9 = .ok (.goto 9, 3) := by decide +kernel
theorem dL_cell_12 : decode cL_cell 12 = .ok (.ldc 8, 2) := by decide +kernel
theorem dL_cell_14 : decode cL_cell 14 = .ok (.iload_n 1, 1) := by decide +kernel
theorem dL_cell_15 : decode cL_cell 15 = .ok (.iconst 3, 1) := by decide +kernel
theorem dL_cell_16 : decode cL_cell 16 = .ok (.iadd, 1) := by decide +kernel
theorem dL_cell_17 : decode cL_cell 17 = .ok (.imul, 1) := by decide +kernel
theorem dL_cell_18 : decode cL_cell 18 = .ok (.ireturn, 1) := by decide +kernel
set_option maxRecDepth 20000 in
theorem ggL_village_L_cell : GoodIn wsL_village wsL_cell := goodIn_r _ [10, 11] (by decide +kernel) (by decide +kernel)
set_option maxRecDepth 20000 in
theorem gL_village_L_cell : GoodIn wsL_village (va_wsS RL 9 yL_cell wsL_cell) := goodIn_app (goodIn_of _ (by decide +kernel)) ggL_village_L_cell
set_option maxRecDepth 20000 in
theorem ggL_village_L_below : GoodIn wsL_village wsL_below := goodIn_r _ [14, 15] (by decide +kernel) (by decide +kernel)
set_option maxRecDepth 20000 in
theorem gL_village_L_below : GoodIn wsL_village (va_wsS RL 15 yL_below wsL_below) := goodIn_app (goodIn_of _ (by decide +kernel)) ggL_village_L_below
set_option maxRecDepth 20000 in
theorem ggL_village_X3_addHouse : GoodIn wsL_village wsX3_addHouse := goodIn_ca (goodIn_ca (goodIn_r _ [20, 21, 22, 23, 24, 25, 26, 27, 28, 29, 30, 31, 19, 32, 33, 34, 86, 87, 88, 89, 90, 91, 92, 93, 94, 95, 96, 97, 98, 99, 100, 101, 102, 103, 104, 105] (by decide +kernel) (by decide +kernel)) (goodIn_sub (fun _ h => List.mem_cons_of_mem _ (List.mem_append_left _ (List.mem_append_left _ (List.mem_append_right _ h)))) (by decide +kernel))) (goodIn_sub (fun _ h => List.mem_cons_of_mem _ (List.mem_append_left _ (List.mem_append_right _ h))) (by decide +kernel))
set_option maxRecDepth 20000 in
theorem gL_village_X3_addHouse : GoodIn wsL_village (wsV RL 19 RX3 yX3_addHouse wsX3_addHouse) := goodIn_app (goodIn_of _ (by decide +kernel)) ggL_village_X3_addHouse
set_option maxRecDepth 20000 in
theorem ggL_village_X3_addPump : GoodIn wsL_village wsX3_addPump := goodIn_ca (goodIn_ca (goodIn_r _ [38, 21, 22, 23, 39, 40, 41, 42, 30, 31, 19, 32, 33, 34, 86, 87, 88, 89, 90, 91, 92, 93, 106, 107, 108, 109, 110, 111, 112, 113, 114, 115, 116, 117, 118, 119] (by decide +kernel) (by decide +kernel)) (goodIn_sub (fun _ h => List.mem_cons_of_mem _ (List.mem_append_left _ (List.mem_append_left _ (List.mem_append_right _ h)))) (by decide +kernel))) (goodIn_sub (fun _ h => List.mem_cons_of_mem _ (List.mem_append_left _ (List.mem_append_right _ h))) (by decide +kernel))
set_option maxRecDepth 20000 in
theorem gL_village_X3_addPump : GoodIn wsL_village (wsV RL 25 RX3 yX3_addPump wsX3_addPump) := goodIn_app (goodIn_of _ (by decide +kernel)) ggL_village_X3_addPump
set_option maxRecDepth 20000 in
theorem ggL_village_X3_enrol : GoodIn wsL_village wsX3_enrol := goodIn_ca (goodIn_ca (goodIn_r _ [46, 21, 22, 23, 40, 25, 47, 48, 49, 50, 51, 19, 52, 53, 54, 55, 56, 57, 58, 59, 60, 61, 62, 63, 64, 65, 66, 67, 68, 69, 70, 71, 72, 73, 74, 75, 76, 77, 78, 79, 80, 86, 87, 88, 89, 90, 91, 92, 93, 94, 95, 96, 97, 98, 99, 100, 101, 102, 103, 104, 105, 106, 107, 108, 109, 110, 111, 112, 113, 114, 115, 116, 117, 118, 119] (by decide +kernel) (by decide +kernel)) (goodIn_sub (fun _ h => List.mem_cons_of_mem _ (List.mem_append_left _ (List.mem_append_left _ (List.mem_append_right _ h)))) (by decide +kernel))) (goodIn_sub (fun _ h => List.mem_cons_of_mem _ (List.mem_append_right _ h)) (by decide +kernel))
set_option maxRecDepth 20000 in
theorem gL_village_X3_enrol : GoodIn wsL_village (wsV RL 28 RX3 yX3_enrol wsX3_enrol) := goodIn_app (goodIn_of _ (by decide +kernel)) ggL_village_X3_enrol
set_option maxRecDepth 20000 in
theorem ggL_village_X3_prefer : GoodIn wsL_village wsX3_prefer := goodIn_ca (goodIn_r _ [84, 23, 25, 85, 61, 62, 63, 19, 64, 53, 54, 65, 66, 67, 58, 68, 69, 49, 50, 51, 52, 55, 56, 57, 59, 60, 86, 87, 88, 89, 90, 91, 92, 93, 94, 95, 96, 97, 98, 99, 100, 101, 102, 103, 104, 105] (by decide +kernel) (by decide +kernel)) (goodIn_sub (fun _ h => List.mem_cons_of_mem _ (List.mem_append_right _ h)) (by decide +kernel))
set_option maxRecDepth 20000 in
theorem gL_village_X3_prefer : GoodIn wsL_village (wsV RL 38 RX3 yX3_prefer wsX3_prefer) := goodIn_app (goodIn_of _ (by decide +kernel)) ggL_village_X3_prefer
theorem dL_village_0 : decode cL_village 0 = .ok (.iconst 1, 1) := by decide +kernel
theorem dL_village_1 : decode cL_village 1 = .ok (.aload_n 1, 1) := by decide +kernel
theorem dL_village_2 : decode cL_village 2 = .ok (.iconst 0, 1) := by decide +kernel
theorem dL_village_3 : decode cL_village 3 = .ok (.invokestatic 9, 3) := by decide +kernel
theorem dL_village_6 : decode cL_village 6 = .ok (.bipush 10, 2) := by decide +kernel
theorem dL_village_8 : decode cL_village 8 = .ok (.invokestatic 15, 3) := by decide +kernel
theorem dL_village_11 : decode cL_village 11 = .ok (.iadd, 1) := by decide +kernel
theorem dL_village_12 : decode cL_village 12 = .ok (.istore_n 2, 1) := by decide +kernel
theorem dL_village_13 : decode cL_village 13 = .ok (.bipush 10, 2) := by decide +kernel
theorem dL_village_15 : decode cL_village 15 = .ok (.newarray .int, 2) := by decide +kernel
theorem dL_village_17 : decode cL_village 17 = .ok (.astore_n 3, 1) := by decide +kernel
theorem dL_village_18 : decode cL_village 18 = .ok (.iconst 0, 1) := by decide +kernel
theorem dL_village_19 : decode cL_village 19 = .ok (.istore 4, 2) := by decide +kernel
theorem dL_village_21 : decode cL_village 21 = .ok (.iload 4, 2) := by decide +kernel
theorem dL_village_23 : decode cL_village 23 = .ok (.iload_n 2, 1) := by decide +kernel
theorem dL_village_24 : decode cL_village 24 = .ok (.if_icmp .ge 70, 3) := by decide +kernel
theorem dL_village_27 : decode cL_village 27 = .ok (.aload_n 1, 1) := by decide +kernel
theorem dL_village_28 : decode cL_village 28 = .ok (.iconst 1, 1) := by decide +kernel
theorem dL_village_29 : decode cL_village 29 = .ok (.iload 4, 2) := by decide +kernel
theorem dL_village_31 : decode cL_village 31 = .ok (.iconst 4, 1) := by decide +kernel
theorem dL_village_32 : decode cL_village 32 = .ok (.irem, 1) := by decide +kernel
theorem dL_village_33 : decode cL_village 33 = .ok (.iadd, 1) := by decide +kernel
theorem dL_village_34 : decode cL_village 34 = .ok (.invokestatic 9, 3) := by decide +kernel
theorem dL_village_37 : decode cL_village 37 = .ok (.iload 4, 2) := by decide +kernel
theorem dL_village_39 : decode cL_village 39 = .ok (.iconst 4, 1) := by decide +kernel
theorem dL_village_40 : decode cL_village 40 = .ok (.idiv, 1) := by decide +kernel
theorem dL_village_41 : decode cL_village 41 = .ok (.bipush 9, 2) := by decide +kernel
theorem dL_village_43 : decode cL_village 43 = .ok (.imul, 1) := by decide +kernel
theorem dL_village_44 : decode cL_village 44 = .ok (.ishr, 1) := by decide +kernel
theorem dL_village_45 : decode cL_village 45 = .ok (.istore 5, 2) := by decide +kernel
theorem dL_village_47 : decode cL_village 47 = .ok (.aload_n 3, 1) := by decide +kernel
theorem dL_village_48 : decode cL_village 48 = .ok (.iload 4, 2) := by decide +kernel
theorem dL_village_50 : decode cL_village 50 = .ok (.iconst 1, 1) := by decide +kernel
theorem dL_village_51 : decode cL_village 51 = .ok (.iload 5, 2) := by decide +kernel
theorem dL_village_53 : decode cL_village 53 = .ok (.bipush 6, 2) := by decide +kernel
theorem dL_village_55 : decode cL_village 55 = .ok (.ishr, 1) := by decide +kernel
theorem dL_village_56 : decode cL_village 56 = .ok (.bipush 9, 2) := by decide +kernel
theorem dL_village_58 : decode cL_village 58 = .ok (.invokestatic 15, 3) := by decide +kernel
theorem dL_village_61 : decode cL_village 61 = .ok (.iadd, 1) := by decide +kernel
theorem dL_village_62 : decode cL_village 62 = .ok (.iastore, 1) := by decide +kernel
theorem dL_village_63 : decode cL_village 63 = .ok (.aload_n 0, 1) := by decide +kernel
theorem dL_village_64 : decode cL_village 64 = .ok (.iload 5, 2) := by decide +kernel
theorem dL_village_66 : decode cL_village 66 = .ok (.bipush 10, 2) := by decide +kernel
theorem dL_village_68 : decode cL_village 68 = .ok (.invokestatic 15, 3) := by decide +kernel
theorem dL_village_71 : decode cL_village 71 = .ok (.iload 5, 2) := by decide +kernel
theorem dL_village_73 : decode cL_village 73 = .ok (.iconst 4, 1) := by decide +kernel
theorem dL_village_74 : decode cL_village 74 = .ok (.ishr, 1) := by decide +kernel
theorem dL_village_75 : decode cL_village 75 = .ok (.bipush 10, 2) := by decide +kernel
theorem dL_village_77 : decode cL_village 77 = .ok (.invokestatic 15, 3) := by decide +kernel
theorem dL_village_80 : decode cL_village 80 = .ok (.aload_n 3, 1) := by decide +kernel
theorem dL_village_81 : decode cL_village 81 = .ok (.iload 4, 2) := by decide +kernel
theorem dL_village_83 : decode cL_village 83 = .ok (.iaload, 1) := by decide +kernel
theorem dL_village_84 : decode cL_village 84 = .ok (.invokevirtual 19, 3) := by decide +kernel
theorem dL_village_87 : decode cL_village 87 = .ok (.pop, 1) := by decide +kernel
theorem dL_village_88 : decode cL_village 88 = .ok (.iinc 4 1, 3) := by decide +kernel
theorem dL_village_91 : decode cL_village 91 = .ok (.goto (-70), 3) := by decide +kernel
theorem dL_village_94 : decode cL_village 94 = .ok (.iconst 1, 1) := by decide +kernel
theorem dL_village_95 : decode cL_village 95 = .ok (.aload_n 1, 1) := by decide +kernel
theorem dL_village_96 : decode cL_village 96 = .ok (.iconst 5, 1) := by decide +kernel
theorem dL_village_97 : decode cL_village 97 = .ok (.invokestatic 9, 3) := by decide +kernel
theorem dL_village_100 : decode cL_village 100 = .ok (.iconst 3, 1) := by decide +kernel
theorem dL_village_101 : decode cL_village 101 = .ok (.invokestatic 15, 3) := by decide +kernel
theorem dL_village_104 : decode cL_village 104 = .ok (.iadd, 1) := by decide +kernel
theorem dL_village_105 : decode cL_village 105 = .ok (.istore 4, 2) := by decide +kernel
theorem dL_village_107 : decode cL_village 107 = .ok (.iconst 0, 1) := by decide +kernel
theorem dL_village_108 : decode cL_village 108 = .ok (.istore 5, 2) := by decide +kernel
theorem dL_village_110 : decode cL_village 110 = .ok (.iload 5, 2) := by decide +kernel
theorem dL_village_112 : decode cL_village 112 = .ok (.iload 4, 2) := by decide +kernel
theorem dL_village_114 : decode cL_village 114 = .ok (.if_icmp .ge 104, 3) := by decide +kernel
theorem dL_village_117 : decode cL_village 117 = .ok (.aload_n 0, 1) := by decide +kernel
theorem dL_village_118 : decode cL_village 118 = .ok (.aload_n 1, 1) := by decide +kernel
theorem dL_village_119 : decode cL_village 119 = .ok (.bipush 6, 2) := by decide +kernel
theorem dL_village_121 : decode cL_village 121 = .ok (.invokestatic 9, 3) := by decide +kernel
theorem dL_village_124 : decode cL_village 124 = .ok (.iconst 5, 1) := by decide +kernel
theorem dL_village_125 : decode cL_village 125 = .ok (.iload 5, 2) := by decide +kernel
theorem dL_village_127 : decode cL_village 127 = .ok (.imul, 1) := by decide +kernel
theorem dL_village_128 : decode cL_village 128 = .ok (.ishr, 1) := by decide +kernel
theorem dL_village_129 : decode cL_village 129 = .ok (.sipush 201, 3) := by decide +kernel
theorem dL_village_132 : decode cL_village 132 = .ok (.invokestatic 15, 3) := by decide +kernel
theorem dL_village_135 : decode cL_village 135 = .ok (.aload_n 1, 1) := by decide +kernel
theorem dL_village_136 : decode cL_village 136 = .ok (.bipush 7, 2) := by decide +kernel
theorem dL_village_138 : decode cL_village 138 = .ok (.invokestatic 9, 3) := by decide +kernel
theorem dL_village_141 : decode cL_village 141 = .ok (.iconst 4, 1) := by decide +kernel
theorem dL_village_142 : decode cL_village 142 = .ok (.iload 5, 2) := by decide +kernel
theorem dL_village_144 : decode cL_village 144 = .ok (.imul, 1) := by decide +kernel
theorem dL_village_145 : decode cL_village 145 = .ok (.ishr, 1) := by decide +kernel
theorem dL_village_146 : decode cL_village 146 = .ok (.bipush 51, 2) := by decide +kernel
theorem dL_village_148 : decode cL_village 148 = .ok (.invokestatic 15, 3) := by decide +kernel
theorem dL_village_151 : decode cL_village 151 = .ok (.invokevirtual 25, 3) := by decide +kernel
theorem dL_village_154 : decode cL_village 154 = .ok (.pop, 1) := by decide +kernel
theorem dL_village_155 : decode cL_village 155 = .ok (.iconst 0, 1) := by decide +kernel
theorem dL_village_156 : decode cL_village 156 = .ok (.istore 6, 2) := by decide +kernel
theorem dL_village_158 : decode cL_village 158 = .ok (.iload 6, 2) := by decide +kernel
theorem dL_village_160 : decode cL_village 160 = .ok (.bipush 6, 2) := by decide +kernel
theorem dL_village_162 : decode cL_village 162 = .ok (.if_icmp .ge 50, 3) := by decide +kernel
theorem dL_village_165 : decode cL_village 165 = .ok (.aload_n 0, 1) := by decide +kernel
theorem dL_village_166 : decode cL_village 166 = .ok (.iload 5, 2) := by decide +kernel
theorem dL_village_168 : decode cL_village 168 = .ok (.aload_n 1, 1) := by decide +kernel
theorem dL_village_169 : decode cL_village 169 = .ok (.bipush 8, 2) := by decide +kernel
theorem dL_village_171 : decode cL_village 171 = .ok (.iload 5, 2) := by decide +kernel
theorem dL_village_173 : decode cL_village 173 = .ok (.iadd, 1) := by decide +kernel
theorem dL_village_174 : decode cL_village 174 = .ok (.invokestatic 9, 3) := by decide +kernel
theorem dL_village_177 : decode cL_village 177 = .ok (.iconst 4, 1) := by decide +kernel
theorem dL_village_178 : decode cL_village 178 = .ok (.iload 6, 2) := by decide +kernel
theorem dL_village_180 : decode cL_village 180 = .ok (.imul, 1) := by decide +kernel
theorem dL_village_181 : decode cL_village 181 = .ok (.ishr, 1) := by decide +kernel
theorem dL_village_182 : decode cL_village 182 = .ok (.iload_n 2, 1) := by decide +kernel
theorem dL_village_183 : decode cL_village 183 = .ok (.invokestatic 15, 3) := by decide +kernel
theorem dL_village_186 : decode cL_village 186 = .ok (.invokevirtual 28, 3) := by decide +kernel
theorem dL_village_189 : decode cL_village 189 = .ok (.pop, 1) := by decide +kernel
theorem dL_village_190 : decode cL_village 190 = .ok (.goto 16, 3) := by decide +kernel
theorem dL_village_193 : decode cL_village 193 = .ok (.astore 7, 2) := by decide +kernel
theorem dL_village_195 : decode cL_village 195 = .ok (.iload 4, 2) := by decide +kernel
theorem dL_village_197 : decode cL_village 197 = .ok (.iload 5, 2) := by decide +kernel
theorem dL_village_199 : decode cL_village 199 = .ok (.iconst 1, 1) := by decide +kernel
theorem dL_village_200 : decode cL_village 200 = .ok (.iadd, 1) := by decide +kernel
theorem dL_village_201 : decode cL_village 201 = .ok (.invokestatic 33, 3) := by decide +kernel
theorem dL_village_204 : decode cL_village 204 = .ok (.istore 4, 2) := by decide +kernel
theorem dL_village_206 : decode cL_village 206 = .ok (.iinc 6 1, 3) := by decide +kernel
theorem dL_village_209 : decode cL_village 209 = .ok (.goto (-51), 3) := by decide +kernel
theorem dL_village_212 : decode cL_village 212 = .ok (.iinc 5 1, 3) := by decide +kernel
theorem dL_village_215 : decode cL_village 215 = .ok (.goto (-105), 3) := by decide +kernel
theorem dL_village_218 : decode cL_village 218 = .ok (.iconst 0, 1) := by decide +kernel
theorem dL_village_219 : decode cL_village 219 = .ok (.istore 5, 2) := by decide +kernel
theorem dL_village_221 : decode cL_village 221 = .ok (.iload 5, 2) := by decide +kernel
theorem dL_village_223 : decode cL_village 223 = .ok (.iload_n 2, 1) := by decide +kernel
theorem dL_village_224 : decode cL_village 224 = .ok (.if_icmp .ge 48, 3) := by decide +kernel
theorem dL_village_227 : decode cL_village 227 = .ok (.aload_n 1, 1) := by decide +kernel
theorem dL_village_228 : decode cL_village 228 = .ok (.bipush 11, 2) := by decide +kernel
theorem dL_village_230 : decode cL_village 230 = .ok (.invokestatic 9, 3) := by decide +kernel
theorem dL_village_233 : decode cL_village 233 = .ok (.iload 5, 2) := by decide +kernel
theorem dL_village_235 : decode cL_village 235 = .ok (.ishr, 1) := by decide +kernel
theorem dL_village_236 : decode cL_village 236 = .ok (.iconst 3, 1) := by decide +kernel
theorem dL_village_237 : decode cL_village 237 = .ok (.invokestatic 15, 3) := by decide +kernel
theorem dL_village_240 : decode cL_village 240 = .ok (.ifCond .le 26, 3) := by decide +kernel
theorem dL_village_243 : decode cL_village 243 = .ok (.aload_n 0, 1) := by decide +kernel
theorem dL_village_244 : decode cL_village 244 = .ok (.iload 5, 2) := by decide +kernel
theorem dL_village_246 : decode cL_village 246 = .ok (.aload_n 1, 1) := by decide +kernel
theorem dL_village_247 : decode cL_village 247 = .ok (.bipush 11, 2) := by decide +kernel
theorem dL_village_249 : decode cL_village 249 = .ok (.invokestatic 9, 3) := by decide +kernel
theorem dL_village_252 : decode cL_village 252 = .ok (.iconst 2, 1) := by decide +kernel
theorem dL_village_253 : decode cL_village 253 = .ok (.iload 5, 2) := by decide +kernel
theorem dL_village_255 : decode cL_village 255 = .ok (.imul, 1) := by decide +kernel
theorem dL_village_256 : decode cL_village 256 = .ok (.ishr, 1) := by decide +kernel
theorem dL_village_257 : decode cL_village 257 = .ok (.iload 4, 2) := by decide +kernel
theorem dL_village_259 : decode cL_village 259 = .ok (.invokestatic 15, 3) := by decide +kernel
theorem dL_village_262 : decode cL_village 262 = .ok (.invokevirtual 38, 3) := by decide +kernel
theorem dL_village_265 : decode cL_village 265 = .ok (.pop, 1) := by decide +kernel
theorem dL_village_266 : decode cL_village 266 = .ok (.iinc 5 1, 3) := by decide +kernel
theorem dL_village_269 : decode cL_village 269 = .ok (.goto (-48), 3) := by decide +kernel
theorem dL_village_272 : decode cL_village 272 = .ok (.aload_n 3, 1) := by decide +kernel
theorem dL_village_273 : decode cL_village 273 = .ok (.areturn, 1) := by decide +kernel
set_option maxRecDepth 20000 in
theorem ggL_law_X3_init : GoodIn wsL_law wsX3_init := goodIn_r _ [5, 6, 7, 8, 9, 10, 11, 12, 13, 14, 15, 16, 17, 18, 19, 20, 21, 22, 23, 24, 25, 26, 27, 28, 29, 30, 31, 32, 33, 34, 35, 36, 37, 402, 403, 404, 405, 406, 407, 400, 401, 408, 409, 410, 411, 412, 413, 414, 415, 416, 417, 418, 419, 420, 421, 422, 423, 424, 425, 426, 427, 428, 429, 430, 431, 432, 433] (by decide +kernel) (by decide +kernel)
set_option maxRecDepth 20000 in
theorem gL_law_X3_init : GoodIn wsL_law (wsX3_init) := ggL_law_X3_init
set_option maxRecDepth 20000 in
theorem ggL_law_L_village : GoodIn wsL_law wsL_village := goodIn_ca (goodIn_ca (goodIn_ca (goodIn_r _ [41, 42, 36, 43, 44, 45, 46, 47, 48, 40, 49, 50, 51, 52, 53, 54, 55, 56, 57, 2, 58, 59, 60, 12, 61, 62, 63, 64, 65, 66, 67, 68, 69, 70, 71, 72, 73, 74, 75, 76, 77, 78, 79, 80, 81, 82, 83, 84, 85, 86, 87, 88, 89, 90, 91, 92, 93, 94, 11, 95, 96, 97, 98, 99, 100, 101, 102, 103, 104, 105, 106, 107, 108, 25, 109, 110, 37, 111, 112, 113, 114, 115, 116, 117, 118, 119, 400, 401, 402, 403, 404, 405, 406, 407, 408, 409, 410, 411, 412, 413, 414, 415, 416, 417, 418, 419, 420, 421, 422, 423, 424, 425, 426, 427, 428, 429, 430, 431, 432, 433] (by decide +kernel) (by decide +kernel)) (goodIn_sub (fun _ h => List.mem_append_left _ (List.mem_append_left _ (List.mem_append_right _ h))) (by decide +kernel))) (goodIn_sub (fun _ h => List.mem_append_left _ (List.mem_append_right _ h)) (by decide +kernel))) (goodIn_sub (fun _ h => List.mem_append_right _ h) (by decide +kernel))
set_option maxRecDepth 20000 in
theorem gL_law_L_village : GoodIn wsL_law (va_wsS RL 42 yL_village wsL_village) := goodIn_app (goodIn_of _ (by decide +kernel)) ggL_law_L_village
set_option maxRecDepth 20000 in
theorem ggL_law_X3_count : GoodIn wsL_law wsX3_count := goodIn_ca (goodIn_r _ [123, 12, 124, 125, 2, 126, 90, 91, 127, 128, 129, 11, 130, 131, 105, 96, 132, 133, 134, 135, 136, 19, 137, 138, 139, 140, 141, 142, 143, 144, 23, 145, 146, 147, 148, 149, 150, 151, 152, 153, 154, 155, 156, 157, 158, 159, 160, 161, 162, 163, 164, 165, 166, 167, 168, 169, 21, 170, 400, 401, 402, 403, 404, 405, 406, 407, 408, 409, 410, 411, 412, 413, 414, 415, 416, 417, 418, 419, 420, 421, 422, 423, 424, 425, 426, 427, 428, 429, 430, 431, 432, 433] (by decide +kernel) (by decide +kernel)) (goodIn_sub (fun _ h => List.mem_append_right _ h) (by decide +kernel))
set_option maxRecDepth 20000 in
theorem gL_law_X3_count : GoodIn wsL_law (wsV RL 46 RX3 yX3_count wsX3_count) := goodIn_app (goodIn_of _ (by decide +kernel)) ggL_law_X3_count
set_option maxRecDepth 20000 in
theorem ggL_law_L_cell : GoodIn wsL_law wsL_cell := goodIn_r _ [49, 50] (by decide +kernel) (by decide +kernel)
set_option maxRecDepth 20000 in
theorem gL_law_L_cell : GoodIn wsL_law (va_wsS RL 9 yL_cell wsL_cell) := goodIn_app (goodIn_of _ (by decide +kernel)) ggL_law_L_cell
set_option maxRecDepth 20000 in
theorem ggL_law_L_below : GoodIn wsL_law wsL_below := goodIn_r _ [53, 54] (by decide +kernel) (by decide +kernel)
set_option maxRecDepth 20000 in
theorem gL_law_L_below : GoodIn wsL_law (va_wsS RL 15 yL_below wsL_below) := goodIn_app (goodIn_of _ (by decide +kernel)) ggL_law_L_below
set_option maxRecDepth 20000 in
theorem ggL_law_X3_leave : GoodIn wsL_law wsX3_leave := goodIn_ca (goodIn_ca (goodIn_r _ [174, 12, 62, 175, 97, 98, 99, 2, 100, 90, 91, 101, 102, 103, 11, 104, 105, 67, 68, 69, 70, 71, 400, 401, 402, 403, 404, 405, 406, 407, 408, 409, 410, 411, 412, 413, 414, 415, 416, 417, 418, 419] (by decide +kernel) (by decide +kernel)) (goodIn_sub (fun _ h => List.mem_append_right _ h) (by decide +kernel))) (goodIn_sub (fun _ h => List.mem_append_left _ (List.mem_append_right _ h)) (by decide +kernel))
set_option maxRecDepth 20000 in
theorem gL_law_X3_leave : GoodIn wsL_law (wsV RL 50 RX3 yX3_leave wsX3_leave) := goodIn_app (goodIn_of _ (by decide +kernel)) ggL_law_X3_leave
set_option maxRecDepth 20000 in
theorem ggL_law_X3_fine : GoodIn wsL_law wsX3_fine := goodIn_ca (goodIn_ca (goodIn_r _ [179, 12, 62, 97, 98, 99, 2, 100, 90, 91, 101, 102, 103, 11, 104, 105, 67, 68, 69, 70, 71, 180, 181, 182, 183, 184, 137, 185, 186, 45, 187, 132, 151, 96, 21, 188, 189, 107, 108, 25, 109, 110, 37, 190, 191, 192, 193, 194, 400, 401, 402, 403, 404, 405, 406, 407, 408, 409, 410, 411, 412, 413, 414, 415, 416, 417, 418, 419, 420, 421, 422, 423, 424, 425, 426, 427, 428, 429, 430, 431, 432, 433] (by decide +kernel) (by decide +kernel)) (goodIn_sub (fun _ h => List.mem_append_right _ h) (by decide +kernel))) (goodIn_sub (fun _ h => List.mem_append_left _ (List.mem_append_right _ h)) (by decide +kernel))
set_option maxRecDepth 20000 in
theorem gL_law_X3_fine : GoodIn wsL_law (wsV RL 53 RX3 yX3_fine wsX3_fine) := goodIn_app (goodIn_of _ (by decide +kernel)) ggL_law_X3_fine
set_option maxRecDepth 20000 in
theorem ggL_law_X3_lodge : GoodIn wsL_law wsX3_lodge := goodIn_ca (goodIn_ca (goodIn_r _ [198, 12, 62, 63, 97, 98, 99, 2, 100, 90, 91, 101, 102, 103, 11, 104, 105, 67, 68, 69, 70, 71, 400, 401, 402, 403, 404, 405, 406, 407, 408, 409, 410, 411, 412, 413, 414, 415, 416, 417, 418, 419] (by decide +kernel) (by decide +kernel)) (goodIn_sub (fun _ h => List.mem_append_right _ h) (by decide +kernel))) (goodIn_sub (fun _ h => List.mem_append_left _ (List.mem_append_right _ h)) (by decide +kernel))
set_option maxRecDepth 20000 in
theorem gL_law_X3_lodge : GoodIn wsL_law (wsV RL 56 RX3 yX3_lodge wsX3_lodge) := goodIn_app (goodIn_of _ (by decide +kernel)) ggL_law_X3_lodge
set_option maxRecDepth 20000 in
theorem ggL_law_X3_enrol : GoodIn wsL_law wsX3_enrol := goodIn_ca (goodIn_ca (goodIn_r _ [83, 59, 60, 12, 77, 62, 84, 85, 86, 87, 88, 2, 89, 90, 91, 92, 93, 94, 11, 95, 96, 97, 98, 99, 100, 101, 102, 103, 104, 105, 106, 107, 108, 25, 109, 110, 37, 111, 112, 113, 114, 400, 401, 402, 403, 404, 405, 406, 407, 408, 409, 410, 411, 412, 413, 414, 415, 416, 417, 418, 419, 420, 421, 422, 423, 424, 425, 426, 427, 428, 429, 430, 431, 432, 433] (by decide +kernel) (by decide +kernel)) (goodIn_sub (fun _ h => List.mem_append_left _ (List.mem_append_left _ (List.mem_append_right _ h))) (by decide +kernel))) (goodIn_sub (fun _ h => List.mem_append_right _ h) (by decide +kernel))
set_option maxRecDepth 20000 in
theorem gL_law_X3_enrol : GoodIn wsL_law (wsV RL 28 RX3 yX3_enrol wsX3_enrol) := goodIn_app (goodIn_of _ (by decide +kernel)) ggL_law_X3_enrol
set_option maxRecDepth 20000 in
theorem ggL_law_X3_house : GoodIn wsL_law wsX3_house := goodIn_ca (goodIn_r _ [202, 12, 62, 97, 98, 99, 2, 100, 90, 91, 101, 102, 103, 11, 104, 105, 124, 125, 126, 203, 204, 205, 206, 207, 208, 137, 151, 209, 210, 211, 156, 212, 184, 188, 213, 214, 215, 216, 96, 21, 217, 400, 401, 402, 403, 404, 405, 406, 407, 408, 409, 410, 411, 412, 413, 414, 415, 416, 417, 418, 419, 420, 421, 422, 423, 424, 425, 426, 427, 428, 429, 430, 431, 432, 433] (by decide +kernel) (by decide +kernel)) (goodIn_sub (fun _ h => List.mem_append_right _ h) (by decide +kernel))
set_option maxRecDepth 20000 in
theorem gL_law_X3_house : GoodIn wsL_law (wsV RL 59 RX3 yX3_house wsX3_house) := goodIn_app (goodIn_of _ (by decide +kernel)) ggL_law_X3_house
set_option maxRecDepth 20000 in
theorem ggL_law_X3_ahead : GoodIn wsL_law wsX3_ahead := goodIn_ca (goodIn_r _ [221, 12, 77, 222, 85, 86, 87, 88, 2, 89, 90, 91, 92, 93, 94, 11, 95, 96, 97, 98, 99, 100, 101, 102, 103, 104, 105, 106, 107, 108, 25, 109, 110, 37, 400, 401, 402, 403, 404, 405, 406, 407, 420, 421, 422, 423, 424, 425, 426, 427, 428, 429, 430, 431, 432, 433] (by decide +kernel) (by decide +kernel)) (goodIn_sub (fun _ h => List.mem_append_right _ h) (by decide +kernel))
set_option maxRecDepth 20000 in
theorem gL_law_X3_ahead : GoodIn wsL_law (wsV RL 62 RX3 yX3_ahead wsX3_ahead) := goodIn_app (goodIn_of _ (by decide +kernel)) ggL_law_X3_ahead
set_option maxRecDepth 20000 in
theorem ggL_law_X3_prefer : GoodIn wsL_law wsX3_prefer := goodIn_ca (goodIn_r _ [118, 12, 62, 119, 97, 98, 99, 2, 100, 90, 91, 101, 102, 103, 11, 104, 105, 86, 87, 88, 89, 92, 93, 94, 95, 96, 400, 401, 402, 403, 404, 405, 406, 407, 408, 409, 410, 411, 412, 413, 414, 415, 416, 417, 418, 419] (by decide +kernel) (by decide +kernel)) (goodIn_sub (fun _ h => List.mem_append_right _ h) (by decide +kernel))
set_option maxRecDepth 20000 in
theorem gL_law_X3_prefer : GoodIn wsL_law (wsV RL 38 RX3 yX3_prefer wsX3_prefer) := goodIn_app (goodIn_of _ (by decide +kernel)) ggL_law_X3_prefer
set_option maxRecDepth 20000 in
theorem ggL_law_X3_digest : GoodIn wsL_law wsX3_digest := goodIn_r _ [226, 227, 228, 12, 61, 62, 76, 77, 127, 128, 129, 11, 130, 131, 105, 96, 132, 133, 134, 135, 136, 19, 137, 138, 139, 140, 141, 142, 143, 144, 23, 145, 146, 147, 148, 149, 150, 151, 152, 153, 154, 155, 156, 157, 158, 159, 160, 161, 162, 163, 164, 165, 166, 167, 168, 169, 21, 170, 203, 204, 205, 206, 207, 208, 209, 210, 211, 212, 184, 188, 213, 214, 215, 216, 217, 229, 230, 231, 25, 232, 233, 110, 37, 234, 235, 236, 237, 238, 239, 240, 241, 242, 35, 194, 243, 244, 245, 400, 401, 402, 403, 404, 405, 406, 407, 408, 409, 410, 411, 412, 413, 414, 415, 416, 417, 418, 419, 420, 421, 422, 423, 424, 425, 426, 427, 428, 429, 430, 431, 432, 433] (by decide +kernel) (by decide +kernel)
set_option maxRecDepth 20000 in
theorem gL_law_X3_digest : GoodIn wsL_law (wsV RL 65 RX3 yX3_digest wsX3_digest) := goodIn_app (goodIn_of _ (by decide +kernel)) ggL_law_X3_digest
set_option maxRecDepth 20000 in
theorem ggL_law_X3_foresee : GoodIn wsL_law wsX3_foresee := goodIn_ca (goodIn_ca (goodIn_r _ [249, 13, 12, 250, 67, 68, 2, 69, 70, 71, 124, 125, 126, 90, 91, 251, 252, 253, 11, 254, 105, 96, 132, 131, 19, 21, 255, 256, 257, 23, 258, 165, 259, 260, 30, 261, 146, 262, 263, 264, 265, 266, 267, 268, 269, 25, 270, 238, 239, 240, 241, 242, 35, 37, 271, 272, 273, 274, 110, 194, 243, 244, 245, 275, 276, 277, 278, 279, 280, 281, 282, 283, 284, 285, 286, 287, 137, 208, 142, 143, 144, 145, 288, 289, 290, 291, 292, 293, 217, 294, 211, 295, 296, 297, 298, 299, 300, 301, 302, 303, 304, 305, 306, 307, 308, 309, 102, 103, 104, 310, 311, 312, 313, 212, 314, 315, 316, 317, 318, 181, 182, 183, 184, 185, 186, 45, 187, 151, 188, 189, 107, 108, 109, 190, 191, 192, 193, 319, 320, 321, 322, 323, 324, 325, 326, 210, 156, 161, 162, 163, 164, 327, 93, 94, 95, 328, 329, 330, 331, 170, 332, 333, 334, 335, 336, 337, 338, 339, 340, 341, 342, 343, 344, 345, 346, 347, 348, 349, 350, 351, 352, 353, 354, 355, 356, 357, 358, 359, 360, 361, 362, 363, 364, 365, 366, 367, 368, 209, 369, 153, 154, 155, 370, 148, 149, 150, 371, 167, 168, 169, 400, 401, 402, 403, 404, 405, 406, 407, 408, 409, 410, 411, 412, 413, 414, 415, 416, 417, 418, 419, 420, 421, 422, 423, 424, 425, 426, 427, 428, 429, 430, 431, 432, 433] (by decide +kernel) (by decide +kernel)) (goodIn_sub (fun _ h => List.mem_append_left _ (List.mem_append_right _ h)) (by decide +kernel))) (goodIn_sub (fun _ h => List.mem_append_right _ h) (by decide +kernel))
set_option maxRecDepth 20000 in
theorem gL_law_X3_foresee : GoodIn wsL_law (wsV RL 69 RX3 yX3_foresee wsX3_foresee) := goodIn_app (goodIn_of _ (by decide +kernel)) ggL_law_X3_foresee
set_option maxRecDepth 20000 in
theorem ggL_law_X3_advise : GoodIn wsL_law wsX3_advise := goodIn_ca (goodIn_ca (goodIn_r _ [375, 12, 76, 13, 62, 119, 97, 98, 99, 2, 100, 90, 91, 101, 102, 103, 11, 104, 105, 67, 68, 69, 70, 71, 251, 252, 253, 254, 96, 132, 131, 19, 21, 255, 256, 257, 23, 258, 165, 259, 260, 30, 261, 146, 262, 263, 264, 265, 266, 267, 268, 269, 25, 270, 238, 239, 240, 241, 242, 35, 37, 271, 272, 273, 274, 110, 194, 243, 244, 245, 275, 276, 277, 278, 279, 280, 281, 282, 283, 284, 285, 286, 287, 137, 208, 142, 143, 144, 145, 288, 289, 290, 291, 292, 293, 217, 294, 211, 295, 296, 297, 298, 299, 300, 301, 302, 303, 304, 305, 306, 307, 308, 309, 310, 311, 312, 313, 212, 314, 315, 316, 317, 318, 181, 182, 183, 184, 185, 186, 45, 187, 151, 188, 189, 107, 108, 109, 190, 191, 192, 193, 319, 320, 321, 322, 323, 324, 325, 326, 210, 156, 161, 162, 163, 164, 327, 93, 94, 95, 328, 329, 330, 331, 170, 332, 333, 334, 335, 336, 337, 338, 339, 340, 341, 342, 343, 344, 345, 346, 347, 348, 349, 350, 351, 352, 353, 354, 355, 356, 357, 358, 359, 360, 361, 362, 363, 364, 365, 366, 367, 368, 209, 369, 153, 154, 155, 400, 401, 402, 403, 404, 405, 406, 407, 408, 409, 410, 411, 412, 413, 414, 415, 416, 417, 418, 419, 420, 421, 422, 423, 424, 425, 426, 427, 428, 429, 430, 431, 432, 433] (by decide +kernel) (by decide +kernel)) (goodIn_sub (fun _ h => List.mem_append_right _ h) (by decide +kernel))) (goodIn_sub (fun _ h => List.mem_append_left _ (List.mem_append_right _ h)) (by decide +kernel))
set_option maxRecDepth 20000 in
theorem gL_law_X3_advise : GoodIn wsL_law (wsV RL 72 RX3 yX3_advise wsX3_advise) := goodIn_app (goodIn_of _ (by decide +kernel)) ggL_law_X3_advise
set_option maxRecDepth 20000 in
theorem ggL_law_X3_pump : GoodIn wsL_law wsX3_pump := goodIn_ca (goodIn_r _ [379, 12, 77, 86, 87, 88, 2, 89, 90, 91, 92, 93, 94, 11, 95, 96, 124, 125, 126, 380, 235, 236, 25, 237, 238, 239, 240, 241, 242, 35, 110, 194, 243, 244, 245, 400, 401, 402, 403, 404, 405, 406, 407, 420, 421, 422, 423, 424, 425, 426, 427, 428, 429, 430, 431, 432, 433] (by decide +kernel) (by decide +kernel)) (goodIn_sub (fun _ h => List.mem_append_right _ h) (by decide +kernel))
set_option maxRecDepth 20000 in
theorem gL_law_X3_pump : GoodIn wsL_law (wsV RL 75 RX3 yX3_pump wsX3_pump) := goodIn_app (goodIn_of _ (by decide +kernel)) ggL_law_X3_pump
set_option maxRecDepth 20000 in
theorem ggL_law_X3_pass : GoodIn wsL_law wsX3_pass := goodIn_ca (goodIn_r _ [384, 12, 67, 68, 2, 69, 70, 71, 275, 276, 277, 11, 278, 279, 280, 281, 282, 96, 21, 283, 284, 285, 286, 287, 105, 19, 137, 208, 142, 143, 144, 23, 145, 146, 288, 289, 290, 291, 292, 293, 217, 294, 211, 295, 296, 297, 298, 299, 300, 301, 302, 303, 25, 304, 110, 37, 305, 306, 307, 308, 309, 102, 103, 104, 310, 311, 312, 313, 212, 314, 315, 316, 317, 260, 265, 318, 181, 182, 183, 184, 185, 186, 45, 187, 132, 151, 188, 189, 107, 108, 109, 190, 191, 192, 193, 194, 319, 320, 321, 322, 323, 324, 325, 326, 210, 156, 161, 162, 163, 164, 165, 327, 93, 94, 95, 328, 329, 330, 331, 170, 332, 333, 334, 335, 336, 337, 241, 338, 242, 339, 340, 341, 342, 343, 344, 345, 346, 347, 348, 349, 350, 351, 240, 245, 352, 353, 354, 355, 356, 357, 358, 359, 360, 131, 361, 362, 363, 364, 365, 366, 367, 368, 209, 400, 401, 402, 403, 404, 405, 406, 407, 420, 421, 422, 423, 424, 425, 426, 427, 428, 429, 430, 431, 432, 433, 408, 409, 410, 411, 412, 413, 414, 415, 416, 417, 418, 419] (by decide +kernel) (by decide +kernel)) (goodIn_sub (fun _ h => List.mem_append_left _ (List.mem_append_right _ h)) (by decide +kernel))
set_option maxRecDepth 20000 in
theorem gL_law_X3_pass : GoodIn wsL_law (wsV RL 78 RX3 yX3_pass wsX3_pass) := goodIn_app (goodIn_of _ (by decide +kernel)) ggL_law_X3_pass
set_option maxRecDepth 20000 in
theorem ggL_law_X3_roster : GoodIn wsL_law wsX3_roster := goodIn_ca (goodIn_r _ [388, 12, 77, 389, 390, 391, 2, 392, 90, 91, 85, 86, 87, 88, 89, 92, 93, 94, 11, 95, 96, 393, 302, 303, 25, 304, 110, 37, 400, 401, 402, 403, 404, 405, 406, 407, 420, 421, 422, 423, 424, 425, 426, 427, 428, 429, 430, 431, 432, 433] (by decide +kernel) (by decide +kernel)) (goodIn_sub (fun _ h => List.mem_append_right _ h) (by decide +kernel))
set_option maxRecDepth 20000 in
theorem gL_law_X3_roster : GoodIn wsL_law (wsV RL 81 RX3 yX3_roster wsX3_roster) := goodIn_app (goodIn_of _ (by decide +kernel)) ggL_law_X3_roster
set_option maxRecDepth 20000 in
theorem ggL_law_X3_daily : GoodIn wsL_law wsX3_daily := goodIn_r _ [397, 12, 398, 399, 280, 281, 11, 282, 96, 21, 283, 400, 401, 402, 403, 404, 405, 406, 407, 420, 421, 422, 423, 424, 425, 426, 427, 428, 429, 430, 431, 432, 433] (by decide +kernel) (by decide +kernel)
set_option maxRecDepth 20000 in
theorem gL_law_X3_daily : GoodIn wsL_law (wsV RL 84 RX3 yX3_daily wsX3_daily) := goodIn_app (goodIn_of _ (by decide +kernel)) ggL_law_X3_daily
theorem dL_law_0 : decode cL_law 0 = .ok (.new 20, 3) := by decide +kernel
theorem dL_law_3 : decode cL_law 3 = .ok (.dup, 1) := by decide +kernel
theorem dL_law_4 : decode cL_law 4 = .ok (.invokespecial 41, 3) := by decide +kernel
theorem dL_law_7 : decode cL_law 7 = .ok (.astore_n 1, 1) := by decide +kernel
theorem dL_law_8 : decode cL_law 8 = .ok (.aload_n 1, 1) := by decide +kernel
theorem dL_law_9 : decode cL_law 9 = .ok (.aload_n 0, 1) := by decide +kernel
theorem dL_law_10 : decode cL_law 10 = .ok (.invokestatic 42, 3) := by decide +kernel
theorem dL_law_13 : decode cL_law 13 = .ok (.pop, 1) := by decide +kernel
theorem dL_law_14 : decode cL_law 14 = .ok (.aload_n 1, 1) := by decide +kernel
theorem dL_law_15 : decode cL_law 15 = .ok (.iconst 1, 1) := by decide +kernel
theorem dL_law_16 : decode cL_law 16 = .ok (.invokevirtual 46, 3) := by decide +kernel
theorem dL_law_19 : decode cL_law 19 = .ok (.istore_n 2, 1) := by decide +kernel
theorem dL_law_20 : decode cL_law 20 = .ok (.aload_n 1, 1) := by decide +kernel
theorem dL_law_21 : decode cL_law 21 = .ok (.iconst 2, 1) := by decide +kernel
theorem dL_law_22 : decode cL_law 22 = .ok (.invokevirtual 46, 3) := by decide +kernel
theorem dL_law_25 : decode cL_law 25 = .ok (.istore_n 3, 1) := by decide +kernel
theorem dL_law_26 : decode cL_law 26 = .ok (.iconst 0, 1) := by decide +kernel
theorem dL_law_27 : decode cL_law 27 = .ok (.istore 4, 2) := by decide +kernel
theorem dL_law_29 : decode cL_law 29 = .ok (.iload 4, 2) := by decide +kernel
theorem dL_law_31 : decode cL_law 31 = .ok (.bipush 45, 2) := by decide +kernel
theorem dL_law_33 : decode cL_law 33 = .ok (.if_icmp .ge 819, 3) := by decide +kernel
theorem dL_law_36 : decode cL_law 36 = .ok (.aload_n 0, 1) := by decide +kernel
theorem dL_law_37 : decode cL_law 37 = .ok (.iload 4, 2) := by decide +kernel
theorem dL_law_39 : decode cL_law 39 = .ok (.bipush 16, 2) := by decide +kernel
theorem dL_law_41 : decode cL_law 41 = .ok (.irem, 1) := by decide +kernel
theorem dL_law_42 : decode cL_law 42 = .ok (.invokestatic 9, 3) := by decide +kernel
theorem dL_law_45 : decode cL_law 45 = .ok (.iload 4, 2) := by decide +kernel
theorem dL_law_47 : decode cL_law 47 = .ok (.bipush 16, 2) := by decide +kernel
theorem dL_law_49 : decode cL_law 49 = .ok (.idiv, 1) := by decide +kernel
theorem dL_law_50 : decode cL_law 50 = .ok (.bipush 6, 2) := by decide +kernel
theorem dL_law_52 : decode cL_law 52 = .ok (.imul, 1) := by decide +kernel
theorem dL_law_53 : decode cL_law 53 = .ok (.ishr, 1) := by decide +kernel
theorem dL_law_54 : decode cL_law 54 = .ok (.istore 5, 2) := by decide +kernel
theorem dL_law_56 : decode cL_law 56 = .ok (.iload 5, 2) := by decide +kernel
theorem dL_law_58 : decode cL_law 58 = .ok (.iconst 3, 1) := by decide +kernel
theorem dL_law_59 : decode cL_law 59 = .ok (.ishr, 1) := by decide +kernel
theorem dL_law_60 : decode cL_law 60 = .ok (.iload_n 2, 1) := by decide +kernel
theorem dL_law_61 : decode cL_law 61 = .ok (.invokestatic 15, 3) := by decide +kernel
theorem dL_law_64 : decode cL_law 64 = .ok (.istore 6, 2) := by decide +kernel
theorem dL_law_66 : decode cL_law 66 = .ok (.iload 5, 2) := by decide +kernel
theorem dL_law_68 : decode cL_law 68 = .ok (.bipush 8, 2) := by decide +kernel
theorem dL_law_70 : decode cL_law 70 = .ok (.invokestatic 15, 3) := by decide +kernel
theorem dL_law_73 : decode cL_law 73 = .ok (.tableswitch 148 0 3 #[31, 51, 73, 93], 31) := by decide +kernel
theorem dL_law_104 : decode cL_law 104 = .ok (.aload_n 1, 1) := by decide +kernel
theorem dL_law_105 : decode cL_law 105 = .ok (.iload 6, 2) := by decide +kernel
theorem dL_law_107 : decode cL_law 107 = .ok (.iload 5, 2) := by decide +kernel
theorem dL_law_109 : decode cL_law 109 = .ok (.bipush 6, 2) := by decide +kernel
theorem dL_law_111 : decode cL_law 111 = .ok (.ishr, 1) := by decide +kernel
theorem dL_law_112 : decode cL_law 112 = .ok (.bipush 9, 2) := by decide +kernel
theorem dL_law_114 : decode cL_law 114 = .ok (.invokestatic 15, 3) := by decide +kernel
theorem dL_law_117 : decode cL_law 117 = .ok (.invokevirtual 50, 3) := by decide +kernel
theorem dL_law_120 : decode cL_law 120 = .ok (.pop, 1) := by decide +kernel
theorem dL_law_121 : decode cL_law 121 = .ok (.goto 116, 3) := by decide +kernel
theorem dL_law_124 : decode cL_law 124 = .ok (.aload_n 1, 1) := by decide +kernel
theorem dL_law_125 : decode cL_law 125 = .ok (.iload 6, 2) := by decide +kernel
theorem dL_law_127 : decode cL_law 127 = .ok (.iconst 1, 1) := by decide +kernel
theorem dL_law_128 : decode cL_law 128 = .ok (.iload 5, 2) := by decide +kernel
theorem dL_law_130 : decode cL_law 130 = .ok (.bipush 6, 2) := by decide +kernel
theorem dL_law_132 : decode cL_law 132 = .ok (.ishr, 1) := by decide +kernel
theorem dL_law_133 : decode cL_law 133 = .ok (.bipush 50, 2) := by decide +kernel
theorem dL_law_135 : decode cL_law 135 = .ok (.invokestatic 15, 3) := by decide +kernel
theorem dL_law_138 : decode cL_law 138 = .ok (.iadd, 1) := by decide +kernel
theorem dL_law_139 : decode cL_law 139 = .ok (.invokevirtual 53, 3) := by decide +kernel
theorem dL_law_142 : decode cL_law 142 = .ok (.pop, 1) := by decide +kernel
theorem dL_law_143 : decode cL_law 143 = .ok (.goto 94, 3) := by decide +kernel
theorem dL_law_146 : decode cL_law 146 = .ok (.aload_n 1, 1) := by decide +kernel
theorem dL_law_147 : decode cL_law 147 = .ok (.iload 6, 2) := by decide +kernel
theorem dL_law_149 : decode cL_law 149 = .ok (.iload 5, 2) := by decide +kernel
theorem dL_law_151 : decode cL_law 151 = .ok (.bipush 6, 2) := by decide +kernel
theorem dL_law_153 : decode cL_law 153 = .ok (.ishr, 1) := by decide +kernel
theorem dL_law_154 : decode cL_law 154 = .ok (.bipush 10, 2) := by decide +kernel
theorem dL_law_156 : decode cL_law 156 = .ok (.invokestatic 15, 3) := by decide +kernel
theorem dL_law_159 : decode cL_law 159 = .ok (.invokevirtual 56, 3) := by decide +kernel
theorem dL_law_162 : decode cL_law 162 = .ok (.pop, 1) := by decide +kernel
theorem dL_law_163 : decode cL_law 163 = .ok (.goto 74, 3) := by decide +kernel
theorem dL_law_166 : decode cL_law 166 = .ok (.aload_n 1, 1) := by decide +kernel
theorem dL_law_167 : decode cL_law 167 = .ok (.iload 5, 2) := by decide +kernel
theorem dL_law_169 : decode cL_law 169 = .ok (.bipush 6, 2) := by decide +kernel
theorem dL_law_171 : decode cL_law 171 = .ok (.ishr, 1) := by decide +kernel
theorem dL_law_172 : decode cL_law 172 = .ok (.iload_n 3, 1) := by decide +kernel
theorem dL_law_173 : decode cL_law 173 = .ok (.invokestatic 15, 3) := by decide +kernel
theorem dL_law_176 : decode cL_law 176 = .ok (.iload 6, 2) := by decide +kernel
theorem dL_law_178 : decode cL_law 178 = .ok (.invokevirtual 28, 3) := by decide +kernel
theorem dL_law_181 : decode cL_law 181 = .ok (.pop, 1) := by decide +kernel
theorem dL_law_182 : decode cL_law 182 = .ok (.goto 55, 3) := by decide +kernel
theorem dL_law_185 : decode cL_law 185 = .ok (.astore 7, 2) := by decide +kernel
theorem dL_law_187 : decode cL_law 187 = .ok (.aload_n 1, 1) := by decide +kernel
theorem dL_law_188 : decode cL_law 188 = .ok (.iload 6, 2) := by decide +kernel
theorem dL_law_190 : decode cL_law 190 = .ok (.iconst 3, 1) := by decide +kernel
theorem dL_law_191 : decode cL_law 191 = .ok (.invokevirtual 59, 3) := by decide +kernel
theorem dL_law_194 : decode cL_law 194 = .ok (.iconst 3, 1) := by decide +kernel
theorem dL_law_195 : decode cL_law 195 = .ok (.if_icmp .ge 23, 3) := by decide +kernel
theorem dL_law_198 : decode cL_law 198 = .ok (.aload_n 1, 1) := by decide +kernel
theorem dL_law_199 : decode cL_law 199 = .ok (.iload 5, 2) := by decide +kernel
theorem dL_law_201 : decode cL_law 201 = .ok (.bipush 6, 2) := by decide +kernel
theorem dL_law_203 : decode cL_law 203 = .ok (.ishr, 1) := by decide +kernel
theorem dL_law_204 : decode cL_law 204 = .ok (.iload_n 3, 1) := by decide +kernel
theorem dL_law_205 : decode cL_law 205 = .ok (.invokestatic 15, 3) := by decide +kernel
theorem dL_law_208 : decode cL_law 208 = .ok (.iload 6, 2) := by decide +kernel
theorem dL_law_210 : decode cL_law 210 = .ok (.invokevirtual 62, 3) := by decide +kernel
theorem dL_law_213 : decode cL_law 213 = .ok (.ifCond .ge 5, 3) := by decide +kernel
theorem dL_law_216 : decode cL_law 216 = .ok (.iconst 0, 1) := by decide +kernel
theorem dL_law_217 : decode cL_law 217 = .ok (.ireturn, 1) := by decide +kernel
theorem dL_law_218 : decode cL_law 218 = .ok (.goto 19, 3) := by decide +kernel
theorem dL_law_221 : decode cL_law 221 = .ok (.aload_n 1, 1) := by decide +kernel
theorem dL_law_222 : decode cL_law 222 = .ok (.iload 6, 2) := by decide +kernel
theorem dL_law_224 : decode cL_law 224 = .ok (.iload 5, 2) := by decide +kernel
theorem dL_law_226 : decode cL_law 226 = .ok (.bipush 6, 2) := by decide +kernel
theorem dL_law_228 : decode cL_law 228 = .ok (.ishr, 1) := by decide +kernel
theorem dL_law_229 : decode cL_law 229 = .ok (.iload_n 3, 1) := by decide +kernel
theorem dL_law_230 : decode cL_law 230 = .ok (.invokestatic 15, 3) := by decide +kernel
theorem dL_law_233 : decode cL_law 233 = .ok (.invokevirtual 38, 3) := by decide +kernel
theorem dL_law_236 : decode cL_law 236 = .ok (.pop, 1) := by decide +kernel
theorem dL_law_237 : decode cL_law 237 = .ok (.iconst 1, 1) := by decide +kernel
theorem dL_law_238 : decode cL_law 238 = .ok (.iload 5, 2) := by decide +kernel
theorem dL_law_240 : decode cL_law 240 = .ok (.iconst 5, 1) := by decide +kernel
theorem dL_law_241 : decode cL_law 241 = .ok (.ishr, 1) := by decide +kernel
theorem dL_law_242 : decode cL_law 242 = .ok (.iconst 3, 1) := by decide +kernel
theorem dL_law_243 : decode cL_law 243 = .ok (.invokestatic 15, 3) := by decide +kernel
theorem dL_law_246 : decode cL_law 246 = .ok (.iadd, 1) := by decide +kernel
theorem dL_law_247 : decode cL_law 247 = .ok (.istore 7, 2) := by decide +kernel
theorem dL_law_249 : decode cL_law 249 = .ok (.aload_n 1, 1) := by decide +kernel
theorem dL_law_250 : decode cL_law 250 = .ok (.invokevirtual 65, 3) := by decide +kernel
theorem dL_law_253 : decode cL_law 253 = .ok (.lstore 8, 2) := by decide +kernel
theorem dL_law_255 : decode cL_law 255 = .ok (.aload_n 1, 1) := by decide +kernel
theorem dL_law_256 : decode cL_law 256 = .ok (.iload 7, 2) := by decide +kernel
theorem dL_law_258 : decode cL_law 258 = .ok (.iconst 0, 1) := by decide +kernel
theorem dL_law_259 : decode cL_law 259 = .ok (.invokevirtual 69, 3) := by decide +kernel
theorem dL_law_262 : decode cL_law 262 = .ok (.istore 10, 2) := by decide +kernel
theorem dL_law_264 : decode cL_law 264 = .ok (.aload_n 1, 1) := by decide +kernel
theorem dL_law_265 : decode cL_law 265 = .ok (.iload 7, 2) := by decide +kernel
theorem dL_law_267 : decode cL_law 267 = .ok (.iconst 1, 1) := by decide +kernel
theorem dL_law_268 : decode cL_law 268 = .ok (.invokevirtual 69, 3) := by decide +kernel
theorem dL_law_271 : decode cL_law 271 = .ok (.istore 11, 2) := by decide +kernel
theorem dL_law_273 : decode cL_law 273 = .ok (.iload 4, 2) := by decide +kernel
theorem dL_law_275 : decode cL_law 275 = .ok (.bipush 6, 2) := by decide +kernel
theorem dL_law_277 : decode cL_law 277 = .ok (.irem, 1) := by decide +kernel
theorem dL_law_278 : decode cL_law 278 = .ok (.ifCond .ne 21, 3) := by decide +kernel
theorem dL_law_281 : decode cL_law 281 = .ok (.aload_n 1, 1) := by decide +kernel
theorem dL_law_282 : decode cL_law 282 = .ok (.iload 6, 2) := by decide +kernel
theorem dL_law_284 : decode cL_law 284 = .ok (.iconst 1, 1) := by decide +kernel
theorem dL_law_285 : decode cL_law 285 = .ok (.iload 5, 2) := by decide +kernel
theorem dL_law_287 : decode cL_law 287 = .ok (.iconst 4, 1) := by decide +kernel
theorem dL_law_288 : decode cL_law 288 = .ok (.ishr, 1) := by decide +kernel
theorem dL_law_289 : decode cL_law 289 = .ok (.bipush 8, 2) := by decide +kernel
theorem dL_law_291 : decode cL_law 291 = .ok (.invokestatic 15, 3) := by decide +kernel
theorem dL_law_294 : decode cL_law 294 = .ok (.iadd, 1) := by decide +kernel
theorem dL_law_295 : decode cL_law 295 = .ok (.invokevirtual 72, 3) := by decide +kernel
theorem dL_law_298 : decode cL_law 298 = .ok (.pop, 1) := by decide +kernel
theorem dL_law_299 : decode cL_law 299 = .ok (.aload_n 1, 1) := by decide +kernel
theorem dL_law_300 : decode cL_law 300 = .ok (.invokevirtual 65, 3) := by decide +kernel
theorem dL_law_303 : decode cL_law 303 = .ok (.lload 8, 2) := by decide +kernel
theorem dL_law_305 : decode cL_law 305 = .ok (.lcmp, 1) := by decide +kernel
theorem dL_law_306 : decode cL_law 306 = .ok (.ifCond .eq 5, 3) := by decide +kernel
theorem dL_law_309 : decode cL_law 309 = .ok (.iconst 0, 1) := by decide +kernel
theorem dL_law_310 : decode cL_law 310 = .ok (.ireturn, 1) := by decide +kernel
theorem dL_law_311 : decode cL_law 311 = .ok (.iconst 0, 1) := by decide +kernel
theorem dL_law_312 : decode cL_law 312 = .ok (.istore 12, 2) := by decide +kernel
theorem dL_law_314 : decode cL_law 314 = .ok (.iconst 0, 1) := by decide +kernel
theorem dL_law_315 : decode cL_law 315 = .ok (.istore 13, 2) := by decide +kernel
theorem dL_law_317 : decode cL_law 317 = .ok (.iconst 0, 1) := by decide +kernel
theorem dL_law_318 : decode cL_law 318 = .ok (.istore 14, 2) := by decide +kernel
theorem dL_law_320 : decode cL_law 320 = .ok (.iconst 0, 1) := by decide +kernel
theorem dL_law_321 : decode cL_law 321 = .ok (.istore 15, 2) := by decide +kernel
theorem dL_law_323 : decode cL_law 323 = .ok (.iload 15, 2) := by decide +kernel
theorem dL_law_325 : decode cL_law 325 = .ok (.iload_n 3, 1) := by decide +kernel
theorem dL_law_326 : decode cL_law 326 = .ok (.if_icmp .ge 49, 3) := by decide +kernel
theorem dL_law_329 : decode cL_law 329 = .ok (.iload 12, 2) := by decide +kernel
theorem dL_law_331 : decode cL_law 331 = .ok (.aload_n 1, 1) := by decide +kernel
theorem dL_law_332 : decode cL_law 332 = .ok (.iload 15, 2) := by decide +kernel
theorem dL_law_334 : decode cL_law 334 = .ok (.iconst 0, 1) := by decide +kernel
theorem dL_law_335 : decode cL_law 335 = .ok (.invokevirtual 75, 3) := by decide +kernel
theorem dL_law_338 : decode cL_law 338 = .ok (.iadd, 1) := by decide +kernel
theorem dL_law_339 : decode cL_law 339 = .ok (.istore 12, 2) := by decide +kernel
theorem dL_law_341 : decode cL_law 341 = .ok (.iload 13, 2) := by decide +kernel
theorem dL_law_343 : decode cL_law 343 = .ok (.aload_n 1, 1) := by decide +kernel
theorem dL_law_344 : decode cL_law 344 = .ok (.iload 15, 2) := by decide +kernel
theorem dL_law_346 : decode cL_law 346 = .ok (.bipush 9, 2) := by decide +kernel
theorem dL_law_348 : decode cL_law 348 = .ok (.invokevirtual 75, 3) := by decide +kernel
theorem dL_law_351 : decode cL_law 351 = .ok (.isub, 1) := by decide +kernel
theorem dL_law_352 : decode cL_law 352 = .ok (.istore 13, 2) := by decide +kernel
theorem dL_law_354 : decode cL_law 354 = .ok (.iload 14, 2) := by decide +kernel
theorem dL_law_356 : decode cL_law 356 = .ok (.iload 7, 2) := by decide +kernel
theorem dL_law_358 : decode cL_law 358 = .ok (.aload_n 1, 1) := by decide +kernel
theorem dL_law_359 : decode cL_law 359 = .ok (.iload 15, 2) := by decide +kernel
theorem dL_law_361 : decode cL_law 361 = .ok (.iconst 1, 1) := by decide +kernel
theorem dL_law_362 : decode cL_law 362 = .ok (.invokevirtual 75, 3) := by decide +kernel
theorem dL_law_365 : decode cL_law 365 = .ok (.imul, 1) := by decide +kernel
theorem dL_law_366 : decode cL_law 366 = .ok (.iadd, 1) := by decide +kernel
theorem dL_law_367 : decode cL_law 367 = .ok (.istore 14, 2) := by decide +kernel
theorem dL_law_369 : decode cL_law 369 = .ok (.iinc 15 1, 3) := by decide +kernel
theorem dL_law_372 : decode cL_law 372 = .ok (.goto (-49), 3) := by decide +kernel
theorem dL_law_375 : decode cL_law 375 = .ok (.aload_n 1, 1) := by decide +kernel
theorem dL_law_376 : decode cL_law 376 = .ok (.bipush 7, 2) := by decide +kernel
theorem dL_law_378 : decode cL_law 378 = .ok (.invokevirtual 46, 3) := by decide +kernel
theorem dL_law_381 : decode cL_law 381 = .ok (.istore 15, 2) := by decide +kernel
theorem dL_law_383 : decode cL_law 383 = .ok (.aload_n 1, 1) := by decide +kernel
theorem dL_law_384 : decode cL_law 384 = .ok (.iload 7, 2) := by decide +kernel
theorem dL_law_386 : decode cL_law 386 = .ok (.invokevirtual 78, 3) := by decide +kernel
theorem dL_law_389 : decode cL_law 389 = .ok (.istore 16, 2) := by decide +kernel
theorem dL_law_391 : decode cL_law 391 = .ok (.iconst 0, 1) := by decide +kernel
theorem dL_law_392 : decode cL_law 392 = .ok (.istore 17, 2) := by decide +kernel
theorem dL_law_394 : decode cL_law 394 = .ok (.iconst 0, 1) := by decide +kernel
theorem dL_law_395 : decode cL_law 395 = .ok (.istore 18, 2) := by decide +kernel
theorem dL_law_397 : decode cL_law 397 = .ok (.iconst 0, 1) := by decide +kernel
theorem dL_law_398 : decode cL_law 398 = .ok (.istore 19, 2) := by decide +kernel
theorem dL_law_400 : decode cL_law 400 = .ok (.iload 19, 2) := by decide +kernel
theorem dL_law_402 : decode cL_law 402 = .ok (.iload_n 3, 1) := by decide +kernel
theorem dL_law_403 : decode cL_law 403 = .ok (.if_icmp .ge 232, 3) := by decide +kernel
theorem dL_law_406 : decode cL_law 406 = .ok (.iload 17, 2) := by decide +kernel
theorem dL_law_408 : decode cL_law 408 = .ok (.aload_n 1, 1) := by decide +kernel
theorem dL_law_409 : decode cL_law 409 = .ok (.iload 19, 2) := by decide +kernel
theorem dL_law_411 : decode cL_law 411 = .ok (.iconst 0, 1) := by decide +kernel
theorem dL_law_412 : decode cL_law 412 = .ok (.invokevirtual 75, 3) := by decide +kernel
theorem dL_law_415 : decode cL_law 415 = .ok (.iadd, 1) := by decide +kernel
theorem dL_law_416 : decode cL_law 416 = .ok (.istore 17, 2) := by decide +kernel
theorem dL_law_418 : decode cL_law 418 = .ok (.iload 13, 2) := by decide +kernel
theorem dL_law_420 : decode cL_law 420 = .ok (.aload_n 1, 1) := by decide +kernel
theorem dL_law_421 : decode cL_law 421 = .ok (.iload 19, 2) := by decide +kernel
theorem dL_law_423 : decode cL_law 423 = .ok (.bipush 9, 2) := by decide +kernel
theorem dL_law_425 : decode cL_law 425 = .ok (.invokevirtual 75, 3) := by decide +kernel
theorem dL_law_428 : decode cL_law 428 = .ok (.iadd, 1) := by decide +kernel
theorem dL_law_429 : decode cL_law 429 = .ok (.istore 13, 2) := by decide +kernel
theorem dL_law_431 : decode cL_law 431 = .ok (.iload 18, 2) := by decide +kernel
theorem dL_law_433 : decode cL_law 433 = .ok (.aload_n 1, 1) := by decide +kernel
theorem dL_law_434 : decode cL_law 434 = .ok (.iload 19, 2) := by decide +kernel
theorem dL_law_436 : decode cL_law 436 = .ok (.bipush 8, 2) := by decide +kernel
theorem dL_law_438 : decode cL_law 438 = .ok (.invokevirtual 75, 3) := by decide +kernel
theorem dL_law_441 : decode cL_law 441 = .ok (.iadd, 1) := by decide +kernel
theorem dL_law_442 : decode cL_law 442 = .ok (.istore 18, 2) := by decide +kernel
theorem dL_law_444 : decode cL_law 444 = .ok (.aload_n 1, 1) := by decide +kernel
theorem dL_law_445 : decode cL_law 445 = .ok (.iload 19, 2) := by decide +kernel
theorem dL_law_447 : decode cL_law 447 = .ok (.bipush 6, 2) := by decide +kernel
theorem dL_law_449 : decode cL_law 449 = .ok (.invokevirtual 75, 3) := by decide +kernel
theorem dL_law_452 : decode cL_law 452 = .ok (.istore 20, 2) := by decide +kernel
theorem dL_law_454 : decode cL_law 454 = .ok (.aload_n 1, 1) := by decide +kernel
theorem dL_law_455 : decode cL_law 455 = .ok (.iload 19, 2) := by decide +kernel
theorem dL_law_457 : decode cL_law 457 = .ok (.iconst 0, 1) := by decide +kernel
theorem dL_law_458 : decode cL_law 458 = .ok (.invokevirtual 75, 3) := by decide +kernel
theorem dL_law_461 : decode cL_law 461 = .ok (.ifCond .lt 104, 3) := by decide +kernel
theorem dL_law_464 : decode cL_law 464 = .ok (.aload_n 1, 1) := by decide +kernel
theorem dL_law_465 : decode cL_law 465 = .ok (.iload 19, 2) := by decide +kernel
theorem dL_law_467 : decode cL_law 467 = .ok (.iconst 0, 1) := by decide +kernel
theorem dL_law_468 : decode cL_law 468 = .ok (.invokevirtual 75, 3) := by decide +kernel
theorem dL_law_471 : decode cL_law 471 = .ok (.sipush 200, 3) := by decide +kernel
theorem dL_law_474 : decode cL_law 474 = .ok (.if_icmp .gt 91, 3) := by decide +kernel
theorem dL_law_477 : decode cL_law 477 = .ok (.aload_n 1, 1) := by decide +kernel
theorem dL_law_478 : decode cL_law 478 = .ok (.iload 19, 2) := by decide +kernel
theorem dL_law_480 : decode cL_law 480 = .ok (.iconst 4, 1) := by decide +kernel
theorem dL_law_481 : decode cL_law 481 = .ok (.invokevirtual 75, 3) := by decide +kernel
theorem dL_law_484 : decode cL_law 484 = .ok (.ifCond .lt 81, 3) := by decide +kernel
theorem dL_law_487 : decode cL_law 487 = .ok (.aload_n 1, 1) := by decide +kernel
theorem dL_law_488 : decode cL_law 488 = .ok (.iload 19, 2) := by decide +kernel
theorem dL_law_490 : decode cL_law 490 = .ok (.iconst 4, 1) := by decide +kernel
theorem dL_law_491 : decode cL_law 491 = .ok (.invokevirtual 75, 3) := by decide +kernel
theorem dL_law_494 : decode cL_law 494 = .ok (.iconst 3, 1) := by decide +kernel
theorem dL_law_495 : decode cL_law 495 = .ok (.if_icmp .gt 70, 3) := by decide +kernel
theorem dL_law_498 : decode cL_law 498 = .ok (.aload_n 1, 1) := by decide +kernel
theorem dL_law_499 : decode cL_law 499 = .ok (.iload 19, 2) := by decide +kernel
theorem dL_law_501 : decode cL_law 501 = .ok (.iconst 3, 1) := by decide +kernel
theorem dL_law_502 : decode cL_law 502 = .ok (.invokevirtual 75, 3) := by decide +kernel
theorem dL_law_505 : decode cL_law 505 = .ok (.ifCond .ne 15, 3) := by decide +kernel
theorem dL_law_508 : decode cL_law 508 = .ok (.aload_n 1, 1) := by decide +kernel
theorem dL_law_509 : decode cL_law 509 = .ok (.iload 19, 2) := by decide +kernel
theorem dL_law_511 : decode cL_law 511 = .ok (.iconst 2, 1) := by decide +kernel
theorem dL_law_512 : decode cL_law 512 = .ok (.invokevirtual 75, 3) := by decide +kernel
theorem dL_law_515 : decode cL_law 515 = .ok (.bipush 99, 2) := by decide +kernel
theorem dL_law_517 : decode cL_law 517 = .ok (.if_icmp .gt 48, 3) := by decide +kernel
theorem dL_law_520 : decode cL_law 520 = .ok (.iload 20, 2) := by decide +kernel
theorem dL_law_522 : decode cL_law 522 = .ok (.ifCond .le 16, 3) := by decide +kernel
theorem dL_law_525 : decode cL_law 525 = .ok (.aload_n 1, 1) := by decide +kernel
theorem dL_law_526 : decode cL_law 526 = .ok (.iload 19, 2) := by decide +kernel
theorem dL_law_528 : decode cL_law 528 = .ok (.bipush 7, 2) := by decide +kernel
theorem dL_law_530 : decode cL_law 530 = .ok (.invokevirtual 75, 3) := by decide +kernel
theorem dL_law_533 : decode cL_law 533 = .ok (.iload 20, 2) := by decide +kernel
theorem dL_law_535 : decode cL_law 535 = .ok (.if_icmp .ge 30, 3) := by decide +kernel
theorem dL_law_538 : decode cL_law 538 = .ok (.iload 20, 2) := by decide +kernel
theorem dL_law_540 : decode cL_law 540 = .ok (.ifCond .ne 14, 3) := by decide +kernel
theorem dL_law_543 : decode cL_law 543 = .ok (.aload_n 1, 1) := by decide +kernel
theorem dL_law_544 : decode cL_law 544 = .ok (.iload 19, 2) := by decide +kernel
theorem dL_law_546 : decode cL_law 546 = .ok (.bipush 7, 2) := by decide +kernel
theorem dL_law_548 : decode cL_law 548 = .ok (.invokevirtual 75, 3) := by decide +kernel
theorem dL_law_551 : decode cL_law 551 = .ok (.ifCond .ne 14, 3) := by decide +kernel
theorem dL_law_554 : decode cL_law 554 = .ok (.aload_n 1, 1) := by decide +kernel
theorem dL_law_555 : decode cL_law 555 = .ok (.iload 19, 2) := by decide +kernel
theorem dL_law_557 : decode cL_law 557 = .ok (.iconst 5, 1) := by decide +kernel
theorem dL_law_558 : decode cL_law 558 = .ok (.invokevirtual 75, 3) := by decide +kernel
theorem dL_law_561 : decode cL_law 561 = .ok (.iload_n 2, 1) := by decide +kernel
theorem dL_law_562 : decode cL_law 562 = .ok (.if_icmp .lt 5, 3) := by decide +kernel
theorem dL_law_565 : decode cL_law 565 = .ok (.iconst 0, 1) := by decide +kernel
theorem dL_law_566 : decode cL_law 566 = .ok (.ireturn, 1) := by decide +kernel
theorem dL_law_567 : decode cL_law 567 = .ok (.iconst 0, 1) := by decide +kernel
theorem dL_law_568 : decode cL_law 568 = .ok (.istore 21, 2) := by decide +kernel
theorem dL_law_570 : decode cL_law 570 = .ok (.iconst 0, 1) := by decide +kernel
theorem dL_law_571 : decode cL_law 571 = .ok (.istore 22, 2) := by decide +kernel
theorem dL_law_573 : decode cL_law 573 = .ok (.iload 22, 2) := by decide +kernel
theorem dL_law_575 : decode cL_law 575 = .ok (.iload 20, 2) := by decide +kernel
theorem dL_law_577 : decode cL_law 577 = .ok (.if_icmp .ge 52, 3) := by decide +kernel
theorem dL_law_580 : decode cL_law 580 = .ok (.aload_n 1, 1) := by decide +kernel
theorem dL_law_581 : decode cL_law 581 = .ok (.iload 19, 2) := by decide +kernel
theorem dL_law_583 : decode cL_law 583 = .ok (.iload 22, 2) := by decide +kernel
theorem dL_law_585 : decode cL_law 585 = .ok (.invokevirtual 81, 3) := by decide +kernel
theorem dL_law_588 : decode cL_law 588 = .ok (.istore 23, 2) := by decide +kernel
theorem dL_law_590 : decode cL_law 590 = .ok (.iload 21, 2) := by decide +kernel
theorem dL_law_592 : decode cL_law 592 = .ok (.iload 23, 2) := by decide +kernel
theorem dL_law_594 : decode cL_law 594 = .ok (.ishr, 1) := by decide +kernel
theorem dL_law_595 : decode cL_law 595 = .ok (.iconst 1, 1) := by decide +kernel
theorem dL_law_596 : decode cL_law 596 = .ok (.iand, 1) := by decide +kernel
theorem dL_law_597 : decode cL_law 597 = .ok (.iconst 1, 1) := by decide +kernel
theorem dL_law_598 : decode cL_law 598 = .ok (.if_icmp .eq 14, 3) := by decide +kernel
theorem dL_law_601 : decode cL_law 601 = .ok (.aload_n 1, 1) := by decide +kernel
theorem dL_law_602 : decode cL_law 602 = .ok (.iload 23, 2) := by decide +kernel
theorem dL_law_604 : decode cL_law 604 = .ok (.iconst 3, 1) := by decide +kernel
theorem dL_law_605 : decode cL_law 605 = .ok (.invokevirtual 59, 3) := by decide +kernel
theorem dL_law_608 : decode cL_law 608 = .ok (.iconst 2, 1) := by decide +kernel
theorem dL_law_609 : decode cL_law 609 = .ok (.if_icmp .le 5, 3) := by decide +kernel
theorem dL_law_612 : decode cL_law 612 = .ok (.iconst 0, 1) := by decide +kernel
theorem dL_law_613 : decode cL_law 613 = .ok (.ireturn, 1) := by decide +kernel
theorem dL_law_614 : decode cL_law 614 = .ok (.iload 21, 2) := by decide +kernel
theorem dL_law_616 : decode cL_law 616 = .ok (.iconst 1, 1) := by decide +kernel
theorem dL_law_617 : decode cL_law 617 = .ok (.iload 23, 2) := by decide +kernel
theorem dL_law_619 : decode cL_law 619 = .ok (.ishl, 1) := by decide +kernel
theorem dL_law_620 : decode cL_law 620 = .ok (.ior, 1) := by decide +kernel
theorem dL_law_621 : decode cL_law 621 = .ok (.istore 21, 2) := by decide +kernel
theorem dL_law_623 : decode cL_law 623 = .ok (.iinc 22 1, 3) := by decide +kernel
theorem dL_law_626 : decode cL_law 626 = .ok (.goto (-53), 3) := by decide +kernel
theorem dL_law_629 : decode cL_law 629 = .ok (.iinc 19 1, 3) := by decide +kernel
theorem dL_law_632 : decode cL_law 632 = .ok (.goto (-232), 3) := by decide +kernel
theorem dL_law_635 : decode cL_law 635 = .ok (.iload 16, 2) := by decide +kernel
theorem dL_law_637 : decode cL_law 637 = .ok (.iload 13, 2) := by decide +kernel
theorem dL_law_639 : decode cL_law 639 = .ok (.if_icmp .ne 40, 3) := by decide +kernel
theorem dL_law_642 : decode cL_law 642 = .ok (.iload 17, 2) := by decide +kernel
theorem dL_law_644 : decode cL_law 644 = .ok (.iload 12, 2) := by decide +kernel
theorem dL_law_646 : decode cL_law 646 = .ok (.iload 14, 2) := by decide +kernel
theorem dL_law_648 : decode cL_law 648 = .ok (.iadd, 1) := by decide +kernel
theorem dL_law_649 : decode cL_law 649 = .ok (.iload 16, 2) := by decide +kernel
theorem dL_law_651 : decode cL_law 651 = .ok (.isub, 1) := by decide +kernel
theorem dL_law_652 : decode cL_law 652 = .ok (.if_icmp .gt 27, 3) := by decide +kernel
theorem dL_law_655 : decode cL_law 655 = .ok (.aload_n 1, 1) := by decide +kernel
theorem dL_law_656 : decode cL_law 656 = .ok (.bipush 7, 2) := by decide +kernel
theorem dL_law_658 : decode cL_law 658 = .ok (.invokevirtual 46, 3) := by decide +kernel
theorem dL_law_661 : decode cL_law 661 = .ok (.iload 15, 2) := by decide +kernel
theorem dL_law_663 : decode cL_law 663 = .ok (.iload 10, 2) := by decide +kernel
theorem dL_law_665 : decode cL_law 665 = .ok (.iadd, 1) := by decide +kernel
theorem dL_law_666 : decode cL_law 666 = .ok (.if_icmp .ne 13, 3) := by decide +kernel
theorem dL_law_669 : decode cL_law 669 = .ok (.aload_n 1, 1) := by decide +kernel
theorem dL_law_670 : decode cL_law 670 = .ok (.iconst 3, 1) := by decide +kernel
theorem dL_law_671 : decode cL_law 671 = .ok (.invokevirtual 46, 3) := by decide +kernel
theorem dL_law_674 : decode cL_law 674 = .ok (.iload 11, 2) := by decide +kernel
theorem dL_law_676 : decode cL_law 676 = .ok (.if_icmp .eq 5, 3) := by decide +kernel
theorem dL_law_679 : decode cL_law 679 = .ok (.iconst 0, 1) := by decide +kernel
theorem dL_law_680 : decode cL_law 680 = .ok (.ireturn, 1) := by decide +kernel
theorem dL_law_681 : decode cL_law 681 = .ok (.iconst 0, 1) := by decide +kernel
theorem dL_law_682 : decode cL_law 682 = .ok (.istore 19, 2) := by decide +kernel
theorem dL_law_684 : decode cL_law 684 = .ok (.iconst 0, 1) := by decide +kernel
theorem dL_law_685 : decode cL_law 685 = .ok (.istore 20, 2) := by decide +kernel
theorem dL_law_687 : decode cL_law 687 = .ok (.iconst 0, 1) := by decide +kernel
theorem dL_law_688 : decode cL_law 688 = .ok (.istore 21, 2) := by decide +kernel
theorem dL_law_690 : decode cL_law 690 = .ok (.iload 21, 2) := by decide +kernel
theorem dL_law_692 : decode cL_law 692 = .ok (.iload_n 2, 1) := by decide +kernel
theorem dL_law_693 : decode cL_law 693 = .ok (.if_icmp .ge 113, 3) := by decide +kernel
theorem dL_law_696 : decode cL_law 696 = .ok (.iload 19, 2) := by decide +kernel
theorem dL_law_698 : decode cL_law 698 = .ok (.aload_n 1, 1) := by decide +kernel
theorem dL_law_699 : decode cL_law 699 = .ok (.iload 21, 2) := by decide +kernel
theorem dL_law_701 : decode cL_law 701 = .ok (.bipush 10, 2) := by decide +kernel
theorem dL_law_703 : decode cL_law 703 = .ok (.invokevirtual 59, 3) := by decide +kernel
theorem dL_law_706 : decode cL_law 706 = .ok (.iadd, 1) := by decide +kernel
theorem dL_law_707 : decode cL_law 707 = .ok (.istore 19, 2) := by decide +kernel
theorem dL_law_709 : decode cL_law 709 = .ok (.iload 20, 2) := by decide +kernel
theorem dL_law_711 : decode cL_law 711 = .ok (.aload_n 1, 1) := by decide +kernel
theorem dL_law_712 : decode cL_law 712 = .ok (.iload 21, 2) := by decide +kernel
theorem dL_law_714 : decode cL_law 714 = .ok (.iconst 2, 1) := by decide +kernel
theorem dL_law_715 : decode cL_law 715 = .ok (.invokevirtual 59, 3) := by decide +kernel
theorem dL_law_718 : decode cL_law 718 = .ok (.iadd, 1) := by decide +kernel
theorem dL_law_719 : decode cL_law 719 = .ok (.istore 20, 2) := by decide +kernel
theorem dL_law_721 : decode cL_law 721 = .ok (.iload 18, 2) := by decide +kernel
theorem dL_law_723 : decode cL_law 723 = .ok (.aload_n 1, 1) := by decide +kernel
theorem dL_law_724 : decode cL_law 724 = .ok (.iload 21, 2) := by decide +kernel
theorem dL_law_726 : decode cL_law 726 = .ok (.bipush 6, 2) := by decide +kernel
theorem dL_law_728 : decode cL_law 728 = .ok (.invokevirtual 59, 3) := by decide +kernel
theorem dL_law_731 : decode cL_law 731 = .ok (.isub, 1) := by decide +kernel
theorem dL_law_732 : decode cL_law 732 = .ok (.istore 18, 2) := by decide +kernel
theorem dL_law_734 : decode cL_law 734 = .ok (.aload_n 1, 1) := by decide +kernel
theorem dL_law_735 : decode cL_law 735 = .ok (.iload 21, 2) := by decide +kernel
theorem dL_law_737 : decode cL_law 737 = .ok (.iconst 2, 1) := by decide +kernel
theorem dL_law_738 : decode cL_law 738 = .ok (.invokevirtual 59, 3) := by decide +kernel
theorem dL_law_741 : decode cL_law 741 = .ok (.ifCond .lt 57, 3) := by decide +kernel
theorem dL_law_744 : decode cL_law 744 = .ok (.aload_n 1, 1) := by decide +kernel
theorem dL_law_745 : decode cL_law 745 = .ok (.iload 21, 2) := by decide +kernel
theorem dL_law_747 : decode cL_law 747 = .ok (.iconst 3, 1) := by decide +kernel
theorem dL_law_748 : decode cL_law 748 = .ok (.invokevirtual 59, 3) := by decide +kernel
theorem dL_law_751 : decode cL_law 751 = .ok (.ifCond .lt 47, 3) := by decide +kernel
theorem dL_law_754 : decode cL_law 754 = .ok (.aload_n 1, 1) := by decide +kernel
theorem dL_law_755 : decode cL_law 755 = .ok (.iload 21, 2) := by decide +kernel
theorem dL_law_757 : decode cL_law 757 = .ok (.iconst 3, 1) := by decide +kernel
theorem dL_law_758 : decode cL_law 758 = .ok (.invokevirtual 59, 3) := by decide +kernel
theorem dL_law_761 : decode cL_law 761 = .ok (.iconst 3, 1) := by decide +kernel
theorem dL_law_762 : decode cL_law 762 = .ok (.if_icmp .gt 36, 3) := by decide +kernel
theorem dL_law_765 : decode cL_law 765 = .ok (.aload_n 1, 1) := by decide +kernel
theorem dL_law_766 : decode cL_law 766 = .ok (.iload 21, 2) := by decide +kernel
theorem dL_law_768 : decode cL_law 768 = .ok (.iconst 4, 1) := by decide +kernel
theorem dL_law_769 : decode cL_law 769 = .ok (.invokevirtual 59, 3) := by decide +kernel
theorem dL_law_772 : decode cL_law 772 = .ok (.ifCond .lt 26, 3) := by decide +kernel
theorem dL_law_775 : decode cL_law 775 = .ok (.aload_n 1, 1) := by decide +kernel
theorem dL_law_776 : decode cL_law 776 = .ok (.iload 21, 2) := by decide +kernel
theorem dL_law_778 : decode cL_law 778 = .ok (.iconst 4, 1) := by decide +kernel
