theorem dX3_init_1 : decode cX3_init 1 = .ok (.invokespecial 1, 3) := by decide +kernel
theorem dX3_init_4 : decode cX3_init 4 = .ok (.aload_n 0, 1) := by decide +kernel
theorem dX3_init_5 : decode cX3_init 5 = .ok (.new 7, 3) := by decide +kernel
theorem dX3_init_8 : decode cX3_init 8 = .ok (.dup, 1) := by decide +kernel
theorem dX3_init_9 : decode cX3_init 9 = .ok (.invokespecial 9, 3) := by decide +kernel
theorem dX3_init_12 : decode cX3_init 12 = .ok (.putfield 10, 3) := by decide +kernel
theorem dX3_init_15 : decode cX3_init 15 = .ok (.aload_n 0, 1) := by decide +kernel
theorem dX3_init_16 : decode cX3_init 16 = .ok (.new 7, 3) := by decide +kernel
theorem dX3_init_19 : decode cX3_init 19 = .ok (.dup, 1) := by decide +kernel
theorem dX3_init_20 : decode cX3_init 20 = .ok (.invokespecial 9, 3) := by decide +kernel
theorem dX3_init_23 : decode cX3_init 23 = .ok (.putfield 16, 3) := by decide +kernel
theorem dX3_init_26 : decode cX3_init 26 = .ok (.return_, 1) := by decide +kernel
set_option maxRecDepth 20000 in
theorem ggX3_addHouse_X3_requireArgument : GoodIn wsX3_addHouse wsX3_requireArgument := goodIn_ca (goodIn_r _ [13, 14, 15] (by decide +kernel) (by decide +kernel)) (goodIn_sub (fun _ h => List.mem_cons_of_mem _ (List.mem_append_right _ h)) (by decide +kernel))
set_option maxRecDepth 20000 in
theorem gX3_addHouse_X3_requireArgument : GoodIn wsX3_addHouse (va_wsS RX3 19 yX3_requireArgument wsX3_requireArgument) := goodIn_app (goodIn_of _ (by decide +kernel)) ggX3_addHouse_X3_requireArgument
theorem dX3_addHouse_0 : decode cX3_addHouse 0 = .ok (.iload_n 1, 1) := by decide +kernel
theorem dX3_addHouse_1 : decode cX3_addHouse 1 = .ok (.iconst 0, 1) := by decide +kernel
theorem dX3_addHouse_2 : decode cX3_addHouse 2 = .ok (.bipush 9, 2) := by decide +kernel
theorem dX3_addHouse_4 : decode cX3_addHouse 4 = .ok (.invokestatic 19, 3) := by decide +kernel
theorem dX3_addHouse_7 : decode cX3_addHouse 7 = .ok (.iload_n 2, 1) := by decide +kernel
theorem dX3_addHouse_8 : decode cX3_addHouse 8 = .ok (.iconst 0, 1) := by decide +kernel
theorem dX3_addHouse_9 : decode cX3_addHouse 9 = .ok (.bipush 9, 2) := by decide +kernel
theorem dX3_addHouse_11 : decode cX3_addHouse 11 = .ok (.invokestatic 19, 3) := by decide +kernel
theorem dX3_addHouse_14 : decode cX3_addHouse 14 = .ok (.iload_n 3, 1) := by decide +kernel
theorem dX3_addHouse_15 : decode cX3_addHouse 15 = .ok (.iconst 1, 1) := by decide +kernel
theorem dX3_addHouse_16 : decode cX3_addHouse 16 = .ok (.bipush 9, 2) := by decide +kernel
theorem dX3_addHouse_18 : decode cX3_addHouse 18 = .ok (.invokestatic 19, 3) := by decide +kernel
theorem dX3_addHouse_21 : decode cX3_addHouse 21 = .ok (.aload_n 0, 1) := by decide +kernel
theorem dX3_addHouse_22 : decode cX3_addHouse 22 = .ok (.getfield 10, 3) := by decide +kernel
theorem dX3_addHouse_25 : decode cX3_addHouse 25 = .ok (.getfield 23, 3) := by decide +kernel
theorem dX3_addHouse_28 : decode cX3_addHouse 28 = .ok (.bipush 10, 2) := by decide +kernel
theorem dX3_addHouse_30 : decode cX3_addHouse 30 = .ok (.if_icmp .lt 13, 3) := by decide +kernel
theorem dX3_addHouse_33 : decode cX3_addHouse 33 = .ok (.new 27, 3) := by decide +kernel
theorem dX3_addHouse_36 : decode cX3_addHouse 36 = .ok (.dup, 1) := by decide +kernel
theorem dX3_addHouse_37 : decode cX3_addHouse 37 = .ok (.ldc 29, 2) := by decide +kernel
theorem dX3_addHouse_39 : decode cX3_addHouse 39 = .ok (.invokespecial 31, 3) := by decide +kernel
theorem dX3_addHouse_42 : decode cX3_addHouse 42 = .ok (.athrow, 1) := by decide +kernel
theorem dX3_addHouse_43 : decode cX3_addHouse 43 = .ok (.aload_n 0, 1) := by decide +kernel
theorem dX3_addHouse_44 : decode cX3_addHouse 44 = .ok (.getfield 10, 3) := by decide +kernel
theorem dX3_addHouse_47 : decode cX3_addHouse 47 = .ok (.getfield 34, 3) := by decide +kernel
theorem dX3_addHouse_50 : decode cX3_addHouse 50 = .ok (.aload_n 0, 1) := by decide +kernel
theorem dX3_addHouse_51 : decode cX3_addHouse 51 = .ok (.getfield 10, 3) := by decide +kernel
theorem dX3_addHouse_54 : decode cX3_addHouse 54 = .ok (.getfield 23, 3) := by decide +kernel
theorem dX3_addHouse_57 : decode cX3_addHouse 57 = .ok (.aaload, 1) := by decide +kernel
theorem dX3_addHouse_58 : decode cX3_addHouse 58 = .ok (.astore 4, 2) := by decide +kernel
theorem dX3_addHouse_60 : decode cX3_addHouse 60 = .ok (.aload 4, 2) := by decide +kernel
theorem dX3_addHouse_62 : decode cX3_addHouse 62 = .ok (.iload_n 1, 1) := by decide +kernel
theorem dX3_addHouse_63 : decode cX3_addHouse 63 = .ok (.putfield 38, 3) := by decide +kernel
theorem dX3_addHouse_66 : decode cX3_addHouse 66 = .ok (.aload 4, 2) := by decide +kernel
theorem dX3_addHouse_68 : decode cX3_addHouse 68 = .ok (.iload_n 2, 1) := by decide +kernel
theorem dX3_addHouse_69 : decode cX3_addHouse 69 = .ok (.putfield 43, 3) := by decide +kernel
theorem dX3_addHouse_72 : decode cX3_addHouse 72 = .ok (.aload 4, 2) := by decide +kernel
theorem dX3_addHouse_74 : decode cX3_addHouse 74 = .ok (.iload_n 3, 1) := by decide +kernel
theorem dX3_addHouse_75 : decode cX3_addHouse 75 = .ok (.putfield 46, 3) := by decide +kernel
theorem dX3_addHouse_78 : decode cX3_addHouse 78 = .ok (.aload_n 0, 1) := by decide +kernel
theorem dX3_addHouse_79 : decode cX3_addHouse 79 = .ok (.getfield 10, 3) := by decide +kernel
theorem dX3_addHouse_82 : decode cX3_addHouse 82 = .ok (.dup, 1) := by decide +kernel
theorem dX3_addHouse_83 : decode cX3_addHouse 83 = .ok (.getfield 23, 3) := by decide +kernel
theorem dX3_addHouse_86 : decode cX3_addHouse 86 = .ok (.iconst 1, 1) := by decide +kernel
theorem dX3_addHouse_87 : decode cX3_addHouse 87 = .ok (.iadd, 1) := by decide +kernel
theorem dX3_addHouse_88 : decode cX3_addHouse 88 = .ok (.putfield 23, 3) := by decide +kernel
theorem dX3_addHouse_91 : decode cX3_addHouse 91 = .ok (.aload 4, 2) := by decide +kernel
theorem dX3_addHouse_93 : decode cX3_addHouse 93 = .ok (.getfield 49, 3) := by decide +kernel
theorem dX3_addHouse_96 : decode cX3_addHouse 96 = .ok (.ireturn, 1) := by decide +kernel
set_option maxRecDepth 20000 in
theorem ggX3_addPump_X3_requireArgument : GoodIn wsX3_addPump wsX3_requireArgument := goodIn_ca (goodIn_r _ [11, 12, 13] (by decide +kernel) (by decide +kernel)) (goodIn_sub (fun _ h => List.mem_cons_of_mem _ (List.mem_append_right _ h)) (by decide +kernel))
set_option maxRecDepth 20000 in
theorem gX3_addPump_X3_requireArgument : GoodIn wsX3_addPump (va_wsS RX3 19 yX3_requireArgument wsX3_requireArgument) := goodIn_app (goodIn_of _ (by decide +kernel)) ggX3_addPump_X3_requireArgument
theorem dX3_addPump_0 : decode cX3_addPump 0 = .ok (.iload_n 1, 1) := by decide +kernel
theorem dX3_addPump_1 : decode cX3_addPump 1 = .ok (.iconst 0, 1) := by decide +kernel
theorem dX3_addPump_2 : decode cX3_addPump 2 = .ok (.sipush 200, 3) := by decide +kernel
theorem dX3_addPump_5 : decode cX3_addPump 5 = .ok (.invokestatic 19, 3) := by decide +kernel
theorem dX3_addPump_8 : decode cX3_addPump 8 = .ok (.iload_n 2, 1) := by decide +kernel
theorem dX3_addPump_9 : decode cX3_addPump 9 = .ok (.iconst 0, 1) := by decide +kernel
theorem dX3_addPump_10 : decode cX3_addPump 10 = .ok (.bipush 50, 2) := by decide +kernel
theorem dX3_addPump_12 : decode cX3_addPump 12 = .ok (.invokestatic 19, 3) := by decide +kernel
theorem dX3_addPump_15 : decode cX3_addPump 15 = .ok (.aload_n 0, 1) := by decide +kernel
theorem dX3_addPump_16 : decode cX3_addPump 16 = .ok (.getfield 10, 3) := by decide +kernel
theorem dX3_addPump_19 : decode cX3_addPump 19 = .ok (.getfield 52, 3) := by decide +kernel
theorem dX3_addPump_22 : decode cX3_addPump 22 = .ok (.iconst 3, 1) := by decide +kernel
theorem dX3_addPump_23 : decode cX3_addPump 23 = .ok (.if_icmp .lt 13, 3) := by decide +kernel
theorem dX3_addPump_26 : decode cX3_addPump 26 = .ok (.new 27, 3) := by decide +kernel
theorem dX3_addPump_29 : decode cX3_addPump 29 = .ok (.dup, 1) := by decide +kernel
theorem dX3_addPump_30 : decode cX3_addPump 30 = .ok (.ldc 55, 2) := by decide +kernel
theorem dX3_addPump_32 : decode cX3_addPump 32 = .ok (.invokespecial 31, 3) := by decide +kernel
theorem dX3_addPump_35 : decode cX3_addPump 35 = .ok (.athrow, 1) := by decide +kernel
theorem dX3_addPump_36 : decode cX3_addPump 36 = .ok (.aload_n 0, 1) := by decide +kernel
theorem dX3_addPump_37 : decode cX3_addPump 37 = .ok (.getfield 10, 3) := by decide +kernel
theorem dX3_addPump_40 : decode cX3_addPump 40 = .ok (.getfield 52, 3) := by decide +kernel
theorem dX3_addPump_43 : decode cX3_addPump 43 = .ok (.istore_n 3, 1) := by decide +kernel
theorem dX3_addPump_44 : decode cX3_addPump 44 = .ok (.aload_n 0, 1) := by decide +kernel
theorem dX3_addPump_45 : decode cX3_addPump 45 = .ok (.getfield 10, 3) := by decide +kernel
theorem dX3_addPump_48 : decode cX3_addPump 48 = .ok (.getfield 57, 3) := by decide +kernel
theorem dX3_addPump_51 : decode cX3_addPump 51 = .ok (.iload_n 3, 1) := by decide +kernel
theorem dX3_addPump_52 : decode cX3_addPump 52 = .ok (.aaload, 1) := by decide +kernel
theorem dX3_addPump_53 : decode cX3_addPump 53 = .ok (.astore 4, 2) := by decide +kernel
theorem dX3_addPump_55 : decode cX3_addPump 55 = .ok (.aload 4, 2) := by decide +kernel
theorem dX3_addPump_57 : decode cX3_addPump 57 = .ok (.iload_n 1, 1) := by decide +kernel
theorem dX3_addPump_58 : decode cX3_addPump 58 = .ok (.putfield 61, 3) := by decide +kernel
theorem dX3_addPump_61 : decode cX3_addPump 61 = .ok (.aload 4, 2) := by decide +kernel
theorem dX3_addPump_63 : decode cX3_addPump 63 = .ok (.iload_n 2, 1) := by decide +kernel
theorem dX3_addPump_64 : decode cX3_addPump 64 = .ok (.putfield 66, 3) := by decide +kernel
theorem dX3_addPump_67 : decode cX3_addPump 67 = .ok (.aload_n 0, 1) := by decide +kernel
theorem dX3_addPump_68 : decode cX3_addPump 68 = .ok (.getfield 10, 3) := by decide +kernel
theorem dX3_addPump_71 : decode cX3_addPump 71 = .ok (.dup, 1) := by decide +kernel
theorem dX3_addPump_72 : decode cX3_addPump 72 = .ok (.getfield 52, 3) := by decide +kernel
theorem dX3_addPump_75 : decode cX3_addPump 75 = .ok (.iconst 1, 1) := by decide +kernel
theorem dX3_addPump_76 : decode cX3_addPump 76 = .ok (.iadd, 1) := by decide +kernel
theorem dX3_addPump_77 : decode cX3_addPump 77 = .ok (.putfield 52, 3) := by decide +kernel
theorem dX3_addPump_80 : decode cX3_addPump 80 = .ok (.iload_n 3, 1) := by decide +kernel
theorem dX3_addPump_81 : decode cX3_addPump 81 = .ok (.ireturn, 1) := by decide +kernel
set_option maxRecDepth 20000 in
theorem ggX3_lodge_X3_requireHouse : GoodIn wsX3_lodge wsX3_requireHouse := goodIn_ca (goodIn_r _ [8, 9, 10, 1, 11, 12, 13, 14, 15, 16, 22, 23, 24, 25, 26, 27, 28, 29] (by decide +kernel) (by decide +kernel)) (goodIn_sub (fun _ h => List.mem_cons_of_mem _ (List.mem_append_left _ (List.mem_append_right _ h))) (by decide +kernel))
set_option maxRecDepth 20000 in
theorem gX3_lodge_X3_requireHouse : GoodIn wsX3_lodge (wsV RX3 69 RX3 yX3_requireHouse wsX3_requireHouse) := goodIn_app (goodIn_of _ (by decide +kernel)) ggX3_lodge_X3_requireHouse
set_option maxRecDepth 20000 in
theorem ggX3_lodge_X3_requireArgument : GoodIn wsX3_lodge wsX3_requireArgument := goodIn_ca (goodIn_r _ [19, 20, 21] (by decide +kernel) (by decide +kernel)) (goodIn_sub (fun _ h => List.mem_cons_of_mem _ (List.mem_append_right _ h)) (by decide +kernel))
set_option maxRecDepth 20000 in
theorem gX3_lodge_X3_requireArgument : GoodIn wsX3_lodge (va_wsS RX3 19 yX3_requireArgument wsX3_requireArgument) := goodIn_app (goodIn_of _ (by decide +kernel)) ggX3_lodge_X3_requireArgument
theorem dX3_lodge_0 : decode cX3_lodge 0 = .ok (.aload_n 0, 1) := by decide +kernel
theorem dX3_lodge_1 : decode cX3_lodge 1 = .ok (.iload_n 1, 1) := by decide +kernel
theorem dX3_lodge_2 : decode cX3_lodge 2 = .ok (.invokevirtual 69, 3) := by decide +kernel
theorem dX3_lodge_5 : decode cX3_lodge 5 = .ok (.iload_n 2, 1) := by decide +kernel
theorem dX3_lodge_6 : decode cX3_lodge 6 = .ok (.iconst 0, 1) := by decide +kernel
theorem dX3_lodge_7 : decode cX3_lodge 7 = .ok (.bipush 9, 2) := by decide +kernel
theorem dX3_lodge_9 : decode cX3_lodge 9 = .ok (.invokestatic 19, 3) := by decide +kernel
theorem dX3_lodge_12 : decode cX3_lodge 12 = .ok (.aload_n 0, 1) := by decide +kernel
theorem dX3_lodge_13 : decode cX3_lodge 13 = .ok (.getfield 10, 3) := by decide +kernel
theorem dX3_lodge_16 : decode cX3_lodge 16 = .ok (.getfield 34, 3) := by decide +kernel
theorem dX3_lodge_19 : decode cX3_lodge 19 = .ok (.iload_n 1, 1) := by decide +kernel
theorem dX3_lodge_20 : decode cX3_lodge 20 = .ok (.aaload, 1) := by decide +kernel
theorem dX3_lodge_21 : decode cX3_lodge 21 = .ok (.astore_n 3, 1) := by decide +kernel
theorem dX3_lodge_22 : decode cX3_lodge 22 = .ok (.aload_n 3, 1) := by decide +kernel
theorem dX3_lodge_23 : decode cX3_lodge 23 = .ok (.getfield 38, 3) := by decide +kernel
theorem dX3_lodge_26 : decode cX3_lodge 26 = .ok (.istore 4, 2) := by decide +kernel
theorem dX3_lodge_28 : decode cX3_lodge 28 = .ok (.aload_n 3, 1) := by decide +kernel
theorem dX3_lodge_29 : decode cX3_lodge 29 = .ok (.iload_n 2, 1) := by decide +kernel
theorem dX3_lodge_30 : decode cX3_lodge 30 = .ok (.putfield 38, 3) := by decide +kernel
theorem dX3_lodge_33 : decode cX3_lodge 33 = .ok (.iload 4, 2) := by decide +kernel
theorem dX3_lodge_35 : decode cX3_lodge 35 = .ok (.ireturn, 1) := by decide +kernel
set_option maxRecDepth 20000 in
theorem ggX3_prefer_X3_requireHouse : GoodIn wsX3_prefer wsX3_requireHouse := goodIn_ca (goodIn_r _ [8, 9, 10, 1, 11, 12, 13, 14, 15, 16, 26, 27, 28, 29, 30, 31, 32, 33] (by decide +kernel) (by decide +kernel)) (goodIn_sub (fun _ h => List.mem_cons_of_mem _ (List.mem_append_right _ h)) (by decide +kernel))
set_option maxRecDepth 20000 in
theorem gX3_prefer_X3_requireHouse : GoodIn wsX3_prefer (wsV RX3 69 RX3 yX3_requireHouse wsX3_requireHouse) := goodIn_app (goodIn_of _ (by decide +kernel)) ggX3_prefer_X3_requireHouse
set_option maxRecDepth 20000 in
theorem ggX3_prefer_X3_requirePump : GoodIn wsX3_prefer wsX3_requirePump := goodIn_ca (goodIn_r _ [20, 9, 10, 1, 21, 22, 23, 14, 24, 25, 26, 27, 28, 29, 30, 31, 32, 33] (by decide +kernel) (by decide +kernel)) (goodIn_sub (fun _ h => List.mem_cons_of_mem _ (List.mem_append_right _ h)) (by decide +kernel))
set_option maxRecDepth 20000 in
theorem gX3_prefer_X3_requirePump : GoodIn wsX3_prefer (wsV RX3 73 RX3 yX3_requirePump wsX3_requirePump) := goodIn_app (goodIn_of _ (by decide +kernel)) ggX3_prefer_X3_requirePump
theorem dX3_prefer_0 : decode cX3_prefer 0 = .ok (.aload_n 0, 1) := by decide +kernel
theorem dX3_prefer_1 : decode cX3_prefer 1 = .ok (.iload_n 1, 1) := by decide +kernel
theorem dX3_prefer_2 : decode cX3_prefer 2 = .ok (.invokevirtual 69, 3) := by decide +kernel
theorem dX3_prefer_5 : decode cX3_prefer 5 = .ok (.aload_n 0, 1) := by decide +kernel
theorem dX3_prefer_6 : decode cX3_prefer 6 = .ok (.iload_n 2, 1) := by decide +kernel
theorem dX3_prefer_7 : decode cX3_prefer 7 = .ok (.invokevirtual 73, 3) := by decide +kernel
theorem dX3_prefer_10 : decode cX3_prefer 10 = .ok (.aload_n 0, 1) := by decide +kernel
theorem dX3_prefer_11 : decode cX3_prefer 11 = .ok (.getfield 10, 3) := by decide +kernel
theorem dX3_prefer_14 : decode cX3_prefer 14 = .ok (.getfield 34, 3) := by decide +kernel
theorem dX3_prefer_17 : decode cX3_prefer 17 = .ok (.iload_n 1, 1) := by decide +kernel
theorem dX3_prefer_18 : decode cX3_prefer 18 = .ok (.aaload, 1) := by decide +kernel
theorem dX3_prefer_19 : decode cX3_prefer 19 = .ok (.astore_n 3, 1) := by decide +kernel
theorem dX3_prefer_20 : decode cX3_prefer 20 = .ok (.aload_n 3, 1) := by decide +kernel
theorem dX3_prefer_21 : decode cX3_prefer 21 = .ok (.getfield 76, 3) := by decide +kernel
theorem dX3_prefer_24 : decode cX3_prefer 24 = .ok (.istore 4, 2) := by decide +kernel
theorem dX3_prefer_26 : decode cX3_prefer 26 = .ok (.aload_n 3, 1) := by decide +kernel
theorem dX3_prefer_27 : decode cX3_prefer 27 = .ok (.iload_n 2, 1) := by decide +kernel
theorem dX3_prefer_28 : decode cX3_prefer 28 = .ok (.putfield 76, 3) := by decide +kernel
theorem dX3_prefer_31 : decode cX3_prefer 31 = .ok (.iload 4, 2) := by decide +kernel
theorem dX3_prefer_33 : decode cX3_prefer 33 = .ok (.ireturn, 1) := by decide +kernel
set_option maxRecDepth 20000 in
theorem ggX3_leave_X3_requireHouse : GoodIn wsX3_leave wsX3_requireHouse := goodIn_ca (goodIn_r _ [8, 9, 10, 1, 11, 12, 13, 14, 15, 16, 22, 23, 24, 25, 26, 27, 28, 29] (by decide +kernel) (by decide +kernel)) (goodIn_sub (fun _ h => List.mem_cons_of_mem _ (List.mem_append_left _ (List.mem_append_right _ h))) (by decide +kernel))
set_option maxRecDepth 20000 in
theorem gX3_leave_X3_requireHouse : GoodIn wsX3_leave (wsV RX3 69 RX3 yX3_requireHouse wsX3_requireHouse) := goodIn_app (goodIn_of _ (by decide +kernel)) ggX3_leave_X3_requireHouse
set_option maxRecDepth 20000 in
theorem ggX3_leave_X3_requireArgument : GoodIn wsX3_leave wsX3_requireArgument := goodIn_ca (goodIn_r _ [19, 20, 21] (by decide +kernel) (by decide +kernel)) (goodIn_sub (fun _ h => List.mem_cons_of_mem _ (List.mem_append_right _ h)) (by decide +kernel))
set_option maxRecDepth 20000 in
theorem gX3_leave_X3_requireArgument : GoodIn wsX3_leave (va_wsS RX3 19 yX3_requireArgument wsX3_requireArgument) := goodIn_app (goodIn_of _ (by decide +kernel)) ggX3_leave_X3_requireArgument
theorem dX3_leave_0 : decode cX3_leave 0 = .ok (.aload_n 0, 1) := by decide +kernel
theorem dX3_leave_1 : decode cX3_leave 1 = .ok (.iload_n 1, 1) := by decide +kernel
theorem dX3_leave_2 : decode cX3_leave 2 = .ok (.invokevirtual 69, 3) := by decide +kernel
theorem dX3_leave_5 : decode cX3_leave 5 = .ok (.iload_n 2, 1) := by decide +kernel
theorem dX3_leave_6 : decode cX3_leave 6 = .ok (.iconst 0, 1) := by decide +kernel
theorem dX3_leave_7 : decode cX3_leave 7 = .ok (.bipush 30, 2) := by decide +kernel
theorem dX3_leave_9 : decode cX3_leave 9 = .ok (.invokestatic 19, 3) := by decide +kernel
theorem dX3_leave_12 : decode cX3_leave 12 = .ok (.aload_n 0, 1) := by decide +kernel
theorem dX3_leave_13 : decode cX3_leave 13 = .ok (.getfield 10, 3) := by decide +kernel
theorem dX3_leave_16 : decode cX3_leave 16 = .ok (.getfield 34, 3) := by decide +kernel
theorem dX3_leave_19 : decode cX3_leave 19 = .ok (.iload_n 1, 1) := by decide +kernel
theorem dX3_leave_20 : decode cX3_leave 20 = .ok (.aaload, 1) := by decide +kernel
theorem dX3_leave_21 : decode cX3_leave 21 = .ok (.astore_n 3, 1) := by decide +kernel
theorem dX3_leave_22 : decode cX3_leave 22 = .ok (.aload_n 3, 1) := by decide +kernel
theorem dX3_leave_23 : decode cX3_leave 23 = .ok (.getfield 79, 3) := by decide +kernel
theorem dX3_leave_26 : decode cX3_leave 26 = .ok (.istore 4, 2) := by decide +kernel
theorem dX3_leave_28 : decode cX3_leave 28 = .ok (.aload_n 3, 1) := by decide +kernel
theorem dX3_leave_29 : decode cX3_leave 29 = .ok (.iload_n 2, 1) := by decide +kernel
theorem dX3_leave_30 : decode cX3_leave 30 = .ok (.putfield 79, 3) := by decide +kernel
theorem dX3_leave_33 : decode cX3_leave 33 = .ok (.iload 4, 2) := by decide +kernel
theorem dX3_leave_35 : decode cX3_leave 35 = .ok (.ireturn, 1) := by decide +kernel
set_option maxRecDepth 20000 in
theorem ggX3_fine_X3_requireHouse : GoodIn wsX3_fine wsX3_requireHouse := goodIn_ca (goodIn_r _ [7, 8, 9, 1, 10, 11, 12, 13, 14, 15, 48, 49, 50, 51, 52, 53, 54, 55] (by decide +kernel) (by decide +kernel)) (goodIn_sub (fun _ h => List.mem_cons_of_mem _ (List.mem_append_left _ (List.mem_append_right _ h))) (by decide +kernel))
set_option maxRecDepth 20000 in
theorem gX3_fine_X3_requireHouse : GoodIn wsX3_fine (wsV RX3 69 RX3 yX3_requireHouse wsX3_requireHouse) := goodIn_app (goodIn_of _ (by decide +kernel)) ggX3_fine_X3_requireHouse
set_option maxRecDepth 20000 in
theorem ggX3_fine_X3_requireArgument : GoodIn wsX3_fine wsX3_requireArgument := goodIn_ca (goodIn_r _ [18, 19, 20] (by decide +kernel) (by decide +kernel)) (goodIn_sub (fun _ h => List.mem_cons_of_mem _ (List.mem_append_right _ h)) (by decide +kernel))
set_option maxRecDepth 20000 in
theorem gX3_fine_X3_requireArgument : GoodIn wsX3_fine (va_wsS RX3 19 yX3_requireArgument wsX3_requireArgument) := goodIn_app (goodIn_of _ (by decide +kernel)) ggX3_fine_X3_requireArgument
set_option maxRecDepth 20000 in
theorem ggX3_fine_X2_charge : GoodIn wsX3_fine wsX2_charge := goodIn_r _ [24, 25, 26, 27, 28, 29, 30, 31, 32, 33, 34, 35, 36, 37, 38, 39, 40, 41, 42, 43, 44, 45, 46, 47, 56, 57, 58, 59, 60, 61, 62, 63, 64, 65, 66, 67, 50, 51, 52, 53, 54, 55, 68, 69, 70, 71, 72, 73, 74, 75, 76, 77, 78, 79, 80, 81] (by decide +kernel) (by decide +kernel)
set_option maxRecDepth 20000 in
theorem gX3_fine_X2_charge : GoodIn wsX3_fine (wsV RX3 82 RX2 yX2_charge wsX2_charge) := goodIn_app (goodIn_of _ (by decide +kernel)) ggX3_fine_X2_charge
theorem dX3_fine_0 : decode cX3_fine 0 = .ok (.aload_n 0, 1) := by decide +kernel
theorem dX3_fine_1 : decode cX3_fine 1 = .ok (.iload_n 1, 1) := by decide +kernel
theorem dX3_fine_2 : decode cX3_fine 2 = .ok (.invokevirtual 69, 3) := by decide +kernel
theorem dX3_fine_5 : decode cX3_fine 5 = .ok (.iload_n 2, 1) := by decide +kernel
theorem dX3_fine_6 : decode cX3_fine 6 = .ok (.iconst 1, 1) := by decide +kernel
theorem dX3_fine_7 : decode cX3_fine 7 = .ok (.bipush 50, 2) := by decide +kernel
theorem dX3_fine_9 : decode cX3_fine 9 = .ok (.invokestatic 19, 3) := by decide +kernel
theorem dX3_fine_12 : decode cX3_fine 12 = .ok (.aload_n 0, 1) := by decide +kernel
theorem dX3_fine_13 : decode cX3_fine 13 = .ok (.getfield 10, 3) := by decide +kernel
theorem dX3_fine_16 : decode cX3_fine 16 = .ok (.aload_n 0, 1) := by decide +kernel
theorem dX3_fine_17 : decode cX3_fine 17 = .ok (.getfield 10, 3) := by decide +kernel
theorem dX3_fine_20 : decode cX3_fine 20 = .ok (.getfield 34, 3) := by decide +kernel
theorem dX3_fine_23 : decode cX3_fine 23 = .ok (.iload_n 1, 1) := by decide +kernel
theorem dX3_fine_24 : decode cX3_fine 24 = .ok (.aaload, 1) := by decide +kernel
theorem dX3_fine_25 : decode cX3_fine 25 = .ok (.iload_n 2, 1) := by decide +kernel
theorem dX3_fine_26 : decode cX3_fine 26 = .ok (.invokevirtual 82, 3) := by decide +kernel
theorem dX3_fine_29 : decode cX3_fine 29 = .ok (.ireturn, 1) := by decide +kernel
set_option maxRecDepth 20000 in
theorem ggX3_enrol_X3_requirePump : GoodIn wsX3_enrol wsX3_requirePump := goodIn_ca (goodIn_r _ [12, 13, 14, 3, 15, 16, 17, 18, 19, 20, 41, 42, 43, 44, 45, 46, 47, 48] (by decide +kernel) (by decide +kernel)) (goodIn_sub (fun _ h => List.mem_cons_of_mem _ (List.mem_append_right _ h)) (by decide +kernel))
set_option maxRecDepth 20000 in
theorem gX3_enrol_X3_requirePump : GoodIn wsX3_enrol (wsV RX3 73 RX3 yX3_requirePump wsX3_requirePump) := goodIn_app (goodIn_of _ (by decide +kernel)) ggX3_enrol_X3_requirePump
set_option maxRecDepth 20000 in
theorem ggX3_enrol_X3_requireHouse : GoodIn wsX3_enrol wsX3_requireHouse := goodIn_ca (goodIn_r _ [24, 13, 14, 3, 25, 26, 27, 18, 28, 29, 41, 42, 43, 44, 45, 46, 47, 48] (by decide +kernel) (by decide +kernel)) (goodIn_sub (fun _ h => List.mem_cons_of_mem _ (List.mem_append_right _ h)) (by decide +kernel))
set_option maxRecDepth 20000 in
theorem gX3_enrol_X3_requireHouse : GoodIn wsX3_enrol (wsV RX3 69 RX3 yX3_requireHouse wsX3_requireHouse) := goodIn_app (goodIn_of _ (by decide +kernel)) ggX3_enrol_X3_requireHouse
set_option maxRecDepth 20000 in
theorem ggX3_enrol_X1_placeOf : GoodIn wsX3_enrol wsX1_placeOf := goodIn_r _ [34, 35, 36, 61, 62, 63, 64, 65, 66, 67, 68, 69, 70, 71, 72, 73, 74] (by decide +kernel) (by decide +kernel)
set_option maxRecDepth 20000 in
theorem gX3_enrol_X1_placeOf : GoodIn wsX3_enrol (wsV RX3 86 RX1 yX1_placeOf wsX1_placeOf) := goodIn_app (goodIn_of _ (by decide +kernel)) ggX3_enrol_X1_placeOf
set_option maxRecDepth 20000 in
theorem ggX3_enrol_X1_append : GoodIn wsX3_enrol wsX1_append := goodIn_r _ [40, 35, 36, 61, 62, 63, 64, 65, 66, 67, 68, 69, 70, 71, 72, 73, 74] (by decide +kernel) (by decide +kernel)
set_option maxRecDepth 20000 in
theorem gX3_enrol_X1_append : GoodIn wsX3_enrol (wsV RX3 97 RX1 yX1_append wsX1_append) := goodIn_app (goodIn_of _ (by decide +kernel)) ggX3_enrol_X1_append
theorem dX3_enrol_0 : decode cX3_enrol 0 = .ok (.aload_n 0, 1) := by decide +kernel
theorem dX3_enrol_1 : decode cX3_enrol 1 = .ok (.iload_n 1, 1) := by decide +kernel
theorem dX3_enrol_2 : decode cX3_enrol 2 = .ok (.invokevirtual 73, 3) := by decide +kernel
theorem dX3_enrol_5 : decode cX3_enrol 5 = .ok (.aload_n 0, 1) := by decide +kernel
theorem dX3_enrol_6 : decode cX3_enrol 6 = .ok (.iload_n 2, 1) := by decide +kernel
theorem dX3_enrol_7 : decode cX3_enrol 7 = .ok (.invokevirtual 69, 3) := by decide +kernel
theorem dX3_enrol_10 : decode cX3_enrol 10 = .ok (.aload_n 0, 1) := by decide +kernel
theorem dX3_enrol_11 : decode cX3_enrol 11 = .ok (.getfield 10, 3) := by decide +kernel
theorem dX3_enrol_14 : decode cX3_enrol 14 = .ok (.getfield 57, 3) := by decide +kernel
theorem dX3_enrol_17 : decode cX3_enrol 17 = .ok (.iload_n 1, 1) := by decide +kernel
theorem dX3_enrol_18 : decode cX3_enrol 18 = .ok (.aaload, 1) := by decide +kernel
theorem dX3_enrol_19 : decode cX3_enrol 19 = .ok (.astore_n 3, 1) := by decide +kernel
theorem dX3_enrol_20 : decode cX3_enrol 20 = .ok (.aload_n 3, 1) := by decide +kernel
theorem dX3_enrol_21 : decode cX3_enrol 21 = .ok (.iload_n 2, 1) := by decide +kernel
theorem dX3_enrol_22 : decode cX3_enrol 22 = .ok (.invokevirtual 86, 3) := by decide +kernel
theorem dX3_enrol_25 : decode cX3_enrol 25 = .ok (.iconst (-1), 1) := by decide +kernel
theorem dX3_enrol_26 : decode cX3_enrol 26 = .ok (.if_icmp .eq 13, 3) := by decide +kernel
theorem dX3_enrol_29 : decode cX3_enrol 29 = .ok (.new 27, 3) := by decide +kernel
theorem dX3_enrol_32 : decode cX3_enrol 32 = .ok (.dup, 1) := by decide +kernel
theorem dX3_enrol_33 : decode cX3_enrol 33 = .ok (.ldc 90, 2) := by decide +kernel
theorem dX3_enrol_35 : decode cX3_enrol 35 = .ok (.invokespecial 31, 3) := by decide +kernel
theorem dX3_enrol_38 : decode cX3_enrol 38 = .ok (.athrow, 1) := by decide +kernel
theorem dX3_enrol_39 : decode cX3_enrol 39 = .ok (.aload_n 0, 1) := by decide +kernel
theorem dX3_enrol_40 : decode cX3_enrol 40 = .ok (.getfield 10, 3) := by decide +kernel
theorem dX3_enrol_43 : decode cX3_enrol 43 = .ok (.getfield 34, 3) := by decide +kernel
theorem dX3_enrol_46 : decode cX3_enrol 46 = .ok (.iload_n 2, 1) := by decide +kernel
theorem dX3_enrol_47 : decode cX3_enrol 47 = .ok (.aaload, 1) := by decide +kernel
theorem dX3_enrol_48 : decode cX3_enrol 48 = .ok (.getfield 92, 3) := by decide +kernel
theorem dX3_enrol_51 : decode cX3_enrol 51 = .ok (.iconst 3, 1) := by decide +kernel
theorem dX3_enrol_52 : decode cX3_enrol 52 = .ok (.if_icmp .lt 13, 3) := by decide +kernel
theorem dX3_enrol_55 : decode cX3_enrol 55 = .ok (.new 27, 3) := by decide +kernel
theorem dX3_enrol_58 : decode cX3_enrol 58 = .ok (.dup, 1) := by decide +kernel
theorem dX3_enrol_59 : decode cX3_enrol 59 = .ok (.ldc 95, 2) := by decide +kernel
theorem dX3_enrol_61 : decode cX3_enrol 61 = .ok (.invokespecial 31, 3) := by decide +kernel
theorem dX3_enrol_64 : decode cX3_enrol 64 = .ok (.athrow, 1) := by decide +kernel
theorem dX3_enrol_65 : decode cX3_enrol 65 = .ok (.aload_n 3, 1) := by decide +kernel
theorem dX3_enrol_66 : decode cX3_enrol 66 = .ok (.iload_n 2, 1) := by decide +kernel
theorem dX3_enrol_67 : decode cX3_enrol 67 = .ok (.invokevirtual 97, 3) := by decide +kernel
theorem dX3_enrol_70 : decode cX3_enrol 70 = .ok (.aload_n 3, 1) := by decide +kernel
theorem dX3_enrol_71 : decode cX3_enrol 71 = .ok (.getfield 100, 3) := by decide +kernel
theorem dX3_enrol_74 : decode cX3_enrol 74 = .ok (.ireturn, 1) := by decide +kernel
set_option maxRecDepth 20000 in
theorem ggX3_change_X3_requirePlace : GoodIn wsX3_change wsX3_requirePlace := goodIn_ca (goodIn_r _ [9, 10, 11, 1, 2, 12, 13, 14, 15, 8, 16, 17, 18, 19, 20, 21, 22, 30, 31, 32, 33, 34, 35, 36, 37, 38, 39, 40, 41, 42, 43, 44, 45, 46, 47, 48, 49, 50, 51] (by decide +kernel) (by decide +kernel)) (goodIn_sub (fun _ h => List.mem_cons_of_mem _ (List.mem_append_right _ h)) (by decide +kernel))
set_option maxRecDepth 20000 in
theorem gX3_change_X3_requirePlace : GoodIn wsX3_change (wsV RX3 103 RX3 yX3_requirePlace wsX3_requirePlace) := goodIn_app (goodIn_of _ (by decide +kernel)) ggX3_change_X3_requirePlace
set_option maxRecDepth 20000 in
theorem ggX3_change_X1_houseAt : GoodIn wsX3_change wsX1_houseAt := goodIn_r _ [27, 28, 29, 38, 39, 40, 41, 42, 43, 44, 45, 46, 47, 48, 49, 50, 51] (by decide +kernel) (by decide +kernel)
set_option maxRecDepth 20000 in
theorem gX3_change_X1_houseAt : GoodIn wsX3_change (wsV RX3 114 RX1 yX1_houseAt wsX1_houseAt) := goodIn_app (goodIn_of _ (by decide +kernel)) ggX3_change_X1_houseAt
theorem dX3_change_0 : decode cX3_change 0 = .ok (.aload_n 0, 1) := by decide +kernel
theorem dX3_change_1 : decode cX3_change 1 = .ok (.iload_n 1, 1) := by decide +kernel
theorem dX3_change_2 : decode cX3_change 2 = .ok (.iload_n 2, 1) := by decide +kernel
theorem dX3_change_3 : decode cX3_change 3 = .ok (.invokevirtual 103, 3) := by decide +kernel
theorem dX3_change_6 : decode cX3_change 6 = .ok (.aload_n 0, 1) := by decide +kernel
theorem dX3_change_7 : decode cX3_change 7 = .ok (.iload_n 1, 1) := by decide +kernel
theorem dX3_change_8 : decode cX3_change 8 = .ok (.iload_n 3, 1) := by decide +kernel
theorem dX3_change_9 : decode cX3_change 9 = .ok (.invokevirtual 103, 3) := by decide +kernel
theorem dX3_change_12 : decode cX3_change 12 = .ok (.aload_n 0, 1) := by decide +kernel
theorem dX3_change_13 : decode cX3_change 13 = .ok (.getfield 10, 3) := by decide +kernel
theorem dX3_change_16 : decode cX3_change 16 = .ok (.getfield 57, 3) := by decide +kernel
theorem dX3_change_19 : decode cX3_change 19 = .ok (.iload_n 1, 1) := by decide +kernel
theorem dX3_change_20 : decode cX3_change 20 = .ok (.aaload, 1) := by decide +kernel
theorem dX3_change_21 : decode cX3_change 21 = .ok (.astore 4, 2) := by decide +kernel
theorem dX3_change_23 : decode cX3_change 23 = .ok (.aload 4, 2) := by decide +kernel
theorem dX3_change_25 : decode cX3_change 25 = .ok (.getfield 107, 3) := by decide +kernel
theorem dX3_change_28 : decode cX3_change 28 = .ok (.iload_n 2, 1) := by decide +kernel
theorem dX3_change_29 : decode cX3_change 29 = .ok (.iaload, 1) := by decide +kernel
theorem dX3_change_30 : decode cX3_change 30 = .ok (.istore 5, 2) := by decide +kernel
theorem dX3_change_32 : decode cX3_change 32 = .ok (.aload 4, 2) := by decide +kernel
theorem dX3_change_34 : decode cX3_change 34 = .ok (.getfield 107, 3) := by decide +kernel
theorem dX3_change_37 : decode cX3_change 37 = .ok (.iload_n 2, 1) := by decide +kernel
theorem dX3_change_38 : decode cX3_change 38 = .ok (.aload 4, 2) := by decide +kernel
theorem dX3_change_40 : decode cX3_change 40 = .ok (.getfield 107, 3) := by decide +kernel
theorem dX3_change_43 : decode cX3_change 43 = .ok (.iload_n 3, 1) := by decide +kernel
theorem dX3_change_44 : decode cX3_change 44 = .ok (.iaload, 1) := by decide +kernel
theorem dX3_change_45 : decode cX3_change 45 = .ok (.iastore, 1) := by decide +kernel
theorem dX3_change_46 : decode cX3_change 46 = .ok (.aload 4, 2) := by decide +kernel
theorem dX3_change_48 : decode cX3_change 48 = .ok (.getfield 107, 3) := by decide +kernel
theorem dX3_change_51 : decode cX3_change 51 = .ok (.iload_n 3, 1) := by decide +kernel
theorem dX3_change_52 : decode cX3_change 52 = .ok (.iload 5, 2) := by decide +kernel
theorem dX3_change_54 : decode cX3_change 54 = .ok (.iastore, 1) := by decide +kernel
theorem dX3_change_55 : decode cX3_change 55 = .ok (.aload 4, 2) := by decide +kernel
theorem dX3_change_57 : decode cX3_change 57 = .ok (.aload 4, 2) := by decide +kernel
theorem dX3_change_59 : decode cX3_change 59 = .ok (.getfield 111, 3) := by decide +kernel
theorem dX3_change_62 : decode cX3_change 62 = .ok (.invokevirtual 114, 3) := by decide +kernel
theorem dX3_change_65 : decode cX3_change 65 = .ok (.ireturn, 1) := by decide +kernel
set_option maxRecDepth 20000 in
theorem ggX3_roster_X3_requirePlace : GoodIn wsX3_roster wsX3_requirePlace := goodIn_ca (goodIn_r _ [7, 8, 9, 1, 2, 10, 11, 12, 13, 6, 14, 15, 16, 17, 18, 19, 20, 28, 29, 30, 31, 32, 33, 34, 35, 36, 37, 38, 39, 40, 41, 42, 43, 44, 45, 46, 47, 48, 49] (by decide +kernel) (by decide +kernel)) (goodIn_sub (fun _ h => List.mem_cons_of_mem _ (List.mem_append_right _ h)) (by decide +kernel))
set_option maxRecDepth 20000 in
theorem gX3_roster_X3_requirePlace : GoodIn wsX3_roster (wsV RX3 103 RX3 yX3_requirePlace wsX3_requirePlace) := goodIn_app (goodIn_of _ (by decide +kernel)) ggX3_roster_X3_requirePlace
set_option maxRecDepth 20000 in
theorem ggX3_roster_X1_houseAt : GoodIn wsX3_roster wsX1_houseAt := goodIn_r _ [25, 26, 27, 36, 37, 38, 39, 40, 41, 42, 43, 44, 45, 46, 47, 48, 49] (by decide +kernel) (by decide +kernel)
set_option maxRecDepth 20000 in
theorem gX3_roster_X1_houseAt : GoodIn wsX3_roster (wsV RX3 114 RX1 yX1_houseAt wsX1_houseAt) := goodIn_app (goodIn_of _ (by decide +kernel)) ggX3_roster_X1_houseAt
theorem dX3_roster_0 : decode cX3_roster 0 = .ok (.aload_n 0, 1) := by decide +kernel
theorem dX3_roster_1 : decode cX3_roster 1 = .ok (.iload_n 1, 1) := by decide +kernel
theorem dX3_roster_2 : decode cX3_roster 2 = .ok (.iload_n 2, 1) := by decide +kernel
theorem dX3_roster_3 : decode cX3_roster 3 = .ok (.invokevirtual 103, 3) := by decide +kernel
theorem dX3_roster_6 : decode cX3_roster 6 = .ok (.aload_n 0, 1) := by decide +kernel
theorem dX3_roster_7 : decode cX3_roster 7 = .ok (.getfield 10, 3) := by decide +kernel
theorem dX3_roster_10 : decode cX3_roster 10 = .ok (.getfield 57, 3) := by decide +kernel
theorem dX3_roster_13 : decode cX3_roster 13 = .ok (.iload_n 1, 1) := by decide +kernel
theorem dX3_roster_14 : decode cX3_roster 14 = .ok (.aaload, 1) := by decide +kernel
theorem dX3_roster_15 : decode cX3_roster 15 = .ok (.iload_n 2, 1) := by decide +kernel
theorem dX3_roster_16 : decode cX3_roster 16 = .ok (.invokevirtual 114, 3) := by decide +kernel
theorem dX3_roster_19 : decode cX3_roster 19 = .ok (.ireturn, 1) := by decide +kernel
set_option maxRecDepth 20000 in
theorem ggX3_ahead_X3_requirePump : GoodIn wsX3_ahead wsX3_requirePump := goodIn_ca (goodIn_r _ [9, 10, 11, 1, 12, 13, 14, 15, 16, 17, 34, 35, 36, 37, 38, 39, 40, 41] (by decide +kernel) (by decide +kernel)) (goodIn_sub (fun _ h => List.mem_cons_of_mem _ (List.mem_append_right _ h)) (by decide +kernel))
set_option maxRecDepth 20000 in
theorem gX3_ahead_X3_requirePump : GoodIn wsX3_ahead (wsV RX3 73 RX3 yX3_requirePump wsX3_requirePump) := goodIn_app (goodIn_of _ (by decide +kernel)) ggX3_ahead_X3_requirePump
set_option maxRecDepth 20000 in
theorem ggX3_ahead_X3_requireHouse : GoodIn wsX3_ahead wsX3_requireHouse := goodIn_ca (goodIn_r _ [21, 10, 11, 1, 22, 23, 24, 15, 25, 26, 34, 35, 36, 37, 38, 39, 40, 41] (by decide +kernel) (by decide +kernel)) (goodIn_sub (fun _ h => List.mem_cons_of_mem _ (List.mem_append_right _ h)) (by decide +kernel))
set_option maxRecDepth 20000 in
theorem gX3_ahead_X3_requireHouse : GoodIn wsX3_ahead (wsV RX3 69 RX3 yX3_requireHouse wsX3_requireHouse) := goodIn_app (goodIn_of _ (by decide +kernel)) ggX3_ahead_X3_requireHouse
set_option maxRecDepth 20000 in
theorem ggX3_ahead_X1_placeOf : GoodIn wsX3_ahead wsX1_placeOf := goodIn_r _ [31, 32, 33, 42, 43, 44, 45, 46, 47, 48, 49, 50, 51, 52, 53, 54, 55] (by decide +kernel) (by decide +kernel)
set_option maxRecDepth 20000 in
theorem gX3_ahead_X1_placeOf : GoodIn wsX3_ahead (wsV RX3 86 RX1 yX1_placeOf wsX1_placeOf) := goodIn_app (goodIn_of _ (by decide +kernel)) ggX3_ahead_X1_placeOf
theorem dX3_ahead_0 : decode cX3_ahead 0 = .ok (.aload_n 0, 1) := by decide +kernel
theorem dX3_ahead_1 : decode cX3_ahead 1 = .ok (.iload_n 1, 1) := by decide +kernel
theorem dX3_ahead_2 : decode cX3_ahead 2 = .ok (.invokevirtual 73, 3) := by decide +kernel
theorem dX3_ahead_5 : decode cX3_ahead 5 = .ok (.aload_n 0, 1) := by decide +kernel
theorem dX3_ahead_6 : decode cX3_ahead 6 = .ok (.iload_n 2, 1) := by decide +kernel
theorem dX3_ahead_7 : decode cX3_ahead 7 = .ok (.invokevirtual 69, 3) := by decide +kernel
theorem dX3_ahead_10 : decode cX3_ahead 10 = .ok (.aload_n 0, 1) := by decide +kernel
theorem dX3_ahead_11 : decode cX3_ahead 11 = .ok (.getfield 10, 3) := by decide +kernel
theorem dX3_ahead_14 : decode cX3_ahead 14 = .ok (.getfield 57, 3) := by decide +kernel
theorem dX3_ahead_17 : decode cX3_ahead 17 = .ok (.iload_n 1, 1) := by decide +kernel
theorem dX3_ahead_18 : decode cX3_ahead 18 = .ok (.aaload, 1) := by decide +kernel
theorem dX3_ahead_19 : decode cX3_ahead 19 = .ok (.astore_n 3, 1) := by decide +kernel
theorem dX3_ahead_20 : decode cX3_ahead 20 = .ok (.aload_n 3, 1) := by decide +kernel
theorem dX3_ahead_21 : decode cX3_ahead 21 = .ok (.iload_n 2, 1) := by decide +kernel
theorem dX3_ahead_22 : decode cX3_ahead 22 = .ok (.invokevirtual 86, 3) := by decide +kernel
theorem dX3_ahead_25 : decode cX3_ahead 25 = .ok (.istore 4, 2) := by decide +kernel
theorem dX3_ahead_27 : decode cX3_ahead 27 = .ok (.iload 4, 2) := by decide +kernel
theorem dX3_ahead_29 : decode cX3_ahead 29 = .ok (.iconst (-1), 1) := by decide +kernel
theorem dX3_ahead_30 : decode cX3_ahead 30 = .ok (.if_icmp .ne 5, 3) := by decide +kernel
theorem dX3_ahead_33 : decode cX3_ahead 33 = .ok (.iconst (-1), 1) := by decide +kernel
theorem dX3_ahead_34 : decode cX3_ahead 34 = .ok (.ireturn, 1) := by decide +kernel
theorem dX3_ahead_35 : decode cX3_ahead 35 = .ok (.iload 4, 2) := by decide +kernel
theorem dX3_ahead_37 : decode cX3_ahead 37 = .ok (.aload_n 3, 1) := by decide +kernel
theorem dX3_ahead_38 : decode cX3_ahead 38 = .ok (.getfield 111, 3) := by decide +kernel
theorem dX3_ahead_41 : decode cX3_ahead 41 = .ok (.if_icmp .lt 13, 3) := by decide +kernel
theorem dX3_ahead_44 : decode cX3_ahead 44 = .ok (.iload 4, 2) := by decide +kernel
theorem dX3_ahead_46 : decode cX3_ahead 46 = .ok (.aload_n 3, 1) := by decide +kernel
theorem dX3_ahead_47 : decode cX3_ahead 47 = .ok (.getfield 111, 3) := by decide +kernel
theorem dX3_ahead_50 : decode cX3_ahead 50 = .ok (.isub, 1) := by decide +kernel
theorem dX3_ahead_51 : decode cX3_ahead 51 = .ok (.goto 15, 3) := by decide +kernel
theorem dX3_ahead_54 : decode cX3_ahead 54 = .ok (.iload 4, 2) := by decide +kernel
theorem dX3_ahead_56 : decode cX3_ahead 56 = .ok (.aload_n 3, 1) := by decide +kernel
theorem dX3_ahead_57 : decode cX3_ahead 57 = .ok (.getfield 111, 3) := by decide +kernel
theorem dX3_ahead_60 : decode cX3_ahead 60 = .ok (.isub, 1) := by decide +kernel
theorem dX3_ahead_61 : decode cX3_ahead 61 = .ok (.aload_n 3, 1) := by decide +kernel
theorem dX3_ahead_62 : decode cX3_ahead 62 = .ok (.getfield 100, 3) := by decide +kernel
theorem dX3_ahead_65 : decode cX3_ahead 65 = .ok (.iadd, 1) := by decide +kernel
theorem dX3_ahead_66 : decode cX3_ahead 66 = .ok (.ireturn, 1) := by decide +kernel
set_option maxRecDepth 20000 in
theorem ggX3_house_X3_requireHouse : GoodIn wsX3_house wsX3_requireHouse := goodIn_ca (goodIn_r _ [7, 8, 9, 1, 10, 11, 12, 13, 14, 15, 41, 42, 43, 44, 45, 46, 47, 48] (by decide +kernel) (by decide +kernel)) (goodIn_sub (fun _ h => List.mem_cons_of_mem _ (List.mem_append_right _ h)) (by decide +kernel))
set_option maxRecDepth 20000 in
theorem gX3_house_X3_requireHouse : GoodIn wsX3_house (wsV RX3 69 RX3 yX3_requireHouse wsX3_requireHouse) := goodIn_app (goodIn_of _ (by decide +kernel)) ggX3_house_X3_requireHouse
set_option maxRecDepth 20000 in
theorem ggX3_house_X3_requireIndex : GoodIn wsX3_house wsX3_requireIndex := goodIn_ca (goodIn_r _ [18, 8, 9] (by decide +kernel) (by decide +kernel)) (goodIn_sub (fun _ h => List.mem_cons_of_mem _ (List.mem_append_right _ h)) (by decide +kernel))
set_option maxRecDepth 20000 in
theorem gX3_house_X3_requireIndex : GoodIn wsX3_house (va_wsS RX3 117 yX3_requireIndex wsX3_requireIndex) := goodIn_app (goodIn_of _ (by decide +kernel)) ggX3_house_X3_requireIndex
set_option maxRecDepth 20000 in
theorem ggX3_house_X2_houseFact : GoodIn wsX3_house wsX2_houseFact := goodIn_r _ [22, 23, 24, 25, 26, 27, 28, 29, 30, 31, 32, 33, 34, 35, 36, 13, 37, 38, 39, 40, 49, 50, 51, 52, 53, 54, 55, 56, 57, 58, 59, 60, 43, 44, 45, 46, 47, 48, 61, 62, 63, 64, 65, 66, 67, 68, 69, 70, 71, 72, 73, 74] (by decide +kernel) (by decide +kernel)
set_option maxRecDepth 20000 in
theorem gX3_house_X2_houseFact : GoodIn wsX3_house (wsV RX3 120 RX2 yX2_houseFact wsX2_houseFact) := goodIn_app (goodIn_of _ (by decide +kernel)) ggX3_house_X2_houseFact
theorem dX3_house_0 : decode cX3_house 0 = .ok (.aload_n 0, 1) := by decide +kernel
theorem dX3_house_1 : decode cX3_house 1 = .ok (.iload_n 1, 1) := by decide +kernel
theorem dX3_house_2 : decode cX3_house 2 = .ok (.invokevirtual 69, 3) := by decide +kernel
theorem dX3_house_5 : decode cX3_house 5 = .ok (.iload_n 2, 1) := by decide +kernel
theorem dX3_house_6 : decode cX3_house 6 = .ok (.bipush 10, 2) := by decide +kernel
theorem dX3_house_8 : decode cX3_house 8 = .ok (.invokestatic 117, 3) := by decide +kernel
theorem dX3_house_11 : decode cX3_house 11 = .ok (.aload_n 0, 1) := by decide +kernel
theorem dX3_house_12 : decode cX3_house 12 = .ok (.getfield 10, 3) := by decide +kernel
theorem dX3_house_15 : decode cX3_house 15 = .ok (.aload_n 0, 1) := by decide +kernel
theorem dX3_house_16 : decode cX3_house 16 = .ok (.getfield 10, 3) := by decide +kernel
theorem dX3_house_19 : decode cX3_house 19 = .ok (.getfield 34, 3) := by decide +kernel
theorem dX3_house_22 : decode cX3_house 22 = .ok (.iload_n 1, 1) := by decide +kernel
theorem dX3_house_23 : decode cX3_house 23 = .ok (.aaload, 1) := by decide +kernel
theorem dX3_house_24 : decode cX3_house 24 = .ok (.iload_n 2, 1) := by decide +kernel
theorem dX3_house_25 : decode cX3_house 25 = .ok (.invokevirtual 120, 3) := by decide +kernel
theorem dX3_house_28 : decode cX3_house 28 = .ok (.ireturn, 1) := by decide +kernel
set_option maxRecDepth 20000 in
theorem ggX3_pump_X3_requirePump : GoodIn wsX3_pump wsX3_requirePump := goodIn_ca (goodIn_r _ [7, 8, 9, 1, 10, 11, 12, 13, 14, 15, 35, 36, 37, 38, 39, 40, 41, 42] (by decide +kernel) (by decide +kernel)) (goodIn_sub (fun _ h => List.mem_cons_of_mem _ (List.mem_append_right _ h)) (by decide +kernel))
set_option maxRecDepth 20000 in
theorem gX3_pump_X3_requirePump : GoodIn wsX3_pump (wsV RX3 73 RX3 yX3_requirePump wsX3_requirePump) := goodIn_app (goodIn_of _ (by decide +kernel)) ggX3_pump_X3_requirePump
set_option maxRecDepth 20000 in
theorem ggX3_pump_X3_requireIndex : GoodIn wsX3_pump wsX3_requireIndex := goodIn_ca (goodIn_r _ [18, 8, 9] (by decide +kernel) (by decide +kernel)) (goodIn_sub (fun _ h => List.mem_cons_of_mem _ (List.mem_append_right _ h)) (by decide +kernel))
set_option maxRecDepth 20000 in
theorem gX3_pump_X3_requireIndex : GoodIn wsX3_pump (va_wsS RX3 117 yX3_requireIndex wsX3_requireIndex) := goodIn_app (goodIn_of _ (by decide +kernel)) ggX3_pump_X3_requireIndex
set_option maxRecDepth 20000 in
theorem ggX3_pump_X1_fact : GoodIn wsX3_pump wsX1_fact := goodIn_r _ [23, 24, 25, 26, 27, 28, 29, 30, 31, 32, 33, 34, 43, 44, 45, 46, 47, 48, 49, 50, 51, 52, 53, 54, 55, 56] (by decide +kernel) (by decide +kernel)
set_option maxRecDepth 20000 in
theorem gX3_pump_X1_fact : GoodIn wsX3_pump (wsV RX3 123 RX1 yX1_fact wsX1_fact) := goodIn_app (goodIn_of _ (by decide +kernel)) ggX3_pump_X1_fact
theorem dX3_pump_0 : decode cX3_pump 0 = .ok (.aload_n 0, 1) := by decide +kernel
theorem dX3_pump_1 : decode cX3_pump 1 = .ok (.iload_n 1, 1) := by decide +kernel
theorem dX3_pump_2 : decode cX3_pump 2 = .ok (.invokevirtual 73, 3) := by decide +kernel
theorem dX3_pump_5 : decode cX3_pump 5 = .ok (.iload_n 2, 1) := by decide +kernel
theorem dX3_pump_6 : decode cX3_pump 6 = .ok (.bipush 10, 2) := by decide +kernel
theorem dX3_pump_8 : decode cX3_pump 8 = .ok (.invokestatic 117, 3) := by decide +kernel
theorem dX3_pump_11 : decode cX3_pump 11 = .ok (.aload_n 0, 1) := by decide +kernel
theorem dX3_pump_12 : decode cX3_pump 12 = .ok (.getfield 10, 3) := by decide +kernel
theorem dX3_pump_15 : decode cX3_pump 15 = .ok (.getfield 57, 3) := by decide +kernel
theorem dX3_pump_18 : decode cX3_pump 18 = .ok (.iload_n 1, 1) := by decide +kernel
theorem dX3_pump_19 : decode cX3_pump 19 = .ok (.aaload, 1) := by decide +kernel
theorem dX3_pump_20 : decode cX3_pump 20 = .ok (.iload_n 2, 1) := by decide +kernel
theorem dX3_pump_21 : decode cX3_pump 21 = .ok (.invokevirtual 123, 3) := by decide +kernel
theorem dX3_pump_24 : decode cX3_pump 24 = .ok (.ireturn, 1) := by decide +kernel
set_option maxRecDepth 20000 in
theorem ggX3_pass_X3_requireArgument : GoodIn wsX3_pass wsX3_requireArgument := goodIn_ca (goodIn_r _ [5, 6, 7] (by decide +kernel) (by decide +kernel)) (goodIn_sub (fun _ h => List.mem_cons_of_mem _ (List.mem_append_right _ h)) (by decide +kernel))
set_option maxRecDepth 20000 in
theorem gX3_pass_X3_requireArgument : GoodIn wsX3_pass (va_wsS RX3 19 yX3_requireArgument wsX3_requireArgument) := goodIn_app (goodIn_of _ (by decide +kernel)) ggX3_pass_X3_requireArgument
set_option maxRecDepth 20000 in
theorem ggX3_pass_X2_runDays : GoodIn wsX3_pass wsX2_runDays := goodIn_r _ [12, 13, 14, 15, 11, 16, 17, 18, 19, 20, 21, 22, 23, 24, 25, 26, 27, 28, 29, 30, 31, 32, 33, 34, 35, 36, 37, 38, 39, 40, 41, 42, 43, 44, 45, 46, 47, 48, 49, 50, 51, 52, 53, 54, 55, 56, 57, 58, 59, 60, 61, 62, 63, 64, 65, 66, 67, 68, 69, 70, 71, 72, 73, 74, 75, 76, 77, 78, 79, 80, 81, 82, 83, 84, 85, 86, 87, 88, 89, 90, 91, 92, 93, 94, 95, 96, 97, 98, 99, 100, 101, 102, 103, 104, 105, 106, 107, 108, 109, 110, 111, 112, 113, 114, 115, 116, 117, 118, 119, 120, 121, 122, 123, 124, 125, 126, 127, 128, 129, 130, 131, 132, 133, 134, 135, 136, 137, 138, 139, 140, 141, 142, 143, 144, 145, 146, 147, 148, 149, 150, 151, 152, 153, 154, 155, 156, 157, 158, 159, 160, 161, 162, 165, 166, 167, 168, 169, 170, 171, 172, 173, 174, 175, 176, 177, 178, 179, 180, 181, 182, 183, 184, 185, 186, 187, 188, 189, 190, 191, 192, 193, 194, 195, 196] (by decide +kernel) (by decide +kernel)
set_option maxRecDepth 20000 in
theorem gX3_pass_X2_runDays : GoodIn wsX3_pass (wsV RX3 126 RX2 yX2_runDays wsX2_runDays) := goodIn_app (goodIn_of _ (by decide +kernel)) ggX3_pass_X2_runDays
theorem dX3_pass_0 : decode cX3_pass 0 = .ok (.iload_n 1, 1) := by decide +kernel
theorem dX3_pass_1 : decode cX3_pass 1 = .ok (.iconst 1, 1) := by decide +kernel
theorem dX3_pass_2 : decode cX3_pass 2 = .ok (.bipush 100, 2) := by decide +kernel
theorem dX3_pass_4 : decode cX3_pass 4 = .ok (.invokestatic 19, 3) := by decide +kernel
theorem dX3_pass_7 : decode cX3_pass 7 = .ok (.aload_n 0, 1) := by decide +kernel
theorem dX3_pass_8 : decode cX3_pass 8 = .ok (.getfield 10, 3) := by decide +kernel
theorem dX3_pass_11 : decode cX3_pass 11 = .ok (.iload_n 1, 1) := by decide +kernel
theorem dX3_pass_12 : decode cX3_pass 12 = .ok (.invokevirtual 126, 3) := by decide +kernel
theorem dX3_pass_15 : decode cX3_pass 15 = .ok (.ireturn, 1) := by decide +kernel
set_option maxRecDepth 20000 in
theorem ggX3_count_X3_requireIndex : GoodIn wsX3_count wsX3_requireIndex := goodIn_ca (goodIn_r _ [5, 6, 7] (by decide +kernel) (by decide +kernel)) (goodIn_sub (fun _ h => List.mem_cons_of_mem _ (List.mem_append_right _ h)) (by decide +kernel))
set_option maxRecDepth 20000 in
theorem gX3_count_X3_requireIndex : GoodIn wsX3_count (va_wsS RX3 117 yX3_requireIndex wsX3_requireIndex) := goodIn_app (goodIn_of _ (by decide +kernel)) ggX3_count_X3_requireIndex
set_option maxRecDepth 20000 in
theorem ggX3_count_X2_total : GoodIn wsX3_count wsX2_total := goodIn_r _ [12, 13, 14, 15, 16, 17, 18, 19, 11, 20, 21, 22, 23, 24, 25, 26, 27, 28, 29, 30, 31, 32, 33, 34, 35, 36, 37, 38, 39, 40, 41, 42, 43, 44, 45, 46, 47, 48, 49, 50, 51, 52, 53, 54, 55, 56, 57, 60, 61, 62, 63, 64, 65, 66, 67, 68, 69, 70, 71, 72, 73, 74, 75, 76, 77, 78, 79, 80, 81, 82, 83, 84, 85, 86, 87, 88, 89, 90, 91] (by decide +kernel) (by decide +kernel)
set_option maxRecDepth 20000 in
theorem gX3_count_X2_total : GoodIn wsX3_count (wsV RX3 129 RX2 yX2_total wsX2_total) := goodIn_app (goodIn_of _ (by decide +kernel)) ggX3_count_X2_total
theorem dX3_count_0 : decode cX3_count 0 = .ok (.iload_n 1, 1) := by decide +kernel
theorem dX3_count_1 : decode cX3_count 1 = .ok (.bipush 9, 2) := by decide +kernel
theorem dX3_count_3 : decode cX3_count 3 = .ok (.invokestatic 117, 3) := by decide +kernel
theorem dX3_count_6 : decode cX3_count 6 = .ok (.aload_n 0, 1) := by decide +kernel
theorem dX3_count_7 : decode cX3_count 7 = .ok (.getfield 10, 3) := by decide +kernel
theorem dX3_count_10 : decode cX3_count 10 = .ok (.iload_n 1, 1) := by decide +kernel
theorem dX3_count_11 : decode cX3_count 11 = .ok (.invokevirtual 129, 3) := by decide +kernel
theorem dX3_count_14 : decode cX3_count 14 = .ok (.ireturn, 1) := by decide +kernel
set_option maxRecDepth 20000 in
theorem ggX3_foresee_X3_requireArgument : GoodIn wsX3_foresee wsX3_requireArgument := goodIn_ca (goodIn_r _ [7, 8, 9] (by decide +kernel) (by decide +kernel)) (goodIn_sub (fun _ h => List.mem_cons_of_mem _ (List.mem_append_left _ (List.mem_append_right _ h))) (by decide +kernel))
set_option maxRecDepth 20000 in
theorem gX3_foresee_X3_requireArgument : GoodIn wsX3_foresee (va_wsS RX3 19 yX3_requireArgument wsX3_requireArgument) := goodIn_app (goodIn_of _ (by decide +kernel)) ggX3_foresee_X3_requireArgument
set_option maxRecDepth 20000 in
theorem ggX3_foresee_X3_requireIndex : GoodIn wsX3_foresee wsX3_requireIndex := goodIn_ca (goodIn_r _ [12, 13, 14] (by decide +kernel) (by decide +kernel)) (goodIn_sub (fun _ h => List.mem_cons_of_mem _ (List.mem_append_right _ h)) (by decide +kernel))
set_option maxRecDepth 20000 in
theorem gX3_foresee_X3_requireIndex : GoodIn wsX3_foresee (va_wsS RX3 117 yX3_requireIndex wsX3_requireIndex) := goodIn_app (goodIn_of _ (by decide +kernel)) ggX3_foresee_X3_requireIndex
set_option maxRecDepth 20000 in
theorem ggX3_foresee_X2_copyFrom : GoodIn wsX3_foresee wsX2_copyFrom := goodIn_r _ [19, 20, 21, 22, 23, 24, 25, 26, 27, 28, 29, 30, 31, 32, 33, 34, 35, 36, 37, 38, 39, 40, 41, 42, 43, 44, 45, 46, 47, 48, 49, 50, 51, 52, 53, 54, 55, 56, 57, 58, 59, 60, 61, 62, 212, 213, 214, 215, 216, 217, 218, 219, 220, 221, 222, 223, 224, 225, 226, 227, 228, 229, 230, 231, 232, 233, 234, 235, 236, 237, 238, 239, 240, 241, 242, 243] (by decide +kernel) (by decide +kernel)
set_option maxRecDepth 20000 in
theorem gX3_foresee_X2_copyFrom : GoodIn wsX3_foresee (wsV RX3 132 RX2 yX2_copyFrom wsX2_copyFrom) := goodIn_app (goodIn_of _ (by decide +kernel)) ggX3_foresee_X2_copyFrom
set_option maxRecDepth 20000 in
theorem ggX3_foresee_X2_runDays : GoodIn wsX3_foresee wsX2_runDays := goodIn_r _ [66, 67, 68, 69, 18, 70, 21, 25, 71, 72, 73, 74, 75, 20, 24, 76, 77, 78, 79, 80, 29, 81, 36, 82, 83, 84, 85, 86, 87, 88, 89, 90, 91, 92, 93, 94, 95, 96, 97, 98, 99, 45, 100, 58, 53, 101, 102, 103, 104, 105, 106, 107, 108, 109, 110, 111, 112, 113, 114, 115, 116, 117, 33, 40, 118, 119, 120, 121, 122, 123, 124, 125, 126, 22, 127, 128, 129, 130, 131, 132, 133, 134, 135, 136, 59, 137, 138, 139, 140, 141, 142, 143, 144, 145, 146, 147, 148, 149, 150, 31, 151, 152, 153, 154, 155, 156, 157, 158, 159, 160, 161, 162, 163, 164, 165, 50, 166, 51, 167, 168, 169, 170, 171, 172, 173, 174, 175, 176, 177, 178, 179, 49, 62, 180, 181, 182, 183, 184, 185, 186, 187, 188, 23, 189, 190, 191, 192, 193, 194, 195, 196, 197, 212, 213, 214, 215, 216, 217, 230, 231, 232, 233, 234, 235, 236, 237, 238, 239, 240, 241, 242, 243, 218, 219, 220, 221, 222, 223, 224, 225, 226, 227, 228, 229] (by decide +kernel) (by decide +kernel)
set_option maxRecDepth 20000 in
theorem gX3_foresee_X2_runDays : GoodIn wsX3_foresee (wsV RX3 126 RX2 yX2_runDays wsX2_runDays) := goodIn_app (goodIn_of _ (by decide +kernel)) ggX3_foresee_X2_runDays
set_option maxRecDepth 20000 in
theorem ggX3_foresee_X2_allThirst : GoodIn wsX3_foresee wsX2_allThirst := goodIn_r _ [201, 20, 24, 146, 212, 213, 214, 215, 216, 217, 218, 219, 220, 221, 222, 223, 224, 225, 226, 227, 228, 229] (by decide +kernel) (by decide +kernel)
set_option maxRecDepth 20000 in
theorem gX3_foresee_X2_allThirst : GoodIn wsX3_foresee (wsV RX3 136 RX2 yX2_allThirst wsX2_allThirst) := goodIn_app (goodIn_of _ (by decide +kernel)) ggX3_foresee_X2_allThirst
set_option maxRecDepth 20000 in
theorem ggX3_foresee_X2_allMarks : GoodIn wsX3_foresee wsX2_allMarks := goodIn_r _ [205, 20, 24, 127, 212, 213, 214, 215, 216, 217, 218, 219, 220, 221, 222, 223, 224, 225, 226, 227, 228, 229] (by decide +kernel) (by decide +kernel)
set_option maxRecDepth 20000 in
theorem gX3_foresee_X2_allMarks : GoodIn wsX3_foresee (wsV RX3 143 RX2 yX2_allMarks wsX2_allMarks) := goodIn_app (goodIn_of _ (by decide +kernel)) ggX3_foresee_X2_allMarks
set_option maxRecDepth 20000 in
theorem ggX3_foresee_X2_brokenHandles : GoodIn wsX3_foresee wsX2_brokenHandles := goodIn_r _ [209, 21, 25, 159, 212, 213, 214, 215, 216, 217, 230, 231, 232, 233, 234, 235, 236, 237, 238, 239, 240, 241, 242, 243] (by decide +kernel) (by decide +kernel)
set_option maxRecDepth 20000 in
theorem gX3_foresee_X2_brokenHandles : GoodIn wsX3_foresee (wsV RX3 146 RX2 yX2_brokenHandles wsX2_brokenHandles) := goodIn_app (goodIn_of _ (by decide +kernel)) ggX3_foresee_X2_brokenHandles
theorem dX3_foresee_0 : decode cX3_foresee 0 = .ok (.iload_n 1, 1) := by decide +kernel
theorem dX3_foresee_1 : decode cX3_foresee 1 = .ok (.iconst 1, 1) := by decide +kernel
theorem dX3_foresee_2 : decode cX3_foresee 2 = .ok (.bipush 100, 2) := by decide +kernel
theorem dX3_foresee_4 : decode cX3_foresee 4 = .ok (.invokestatic 19, 3) := by decide +kernel
theorem dX3_foresee_7 : decode cX3_foresee 7 = .ok (.iload_n 2, 1) := by decide +kernel
theorem dX3_foresee_8 : decode cX3_foresee 8 = .ok (.iconst 3, 1) := by decide +kernel
theorem dX3_foresee_9 : decode cX3_foresee 9 = .ok (.invokestatic 117, 3) := by decide +kernel
theorem dX3_foresee_12 : decode cX3_foresee 12 = .ok (.aload_n 0, 1) := by decide +kernel
theorem dX3_foresee_13 : decode cX3_foresee 13 = .ok (.getfield 16, 3) := by decide +kernel
theorem dX3_foresee_16 : decode cX3_foresee 16 = .ok (.aload_n 0, 1) := by decide +kernel
theorem dX3_foresee_17 : decode cX3_foresee 17 = .ok (.getfield 10, 3) := by decide +kernel
theorem dX3_foresee_20 : decode cX3_foresee 20 = .ok (.invokevirtual 132, 3) := by decide +kernel
theorem dX3_foresee_23 : decode cX3_foresee 23 = .ok (.aload_n 0, 1) := by decide +kernel
theorem dX3_foresee_24 : decode cX3_foresee 24 = .ok (.getfield 16, 3) := by decide +kernel
theorem dX3_foresee_27 : decode cX3_foresee 27 = .ok (.iload_n 1, 1) := by decide +kernel
theorem dX3_foresee_28 : decode cX3_foresee 28 = .ok (.invokevirtual 126, 3) := by decide +kernel
theorem dX3_foresee_31 : decode cX3_foresee 31 = .ok (.pop, 1) := by decide +kernel
theorem dX3_foresee_32 : decode cX3_foresee 32 = .ok (.iload_n 2, 1) := by decide +kernel
theorem dX3_foresee_33 : decode cX3_foresee 33 = .ok (.tableswitch 59 0 2 #[27, 43, 51], 27) := by decide +kernel
theorem dX3_foresee_60 : decode cX3_foresee 60 = .ok (.aload_n 0, 1) := by decide +kernel
theorem dX3_foresee_61 : decode cX3_foresee 61 = .ok (.getfield 16, 3) := by decide +kernel
theorem dX3_foresee_64 : decode cX3_foresee 64 = .ok (.invokevirtual 136, 3) := by decide +kernel
theorem dX3_foresee_67 : decode cX3_foresee 67 = .ok (.aload_n 0, 1) := by decide +kernel
theorem dX3_foresee_68 : decode cX3_foresee 68 = .ok (.getfield 10, 3) := by decide +kernel
theorem dX3_foresee_71 : decode cX3_foresee 71 = .ok (.invokevirtual 136, 3) := by decide +kernel
theorem dX3_foresee_74 : decode cX3_foresee 74 = .ok (.isub, 1) := by decide +kernel
theorem dX3_foresee_75 : decode cX3_foresee 75 = .ok (.ireturn, 1) := by decide +kernel
theorem dX3_foresee_76 : decode cX3_foresee 76 = .ok (.aload_n 0, 1) := by decide +kernel
theorem dX3_foresee_77 : decode cX3_foresee 77 = .ok (.getfield 16, 3) := by decide +kernel
theorem dX3_foresee_80 : decode cX3_foresee 80 = .ok (.getfield 140, 3) := by decide +kernel
theorem dX3_foresee_83 : decode cX3_foresee 83 = .ok (.ireturn, 1) := by decide +kernel
theorem dX3_foresee_84 : decode cX3_foresee 84 = .ok (.aload_n 0, 1) := by decide +kernel
theorem dX3_foresee_85 : decode cX3_foresee 85 = .ok (.getfield 16, 3) := by decide +kernel
theorem dX3_foresee_88 : decode cX3_foresee 88 = .ok (.invokevirtual 143, 3) := by decide +kernel
theorem dX3_foresee_91 : decode cX3_foresee 91 = .ok (.ireturn, 1) := by decide +kernel
theorem dX3_foresee_92 : decode cX3_foresee 92 = .ok (.aload_n 0, 1) := by decide +kernel
theorem dX3_foresee_93 : decode cX3_foresee 93 = .ok (.getfield 16, 3) := by decide +kernel
theorem dX3_foresee_96 : decode cX3_foresee 96 = .ok (.invokevirtual 146, 3) := by decide +kernel
theorem dX3_foresee_99 : decode cX3_foresee 99 = .ok (.ireturn, 1) := by decide +kernel
set_option maxRecDepth 20000 in
theorem ggX3_advise_X3_requireHouse : GoodIn wsX3_advise wsX3_requireHouse := goodIn_ca (goodIn_r _ [10, 11, 12, 1, 13, 14, 15, 16, 17, 18, 206, 207, 208, 209, 210, 211, 212, 213] (by decide +kernel) (by decide +kernel)) (goodIn_sub (fun _ h => List.mem_cons_of_mem _ (List.mem_append_left _ (List.mem_append_right _ h))) (by decide +kernel))
set_option maxRecDepth 20000 in
theorem gX3_advise_X3_requireHouse : GoodIn wsX3_advise (wsV RX3 69 RX3 yX3_requireHouse wsX3_requireHouse) := goodIn_app (goodIn_of _ (by decide +kernel)) ggX3_advise_X3_requireHouse
set_option maxRecDepth 20000 in
theorem ggX3_advise_X3_requireArgument : GoodIn wsX3_advise wsX3_requireArgument := goodIn_ca (goodIn_r _ [21, 22, 23] (by decide +kernel) (by decide +kernel)) (goodIn_sub (fun _ h => List.mem_cons_of_mem _ (List.mem_append_right _ h)) (by decide +kernel))
set_option maxRecDepth 20000 in
theorem gX3_advise_X3_requireArgument : GoodIn wsX3_advise (va_wsS RX3 19 yX3_requireArgument wsX3_requireArgument) := goodIn_app (goodIn_of _ (by decide +kernel)) ggX3_advise_X3_requireArgument
set_option maxRecDepth 20000 in
theorem ggX3_advise_X2_copyFrom : GoodIn wsX3_advise wsX2_copyFrom := goodIn_r _ [27, 18, 28, 29, 30, 31, 32, 33, 34, 35, 36, 37, 38, 39, 40, 41, 42, 43, 44, 45, 46, 47, 48, 49, 50, 51, 52, 53, 54, 55, 56, 57, 58, 59, 60, 61, 62, 63, 64, 65, 66, 67, 68, 69, 208, 209, 210, 211, 212, 213, 214, 215, 216, 217, 218, 219, 220, 221, 222, 223, 224, 225, 226, 227, 228, 229, 230, 231, 232, 233, 234, 235, 236, 237, 238, 239] (by decide +kernel) (by decide +kernel)
set_option maxRecDepth 20000 in
theorem gX3_advise_X2_copyFrom : GoodIn wsX3_advise (wsV RX3 132 RX2 yX2_copyFrom wsX2_copyFrom) := goodIn_app (goodIn_of _ (by decide +kernel)) ggX3_advise_X2_copyFrom
set_option maxRecDepth 20000 in
theorem ggX3_advise_X2_runDays : GoodIn wsX3_advise wsX2_runDays := goodIn_r _ [73, 74, 75, 76, 16, 77, 28, 32, 78, 79, 80, 81, 82, 18, 31, 83, 84, 85, 86, 87, 36, 88, 43, 89, 90, 91, 92, 93, 94, 95, 96, 97, 98, 99, 100, 101, 102, 103, 104, 105, 106, 52, 107, 65, 60, 108, 109, 110, 111, 112, 14, 15, 17, 113, 114, 115, 116, 117, 118, 119, 120, 121, 40, 47, 122, 123, 124, 125, 126, 127, 128, 129, 130, 29, 131, 132, 133, 134, 135, 136, 137, 138, 139, 140, 66, 141, 142, 143, 144, 145, 146, 147, 148, 149, 150, 151, 152, 153, 154, 38, 155, 156, 157, 158, 159, 160, 161, 162, 163, 164, 165, 166, 167, 168, 169, 57, 170, 58, 171, 172, 173, 174, 175, 176, 177, 178, 179, 180, 181, 182, 183, 56, 69, 184, 185, 186, 187, 188, 189, 190, 191, 192, 30, 193, 194, 195, 196, 197, 198, 199, 200, 201, 208, 209, 210, 211, 212, 213, 226, 227, 228, 229, 230, 231, 232, 233, 234, 235, 236, 237, 238, 239, 214, 215, 216, 217, 218, 219, 220, 221, 222, 223, 224, 225] (by decide +kernel) (by decide +kernel)
set_option maxRecDepth 20000 in
theorem gX3_advise_X2_runDays : GoodIn wsX3_advise (wsV RX3 126 RX2 yX2_runDays wsX2_runDays) := goodIn_app (goodIn_of _ (by decide +kernel)) ggX3_advise_X2_runDays
set_option maxRecDepth 20000 in
theorem ggX3_advise_X2_allThirst : GoodIn wsX3_advise wsX2_allThirst := goodIn_r _ [205, 18, 31, 150, 208, 209, 210, 211, 212, 213, 214, 215, 216, 217, 218, 219, 220, 221, 222, 223, 224, 225] (by decide +kernel) (by decide +kernel)
set_option maxRecDepth 20000 in
theorem gX3_advise_X2_allThirst : GoodIn wsX3_advise (wsV RX3 136 RX2 yX2_allThirst wsX2_allThirst) := goodIn_app (goodIn_of _ (by decide +kernel)) ggX3_advise_X2_allThirst
theorem dX3_advise_0 : decode cX3_advise 0 = .ok (.aload_n 0, 1) := by decide +kernel
theorem dX3_advise_1 : decode cX3_advise 1 = .ok (.iload_n 1, 1) := by decide +kernel
theorem dX3_advise_2 : decode cX3_advise 2 = .ok (.invokevirtual 69, 3) := by decide +kernel
theorem dX3_advise_5 : decode cX3_advise 5 = .ok (.iload_n 2, 1) := by decide +kernel
theorem dX3_advise_6 : decode cX3_advise 6 = .ok (.iconst 1, 1) := by decide +kernel
theorem dX3_advise_7 : decode cX3_advise 7 = .ok (.bipush 50, 2) := by decide +kernel
theorem dX3_advise_9 : decode cX3_advise 9 = .ok (.invokestatic 19, 3) := by decide +kernel
theorem dX3_advise_12 : decode cX3_advise 12 = .ok (.iconst (-1), 1) := by decide +kernel
theorem dX3_advise_13 : decode cX3_advise 13 = .ok (.istore_n 3, 1) := by decide +kernel
theorem dX3_advise_14 : decode cX3_advise 14 = .ok (.iconst 0, 1) := by decide +kernel
theorem dX3_advise_15 : decode cX3_advise 15 = .ok (.istore 4, 2) := by decide +kernel
theorem dX3_advise_17 : decode cX3_advise 17 = .ok (.iconst 0, 1) := by decide +kernel
theorem dX3_advise_18 : decode cX3_advise 18 = .ok (.istore 5, 2) := by decide +kernel
theorem dX3_advise_20 : decode cX3_advise 20 = .ok (.iload 5, 2) := by decide +kernel
theorem dX3_advise_22 : decode cX3_advise 22 = .ok (.aload_n 0, 1) := by decide +kernel
theorem dX3_advise_23 : decode cX3_advise 23 = .ok (.getfield 10, 3) := by decide +kernel
theorem dX3_advise_26 : decode cX3_advise 26 = .ok (.getfield 52, 3) := by decide +kernel
theorem dX3_advise_29 : decode cX3_advise 29 = .ok (.if_icmp .ge 71, 3) := by decide +kernel
theorem dX3_advise_32 : decode cX3_advise 32 = .ok (.aload_n 0, 1) := by decide +kernel
theorem dX3_advise_33 : decode cX3_advise 33 = .ok (.getfield 16, 3) := by decide +kernel
theorem dX3_advise_36 : decode cX3_advise 36 = .ok (.aload_n 0, 1) := by decide +kernel
theorem dX3_advise_37 : decode cX3_advise 37 = .ok (.getfield 10, 3) := by decide +kernel
theorem dX3_advise_40 : decode cX3_advise 40 = .ok (.invokevirtual 132, 3) := by decide +kernel
theorem dX3_advise_43 : decode cX3_advise 43 = .ok (.aload_n 0, 1) := by decide +kernel
theorem dX3_advise_44 : decode cX3_advise 44 = .ok (.getfield 16, 3) := by decide +kernel
theorem dX3_advise_47 : decode cX3_advise 47 = .ok (.getfield 34, 3) := by decide +kernel
theorem dX3_advise_50 : decode cX3_advise 50 = .ok (.iload_n 1, 1) := by decide +kernel
theorem dX3_advise_51 : decode cX3_advise 51 = .ok (.aaload, 1) := by decide +kernel
theorem dX3_advise_52 : decode cX3_advise 52 = .ok (.iload 5, 2) := by decide +kernel
theorem dX3_advise_54 : decode cX3_advise 54 = .ok (.putfield 76, 3) := by decide +kernel
theorem dX3_advise_57 : decode cX3_advise 57 = .ok (.aload_n 0, 1) := by decide +kernel
theorem dX3_advise_58 : decode cX3_advise 58 = .ok (.getfield 16, 3) := by decide +kernel
theorem dX3_advise_61 : decode cX3_advise 61 = .ok (.iload_n 2, 1) := by decide +kernel
theorem dX3_advise_62 : decode cX3_advise 62 = .ok (.invokevirtual 126, 3) := by decide +kernel
theorem dX3_advise_65 : decode cX3_advise 65 = .ok (.pop, 1) := by decide +kernel
theorem dX3_advise_66 : decode cX3_advise 66 = .ok (.aload_n 0, 1) := by decide +kernel
theorem dX3_advise_67 : decode cX3_advise 67 = .ok (.getfield 16, 3) := by decide +kernel
theorem dX3_advise_70 : decode cX3_advise 70 = .ok (.invokevirtual 136, 3) := by decide +kernel
theorem dX3_advise_73 : decode cX3_advise 73 = .ok (.istore 6, 2) := by decide +kernel
theorem dX3_advise_75 : decode cX3_advise 75 = .ok (.iload_n 3, 1) := by decide +kernel
theorem dX3_advise_76 : decode cX3_advise 76 = .ok (.iconst (-1), 1) := by decide +kernel
theorem dX3_advise_77 : decode cX3_advise 77 = .ok (.if_icmp .eq 10, 3) := by decide +kernel
theorem dX3_advise_80 : decode cX3_advise 80 = .ok (.iload 6, 2) := by decide +kernel
theorem dX3_advise_82 : decode cX3_advise 82 = .ok (.iload 4, 2) := by decide +kernel
theorem dX3_advise_84 : decode cX3_advise 84 = .ok (.if_icmp .ge 10, 3) := by decide +kernel
theorem dX3_advise_87 : decode cX3_advise 87 = .ok (.iload 5, 2) := by decide +kernel
theorem dX3_advise_89 : decode cX3_advise 89 = .ok (.istore_n 3, 1) := by decide +kernel
theorem dX3_advise_90 : decode cX3_advise 90 = .ok (.iload 6, 2) := by decide +kernel
theorem dX3_advise_92 : decode cX3_advise 92 = .ok (.istore 4, 2) := by decide +kernel
theorem dX3_advise_94 : decode cX3_advise 94 = .ok (.iinc 5 1, 3) := by decide +kernel
theorem dX3_advise_97 : decode cX3_advise 97 = .ok (.goto (-77), 3) := by decide +kernel
theorem dX3_advise_100 : decode cX3_advise 100 = .ok (.iload_n 3, 1) := by decide +kernel
theorem dX3_advise_101 : decode cX3_advise 101 = .ok (.ireturn, 1) := by decide +kernel
set_option maxRecDepth 20000 in
theorem ggX3_unfair_X3_requirePump : GoodIn wsX3_unfair wsX3_requirePump := goodIn_ca (goodIn_r _ [19, 20, 21, 1, 22, 23, 24, 25, 26, 27, 35, 36, 37, 38, 39, 40, 41, 42] (by decide +kernel) (by decide +kernel)) (goodIn_sub (fun _ h => List.mem_cons_of_mem _ (List.mem_append_right _ h)) (by decide +kernel))
set_option maxRecDepth 20000 in
theorem gX3_unfair_X3_requirePump : GoodIn wsX3_unfair (wsV RX3 73 RX3 yX3_requirePump wsX3_requirePump) := goodIn_app (goodIn_of _ (by decide +kernel)) ggX3_unfair_X3_requirePump
set_option maxRecDepth 20000 in
theorem ggX3_unfair_X1_placeOf : GoodIn wsX3_unfair wsX1_placeOf := goodIn_r _ [32, 33, 34, 43, 44, 45, 46, 47, 48, 49, 50, 51, 52, 53, 54, 55, 56] (by decide +kernel) (by decide +kernel)
set_option maxRecDepth 20000 in
theorem gX3_unfair_X1_placeOf : GoodIn wsX3_unfair (wsV RX3 86 RX1 yX1_placeOf wsX1_placeOf) := goodIn_app (goodIn_of _ (by decide +kernel)) ggX3_unfair_X1_placeOf
theorem dX3_unfair_0 : decode cX3_unfair 0 = .ok (.aload_n 0, 1) := by decide +kernel
theorem dX3_unfair_1 : decode cX3_unfair 1 = .ok (.iload_n 1, 1) := by decide +kernel
theorem dX3_unfair_2 : decode cX3_unfair 2 = .ok (.invokevirtual 73, 3) := by decide +kernel
theorem dX3_unfair_5 : decode cX3_unfair 5 = .ok (.aload_n 0, 1) := by decide +kernel
theorem dX3_unfair_6 : decode cX3_unfair 6 = .ok (.getfield 10, 3) := by decide +kernel
theorem dX3_unfair_9 : decode cX3_unfair 9 = .ok (.getfield 57, 3) := by decide +kernel
theorem dX3_unfair_12 : decode cX3_unfair 12 = .ok (.iload_n 1, 1) := by decide +kernel
theorem dX3_unfair_13 : decode cX3_unfair 13 = .ok (.aaload, 1) := by decide +kernel
theorem dX3_unfair_14 : decode cX3_unfair 14 = .ok (.astore_n 2, 1) := by decide +kernel
theorem dX3_unfair_15 : decode cX3_unfair 15 = .ok (.aload_n 2, 1) := by decide +kernel
theorem dX3_unfair_16 : decode cX3_unfair 16 = .ok (.getfield 100, 3) := by decide +kernel
theorem dX3_unfair_19 : decode cX3_unfair 19 = .ok (.ifCond .ne 5, 3) := by decide +kernel
theorem dX3_unfair_22 : decode cX3_unfair 22 = .ok (.iconst 0, 1) := by decide +kernel
theorem dX3_unfair_23 : decode cX3_unfair 23 = .ok (.ireturn, 1) := by decide +kernel
theorem dX3_unfair_24 : decode cX3_unfair 24 = .ok (.iconst 0, 1) := by decide +kernel
theorem dX3_unfair_25 : decode cX3_unfair 25 = .ok (.istore_n 3, 1) := by decide +kernel
theorem dX3_unfair_26 : decode cX3_unfair 26 = .ok (.ldc 151, 2) := by decide +kernel
theorem dX3_unfair_28 : decode cX3_unfair 28 = .ok (.istore 4, 2) := by decide +kernel
theorem dX3_unfair_30 : decode cX3_unfair 30 = .ok (.iconst 0, 1) := by decide +kernel
theorem dX3_unfair_31 : decode cX3_unfair 31 = .ok (.istore 5, 2) := by decide +kernel
theorem dX3_unfair_33 : decode cX3_unfair 33 = .ok (.iload 5, 2) := by decide +kernel
theorem dX3_unfair_35 : decode cX3_unfair 35 = .ok (.aload_n 0, 1) := by decide +kernel
theorem dX3_unfair_36 : decode cX3_unfair 36 = .ok (.getfield 10, 3) := by decide +kernel
theorem dX3_unfair_39 : decode cX3_unfair 39 = .ok (.getfield 23, 3) := by decide +kernel
theorem dX3_unfair_42 : decode cX3_unfair 42 = .ok (.if_icmp .ge 57, 3) := by decide +kernel
theorem dX3_unfair_45 : decode cX3_unfair 45 = .ok (.aload_n 2, 1) := by decide +kernel
theorem dX3_unfair_46 : decode cX3_unfair 46 = .ok (.iload 5, 2) := by decide +kernel
theorem dX3_unfair_48 : decode cX3_unfair 48 = .ok (.invokevirtual 86, 3) := by decide +kernel
theorem dX3_unfair_51 : decode cX3_unfair 51 = .ok (.iconst (-1), 1) := by decide +kernel
theorem dX3_unfair_52 : decode cX3_unfair 52 = .ok (.if_icmp .eq 41, 3) := by decide +kernel
theorem dX3_unfair_55 : decode cX3_unfair 55 = .ok (.iload_n 3, 1) := by decide +kernel
theorem dX3_unfair_56 : decode cX3_unfair 56 = .ok (.aload_n 0, 1) := by decide +kernel
theorem dX3_unfair_57 : decode cX3_unfair 57 = .ok (.getfield 10, 3) := by decide +kernel
theorem dX3_unfair_60 : decode cX3_unfair 60 = .ok (.getfield 34, 3) := by decide +kernel
theorem dX3_unfair_63 : decode cX3_unfair 63 = .ok (.iload 5, 2) := by decide +kernel
theorem dX3_unfair_65 : decode cX3_unfair 65 = .ok (.aaload, 1) := by decide +kernel
theorem dX3_unfair_66 : decode cX3_unfair 66 = .ok (.getfield 152, 3) := by decide +kernel
theorem dX3_unfair_69 : decode cX3_unfair 69 = .ok (.invokestatic 155, 3) := by decide +kernel
theorem dX3_unfair_72 : decode cX3_unfair 72 = .ok (.istore_n 3, 1) := by decide +kernel
theorem dX3_unfair_73 : decode cX3_unfair 73 = .ok (.iload 4, 2) := by decide +kernel
theorem dX3_unfair_75 : decode cX3_unfair 75 = .ok (.aload_n 0, 1) := by decide +kernel
theorem dX3_unfair_76 : decode cX3_unfair 76 = .ok (.getfield 10, 3) := by decide +kernel
theorem dX3_unfair_79 : decode cX3_unfair 79 = .ok (.getfield 34, 3) := by decide +kernel
theorem dX3_unfair_82 : decode cX3_unfair 82 = .ok (.iload 5, 2) := by decide +kernel
theorem dX3_unfair_84 : decode cX3_unfair 84 = .ok (.aaload, 1) := by decide +kernel
theorem dX3_unfair_85 : decode cX3_unfair 85 = .ok (.getfield 152, 3) := by decide +kernel
theorem dX3_unfair_88 : decode cX3_unfair 88 = .ok (.invokestatic 161, 3) := by decide +kernel
theorem dX3_unfair_91 : decode cX3_unfair 91 = .ok (.istore 4, 2) := by decide +kernel
theorem dX3_unfair_93 : decode cX3_unfair 93 = .ok (.iinc 5 1, 3) := by decide +kernel
theorem dX3_unfair_96 : decode cX3_unfair 96 = .ok (.goto (-63), 3) := by decide +kernel
theorem dX3_unfair_99 : decode cX3_unfair 99 = .ok (.iload_n 3, 1) := by decide +kernel
theorem dX3_unfair_100 : decode cX3_unfair 100 = .ok (.iload 4, 2) := by decide +kernel
theorem dX3_unfair_102 : decode cX3_unfair 102 = .ok (.isub, 1) := by decide +kernel
theorem dX3_unfair_103 : decode cX3_unfair 103 = .ok (.ireturn, 1) := by decide +kernel
set_option maxRecDepth 20000 in
theorem ggX3_daily_X2_allDrawn : GoodIn wsX3_daily wsX2_allDrawn := goodIn_r _ [7, 8, 9, 10, 13, 14, 15, 16, 17, 18, 19, 20, 21, 22, 23, 24, 25, 26, 27, 28, 29, 30, 31, 32] (by decide +kernel) (by decide +kernel)
set_option maxRecDepth 20000 in
theorem gX3_daily_X2_allDrawn : GoodIn wsX3_daily (wsV RX3 167 RX2 yX2_allDrawn wsX2_allDrawn) := goodIn_app (goodIn_of _ (by decide +kernel)) ggX3_daily_X2_allDrawn
theorem dX3_daily_0 : decode cX3_daily 0 = .ok (.aload_n 0, 1) := by decide +kernel
theorem dX3_daily_1 : decode cX3_daily 1 = .ok (.getfield 10, 3) := by decide +kernel
theorem dX3_daily_4 : decode cX3_daily 4 = .ok (.getfield 164, 3) := by decide +kernel
theorem dX3_daily_7 : decode cX3_daily 7 = .ok (.ifCond .ne 5, 3) := by decide +kernel
theorem dX3_daily_10 : decode cX3_daily 10 = .ok (.dconst 0, 1) := by decide +kernel
theorem dX3_daily_11 : decode cX3_daily 11 = .ok (.dreturn, 1) := by decide +kernel
theorem dX3_daily_12 : decode cX3_daily 12 = .ok (.aload_n 0, 1) := by decide +kernel
theorem dX3_daily_13 : decode cX3_daily 13 = .ok (.getfield 10, 3) := by decide +kernel
theorem dX3_daily_16 : decode cX3_daily 16 = .ok (.invokevirtual 167, 3) := by decide +kernel
theorem dX3_daily_19 : decode cX3_daily 19 = .ok (.i2d, 1) := by decide +kernel
theorem dX3_daily_20 : decode cX3_daily 20 = .ok (.aload_n 0, 1) := by decide +kernel
theorem dX3_daily_21 : decode cX3_daily 21 = .ok (.getfield 10, 3) := by decide +kernel
theorem dX3_daily_24 : decode cX3_daily 24 = .ok (.getfield 164, 3) := by decide +kernel
theorem dX3_daily_27 : decode cX3_daily 27 = .ok (.i2d, 1) := by decide +kernel
theorem dX3_daily_28 : decode cX3_daily 28 = .ok (.ddiv, 1) := by decide +kernel
theorem dX3_daily_29 : decode cX3_daily 29 = .ok (.dreturn, 1) := by decide +kernel
set_option maxRecDepth 20000 in
theorem ggX3_digest_X2_total : GoodIn wsX3_digest wsX2_total := goodIn_r _ [12, 13, 14, 15, 16, 17, 18, 19, 11, 20, 21, 22, 23, 24, 25, 26, 27, 28, 29, 30, 31, 32, 33, 34, 35, 36, 37, 38, 39, 40, 41, 42, 43, 44, 45, 46, 47, 48, 49, 50, 51, 52, 53, 54, 55, 56, 57, 99, 100, 101, 102, 103, 104, 105, 106, 107, 108, 109, 110, 111, 112, 113, 114, 115, 116, 117, 118, 119, 120, 121, 122, 123, 124, 125, 126, 127, 128, 129, 130] (by decide +kernel) (by decide +kernel)
set_option maxRecDepth 20000 in
theorem gX3_digest_X2_total : GoodIn wsX3_digest (wsV RX3 129 RX2 yX2_total wsX2_total) := goodIn_app (goodIn_of _ (by decide +kernel)) ggX3_digest_X2_total
set_option maxRecDepth 20000 in
theorem ggX3_digest_X2_houseFact : GoodIn wsX3_digest wsX2_houseFact := goodIn_r _ [61, 62, 63, 22, 37, 64, 65, 66, 42, 67, 68, 69, 70, 71, 72, 11, 73, 15, 56, 74, 105, 106, 107, 108, 109, 110, 111, 112, 113, 114, 115, 116, 99, 100, 101, 102, 103, 104, 117, 118, 119, 120, 121, 122, 123, 124, 125, 126, 127, 128, 129, 130] (by decide +kernel) (by decide +kernel)
set_option maxRecDepth 20000 in
theorem gX3_digest_X2_houseFact : GoodIn wsX3_digest (wsV RX3 120 RX2 yX2_houseFact wsX2_houseFact) := goodIn_app (goodIn_of _ (by decide +kernel)) ggX3_digest_X2_houseFact
set_option maxRecDepth 20000 in
theorem ggX3_digest_X1_mixInto : GoodIn wsX3_digest wsX1_mixInto := goodIn_r _ [79, 80, 81, 82, 83, 84, 85, 78, 86, 87, 88, 89, 90, 91, 92, 93, 94, 95, 96, 117, 118, 119, 120, 121, 122, 123, 124, 125, 126, 127, 128, 129, 130] (by decide +kernel) (by decide +kernel)
set_option maxRecDepth 20000 in
theorem gX3_digest_X1_mixInto : GoodIn wsX3_digest (wsV RX3 174 RX1 yX1_mixInto wsX1_mixInto) := goodIn_app (goodIn_of _ (by decide +kernel)) ggX3_digest_X1_mixInto
theorem dX3_digest_0 : decode cX3_digest 0 = .ok (.ldc2_w 170, 3) := by decide +kernel
theorem dX3_digest_3 : decode cX3_digest 3 = .ok (.lstore_n 1, 1) := by decide +kernel
theorem dX3_digest_4 : decode cX3_digest 4 = .ok (.iconst 0, 1) := by decide +kernel
theorem dX3_digest_5 : decode cX3_digest 5 = .ok (.istore_n 3, 1) := by decide +kernel
theorem dX3_digest_6 : decode cX3_digest 6 = .ok (.iload_n 3, 1) := by decide +kernel
theorem dX3_digest_7 : decode cX3_digest 7 = .ok (.bipush 9, 2) := by decide +kernel
theorem dX3_digest_9 : decode cX3_digest 9 = .ok (.if_icmp .gt 25, 3) := by decide +kernel
theorem dX3_digest_12 : decode cX3_digest 12 = .ok (.lload_n 1, 1) := by decide +kernel
theorem dX3_digest_13 : decode cX3_digest 13 = .ok (.ldc2_w 172, 3) := by decide +kernel
theorem dX3_digest_16 : decode cX3_digest 16 = .ok (.lmul, 1) := by decide +kernel
theorem dX3_digest_17 : decode cX3_digest 17 = .ok (.aload_n 0, 1) := by decide +kernel
theorem dX3_digest_18 : decode cX3_digest 18 = .ok (.getfield 10, 3) := by decide +kernel
theorem dX3_digest_21 : decode cX3_digest 21 = .ok (.iload_n 3, 1) := by decide +kernel
theorem dX3_digest_22 : decode cX3_digest 22 = .ok (.invokevirtual 129, 3) := by decide +kernel
theorem dX3_digest_25 : decode cX3_digest 25 = .ok (.i2l, 1) := by decide +kernel
theorem dX3_digest_26 : decode cX3_digest 26 = .ok (.ladd, 1) := by decide +kernel
theorem dX3_digest_27 : decode cX3_digest 27 = .ok (.lstore_n 1, 1) := by decide +kernel
theorem dX3_digest_28 : decode cX3_digest 28 = .ok (.iinc 3 1, 3) := by decide +kernel
theorem dX3_digest_31 : decode cX3_digest 31 = .ok (.goto (-25), 3) := by decide +kernel
theorem dX3_digest_34 : decode cX3_digest 34 = .ok (.iconst 0, 1) := by decide +kernel
theorem dX3_digest_35 : decode cX3_digest 35 = .ok (.istore_n 3, 1) := by decide +kernel
theorem dX3_digest_36 : decode cX3_digest 36 = .ok (.iload_n 3, 1) := by decide +kernel
theorem dX3_digest_37 : decode cX3_digest 37 = .ok (.aload_n 0, 1) := by decide +kernel
theorem dX3_digest_38 : decode cX3_digest 38 = .ok (.getfield 10, 3) := by decide +kernel
theorem dX3_digest_41 : decode cX3_digest 41 = .ok (.getfield 23, 3) := by decide +kernel
theorem dX3_digest_44 : decode cX3_digest 44 = .ok (.if_icmp .ge 51, 3) := by decide +kernel
theorem dX3_digest_47 : decode cX3_digest 47 = .ok (.iconst 0, 1) := by decide +kernel
theorem dX3_digest_48 : decode cX3_digest 48 = .ok (.istore 4, 2) := by decide +kernel
theorem dX3_digest_50 : decode cX3_digest 50 = .ok (.iload 4, 2) := by decide +kernel
theorem dX3_digest_52 : decode cX3_digest 52 = .ok (.bipush 10, 2) := by decide +kernel
theorem dX3_digest_54 : decode cX3_digest 54 = .ok (.if_icmp .gt 35, 3) := by decide +kernel
theorem dX3_digest_57 : decode cX3_digest 57 = .ok (.lload_n 1, 1) := by decide +kernel
theorem dX3_digest_58 : decode cX3_digest 58 = .ok (.ldc2_w 172, 3) := by decide +kernel
theorem dX3_digest_61 : decode cX3_digest 61 = .ok (.lmul, 1) := by decide +kernel
theorem dX3_digest_62 : decode cX3_digest 62 = .ok (.aload_n 0, 1) := by decide +kernel
theorem dX3_digest_63 : decode cX3_digest 63 = .ok (.getfield 10, 3) := by decide +kernel
theorem dX3_digest_66 : decode cX3_digest 66 = .ok (.aload_n 0, 1) := by decide +kernel
theorem dX3_digest_67 : decode cX3_digest 67 = .ok (.getfield 10, 3) := by decide +kernel
theorem dX3_digest_70 : decode cX3_digest 70 = .ok (.getfield 34, 3) := by decide +kernel
theorem dX3_digest_73 : decode cX3_digest 73 = .ok (.iload_n 3, 1) := by decide +kernel
theorem dX3_digest_74 : decode cX3_digest 74 = .ok (.aaload, 1) := by decide +kernel
theorem dX3_digest_75 : decode cX3_digest 75 = .ok (.iload 4, 2) := by decide +kernel
theorem dX3_digest_77 : decode cX3_digest 77 = .ok (.invokevirtual 120, 3) := by decide +kernel
theorem dX3_digest_80 : decode cX3_digest 80 = .ok (.i2l, 1) := by decide +kernel
theorem dX3_digest_81 : decode cX3_digest 81 = .ok (.ladd, 1) := by decide +kernel
theorem dX3_digest_82 : decode cX3_digest 82 = .ok (.lstore_n 1, 1) := by decide +kernel
theorem dX3_digest_83 : decode cX3_digest 83 = .ok (.iinc 4 1, 3) := by decide +kernel
theorem dX3_digest_86 : decode cX3_digest 86 = .ok (.goto (-36), 3) := by decide +kernel
theorem dX3_digest_89 : decode cX3_digest 89 = .ok (.iinc 3 1, 3) := by decide +kernel
theorem dX3_digest_92 : decode cX3_digest 92 = .ok (.goto (-56), 3) := by decide +kernel
theorem dX3_digest_95 : decode cX3_digest 95 = .ok (.iconst 0, 1) := by decide +kernel
theorem dX3_digest_96 : decode cX3_digest 96 = .ok (.istore_n 3, 1) := by decide +kernel
theorem dX3_digest_97 : decode cX3_digest 97 = .ok (.iload_n 3, 1) := by decide +kernel
theorem dX3_digest_98 : decode cX3_digest 98 = .ok (.aload_n 0, 1) := by decide +kernel
theorem dX3_digest_99 : decode cX3_digest 99 = .ok (.getfield 10, 3) := by decide +kernel
theorem dX3_digest_102 : decode cX3_digest 102 = .ok (.getfield 52, 3) := by decide +kernel
theorem dX3_digest_105 : decode cX3_digest 105 = .ok (.if_icmp .ge 23, 3) := by decide +kernel
theorem dX3_digest_108 : decode cX3_digest 108 = .ok (.aload_n 0, 1) := by decide +kernel
theorem dX3_digest_109 : decode cX3_digest 109 = .ok (.getfield 10, 3) := by decide +kernel
theorem dX3_digest_112 : decode cX3_digest 112 = .ok (.getfield 57, 3) := by decide +kernel
theorem dX3_digest_115 : decode cX3_digest 115 = .ok (.iload_n 3, 1) := by decide +kernel
theorem dX3_digest_116 : decode cX3_digest 116 = .ok (.aaload, 1) := by decide +kernel
theorem dX3_digest_117 : decode cX3_digest 117 = .ok (.lload_n 1, 1) := by decide +kernel
theorem dX3_digest_118 : decode cX3_digest 118 = .ok (.invokevirtual 174, 3) := by decide +kernel
theorem dX3_digest_121 : decode cX3_digest 121 = .ok (.lstore_n 1, 1) := by decide +kernel
theorem dX3_digest_122 : decode cX3_digest 122 = .ok (.iinc 3 1, 3) := by decide +kernel
theorem dX3_digest_125 : decode cX3_digest 125 = .ok (.goto (-28), 3) := by decide +kernel
theorem dX3_digest_128 : decode cX3_digest 128 = .ok (.lload_n 1, 1) := by decide +kernel
theorem dX3_digest_129 : decode cX3_digest 129 = .ok (.lreturn, 1) := by decide +kernel
theorem dX3_requireArgument_0 : decode cX3_requireArgument 0 = .ok (.iload_n 0, 1) := by decide +kernel
theorem dX3_requireArgument_1 : decode cX3_requireArgument 1 = .ok (.iload_n 1, 1) := by decide +kernel
theorem dX3_requireArgument_2 : decode cX3_requireArgument 2 = .ok (.if_icmp .lt 8, 3) := by decide +kernel
theorem dX3_requireArgument_5 : decode cX3_requireArgument 5 = .ok (.iload_n 0, 1) := by decide +kernel
theorem dX3_requireArgument_6 : decode cX3_requireArgument 6 = .ok (.iload_n 2, 1) := by decide +kernel
theorem dX3_requireArgument_7 : decode cX3_requireArgument 7 = .ok (.if_icmp .le 13, 3) := by decide +kernel
theorem dX3_requireArgument_10 : decode cX3_requireArgument 10 = .ok (.new 178, 3) := by decide +kernel
theorem dX3_requireArgument_13 : decode cX3_requireArgument 13 = .ok (.dup, 1) := by decide +kernel
theorem dX3_requireArgument_14 : decode cX3_requireArgument 14 = .ok (.ldc 180, 2) := by decide +kernel
theorem dX3_requireArgument_16 : decode cX3_requireArgument 16 = .ok (.invokespecial 182, 3) := by decide +kernel
theorem dX3_requireArgument_19 : decode cX3_requireArgument 19 = .ok (.athrow, 1) := by decide +kernel
theorem dX3_requireArgument_20 : decode cX3_requireArgument 20 = .ok (.return_, 1) := by decide +kernel
theorem dX3_requireIndex_0 : decode cX3_requireIndex 0 = .ok (.iload_n 0, 1) := by decide +kernel
theorem dX3_requireIndex_1 : decode cX3_requireIndex 1 = .ok (.ifCond .lt 8, 3) := by decide +kernel
theorem dX3_requireIndex_4 : decode cX3_requireIndex 4 = .ok (.iload_n 0, 1) := by decide +kernel
theorem dX3_requireIndex_5 : decode cX3_requireIndex 5 = .ok (.iload_n 1, 1) := by decide +kernel
theorem dX3_requireIndex_6 : decode cX3_requireIndex 6 = .ok (.if_icmp .le 13, 3) := by decide +kernel
theorem dX3_requireIndex_9 : decode cX3_requireIndex 9 = .ok (.new 183, 3) := by decide +kernel
theorem dX3_requireIndex_12 : decode cX3_requireIndex 12 = .ok (.dup, 1) := by decide +kernel
theorem dX3_requireIndex_13 : decode cX3_requireIndex 13 = .ok (.ldc 185, 2) := by decide +kernel
theorem dX3_requireIndex_15 : decode cX3_requireIndex 15 = .ok (.invokespecial 187, 3) := by decide +kernel
theorem dX3_requireIndex_18 : decode cX3_requireIndex 18 = .ok (.athrow, 1) := by decide +kernel
theorem dX3_requireIndex_19 : decode cX3_requireIndex 19 = .ok (.return_, 1) := by decide +kernel
set_option maxRecDepth 20000 in
theorem ggX3_requireHouse_X2_isHouse : GoodIn wsX3_requireHouse wsX2_isHouse := goodIn_r _ [8, 9, 12, 13, 14, 15, 16, 17] (by decide +kernel) (by decide +kernel)
set_option maxRecDepth 20000 in
theorem gX3_requireHouse_X2_isHouse : GoodIn wsX3_requireHouse (wsV RX3 188 RX2 yX2_isHouse wsX2_isHouse) := goodIn_app (goodIn_of _ (by decide +kernel)) ggX3_requireHouse_X2_isHouse
theorem dX3_requireHouse_0 : decode cX3_requireHouse 0 = .ok (.aload_n 0, 1) := by decide +kernel
theorem dX3_requireHouse_1 : decode cX3_requireHouse 1 = .ok (.getfield 10, 3) := by decide +kernel
theorem dX3_requireHouse_4 : decode cX3_requireHouse 4 = .ok (.iload_n 1, 1) := by decide +kernel
theorem dX3_requireHouse_5 : decode cX3_requireHouse 5 = .ok (.invokevirtual 188, 3) := by decide +kernel
theorem dX3_requireHouse_8 : decode cX3_requireHouse 8 = .ok (.ifCond .ne 13, 3) := by decide +kernel
theorem dX3_requireHouse_11 : decode cX3_requireHouse 11 = .ok (.new 183, 3) := by decide +kernel
theorem dX3_requireHouse_14 : decode cX3_requireHouse 14 = .ok (.dup, 1) := by decide +kernel
theorem dX3_requireHouse_15 : decode cX3_requireHouse 15 = .ok (.ldc 192, 2) := by decide +kernel
theorem dX3_requireHouse_17 : decode cX3_requireHouse 17 = .ok (.invokespecial 187, 3) := by decide +kernel
theorem dX3_requireHouse_20 : decode cX3_requireHouse 20 = .ok (.athrow, 1) := by decide +kernel
theorem dX3_requireHouse_21 : decode cX3_requireHouse 21 = .ok (.return_, 1) := by decide +kernel
set_option maxRecDepth 20000 in
theorem ggX3_requirePump_X2_isPump : GoodIn wsX3_requirePump wsX2_isPump := goodIn_r _ [8, 9, 12, 13, 14, 15, 16, 17] (by decide +kernel) (by decide +kernel)
set_option maxRecDepth 20000 in
theorem gX3_requirePump_X2_isPump : GoodIn wsX3_requirePump (wsV RX3 194 RX2 yX2_isPump wsX2_isPump) := goodIn_app (goodIn_of _ (by decide +kernel)) ggX3_requirePump_X2_isPump
theorem dX3_requirePump_0 : decode cX3_requirePump 0 = .ok (.aload_n 0, 1) := by decide +kernel
theorem dX3_requirePump_1 : decode cX3_requirePump 1 = .ok (.getfield 10, 3) := by decide +kernel
theorem dX3_requirePump_4 : decode cX3_requirePump 4 = .ok (.iload_n 1, 1) := by decide +kernel
theorem dX3_requirePump_5 : decode cX3_requirePump 5 = .ok (.invokevirtual 194, 3) := by decide +kernel
theorem dX3_requirePump_8 : decode cX3_requirePump 8 = .ok (.ifCond .ne 13, 3) := by decide +kernel
theorem dX3_requirePump_11 : decode cX3_requirePump 11 = .ok (.new 183, 3) := by decide +kernel
theorem dX3_requirePump_14 : decode cX3_requirePump 14 = .ok (.dup, 1) := by decide +kernel
theorem dX3_requirePump_15 : decode cX3_requirePump 15 = .ok (.ldc 197, 2) := by decide +kernel
theorem dX3_requirePump_17 : decode cX3_requirePump 17 = .ok (.invokespecial 187, 3) := by decide +kernel
theorem dX3_requirePump_20 : decode cX3_requirePump 20 = .ok (.athrow, 1) := by decide +kernel
theorem dX3_requirePump_21 : decode cX3_requirePump 21 = .ok (.return_, 1) := by decide +kernel
set_option maxRecDepth 20000 in
theorem ggX3_requirePlace_X3_requirePump : GoodIn wsX3_requirePlace wsX3_requirePump := goodIn_ca (goodIn_r _ [10, 1, 2, 3, 11, 12, 13, 14, 15, 16, 17, 18, 19, 20, 21, 22, 23, 24] (by decide +kernel) (by decide +kernel)) (goodIn_sub (fun _ h => List.mem_cons_of_mem _ (List.mem_append_right _ h)) (by decide +kernel))
set_option maxRecDepth 20000 in
theorem gX3_requirePlace_X3_requirePump : GoodIn wsX3_requirePlace (wsV RX3 73 RX3 yX3_requirePump wsX3_requirePump) := goodIn_app (goodIn_of _ (by decide +kernel)) ggX3_requirePlace_X3_requirePump
theorem dX3_requirePlace_0 : decode cX3_requirePlace 0 = .ok (.aload_n 0, 1) := by decide +kernel
theorem dX3_requirePlace_1 : decode cX3_requirePlace 1 = .ok (.iload_n 1, 1) := by decide +kernel
theorem dX3_requirePlace_2 : decode cX3_requirePlace 2 = .ok (.invokevirtual 73, 3) := by decide +kernel
theorem dX3_requirePlace_5 : decode cX3_requirePlace 5 = .ok (.iload_n 2, 1) := by decide +kernel
theorem dX3_requirePlace_6 : decode cX3_requirePlace 6 = .ok (.ifCond .lt 19, 3) := by decide +kernel
theorem dX3_requirePlace_9 : decode cX3_requirePlace 9 = .ok (.iload_n 2, 1) := by decide +kernel
theorem dX3_requirePlace_10 : decode cX3_requirePlace 10 = .ok (.aload_n 0, 1) := by decide +kernel
theorem dX3_requirePlace_11 : decode cX3_requirePlace 11 = .ok (.getfield 10, 3) := by decide +kernel
theorem dX3_requirePlace_14 : decode cX3_requirePlace 14 = .ok (.getfield 57, 3) := by decide +kernel
theorem dX3_requirePlace_17 : decode cX3_requirePlace 17 = .ok (.iload_n 1, 1) := by decide +kernel
theorem dX3_requirePlace_18 : decode cX3_requirePlace 18 = .ok (.aaload, 1) := by decide +kernel
theorem dX3_requirePlace_19 : decode cX3_requirePlace 19 = .ok (.getfield 100, 3) := by decide +kernel
theorem dX3_requirePlace_22 : decode cX3_requirePlace 22 = .ok (.if_icmp .lt 13, 3) := by decide +kernel
theorem dX3_requirePlace_25 : decode cX3_requirePlace 25 = .ok (.new 183, 3) := by decide +kernel
theorem dX3_requirePlace_28 : decode cX3_requirePlace 28 = .ok (.dup, 1) := by decide +kernel
theorem dX3_requirePlace_29 : decode cX3_requirePlace 29 = .ok (.ldc 199, 2) := by decide +kernel
theorem dX3_requirePlace_31 : decode cX3_requirePlace 31 = .ok (.invokespecial 187, 3) := by decide +kernel
theorem dX3_requirePlace_34 : decode cX3_requirePlace 34 = .ok (.athrow, 1) := by decide +kernel
theorem dX3_requirePlace_35 : decode cX3_requirePlace 35 = .ok (.return_, 1) := by decide +kernel
theorem dX4_init_0 : decode cX4_init 0 = .ok (.aload_n 0, 1) := by decide +kernel
theorem dX4_init_1 : decode cX4_init 1 = .ok (.invokespecial 3, 3) := by decide +kernel
theorem dX4_init_4 : decode cX4_init 4 = .ok (.aload_n 0, 1) := by decide +kernel
theorem dX4_init_5 : decode cX4_init 5 = .ok (.bipush 110, 2) := by decide +kernel
theorem dX4_init_7 : decode cX4_init 7 = .ok (.newarray .int, 2) := by decide +kernel
theorem dX4_init_9 : decode cX4_init 9 = .ok (.putfield 9, 3) := by decide +kernel
theorem dX4_init_12 : decode cX4_init 12 = .ok (.aload_n 0, 1) := by decide +kernel
theorem dX4_init_13 : decode cX4_init 13 = .ok (.bipush 33, 2) := by decide +kernel
theorem dX4_init_15 : decode cX4_init 15 = .ok (.newarray .int, 2) := by decide +kernel
theorem dX4_init_17 : decode cX4_init 17 = .ok (.putfield 15, 3) := by decide +kernel
theorem dX4_init_20 : decode cX4_init 20 = .ok (.aload_n 0, 1) := by decide +kernel
theorem dX4_init_21 : decode cX4_init 21 = .ok (.bipush 30, 2) := by decide +kernel
theorem dX4_init_23 : decode cX4_init 23 = .ok (.newarray .int, 2) := by decide +kernel
theorem dX4_init_25 : decode cX4_init 25 = .ok (.putfield 18, 3) := by decide +kernel
theorem dX4_init_28 : decode cX4_init 28 = .ok (.aload_n 0, 1) := by decide +kernel
theorem dX4_init_29 : decode cX4_init 29 = .ok (.iconst 3, 1) := by decide +kernel
theorem dX4_init_30 : decode cX4_init 30 = .ok (.newarray .boolean, 2) := by decide +kernel
theorem dX4_init_32 : decode cX4_init 32 = .ok (.putfield 21, 3) := by decide +kernel
theorem dX4_init_35 : decode cX4_init 35 = .ok (.aload_n 0, 1) := by decide +kernel
theorem dX4_init_36 : decode cX4_init 36 = .ok (.iconst 3, 1) := by decide +kernel
theorem dX4_init_37 : decode cX4_init 37 = .ok (.newarray .boolean, 2) := by decide +kernel
theorem dX4_init_39 : decode cX4_init 39 = .ok (.putfield 25, 3) := by decide +kernel
theorem dX4_init_42 : decode cX4_init 42 = .ok (.return_, 1) := by decide +kernel
theorem dX4_become_0 : decode cX4_become 0 = .ok (.aload_n 0, 1) := by decide +kernel
theorem dX4_become_1 : decode cX4_become 1 = .ok (.aload_n 1, 1) := by decide +kernel
theorem dX4_become_2 : decode cX4_become 2 = .ok (.getfield 28, 3) := by decide +kernel
theorem dX4_become_5 : decode cX4_become 5 = .ok (.putfield 28, 3) := by decide +kernel
theorem dX4_become_8 : decode cX4_become 8 = .ok (.aload_n 0, 1) := by decide +kernel
theorem dX4_become_9 : decode cX4_become 9 = .ok (.aload_n 1, 1) := by decide +kernel
theorem dX4_become_10 : decode cX4_become 10 = .ok (.getfield 32, 3) := by decide +kernel
theorem dX4_become_13 : decode cX4_become 13 = .ok (.putfield 32, 3) := by decide +kernel
theorem dX4_become_16 : decode cX4_become 16 = .ok (.aload_n 0, 1) := by decide +kernel
theorem dX4_become_17 : decode cX4_become 17 = .ok (.aload_n 1, 1) := by decide +kernel
theorem dX4_become_18 : decode cX4_become 18 = .ok (.getfield 35, 3) := by decide +kernel
theorem dX4_become_21 : decode cX4_become 21 = .ok (.putfield 35, 3) := by decide +kernel
theorem dX4_become_24 : decode cX4_become 24 = .ok (.aload_n 0, 1) := by decide +kernel
theorem dX4_become_25 : decode cX4_become 25 = .ok (.aload_n 1, 1) := by decide +kernel
theorem dX4_become_26 : decode cX4_become 26 = .ok (.getfield 38, 3) := by decide +kernel
theorem dX4_become_29 : decode cX4_become 29 = .ok (.putfield 38, 3) := by decide +kernel
theorem dX4_become_32 : decode cX4_become 32 = .ok (.aload_n 1, 1) := by decide +kernel
theorem dX4_become_33 : decode cX4_become 33 = .ok (.getfield 9, 3) := by decide +kernel
theorem dX4_become_36 : decode cX4_become 36 = .ok (.iconst 0, 1) := by decide +kernel
theorem dX4_become_37 : decode cX4_become 37 = .ok (.aload_n 0, 1) := by decide +kernel
theorem dX4_become_38 : decode cX4_become 38 = .ok (.getfield 9, 3) := by decide +kernel
theorem dX4_become_41 : decode cX4_become 41 = .ok (.iconst 0, 1) := by decide +kernel
theorem dX4_become_42 : decode cX4_become 42 = .ok (.aload_n 0, 1) := by decide +kernel
theorem dX4_become_43 : decode cX4_become 43 = .ok (.getfield 9, 3) := by decide +kernel
theorem dX4_become_46 : decode cX4_become 46 = .ok (.arraylength, 1) := by decide +kernel
theorem dX4_become_47 : decode cX4_become 47 = .ok (.invokestatic 41, 3) := by decide +kernel
theorem dX4_become_50 : decode cX4_become 50 = .ok (.aload_n 1, 1) := by decide +kernel
theorem dX4_become_51 : decode cX4_become 51 = .ok (.getfield 15, 3) := by decide +kernel
theorem dX4_become_54 : decode cX4_become 54 = .ok (.iconst 0, 1) := by decide +kernel
theorem dX4_become_55 : decode cX4_become 55 = .ok (.aload_n 0, 1) := by decide +kernel
theorem dX4_become_56 : decode cX4_become 56 = .ok (.getfield 15, 3) := by decide +kernel
theorem dX4_become_59 : decode cX4_become 59 = .ok (.iconst 0, 1) := by decide +kernel
theorem dX4_become_60 : decode cX4_become 60 = .ok (.aload_n 0, 1) := by decide +kernel
theorem dX4_become_61 : decode cX4_become 61 = .ok (.getfield 15, 3) := by decide +kernel
theorem dX4_become_64 : decode cX4_become 64 = .ok (.arraylength, 1) := by decide +kernel
theorem dX4_become_65 : decode cX4_become 65 = .ok (.invokestatic 41, 3) := by decide +kernel
theorem dX4_become_68 : decode cX4_become 68 = .ok (.aload_n 1, 1) := by decide +kernel
theorem dX4_become_69 : decode cX4_become 69 = .ok (.getfield 18, 3) := by decide +kernel
theorem dX4_become_72 : decode cX4_become 72 = .ok (.iconst 0, 1) := by decide +kernel
theorem dX4_become_73 : decode cX4_become 73 = .ok (.aload_n 0, 1) := by decide +kernel
theorem dX4_become_74 : decode cX4_become 74 = .ok (.getfield 18, 3) := by decide +kernel
theorem dX4_become_77 : decode cX4_become 77 = .ok (.iconst 0, 1) := by decide +kernel
theorem dX4_become_78 : decode cX4_become 78 = .ok (.aload_n 0, 1) := by decide +kernel
theorem dX4_become_79 : decode cX4_become 79 = .ok (.getfield 18, 3) := by decide +kernel
theorem dX4_become_82 : decode cX4_become 82 = .ok (.arraylength, 1) := by decide +kernel
theorem dX4_become_83 : decode cX4_become 83 = .ok (.invokestatic 41, 3) := by decide +kernel
theorem dX4_become_86 : decode cX4_become 86 = .ok (.return_, 1) := by decide +kernel
theorem dX4_isThere_0 : decode cX4_isThere 0 = .ok (.aload_n 0, 1) := by decide +kernel
theorem dX4_isThere_1 : decode cX4_isThere 1 = .ok (.getfield 9, 3) := by decide +kernel
theorem dX4_isThere_4 : decode cX4_isThere 4 = .ok (.bipush 11, 2) := by decide +kernel
theorem dX4_isThere_6 : decode cX4_isThere 6 = .ok (.iload_n 1, 1) := by decide +kernel
theorem dX4_isThere_7 : decode cX4_isThere 7 = .ok (.imul, 1) := by decide +kernel
theorem dX4_isThere_8 : decode cX4_isThere 8 = .ok (.bipush 6, 2) := by decide +kernel
theorem dX4_isThere_10 : decode cX4_isThere 10 = .ok (.iadd, 1) := by decide +kernel
theorem dX4_isThere_11 : decode cX4_isThere 11 = .ok (.iaload, 1) := by decide +kernel
theorem dX4_isThere_12 : decode cX4_isThere 12 = .ok (.ifCond .ne 7, 3) := by decide +kernel
theorem dX4_isThere_15 : decode cX4_isThere 15 = .ok (.iconst 1, 1) := by decide +kernel
theorem dX4_isThere_16 : decode cX4_isThere 16 = .ok (.goto 4, 3) := by decide +kernel
theorem dX4_isThere_19 : decode cX4_isThere 19 = .ok (.iconst 0, 1) := by decide +kernel
theorem dX4_isThere_20 : decode cX4_isThere 20 = .ok (.ireturn, 1) := by decide +kernel
set_option maxRecDepth 20000 in
theorem ggX4_needs_X4_isThere : GoodIn wsX4_needs wsX4_isThere := goodIn_r _ [6, 1, 7, 8, 9, 10, 11, 12, 13, 14, 15] (by decide +kernel) (by decide +kernel)
set_option maxRecDepth 20000 in
theorem gX4_needs_X4_isThere : GoodIn wsX4_needs (wsV RX4 47 RX4 yX4_isThere wsX4_isThere) := goodIn_app (goodIn_of _ (by decide +kernel)) ggX4_needs_X4_isThere
theorem dX4_needs_0 : decode cX4_needs 0 = .ok (.aload_n 0, 1) := by decide +kernel
theorem dX4_needs_1 : decode cX4_needs 1 = .ok (.iload_n 1, 1) := by decide +kernel
theorem dX4_needs_2 : decode cX4_needs 2 = .ok (.invokevirtual 47, 3) := by decide +kernel
theorem dX4_needs_5 : decode cX4_needs 5 = .ok (.ifCond .eq 17, 3) := by decide +kernel
theorem dX4_needs_8 : decode cX4_needs 8 = .ok (.iconst 2, 1) := by decide +kernel
theorem dX4_needs_9 : decode cX4_needs 9 = .ok (.aload_n 0, 1) := by decide +kernel
theorem dX4_needs_10 : decode cX4_needs 10 = .ok (.getfield 9, 3) := by decide +kernel
theorem dX4_needs_13 : decode cX4_needs 13 = .ok (.bipush 11, 2) := by decide +kernel
theorem dX4_needs_15 : decode cX4_needs 15 = .ok (.iload_n 1, 1) := by decide +kernel
theorem dX4_needs_16 : decode cX4_needs 16 = .ok (.imul, 1) := by decide +kernel
theorem dX4_needs_17 : decode cX4_needs 17 = .ok (.iaload, 1) := by decide +kernel
theorem dX4_needs_18 : decode cX4_needs 18 = .ok (.iadd, 1) := by decide +kernel
theorem dX4_needs_19 : decode cX4_needs 19 = .ok (.goto 4, 3) := by decide +kernel
theorem dX4_needs_22 : decode cX4_needs 22 = .ok (.iconst 0, 1) := by decide +kernel
theorem dX4_needs_23 : decode cX4_needs 23 = .ok (.ireturn, 1) := by decide +kernel
theorem dX4_placeOf_0 : decode cX4_placeOf 0 = .ok (.iconst 0, 1) := by decide +kernel
theorem dX4_placeOf_1 : decode cX4_placeOf 1 = .ok (.istore_n 3, 1) := by decide +kernel
theorem dX4_placeOf_2 : decode cX4_placeOf 2 = .ok (.iload_n 3, 1) := by decide +kernel
theorem dX4_placeOf_3 : decode cX4_placeOf 3 = .ok (.aload_n 0, 1) := by decide +kernel
theorem dX4_placeOf_4 : decode cX4_placeOf 4 = .ok (.getfield 15, 3) := by decide +kernel
theorem dX4_placeOf_7 : decode cX4_placeOf 7 = .ok (.bipush 11, 2) := by decide +kernel
theorem dX4_placeOf_9 : decode cX4_placeOf 9 = .ok (.iload_n 1, 1) := by decide +kernel
theorem dX4_placeOf_10 : decode cX4_placeOf 10 = .ok (.imul, 1) := by decide +kernel
theorem dX4_placeOf_11 : decode cX4_placeOf 11 = .ok (.bipush 6, 2) := by decide +kernel
theorem dX4_placeOf_13 : decode cX4_placeOf 13 = .ok (.iadd, 1) := by decide +kernel
theorem dX4_placeOf_14 : decode cX4_placeOf 14 = .ok (.iaload, 1) := by decide +kernel
theorem dX4_placeOf_15 : decode cX4_placeOf 15 = .ok (.if_icmp .ge 26, 3) := by decide +kernel
theorem dX4_placeOf_18 : decode cX4_placeOf 18 = .ok (.aload_n 0, 1) := by decide +kernel
theorem dX4_placeOf_19 : decode cX4_placeOf 19 = .ok (.getfield 18, 3) := by decide +kernel
theorem dX4_placeOf_22 : decode cX4_placeOf 22 = .ok (.bipush 10, 2) := by decide +kernel
theorem dX4_placeOf_24 : decode cX4_placeOf 24 = .ok (.iload_n 1, 1) := by decide +kernel
theorem dX4_placeOf_25 : decode cX4_placeOf 25 = .ok (.imul, 1) := by decide +kernel
theorem dX4_placeOf_26 : decode cX4_placeOf 26 = .ok (.iload_n 3, 1) := by decide +kernel
theorem dX4_placeOf_27 : decode cX4_placeOf 27 = .ok (.iadd, 1) := by decide +kernel
theorem dX4_placeOf_28 : decode cX4_placeOf 28 = .ok (.iaload, 1) := by decide +kernel
theorem dX4_placeOf_29 : decode cX4_placeOf 29 = .ok (.iload_n 2, 1) := by decide +kernel
theorem dX4_placeOf_30 : decode cX4_placeOf 30 = .ok (.if_icmp .ne 5, 3) := by decide +kernel
theorem dX4_placeOf_33 : decode cX4_placeOf 33 = .ok (.iload_n 3, 1) := by decide +kernel
theorem dX4_placeOf_34 : decode cX4_placeOf 34 = .ok (.ireturn, 1) := by decide +kernel
theorem dX4_placeOf_35 : decode cX4_placeOf 35 = .ok (.iinc 3 1, 3) := by decide +kernel
theorem dX4_placeOf_38 : decode cX4_placeOf 38 = .ok (.goto (-36), 3) := by decide +kernel
theorem dX4_placeOf_41 : decode cX4_placeOf 41 = .ok (.iconst (-1), 1) := by decide +kernel
theorem dX4_placeOf_42 : decode cX4_placeOf 42 = .ok (.ireturn, 1) := by decide +kernel
set_option maxRecDepth 20000 in
theorem ggX4_fine_X4_placeOf : GoodIn wsX4_fine wsX4_placeOf := goodIn_r _ [12, 13, 14, 19, 20, 21, 22, 23, 24, 25, 26, 27] (by decide +kernel) (by decide +kernel)
set_option maxRecDepth 20000 in
theorem gX4_fine_X4_placeOf : GoodIn wsX4_fine (wsV RX4 57 RX4 yX4_placeOf wsX4_placeOf) := goodIn_app (goodIn_of _ (by decide +kernel)) ggX4_fine_X4_placeOf
set_option maxRecDepth 20000 in
theorem ggX4_fine_X4_strike : GoodIn wsX4_fine wsX4_strike := goodIn_r _ [18, 13, 14, 19, 20, 21, 22, 23, 24, 25, 26, 27] (by decide +kernel) (by decide +kernel)
set_option maxRecDepth 20000 in
theorem gX4_fine_X4_strike : GoodIn wsX4_fine (wsV RX4 60 RX4 yX4_strike wsX4_strike) := goodIn_app (goodIn_of _ (by decide +kernel)) ggX4_fine_X4_strike
theorem dX4_fine_0 : decode cX4_fine 0 = .ok (.bipush 11, 2) := by decide +kernel
theorem dX4_fine_2 : decode cX4_fine 2 = .ok (.iload_n 1, 1) := by decide +kernel
theorem dX4_fine_3 : decode cX4_fine 3 = .ok (.imul, 1) := by decide +kernel
theorem dX4_fine_4 : decode cX4_fine 4 = .ok (.istore_n 3, 1) := by decide +kernel
theorem dX4_fine_5 : decode cX4_fine 5 = .ok (.iload_n 2, 1) := by decide +kernel
theorem dX4_fine_6 : decode cX4_fine 6 = .ok (.aload_n 0, 1) := by decide +kernel
theorem dX4_fine_7 : decode cX4_fine 7 = .ok (.getfield 9, 3) := by decide +kernel
theorem dX4_fine_10 : decode cX4_fine 10 = .ok (.iload_n 3, 1) := by decide +kernel
theorem dX4_fine_11 : decode cX4_fine 11 = .ok (.iconst 3, 1) := by decide +kernel
theorem dX4_fine_12 : decode cX4_fine 12 = .ok (.iadd, 1) := by decide +kernel
theorem dX4_fine_13 : decode cX4_fine 13 = .ok (.iaload, 1) := by decide +kernel
theorem dX4_fine_14 : decode cX4_fine 14 = .ok (.invokestatic 51, 3) := by decide +kernel
theorem dX4_fine_17 : decode cX4_fine 17 = .ok (.istore 4, 2) := by decide +kernel
theorem dX4_fine_19 : decode cX4_fine 19 = .ok (.aload_n 0, 1) := by decide +kernel
theorem dX4_fine_20 : decode cX4_fine 20 = .ok (.getfield 9, 3) := by decide +kernel
theorem dX4_fine_23 : decode cX4_fine 23 = .ok (.iload_n 3, 1) := by decide +kernel
theorem dX4_fine_24 : decode cX4_fine 24 = .ok (.bipush 10, 2) := by decide +kernel
theorem dX4_fine_26 : decode cX4_fine 26 = .ok (.iadd, 1) := by decide +kernel
theorem dX4_fine_27 : decode cX4_fine 27 = .ok (.dup2, 1) := by decide +kernel
theorem dX4_fine_28 : decode cX4_fine 28 = .ok (.iaload, 1) := by decide +kernel
theorem dX4_fine_29 : decode cX4_fine 29 = .ok (.iload_n 2, 1) := by decide +kernel
theorem dX4_fine_30 : decode cX4_fine 30 = .ok (.iadd, 1) := by decide +kernel
theorem dX4_fine_31 : decode cX4_fine 31 = .ok (.iastore, 1) := by decide +kernel
theorem dX4_fine_32 : decode cX4_fine 32 = .ok (.aload_n 0, 1) := by decide +kernel
theorem dX4_fine_33 : decode cX4_fine 33 = .ok (.getfield 9, 3) := by decide +kernel
theorem dX4_fine_36 : decode cX4_fine 36 = .ok (.iload_n 3, 1) := by decide +kernel
theorem dX4_fine_37 : decode cX4_fine 37 = .ok (.iconst 3, 1) := by decide +kernel
theorem dX4_fine_38 : decode cX4_fine 38 = .ok (.iadd, 1) := by decide +kernel
theorem dX4_fine_39 : decode cX4_fine 39 = .ok (.dup2, 1) := by decide +kernel
theorem dX4_fine_40 : decode cX4_fine 40 = .ok (.iaload, 1) := by decide +kernel
theorem dX4_fine_41 : decode cX4_fine 41 = .ok (.iload 4, 2) := by decide +kernel
theorem dX4_fine_43 : decode cX4_fine 43 = .ok (.isub, 1) := by decide +kernel
theorem dX4_fine_44 : decode cX4_fine 44 = .ok (.iastore, 1) := by decide +kernel
theorem dX4_fine_45 : decode cX4_fine 45 = .ok (.aload_n 0, 1) := by decide +kernel
theorem dX4_fine_46 : decode cX4_fine 46 = .ok (.dup, 1) := by decide +kernel
theorem dX4_fine_47 : decode cX4_fine 47 = .ok (.getfield 38, 3) := by decide +kernel
theorem dX4_fine_50 : decode cX4_fine 50 = .ok (.iload 4, 2) := by decide +kernel
theorem dX4_fine_52 : decode cX4_fine 52 = .ok (.iadd, 1) := by decide +kernel
theorem dX4_fine_53 : decode cX4_fine 53 = .ok (.putfield 38, 3) := by decide +kernel
theorem dX4_fine_56 : decode cX4_fine 56 = .ok (.iload 4, 2) := by decide +kernel
theorem dX4_fine_58 : decode cX4_fine 58 = .ok (.iload_n 2, 1) := by decide +kernel
theorem dX4_fine_59 : decode cX4_fine 59 = .ok (.if_icmp .ge 81, 3) := by decide +kernel
theorem dX4_fine_62 : decode cX4_fine 62 = .ok (.aload_n 0, 1) := by decide +kernel
theorem dX4_fine_63 : decode cX4_fine 63 = .ok (.getfield 9, 3) := by decide +kernel
theorem dX4_fine_66 : decode cX4_fine 66 = .ok (.iload_n 3, 1) := by decide +kernel
theorem dX4_fine_67 : decode cX4_fine 67 = .ok (.iconst 4, 1) := by decide +kernel
theorem dX4_fine_68 : decode cX4_fine 68 = .ok (.iadd, 1) := by decide +kernel
theorem dX4_fine_69 : decode cX4_fine 69 = .ok (.iaload, 1) := by decide +kernel
theorem dX4_fine_70 : decode cX4_fine 70 = .ok (.iconst 3, 1) := by decide +kernel
theorem dX4_fine_71 : decode cX4_fine 71 = .ok (.if_icmp .ge 69, 3) := by decide +kernel
theorem dX4_fine_74 : decode cX4_fine 74 = .ok (.aload_n 0, 1) := by decide +kernel
theorem dX4_fine_75 : decode cX4_fine 75 = .ok (.getfield 9, 3) := by decide +kernel
theorem dX4_fine_78 : decode cX4_fine 78 = .ok (.iload_n 3, 1) := by decide +kernel
theorem dX4_fine_79 : decode cX4_fine 79 = .ok (.iconst 4, 1) := by decide +kernel
theorem dX4_fine_80 : decode cX4_fine 80 = .ok (.iadd, 1) := by decide +kernel
theorem dX4_fine_81 : decode cX4_fine 81 = .ok (.dup2, 1) := by decide +kernel
theorem dX4_fine_82 : decode cX4_fine 82 = .ok (.iaload, 1) := by decide +kernel
theorem dX4_fine_83 : decode cX4_fine 83 = .ok (.iconst 1, 1) := by decide +kernel
theorem dX4_fine_84 : decode cX4_fine 84 = .ok (.iadd, 1) := by decide +kernel
theorem dX4_fine_85 : decode cX4_fine 85 = .ok (.iastore, 1) := by decide +kernel
theorem dX4_fine_86 : decode cX4_fine 86 = .ok (.iconst 0, 1) := by decide +kernel
theorem dX4_fine_87 : decode cX4_fine 87 = .ok (.istore 5, 2) := by decide +kernel
theorem dX4_fine_89 : decode cX4_fine 89 = .ok (.iload 5, 2) := by decide +kernel
theorem dX4_fine_91 : decode cX4_fine 91 = .ok (.aload_n 0, 1) := by decide +kernel
theorem dX4_fine_92 : decode cX4_fine 92 = .ok (.getfield 35, 3) := by decide +kernel
theorem dX4_fine_95 : decode cX4_fine 95 = .ok (.if_icmp .ge 45, 3) := by decide +kernel
theorem dX4_fine_98 : decode cX4_fine 98 = .ok (.aload_n 0, 1) := by decide +kernel
theorem dX4_fine_99 : decode cX4_fine 99 = .ok (.getfield 9, 3) := by decide +kernel
theorem dX4_fine_102 : decode cX4_fine 102 = .ok (.iload_n 3, 1) := by decide +kernel
theorem dX4_fine_103 : decode cX4_fine 103 = .ok (.iconst 4, 1) := by decide +kernel
theorem dX4_fine_104 : decode cX4_fine 104 = .ok (.iadd, 1) := by decide +kernel
theorem dX4_fine_105 : decode cX4_fine 105 = .ok (.iaload, 1) := by decide +kernel
theorem dX4_fine_106 : decode cX4_fine 106 = .ok (.iconst 3, 1) := by decide +kernel
theorem dX4_fine_107 : decode cX4_fine 107 = .ok (.if_icmp .ne 33, 3) := by decide +kernel
theorem dX4_fine_110 : decode cX4_fine 110 = .ok (.aload_n 0, 1) := by decide +kernel
theorem dX4_fine_111 : decode cX4_fine 111 = .ok (.iload 5, 2) := by decide +kernel
theorem dX4_fine_113 : decode cX4_fine 113 = .ok (.iload_n 1, 1) := by decide +kernel
theorem dX4_fine_114 : decode cX4_fine 114 = .ok (.invokevirtual 57, 3) := by decide +kernel
theorem dX4_fine_117 : decode cX4_fine 117 = .ok (.iconst (-1), 1) := by decide +kernel
theorem dX4_fine_118 : decode cX4_fine 118 = .ok (.if_icmp .eq 16, 3) := by decide +kernel
theorem dX4_fine_121 : decode cX4_fine 121 = .ok (.aload_n 0, 1) := by decide +kernel
theorem dX4_fine_122 : decode cX4_fine 122 = .ok (.iload 5, 2) := by decide +kernel
theorem dX4_fine_124 : decode cX4_fine 124 = .ok (.aload_n 0, 1) := by decide +kernel
theorem dX4_fine_125 : decode cX4_fine 125 = .ok (.iload 5, 2) := by decide +kernel
theorem dX4_fine_127 : decode cX4_fine 127 = .ok (.iload_n 1, 1) := by decide +kernel
theorem dX4_fine_128 : decode cX4_fine 128 = .ok (.invokevirtual 57, 3) := by decide +kernel
theorem dX4_fine_131 : decode cX4_fine 131 = .ok (.invokevirtual 60, 3) := by decide +kernel
theorem dX4_fine_134 : decode cX4_fine 134 = .ok (.iinc 5 1, 3) := by decide +kernel
theorem dX4_fine_137 : decode cX4_fine 137 = .ok (.goto (-48), 3) := by decide +kernel
theorem dX4_fine_140 : decode cX4_fine 140 = .ok (.iload 4, 2) := by decide +kernel
theorem dX4_fine_142 : decode cX4_fine 142 = .ok (.ireturn, 1) := by decide +kernel
theorem dX4_strike_0 : decode cX4_strike 0 = .ok (.bipush 11, 2) := by decide +kernel
theorem dX4_strike_2 : decode cX4_strike 2 = .ok (.iload_n 1, 1) := by decide +kernel
theorem dX4_strike_3 : decode cX4_strike 3 = .ok (.imul, 1) := by decide +kernel
theorem dX4_strike_4 : decode cX4_strike 4 = .ok (.istore_n 3, 1) := by decide +kernel
theorem dX4_strike_5 : decode cX4_strike 5 = .ok (.aload_n 0, 1) := by decide +kernel
theorem dX4_strike_6 : decode cX4_strike 6 = .ok (.getfield 15, 3) := by decide +kernel
theorem dX4_strike_9 : decode cX4_strike 9 = .ok (.iload_n 3, 1) := by decide +kernel
theorem dX4_strike_10 : decode cX4_strike 10 = .ok (.bipush 6, 2) := by decide +kernel
theorem dX4_strike_12 : decode cX4_strike 12 = .ok (.iadd, 1) := by decide +kernel
theorem dX4_strike_13 : decode cX4_strike 13 = .ok (.dup2, 1) := by decide +kernel
theorem dX4_strike_14 : decode cX4_strike 14 = .ok (.iaload, 1) := by decide +kernel
theorem dX4_strike_15 : decode cX4_strike 15 = .ok (.iconst 1, 1) := by decide +kernel
theorem dX4_strike_16 : decode cX4_strike 16 = .ok (.isub, 1) := by decide +kernel
theorem dX4_strike_17 : decode cX4_strike 17 = .ok (.iastore, 1) := by decide +kernel
theorem dX4_strike_18 : decode cX4_strike 18 = .ok (.iload_n 2, 1) := by decide +kernel
theorem dX4_strike_19 : decode cX4_strike 19 = .ok (.istore 4, 2) := by decide +kernel
theorem dX4_strike_21 : decode cX4_strike 21 = .ok (.iload 4, 2) := by decide +kernel
theorem dX4_strike_23 : decode cX4_strike 23 = .ok (.aload_n 0, 1) := by decide +kernel
theorem dX4_strike_24 : decode cX4_strike 24 = .ok (.getfield 15, 3) := by decide +kernel
theorem dX4_strike_27 : decode cX4_strike 27 = .ok (.iload_n 3, 1) := by decide +kernel
theorem dX4_strike_28 : decode cX4_strike 28 = .ok (.bipush 6, 2) := by decide +kernel
theorem dX4_strike_30 : decode cX4_strike 30 = .ok (.iadd, 1) := by decide +kernel
theorem dX4_strike_31 : decode cX4_strike 31 = .ok (.iaload, 1) := by decide +kernel
theorem dX4_strike_32 : decode cX4_strike 32 = .ok (.if_icmp .ge 35, 3) := by decide +kernel
theorem dX4_strike_35 : decode cX4_strike 35 = .ok (.aload_n 0, 1) := by decide +kernel
theorem dX4_strike_36 : decode cX4_strike 36 = .ok (.getfield 18, 3) := by decide +kernel
theorem dX4_strike_39 : decode cX4_strike 39 = .ok (.bipush 10, 2) := by decide +kernel
theorem dX4_strike_41 : decode cX4_strike 41 = .ok (.iload_n 1, 1) := by decide +kernel
theorem dX4_strike_42 : decode cX4_strike 42 = .ok (.imul, 1) := by decide +kernel
theorem dX4_strike_43 : decode cX4_strike 43 = .ok (.iload 4, 2) := by decide +kernel
theorem dX4_strike_45 : decode cX4_strike 45 = .ok (.iadd, 1) := by decide +kernel
theorem dX4_strike_46 : decode cX4_strike 46 = .ok (.aload_n 0, 1) := by decide +kernel
theorem dX4_strike_47 : decode cX4_strike 47 = .ok (.getfield 18, 3) := by decide +kernel
theorem dX4_strike_50 : decode cX4_strike 50 = .ok (.bipush 10, 2) := by decide +kernel
theorem dX4_strike_52 : decode cX4_strike 52 = .ok (.iload_n 1, 1) := by decide +kernel
theorem dX4_strike_53 : decode cX4_strike 53 = .ok (.imul, 1) := by decide +kernel
theorem dX4_strike_54 : decode cX4_strike 54 = .ok (.iload 4, 2) := by decide +kernel
theorem dX4_strike_56 : decode cX4_strike 56 = .ok (.iadd, 1) := by decide +kernel
theorem dX4_strike_57 : decode cX4_strike 57 = .ok (.iconst 1, 1) := by decide +kernel
theorem dX4_strike_58 : decode cX4_strike 58 = .ok (.iadd, 1) := by decide +kernel
theorem dX4_strike_59 : decode cX4_strike 59 = .ok (.iaload, 1) := by decide +kernel
theorem dX4_strike_60 : decode cX4_strike 60 = .ok (.iastore, 1) := by decide +kernel
theorem dX4_strike_61 : decode cX4_strike 61 = .ok (.iinc 4 1, 3) := by decide +kernel
theorem dX4_strike_64 : decode cX4_strike 64 = .ok (.goto (-43), 3) := by decide +kernel
theorem dX4_strike_67 : decode cX4_strike 67 = .ok (.aload_n 0, 1) := by decide +kernel
theorem dX4_strike_68 : decode cX4_strike 68 = .ok (.getfield 15, 3) := by decide +kernel
theorem dX4_strike_71 : decode cX4_strike 71 = .ok (.iload_n 3, 1) := by decide +kernel
theorem dX4_strike_72 : decode cX4_strike 72 = .ok (.bipush 7, 2) := by decide +kernel
theorem dX4_strike_74 : decode cX4_strike 74 = .ok (.iadd, 1) := by decide +kernel
theorem dX4_strike_75 : decode cX4_strike 75 = .ok (.iaload, 1) := by decide +kernel
theorem dX4_strike_76 : decode cX4_strike 76 = .ok (.iload_n 2, 1) := by decide +kernel
theorem dX4_strike_77 : decode cX4_strike 77 = .ok (.if_icmp .le 16, 3) := by decide +kernel
theorem dX4_strike_80 : decode cX4_strike 80 = .ok (.aload_n 0, 1) := by decide +kernel
theorem dX4_strike_81 : decode cX4_strike 81 = .ok (.getfield 15, 3) := by decide +kernel
theorem dX4_strike_84 : decode cX4_strike 84 = .ok (.iload_n 3, 1) := by decide +kernel
theorem dX4_strike_85 : decode cX4_strike 85 = .ok (.bipush 7, 2) := by decide +kernel
theorem dX4_strike_87 : decode cX4_strike 87 = .ok (.iadd, 1) := by decide +kernel
theorem dX4_strike_88 : decode cX4_strike 88 = .ok (.dup2, 1) := by decide +kernel
theorem dX4_strike_89 : decode cX4_strike 89 = .ok (.iaload, 1) := by decide +kernel
theorem dX4_strike_90 : decode cX4_strike 90 = .ok (.iconst 1, 1) := by decide +kernel
theorem dX4_strike_91 : decode cX4_strike 91 = .ok (.isub, 1) := by decide +kernel
theorem dX4_strike_92 : decode cX4_strike 92 = .ok (.iastore, 1) := by decide +kernel
theorem dX4_strike_93 : decode cX4_strike 93 = .ok (.aload_n 0, 1) := by decide +kernel
theorem dX4_strike_94 : decode cX4_strike 94 = .ok (.getfield 15, 3) := by decide +kernel
theorem dX4_strike_97 : decode cX4_strike 97 = .ok (.iload_n 3, 1) := by decide +kernel
theorem dX4_strike_98 : decode cX4_strike 98 = .ok (.bipush 7, 2) := by decide +kernel
theorem dX4_strike_100 : decode cX4_strike 100 = .ok (.iadd, 1) := by decide +kernel
theorem dX4_strike_101 : decode cX4_strike 101 = .ok (.iaload, 1) := by decide +kernel
theorem dX4_strike_102 : decode cX4_strike 102 = .ok (.aload_n 0, 1) := by decide +kernel
theorem dX4_strike_103 : decode cX4_strike 103 = .ok (.getfield 15, 3) := by decide +kernel
theorem dX4_strike_106 : decode cX4_strike 106 = .ok (.iload_n 3, 1) := by decide +kernel
theorem dX4_strike_107 : decode cX4_strike 107 = .ok (.bipush 6, 2) := by decide +kernel
theorem dX4_strike_109 : decode cX4_strike 109 = .ok (.iadd, 1) := by decide +kernel
theorem dX4_strike_110 : decode cX4_strike 110 = .ok (.iaload, 1) := by decide +kernel
theorem dX4_strike_111 : decode cX4_strike 111 = .ok (.if_icmp .lt 13, 3) := by decide +kernel
theorem dX4_strike_114 : decode cX4_strike 114 = .ok (.aload_n 0, 1) := by decide +kernel
theorem dX4_strike_115 : decode cX4_strike 115 = .ok (.getfield 15, 3) := by decide +kernel
theorem dX4_strike_118 : decode cX4_strike 118 = .ok (.iload_n 3, 1) := by decide +kernel
theorem dX4_strike_119 : decode cX4_strike 119 = .ok (.bipush 7, 2) := by decide +kernel
theorem dX4_strike_121 : decode cX4_strike 121 = .ok (.iadd, 1) := by decide +kernel
theorem dX4_strike_122 : decode cX4_strike 122 = .ok (.iconst 0, 1) := by decide +kernel
theorem dX4_strike_123 : decode cX4_strike 123 = .ok (.iastore, 1) := by decide +kernel
theorem dX4_strike_124 : decode cX4_strike 124 = .ok (.return_, 1) := by decide +kernel
set_option maxRecDepth 20000 in
theorem ggX4_pass_X4_isThere : GoodIn wsX4_pass wsX4_isThere := goodIn_r _ [20, 2, 54, 55, 56, 57, 58, 59, 60, 61, 62] (by decide +kernel) (by decide +kernel)
set_option maxRecDepth 20000 in
theorem gX4_pass_X4_isThere : GoodIn wsX4_pass (wsV RX4 47 RX4 yX4_isThere wsX4_isThere) := goodIn_app (goodIn_of _ (by decide +kernel)) ggX4_pass_X4_isThere
set_option maxRecDepth 20000 in
theorem ggX4_pass_X4_open : GoodIn wsX4_pass wsX4_open := goodIn_r _ [24, 6, 25, 2, 16, 17, 18, 19, 20, 26, 27, 28, 29, 7, 8, 9, 10, 12, 3, 30, 31, 32, 33, 34, 35, 36, 37, 54, 55, 56, 57, 58, 59, 60, 61, 62] (by decide +kernel) (by decide +kernel)
set_option maxRecDepth 20000 in
theorem gX4_pass_X4_open : GoodIn wsX4_pass (wsV RX4 64 RX4 yX4_open wsX4_open) := goodIn_app (goodIn_of _ (by decide +kernel)) ggX4_pass_X4_open
set_option maxRecDepth 20000 in
theorem ggX4_pass_X4_draw : GoodIn wsX4_pass wsX4_draw := goodIn_r _ [41, 3, 2, 5, 6, 7, 8, 9, 10, 4, 42, 43, 44, 19, 45, 16, 17, 18, 20, 26, 27, 28, 29, 12, 30, 31, 32, 33, 25, 34, 35, 36, 37, 54, 55, 56, 57, 58, 59, 60, 61, 62] (by decide +kernel) (by decide +kernel)
set_option maxRecDepth 20000 in
theorem gX4_pass_X4_draw : GoodIn wsX4_pass (wsV RX4 67 RX4 yX4_draw wsX4_draw) := goodIn_app (goodIn_of _ (by decide +kernel)) ggX4_pass_X4_draw
set_option maxRecDepth 20000 in
theorem ggX4_pass_X4_mend : GoodIn wsX4_pass wsX4_mend := goodIn_r _ [49, 6, 4, 13, 14, 9, 15, 12, 54, 55, 56, 57, 58, 59, 60, 61, 62] (by decide +kernel) (by decide +kernel)
set_option maxRecDepth 20000 in
theorem gX4_pass_X4_mend : GoodIn wsX4_pass (wsV RX4 71 RX4 yX4_mend wsX4_mend) := goodIn_app (goodIn_of _ (by decide +kernel)) ggX4_pass_X4_mend
set_option maxRecDepth 20000 in
theorem ggX4_pass_X4_share : GoodIn wsX4_pass wsX4_share := goodIn_r _ [53, 1, 2, 12, 54, 55, 56, 57, 58, 59, 60, 61, 62] (by decide +kernel) (by decide +kernel)
set_option maxRecDepth 20000 in
theorem gX4_pass_X4_share : GoodIn wsX4_pass (wsV RX4 75 RX4 yX4_share wsX4_share) := goodIn_app (goodIn_of _ (by decide +kernel)) ggX4_pass_X4_share
theorem dX4_pass_0 : decode cX4_pass 0 = .ok (.iconst 0, 1) := by decide +kernel
theorem dX4_pass_1 : decode cX4_pass 1 = .ok (.istore_n 1, 1) := by decide +kernel
theorem dX4_pass_2 : decode cX4_pass 2 = .ok (.iload_n 1, 1) := by decide +kernel
theorem dX4_pass_3 : decode cX4_pass 3 = .ok (.aload_n 0, 1) := by decide +kernel
theorem dX4_pass_4 : decode cX4_pass 4 = .ok (.getfield 32, 3) := by decide +kernel
theorem dX4_pass_7 : decode cX4_pass 7 = .ok (.if_icmp .ge 42, 3) := by decide +kernel
theorem dX4_pass_10 : decode cX4_pass 10 = .ok (.aload_n 0, 1) := by decide +kernel
theorem dX4_pass_11 : decode cX4_pass 11 = .ok (.iload_n 1, 1) := by decide +kernel
theorem dX4_pass_12 : decode cX4_pass 12 = .ok (.invokevirtual 47, 3) := by decide +kernel
theorem dX4_pass_15 : decode cX4_pass 15 = .ok (.ifCond .eq 28, 3) := by decide +kernel
theorem dX4_pass_18 : decode cX4_pass 18 = .ok (.aload_n 0, 1) := by decide +kernel
theorem dX4_pass_19 : decode cX4_pass 19 = .ok (.getfield 9, 3) := by decide +kernel
theorem dX4_pass_22 : decode cX4_pass 22 = .ok (.bipush 11, 2) := by decide +kernel
theorem dX4_pass_24 : decode cX4_pass 24 = .ok (.iload_n 1, 1) := by decide +kernel
theorem dX4_pass_25 : decode cX4_pass 25 = .ok (.imul, 1) := by decide +kernel
theorem dX4_pass_26 : decode cX4_pass 26 = .ok (.iconst 3, 1) := by decide +kernel
theorem dX4_pass_27 : decode cX4_pass 27 = .ok (.iadd, 1) := by decide +kernel
theorem dX4_pass_28 : decode cX4_pass 28 = .ok (.dup2, 1) := by decide +kernel
theorem dX4_pass_29 : decode cX4_pass 29 = .ok (.iaload, 1) := by decide +kernel
theorem dX4_pass_30 : decode cX4_pass 30 = .ok (.aload_n 0, 1) := by decide +kernel
theorem dX4_pass_31 : decode cX4_pass 31 = .ok (.getfield 9, 3) := by decide +kernel
theorem dX4_pass_34 : decode cX4_pass 34 = .ok (.bipush 11, 2) := by decide +kernel
theorem dX4_pass_36 : decode cX4_pass 36 = .ok (.iload_n 1, 1) := by decide +kernel
theorem dX4_pass_37 : decode cX4_pass 37 = .ok (.imul, 1) := by decide +kernel
theorem dX4_pass_38 : decode cX4_pass 38 = .ok (.iconst 1, 1) := by decide +kernel
theorem dX4_pass_39 : decode cX4_pass 39 = .ok (.iadd, 1) := by decide +kernel
theorem dX4_pass_40 : decode cX4_pass 40 = .ok (.iaload, 1) := by decide +kernel
theorem dX4_pass_41 : decode cX4_pass 41 = .ok (.iadd, 1) := by decide +kernel
theorem dX4_pass_42 : decode cX4_pass 42 = .ok (.iastore, 1) := by decide +kernel
theorem dX4_pass_43 : decode cX4_pass 43 = .ok (.iinc 1 1, 3) := by decide +kernel
theorem dX4_pass_46 : decode cX4_pass 46 = .ok (.goto (-44), 3) := by decide +kernel
theorem dX4_pass_49 : decode cX4_pass 49 = .ok (.iconst 0, 1) := by decide +kernel
theorem dX4_pass_50 : decode cX4_pass 50 = .ok (.istore_n 1, 1) := by decide +kernel
theorem dX4_pass_51 : decode cX4_pass 51 = .ok (.iload_n 1, 1) := by decide +kernel
theorem dX4_pass_52 : decode cX4_pass 52 = .ok (.aload_n 0, 1) := by decide +kernel
theorem dX4_pass_53 : decode cX4_pass 53 = .ok (.getfield 35, 3) := by decide +kernel
theorem dX4_pass_56 : decode cX4_pass 56 = .ok (.if_icmp .ge 27, 3) := by decide +kernel
theorem dX4_pass_59 : decode cX4_pass 59 = .ok (.aload_n 0, 1) := by decide +kernel
theorem dX4_pass_60 : decode cX4_pass 60 = .ok (.getfield 25, 3) := by decide +kernel
theorem dX4_pass_63 : decode cX4_pass 63 = .ok (.iload_n 1, 1) := by decide +kernel
theorem dX4_pass_64 : decode cX4_pass 64 = .ok (.iconst 0, 1) := by decide +kernel
theorem dX4_pass_65 : decode cX4_pass 65 = .ok (.bastore, 1) := by decide +kernel
theorem dX4_pass_66 : decode cX4_pass 66 = .ok (.aload_n 0, 1) := by decide +kernel
theorem dX4_pass_67 : decode cX4_pass 67 = .ok (.getfield 21, 3) := by decide +kernel
theorem dX4_pass_70 : decode cX4_pass 70 = .ok (.iload_n 1, 1) := by decide +kernel
theorem dX4_pass_71 : decode cX4_pass 71 = .ok (.aload_n 0, 1) := by decide +kernel
theorem dX4_pass_72 : decode cX4_pass 72 = .ok (.iload_n 1, 1) := by decide +kernel
theorem dX4_pass_73 : decode cX4_pass 73 = .ok (.invokevirtual 64, 3) := by decide +kernel
theorem dX4_pass_76 : decode cX4_pass 76 = .ok (.bastore, 1) := by decide +kernel
theorem dX4_pass_77 : decode cX4_pass 77 = .ok (.iinc 1 1, 3) := by decide +kernel
theorem dX4_pass_80 : decode cX4_pass 80 = .ok (.goto (-29), 3) := by decide +kernel
theorem dX4_pass_83 : decode cX4_pass 83 = .ok (.iconst 0, 1) := by decide +kernel
theorem dX4_pass_84 : decode cX4_pass 84 = .ok (.istore_n 1, 1) := by decide +kernel
theorem dX4_pass_85 : decode cX4_pass 85 = .ok (.iconst 0, 1) := by decide +kernel
theorem dX4_pass_86 : decode cX4_pass 86 = .ok (.istore_n 2, 1) := by decide +kernel
theorem dX4_pass_87 : decode cX4_pass 87 = .ok (.iload_n 2, 1) := by decide +kernel
theorem dX4_pass_88 : decode cX4_pass 88 = .ok (.aload_n 0, 1) := by decide +kernel
theorem dX4_pass_89 : decode cX4_pass 89 = .ok (.getfield 32, 3) := by decide +kernel
theorem dX4_pass_92 : decode cX4_pass 92 = .ok (.if_icmp .ge 25, 3) := by decide +kernel
theorem dX4_pass_95 : decode cX4_pass 95 = .ok (.aload_n 0, 1) := by decide +kernel
theorem dX4_pass_96 : decode cX4_pass 96 = .ok (.iload_n 2, 1) := by decide +kernel
theorem dX4_pass_97 : decode cX4_pass 97 = .ok (.invokevirtual 47, 3) := by decide +kernel
theorem dX4_pass_100 : decode cX4_pass 100 = .ok (.ifCond .eq 11, 3) := by decide +kernel
theorem dX4_pass_103 : decode cX4_pass 103 = .ok (.iload_n 1, 1) := by decide +kernel
theorem dX4_pass_104 : decode cX4_pass 104 = .ok (.aload_n 0, 1) := by decide +kernel
theorem dX4_pass_105 : decode cX4_pass 105 = .ok (.iload_n 2, 1) := by decide +kernel
theorem dX4_pass_106 : decode cX4_pass 106 = .ok (.invokevirtual 67, 3) := by decide +kernel
theorem dX4_pass_109 : decode cX4_pass 109 = .ok (.iadd, 1) := by decide +kernel
theorem dX4_pass_110 : decode cX4_pass 110 = .ok (.istore_n 1, 1) := by decide +kernel
theorem dX4_pass_111 : decode cX4_pass 111 = .ok (.iinc 2 1, 3) := by decide +kernel
theorem dX4_pass_114 : decode cX4_pass 114 = .ok (.goto (-27), 3) := by decide +kernel
theorem dX4_pass_117 : decode cX4_pass 117 = .ok (.iconst 0, 1) := by decide +kernel
theorem dX4_pass_118 : decode cX4_pass 118 = .ok (.istore_n 2, 1) := by decide +kernel
theorem dX4_pass_119 : decode cX4_pass 119 = .ok (.iload_n 2, 1) := by decide +kernel
theorem dX4_pass_120 : decode cX4_pass 120 = .ok (.aload_n 0, 1) := by decide +kernel
theorem dX4_pass_121 : decode cX4_pass 121 = .ok (.getfield 35, 3) := by decide +kernel
theorem dX4_pass_124 : decode cX4_pass 124 = .ok (.if_icmp .ge 14, 3) := by decide +kernel
theorem dX4_pass_127 : decode cX4_pass 127 = .ok (.aload_n 0, 1) := by decide +kernel
theorem dX4_pass_128 : decode cX4_pass 128 = .ok (.iload_n 2, 1) := by decide +kernel
theorem dX4_pass_129 : decode cX4_pass 129 = .ok (.invokevirtual 71, 3) := by decide +kernel
theorem dX4_pass_132 : decode cX4_pass 132 = .ok (.iinc 2 1, 3) := by decide +kernel
theorem dX4_pass_135 : decode cX4_pass 135 = .ok (.goto (-16), 3) := by decide +kernel
theorem dX4_pass_138 : decode cX4_pass 138 = .ok (.iconst 0, 1) := by decide +kernel
theorem dX4_pass_139 : decode cX4_pass 139 = .ok (.istore_n 2, 1) := by decide +kernel
theorem dX4_pass_140 : decode cX4_pass 140 = .ok (.iload_n 2, 1) := by decide +kernel
theorem dX4_pass_141 : decode cX4_pass 141 = .ok (.aload_n 0, 1) := by decide +kernel
theorem dX4_pass_142 : decode cX4_pass 142 = .ok (.getfield 35, 3) := by decide +kernel
theorem dX4_pass_145 : decode cX4_pass 145 = .ok (.if_icmp .ge 45, 3) := by decide +kernel
theorem dX4_pass_148 : decode cX4_pass 148 = .ok (.aload_n 0, 1) := by decide +kernel
theorem dX4_pass_149 : decode cX4_pass 149 = .ok (.getfield 15, 3) := by decide +kernel
theorem dX4_pass_152 : decode cX4_pass 152 = .ok (.bipush 11, 2) := by decide +kernel
theorem dX4_pass_154 : decode cX4_pass 154 = .ok (.iload_n 2, 1) := by decide +kernel
theorem dX4_pass_155 : decode cX4_pass 155 = .ok (.imul, 1) := by decide +kernel
theorem dX4_pass_156 : decode cX4_pass 156 = .ok (.sipush 200, 3) := by decide +kernel
theorem dX4_pass_159 : decode cX4_pass 159 = .ok (.aload_n 0, 1) := by decide +kernel
theorem dX4_pass_160 : decode cX4_pass 160 = .ok (.getfield 15, 3) := by decide +kernel
theorem dX4_pass_163 : decode cX4_pass 163 = .ok (.bipush 11, 2) := by decide +kernel
theorem dX4_pass_165 : decode cX4_pass 165 = .ok (.iload_n 2, 1) := by decide +kernel
theorem dX4_pass_166 : decode cX4_pass 166 = .ok (.imul, 1) := by decide +kernel
theorem dX4_pass_167 : decode cX4_pass 167 = .ok (.iaload, 1) := by decide +kernel
theorem dX4_pass_168 : decode cX4_pass 168 = .ok (.aload_n 0, 1) := by decide +kernel
theorem dX4_pass_169 : decode cX4_pass 169 = .ok (.getfield 15, 3) := by decide +kernel
theorem dX4_pass_172 : decode cX4_pass 172 = .ok (.bipush 11, 2) := by decide +kernel
theorem dX4_pass_174 : decode cX4_pass 174 = .ok (.iload_n 2, 1) := by decide +kernel
theorem dX4_pass_175 : decode cX4_pass 175 = .ok (.imul, 1) := by decide +kernel
theorem dX4_pass_176 : decode cX4_pass 176 = .ok (.iconst 1, 1) := by decide +kernel
theorem dX4_pass_177 : decode cX4_pass 177 = .ok (.iadd, 1) := by decide +kernel
theorem dX4_pass_178 : decode cX4_pass 178 = .ok (.iaload, 1) := by decide +kernel
theorem dX4_pass_179 : decode cX4_pass 179 = .ok (.iadd, 1) := by decide +kernel
theorem dX4_pass_180 : decode cX4_pass 180 = .ok (.invokestatic 51, 3) := by decide +kernel
theorem dX4_pass_183 : decode cX4_pass 183 = .ok (.iastore, 1) := by decide +kernel
theorem dX4_pass_184 : decode cX4_pass 184 = .ok (.iinc 2 1, 3) := by decide +kernel
theorem dX4_pass_187 : decode cX4_pass 187 = .ok (.goto (-47), 3) := by decide +kernel
theorem dX4_pass_190 : decode cX4_pass 190 = .ok (.aload_n 0, 1) := by decide +kernel
theorem dX4_pass_191 : decode cX4_pass 191 = .ok (.getfield 28, 3) := by decide +kernel
theorem dX4_pass_194 : decode cX4_pass 194 = .ok (.bipush 7, 2) := by decide +kernel
theorem dX4_pass_196 : decode cX4_pass 196 = .ok (.irem, 1) := by decide +kernel
theorem dX4_pass_197 : decode cX4_pass 197 = .ok (.bipush 6, 2) := by decide +kernel
theorem dX4_pass_199 : decode cX4_pass 199 = .ok (.if_icmp .ne 16, 3) := by decide +kernel
theorem dX4_pass_202 : decode cX4_pass 202 = .ok (.aload_n 0, 1) := by decide +kernel
theorem dX4_pass_203 : decode cX4_pass 203 = .ok (.getfield 38, 3) := by decide +kernel
theorem dX4_pass_206 : decode cX4_pass 206 = .ok (.bipush 20, 2) := by decide +kernel
theorem dX4_pass_208 : decode cX4_pass 208 = .ok (.if_icmp .le 7, 3) := by decide +kernel
theorem dX4_pass_211 : decode cX4_pass 211 = .ok (.aload_n 0, 1) := by decide +kernel
theorem dX4_pass_212 : decode cX4_pass 212 = .ok (.invokevirtual 75, 3) := by decide +kernel
theorem dX4_pass_215 : decode cX4_pass 215 = .ok (.iconst 0, 1) := by decide +kernel
theorem dX4_pass_216 : decode cX4_pass 216 = .ok (.istore_n 2, 1) := by decide +kernel
theorem dX4_pass_217 : decode cX4_pass 217 = .ok (.iload_n 2, 1) := by decide +kernel
theorem dX4_pass_218 : decode cX4_pass 218 = .ok (.aload_n 0, 1) := by decide +kernel
theorem dX4_pass_219 : decode cX4_pass 219 = .ok (.getfield 32, 3) := by decide +kernel
theorem dX4_pass_222 : decode cX4_pass 222 = .ok (.if_icmp .ge 39, 3) := by decide +kernel
theorem dX4_pass_225 : decode cX4_pass 225 = .ok (.aload_n 0, 1) := by decide +kernel
theorem dX4_pass_226 : decode cX4_pass 226 = .ok (.getfield 9, 3) := by decide +kernel
theorem dX4_pass_229 : decode cX4_pass 229 = .ok (.bipush 11, 2) := by decide +kernel
theorem dX4_pass_231 : decode cX4_pass 231 = .ok (.iload_n 2, 1) := by decide +kernel
theorem dX4_pass_232 : decode cX4_pass 232 = .ok (.imul, 1) := by decide +kernel
theorem dX4_pass_233 : decode cX4_pass 233 = .ok (.bipush 6, 2) := by decide +kernel
theorem dX4_pass_235 : decode cX4_pass 235 = .ok (.iadd, 1) := by decide +kernel
theorem dX4_pass_236 : decode cX4_pass 236 = .ok (.iconst 0, 1) := by decide +kernel
theorem dX4_pass_237 : decode cX4_pass 237 = .ok (.aload_n 0, 1) := by decide +kernel
theorem dX4_pass_238 : decode cX4_pass 238 = .ok (.getfield 9, 3) := by decide +kernel
theorem dX4_pass_241 : decode cX4_pass 241 = .ok (.bipush 11, 2) := by decide +kernel
theorem dX4_pass_243 : decode cX4_pass 243 = .ok (.iload_n 2, 1) := by decide +kernel
theorem dX4_pass_244 : decode cX4_pass 244 = .ok (.imul, 1) := by decide +kernel
theorem dX4_pass_245 : decode cX4_pass 245 = .ok (.bipush 6, 2) := by decide +kernel
theorem dX4_pass_247 : decode cX4_pass 247 = .ok (.iadd, 1) := by decide +kernel
theorem dX4_pass_248 : decode cX4_pass 248 = .ok (.iaload, 1) := by decide +kernel
theorem dX4_pass_249 : decode cX4_pass 249 = .ok (.iconst 1, 1) := by decide +kernel
theorem dX4_pass_250 : decode cX4_pass 250 = .ok (.isub, 1) := by decide +kernel
theorem dX4_pass_251 : decode cX4_pass 251 = .ok (.invokestatic 78, 3) := by decide +kernel
theorem dX4_pass_254 : decode cX4_pass 254 = .ok (.iastore, 1) := by decide +kernel
theorem dX4_pass_255 : decode cX4_pass 255 = .ok (.iinc 2 1, 3) := by decide +kernel
theorem dX4_pass_258 : decode cX4_pass 258 = .ok (.goto (-41), 3) := by decide +kernel
theorem dX4_pass_261 : decode cX4_pass 261 = .ok (.aload_n 0, 1) := by decide +kernel
theorem dX4_pass_262 : decode cX4_pass 262 = .ok (.dup, 1) := by decide +kernel
theorem dX4_pass_263 : decode cX4_pass 263 = .ok (.getfield 28, 3) := by decide +kernel
theorem dX4_pass_266 : decode cX4_pass 266 = .ok (.iconst 1, 1) := by decide +kernel
theorem dX4_pass_267 : decode cX4_pass 267 = .ok (.iadd, 1) := by decide +kernel
theorem dX4_pass_268 : decode cX4_pass 268 = .ok (.putfield 28, 3) := by decide +kernel
theorem dX4_pass_271 : decode cX4_pass 271 = .ok (.iload_n 1, 1) := by decide +kernel
theorem dX4_pass_272 : decode cX4_pass 272 = .ok (.ireturn, 1) := by decide +kernel
set_option maxRecDepth 20000 in
theorem ggX4_open_X4_isThere : GoodIn wsX4_open wsX4_isThere := goodIn_r _ [8, 3, 27, 28, 29, 30, 31, 32, 33, 34, 35] (by decide +kernel) (by decide +kernel)
set_option maxRecDepth 20000 in
theorem gX4_open_X4_isThere : GoodIn wsX4_open (wsV RX4 47 RX4 yX4_isThere wsX4_isThere) := goodIn_app (goodIn_of _ (by decide +kernel)) ggX4_open_X4_isThere
set_option maxRecDepth 20000 in
theorem ggX4_open_X4_fine : GoodIn wsX4_open wsX4_fine := goodIn_r _ [12, 3, 13, 14, 15, 16, 17, 18, 19, 20, 21, 7, 22, 1, 2, 23, 24, 25, 26, 27, 28, 29, 30, 31, 32, 33, 34, 35] (by decide +kernel) (by decide +kernel)
set_option maxRecDepth 20000 in
theorem gX4_open_X4_fine : GoodIn wsX4_open (wsV RX4 81 RX4 yX4_fine wsX4_fine) := goodIn_app (goodIn_of _ (by decide +kernel)) ggX4_open_X4_fine
theorem dX4_open_0 : decode cX4_open 0 = .ok (.bipush 11, 2) := by decide +kernel
theorem dX4_open_2 : decode cX4_open 2 = .ok (.iload_n 1, 1) := by decide +kernel
theorem dX4_open_3 : decode cX4_open 3 = .ok (.imul, 1) := by decide +kernel
theorem dX4_open_4 : decode cX4_open 4 = .ok (.istore_n 2, 1) := by decide +kernel
theorem dX4_open_5 : decode cX4_open 5 = .ok (.iconst (-1), 1) := by decide +kernel
theorem dX4_open_6 : decode cX4_open 6 = .ok (.istore_n 3, 1) := by decide +kernel
theorem dX4_open_7 : decode cX4_open 7 = .ok (.iconst 0, 1) := by decide +kernel
theorem dX4_open_8 : decode cX4_open 8 = .ok (.istore 4, 2) := by decide +kernel
theorem dX4_open_10 : decode cX4_open 10 = .ok (.iload 4, 2) := by decide +kernel
theorem dX4_open_12 : decode cX4_open 12 = .ok (.aload_n 0, 1) := by decide +kernel
theorem dX4_open_13 : decode cX4_open 13 = .ok (.getfield 15, 3) := by decide +kernel
theorem dX4_open_16 : decode cX4_open 16 = .ok (.iload_n 2, 1) := by decide +kernel
theorem dX4_open_17 : decode cX4_open 17 = .ok (.bipush 6, 2) := by decide +kernel
theorem dX4_open_19 : decode cX4_open 19 = .ok (.iadd, 1) := by decide +kernel
theorem dX4_open_20 : decode cX4_open 20 = .ok (.iaload, 1) := by decide +kernel
theorem dX4_open_21 : decode cX4_open 21 = .ok (.if_icmp .ge 60, 3) := by decide +kernel
theorem dX4_open_24 : decode cX4_open 24 = .ok (.iload_n 3, 1) := by decide +kernel
theorem dX4_open_25 : decode cX4_open 25 = .ok (.iconst (-1), 1) := by decide +kernel
theorem dX4_open_26 : decode cX4_open 26 = .ok (.if_icmp .ne 55, 3) := by decide +kernel
theorem dX4_open_29 : decode cX4_open 29 = .ok (.aload_n 0, 1) := by decide +kernel
theorem dX4_open_30 : decode cX4_open 30 = .ok (.getfield 15, 3) := by decide +kernel
theorem dX4_open_33 : decode cX4_open 33 = .ok (.iload_n 2, 1) := by decide +kernel
theorem dX4_open_34 : decode cX4_open 34 = .ok (.bipush 7, 2) := by decide +kernel
theorem dX4_open_36 : decode cX4_open 36 = .ok (.iadd, 1) := by decide +kernel
theorem dX4_open_37 : decode cX4_open 37 = .ok (.iaload, 1) := by decide +kernel
theorem dX4_open_38 : decode cX4_open 38 = .ok (.iload 4, 2) := by decide +kernel
theorem dX4_open_40 : decode cX4_open 40 = .ok (.iadd, 1) := by decide +kernel
theorem dX4_open_41 : decode cX4_open 41 = .ok (.aload_n 0, 1) := by decide +kernel
theorem dX4_open_42 : decode cX4_open 42 = .ok (.getfield 15, 3) := by decide +kernel
theorem dX4_open_45 : decode cX4_open 45 = .ok (.iload_n 2, 1) := by decide +kernel
theorem dX4_open_46 : decode cX4_open 46 = .ok (.bipush 6, 2) := by decide +kernel
theorem dX4_open_48 : decode cX4_open 48 = .ok (.iadd, 1) := by decide +kernel
theorem dX4_open_49 : decode cX4_open 49 = .ok (.iaload, 1) := by decide +kernel
theorem dX4_open_50 : decode cX4_open 50 = .ok (.irem, 1) := by decide +kernel
theorem dX4_open_51 : decode cX4_open 51 = .ok (.istore 5, 2) := by decide +kernel
theorem dX4_open_53 : decode cX4_open 53 = .ok (.aload_n 0, 1) := by decide +kernel
theorem dX4_open_54 : decode cX4_open 54 = .ok (.aload_n 0, 1) := by decide +kernel
theorem dX4_open_55 : decode cX4_open 55 = .ok (.getfield 18, 3) := by decide +kernel
theorem dX4_open_58 : decode cX4_open 58 = .ok (.bipush 10, 2) := by decide +kernel
theorem dX4_open_60 : decode cX4_open 60 = .ok (.iload_n 1, 1) := by decide +kernel
theorem dX4_open_61 : decode cX4_open 61 = .ok (.imul, 1) := by decide +kernel
theorem dX4_open_62 : decode cX4_open 62 = .ok (.iload 5, 2) := by decide +kernel
theorem dX4_open_64 : decode cX4_open 64 = .ok (.iadd, 1) := by decide +kernel
theorem dX4_open_65 : decode cX4_open 65 = .ok (.iaload, 1) := by decide +kernel
theorem dX4_open_66 : decode cX4_open 66 = .ok (.invokevirtual 47, 3) := by decide +kernel
theorem dX4_open_69 : decode cX4_open 69 = .ok (.ifCond .eq 6, 3) := by decide +kernel
theorem dX4_open_72 : decode cX4_open 72 = .ok (.iload 5, 2) := by decide +kernel
theorem dX4_open_74 : decode cX4_open 74 = .ok (.istore_n 3, 1) := by decide +kernel
theorem dX4_open_75 : decode cX4_open 75 = .ok (.iinc 4 1, 3) := by decide +kernel
theorem dX4_open_78 : decode cX4_open 78 = .ok (.goto (-68), 3) := by decide +kernel
theorem dX4_open_81 : decode cX4_open 81 = .ok (.iload_n 3, 1) := by decide +kernel
theorem dX4_open_82 : decode cX4_open 82 = .ok (.iconst (-1), 1) := by decide +kernel
theorem dX4_open_83 : decode cX4_open 83 = .ok (.if_icmp .ne 5, 3) := by decide +kernel
theorem dX4_open_86 : decode cX4_open 86 = .ok (.iconst 0, 1) := by decide +kernel
theorem dX4_open_87 : decode cX4_open 87 = .ok (.ireturn, 1) := by decide +kernel
theorem dX4_open_88 : decode cX4_open 88 = .ok (.aload_n 0, 1) := by decide +kernel
theorem dX4_open_89 : decode cX4_open 89 = .ok (.getfield 18, 3) := by decide +kernel
theorem dX4_open_92 : decode cX4_open 92 = .ok (.bipush 10, 2) := by decide +kernel
theorem dX4_open_94 : decode cX4_open 94 = .ok (.iload_n 1, 1) := by decide +kernel
theorem dX4_open_95 : decode cX4_open 95 = .ok (.imul, 1) := by decide +kernel
theorem dX4_open_96 : decode cX4_open 96 = .ok (.iload_n 3, 1) := by decide +kernel
theorem dX4_open_97 : decode cX4_open 97 = .ok (.iadd, 1) := by decide +kernel
theorem dX4_open_98 : decode cX4_open 98 = .ok (.iaload, 1) := by decide +kernel
theorem dX4_open_99 : decode cX4_open 99 = .ok (.istore 4, 2) := by decide +kernel
theorem dX4_open_101 : decode cX4_open 101 = .ok (.aload_n 0, 1) := by decide +kernel
theorem dX4_open_102 : decode cX4_open 102 = .ok (.getfield 15, 3) := by decide +kernel
theorem dX4_open_105 : decode cX4_open 105 = .ok (.iload_n 2, 1) := by decide +kernel
theorem dX4_open_106 : decode cX4_open 106 = .ok (.bipush 7, 2) := by decide +kernel
theorem dX4_open_108 : decode cX4_open 108 = .ok (.iadd, 1) := by decide +kernel
theorem dX4_open_109 : decode cX4_open 109 = .ok (.iload_n 3, 1) := by decide +kernel
theorem dX4_open_110 : decode cX4_open 110 = .ok (.iconst 1, 1) := by decide +kernel
theorem dX4_open_111 : decode cX4_open 111 = .ok (.iadd, 1) := by decide +kernel
theorem dX4_open_112 : decode cX4_open 112 = .ok (.aload_n 0, 1) := by decide +kernel
theorem dX4_open_113 : decode cX4_open 113 = .ok (.getfield 15, 3) := by decide +kernel
theorem dX4_open_116 : decode cX4_open 116 = .ok (.iload_n 2, 1) := by decide +kernel
theorem dX4_open_117 : decode cX4_open 117 = .ok (.bipush 6, 2) := by decide +kernel
theorem dX4_open_119 : decode cX4_open 119 = .ok (.iadd, 1) := by decide +kernel
theorem dX4_open_120 : decode cX4_open 120 = .ok (.iaload, 1) := by decide +kernel
theorem dX4_open_121 : decode cX4_open 121 = .ok (.irem, 1) := by decide +kernel
theorem dX4_open_122 : decode cX4_open 122 = .ok (.iastore, 1) := by decide +kernel
theorem dX4_open_123 : decode cX4_open 123 = .ok (.aload_n 0, 1) := by decide +kernel
theorem dX4_open_124 : decode cX4_open 124 = .ok (.getfield 15, 3) := by decide +kernel
theorem dX4_open_127 : decode cX4_open 127 = .ok (.iload_n 2, 1) := by decide +kernel
theorem dX4_open_128 : decode cX4_open 128 = .ok (.iconst 5, 1) := by decide +kernel
