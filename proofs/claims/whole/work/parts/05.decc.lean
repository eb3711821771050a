theorem dX0_init_0 : decode cX0_init 0 = .ok (.aload_n 0, 1) := by decide +kernel
theorem dX0_init_1 : decode cX0_init 1 = .ok (.invokespecial 3, 3) := by decide +kernel
theorem dX0_init_4 : decode cX0_init 4 = .ok (.aload_n 0, 1) := by decide +kernel
theorem dX0_init_5 : decode cX0_init 5 = .ok (.bipush 14, 2) := by decide +kernel
theorem dX0_init_7 : decode cX0_init 7 = .ok (.newarray .int, 2) := by decide +kernel
theorem dX0_init_9 : decode cX0_init 9 = .ok (.putfield 9, 3) := by decide +kernel
theorem dX0_init_12 : decode cX0_init 12 = .ok (.return_, 1) := by decide +kernel
set_option maxRecDepth 20000 in
theorem ggX0_get_X7_at : GoodIn wsX0_get wsX7_at := goodIn_ca (goodIn_r _ [4] (by decide +kernel) (by decide +kernel)) (goodIn_sub (fun _ h => List.mem_cons_of_mem _ (List.mem_append_right _ h)) (by decide +kernel))
set_option maxRecDepth 20000 in
theorem gX0_get_X7_at_n15 : GoodIn wsX0_get (wsX7_at) := ggX0_get_X7_at
theorem dX0_get_0 : decode cX0_get 0 = .ok (.aload_n 0, 1) := by decide +kernel
theorem dX0_get_1 : decode cX0_get 1 = .ok (.getfield 9, 3) := by decide +kernel
theorem dX0_get_4 : decode cX0_get 4 = .ok (.iload_n 1, 1) := by decide +kernel
theorem dX0_get_5 : decode cX0_get 5 = .ok (.invokestatic 15, 3) := by decide +kernel
theorem dX0_get_8 : decode cX0_get 8 = .ok (.ireturn, 1) := by decide +kernel
set_option maxRecDepth 20000 in
theorem ggX0_tell_X0_drop : GoodIn wsX0_tell wsX0_drop := goodIn_ca (goodIn_r _ [9, 2, 1, 3, 4, 10, 11, 12, 13, 14, 15, 16, 17, 18, 19, 20] (by decide +kernel) (by decide +kernel)) (goodIn_sub (fun _ h => List.mem_cons_of_mem _ (List.mem_append_right _ h)) (by decide +kernel))
set_option maxRecDepth 20000 in
theorem gX0_tell_X0_drop : GoodIn wsX0_tell (wsV RX0 19 RX0 yX0_drop wsX0_drop) := goodIn_app (goodIn_of _ (by decide +kernel)) ggX0_tell_X0_drop
set_option maxRecDepth 20000 in
theorem ggX0_tell_X7_put : GoodIn wsX0_tell wsX7_put := goodIn_ca (goodIn_r _ [14] (by decide +kernel) (by decide +kernel)) (goodIn_sub (fun _ h => List.mem_cons_of_mem _ (List.mem_append_right _ h)) (by decide +kernel))
set_option maxRecDepth 20000 in
theorem gX0_tell_X7_put_n27 : GoodIn wsX0_tell (wsX7_put) := ggX0_tell_X7_put
set_option maxRecDepth 20000 in
theorem ggX0_tell_X7_bit : GoodIn wsX0_tell wsX7_bit := goodIn_r _ [16] (by decide +kernel) (by decide +kernel)
set_option maxRecDepth 20000 in
theorem gX0_tell_X7_bit_n34 : GoodIn wsX0_tell (wsX7_bit) := ggX0_tell_X7_bit
theorem dX0_tell_0 : decode cX0_tell 0 = .ok (.aload_n 0, 1) := by decide +kernel
theorem dX0_tell_1 : decode cX0_tell 1 = .ok (.iload_n 1, 1) := by decide +kernel
theorem dX0_tell_2 : decode cX0_tell 2 = .ok (.invokevirtual 19, 3) := by decide +kernel
theorem dX0_tell_5 : decode cX0_tell 5 = .ok (.aload_n 0, 1) := by decide +kernel
theorem dX0_tell_6 : decode cX0_tell 6 = .ok (.getfield 9, 3) := by decide +kernel
theorem dX0_tell_9 : decode cX0_tell 9 = .ok (.aload_n 0, 1) := by decide +kernel
theorem dX0_tell_10 : decode cX0_tell 10 = .ok (.getfield 23, 3) := by decide +kernel
theorem dX0_tell_13 : decode cX0_tell 13 = .ok (.iload_n 2, 1) := by decide +kernel
theorem dX0_tell_14 : decode cX0_tell 14 = .ok (.ifCond .eq 7, 3) := by decide +kernel
theorem dX0_tell_17 : decode cX0_tell 17 = .ok (.iload_n 1, 1) := by decide +kernel
theorem dX0_tell_18 : decode cX0_tell 18 = .ok (.goto 5, 3) := by decide +kernel
theorem dX0_tell_21 : decode cX0_tell 21 = .ok (.iload_n 1, 1) := by decide +kernel
theorem dX0_tell_22 : decode cX0_tell 22 = .ok (.ineg, 1) := by decide +kernel
theorem dX0_tell_23 : decode cX0_tell 23 = .ok (.invokestatic 27, 3) := by decide +kernel
theorem dX0_tell_26 : decode cX0_tell 26 = .ok (.aload_n 0, 1) := by decide +kernel
theorem dX0_tell_27 : decode cX0_tell 27 = .ok (.dup, 1) := by decide +kernel
theorem dX0_tell_28 : decode cX0_tell 28 = .ok (.getfield 23, 3) := by decide +kernel
theorem dX0_tell_31 : decode cX0_tell 31 = .ok (.iconst 1, 1) := by decide +kernel
theorem dX0_tell_32 : decode cX0_tell 32 = .ok (.iadd, 1) := by decide +kernel
theorem dX0_tell_33 : decode cX0_tell 33 = .ok (.putfield 23, 3) := by decide +kernel
theorem dX0_tell_36 : decode cX0_tell 36 = .ok (.aload_n 0, 1) := by decide +kernel
theorem dX0_tell_37 : decode cX0_tell 37 = .ok (.dup, 1) := by decide +kernel
theorem dX0_tell_38 : decode cX0_tell 38 = .ok (.getfield 31, 3) := by decide +kernel
theorem dX0_tell_41 : decode cX0_tell 41 = .ok (.iload_n 2, 1) := by decide +kernel
theorem dX0_tell_42 : decode cX0_tell 42 = .ok (.ifCond .eq 10, 3) := by decide +kernel
theorem dX0_tell_45 : decode cX0_tell 45 = .ok (.iload_n 1, 1) := by decide +kernel
theorem dX0_tell_46 : decode cX0_tell 46 = .ok (.invokestatic 34, 3) := by decide +kernel
theorem dX0_tell_49 : decode cX0_tell 49 = .ok (.goto 4, 3) := by decide +kernel
theorem dX0_tell_52 : decode cX0_tell 52 = .ok (.iconst 0, 1) := by decide +kernel
theorem dX0_tell_53 : decode cX0_tell 53 = .ok (.ior, 1) := by decide +kernel
theorem dX0_tell_54 : decode cX0_tell 54 = .ok (.putfield 31, 3) := by decide +kernel
theorem dX0_tell_57 : decode cX0_tell 57 = .ok (.aload_n 0, 1) := by decide +kernel
theorem dX0_tell_58 : decode cX0_tell 58 = .ok (.dup, 1) := by decide +kernel
theorem dX0_tell_59 : decode cX0_tell 59 = .ok (.getfield 38, 3) := by decide +kernel
theorem dX0_tell_62 : decode cX0_tell 62 = .ok (.iload_n 2, 1) := by decide +kernel
theorem dX0_tell_63 : decode cX0_tell 63 = .ok (.ifCond .eq 7, 3) := by decide +kernel
theorem dX0_tell_66 : decode cX0_tell 66 = .ok (.iconst 0, 1) := by decide +kernel
theorem dX0_tell_67 : decode cX0_tell 67 = .ok (.goto 7, 3) := by decide +kernel
theorem dX0_tell_70 : decode cX0_tell 70 = .ok (.iload_n 1, 1) := by decide +kernel
theorem dX0_tell_71 : decode cX0_tell 71 = .ok (.invokestatic 34, 3) := by decide +kernel
theorem dX0_tell_74 : decode cX0_tell 74 = .ok (.ior, 1) := by decide +kernel
theorem dX0_tell_75 : decode cX0_tell 75 = .ok (.putfield 38, 3) := by decide +kernel
theorem dX0_tell_78 : decode cX0_tell 78 = .ok (.return_, 1) := by decide +kernel
set_option maxRecDepth 20000 in
theorem ggX0_drop_X7_at : GoodIn wsX0_drop wsX7_at := goodIn_ca (goodIn_r _ [7] (by decide +kernel) (by decide +kernel)) (goodIn_sub (fun _ h => List.mem_cons_of_mem _ (List.mem_append_right _ h)) (by decide +kernel))
set_option maxRecDepth 20000 in
theorem gX0_drop_X7_at_n15 : GoodIn wsX0_drop (wsX7_at) := ggX0_drop_X7_at
set_option maxRecDepth 20000 in
theorem ggX0_drop_X7_put : GoodIn wsX0_drop wsX7_put := goodIn_ca (goodIn_r _ [9] (by decide +kernel) (by decide +kernel)) (goodIn_sub (fun _ h => List.mem_cons_of_mem _ (List.mem_append_right _ h)) (by decide +kernel))
set_option maxRecDepth 20000 in
theorem gX0_drop_X7_put_n27 : GoodIn wsX0_drop (wsX7_put) := ggX0_drop_X7_put
set_option maxRecDepth 20000 in
theorem ggX0_drop_X7_bit : GoodIn wsX0_drop wsX7_bit := goodIn_r _ [11] (by decide +kernel) (by decide +kernel)
set_option maxRecDepth 20000 in
theorem gX0_drop_X7_bit_n34 : GoodIn wsX0_drop (wsX7_bit) := ggX0_drop_X7_bit
theorem dX0_drop_0 : decode cX0_drop 0 = .ok (.iconst 0, 1) := by decide +kernel
theorem dX0_drop_1 : decode cX0_drop 1 = .ok (.istore_n 2, 1) := by decide +kernel
theorem dX0_drop_2 : decode cX0_drop 2 = .ok (.iconst 0, 1) := by decide +kernel
theorem dX0_drop_3 : decode cX0_drop 3 = .ok (.istore_n 3, 1) := by decide +kernel
theorem dX0_drop_4 : decode cX0_drop 4 = .ok (.iload_n 3, 1) := by decide +kernel
theorem dX0_drop_5 : decode cX0_drop 5 = .ok (.aload_n 0, 1) := by decide +kernel
theorem dX0_drop_6 : decode cX0_drop 6 = .ok (.getfield 23, 3) := by decide +kernel
theorem dX0_drop_9 : decode cX0_drop 9 = .ok (.if_icmp .ge 45, 3) := by decide +kernel
theorem dX0_drop_12 : decode cX0_drop 12 = .ok (.aload_n 0, 1) := by decide +kernel
theorem dX0_drop_13 : decode cX0_drop 13 = .ok (.getfield 9, 3) := by decide +kernel
theorem dX0_drop_16 : decode cX0_drop 16 = .ok (.iload_n 3, 1) := by decide +kernel
theorem dX0_drop_17 : decode cX0_drop 17 = .ok (.invokestatic 15, 3) := by decide +kernel
theorem dX0_drop_20 : decode cX0_drop 20 = .ok (.istore 4, 2) := by decide +kernel
theorem dX0_drop_22 : decode cX0_drop 22 = .ok (.iload 4, 2) := by decide +kernel
theorem dX0_drop_24 : decode cX0_drop 24 = .ok (.iload_n 1, 1) := by decide +kernel
theorem dX0_drop_25 : decode cX0_drop 25 = .ok (.if_icmp .eq 23, 3) := by decide +kernel
theorem dX0_drop_28 : decode cX0_drop 28 = .ok (.iload 4, 2) := by decide +kernel
theorem dX0_drop_30 : decode cX0_drop 30 = .ok (.iload_n 1, 1) := by decide +kernel
theorem dX0_drop_31 : decode cX0_drop 31 = .ok (.ineg, 1) := by decide +kernel
theorem dX0_drop_32 : decode cX0_drop 32 = .ok (.if_icmp .eq 16, 3) := by decide +kernel
theorem dX0_drop_35 : decode cX0_drop 35 = .ok (.aload_n 0, 1) := by decide +kernel
theorem dX0_drop_36 : decode cX0_drop 36 = .ok (.getfield 9, 3) := by decide +kernel
theorem dX0_drop_39 : decode cX0_drop 39 = .ok (.iload_n 2, 1) := by decide +kernel
theorem dX0_drop_40 : decode cX0_drop 40 = .ok (.iload 4, 2) := by decide +kernel
theorem dX0_drop_42 : decode cX0_drop 42 = .ok (.invokestatic 27, 3) := by decide +kernel
theorem dX0_drop_45 : decode cX0_drop 45 = .ok (.iinc 2 1, 3) := by decide +kernel
theorem dX0_drop_48 : decode cX0_drop 48 = .ok (.iinc 3 1, 3) := by decide +kernel
theorem dX0_drop_51 : decode cX0_drop 51 = .ok (.goto (-47), 3) := by decide +kernel
theorem dX0_drop_54 : decode cX0_drop 54 = .ok (.aload_n 0, 1) := by decide +kernel
theorem dX0_drop_55 : decode cX0_drop 55 = .ok (.iload_n 2, 1) := by decide +kernel
theorem dX0_drop_56 : decode cX0_drop 56 = .ok (.putfield 23, 3) := by decide +kernel
theorem dX0_drop_59 : decode cX0_drop 59 = .ok (.aload_n 0, 1) := by decide +kernel
theorem dX0_drop_60 : decode cX0_drop 60 = .ok (.dup, 1) := by decide +kernel
theorem dX0_drop_61 : decode cX0_drop 61 = .ok (.getfield 31, 3) := by decide +kernel
theorem dX0_drop_64 : decode cX0_drop 64 = .ok (.iload_n 1, 1) := by decide +kernel
theorem dX0_drop_65 : decode cX0_drop 65 = .ok (.invokestatic 34, 3) := by decide +kernel
theorem dX0_drop_68 : decode cX0_drop 68 = .ok (.iconst (-1), 1) := by decide +kernel
theorem dX0_drop_69 : decode cX0_drop 69 = .ok (.ixor, 1) := by decide +kernel
theorem dX0_drop_70 : decode cX0_drop 70 = .ok (.iand, 1) := by decide +kernel
theorem dX0_drop_71 : decode cX0_drop 71 = .ok (.putfield 31, 3) := by decide +kernel
theorem dX0_drop_74 : decode cX0_drop 74 = .ok (.aload_n 0, 1) := by decide +kernel
theorem dX0_drop_75 : decode cX0_drop 75 = .ok (.dup, 1) := by decide +kernel
theorem dX0_drop_76 : decode cX0_drop 76 = .ok (.getfield 38, 3) := by decide +kernel
theorem dX0_drop_79 : decode cX0_drop 79 = .ok (.iload_n 1, 1) := by decide +kernel
theorem dX0_drop_80 : decode cX0_drop 80 = .ok (.invokestatic 34, 3) := by decide +kernel
theorem dX0_drop_83 : decode cX0_drop 83 = .ok (.iconst (-1), 1) := by decide +kernel
theorem dX0_drop_84 : decode cX0_drop 84 = .ok (.ixor, 1) := by decide +kernel
theorem dX0_drop_85 : decode cX0_drop 85 = .ok (.iand, 1) := by decide +kernel
theorem dX0_drop_86 : decode cX0_drop 86 = .ok (.putfield 38, 3) := by decide +kernel
theorem dX0_drop_89 : decode cX0_drop 89 = .ok (.return_, 1) := by decide +kernel
theorem dX1_init_0 : decode cX1_init 0 = .ok (.aload_n 0, 1) := by decide +kernel
theorem dX1_init_1 : decode cX1_init 1 = .ok (.invokespecial 3, 3) := by decide +kernel
theorem dX1_init_4 : decode cX1_init 4 = .ok (.aload_n 0, 1) := by decide +kernel
theorem dX1_init_5 : decode cX1_init 5 = .ok (.bipush 40, 2) := by decide +kernel
theorem dX1_init_7 : decode cX1_init 7 = .ok (.newarray .int, 2) := by decide +kernel
theorem dX1_init_9 : decode cX1_init 9 = .ok (.putfield 9, 3) := by decide +kernel
theorem dX1_init_12 : decode cX1_init 12 = .ok (.aload_n 0, 1) := by decide +kernel
theorem dX1_init_13 : decode cX1_init 13 = .ok (.bipush 40, 2) := by decide +kernel
theorem dX1_init_15 : decode cX1_init 15 = .ok (.newarray .int, 2) := by decide +kernel
theorem dX1_init_17 : decode cX1_init 17 = .ok (.putfield 15, 3) := by decide +kernel
theorem dX1_init_20 : decode cX1_init 20 = .ok (.aload_n 0, 1) := by decide +kernel
theorem dX1_init_21 : decode cX1_init 21 = .ok (.bipush 40, 2) := by decide +kernel
theorem dX1_init_23 : decode cX1_init 23 = .ok (.newarray .int, 2) := by decide +kernel
theorem dX1_init_25 : decode cX1_init 25 = .ok (.putfield 18, 3) := by decide +kernel
theorem dX1_init_28 : decode cX1_init 28 = .ok (.aload_n 0, 1) := by decide +kernel
theorem dX1_init_29 : decode cX1_init 29 = .ok (.bipush 40, 2) := by decide +kernel
theorem dX1_init_31 : decode cX1_init 31 = .ok (.newarray .int, 2) := by decide +kernel
theorem dX1_init_33 : decode cX1_init 33 = .ok (.putfield 21, 3) := by decide +kernel
theorem dX1_init_36 : decode cX1_init 36 = .ok (.aload_n 0, 1) := by decide +kernel
theorem dX1_init_37 : decode cX1_init 37 = .ok (.bipush 40, 2) := by decide +kernel
theorem dX1_init_39 : decode cX1_init 39 = .ok (.newarray .int, 2) := by decide +kernel
theorem dX1_init_41 : decode cX1_init 41 = .ok (.putfield 24, 3) := by decide +kernel
theorem dX1_init_44 : decode cX1_init 44 = .ok (.return_, 1) := by decide +kernel
set_option maxRecDepth 20000 in
theorem ggX1_add_X7_put : GoodIn wsX1_add wsX7_put := goodIn_ca (goodIn_r _ [9] (by decide +kernel) (by decide +kernel)) (goodIn_sub (fun _ h => List.mem_cons_of_mem _ (List.mem_append_right _ h)) (by decide +kernel))
set_option maxRecDepth 20000 in
theorem gX1_add_X7_put_n31 : GoodIn wsX1_add (wsX7_put) := ggX1_add_X7_put
set_option maxRecDepth 20000 in
theorem ggX1_add_X1_bitOf : GoodIn wsX1_add wsX1_bitOf := goodIn_r _ [13, 14, 8, 15] (by decide +kernel) (by decide +kernel)
set_option maxRecDepth 20000 in
theorem gX1_add_X1_bitOf : GoodIn wsX1_add (va_wsS RX1 35 yX1_bitOf wsX1_bitOf) := goodIn_app (goodIn_of _ (by decide +kernel)) ggX1_add_X1_bitOf
set_option maxRecDepth 20000 in
theorem ggX1_add_X7_bit : GoodIn wsX1_add wsX7_bit := goodIn_r _ [15] (by decide +kernel) (by decide +kernel)
set_option maxRecDepth 20000 in
theorem gX1_add_X7_bit_n39 : GoodIn wsX1_add (wsX7_bit) := ggX1_add_X7_bit
theorem dX1_add_0 : decode cX1_add 0 = .ok (.aload_n 0, 1) := by decide +kernel
theorem dX1_add_1 : decode cX1_add 1 = .ok (.getfield 9, 3) := by decide +kernel
theorem dX1_add_4 : decode cX1_add 4 = .ok (.aload_n 0, 1) := by decide +kernel
theorem dX1_add_5 : decode cX1_add 5 = .ok (.getfield 27, 3) := by decide +kernel
theorem dX1_add_8 : decode cX1_add 8 = .ok (.iload_n 1, 1) := by decide +kernel
theorem dX1_add_9 : decode cX1_add 9 = .ok (.invokestatic 31, 3) := by decide +kernel
theorem dX1_add_12 : decode cX1_add 12 = .ok (.aload_n 0, 1) := by decide +kernel
theorem dX1_add_13 : decode cX1_add 13 = .ok (.getfield 15, 3) := by decide +kernel
theorem dX1_add_16 : decode cX1_add 16 = .ok (.aload_n 0, 1) := by decide +kernel
theorem dX1_add_17 : decode cX1_add 17 = .ok (.getfield 27, 3) := by decide +kernel
theorem dX1_add_20 : decode cX1_add 20 = .ok (.iload_n 2, 1) := by decide +kernel
theorem dX1_add_21 : decode cX1_add 21 = .ok (.invokestatic 35, 3) := by decide +kernel
theorem dX1_add_24 : decode cX1_add 24 = .ok (.invokestatic 31, 3) := by decide +kernel
theorem dX1_add_27 : decode cX1_add 27 = .ok (.aload_n 0, 1) := by decide +kernel
theorem dX1_add_28 : decode cX1_add 28 = .ok (.getfield 18, 3) := by decide +kernel
theorem dX1_add_31 : decode cX1_add 31 = .ok (.aload_n 0, 1) := by decide +kernel
theorem dX1_add_32 : decode cX1_add 32 = .ok (.getfield 27, 3) := by decide +kernel
theorem dX1_add_35 : decode cX1_add 35 = .ok (.iload_n 2, 1) := by decide +kernel
theorem dX1_add_36 : decode cX1_add 36 = .ok (.invokestatic 39, 3) := by decide +kernel
theorem dX1_add_39 : decode cX1_add 39 = .ok (.invokestatic 31, 3) := by decide +kernel
theorem dX1_add_42 : decode cX1_add 42 = .ok (.aload_n 0, 1) := by decide +kernel
theorem dX1_add_43 : decode cX1_add 43 = .ok (.getfield 21, 3) := by decide +kernel
theorem dX1_add_46 : decode cX1_add 46 = .ok (.aload_n 0, 1) := by decide +kernel
theorem dX1_add_47 : decode cX1_add 47 = .ok (.getfield 27, 3) := by decide +kernel
theorem dX1_add_50 : decode cX1_add 50 = .ok (.iload_n 3, 1) := by decide +kernel
theorem dX1_add_51 : decode cX1_add 51 = .ok (.invokestatic 35, 3) := by decide +kernel
theorem dX1_add_54 : decode cX1_add 54 = .ok (.invokestatic 31, 3) := by decide +kernel
theorem dX1_add_57 : decode cX1_add 57 = .ok (.aload_n 0, 1) := by decide +kernel
theorem dX1_add_58 : decode cX1_add 58 = .ok (.getfield 24, 3) := by decide +kernel
theorem dX1_add_61 : decode cX1_add 61 = .ok (.aload_n 0, 1) := by decide +kernel
theorem dX1_add_62 : decode cX1_add 62 = .ok (.getfield 27, 3) := by decide +kernel
theorem dX1_add_65 : decode cX1_add 65 = .ok (.iload_n 3, 1) := by decide +kernel
theorem dX1_add_66 : decode cX1_add 66 = .ok (.invokestatic 39, 3) := by decide +kernel
theorem dX1_add_69 : decode cX1_add 69 = .ok (.invokestatic 31, 3) := by decide +kernel
theorem dX1_add_72 : decode cX1_add 72 = .ok (.aload_n 0, 1) := by decide +kernel
theorem dX1_add_73 : decode cX1_add 73 = .ok (.dup, 1) := by decide +kernel
theorem dX1_add_74 : decode cX1_add 74 = .ok (.getfield 27, 3) := by decide +kernel
theorem dX1_add_77 : decode cX1_add 77 = .ok (.iconst 1, 1) := by decide +kernel
theorem dX1_add_78 : decode cX1_add 78 = .ok (.iadd, 1) := by decide +kernel
theorem dX1_add_79 : decode cX1_add 79 = .ok (.putfield 27, 3) := by decide +kernel
theorem dX1_add_82 : decode cX1_add 82 = .ok (.aload_n 0, 1) := by decide +kernel
theorem dX1_add_83 : decode cX1_add 83 = .ok (.getfield 27, 3) := by decide +kernel
theorem dX1_add_86 : decode cX1_add 86 = .ok (.ireturn, 1) := by decide +kernel
set_option maxRecDepth 20000 in
theorem ggX1_keeps_X7_at : GoodIn wsX1_keeps wsX7_at := goodIn_ca (goodIn_r _ [9] (by decide +kernel) (by decide +kernel)) (goodIn_sub (fun _ h => List.mem_cons_of_mem _ (List.mem_append_right _ h)) (by decide +kernel))
set_option maxRecDepth 20000 in
theorem gX1_keeps_X7_at_n42 : GoodIn wsX1_keeps (wsX7_at) := ggX1_keeps_X7_at
set_option maxRecDepth 20000 in
theorem ggX1_keeps_X1_holds : GoodIn wsX1_keeps wsX1_holds := goodIn_r _ [13] (by decide +kernel) (by decide +kernel)
set_option maxRecDepth 20000 in
theorem gX1_keeps_X1_holds : GoodIn wsX1_keeps (va_wsS RX1 46 yX1_holds wsX1_holds) := goodIn_app (goodIn_of _ (by decide +kernel)) ggX1_keeps_X1_holds
theorem dX1_keeps_0 : decode cX1_keeps 0 = .ok (.iconst 0, 1) := by decide +kernel
theorem dX1_keeps_1 : decode cX1_keeps 1 = .ok (.istore_n 2, 1) := by decide +kernel
theorem dX1_keeps_2 : decode cX1_keeps 2 = .ok (.iload_n 2, 1) := by decide +kernel
theorem dX1_keeps_3 : decode cX1_keeps 3 = .ok (.aload_n 0, 1) := by decide +kernel
theorem dX1_keeps_4 : decode cX1_keeps 4 = .ok (.getfield 27, 3) := by decide +kernel
theorem dX1_keeps_7 : decode cX1_keeps 7 = .ok (.if_icmp .ge 83, 3) := by decide +kernel
theorem dX1_keeps_10 : decode cX1_keeps 10 = .ok (.iload_n 1, 1) := by decide +kernel
theorem dX1_keeps_11 : decode cX1_keeps 11 = .ok (.aload_n 0, 1) := by decide +kernel
theorem dX1_keeps_12 : decode cX1_keeps 12 = .ok (.getfield 15, 3) := by decide +kernel
theorem dX1_keeps_15 : decode cX1_keeps 15 = .ok (.iload_n 2, 1) := by decide +kernel
theorem dX1_keeps_16 : decode cX1_keeps 16 = .ok (.invokestatic 42, 3) := by decide +kernel
theorem dX1_keeps_19 : decode cX1_keeps 19 = .ok (.iand, 1) := by decide +kernel
theorem dX1_keeps_20 : decode cX1_keeps 20 = .ok (.aload_n 0, 1) := by decide +kernel
theorem dX1_keeps_21 : decode cX1_keeps 21 = .ok (.getfield 18, 3) := by decide +kernel
theorem dX1_keeps_24 : decode cX1_keeps 24 = .ok (.iload_n 2, 1) := by decide +kernel
theorem dX1_keeps_25 : decode cX1_keeps 25 = .ok (.invokestatic 42, 3) := by decide +kernel
theorem dX1_keeps_28 : decode cX1_keeps 28 = .ok (.if_icmp .ne 7, 3) := by decide +kernel
theorem dX1_keeps_31 : decode cX1_keeps 31 = .ok (.iconst 1, 1) := by decide +kernel
theorem dX1_keeps_32 : decode cX1_keeps 32 = .ok (.goto 4, 3) := by decide +kernel
theorem dX1_keeps_35 : decode cX1_keeps 35 = .ok (.iconst 0, 1) := by decide +kernel
theorem dX1_keeps_36 : decode cX1_keeps 36 = .ok (.istore_n 3, 1) := by decide +kernel
theorem dX1_keeps_37 : decode cX1_keeps 37 = .ok (.iload_n 1, 1) := by decide +kernel
theorem dX1_keeps_38 : decode cX1_keeps 38 = .ok (.aload_n 0, 1) := by decide +kernel
theorem dX1_keeps_39 : decode cX1_keeps 39 = .ok (.getfield 21, 3) := by decide +kernel
theorem dX1_keeps_42 : decode cX1_keeps 42 = .ok (.iload_n 2, 1) := by decide +kernel
theorem dX1_keeps_43 : decode cX1_keeps 43 = .ok (.invokestatic 42, 3) := by decide +kernel
theorem dX1_keeps_46 : decode cX1_keeps 46 = .ok (.iand, 1) := by decide +kernel
theorem dX1_keeps_47 : decode cX1_keeps 47 = .ok (.aload_n 0, 1) := by decide +kernel
theorem dX1_keeps_48 : decode cX1_keeps 48 = .ok (.getfield 24, 3) := by decide +kernel
theorem dX1_keeps_51 : decode cX1_keeps 51 = .ok (.iload_n 2, 1) := by decide +kernel
theorem dX1_keeps_52 : decode cX1_keeps 52 = .ok (.invokestatic 42, 3) := by decide +kernel
theorem dX1_keeps_55 : decode cX1_keeps 55 = .ok (.if_icmp .ne 7, 3) := by decide +kernel
theorem dX1_keeps_58 : decode cX1_keeps 58 = .ok (.iconst 1, 1) := by decide +kernel
theorem dX1_keeps_59 : decode cX1_keeps 59 = .ok (.goto 4, 3) := by decide +kernel
theorem dX1_keeps_62 : decode cX1_keeps 62 = .ok (.iconst 0, 1) := by decide +kernel
theorem dX1_keeps_63 : decode cX1_keeps 63 = .ok (.istore 4, 2) := by decide +kernel
theorem dX1_keeps_65 : decode cX1_keeps 65 = .ok (.aload_n 0, 1) := by decide +kernel
theorem dX1_keeps_66 : decode cX1_keeps 66 = .ok (.getfield 9, 3) := by decide +kernel
theorem dX1_keeps_69 : decode cX1_keeps 69 = .ok (.iload_n 2, 1) := by decide +kernel
theorem dX1_keeps_70 : decode cX1_keeps 70 = .ok (.invokestatic 42, 3) := by decide +kernel
theorem dX1_keeps_73 : decode cX1_keeps 73 = .ok (.iload_n 3, 1) := by decide +kernel
theorem dX1_keeps_74 : decode cX1_keeps 74 = .ok (.iload 4, 2) := by decide +kernel
theorem dX1_keeps_76 : decode cX1_keeps 76 = .ok (.invokestatic 46, 3) := by decide +kernel
theorem dX1_keeps_79 : decode cX1_keeps 79 = .ok (.ifCond .ne 5, 3) := by decide +kernel
theorem dX1_keeps_82 : decode cX1_keeps 82 = .ok (.iconst 0, 1) := by decide +kernel
theorem dX1_keeps_83 : decode cX1_keeps 83 = .ok (.ireturn, 1) := by decide +kernel
theorem dX1_keeps_84 : decode cX1_keeps 84 = .ok (.iinc 2 1, 3) := by decide +kernel
theorem dX1_keeps_87 : decode cX1_keeps 87 = .ok (.goto (-85), 3) := by decide +kernel
theorem dX1_keeps_90 : decode cX1_keeps 90 = .ok (.iconst 1, 1) := by decide +kernel
theorem dX1_keeps_91 : decode cX1_keeps 91 = .ok (.ireturn, 1) := by decide +kernel
set_option maxRecDepth 20000 in
theorem ggX1_isAlwaysTrue_X1_bitOf : GoodIn wsX1_isAlwaysTrue wsX1_bitOf := goodIn_r _ [4, 5, 6, 7] (by decide +kernel) (by decide +kernel)
set_option maxRecDepth 20000 in
theorem gX1_isAlwaysTrue_X1_bitOf : GoodIn wsX1_isAlwaysTrue (va_wsS RX1 35 yX1_bitOf wsX1_bitOf) := goodIn_app (goodIn_of _ (by decide +kernel)) ggX1_isAlwaysTrue_X1_bitOf
set_option maxRecDepth 20000 in
theorem ggX1_isAlwaysTrue_X1_holdsIn : GoodIn wsX1_isAlwaysTrue wsX1_holdsIn := goodIn_r _ [10, 1, 2, 3, 4, 5, 6, 7, 11, 12, 13] (by decide +kernel) (by decide +kernel)
set_option maxRecDepth 20000 in
theorem gX1_isAlwaysTrue_X1_holdsIn : GoodIn wsX1_isAlwaysTrue (va_wsS RX1 50 yX1_holdsIn wsX1_holdsIn) := goodIn_app (goodIn_of _ (by decide +kernel)) ggX1_isAlwaysTrue_X1_holdsIn
theorem dX1_isAlwaysTrue_0 : decode cX1_isAlwaysTrue 0 = .ok (.iload_n 1, 1) := by decide +kernel
theorem dX1_isAlwaysTrue_1 : decode cX1_isAlwaysTrue 1 = .ok (.invokestatic 35, 3) := by decide +kernel
theorem dX1_isAlwaysTrue_4 : decode cX1_isAlwaysTrue 4 = .ok (.istore_n 3, 1) := by decide +kernel
theorem dX1_isAlwaysTrue_5 : decode cX1_isAlwaysTrue 5 = .ok (.iload_n 2, 1) := by decide +kernel
theorem dX1_isAlwaysTrue_6 : decode cX1_isAlwaysTrue 6 = .ok (.invokestatic 35, 3) := by decide +kernel
theorem dX1_isAlwaysTrue_9 : decode cX1_isAlwaysTrue 9 = .ok (.istore 4, 2) := by decide +kernel
theorem dX1_isAlwaysTrue_11 : decode cX1_isAlwaysTrue 11 = .ok (.iconst 0, 1) := by decide +kernel
theorem dX1_isAlwaysTrue_12 : decode cX1_isAlwaysTrue 12 = .ok (.iload_n 0, 1) := by decide +kernel
theorem dX1_isAlwaysTrue_13 : decode cX1_isAlwaysTrue 13 = .ok (.iload_n 1, 1) := by decide +kernel
theorem dX1_isAlwaysTrue_14 : decode cX1_isAlwaysTrue 14 = .ok (.iload_n 2, 1) := by decide +kernel
theorem dX1_isAlwaysTrue_15 : decode cX1_isAlwaysTrue 15 = .ok (.invokestatic 50, 3) := by decide +kernel
theorem dX1_isAlwaysTrue_18 : decode cX1_isAlwaysTrue 18 = .ok (.ifCond .eq 41, 3) := by decide +kernel
theorem dX1_isAlwaysTrue_21 : decode cX1_isAlwaysTrue 21 = .ok (.iload_n 3, 1) := by decide +kernel
theorem dX1_isAlwaysTrue_22 : decode cX1_isAlwaysTrue 22 = .ok (.iload_n 0, 1) := by decide +kernel
theorem dX1_isAlwaysTrue_23 : decode cX1_isAlwaysTrue 23 = .ok (.iload_n 1, 1) := by decide +kernel
theorem dX1_isAlwaysTrue_24 : decode cX1_isAlwaysTrue 24 = .ok (.iload_n 2, 1) := by decide +kernel
theorem dX1_isAlwaysTrue_25 : decode cX1_isAlwaysTrue 25 = .ok (.invokestatic 50, 3) := by decide +kernel
theorem dX1_isAlwaysTrue_28 : decode cX1_isAlwaysTrue 28 = .ok (.ifCond .eq 31, 3) := by decide +kernel
theorem dX1_isAlwaysTrue_31 : decode cX1_isAlwaysTrue 31 = .ok (.iload 4, 2) := by decide +kernel
theorem dX1_isAlwaysTrue_33 : decode cX1_isAlwaysTrue 33 = .ok (.iload_n 0, 1) := by decide +kernel
theorem dX1_isAlwaysTrue_34 : decode cX1_isAlwaysTrue 34 = .ok (.iload_n 1, 1) := by decide +kernel
theorem dX1_isAlwaysTrue_35 : decode cX1_isAlwaysTrue 35 = .ok (.iload_n 2, 1) := by decide +kernel
theorem dX1_isAlwaysTrue_36 : decode cX1_isAlwaysTrue 36 = .ok (.invokestatic 50, 3) := by decide +kernel
theorem dX1_isAlwaysTrue_39 : decode cX1_isAlwaysTrue 39 = .ok (.ifCond .eq 20, 3) := by decide +kernel
theorem dX1_isAlwaysTrue_42 : decode cX1_isAlwaysTrue 42 = .ok (.iload_n 3, 1) := by decide +kernel
theorem dX1_isAlwaysTrue_43 : decode cX1_isAlwaysTrue 43 = .ok (.iload 4, 2) := by decide +kernel
theorem dX1_isAlwaysTrue_45 : decode cX1_isAlwaysTrue 45 = .ok (.ior, 1) := by decide +kernel
theorem dX1_isAlwaysTrue_46 : decode cX1_isAlwaysTrue 46 = .ok (.iload_n 0, 1) := by decide +kernel
theorem dX1_isAlwaysTrue_47 : decode cX1_isAlwaysTrue 47 = .ok (.iload_n 1, 1) := by decide +kernel
theorem dX1_isAlwaysTrue_48 : decode cX1_isAlwaysTrue 48 = .ok (.iload_n 2, 1) := by decide +kernel
theorem dX1_isAlwaysTrue_49 : decode cX1_isAlwaysTrue 49 = .ok (.invokestatic 50, 3) := by decide +kernel
theorem dX1_isAlwaysTrue_52 : decode cX1_isAlwaysTrue 52 = .ok (.ifCond .eq 7, 3) := by decide +kernel
theorem dX1_isAlwaysTrue_55 : decode cX1_isAlwaysTrue 55 = .ok (.iconst 1, 1) := by decide +kernel
theorem dX1_isAlwaysTrue_56 : decode cX1_isAlwaysTrue 56 = .ok (.goto 4, 3) := by decide +kernel
theorem dX1_isAlwaysTrue_59 : decode cX1_isAlwaysTrue 59 = .ok (.iconst 0, 1) := by decide +kernel
theorem dX1_isAlwaysTrue_60 : decode cX1_isAlwaysTrue 60 = .ok (.ireturn, 1) := by decide +kernel
set_option maxRecDepth 20000 in
theorem ggX1_holdsIn_X1_bitOf : GoodIn wsX1_holdsIn wsX1_bitOf := goodIn_r _ [4, 5, 6, 7] (by decide +kernel) (by decide +kernel)
set_option maxRecDepth 20000 in
theorem gX1_holdsIn_X1_bitOf : GoodIn wsX1_holdsIn (va_wsS RX1 35 yX1_bitOf wsX1_bitOf) := goodIn_app (goodIn_of _ (by decide +kernel)) ggX1_holdsIn_X1_bitOf
set_option maxRecDepth 20000 in
theorem ggX1_holdsIn_X7_bit : GoodIn wsX1_holdsIn wsX7_bit := goodIn_r _ [7] (by decide +kernel) (by decide +kernel)
set_option maxRecDepth 20000 in
theorem gX1_holdsIn_X7_bit_n39 : GoodIn wsX1_holdsIn (wsX7_bit) := ggX1_holdsIn_X7_bit
set_option maxRecDepth 20000 in
theorem ggX1_holdsIn_X1_holds : GoodIn wsX1_holdsIn wsX1_holds := goodIn_r _ [10] (by decide +kernel) (by decide +kernel)
set_option maxRecDepth 20000 in
theorem gX1_holdsIn_X1_holds : GoodIn wsX1_holdsIn (va_wsS RX1 46 yX1_holds wsX1_holds) := goodIn_app (goodIn_of _ (by decide +kernel)) ggX1_holdsIn_X1_holds
theorem dX1_holdsIn_0 : decode cX1_holdsIn 0 = .ok (.iload_n 1, 1) := by decide +kernel
theorem dX1_holdsIn_1 : decode cX1_holdsIn 1 = .ok (.iload_n 0, 1) := by decide +kernel
theorem dX1_holdsIn_2 : decode cX1_holdsIn 2 = .ok (.iload_n 2, 1) := by decide +kernel
theorem dX1_holdsIn_3 : decode cX1_holdsIn 3 = .ok (.invokestatic 35, 3) := by decide +kernel
theorem dX1_holdsIn_6 : decode cX1_holdsIn 6 = .ok (.iand, 1) := by decide +kernel
theorem dX1_holdsIn_7 : decode cX1_holdsIn 7 = .ok (.iload_n 2, 1) := by decide +kernel
theorem dX1_holdsIn_8 : decode cX1_holdsIn 8 = .ok (.invokestatic 39, 3) := by decide +kernel
theorem dX1_holdsIn_11 : decode cX1_holdsIn 11 = .ok (.if_icmp .ne 7, 3) := by decide +kernel
theorem dX1_holdsIn_14 : decode cX1_holdsIn 14 = .ok (.iconst 1, 1) := by decide +kernel
theorem dX1_holdsIn_15 : decode cX1_holdsIn 15 = .ok (.goto 4, 3) := by decide +kernel
theorem dX1_holdsIn_18 : decode cX1_holdsIn 18 = .ok (.iconst 0, 1) := by decide +kernel
theorem dX1_holdsIn_19 : decode cX1_holdsIn 19 = .ok (.iload_n 0, 1) := by decide +kernel
theorem dX1_holdsIn_20 : decode cX1_holdsIn 20 = .ok (.iload_n 3, 1) := by decide +kernel
theorem dX1_holdsIn_21 : decode cX1_holdsIn 21 = .ok (.invokestatic 35, 3) := by decide +kernel
theorem dX1_holdsIn_24 : decode cX1_holdsIn 24 = .ok (.iand, 1) := by decide +kernel
theorem dX1_holdsIn_25 : decode cX1_holdsIn 25 = .ok (.iload_n 3, 1) := by decide +kernel
theorem dX1_holdsIn_26 : decode cX1_holdsIn 26 = .ok (.invokestatic 39, 3) := by decide +kernel
theorem dX1_holdsIn_29 : decode cX1_holdsIn 29 = .ok (.if_icmp .ne 7, 3) := by decide +kernel
theorem dX1_holdsIn_32 : decode cX1_holdsIn 32 = .ok (.iconst 1, 1) := by decide +kernel
theorem dX1_holdsIn_33 : decode cX1_holdsIn 33 = .ok (.goto 4, 3) := by decide +kernel
theorem dX1_holdsIn_36 : decode cX1_holdsIn 36 = .ok (.iconst 0, 1) := by decide +kernel
theorem dX1_holdsIn_37 : decode cX1_holdsIn 37 = .ok (.invokestatic 46, 3) := by decide +kernel
theorem dX1_holdsIn_40 : decode cX1_holdsIn 40 = .ok (.ireturn, 1) := by decide +kernel
theorem dX1_holds_0 : decode cX1_holds 0 = .ok (.iload_n 0, 1) := by decide +kernel
theorem dX1_holds_1 : decode cX1_holds 1 = .ok (.tableswitch 69 0 2 #[27, 41, 55], 27) := by decide +kernel
theorem dX1_holds_28 : decode cX1_holds 28 = .ok (.iload_n 1, 1) := by decide +kernel
theorem dX1_holds_29 : decode cX1_holds 29 = .ok (.ifCond .eq 7, 3) := by decide +kernel
theorem dX1_holds_32 : decode cX1_holds 32 = .ok (.iload_n 2, 1) := by decide +kernel
theorem dX1_holds_33 : decode cX1_holds 33 = .ok (.ifCond .eq 7, 3) := by decide +kernel
theorem dX1_holds_36 : decode cX1_holds 36 = .ok (.iconst 1, 1) := by decide +kernel
theorem dX1_holds_37 : decode cX1_holds 37 = .ok (.goto 4, 3) := by decide +kernel
theorem dX1_holds_40 : decode cX1_holds 40 = .ok (.iconst 0, 1) := by decide +kernel
theorem dX1_holds_41 : decode cX1_holds 41 = .ok (.ireturn, 1) := by decide +kernel
theorem dX1_holds_42 : decode cX1_holds 42 = .ok (.iload_n 1, 1) := by decide +kernel
theorem dX1_holds_43 : decode cX1_holds 43 = .ok (.ifCond .eq 7, 3) := by decide +kernel
theorem dX1_holds_46 : decode cX1_holds 46 = .ok (.iload_n 2, 1) := by decide +kernel
theorem dX1_holds_47 : decode cX1_holds 47 = .ok (.ifCond .ne 7, 3) := by decide +kernel
theorem dX1_holds_50 : decode cX1_holds 50 = .ok (.iconst 1, 1) := by decide +kernel
theorem dX1_holds_51 : decode cX1_holds 51 = .ok (.goto 4, 3) := by decide +kernel
theorem dX1_holds_54 : decode cX1_holds 54 = .ok (.iconst 0, 1) := by decide +kernel
theorem dX1_holds_55 : decode cX1_holds 55 = .ok (.ireturn, 1) := by decide +kernel
theorem dX1_holds_56 : decode cX1_holds 56 = .ok (.iload_n 1, 1) := by decide +kernel
theorem dX1_holds_57 : decode cX1_holds 57 = .ok (.ifCond .ne 7, 3) := by decide +kernel
theorem dX1_holds_60 : decode cX1_holds 60 = .ok (.iload_n 2, 1) := by decide +kernel
theorem dX1_holds_61 : decode cX1_holds 61 = .ok (.ifCond .eq 7, 3) := by decide +kernel
theorem dX1_holds_64 : decode cX1_holds 64 = .ok (.iconst 1, 1) := by decide +kernel
theorem dX1_holds_65 : decode cX1_holds 65 = .ok (.goto 4, 3) := by decide +kernel
theorem dX1_holds_68 : decode cX1_holds 68 = .ok (.iconst 0, 1) := by decide +kernel
theorem dX1_holds_69 : decode cX1_holds 69 = .ok (.ireturn, 1) := by decide +kernel
theorem dX1_holds_70 : decode cX1_holds 70 = .ok (.iload_n 1, 1) := by decide +kernel
theorem dX1_holds_71 : decode cX1_holds 71 = .ok (.iload_n 2, 1) := by decide +kernel
theorem dX1_holds_72 : decode cX1_holds 72 = .ok (.if_icmp .ne 7, 3) := by decide +kernel
theorem dX1_holds_75 : decode cX1_holds 75 = .ok (.iconst 1, 1) := by decide +kernel
theorem dX1_holds_76 : decode cX1_holds 76 = .ok (.goto 4, 3) := by decide +kernel
theorem dX1_holds_79 : decode cX1_holds 79 = .ok (.iconst 0, 1) := by decide +kernel
theorem dX1_holds_80 : decode cX1_holds 80 = .ok (.ireturn, 1) := by decide +kernel
set_option maxRecDepth 20000 in
theorem ggX1_bitOf_X7_bit : GoodIn wsX1_bitOf wsX7_bit := goodIn_r _ [3] (by decide +kernel) (by decide +kernel)
set_option maxRecDepth 20000 in
theorem gX1_bitOf_X7_bit_n39 : GoodIn wsX1_bitOf (wsX7_bit) := ggX1_bitOf_X7_bit
theorem dX1_bitOf_0 : decode cX1_bitOf 0 = .ok (.iload_n 0, 1) := by decide +kernel
theorem dX1_bitOf_1 : decode cX1_bitOf 1 = .ok (.invokestatic 39, 3) := by decide +kernel
theorem dX1_bitOf_4 : decode cX1_bitOf 4 = .ok (.iload_n 0, 1) := by decide +kernel
theorem dX1_bitOf_5 : decode cX1_bitOf 5 = .ok (.ineg, 1) := by decide +kernel
theorem dX1_bitOf_6 : decode cX1_bitOf 6 = .ok (.invokestatic 39, 3) := by decide +kernel
theorem dX1_bitOf_9 : decode cX1_bitOf 9 = .ok (.ior, 1) := by decide +kernel
theorem dX1_bitOf_10 : decode cX1_bitOf 10 = .ok (.ireturn, 1) := by decide +kernel
theorem dX2_init_0 : decode cX2_init 0 = .ok (.aload_n 0, 1) := by decide +kernel
theorem dX2_init_1 : decode cX2_init 1 = .ok (.invokespecial 3, 3) := by decide +kernel
theorem dX2_init_4 : decode cX2_init 4 = .ok (.aload_n 0, 1) := by decide +kernel
theorem dX2_init_5 : decode cX2_init 5 = .ok (.sipush 200, 3) := by decide +kernel
theorem dX2_init_8 : decode cX2_init 8 = .ok (.newarray .int, 2) := by decide +kernel
theorem dX2_init_10 : decode cX2_init 10 = .ok (.putfield 9, 3) := by decide +kernel
theorem dX2_init_13 : decode cX2_init 13 = .ok (.return_, 1) := by decide +kernel
set_option maxRecDepth 20000 in
theorem ggX2_keep_X7_put : GoodIn wsX2_keep wsX7_put := goodIn_ca (goodIn_r _ [6] (by decide +kernel) (by decide +kernel)) (goodIn_sub (fun _ h => List.mem_cons_of_mem _ (List.mem_append_right _ h)) (by decide +kernel))
set_option maxRecDepth 20000 in
theorem gX2_keep_X7_put_n22 : GoodIn wsX2_keep (wsX7_put) := ggX2_keep_X7_put
theorem dX2_keep_0 : decode cX2_keep 0 = .ok (.aload_n 0, 1) := by decide +kernel
theorem dX2_keep_1 : decode cX2_keep 1 = .ok (.iload_n 1, 1) := by decide +kernel
theorem dX2_keep_2 : decode cX2_keep 2 = .ok (.putfield 15, 3) := by decide +kernel
theorem dX2_keep_5 : decode cX2_keep 5 = .ok (.aload_n 0, 1) := by decide +kernel
theorem dX2_keep_6 : decode cX2_keep 6 = .ok (.getfield 19, 3) := by decide +kernel
theorem dX2_keep_9 : decode cX2_keep 9 = .ok (.sipush 200, 3) := by decide +kernel
theorem dX2_keep_12 : decode cX2_keep 12 = .ok (.if_icmp .ge 25, 3) := by decide +kernel
theorem dX2_keep_15 : decode cX2_keep 15 = .ok (.aload_n 0, 1) := by decide +kernel
theorem dX2_keep_16 : decode cX2_keep 16 = .ok (.getfield 9, 3) := by decide +kernel
theorem dX2_keep_19 : decode cX2_keep 19 = .ok (.aload_n 0, 1) := by decide +kernel
theorem dX2_keep_20 : decode cX2_keep 20 = .ok (.getfield 19, 3) := by decide +kernel
theorem dX2_keep_23 : decode cX2_keep 23 = .ok (.iload_n 1, 1) := by decide +kernel
theorem dX2_keep_24 : decode cX2_keep 24 = .ok (.invokestatic 22, 3) := by decide +kernel
theorem dX2_keep_27 : decode cX2_keep 27 = .ok (.aload_n 0, 1) := by decide +kernel
theorem dX2_keep_28 : decode cX2_keep 28 = .ok (.dup, 1) := by decide +kernel
theorem dX2_keep_29 : decode cX2_keep 29 = .ok (.getfield 19, 3) := by decide +kernel
theorem dX2_keep_32 : decode cX2_keep 32 = .ok (.iconst 1, 1) := by decide +kernel
theorem dX2_keep_33 : decode cX2_keep 33 = .ok (.iadd, 1) := by decide +kernel
theorem dX2_keep_34 : decode cX2_keep 34 = .ok (.putfield 19, 3) := by decide +kernel
theorem dX2_keep_37 : decode cX2_keep 37 = .ok (.return_, 1) := by decide +kernel
theorem dX2_keepNone_0 : decode cX2_keepNone 0 = .ok (.aload_n 0, 1) := by decide +kernel
theorem dX2_keepNone_1 : decode cX2_keepNone 1 = .ok (.iconst 0, 1) := by decide +kernel
theorem dX2_keepNone_2 : decode cX2_keepNone 2 = .ok (.putfield 15, 3) := by decide +kernel
theorem dX2_keepNone_5 : decode cX2_keepNone 5 = .ok (.return_, 1) := by decide +kernel
theorem dX2_has_0 : decode cX2_has 0 = .ok (.iload_n 1, 1) := by decide +kernel
theorem dX2_has_1 : decode cX2_has 1 = .ok (.iconst 1, 1) := by decide +kernel
theorem dX2_has_2 : decode cX2_has 2 = .ok (.if_icmp .lt 15, 3) := by decide +kernel
theorem dX2_has_5 : decode cX2_has 5 = .ok (.iload_n 1, 1) := by decide +kernel
theorem dX2_has_6 : decode cX2_has 6 = .ok (.aload_n 0, 1) := by decide +kernel
theorem dX2_has_7 : decode cX2_has 7 = .ok (.getfield 19, 3) := by decide +kernel
theorem dX2_has_10 : decode cX2_has 10 = .ok (.if_icmp .gt 7, 3) := by decide +kernel
theorem dX2_has_13 : decode cX2_has 13 = .ok (.iconst 1, 1) := by decide +kernel
theorem dX2_has_14 : decode cX2_has 14 = .ok (.goto 4, 3) := by decide +kernel
theorem dX2_has_17 : decode cX2_has 17 = .ok (.iconst 0, 1) := by decide +kernel
theorem dX2_has_18 : decode cX2_has 18 = .ok (.ireturn, 1) := by decide +kernel
set_option maxRecDepth 20000 in
theorem ggX2_get_X7_at : GoodIn wsX2_get wsX7_at := goodIn_ca (goodIn_r _ [4] (by decide +kernel) (by decide +kernel)) (goodIn_sub (fun _ h => List.mem_cons_of_mem _ (List.mem_append_right _ h)) (by decide +kernel))
set_option maxRecDepth 20000 in
theorem gX2_get_X7_at_n26 : GoodIn wsX2_get (wsX7_at) := ggX2_get_X7_at
theorem dX2_get_0 : decode cX2_get 0 = .ok (.aload_n 0, 1) := by decide +kernel
theorem dX2_get_1 : decode cX2_get 1 = .ok (.getfield 9, 3) := by decide +kernel
theorem dX2_get_4 : decode cX2_get 4 = .ok (.iload_n 1, 1) := by decide +kernel
theorem dX2_get_5 : decode cX2_get 5 = .ok (.iconst 1, 1) := by decide +kernel
theorem dX2_get_6 : decode cX2_get 6 = .ok (.isub, 1) := by decide +kernel
theorem dX2_get_7 : decode cX2_get 7 = .ok (.invokestatic 26, 3) := by decide +kernel
theorem dX2_get_10 : decode cX2_get 10 = .ok (.ireturn, 1) := by decide +kernel
theorem dX3_init_0 : decode cX3_init 0 = .ok (.aload_n 0, 1) := by decide +kernel
theorem dX3_init_1 : decode cX3_init 1 = .ok (.invokespecial 3, 3) := by decide +kernel
theorem dX3_init_4 : decode cX3_init 4 = .ok (.aload_n 0, 1) := by decide +kernel
theorem dX3_init_5 : decode cX3_init 5 = .ok (.bipush 14, 2) := by decide +kernel
theorem dX3_init_7 : decode cX3_init 7 = .ok (.newarray .int, 2) := by decide +kernel
theorem dX3_init_9 : decode cX3_init 9 = .ok (.putfield 9, 3) := by decide +kernel
theorem dX3_init_12 : decode cX3_init 12 = .ok (.return_, 1) := by decide +kernel
theorem dX3_clear_0 : decode cX3_clear 0 = .ok (.aload_n 0, 1) := by decide +kernel
theorem dX3_clear_1 : decode cX3_clear 1 = .ok (.iconst 0, 1) := by decide +kernel
theorem dX3_clear_2 : decode cX3_clear 2 = .ok (.putfield 15, 3) := by decide +kernel
theorem dX3_clear_5 : decode cX3_clear 5 = .ok (.return_, 1) := by decide +kernel
set_option maxRecDepth 20000 in
theorem ggX3_add_X7_put : GoodIn wsX3_add wsX7_put := goodIn_ca (goodIn_r _ [5] (by decide +kernel) (by decide +kernel)) (goodIn_sub (fun _ h => List.mem_cons_of_mem _ (List.mem_append_right _ h)) (by decide +kernel))
set_option maxRecDepth 20000 in
theorem gX3_add_X7_put_n19 : GoodIn wsX3_add (wsX7_put) := ggX3_add_X7_put
theorem dX3_add_0 : decode cX3_add 0 = .ok (.aload_n 0, 1) := by decide +kernel
theorem dX3_add_1 : decode cX3_add 1 = .ok (.getfield 9, 3) := by decide +kernel
theorem dX3_add_4 : decode cX3_add 4 = .ok (.aload_n 0, 1) := by decide +kernel
theorem dX3_add_5 : decode cX3_add 5 = .ok (.getfield 15, 3) := by decide +kernel
theorem dX3_add_8 : decode cX3_add 8 = .ok (.iload_n 1, 1) := by decide +kernel
theorem dX3_add_9 : decode cX3_add 9 = .ok (.invokestatic 19, 3) := by decide +kernel
theorem dX3_add_12 : decode cX3_add 12 = .ok (.aload_n 0, 1) := by decide +kernel
theorem dX3_add_13 : decode cX3_add 13 = .ok (.dup, 1) := by decide +kernel
theorem dX3_add_14 : decode cX3_add 14 = .ok (.getfield 15, 3) := by decide +kernel
theorem dX3_add_17 : decode cX3_add 17 = .ok (.iconst 1, 1) := by decide +kernel
theorem dX3_add_18 : decode cX3_add 18 = .ok (.iadd, 1) := by decide +kernel
theorem dX3_add_19 : decode cX3_add 19 = .ok (.putfield 15, 3) := by decide +kernel
theorem dX3_add_22 : decode cX3_add 22 = .ok (.return_, 1) := by decide +kernel
set_option maxRecDepth 20000 in
theorem ggX3_get_X7_at : GoodIn wsX3_get wsX7_at := goodIn_ca (goodIn_r _ [5] (by decide +kernel) (by decide +kernel)) (goodIn_sub (fun _ h => List.mem_cons_of_mem _ (List.mem_append_right _ h)) (by decide +kernel))
set_option maxRecDepth 20000 in
theorem gX3_get_X7_at_n23 : GoodIn wsX3_get (wsX7_at) := ggX3_get_X7_at
theorem dX3_get_0 : decode cX3_get 0 = .ok (.iload_n 1, 1) := by decide +kernel
theorem dX3_get_1 : decode cX3_get 1 = .ok (.ifCond .lt 22, 3) := by decide +kernel
theorem dX3_get_4 : decode cX3_get 4 = .ok (.iload_n 1, 1) := by decide +kernel
theorem dX3_get_5 : decode cX3_get 5 = .ok (.aload_n 0, 1) := by decide +kernel
theorem dX3_get_6 : decode cX3_get 6 = .ok (.getfield 15, 3) := by decide +kernel
theorem dX3_get_9 : decode cX3_get 9 = .ok (.if_icmp .ge 14, 3) := by decide +kernel
theorem dX3_get_12 : decode cX3_get 12 = .ok (.aload_n 0, 1) := by decide +kernel
theorem dX3_get_13 : decode cX3_get 13 = .ok (.getfield 9, 3) := by decide +kernel
theorem dX3_get_16 : decode cX3_get 16 = .ok (.iload_n 1, 1) := by decide +kernel
theorem dX3_get_17 : decode cX3_get 17 = .ok (.invokestatic 23, 3) := by decide +kernel
theorem dX3_get_20 : decode cX3_get 20 = .ok (.goto 4, 3) := by decide +kernel
theorem dX3_get_23 : decode cX3_get 23 = .ok (.iconst 0, 1) := by decide +kernel
theorem dX3_get_24 : decode cX3_get 24 = .ok (.ireturn, 1) := by decide +kernel
theorem dX4_init_0 : decode cX4_init 0 = .ok (.aload_n 0, 1) := by decide +kernel
theorem dX4_init_1 : decode cX4_init 1 = .ok (.invokespecial 3, 3) := by decide +kernel
theorem dX4_init_4 : decode cX4_init 4 = .ok (.aload_n 0, 1) := by decide +kernel
theorem dX4_init_5 : decode cX4_init 5 = .ok (.bipush 60, 2) := by decide +kernel
theorem dX4_init_7 : decode cX4_init 7 = .ok (.newarray .int, 2) := by decide +kernel
theorem dX4_init_9 : decode cX4_init 9 = .ok (.putfield 11, 3) := by decide +kernel
theorem dX4_init_12 : decode cX4_init 12 = .ok (.aload_n 0, 1) := by decide +kernel
theorem dX4_init_13 : decode cX4_init 13 = .ok (.iconst 4, 1) := by decide +kernel
theorem dX4_init_14 : decode cX4_init 14 = .ok (.newarray .int, 2) := by decide +kernel
theorem dX4_init_16 : decode cX4_init 16 = .ok (.dup, 1) := by decide +kernel
theorem dX4_init_17 : decode cX4_init 17 = .ok (.iconst 0, 1) := by decide +kernel
theorem dX4_init_18 : decode cX4_init 18 = .ok (.sipush 14000, 3) := by decide +kernel
theorem dX4_init_21 : decode cX4_init 21 = .ok (.iastore, 1) := by decide +kernel
theorem dX4_init_22 : decode cX4_init 22 = .ok (.dup, 1) := by decide +kernel
theorem dX4_init_23 : decode cX4_init 23 = .ok (.iconst 1, 1) := by decide +kernel
theorem dX4_init_24 : decode cX4_init 24 = .ok (.sipush 14000, 3) := by decide +kernel
theorem dX4_init_27 : decode cX4_init 27 = .ok (.iastore, 1) := by decide +kernel
theorem dX4_init_28 : decode cX4_init 28 = .ok (.dup, 1) := by decide +kernel
theorem dX4_init_29 : decode cX4_init 29 = .ok (.iconst 2, 1) := by decide +kernel
theorem dX4_init_30 : decode cX4_init 30 = .ok (.sipush 14000, 3) := by decide +kernel
theorem dX4_init_33 : decode cX4_init 33 = .ok (.iastore, 1) := by decide +kernel
theorem dX4_init_34 : decode cX4_init 34 = .ok (.dup, 1) := by decide +kernel
theorem dX4_init_35 : decode cX4_init 35 = .ok (.iconst 3, 1) := by decide +kernel
theorem dX4_init_36 : decode cX4_init 36 = .ok (.sipush 14000, 3) := by decide +kernel
theorem dX4_init_39 : decode cX4_init 39 = .ok (.iastore, 1) := by decide +kernel
theorem dX4_init_40 : decode cX4_init 40 = .ok (.putfield 15, 3) := by decide +kernel
theorem dX4_init_43 : decode cX4_init 43 = .ok (.return_, 1) := by decide +kernel
set_option maxRecDepth 20000 in
theorem ggX4_set_X7_put : GoodIn wsX4_set wsX7_put := goodIn_ca (goodIn_r _ [4] (by decide +kernel) (by decide +kernel)) (goodIn_sub (fun _ h => List.mem_cons_of_mem _ (List.mem_append_right _ h)) (by decide +kernel))
set_option maxRecDepth 20000 in
theorem gX4_set_X7_put_n18 : GoodIn wsX4_set (wsX7_put) := ggX4_set_X7_put
theorem dX4_set_0 : decode cX4_set 0 = .ok (.aload_n 0, 1) := by decide +kernel
theorem dX4_set_1 : decode cX4_set 1 = .ok (.getfield 11, 3) := by decide +kernel
theorem dX4_set_4 : decode cX4_set 4 = .ok (.iload_n 2, 1) := by decide +kernel
theorem dX4_set_5 : decode cX4_set 5 = .ok (.bipush 15, 2) := by decide +kernel
theorem dX4_set_7 : decode cX4_set 7 = .ok (.imul, 1) := by decide +kernel
theorem dX4_set_8 : decode cX4_set 8 = .ok (.iload_n 1, 1) := by decide +kernel
theorem dX4_set_9 : decode cX4_set 9 = .ok (.iadd, 1) := by decide +kernel
theorem dX4_set_10 : decode cX4_set 10 = .ok (.iload_n 3, 1) := by decide +kernel
theorem dX4_set_11 : decode cX4_set 11 = .ok (.invokestatic 18, 3) := by decide +kernel
theorem dX4_set_14 : decode cX4_set 14 = .ok (.return_, 1) := by decide +kernel
set_option maxRecDepth 20000 in
theorem ggX4_limit_X7_put : GoodIn wsX4_limit wsX7_put := goodIn_ca (goodIn_r _ [4] (by decide +kernel) (by decide +kernel)) (goodIn_sub (fun _ h => List.mem_cons_of_mem _ (List.mem_append_right _ h)) (by decide +kernel))
set_option maxRecDepth 20000 in
theorem gX4_limit_X7_put_n18 : GoodIn wsX4_limit (wsX7_put) := ggX4_limit_X7_put
theorem dX4_limit_0 : decode cX4_limit 0 = .ok (.aload_n 0, 1) := by decide +kernel
theorem dX4_limit_1 : decode cX4_limit 1 = .ok (.getfield 15, 3) := by decide +kernel
theorem dX4_limit_4 : decode cX4_limit 4 = .ok (.iload_n 1, 1) := by decide +kernel
theorem dX4_limit_5 : decode cX4_limit 5 = .ok (.iload_n 2, 1) := by decide +kernel
theorem dX4_limit_6 : decode cX4_limit 6 = .ok (.invokestatic 18, 3) := by decide +kernel
theorem dX4_limit_9 : decode cX4_limit 9 = .ok (.return_, 1) := by decide +kernel
set_option maxRecDepth 20000 in
theorem ggX4_keeps_X7_at : GoodIn wsX4_keeps wsX7_at := goodIn_ca (goodIn_r _ [5] (by decide +kernel) (by decide +kernel)) (goodIn_sub (fun _ h => List.mem_cons_of_mem _ (List.mem_append_right _ h)) (by decide +kernel))
set_option maxRecDepth 20000 in
theorem gX4_keeps_X7_at_n22 : GoodIn wsX4_keeps (wsX7_at) := ggX4_keeps_X7_at
set_option maxRecDepth 20000 in
theorem ggX4_keeps_X7_bit : GoodIn wsX4_keeps wsX7_bit := goodIn_r _ [7] (by decide +kernel) (by decide +kernel)
set_option maxRecDepth 20000 in
theorem gX4_keeps_X7_bit_n26 : GoodIn wsX4_keeps (wsX7_bit) := ggX4_keeps_X7_bit
theorem dX4_keeps_0 : decode cX4_keeps 0 = .ok (.iconst 0, 1) := by decide +kernel
theorem dX4_keeps_1 : decode cX4_keeps 1 = .ok (.istore_n 2, 1) := by decide +kernel
theorem dX4_keeps_2 : decode cX4_keeps 2 = .ok (.iload_n 2, 1) := by decide +kernel
theorem dX4_keeps_3 : decode cX4_keeps 3 = .ok (.iconst 4, 1) := by decide +kernel
theorem dX4_keeps_4 : decode cX4_keeps 4 = .ok (.if_icmp .ge 85, 3) := by decide +kernel
theorem dX4_keeps_7 : decode cX4_keeps 7 = .ok (.aload_n 0, 1) := by decide +kernel
theorem dX4_keeps_8 : decode cX4_keeps 8 = .ok (.getfield 15, 3) := by decide +kernel
theorem dX4_keeps_11 : decode cX4_keeps 11 = .ok (.iload_n 2, 1) := by decide +kernel
theorem dX4_keeps_12 : decode cX4_keeps 12 = .ok (.invokestatic 22, 3) := by decide +kernel
theorem dX4_keeps_15 : decode cX4_keeps 15 = .ok (.istore_n 3, 1) := by decide +kernel
theorem dX4_keeps_16 : decode cX4_keeps 16 = .ok (.iconst 0, 1) := by decide +kernel
theorem dX4_keeps_17 : decode cX4_keeps 17 = .ok (.istore 4, 2) := by decide +kernel
theorem dX4_keeps_19 : decode cX4_keeps 19 = .ok (.iconst 1, 1) := by decide +kernel
theorem dX4_keeps_20 : decode cX4_keeps 20 = .ok (.istore 5, 2) := by decide +kernel
theorem dX4_keeps_22 : decode cX4_keeps 22 = .ok (.iload 5, 2) := by decide +kernel
theorem dX4_keeps_24 : decode cX4_keeps 24 = .ok (.bipush 14, 2) := by decide +kernel
theorem dX4_keeps_26 : decode cX4_keeps 26 = .ok (.if_icmp .gt 49, 3) := by decide +kernel
theorem dX4_keeps_29 : decode cX4_keeps 29 = .ok (.iload_n 3, 1) := by decide +kernel
theorem dX4_keeps_30 : decode cX4_keeps 30 = .ok (.sipush 14000, 3) := by decide +kernel
theorem dX4_keeps_33 : decode cX4_keeps 33 = .ok (.if_icmp .eq 42, 3) := by decide +kernel
theorem dX4_keeps_36 : decode cX4_keeps 36 = .ok (.iload 4, 2) := by decide +kernel
theorem dX4_keeps_38 : decode cX4_keeps 38 = .ok (.iload_n 1, 1) := by decide +kernel
theorem dX4_keeps_39 : decode cX4_keeps 39 = .ok (.iload 5, 2) := by decide +kernel
theorem dX4_keeps_41 : decode cX4_keeps 41 = .ok (.invokestatic 26, 3) := by decide +kernel
theorem dX4_keeps_44 : decode cX4_keeps 44 = .ok (.iand, 1) := by decide +kernel
theorem dX4_keeps_45 : decode cX4_keeps 45 = .ok (.ifCond .eq 20, 3) := by decide +kernel
theorem dX4_keeps_48 : decode cX4_keeps 48 = .ok (.aload_n 0, 1) := by decide +kernel
theorem dX4_keeps_49 : decode cX4_keeps 49 = .ok (.getfield 11, 3) := by decide +kernel
theorem dX4_keeps_52 : decode cX4_keeps 52 = .ok (.iload_n 2, 1) := by decide +kernel
theorem dX4_keeps_53 : decode cX4_keeps 53 = .ok (.bipush 15, 2) := by decide +kernel
theorem dX4_keeps_55 : decode cX4_keeps 55 = .ok (.imul, 1) := by decide +kernel
theorem dX4_keeps_56 : decode cX4_keeps 56 = .ok (.iload 5, 2) := by decide +kernel
theorem dX4_keeps_58 : decode cX4_keeps 58 = .ok (.iadd, 1) := by decide +kernel
theorem dX4_keeps_59 : decode cX4_keeps 59 = .ok (.invokestatic 22, 3) := by decide +kernel
theorem dX4_keeps_62 : decode cX4_keeps 62 = .ok (.goto 4, 3) := by decide +kernel
theorem dX4_keeps_65 : decode cX4_keeps 65 = .ok (.iconst 0, 1) := by decide +kernel
theorem dX4_keeps_66 : decode cX4_keeps 66 = .ok (.iadd, 1) := by decide +kernel
theorem dX4_keeps_67 : decode cX4_keeps 67 = .ok (.istore 4, 2) := by decide +kernel
theorem dX4_keeps_69 : decode cX4_keeps 69 = .ok (.iinc 5 1, 3) := by decide +kernel
theorem dX4_keeps_72 : decode cX4_keeps 72 = .ok (.goto (-50), 3) := by decide +kernel
theorem dX4_keeps_75 : decode cX4_keeps 75 = .ok (.iload 4, 2) := by decide +kernel
theorem dX4_keeps_77 : decode cX4_keeps 77 = .ok (.iload_n 3, 1) := by decide +kernel
theorem dX4_keeps_78 : decode cX4_keeps 78 = .ok (.if_icmp .le 5, 3) := by decide +kernel
theorem dX4_keeps_81 : decode cX4_keeps 81 = .ok (.iconst 0, 1) := by decide +kernel
theorem dX4_keeps_82 : decode cX4_keeps 82 = .ok (.ireturn, 1) := by decide +kernel
theorem dX4_keeps_83 : decode cX4_keeps 83 = .ok (.iinc 2 1, 3) := by decide +kernel
theorem dX4_keeps_86 : decode cX4_keeps 86 = .ok (.goto (-84), 3) := by decide +kernel
theorem dX4_keeps_89 : decode cX4_keeps 89 = .ok (.iconst 1, 1) := by decide +kernel
theorem dX4_keeps_90 : decode cX4_keeps 90 = .ok (.ireturn, 1) := by decide +kernel
theorem dX5_init_0 : decode cX5_init 0 = .ok (.aload_n 0, 1) := by decide +kernel
theorem dX5_init_1 : decode cX5_init 1 = .ok (.invokespecial 3, 3) := by decide +kernel
theorem dX5_init_4 : decode cX5_init 4 = .ok (.aload_n 0, 1) := by decide +kernel
theorem dX5_init_5 : decode cX5_init 5 = .ok (.bipush 15, 2) := by decide +kernel
theorem dX5_init_7 : decode cX5_init 7 = .ok (.newarray .int, 2) := by decide +kernel
theorem dX5_init_9 : decode cX5_init 9 = .ok (.putfield 9, 3) := by decide +kernel
theorem dX5_init_12 : decode cX5_init 12 = .ok (.aload_n 0, 1) := by decide +kernel
theorem dX5_init_13 : decode cX5_init 13 = .ok (.bipush 15, 2) := by decide +kernel
theorem dX5_init_15 : decode cX5_init 15 = .ok (.newarray .int, 2) := by decide +kernel
theorem dX5_init_17 : decode cX5_init 17 = .ok (.putfield 15, 3) := by decide +kernel
theorem dX5_init_20 : decode cX5_init 20 = .ok (.aload_n 0, 1) := by decide +kernel
theorem dX5_init_21 : decode cX5_init 21 = .ok (.bipush 15, 2) := by decide +kernel
theorem dX5_init_23 : decode cX5_init 23 = .ok (.newarray .int, 2) := by decide +kernel
theorem dX5_init_25 : decode cX5_init 25 = .ok (.putfield 18, 3) := by decide +kernel
theorem dX5_init_28 : decode cX5_init 28 = .ok (.aload_n 0, 1) := by decide +kernel
theorem dX5_init_29 : decode cX5_init 29 = .ok (.bipush 15, 2) := by decide +kernel
theorem dX5_init_31 : decode cX5_init 31 = .ok (.newarray .int, 2) := by decide +kernel
theorem dX5_init_33 : decode cX5_init 33 = .ok (.putfield 21, 3) := by decide +kernel
theorem dX5_init_36 : decode cX5_init 36 = .ok (.aload_n 0, 1) := by decide +kernel
theorem dX5_init_37 : decode cX5_init 37 = .ok (.bipush 15, 2) := by decide +kernel
theorem dX5_init_39 : decode cX5_init 39 = .ok (.newarray .int, 2) := by decide +kernel
theorem dX5_init_41 : decode cX5_init 41 = .ok (.putfield 24, 3) := by decide +kernel
theorem dX5_init_44 : decode cX5_init 44 = .ok (.aload_n 0, 1) := by decide +kernel
theorem dX5_init_45 : decode cX5_init 45 = .ok (.bipush 15, 2) := by decide +kernel
theorem dX5_init_47 : decode cX5_init 47 = .ok (.newarray .int, 2) := by decide +kernel
theorem dX5_init_49 : decode cX5_init 49 = .ok (.putfield 27, 3) := by decide +kernel
theorem dX5_init_52 : decode cX5_init 52 = .ok (.return_, 1) := by decide +kernel
theorem dX5_has_0 : decode cX5_has 0 = .ok (.iload_n 1, 1) := by decide +kernel
theorem dX5_has_1 : decode cX5_has 1 = .ok (.iconst 1, 1) := by decide +kernel
theorem dX5_has_2 : decode cX5_has 2 = .ok (.if_icmp .lt 15, 3) := by decide +kernel
theorem dX5_has_5 : decode cX5_has 5 = .ok (.iload_n 1, 1) := by decide +kernel
theorem dX5_has_6 : decode cX5_has 6 = .ok (.aload_n 0, 1) := by decide +kernel
theorem dX5_has_7 : decode cX5_has 7 = .ok (.getfield 30, 3) := by decide +kernel
theorem dX5_has_10 : decode cX5_has 10 = .ok (.if_icmp .gt 7, 3) := by decide +kernel
theorem dX5_has_13 : decode cX5_has 13 = .ok (.iconst 1, 1) := by decide +kernel
theorem dX5_has_14 : decode cX5_has 14 = .ok (.goto 4, 3) := by decide +kernel
theorem dX5_has_17 : decode cX5_has 17 = .ok (.iconst 0, 1) := by decide +kernel
theorem dX5_has_18 : decode cX5_has 18 = .ok (.ireturn, 1) := by decide +kernel
set_option maxRecDepth 20000 in
theorem ggX5_hasSigned_X5_has : GoodIn wsX5_hasSigned wsX5_has := goodIn_r _ [5, 6, 7, 8, 9, 10, 11, 12, 13, 14] (by decide +kernel) (by decide +kernel)
set_option maxRecDepth 20000 in
theorem gX5_hasSigned_X5_has : GoodIn wsX5_hasSigned (wsV RX5 34 RX5 yX5_has wsX5_has) := goodIn_app (goodIn_of _ (by decide +kernel)) ggX5_hasSigned_X5_has
theorem dX5_hasSigned_0 : decode cX5_hasSigned 0 = .ok (.aload_n 0, 1) := by decide +kernel
theorem dX5_hasSigned_1 : decode cX5_hasSigned 1 = .ok (.iload_n 1, 1) := by decide +kernel
theorem dX5_hasSigned_2 : decode cX5_hasSigned 2 = .ok (.ifCond .ge 8, 3) := by decide +kernel
theorem dX5_hasSigned_5 : decode cX5_hasSigned 5 = .ok (.iload_n 1, 1) := by decide +kernel
theorem dX5_hasSigned_6 : decode cX5_hasSigned 6 = .ok (.ineg, 1) := by decide +kernel
theorem dX5_hasSigned_7 : decode cX5_hasSigned 7 = .ok (.goto 4, 3) := by decide +kernel
theorem dX5_hasSigned_10 : decode cX5_hasSigned 10 = .ok (.iload_n 1, 1) := by decide +kernel
theorem dX5_hasSigned_11 : decode cX5_hasSigned 11 = .ok (.invokevirtual 34, 3) := by decide +kernel
theorem dX5_hasSigned_14 : decode cX5_hasSigned 14 = .ok (.ireturn, 1) := by decide +kernel
set_option maxRecDepth 20000 in
theorem ggX5_takesParent_X5_has : GoodIn wsX5_takesParent wsX5_has := goodIn_r _ [6, 1, 7, 8, 9, 10, 11, 12, 13, 14] (by decide +kernel) (by decide +kernel)
set_option maxRecDepth 20000 in
theorem gX5_takesParent_X5_has : GoodIn wsX5_takesParent (wsV RX5 34 RX5 yX5_has wsX5_has) := goodIn_app (goodIn_of _ (by decide +kernel)) ggX5_takesParent_X5_has
theorem dX5_takesParent_0 : decode cX5_takesParent 0 = .ok (.aload_n 0, 1) := by decide +kernel
theorem dX5_takesParent_1 : decode cX5_takesParent 1 = .ok (.getfield 30, 3) := by decide +kernel
theorem dX5_takesParent_4 : decode cX5_takesParent 4 = .ok (.ifCond .ne 15, 3) := by decide +kernel
theorem dX5_takesParent_7 : decode cX5_takesParent 7 = .ok (.iload_n 1, 1) := by decide +kernel
theorem dX5_takesParent_8 : decode cX5_takesParent 8 = .ok (.ifCond .ne 7, 3) := by decide +kernel
theorem dX5_takesParent_11 : decode cX5_takesParent 11 = .ok (.iconst 1, 1) := by decide +kernel
theorem dX5_takesParent_12 : decode cX5_takesParent 12 = .ok (.goto 12, 3) := by decide +kernel
theorem dX5_takesParent_15 : decode cX5_takesParent 15 = .ok (.iconst 0, 1) := by decide +kernel
theorem dX5_takesParent_16 : decode cX5_takesParent 16 = .ok (.goto 8, 3) := by decide +kernel
theorem dX5_takesParent_19 : decode cX5_takesParent 19 = .ok (.aload_n 0, 1) := by decide +kernel
theorem dX5_takesParent_20 : decode cX5_takesParent 20 = .ok (.iload_n 1, 1) := by decide +kernel
theorem dX5_takesParent_21 : decode cX5_takesParent 21 = .ok (.invokevirtual 34, 3) := by decide +kernel
theorem dX5_takesParent_24 : decode cX5_takesParent 24 = .ok (.ireturn, 1) := by decide +kernel
set_option maxRecDepth 20000 in
theorem ggX5_add_X7_put : GoodIn wsX5_add wsX7_put := goodIn_ca (goodIn_r _ [8] (by decide +kernel) (by decide +kernel)) (goodIn_sub (fun _ h => List.mem_cons_of_mem _ (List.mem_append_right _ h)) (by decide +kernel))
set_option maxRecDepth 20000 in
theorem gX5_add_X7_put_n38 : GoodIn wsX5_add (wsX7_put) := ggX5_add_X7_put
set_option maxRecDepth 20000 in
theorem ggX5_add_X7_at : GoodIn wsX5_add wsX7_at := goodIn_ca (goodIn_r _ [10] (by decide +kernel) (by decide +kernel)) (goodIn_sub (fun _ h => List.mem_cons_of_mem _ (List.mem_append_right _ h)) (by decide +kernel))
set_option maxRecDepth 20000 in
theorem gX5_add_X7_at_n42 : GoodIn wsX5_add (wsX7_at) := ggX5_add_X7_at
set_option maxRecDepth 20000 in
theorem ggX5_add_X7_bit : GoodIn wsX5_add wsX7_bit := goodIn_r _ [12] (by decide +kernel) (by decide +kernel)
set_option maxRecDepth 20000 in
theorem gX5_add_X7_bit_n46 : GoodIn wsX5_add (wsX7_bit) := ggX5_add_X7_bit
theorem dX5_add_0 : decode cX5_add 0 = .ok (.aload_n 0, 1) := by decide +kernel
theorem dX5_add_1 : decode cX5_add 1 = .ok (.dup, 1) := by decide +kernel
theorem dX5_add_2 : decode cX5_add 2 = .ok (.getfield 30, 3) := by decide +kernel
theorem dX5_add_5 : decode cX5_add 5 = .ok (.iconst 1, 1) := by decide +kernel
theorem dX5_add_6 : decode cX5_add 6 = .ok (.iadd, 1) := by decide +kernel
theorem dX5_add_7 : decode cX5_add 7 = .ok (.putfield 30, 3) := by decide +kernel
theorem dX5_add_10 : decode cX5_add 10 = .ok (.aload_n 0, 1) := by decide +kernel
theorem dX5_add_11 : decode cX5_add 11 = .ok (.getfield 9, 3) := by decide +kernel
theorem dX5_add_14 : decode cX5_add 14 = .ok (.aload_n 0, 1) := by decide +kernel
theorem dX5_add_15 : decode cX5_add 15 = .ok (.getfield 30, 3) := by decide +kernel
theorem dX5_add_18 : decode cX5_add 18 = .ok (.iload_n 2, 1) := by decide +kernel
theorem dX5_add_19 : decode cX5_add 19 = .ok (.invokestatic 38, 3) := by decide +kernel
theorem dX5_add_22 : decode cX5_add 22 = .ok (.aload_n 0, 1) := by decide +kernel
theorem dX5_add_23 : decode cX5_add 23 = .ok (.getfield 15, 3) := by decide +kernel
theorem dX5_add_26 : decode cX5_add 26 = .ok (.aload_n 0, 1) := by decide +kernel
theorem dX5_add_27 : decode cX5_add 27 = .ok (.getfield 30, 3) := by decide +kernel
theorem dX5_add_30 : decode cX5_add 30 = .ok (.aload_n 0, 1) := by decide +kernel
theorem dX5_add_31 : decode cX5_add 31 = .ok (.getfield 30, 3) := by decide +kernel
theorem dX5_add_34 : decode cX5_add 34 = .ok (.iconst 1, 1) := by decide +kernel
theorem dX5_add_35 : decode cX5_add 35 = .ok (.if_icmp .ne 7, 3) := by decide +kernel
theorem dX5_add_38 : decode cX5_add 38 = .ok (.iconst 0, 1) := by decide +kernel
theorem dX5_add_39 : decode cX5_add 39 = .ok (.goto 13, 3) := by decide +kernel
theorem dX5_add_42 : decode cX5_add 42 = .ok (.aload_n 0, 1) := by decide +kernel
theorem dX5_add_43 : decode cX5_add 43 = .ok (.getfield 15, 3) := by decide +kernel
theorem dX5_add_46 : decode cX5_add 46 = .ok (.iload_n 1, 1) := by decide +kernel
theorem dX5_add_47 : decode cX5_add 47 = .ok (.invokestatic 42, 3) := by decide +kernel
theorem dX5_add_50 : decode cX5_add 50 = .ok (.iconst 1, 1) := by decide +kernel
theorem dX5_add_51 : decode cX5_add 51 = .ok (.iadd, 1) := by decide +kernel
theorem dX5_add_52 : decode cX5_add 52 = .ok (.invokestatic 38, 3) := by decide +kernel
theorem dX5_add_55 : decode cX5_add 55 = .ok (.aload_n 0, 1) := by decide +kernel
theorem dX5_add_56 : decode cX5_add 56 = .ok (.getfield 18, 3) := by decide +kernel
theorem dX5_add_59 : decode cX5_add 59 = .ok (.aload_n 0, 1) := by decide +kernel
theorem dX5_add_60 : decode cX5_add 60 = .ok (.getfield 30, 3) := by decide +kernel
theorem dX5_add_63 : decode cX5_add 63 = .ok (.iload_n 1, 1) := by decide +kernel
theorem dX5_add_64 : decode cX5_add 64 = .ok (.invokestatic 46, 3) := by decide +kernel
theorem dX5_add_67 : decode cX5_add 67 = .ok (.invokestatic 38, 3) := by decide +kernel
theorem dX5_add_70 : decode cX5_add 70 = .ok (.iload_n 2, 1) := by decide +kernel
theorem dX5_add_71 : decode cX5_add 71 = .ok (.iconst 2, 1) := by decide +kernel
theorem dX5_add_72 : decode cX5_add 72 = .ok (.if_icmp .ne 27, 3) := by decide +kernel
theorem dX5_add_75 : decode cX5_add 75 = .ok (.aload_n 0, 1) := by decide +kernel
theorem dX5_add_76 : decode cX5_add 76 = .ok (.getfield 21, 3) := by decide +kernel
theorem dX5_add_79 : decode cX5_add 79 = .ok (.iload_n 1, 1) := by decide +kernel
theorem dX5_add_80 : decode cX5_add 80 = .ok (.aload_n 0, 1) := by decide +kernel
theorem dX5_add_81 : decode cX5_add 81 = .ok (.getfield 21, 3) := by decide +kernel
theorem dX5_add_84 : decode cX5_add 84 = .ok (.iload_n 1, 1) := by decide +kernel
theorem dX5_add_85 : decode cX5_add 85 = .ok (.invokestatic 42, 3) := by decide +kernel
theorem dX5_add_88 : decode cX5_add 88 = .ok (.aload_n 0, 1) := by decide +kernel
theorem dX5_add_89 : decode cX5_add 89 = .ok (.getfield 30, 3) := by decide +kernel
theorem dX5_add_92 : decode cX5_add 92 = .ok (.invokestatic 46, 3) := by decide +kernel
theorem dX5_add_95 : decode cX5_add 95 = .ok (.ior, 1) := by decide +kernel
theorem dX5_add_96 : decode cX5_add 96 = .ok (.invokestatic 38, 3) := by decide +kernel
theorem dX5_add_99 : decode cX5_add 99 = .ok (.aload_n 0, 1) := by decide +kernel
theorem dX5_add_100 : decode cX5_add 100 = .ok (.getfield 30, 3) := by decide +kernel
theorem dX5_add_103 : decode cX5_add 103 = .ok (.ireturn, 1) := by decide +kernel
set_option maxRecDepth 20000 in
theorem ggX5_bound_X7_put : GoodIn wsX5_bound wsX7_put := goodIn_ca (goodIn_r _ [7] (by decide +kernel) (by decide +kernel)) (goodIn_sub (fun _ h => List.mem_cons_of_mem _ (List.mem_append_right _ h)) (by decide +kernel))
set_option maxRecDepth 20000 in
theorem gX5_bound_X7_put_n38 : GoodIn wsX5_bound (wsX7_put) := ggX5_bound_X7_put
set_option maxRecDepth 20000 in
theorem ggX5_bound_X7_bit : GoodIn wsX5_bound wsX7_bit := goodIn_r _ [9] (by decide +kernel) (by decide +kernel)
set_option maxRecDepth 20000 in
theorem gX5_bound_X7_bit_n46 : GoodIn wsX5_bound (wsX7_bit) := ggX5_bound_X7_bit
set_option maxRecDepth 20000 in
theorem ggX5_bound_X7_at : GoodIn wsX5_bound wsX7_at := goodIn_ca (goodIn_r _ [11] (by decide +kernel) (by decide +kernel)) (goodIn_sub (fun _ h => List.mem_cons_of_mem _ (List.mem_append_right _ h)) (by decide +kernel))
set_option maxRecDepth 20000 in
theorem gX5_bound_X7_at_n42 : GoodIn wsX5_bound (wsX7_at) := ggX5_bound_X7_at
set_option maxRecDepth 20000 in
theorem ggX5_bound_J6_bitCount_0f7a4 : GoodIn wsX5_bound wsJ6_bitCount_0f7a4 := goodIn_r _ [15, 16, 17, 18] (by decide +kernel) (by decide +kernel)
set_option maxRecDepth 20000 in
theorem gX5_bound_J6_bitCount_0f7a4 : GoodIn wsX5_bound (va_wsS RX5 53 yJ6_bitCount_0f7a4 wsJ6_bitCount_0f7a4) := goodIn_app (goodIn_of _ (by decide +kernel)) ggX5_bound_J6_bitCount_0f7a4
theorem dX5_bound_0 : decode cX5_bound 0 = .ok (.aload_n 0, 1) := by decide +kernel
theorem dX5_bound_1 : decode cX5_bound 1 = .ok (.getfield 24, 3) := by decide +kernel
theorem dX5_bound_4 : decode cX5_bound 4 = .ok (.iload_n 1, 1) := by decide +kernel
theorem dX5_bound_5 : decode cX5_bound 5 = .ok (.iload_n 2, 1) := by decide +kernel
theorem dX5_bound_6 : decode cX5_bound 6 = .ok (.invokestatic 38, 3) := by decide +kernel
theorem dX5_bound_9 : decode cX5_bound 9 = .ok (.aload_n 0, 1) := by decide +kernel
theorem dX5_bound_10 : decode cX5_bound 10 = .ok (.getfield 27, 3) := by decide +kernel
theorem dX5_bound_13 : decode cX5_bound 13 = .ok (.iload_n 1, 1) := by decide +kernel
theorem dX5_bound_14 : decode cX5_bound 14 = .ok (.iload_n 3, 1) := by decide +kernel
theorem dX5_bound_15 : decode cX5_bound 15 = .ok (.invokestatic 38, 3) := by decide +kernel
theorem dX5_bound_18 : decode cX5_bound 18 = .ok (.aload_n 0, 1) := by decide +kernel
theorem dX5_bound_19 : decode cX5_bound 19 = .ok (.dup, 1) := by decide +kernel
theorem dX5_bound_20 : decode cX5_bound 20 = .ok (.getfield 50, 3) := by decide +kernel
theorem dX5_bound_23 : decode cX5_bound 23 = .ok (.iload_n 1, 1) := by decide +kernel
theorem dX5_bound_24 : decode cX5_bound 24 = .ok (.invokestatic 46, 3) := by decide +kernel
theorem dX5_bound_27 : decode cX5_bound 27 = .ok (.ior, 1) := by decide +kernel
theorem dX5_bound_28 : decode cX5_bound 28 = .ok (.putfield 50, 3) := by decide +kernel
theorem dX5_bound_31 : decode cX5_bound 31 = .ok (.aload_n 0, 1) := by decide +kernel
theorem dX5_bound_32 : decode cX5_bound 32 = .ok (.getfield 21, 3) := by decide +kernel
theorem dX5_bound_35 : decode cX5_bound 35 = .ok (.iload_n 1, 1) := by decide +kernel
theorem dX5_bound_36 : decode cX5_bound 36 = .ok (.invokestatic 42, 3) := by decide +kernel
theorem dX5_bound_39 : decode cX5_bound 39 = .ok (.invokestatic 53, 3) := by decide +kernel
theorem dX5_bound_42 : decode cX5_bound 42 = .ok (.ireturn, 1) := by decide +kernel
set_option maxRecDepth 20000 in
theorem ggX5_above_X7_at : GoodIn wsX5_above wsX7_at := goodIn_ca (goodIn_r _ [4] (by decide +kernel) (by decide +kernel)) (goodIn_sub (fun _ h => List.mem_cons_of_mem _ (List.mem_append_right _ h)) (by decide +kernel))
set_option maxRecDepth 20000 in
theorem gX5_above_X7_at_n42 : GoodIn wsX5_above (wsX7_at) := ggX5_above_X7_at
theorem dX5_above_0 : decode cX5_above 0 = .ok (.aload_n 0, 1) := by decide +kernel
theorem dX5_above_1 : decode cX5_above 1 = .ok (.getfield 15, 3) := by decide +kernel
theorem dX5_above_4 : decode cX5_above 4 = .ok (.iload_n 1, 1) := by decide +kernel
theorem dX5_above_5 : decode cX5_above 5 = .ok (.invokestatic 42, 3) := by decide +kernel
theorem dX5_above_8 : decode cX5_above 8 = .ok (.ireturn, 1) := by decide +kernel
set_option maxRecDepth 20000 in
theorem ggX5_mayBeIn_X7_at : GoodIn wsX5_mayBeIn wsX7_at := goodIn_ca (goodIn_r _ [4] (by decide +kernel) (by decide +kernel)) (goodIn_sub (fun _ h => List.mem_cons_of_mem _ (List.mem_append_right _ h)) (by decide +kernel))
set_option maxRecDepth 20000 in
theorem gX5_mayBeIn_X7_at_n42 : GoodIn wsX5_mayBeIn (wsX7_at) := ggX5_mayBeIn_X7_at
theorem dX5_mayBeIn_0 : decode cX5_mayBeIn 0 = .ok (.iload_n 2, 1) := by decide +kernel
theorem dX5_mayBeIn_1 : decode cX5_mayBeIn 1 = .ok (.iconst 1, 1) := by decide +kernel
theorem dX5_mayBeIn_2 : decode cX5_mayBeIn 2 = .ok (.if_icmp .eq 16, 3) := by decide +kernel
theorem dX5_mayBeIn_5 : decode cX5_mayBeIn 5 = .ok (.iload_n 1, 1) := by decide +kernel
theorem dX5_mayBeIn_6 : decode cX5_mayBeIn 6 = .ok (.aload_n 0, 1) := by decide +kernel
theorem dX5_mayBeIn_7 : decode cX5_mayBeIn 7 = .ok (.getfield 18, 3) := by decide +kernel
theorem dX5_mayBeIn_10 : decode cX5_mayBeIn 10 = .ok (.iload_n 2, 1) := by decide +kernel
theorem dX5_mayBeIn_11 : decode cX5_mayBeIn 11 = .ok (.invokestatic 42, 3) := by decide +kernel
theorem dX5_mayBeIn_14 : decode cX5_mayBeIn 14 = .ok (.iand, 1) := by decide +kernel
theorem dX5_mayBeIn_15 : decode cX5_mayBeIn 15 = .ok (.ifCond .eq 7, 3) := by decide +kernel
theorem dX5_mayBeIn_18 : decode cX5_mayBeIn 18 = .ok (.iconst 1, 1) := by decide +kernel
theorem dX5_mayBeIn_19 : decode cX5_mayBeIn 19 = .ok (.goto 4, 3) := by decide +kernel
theorem dX5_mayBeIn_22 : decode cX5_mayBeIn 22 = .ok (.iconst 0, 1) := by decide +kernel
theorem dX5_mayBeIn_23 : decode cX5_mayBeIn 23 = .ok (.ireturn, 1) := by decide +kernel
set_option maxRecDepth 20000 in
theorem ggX5_mayBeOut_X7_at : GoodIn wsX5_mayBeOut wsX7_at := goodIn_ca (goodIn_r _ [5] (by decide +kernel) (by decide +kernel)) (goodIn_sub (fun _ h => List.mem_cons_of_mem _ (List.mem_append_right _ h)) (by decide +kernel))
set_option maxRecDepth 20000 in
theorem gX5_mayBeOut_X7_at_n42 : GoodIn wsX5_mayBeOut (wsX7_at) := ggX5_mayBeOut_X7_at
theorem dX5_mayBeOut_0 : decode cX5_mayBeOut 0 = .ok (.iload_n 2, 1) := by decide +kernel
theorem dX5_mayBeOut_1 : decode cX5_mayBeOut 1 = .ok (.iconst 1, 1) := by decide +kernel
theorem dX5_mayBeOut_2 : decode cX5_mayBeOut 2 = .ok (.if_icmp .ne 5, 3) := by decide +kernel
theorem dX5_mayBeOut_5 : decode cX5_mayBeOut 5 = .ok (.iconst 0, 1) := by decide +kernel
theorem dX5_mayBeOut_6 : decode cX5_mayBeOut 6 = .ok (.ireturn, 1) := by decide +kernel
theorem dX5_mayBeOut_7 : decode cX5_mayBeOut 7 = .ok (.aload_n 0, 1) := by decide +kernel
theorem dX5_mayBeOut_8 : decode cX5_mayBeOut 8 = .ok (.getfield 9, 3) := by decide +kernel
theorem dX5_mayBeOut_11 : decode cX5_mayBeOut 11 = .ok (.iload_n 2, 1) := by decide +kernel
theorem dX5_mayBeOut_12 : decode cX5_mayBeOut 12 = .ok (.invokestatic 42, 3) := by decide +kernel
theorem dX5_mayBeOut_15 : decode cX5_mayBeOut 15 = .ok (.ifCond .ne 16, 3) := by decide +kernel
theorem dX5_mayBeOut_18 : decode cX5_mayBeOut 18 = .ok (.iload_n 1, 1) := by decide +kernel
theorem dX5_mayBeOut_19 : decode cX5_mayBeOut 19 = .ok (.aload_n 0, 1) := by decide +kernel
theorem dX5_mayBeOut_20 : decode cX5_mayBeOut 20 = .ok (.getfield 18, 3) := by decide +kernel
theorem dX5_mayBeOut_23 : decode cX5_mayBeOut 23 = .ok (.iload_n 2, 1) := by decide +kernel
theorem dX5_mayBeOut_24 : decode cX5_mayBeOut 24 = .ok (.invokestatic 42, 3) := by decide +kernel
theorem dX5_mayBeOut_27 : decode cX5_mayBeOut 27 = .ok (.iand, 1) := by decide +kernel
theorem dX5_mayBeOut_28 : decode cX5_mayBeOut 28 = .ok (.ifCond .ne 7, 3) := by decide +kernel
theorem dX5_mayBeOut_31 : decode cX5_mayBeOut 31 = .ok (.iconst 1, 1) := by decide +kernel
theorem dX5_mayBeOut_32 : decode cX5_mayBeOut 32 = .ok (.goto 4, 3) := by decide +kernel
theorem dX5_mayBeOut_35 : decode cX5_mayBeOut 35 = .ok (.iconst 0, 1) := by decide +kernel
theorem dX5_mayBeOut_36 : decode cX5_mayBeOut 36 = .ok (.ireturn, 1) := by decide +kernel
set_option maxRecDepth 20000 in
theorem ggX5_keepsGroups_X7_at : GoodIn wsX5_keepsGroups wsX7_at := goodIn_ca (goodIn_r _ [8] (by decide +kernel) (by decide +kernel)) (goodIn_sub (fun _ h => List.mem_cons_of_mem _ (List.mem_append_right _ h)) (by decide +kernel))
set_option maxRecDepth 20000 in
theorem gX5_keepsGroups_X7_at_n42 : GoodIn wsX5_keepsGroups (wsX7_at) := ggX5_keepsGroups_X7_at
set_option maxRecDepth 20000 in
theorem ggX5_keepsGroups_J6_bitCount_0f7a4 : GoodIn wsX5_keepsGroups wsJ6_bitCount_0f7a4 := goodIn_r _ [12, 13, 14, 15] (by decide +kernel) (by decide +kernel)
set_option maxRecDepth 20000 in
theorem gX5_keepsGroups_J6_bitCount_0f7a4 : GoodIn wsX5_keepsGroups (va_wsS RX5 53 yJ6_bitCount_0f7a4 wsJ6_bitCount_0f7a4) := goodIn_app (goodIn_of _ (by decide +kernel)) ggX5_keepsGroups_J6_bitCount_0f7a4
set_option maxRecDepth 20000 in
theorem ggX5_keepsGroups_X7_bit : GoodIn wsX5_keepsGroups wsX7_bit := goodIn_r _ [17] (by decide +kernel) (by decide +kernel)
set_option maxRecDepth 20000 in
theorem gX5_keepsGroups_X7_bit_n46 : GoodIn wsX5_keepsGroups (wsX7_bit) := ggX5_keepsGroups_X7_bit
theorem dX5_keepsGroups_0 : decode cX5_keepsGroups 0 = .ok (.iconst 1, 1) := by decide +kernel
theorem dX5_keepsGroups_1 : decode cX5_keepsGroups 1 = .ok (.istore_n 2, 1) := by decide +kernel
theorem dX5_keepsGroups_2 : decode cX5_keepsGroups 2 = .ok (.iload_n 2, 1) := by decide +kernel
theorem dX5_keepsGroups_3 : decode cX5_keepsGroups 3 = .ok (.aload_n 0, 1) := by decide +kernel
theorem dX5_keepsGroups_4 : decode cX5_keepsGroups 4 = .ok (.getfield 30, 3) := by decide +kernel
theorem dX5_keepsGroups_7 : decode cX5_keepsGroups 7 = .ok (.if_icmp .gt 75, 3) := by decide +kernel
theorem dX5_keepsGroups_10 : decode cX5_keepsGroups 10 = .ok (.iload_n 1, 1) := by decide +kernel
theorem dX5_keepsGroups_11 : decode cX5_keepsGroups 11 = .ok (.aload_n 0, 1) := by decide +kernel
theorem dX5_keepsGroups_12 : decode cX5_keepsGroups 12 = .ok (.getfield 21, 3) := by decide +kernel
theorem dX5_keepsGroups_15 : decode cX5_keepsGroups 15 = .ok (.iload_n 2, 1) := by decide +kernel
theorem dX5_keepsGroups_16 : decode cX5_keepsGroups 16 = .ok (.invokestatic 42, 3) := by decide +kernel
theorem dX5_keepsGroups_19 : decode cX5_keepsGroups 19 = .ok (.iand, 1) := by decide +kernel
theorem dX5_keepsGroups_20 : decode cX5_keepsGroups 20 = .ok (.invokestatic 53, 3) := by decide +kernel
theorem dX5_keepsGroups_23 : decode cX5_keepsGroups 23 = .ok (.istore_n 3, 1) := by decide +kernel
theorem dX5_keepsGroups_24 : decode cX5_keepsGroups 24 = .ok (.iload_n 1, 1) := by decide +kernel
theorem dX5_keepsGroups_25 : decode cX5_keepsGroups 25 = .ok (.aload_n 0, 1) := by decide +kernel
theorem dX5_keepsGroups_26 : decode cX5_keepsGroups 26 = .ok (.getfield 50, 3) := by decide +kernel
theorem dX5_keepsGroups_29 : decode cX5_keepsGroups 29 = .ok (.iand, 1) := by decide +kernel
theorem dX5_keepsGroups_30 : decode cX5_keepsGroups 30 = .ok (.iload_n 2, 1) := by decide +kernel
theorem dX5_keepsGroups_31 : decode cX5_keepsGroups 31 = .ok (.invokestatic 46, 3) := by decide +kernel
theorem dX5_keepsGroups_34 : decode cX5_keepsGroups 34 = .ok (.iand, 1) := by decide +kernel
theorem dX5_keepsGroups_35 : decode cX5_keepsGroups 35 = .ok (.ifCond .eq 7, 3) := by decide +kernel
theorem dX5_keepsGroups_38 : decode cX5_keepsGroups 38 = .ok (.iconst 1, 1) := by decide +kernel
theorem dX5_keepsGroups_39 : decode cX5_keepsGroups 39 = .ok (.goto 4, 3) := by decide +kernel
theorem dX5_keepsGroups_42 : decode cX5_keepsGroups 42 = .ok (.iconst 0, 1) := by decide +kernel
theorem dX5_keepsGroups_43 : decode cX5_keepsGroups 43 = .ok (.istore 4, 2) := by decide +kernel
theorem dX5_keepsGroups_45 : decode cX5_keepsGroups 45 = .ok (.iload 4, 2) := by decide +kernel
theorem dX5_keepsGroups_47 : decode cX5_keepsGroups 47 = .ok (.ifCond .eq 29, 3) := by decide +kernel
theorem dX5_keepsGroups_50 : decode cX5_keepsGroups 50 = .ok (.iload_n 3, 1) := by decide +kernel
theorem dX5_keepsGroups_51 : decode cX5_keepsGroups 51 = .ok (.aload_n 0, 1) := by decide +kernel
theorem dX5_keepsGroups_52 : decode cX5_keepsGroups 52 = .ok (.getfield 24, 3) := by decide +kernel
theorem dX5_keepsGroups_55 : decode cX5_keepsGroups 55 = .ok (.iload_n 2, 1) := by decide +kernel
theorem dX5_keepsGroups_56 : decode cX5_keepsGroups 56 = .ok (.invokestatic 42, 3) := by decide +kernel
theorem dX5_keepsGroups_59 : decode cX5_keepsGroups 59 = .ok (.if_icmp .lt 15, 3) := by decide +kernel
theorem dX5_keepsGroups_62 : decode cX5_keepsGroups 62 = .ok (.iload_n 3, 1) := by decide +kernel
theorem dX5_keepsGroups_63 : decode cX5_keepsGroups 63 = .ok (.aload_n 0, 1) := by decide +kernel
theorem dX5_keepsGroups_64 : decode cX5_keepsGroups 64 = .ok (.getfield 27, 3) := by decide +kernel
theorem dX5_keepsGroups_67 : decode cX5_keepsGroups 67 = .ok (.iload_n 2, 1) := by decide +kernel
theorem dX5_keepsGroups_68 : decode cX5_keepsGroups 68 = .ok (.invokestatic 42, 3) := by decide +kernel
theorem dX5_keepsGroups_71 : decode cX5_keepsGroups 71 = .ok (.if_icmp .le 5, 3) := by decide +kernel
theorem dX5_keepsGroups_74 : decode cX5_keepsGroups 74 = .ok (.iconst 0, 1) := by decide +kernel
theorem dX5_keepsGroups_75 : decode cX5_keepsGroups 75 = .ok (.ireturn, 1) := by decide +kernel
theorem dX5_keepsGroups_76 : decode cX5_keepsGroups 76 = .ok (.iinc 2 1, 3) := by decide +kernel
theorem dX5_keepsGroups_79 : decode cX5_keepsGroups 79 = .ok (.goto (-77), 3) := by decide +kernel
theorem dX5_keepsGroups_82 : decode cX5_keepsGroups 82 = .ok (.iconst 1, 1) := by decide +kernel
theorem dX5_keepsGroups_83 : decode cX5_keepsGroups 83 = .ok (.ireturn, 1) := by decide +kernel
set_option maxRecDepth 20000 in
theorem ggX6_init_X5_init : GoodIn wsX6_init wsX5_init := goodIn_r _ [19, 20, 2, 3, 16, 21, 22, 23, 24, 25, 26, 40, 41, 42, 43, 44, 45, 46, 47] (by decide +kernel) (by decide +kernel)
set_option maxRecDepth 20000 in
theorem gX6_init_X5_init_n11 : GoodIn wsX6_init (wsX5_init) := ggX6_init_X5_init
set_option maxRecDepth 20000 in
theorem ggX6_init_X1_init : GoodIn wsX6_init wsX1_init := goodIn_r _ [28, 29, 2, 3, 16, 30, 31, 32, 33, 34, 54, 55, 56, 57, 58, 59] (by decide +kernel) (by decide +kernel)
set_option maxRecDepth 20000 in
theorem gX6_init_X1_init_n20 : GoodIn wsX6_init (wsX1_init) := ggX6_init_X1_init
set_option maxRecDepth 20000 in
theorem ggX6_init_X4_init : GoodIn wsX6_init wsX4_init := goodIn_ca (goodIn_r _ [36, 37, 2, 3, 16, 38, 39, 60, 61] (by decide +kernel) (by decide +kernel)) (goodIn_sub (fun _ h => List.mem_cons_of_mem _ (List.mem_append_right _ h)) (by decide +kernel))
set_option maxRecDepth 20000 in
theorem gX6_init_X4_init_n27 : GoodIn wsX6_init (wsX4_init) := ggX6_init_X4_init
theorem dX6_init_0 : decode cX6_init 0 = .ok (.aload_n 0, 1) := by decide +kernel
theorem dX6_init_1 : decode cX6_init 1 = .ok (.invokespecial 3, 3) := by decide +kernel
theorem dX6_init_4 : decode cX6_init 4 = .ok (.aload_n 0, 1) := by decide +kernel
theorem dX6_init_5 : decode cX6_init 5 = .ok (.new 9, 3) := by decide +kernel
theorem dX6_init_8 : decode cX6_init 8 = .ok (.dup, 1) := by decide +kernel
theorem dX6_init_9 : decode cX6_init 9 = .ok (.invokespecial 11, 3) := by decide +kernel
theorem dX6_init_12 : decode cX6_init 12 = .ok (.putfield 12, 3) := by decide +kernel
theorem dX6_init_15 : decode cX6_init 15 = .ok (.aload_n 0, 1) := by decide +kernel
theorem dX6_init_16 : decode cX6_init 16 = .ok (.new 18, 3) := by decide +kernel
theorem dX6_init_19 : decode cX6_init 19 = .ok (.dup, 1) := by decide +kernel
theorem dX6_init_20 : decode cX6_init 20 = .ok (.invokespecial 20, 3) := by decide +kernel
theorem dX6_init_23 : decode cX6_init 23 = .ok (.putfield 21, 3) := by decide +kernel
theorem dX6_init_26 : decode cX6_init 26 = .ok (.aload_n 0, 1) := by decide +kernel
theorem dX6_init_27 : decode cX6_init 27 = .ok (.new 25, 3) := by decide +kernel
theorem dX6_init_30 : decode cX6_init 30 = .ok (.dup, 1) := by decide +kernel
theorem dX6_init_31 : decode cX6_init 31 = .ok (.invokespecial 27, 3) := by decide +kernel
theorem dX6_init_34 : decode cX6_init 34 = .ok (.putfield 28, 3) := by decide +kernel
theorem dX6_init_37 : decode cX6_init 37 = .ok (.aload_n 0, 1) := by decide +kernel
theorem dX6_init_38 : decode cX6_init 38 = .ok (.sipush 8192, 3) := by decide +kernel
theorem dX6_init_41 : decode cX6_init 41 = .ok (.newarray .int, 2) := by decide +kernel
theorem dX6_init_43 : decode cX6_init 43 = .ok (.putfield 32, 3) := by decide +kernel
theorem dX6_init_46 : decode cX6_init 46 = .ok (.return_, 1) := by decide +kernel
theorem dX6_outdate_0 : decode cX6_outdate 0 = .ok (.aload_n 0, 1) := by decide +kernel
theorem dX6_outdate_1 : decode cX6_outdate 1 = .ok (.iconst 0, 1) := by decide +kernel
theorem dX6_outdate_2 : decode cX6_outdate 2 = .ok (.putfield 36, 3) := by decide +kernel
theorem dX6_outdate_5 : decode cX6_outdate 5 = .ok (.return_, 1) := by decide +kernel
set_option maxRecDepth 20000 in
theorem ggX6_first_X6_update : GoodIn wsX6_first wsX6_update := goodIn_ca (goodIn_r _ [7, 8, 2, 1, 9, 10, 11, 12, 13, 14, 15, 16, 6, 17, 18, 19, 20, 21, 22, 23, 24, 25, 26, 27, 28, 29, 30, 31, 32, 33, 34, 35, 36, 37, 38, 39, 40, 41, 42, 43, 44, 45, 46, 47, 48, 49, 50, 51, 52, 53, 54, 55, 56, 57, 58, 59, 60, 61, 62, 63, 64, 65, 66, 67, 68, 69, 70, 71, 72, 73, 74, 75, 79, 80, 81, 82, 83, 84, 85, 86, 87, 88, 89, 90, 91, 92, 93, 94, 95, 96, 97, 98, 99, 100] (by decide +kernel) (by decide +kernel)) (goodIn_sub (fun _ h => List.mem_cons_of_mem _ (List.mem_append_right _ h)) (by decide +kernel))
set_option maxRecDepth 20000 in
theorem gX6_first_X6_update : GoodIn wsX6_first (wsV RX6 40 RX6 yX6_update wsX6_update) := goodIn_app (goodIn_of _ (by decide +kernel)) ggX6_first_X6_update
set_option maxRecDepth 20000 in
theorem ggX6_first_X7_at : GoodIn wsX6_first wsX7_at := goodIn_ca (goodIn_r _ [19] (by decide +kernel) (by decide +kernel)) (goodIn_sub (fun _ h => List.mem_cons_of_mem _ (List.mem_append_right _ h)) (by decide +kernel))
set_option maxRecDepth 20000 in
theorem gX6_first_X7_at_n47 : GoodIn wsX6_first (wsX7_at) := ggX6_first_X7_at
set_option maxRecDepth 20000 in
theorem ggX6_first_X6_fits : GoodIn wsX6_first wsX6_fits := goodIn_r _ [78] (by decide +kernel) (by decide +kernel)
set_option maxRecDepth 20000 in
theorem gX6_first_X6_fits : GoodIn wsX6_first (va_wsS RX6 51 yX6_fits wsX6_fits) := goodIn_app (goodIn_of _ (by decide +kernel)) ggX6_first_X6_fits
theorem dX6_first_0 : decode cX6_first 0 = .ok (.aload_n 0, 1) := by decide +kernel
theorem dX6_first_1 : decode cX6_first 1 = .ok (.invokevirtual 40, 3) := by decide +kernel
theorem dX6_first_4 : decode cX6_first 4 = .ok (.iconst 0, 1) := by decide +kernel
theorem dX6_first_5 : decode cX6_first 5 = .ok (.istore_n 3, 1) := by decide +kernel
theorem dX6_first_6 : decode cX6_first 6 = .ok (.iload_n 3, 1) := by decide +kernel
theorem dX6_first_7 : decode cX6_first 7 = .ok (.aload_n 0, 1) := by decide +kernel
theorem dX6_first_8 : decode cX6_first 8 = .ok (.getfield 43, 3) := by decide +kernel
theorem dX6_first_11 : decode cX6_first 11 = .ok (.if_icmp .ge 34, 3) := by decide +kernel
theorem dX6_first_14 : decode cX6_first 14 = .ok (.aload_n 0, 1) := by decide +kernel
theorem dX6_first_15 : decode cX6_first 15 = .ok (.getfield 32, 3) := by decide +kernel
theorem dX6_first_18 : decode cX6_first 18 = .ok (.iload_n 3, 1) := by decide +kernel
theorem dX6_first_19 : decode cX6_first 19 = .ok (.invokestatic 47, 3) := by decide +kernel
theorem dX6_first_22 : decode cX6_first 22 = .ok (.iload_n 1, 1) := by decide +kernel
theorem dX6_first_23 : decode cX6_first 23 = .ok (.iload_n 2, 1) := by decide +kernel
theorem dX6_first_24 : decode cX6_first 24 = .ok (.invokestatic 51, 3) := by decide +kernel
theorem dX6_first_27 : decode cX6_first 27 = .ok (.ifCond .eq 12, 3) := by decide +kernel
theorem dX6_first_30 : decode cX6_first 30 = .ok (.aload_n 0, 1) := by decide +kernel
theorem dX6_first_31 : decode cX6_first 31 = .ok (.getfield 32, 3) := by decide +kernel
theorem dX6_first_34 : decode cX6_first 34 = .ok (.iload_n 3, 1) := by decide +kernel
theorem dX6_first_35 : decode cX6_first 35 = .ok (.invokestatic 47, 3) := by decide +kernel
theorem dX6_first_38 : decode cX6_first 38 = .ok (.ireturn, 1) := by decide +kernel
theorem dX6_first_39 : decode cX6_first 39 = .ok (.iinc 3 1, 3) := by decide +kernel
theorem dX6_first_42 : decode cX6_first 42 = .ok (.goto (-36), 3) := by decide +kernel
theorem dX6_first_45 : decode cX6_first 45 = .ok (.iconst (-1), 1) := by decide +kernel
theorem dX6_first_46 : decode cX6_first 46 = .ok (.ireturn, 1) := by decide +kernel
set_option maxRecDepth 20000 in
theorem ggX6_number_X6_update : GoodIn wsX6_number wsX6_update := goodIn_ca (goodIn_r _ [7, 8, 2, 1, 9, 10, 11, 12, 13, 14, 15, 16, 6, 17, 18, 19, 20, 21, 22, 23, 24, 25, 26, 27, 28, 29, 30, 31, 32, 33, 34, 35, 36, 37, 38, 39, 40, 41, 42, 43, 44, 45, 46, 47, 48, 49, 50, 51, 52, 53, 54, 55, 56, 57, 58, 59, 60, 61, 62, 63, 64, 65, 66, 67, 68, 69, 70, 71, 72, 73, 74, 75, 79, 80, 81, 82, 83, 84, 85, 86, 87, 88, 89, 90, 91, 92, 93, 94, 95, 96, 97, 98, 99, 100] (by decide +kernel) (by decide +kernel)) (goodIn_sub (fun _ h => List.mem_cons_of_mem _ (List.mem_append_right _ h)) (by decide +kernel))
set_option maxRecDepth 20000 in
theorem gX6_number_X6_update : GoodIn wsX6_number (wsV RX6 40 RX6 yX6_update wsX6_update) := goodIn_app (goodIn_of _ (by decide +kernel)) ggX6_number_X6_update
set_option maxRecDepth 20000 in
theorem ggX6_number_X7_at : GoodIn wsX6_number wsX7_at := goodIn_ca (goodIn_r _ [19] (by decide +kernel) (by decide +kernel)) (goodIn_sub (fun _ h => List.mem_cons_of_mem _ (List.mem_append_right _ h)) (by decide +kernel))
set_option maxRecDepth 20000 in
theorem gX6_number_X7_at_n47 : GoodIn wsX6_number (wsX7_at) := ggX6_number_X7_at
set_option maxRecDepth 20000 in
theorem ggX6_number_X6_fits : GoodIn wsX6_number wsX6_fits := goodIn_r _ [78] (by decide +kernel) (by decide +kernel)
set_option maxRecDepth 20000 in
theorem gX6_number_X6_fits : GoodIn wsX6_number (va_wsS RX6 51 yX6_fits wsX6_fits) := goodIn_app (goodIn_of _ (by decide +kernel)) ggX6_number_X6_fits
theorem dX6_number_0 : decode cX6_number 0 = .ok (.aload_n 0, 1) := by decide +kernel
theorem dX6_number_1 : decode cX6_number 1 = .ok (.invokevirtual 40, 3) := by decide +kernel
theorem dX6_number_4 : decode cX6_number 4 = .ok (.iconst 0, 1) := by decide +kernel
theorem dX6_number_5 : decode cX6_number 5 = .ok (.istore_n 3, 1) := by decide +kernel
theorem dX6_number_6 : decode cX6_number 6 = .ok (.iconst 0, 1) := by decide +kernel
theorem dX6_number_7 : decode cX6_number 7 = .ok (.istore 4, 2) := by decide +kernel
theorem dX6_number_9 : decode cX6_number 9 = .ok (.iload 4, 2) := by decide +kernel
theorem dX6_number_11 : decode cX6_number 11 = .ok (.aload_n 0, 1) := by decide +kernel
theorem dX6_number_12 : decode cX6_number 12 = .ok (.getfield 43, 3) := by decide +kernel
theorem dX6_number_15 : decode cX6_number 15 = .ok (.if_icmp .ge 29, 3) := by decide +kernel
theorem dX6_number_18 : decode cX6_number 18 = .ok (.aload_n 0, 1) := by decide +kernel
theorem dX6_number_19 : decode cX6_number 19 = .ok (.getfield 32, 3) := by decide +kernel
theorem dX6_number_22 : decode cX6_number 22 = .ok (.iload 4, 2) := by decide +kernel
theorem dX6_number_24 : decode cX6_number 24 = .ok (.invokestatic 47, 3) := by decide +kernel
theorem dX6_number_27 : decode cX6_number 27 = .ok (.iload_n 1, 1) := by decide +kernel
theorem dX6_number_28 : decode cX6_number 28 = .ok (.iload_n 2, 1) := by decide +kernel
theorem dX6_number_29 : decode cX6_number 29 = .ok (.invokestatic 51, 3) := by decide +kernel
theorem dX6_number_32 : decode cX6_number 32 = .ok (.ifCond .eq 6, 3) := by decide +kernel
theorem dX6_number_35 : decode cX6_number 35 = .ok (.iinc 3 1, 3) := by decide +kernel
theorem dX6_number_38 : decode cX6_number 38 = .ok (.iinc 4 1, 3) := by decide +kernel
theorem dX6_number_41 : decode cX6_number 41 = .ok (.goto (-32), 3) := by decide +kernel
theorem dX6_number_44 : decode cX6_number 44 = .ok (.iload_n 3, 1) := by decide +kernel
theorem dX6_number_45 : decode cX6_number 45 = .ok (.ireturn, 1) := by decide +kernel
set_option maxRecDepth 20000 in
theorem ggX6_inAll_X6_update : GoodIn wsX6_inAll wsX6_update := goodIn_ca (goodIn_r _ [7, 8, 2, 1, 9, 10, 11, 12, 13, 14, 15, 16, 6, 17, 18, 19, 20, 21, 22, 23, 24, 25, 26, 27, 28, 29, 30, 31, 32, 33, 34, 35, 36, 37, 38, 39, 40, 41, 42, 43, 44, 45, 46, 47, 48, 49, 50, 51, 52, 53, 54, 55, 56, 57, 58, 59, 60, 61, 62, 63, 64, 65, 66, 67, 68, 69, 70, 71, 72, 73, 74, 75, 79, 80, 81, 82, 83, 84, 85, 86, 87, 88, 89, 90, 91, 92, 93, 94, 95, 96, 97, 98, 99, 100] (by decide +kernel) (by decide +kernel)) (goodIn_sub (fun _ h => List.mem_cons_of_mem _ (List.mem_append_right _ h)) (by decide +kernel))
set_option maxRecDepth 20000 in
theorem gX6_inAll_X6_update : GoodIn wsX6_inAll (wsV RX6 40 RX6 yX6_update wsX6_update) := goodIn_app (goodIn_of _ (by decide +kernel)) ggX6_inAll_X6_update
set_option maxRecDepth 20000 in
theorem ggX6_inAll_X7_at : GoodIn wsX6_inAll wsX7_at := goodIn_ca (goodIn_r _ [19] (by decide +kernel) (by decide +kernel)) (goodIn_sub (fun _ h => List.mem_cons_of_mem _ (List.mem_append_right _ h)) (by decide +kernel))
set_option maxRecDepth 20000 in
theorem gX6_inAll_X7_at_n47 : GoodIn wsX6_inAll (wsX7_at) := ggX6_inAll_X7_at
set_option maxRecDepth 20000 in
theorem ggX6_inAll_X6_fits : GoodIn wsX6_inAll wsX6_fits := goodIn_r _ [78] (by decide +kernel) (by decide +kernel)
set_option maxRecDepth 20000 in
theorem gX6_inAll_X6_fits : GoodIn wsX6_inAll (va_wsS RX6 51 yX6_fits wsX6_fits) := goodIn_app (goodIn_of _ (by decide +kernel)) ggX6_inAll_X6_fits
theorem dX6_inAll_0 : decode cX6_inAll 0 = .ok (.aload_n 0, 1) := by decide +kernel
theorem dX6_inAll_1 : decode cX6_inAll 1 = .ok (.invokevirtual 40, 3) := by decide +kernel
theorem dX6_inAll_4 : decode cX6_inAll 4 = .ok (.iconst (-1), 1) := by decide +kernel
theorem dX6_inAll_5 : decode cX6_inAll 5 = .ok (.istore_n 3, 1) := by decide +kernel
theorem dX6_inAll_6 : decode cX6_inAll 6 = .ok (.iconst 0, 1) := by decide +kernel
theorem dX6_inAll_7 : decode cX6_inAll 7 = .ok (.istore 4, 2) := by decide +kernel
theorem dX6_inAll_9 : decode cX6_inAll 9 = .ok (.iload 4, 2) := by decide +kernel
theorem dX6_inAll_11 : decode cX6_inAll 11 = .ok (.aload_n 0, 1) := by decide +kernel
theorem dX6_inAll_12 : decode cX6_inAll 12 = .ok (.getfield 43, 3) := by decide +kernel
theorem dX6_inAll_15 : decode cX6_inAll 15 = .ok (.if_icmp .ge 38, 3) := by decide +kernel
theorem dX6_inAll_18 : decode cX6_inAll 18 = .ok (.aload_n 0, 1) := by decide +kernel
theorem dX6_inAll_19 : decode cX6_inAll 19 = .ok (.getfield 32, 3) := by decide +kernel
theorem dX6_inAll_22 : decode cX6_inAll 22 = .ok (.iload 4, 2) := by decide +kernel
theorem dX6_inAll_24 : decode cX6_inAll 24 = .ok (.invokestatic 47, 3) := by decide +kernel
theorem dX6_inAll_27 : decode cX6_inAll 27 = .ok (.iload_n 1, 1) := by decide +kernel
theorem dX6_inAll_28 : decode cX6_inAll 28 = .ok (.iload_n 2, 1) := by decide +kernel
theorem dX6_inAll_29 : decode cX6_inAll 29 = .ok (.invokestatic 51, 3) := by decide +kernel
theorem dX6_inAll_32 : decode cX6_inAll 32 = .ok (.ifCond .eq 15, 3) := by decide +kernel
theorem dX6_inAll_35 : decode cX6_inAll 35 = .ok (.iload_n 3, 1) := by decide +kernel
theorem dX6_inAll_36 : decode cX6_inAll 36 = .ok (.aload_n 0, 1) := by decide +kernel
theorem dX6_inAll_37 : decode cX6_inAll 37 = .ok (.getfield 32, 3) := by decide +kernel
theorem dX6_inAll_40 : decode cX6_inAll 40 = .ok (.iload 4, 2) := by decide +kernel
theorem dX6_inAll_42 : decode cX6_inAll 42 = .ok (.invokestatic 47, 3) := by decide +kernel
theorem dX6_inAll_45 : decode cX6_inAll 45 = .ok (.iand, 1) := by decide +kernel
theorem dX6_inAll_46 : decode cX6_inAll 46 = .ok (.istore_n 3, 1) := by decide +kernel
theorem dX6_inAll_47 : decode cX6_inAll 47 = .ok (.iinc 4 1, 3) := by decide +kernel
theorem dX6_inAll_50 : decode cX6_inAll 50 = .ok (.goto (-41), 3) := by decide +kernel
theorem dX6_inAll_53 : decode cX6_inAll 53 = .ok (.iload_n 3, 1) := by decide +kernel
theorem dX6_inAll_54 : decode cX6_inAll 54 = .ok (.ireturn, 1) := by decide +kernel
set_option maxRecDepth 20000 in
theorem ggX6_inSome_X6_update : GoodIn wsX6_inSome wsX6_update := goodIn_ca (goodIn_r _ [7, 8, 2, 1, 9, 10, 11, 12, 13, 14, 15, 16, 6, 17, 18, 19, 20, 21, 22, 23, 24, 25, 26, 27, 28, 29, 30, 31, 32, 33, 34, 35, 36, 37, 38, 39, 40, 41, 42, 43, 44, 45, 46, 47, 48, 49, 50, 51, 52, 53, 54, 55, 56, 57, 58, 59, 60, 61, 62, 63, 64, 65, 66, 67, 68, 69, 70, 71, 72, 73, 74, 75, 79, 80, 81, 82, 83, 84, 85, 86, 87, 88, 89, 90, 91, 92, 93, 94, 95, 96, 97, 98, 99, 100] (by decide +kernel) (by decide +kernel)) (goodIn_sub (fun _ h => List.mem_cons_of_mem _ (List.mem_append_right _ h)) (by decide +kernel))
set_option maxRecDepth 20000 in
theorem gX6_inSome_X6_update : GoodIn wsX6_inSome (wsV RX6 40 RX6 yX6_update wsX6_update) := goodIn_app (goodIn_of _ (by decide +kernel)) ggX6_inSome_X6_update
set_option maxRecDepth 20000 in
theorem ggX6_inSome_X7_at : GoodIn wsX6_inSome wsX7_at := goodIn_ca (goodIn_r _ [19] (by decide +kernel) (by decide +kernel)) (goodIn_sub (fun _ h => List.mem_cons_of_mem _ (List.mem_append_right _ h)) (by decide +kernel))
set_option maxRecDepth 20000 in
theorem gX6_inSome_X7_at_n47 : GoodIn wsX6_inSome (wsX7_at) := ggX6_inSome_X7_at
set_option maxRecDepth 20000 in
theorem ggX6_inSome_X6_fits : GoodIn wsX6_inSome wsX6_fits := goodIn_r _ [78] (by decide +kernel) (by decide +kernel)
set_option maxRecDepth 20000 in
theorem gX6_inSome_X6_fits : GoodIn wsX6_inSome (va_wsS RX6 51 yX6_fits wsX6_fits) := goodIn_app (goodIn_of _ (by decide +kernel)) ggX6_inSome_X6_fits
theorem dX6_inSome_0 : decode cX6_inSome 0 = .ok (.aload_n 0, 1) := by decide +kernel
theorem dX6_inSome_1 : decode cX6_inSome 1 = .ok (.invokevirtual 40, 3) := by decide +kernel
theorem dX6_inSome_4 : decode cX6_inSome 4 = .ok (.iconst 0, 1) := by decide +kernel
theorem dX6_inSome_5 : decode cX6_inSome 5 = .ok (.istore_n 3, 1) := by decide +kernel
theorem dX6_inSome_6 : decode cX6_inSome 6 = .ok (.iconst 0, 1) := by decide +kernel
theorem dX6_inSome_7 : decode cX6_inSome 7 = .ok (.istore 4, 2) := by decide +kernel
theorem dX6_inSome_9 : decode cX6_inSome 9 = .ok (.iload 4, 2) := by decide +kernel
theorem dX6_inSome_11 : decode cX6_inSome 11 = .ok (.aload_n 0, 1) := by decide +kernel
theorem dX6_inSome_12 : decode cX6_inSome 12 = .ok (.getfield 43, 3) := by decide +kernel
theorem dX6_inSome_15 : decode cX6_inSome 15 = .ok (.if_icmp .ge 38, 3) := by decide +kernel
theorem dX6_inSome_18 : decode cX6_inSome 18 = .ok (.aload_n 0, 1) := by decide +kernel
theorem dX6_inSome_19 : decode cX6_inSome 19 = .ok (.getfield 32, 3) := by decide +kernel
theorem dX6_inSome_22 : decode cX6_inSome 22 = .ok (.iload 4, 2) := by decide +kernel
theorem dX6_inSome_24 : decode cX6_inSome 24 = .ok (.invokestatic 47, 3) := by decide +kernel
theorem dX6_inSome_27 : decode cX6_inSome 27 = .ok (.iload_n 1, 1) := by decide +kernel
theorem dX6_inSome_28 : decode cX6_inSome 28 = .ok (.iload_n 2, 1) := by decide +kernel
theorem dX6_inSome_29 : decode cX6_inSome 29 = .ok (.invokestatic 51, 3) := by decide +kernel
theorem dX6_inSome_32 : decode cX6_inSome 32 = .ok (.ifCond .eq 15, 3) := by decide +kernel
theorem dX6_inSome_35 : decode cX6_inSome 35 = .ok (.iload_n 3, 1) := by decide +kernel
theorem dX6_inSome_36 : decode cX6_inSome 36 = .ok (.aload_n 0, 1) := by decide +kernel
theorem dX6_inSome_37 : decode cX6_inSome 37 = .ok (.getfield 32, 3) := by decide +kernel
theorem dX6_inSome_40 : decode cX6_inSome 40 = .ok (.iload 4, 2) := by decide +kernel
theorem dX6_inSome_42 : decode cX6_inSome 42 = .ok (.invokestatic 47, 3) := by decide +kernel
theorem dX6_inSome_45 : decode cX6_inSome 45 = .ok (.ior, 1) := by decide +kernel
theorem dX6_inSome_46 : decode cX6_inSome 46 = .ok (.istore_n 3, 1) := by decide +kernel
theorem dX6_inSome_47 : decode cX6_inSome 47 = .ok (.iinc 4 1, 3) := by decide +kernel
theorem dX6_inSome_50 : decode cX6_inSome 50 = .ok (.goto (-41), 3) := by decide +kernel
theorem dX6_inSome_53 : decode cX6_inSome 53 = .ok (.iload_n 3, 1) := by decide +kernel
theorem dX6_inSome_54 : decode cX6_inSome 54 = .ok (.ireturn, 1) := by decide +kernel
theorem dX6_fits_0 : decode cX6_fits 0 = .ok (.iload_n 0, 1) := by decide +kernel
theorem dX6_fits_1 : decode cX6_fits 1 = .ok (.iload_n 1, 1) := by decide +kernel
theorem dX6_fits_2 : decode cX6_fits 2 = .ok (.iand, 1) := by decide +kernel
theorem dX6_fits_3 : decode cX6_fits 3 = .ok (.iload_n 1, 1) := by decide +kernel
theorem dX6_fits_4 : decode cX6_fits 4 = .ok (.if_icmp .ne 13, 3) := by decide +kernel
theorem dX6_fits_7 : decode cX6_fits 7 = .ok (.iload_n 0, 1) := by decide +kernel
theorem dX6_fits_8 : decode cX6_fits 8 = .ok (.iload_n 2, 1) := by decide +kernel
theorem dX6_fits_9 : decode cX6_fits 9 = .ok (.iand, 1) := by decide +kernel
theorem dX6_fits_10 : decode cX6_fits 10 = .ok (.ifCond .ne 7, 3) := by decide +kernel
theorem dX6_fits_13 : decode cX6_fits 13 = .ok (.iconst 1, 1) := by decide +kernel
theorem dX6_fits_14 : decode cX6_fits 14 = .ok (.goto 4, 3) := by decide +kernel
theorem dX6_fits_17 : decode cX6_fits 17 = .ok (.iconst 0, 1) := by decide +kernel
theorem dX6_fits_18 : decode cX6_fits 18 = .ok (.ireturn, 1) := by decide +kernel
set_option maxRecDepth 20000 in
theorem ggX6_update_X7_put : GoodIn wsX6_update wsX7_put := goodIn_ca (goodIn_r _ [8] (by decide +kernel) (by decide +kernel)) (goodIn_sub (fun _ h => List.mem_cons_of_mem _ (List.mem_append_right _ h)) (by decide +kernel))
set_option maxRecDepth 20000 in
theorem gX6_update_X7_put_n55 : GoodIn wsX6_update (wsX7_put) := ggX6_update_X7_put
set_option maxRecDepth 20000 in
theorem ggX6_update_X6_branch : GoodIn wsX6_update wsX6_branch := goodIn_ca (goodIn_r _ [13, 3, 2, 4, 14, 7, 15, 16, 17, 18, 19, 20, 21, 22, 23, 24, 25, 26, 6, 8, 27, 28, 72, 73, 74, 75, 76, 77, 78, 79, 80, 81, 82, 83, 84, 85] (by decide +kernel) (by decide +kernel)) (goodIn_sub (fun _ h => List.mem_cons_of_mem _ (List.mem_append_right _ h)) (by decide +kernel))
set_option maxRecDepth 20000 in
theorem gX6_update_X6_branch : GoodIn wsX6_update (wsV RX6 60 RX6 yX6_branch wsX6_branch) := goodIn_app (goodIn_of _ (by decide +kernel)) ggX6_update_X6_branch
set_option maxRecDepth 20000 in
theorem ggX6_update_X6_dropUnkept : GoodIn wsX6_update wsX6_dropUnkept := goodIn_ca (goodIn_r _ [32, 3, 2, 4, 33, 34, 14, 7, 15, 35, 36, 37, 19, 38, 39, 40, 41, 42, 43, 44, 45, 46, 47, 48, 49, 50, 27, 28, 51, 52, 53, 54, 55, 56, 57, 58, 59, 60, 61, 62, 63, 64, 65, 66, 67, 68, 69, 70, 71, 6, 8, 72, 73, 74, 75, 76, 77, 78, 79, 80, 81, 82, 83, 84, 85, 86, 87, 88, 89, 90, 91, 92, 93] (by decide +kernel) (by decide +kernel)) (goodIn_sub (fun _ h => List.mem_cons_of_mem _ (List.mem_append_right _ h)) (by decide +kernel))
set_option maxRecDepth 20000 in
theorem gX6_update_X6_dropUnkept : GoodIn wsX6_update (wsV RX6 64 RX6 yX6_dropUnkept wsX6_dropUnkept) := goodIn_app (goodIn_of _ (by decide +kernel)) ggX6_update_X6_dropUnkept
theorem dX6_update_0 : decode cX6_update 0 = .ok (.aload_n 0, 1) := by decide +kernel
theorem dX6_update_1 : decode cX6_update 1 = .ok (.getfield 36, 3) := by decide +kernel
theorem dX6_update_4 : decode cX6_update 4 = .ok (.ifCond .eq 4, 3) := by decide +kernel
theorem dX6_update_7 : decode cX6_update 7 = .ok (.return_, 1) := by decide +kernel
theorem dX6_update_8 : decode cX6_update 8 = .ok (.aload_n 0, 1) := by decide +kernel
theorem dX6_update_9 : decode cX6_update 9 = .ok (.getfield 32, 3) := by decide +kernel
theorem dX6_update_12 : decode cX6_update 12 = .ok (.iconst 0, 1) := by decide +kernel
theorem dX6_update_13 : decode cX6_update 13 = .ok (.iconst 0, 1) := by decide +kernel
theorem dX6_update_14 : decode cX6_update 14 = .ok (.invokestatic 55, 3) := by decide +kernel
theorem dX6_update_17 : decode cX6_update 17 = .ok (.aload_n 0, 1) := by decide +kernel
theorem dX6_update_18 : decode cX6_update 18 = .ok (.iconst 1, 1) := by decide +kernel
theorem dX6_update_19 : decode cX6_update 19 = .ok (.putfield 43, 3) := by decide +kernel
theorem dX6_update_22 : decode cX6_update 22 = .ok (.iconst 1, 1) := by decide +kernel
theorem dX6_update_23 : decode cX6_update 23 = .ok (.istore_n 1, 1) := by decide +kernel
theorem dX6_update_24 : decode cX6_update 24 = .ok (.iload_n 1, 1) := by decide +kernel
theorem dX6_update_25 : decode cX6_update 25 = .ok (.aload_n 0, 1) := by decide +kernel
theorem dX6_update_26 : decode cX6_update 26 = .ok (.getfield 12, 3) := by decide +kernel
theorem dX6_update_29 : decode cX6_update 29 = .ok (.getfield 59, 3) := by decide +kernel
theorem dX6_update_32 : decode cX6_update 32 = .ok (.if_icmp .gt 14, 3) := by decide +kernel
theorem dX6_update_35 : decode cX6_update 35 = .ok (.aload_n 0, 1) := by decide +kernel
theorem dX6_update_36 : decode cX6_update 36 = .ok (.iload_n 1, 1) := by decide +kernel
theorem dX6_update_37 : decode cX6_update 37 = .ok (.invokevirtual 60, 3) := by decide +kernel
theorem dX6_update_40 : decode cX6_update 40 = .ok (.iinc 1 1, 3) := by decide +kernel
theorem dX6_update_43 : decode cX6_update 43 = .ok (.goto (-19), 3) := by decide +kernel
theorem dX6_update_46 : decode cX6_update 46 = .ok (.aload_n 0, 1) := by decide +kernel
theorem dX6_update_47 : decode cX6_update 47 = .ok (.invokevirtual 64, 3) := by decide +kernel
theorem dX6_update_50 : decode cX6_update 50 = .ok (.aload_n 0, 1) := by decide +kernel
theorem dX6_update_51 : decode cX6_update 51 = .ok (.iconst 1, 1) := by decide +kernel
theorem dX6_update_52 : decode cX6_update 52 = .ok (.putfield 36, 3) := by decide +kernel
theorem dX6_update_55 : decode cX6_update 55 = .ok (.return_, 1) := by decide +kernel
set_option maxRecDepth 20000 in
theorem ggX6_branch_X7_at : GoodIn wsX6_branch wsX7_at := goodIn_ca (goodIn_r _ [6] (by decide +kernel) (by decide +kernel)) (goodIn_sub (fun _ h => List.mem_cons_of_mem _ (List.mem_append_right _ h)) (by decide +kernel))
set_option maxRecDepth 20000 in
theorem gX6_branch_X7_at_n47 : GoodIn wsX6_branch (wsX7_at) := ggX6_branch_X7_at
set_option maxRecDepth 20000 in
theorem ggX6_branch_X5_mayBeIn : GoodIn wsX6_branch wsX5_mayBeIn := goodIn_ca (goodIn_r _ [11, 12, 4, 5, 6, 28, 29, 30, 31, 32, 33, 34, 35] (by decide +kernel) (by decide +kernel)) (goodIn_sub (fun _ h => List.mem_cons_of_mem _ (List.mem_append_right _ h)) (by decide +kernel))
set_option maxRecDepth 20000 in
theorem gX6_branch_X5_mayBeIn : GoodIn wsX6_branch (wsV RX6 67 RX5 yX5_mayBeIn wsX5_mayBeIn) := goodIn_app (goodIn_of _ (by decide +kernel)) ggX6_branch_X5_mayBeIn
set_option maxRecDepth 20000 in
theorem ggX6_branch_X5_mayBeOut : GoodIn wsX6_branch wsX5_mayBeOut := goodIn_ca (goodIn_r _ [16, 17, 12, 4, 5, 6, 28, 29, 30, 31, 32, 33, 34, 35] (by decide +kernel) (by decide +kernel)) (goodIn_sub (fun _ h => List.mem_cons_of_mem _ (List.mem_append_right _ h)) (by decide +kernel))
set_option maxRecDepth 20000 in
theorem gX6_branch_X5_mayBeOut : GoodIn wsX6_branch (wsV RX6 71 RX5 yX5_mayBeOut wsX5_mayBeOut) := goodIn_app (goodIn_of _ (by decide +kernel)) ggX6_branch_X5_mayBeOut
set_option maxRecDepth 20000 in
theorem ggX6_branch_X7_put : GoodIn wsX6_branch wsX7_put := goodIn_ca (goodIn_r _ [19] (by decide +kernel) (by decide +kernel)) (goodIn_sub (fun _ h => List.mem_cons_of_mem _ (List.mem_append_right _ h)) (by decide +kernel))
set_option maxRecDepth 20000 in
theorem gX6_branch_X7_put_n55 : GoodIn wsX6_branch (wsX7_put) := ggX6_branch_X7_put
set_option maxRecDepth 20000 in
theorem ggX6_branch_X7_bit : GoodIn wsX6_branch wsX7_bit := goodIn_r _ [21] (by decide +kernel) (by decide +kernel)
set_option maxRecDepth 20000 in
theorem gX6_branch_X7_bit_n74 : GoodIn wsX6_branch (wsX7_bit) := ggX6_branch_X7_bit
theorem dX6_branch_0 : decode cX6_branch 0 = .ok (.aload_n 0, 1) := by decide +kernel
theorem dX6_branch_1 : decode cX6_branch 1 = .ok (.getfield 43, 3) := by decide +kernel
theorem dX6_branch_4 : decode cX6_branch 4 = .ok (.istore_n 2, 1) := by decide +kernel
theorem dX6_branch_5 : decode cX6_branch 5 = .ok (.iconst 0, 1) := by decide +kernel
theorem dX6_branch_6 : decode cX6_branch 6 = .ok (.istore_n 3, 1) := by decide +kernel
theorem dX6_branch_7 : decode cX6_branch 7 = .ok (.iload_n 3, 1) := by decide +kernel
theorem dX6_branch_8 : decode cX6_branch 8 = .ok (.aload_n 0, 1) := by decide +kernel
theorem dX6_branch_9 : decode cX6_branch 9 = .ok (.getfield 43, 3) := by decide +kernel
theorem dX6_branch_12 : decode cX6_branch 12 = .ok (.if_icmp .ge 53, 3) := by decide +kernel
theorem dX6_branch_15 : decode cX6_branch 15 = .ok (.aload_n 0, 1) := by decide +kernel
theorem dX6_branch_16 : decode cX6_branch 16 = .ok (.getfield 32, 3) := by decide +kernel
theorem dX6_branch_19 : decode cX6_branch 19 = .ok (.iload_n 3, 1) := by decide +kernel
theorem dX6_branch_20 : decode cX6_branch 20 = .ok (.invokestatic 47, 3) := by decide +kernel
theorem dX6_branch_23 : decode cX6_branch 23 = .ok (.istore 4, 2) := by decide +kernel
theorem dX6_branch_25 : decode cX6_branch 25 = .ok (.iload_n 2, 1) := by decide +kernel
theorem dX6_branch_26 : decode cX6_branch 26 = .ok (.aload_n 0, 1) := by decide +kernel
theorem dX6_branch_27 : decode cX6_branch 27 = .ok (.getfield 12, 3) := by decide +kernel
theorem dX6_branch_30 : decode cX6_branch 30 = .ok (.iload 4, 2) := by decide +kernel
theorem dX6_branch_32 : decode cX6_branch 32 = .ok (.iload_n 1, 1) := by decide +kernel
theorem dX6_branch_33 : decode cX6_branch 33 = .ok (.invokevirtual 67, 3) := by decide +kernel
theorem dX6_branch_36 : decode cX6_branch 36 = .ok (.ifCond .eq 20, 3) := by decide +kernel
theorem dX6_branch_39 : decode cX6_branch 39 = .ok (.aload_n 0, 1) := by decide +kernel
theorem dX6_branch_40 : decode cX6_branch 40 = .ok (.getfield 12, 3) := by decide +kernel
theorem dX6_branch_43 : decode cX6_branch 43 = .ok (.iload 4, 2) := by decide +kernel
theorem dX6_branch_45 : decode cX6_branch 45 = .ok (.iload_n 1, 1) := by decide +kernel
theorem dX6_branch_46 : decode cX6_branch 46 = .ok (.invokevirtual 71, 3) := by decide +kernel
theorem dX6_branch_49 : decode cX6_branch 49 = .ok (.ifCond .eq 7, 3) := by decide +kernel
theorem dX6_branch_52 : decode cX6_branch 52 = .ok (.iconst 1, 1) := by decide +kernel
theorem dX6_branch_53 : decode cX6_branch 53 = .ok (.goto 4, 3) := by decide +kernel
theorem dX6_branch_56 : decode cX6_branch 56 = .ok (.iconst 0, 1) := by decide +kernel
theorem dX6_branch_57 : decode cX6_branch 57 = .ok (.iadd, 1) := by decide +kernel
theorem dX6_branch_58 : decode cX6_branch 58 = .ok (.istore_n 2, 1) := by decide +kernel
theorem dX6_branch_59 : decode cX6_branch 59 = .ok (.iinc 3 1, 3) := by decide +kernel
theorem dX6_branch_62 : decode cX6_branch 62 = .ok (.goto (-55), 3) := by decide +kernel
theorem dX6_branch_65 : decode cX6_branch 65 = .ok (.iload_n 2, 1) := by decide +kernel
theorem dX6_branch_66 : decode cX6_branch 66 = .ok (.istore_n 3, 1) := by decide +kernel
theorem dX6_branch_67 : decode cX6_branch 67 = .ok (.aload_n 0, 1) := by decide +kernel
theorem dX6_branch_68 : decode cX6_branch 68 = .ok (.getfield 43, 3) := by decide +kernel
theorem dX6_branch_71 : decode cX6_branch 71 = .ok (.iconst 1, 1) := by decide +kernel
theorem dX6_branch_72 : decode cX6_branch 72 = .ok (.isub, 1) := by decide +kernel
theorem dX6_branch_73 : decode cX6_branch 73 = .ok (.istore 4, 2) := by decide +kernel
theorem dX6_branch_75 : decode cX6_branch 75 = .ok (.iload 4, 2) := by decide +kernel
theorem dX6_branch_77 : decode cX6_branch 77 = .ok (.ifCond .lt 77, 3) := by decide +kernel
theorem dX6_branch_80 : decode cX6_branch 80 = .ok (.aload_n 0, 1) := by decide +kernel
theorem dX6_branch_81 : decode cX6_branch 81 = .ok (.getfield 32, 3) := by decide +kernel
theorem dX6_branch_84 : decode cX6_branch 84 = .ok (.iload 4, 2) := by decide +kernel
theorem dX6_branch_86 : decode cX6_branch 86 = .ok (.invokestatic 47, 3) := by decide +kernel
theorem dX6_branch_89 : decode cX6_branch 89 = .ok (.istore 5, 2) := by decide +kernel
theorem dX6_branch_91 : decode cX6_branch 91 = .ok (.aload_n 0, 1) := by decide +kernel
theorem dX6_branch_92 : decode cX6_branch 92 = .ok (.getfield 12, 3) := by decide +kernel
theorem dX6_branch_95 : decode cX6_branch 95 = .ok (.iload 5, 2) := by decide +kernel
theorem dX6_branch_97 : decode cX6_branch 97 = .ok (.iload_n 1, 1) := by decide +kernel
theorem dX6_branch_98 : decode cX6_branch 98 = .ok (.invokevirtual 71, 3) := by decide +kernel
theorem dX6_branch_101 : decode cX6_branch 101 = .ok (.ifCond .eq 16, 3) := by decide +kernel
theorem dX6_branch_104 : decode cX6_branch 104 = .ok (.iinc 3 (-1), 3) := by decide +kernel
theorem dX6_branch_107 : decode cX6_branch 107 = .ok (.aload_n 0, 1) := by decide +kernel
theorem dX6_branch_108 : decode cX6_branch 108 = .ok (.getfield 32, 3) := by decide +kernel
theorem dX6_branch_111 : decode cX6_branch 111 = .ok (.iload_n 3, 1) := by decide +kernel
theorem dX6_branch_112 : decode cX6_branch 112 = .ok (.iload 5, 2) := by decide +kernel
theorem dX6_branch_114 : decode cX6_branch 114 = .ok (.invokestatic 55, 3) := by decide +kernel
theorem dX6_branch_117 : decode cX6_branch 117 = .ok (.aload_n 0, 1) := by decide +kernel
theorem dX6_branch_118 : decode cX6_branch 118 = .ok (.getfield 12, 3) := by decide +kernel
theorem dX6_branch_121 : decode cX6_branch 121 = .ok (.iload 5, 2) := by decide +kernel
theorem dX6_branch_123 : decode cX6_branch 123 = .ok (.iload_n 1, 1) := by decide +kernel
theorem dX6_branch_124 : decode cX6_branch 124 = .ok (.invokevirtual 67, 3) := by decide +kernel
theorem dX6_branch_127 : decode cX6_branch 127 = .ok (.ifCond .eq 21, 3) := by decide +kernel
theorem dX6_branch_130 : decode cX6_branch 130 = .ok (.iinc 3 (-1), 3) := by decide +kernel
theorem dX6_branch_133 : decode cX6_branch 133 = .ok (.aload_n 0, 1) := by decide +kernel
theorem dX6_branch_134 : decode cX6_branch 134 = .ok (.getfield 32, 3) := by decide +kernel
theorem dX6_branch_137 : decode cX6_branch 137 = .ok (.iload_n 3, 1) := by decide +kernel
theorem dX6_branch_138 : decode cX6_branch 138 = .ok (.iload 5, 2) := by decide +kernel
theorem dX6_branch_140 : decode cX6_branch 140 = .ok (.iload_n 1, 1) := by decide +kernel
theorem dX6_branch_141 : decode cX6_branch 141 = .ok (.invokestatic 74, 3) := by decide +kernel
theorem dX6_branch_144 : decode cX6_branch 144 = .ok (.ior, 1) := by decide +kernel
theorem dX6_branch_145 : decode cX6_branch 145 = .ok (.invokestatic 55, 3) := by decide +kernel
theorem dX6_branch_148 : decode cX6_branch 148 = .ok (.iinc 4 (-1), 3) := by decide +kernel
theorem dX6_branch_151 : decode cX6_branch 151 = .ok (.goto (-76), 3) := by decide +kernel
theorem dX6_branch_154 : decode cX6_branch 154 = .ok (.aload_n 0, 1) := by decide +kernel
theorem dX6_branch_155 : decode cX6_branch 155 = .ok (.iload_n 2, 1) := by decide +kernel
theorem dX6_branch_156 : decode cX6_branch 156 = .ok (.putfield 43, 3) := by decide +kernel
theorem dX6_branch_159 : decode cX6_branch 159 = .ok (.return_, 1) := by decide +kernel
set_option maxRecDepth 20000 in
theorem ggX6_dropUnkept_X7_at : GoodIn wsX6_dropUnkept wsX7_at := goodIn_ca (goodIn_r _ [8] (by decide +kernel) (by decide +kernel)) (goodIn_sub (fun _ h => List.mem_cons_of_mem _ (List.mem_append_right _ h)) (by decide +kernel))
set_option maxRecDepth 20000 in
theorem gX6_dropUnkept_X7_at_n47 : GoodIn wsX6_dropUnkept (wsX7_at) := ggX6_dropUnkept_X7_at
set_option maxRecDepth 20000 in
theorem ggX6_dropUnkept_X5_keepsGroups : GoodIn wsX6_dropUnkept wsX5_keepsGroups := goodIn_ca (goodIn_r _ [13, 14, 15, 16, 17, 18, 6, 7, 8, 19, 20, 21, 22, 23, 24, 25, 26, 27, 57, 58, 59, 60, 61, 62, 63, 64] (by decide +kernel) (by decide +kernel)) (goodIn_sub (fun _ h => List.mem_cons_of_mem _ (List.mem_append_right _ h)) (by decide +kernel))
set_option maxRecDepth 20000 in
theorem gX6_dropUnkept_X5_keepsGroups : GoodIn wsX6_dropUnkept (wsV RX6 78 RX5 yX5_keepsGroups wsX5_keepsGroups) := goodIn_app (goodIn_of _ (by decide +kernel)) ggX6_dropUnkept_X5_keepsGroups
set_option maxRecDepth 20000 in
theorem ggX6_dropUnkept_X1_keeps : GoodIn wsX6_dropUnkept wsX1_keeps := goodIn_ca (goodIn_r _ [32, 33, 34, 35, 36, 37, 38, 6, 7, 8, 39, 40, 31, 41, 65, 66, 67, 68, 69, 70] (by decide +kernel) (by decide +kernel)) (goodIn_sub (fun _ h => List.mem_cons_of_mem _ (List.mem_append_right _ h)) (by decide +kernel))
set_option maxRecDepth 20000 in
theorem gX6_dropUnkept_X1_keeps : GoodIn wsX6_dropUnkept (wsV RX6 82 RX1 yX1_keeps wsX1_keeps) := goodIn_app (goodIn_of _ (by decide +kernel)) ggX6_dropUnkept_X1_keeps
set_option maxRecDepth 20000 in
theorem ggX6_dropUnkept_X4_keeps : GoodIn wsX6_dropUnkept wsX4_keeps := goodIn_ca (goodIn_r _ [46, 47, 48, 6, 7, 8, 26, 27, 71, 72] (by decide +kernel) (by decide +kernel)) (goodIn_sub (fun _ h => List.mem_cons_of_mem _ (List.mem_append_right _ h)) (by decide +kernel))
set_option maxRecDepth 20000 in
theorem gX6_dropUnkept_X4_keeps : GoodIn wsX6_dropUnkept (wsV RX6 85 RX4 yX4_keeps wsX4_keeps) := goodIn_app (goodIn_of _ (by decide +kernel)) ggX6_dropUnkept_X4_keeps
set_option maxRecDepth 20000 in
theorem ggX6_dropUnkept_X7_put : GoodIn wsX6_dropUnkept wsX7_put := goodIn_ca (goodIn_r _ [50] (by decide +kernel) (by decide +kernel)) (goodIn_sub (fun _ h => List.mem_cons_of_mem _ (List.mem_append_right _ h)) (by decide +kernel))
set_option maxRecDepth 20000 in
theorem gX6_dropUnkept_X7_put_n55 : GoodIn wsX6_dropUnkept (wsX7_put) := ggX6_dropUnkept_X7_put
theorem dX6_dropUnkept_0 : decode cX6_dropUnkept 0 = .ok (.iconst 0, 1) := by decide +kernel
theorem dX6_dropUnkept_1 : decode cX6_dropUnkept 1 = .ok (.istore_n 1, 1) := by decide +kernel
theorem dX6_dropUnkept_2 : decode cX6_dropUnkept 2 = .ok (.iconst 0, 1) := by decide +kernel
theorem dX6_dropUnkept_3 : decode cX6_dropUnkept 3 = .ok (.istore_n 2, 1) := by decide +kernel
theorem dX6_dropUnkept_4 : decode cX6_dropUnkept 4 = .ok (.iload_n 2, 1) := by decide +kernel
theorem dX6_dropUnkept_5 : decode cX6_dropUnkept 5 = .ok (.aload_n 0, 1) := by decide +kernel
theorem dX6_dropUnkept_6 : decode cX6_dropUnkept 6 = .ok (.getfield 43, 3) := by decide +kernel
theorem dX6_dropUnkept_9 : decode cX6_dropUnkept 9 = .ok (.if_icmp .ge 63, 3) := by decide +kernel
theorem dX6_dropUnkept_12 : decode cX6_dropUnkept 12 = .ok (.aload_n 0, 1) := by decide +kernel
theorem dX6_dropUnkept_13 : decode cX6_dropUnkept 13 = .ok (.getfield 32, 3) := by decide +kernel
theorem dX6_dropUnkept_16 : decode cX6_dropUnkept 16 = .ok (.iload_n 2, 1) := by decide +kernel
theorem dX6_dropUnkept_17 : decode cX6_dropUnkept 17 = .ok (.invokestatic 47, 3) := by decide +kernel
theorem dX6_dropUnkept_20 : decode cX6_dropUnkept 20 = .ok (.istore_n 3, 1) := by decide +kernel
theorem dX6_dropUnkept_21 : decode cX6_dropUnkept 21 = .ok (.aload_n 0, 1) := by decide +kernel
theorem dX6_dropUnkept_22 : decode cX6_dropUnkept 22 = .ok (.getfield 12, 3) := by decide +kernel
theorem dX6_dropUnkept_25 : decode cX6_dropUnkept 25 = .ok (.iload_n 3, 1) := by decide +kernel
theorem dX6_dropUnkept_26 : decode cX6_dropUnkept 26 = .ok (.invokevirtual 78, 3) := by decide +kernel
theorem dX6_dropUnkept_29 : decode cX6_dropUnkept 29 = .ok (.ifCond .eq 37, 3) := by decide +kernel
theorem dX6_dropUnkept_32 : decode cX6_dropUnkept 32 = .ok (.aload_n 0, 1) := by decide +kernel
theorem dX6_dropUnkept_33 : decode cX6_dropUnkept 33 = .ok (.getfield 21, 3) := by decide +kernel
theorem dX6_dropUnkept_36 : decode cX6_dropUnkept 36 = .ok (.iload_n 3, 1) := by decide +kernel
theorem dX6_dropUnkept_37 : decode cX6_dropUnkept 37 = .ok (.invokevirtual 82, 3) := by decide +kernel
theorem dX6_dropUnkept_40 : decode cX6_dropUnkept 40 = .ok (.ifCond .eq 26, 3) := by decide +kernel
theorem dX6_dropUnkept_43 : decode cX6_dropUnkept 43 = .ok (.aload_n 0, 1) := by decide +kernel
theorem dX6_dropUnkept_44 : decode cX6_dropUnkept 44 = .ok (.getfield 28, 3) := by decide +kernel
theorem dX6_dropUnkept_47 : decode cX6_dropUnkept 47 = .ok (.iload_n 3, 1) := by decide +kernel
theorem dX6_dropUnkept_48 : decode cX6_dropUnkept 48 = .ok (.invokevirtual 85, 3) := by decide +kernel
theorem dX6_dropUnkept_51 : decode cX6_dropUnkept 51 = .ok (.ifCond .eq 15, 3) := by decide +kernel
theorem dX6_dropUnkept_54 : decode cX6_dropUnkept 54 = .ok (.aload_n 0, 1) := by decide +kernel
theorem dX6_dropUnkept_55 : decode cX6_dropUnkept 55 = .ok (.getfield 32, 3) := by decide +kernel
theorem dX6_dropUnkept_58 : decode cX6_dropUnkept 58 = .ok (.iload_n 1, 1) := by decide +kernel
theorem dX6_dropUnkept_59 : decode cX6_dropUnkept 59 = .ok (.iload_n 3, 1) := by decide +kernel
theorem dX6_dropUnkept_60 : decode cX6_dropUnkept 60 = .ok (.invokestatic 55, 3) := by decide +kernel
theorem dX6_dropUnkept_63 : decode cX6_dropUnkept 63 = .ok (.iinc 1 1, 3) := by decide +kernel
theorem dX6_dropUnkept_66 : decode cX6_dropUnkept 66 = .ok (.iinc 2 1, 3) := by decide +kernel
theorem dX6_dropUnkept_69 : decode cX6_dropUnkept 69 = .ok (.goto (-65), 3) := by decide +kernel
theorem dX6_dropUnkept_72 : decode cX6_dropUnkept 72 = .ok (.aload_n 0, 1) := by decide +kernel
theorem dX6_dropUnkept_73 : decode cX6_dropUnkept 73 = .ok (.iload_n 1, 1) := by decide +kernel
theorem dX6_dropUnkept_74 : decode cX6_dropUnkept 74 = .ok (.putfield 43, 3) := by decide +kernel
theorem dX6_dropUnkept_77 : decode cX6_dropUnkept 77 = .ok (.return_, 1) := by decide +kernel
set_option maxRecDepth 20000 in
theorem ggX7_init_X6_init : GoodIn wsX7_init wsX6_init := goodIn_ca (goodIn_r _ [27, 28, 2, 3, 29, 30, 31, 32, 33, 34, 35, 36, 37, 38, 39, 40, 41, 42, 43, 44, 45, 46, 47, 48, 49, 50, 51, 52, 53, 54, 55, 56, 57, 58, 59, 60, 61, 62, 63, 64, 99, 100, 101, 102, 103, 104, 105, 106, 77, 78, 79, 80, 81, 82, 107, 108, 109, 110, 111, 112, 113, 114] (by decide +kernel) (by decide +kernel)) (goodIn_sub (fun _ h => List.mem_cons_of_mem _ (List.mem_append_right _ h)) (by decide +kernel))
set_option maxRecDepth 20000 in
theorem gX7_init_X6_init_n9 : GoodIn wsX7_init (wsX6_init) := ggX7_init_X6_init
set_option maxRecDepth 20000 in
theorem ggX7_init_X0_init : GoodIn wsX7_init wsX0_init := goodIn_r _ [66, 67, 2, 3, 41, 68, 90, 91, 92, 93] (by decide +kernel) (by decide +kernel)
set_option maxRecDepth 20000 in
theorem gX7_init_X0_init_n33 : GoodIn wsX7_init (wsX0_init) := ggX7_init_X0_init
set_option maxRecDepth 20000 in
theorem ggX7_init_X2_init : GoodIn wsX7_init wsX2_init := goodIn_r _ [70, 71, 2, 3, 41, 72, 94, 95, 96] (by decide +kernel) (by decide +kernel)
set_option maxRecDepth 20000 in
theorem gX7_init_X2_init_n40 : GoodIn wsX7_init (wsX2_init) := ggX7_init_X2_init
set_option maxRecDepth 20000 in
theorem ggX7_init_X3_init : GoodIn wsX7_init wsX3_init := goodIn_r _ [74, 75, 2, 3, 41, 76, 97, 98] (by decide +kernel) (by decide +kernel)
set_option maxRecDepth 20000 in
theorem gX7_init_X3_init_n47 : GoodIn wsX7_init (wsX3_init) := ggX7_init_X3_init
theorem dX7_init_0 : decode cX7_init 0 = .ok (.aload_n 0, 1) := by decide +kernel
theorem dX7_init_1 : decode cX7_init 1 = .ok (.invokespecial 1, 3) := by decide +kernel
theorem dX7_init_4 : decode cX7_init 4 = .ok (.aload_n 0, 1) := by decide +kernel
theorem dX7_init_5 : decode cX7_init 5 = .ok (.new 7, 3) := by decide +kernel
theorem dX7_init_8 : decode cX7_init 8 = .ok (.dup, 1) := by decide +kernel
theorem dX7_init_9 : decode cX7_init 9 = .ok (.invokespecial 9, 3) := by decide +kernel
theorem dX7_init_12 : decode cX7_init 12 = .ok (.putfield 10, 3) := by decide +kernel
theorem dX7_init_15 : decode cX7_init 15 = .ok (.aload_n 0, 1) := by decide +kernel
theorem dX7_init_16 : decode cX7_init 16 = .ok (.aload_n 0, 1) := by decide +kernel
theorem dX7_init_17 : decode cX7_init 17 = .ok (.getfield 10, 3) := by decide +kernel
theorem dX7_init_20 : decode cX7_init 20 = .ok (.getfield 16, 3) := by decide +kernel
theorem dX7_init_23 : decode cX7_init 23 = .ok (.putfield 20, 3) := by decide +kernel
theorem dX7_init_26 : decode cX7_init 26 = .ok (.aload_n 0, 1) := by decide +kernel
theorem dX7_init_27 : decode cX7_init 27 = .ok (.aload_n 0, 1) := by decide +kernel
theorem dX7_init_28 : decode cX7_init 28 = .ok (.getfield 10, 3) := by decide +kernel
theorem dX7_init_31 : decode cX7_init 31 = .ok (.getfield 21, 3) := by decide +kernel
theorem dX7_init_34 : decode cX7_init 34 = .ok (.putfield 25, 3) := by decide +kernel
theorem dX7_init_37 : decode cX7_init 37 = .ok (.aload_n 0, 1) := by decide +kernel
theorem dX7_init_38 : decode cX7_init 38 = .ok (.aload_n 0, 1) := by decide +kernel
theorem dX7_init_39 : decode cX7_init 39 = .ok (.getfield 10, 3) := by decide +kernel
theorem dX7_init_42 : decode cX7_init 42 = .ok (.getfield 26, 3) := by decide +kernel
theorem dX7_init_45 : decode cX7_init 45 = .ok (.putfield 30, 3) := by decide +kernel
theorem dX7_init_48 : decode cX7_init 48 = .ok (.aload_n 0, 1) := by decide +kernel
theorem dX7_init_49 : decode cX7_init 49 = .ok (.new 31, 3) := by decide +kernel
theorem dX7_init_52 : decode cX7_init 52 = .ok (.dup, 1) := by decide +kernel
theorem dX7_init_53 : decode cX7_init 53 = .ok (.invokespecial 33, 3) := by decide +kernel
theorem dX7_init_56 : decode cX7_init 56 = .ok (.putfield 34, 3) := by decide +kernel
theorem dX7_init_59 : decode cX7_init 59 = .ok (.aload_n 0, 1) := by decide +kernel
theorem dX7_init_60 : decode cX7_init 60 = .ok (.new 38, 3) := by decide +kernel
theorem dX7_init_63 : decode cX7_init 63 = .ok (.dup, 1) := by decide +kernel
theorem dX7_init_64 : decode cX7_init 64 = .ok (.invokespecial 40, 3) := by decide +kernel
theorem dX7_init_67 : decode cX7_init 67 = .ok (.putfield 41, 3) := by decide +kernel
theorem dX7_init_70 : decode cX7_init 70 = .ok (.aload_n 0, 1) := by decide +kernel
theorem dX7_init_71 : decode cX7_init 71 = .ok (.new 45, 3) := by decide +kernel
theorem dX7_init_74 : decode cX7_init 74 = .ok (.dup, 1) := by decide +kernel
theorem dX7_init_75 : decode cX7_init 75 = .ok (.invokespecial 47, 3) := by decide +kernel
theorem dX7_init_78 : decode cX7_init 78 = .ok (.putfield 48, 3) := by decide +kernel
theorem dX7_init_81 : decode cX7_init 81 = .ok (.return_, 1) := by decide +kernel
set_option maxRecDepth 20000 in
theorem ggX7_feature_X5_takesParent : GoodIn wsX7_feature wsX5_takesParent := goodIn_r _ [8, 9, 10, 11, 12, 7, 13, 42, 43, 44, 45, 46, 47, 48, 49] (by decide +kernel) (by decide +kernel)
set_option maxRecDepth 20000 in
theorem gX7_feature_X5_takesParent : GoodIn wsX7_feature (wsV RX7 52 RX5 yX5_takesParent wsX5_takesParent) := goodIn_app (goodIn_of _ (by decide +kernel)) ggX7_feature_X5_takesParent
set_option maxRecDepth 20000 in
theorem ggX7_feature_X6_outdate : GoodIn wsX7_feature wsX6_outdate := goodIn_r _ [18, 19, 50, 51, 52, 53, 54, 55] (by decide +kernel) (by decide +kernel)
set_option maxRecDepth 20000 in
theorem gX7_feature_X6_outdate : GoodIn wsX7_feature (wsV RX7 62 RX6 yX6_outdate wsX6_outdate) := goodIn_app (goodIn_of _ (by decide +kernel)) ggX7_feature_X6_outdate
set_option maxRecDepth 20000 in
theorem ggX7_feature_X5_add : GoodIn wsX7_feature wsX5_add := goodIn_ca (goodIn_r _ [23, 9, 24, 25, 26, 27, 28, 29, 30, 31, 32, 33, 34, 42, 43, 44, 45, 46, 47, 48, 49] (by decide +kernel) (by decide +kernel)) (goodIn_sub (fun _ h => List.mem_cons_of_mem _ (List.mem_append_right _ h)) (by decide +kernel))
set_option maxRecDepth 20000 in
theorem gX7_feature_X5_add : GoodIn wsX7_feature (wsV RX7 65 RX5 yX5_add wsX5_add) := goodIn_app (goodIn_of _ (by decide +kernel)) ggX7_feature_X5_add
theorem dX7_feature_0 : decode cX7_feature 0 = .ok (.aload_n 0, 1) := by decide +kernel
theorem dX7_feature_1 : decode cX7_feature 1 = .ok (.getfield 20, 3) := by decide +kernel
theorem dX7_feature_4 : decode cX7_feature 4 = .ok (.iload_n 1, 1) := by decide +kernel
theorem dX7_feature_5 : decode cX7_feature 5 = .ok (.invokevirtual 52, 3) := by decide +kernel
theorem dX7_feature_8 : decode cX7_feature 8 = .ok (.ifCond .ne 5, 3) := by decide +kernel
theorem dX7_feature_11 : decode cX7_feature 11 = .ok (.iconst (-1), 1) := by decide +kernel
theorem dX7_feature_12 : decode cX7_feature 12 = .ok (.ireturn, 1) := by decide +kernel
theorem dX7_feature_13 : decode cX7_feature 13 = .ok (.iload_n 2, 1) := by decide +kernel
theorem dX7_feature_14 : decode cX7_feature 14 = .ok (.ifCond .lt 8, 3) := by decide +kernel
theorem dX7_feature_17 : decode cX7_feature 17 = .ok (.iload_n 2, 1) := by decide +kernel
theorem dX7_feature_18 : decode cX7_feature 18 = .ok (.iconst 2, 1) := by decide +kernel
theorem dX7_feature_19 : decode cX7_feature 19 = .ok (.if_icmp .le 6, 3) := by decide +kernel
theorem dX7_feature_22 : decode cX7_feature 22 = .ok (.bipush (-2), 2) := by decide +kernel
theorem dX7_feature_24 : decode cX7_feature 24 = .ok (.ireturn, 1) := by decide +kernel
theorem dX7_feature_25 : decode cX7_feature 25 = .ok (.aload_n 0, 1) := by decide +kernel
theorem dX7_feature_26 : decode cX7_feature 26 = .ok (.getfield 20, 3) := by decide +kernel
theorem dX7_feature_29 : decode cX7_feature 29 = .ok (.getfield 58, 3) := by decide +kernel
theorem dX7_feature_32 : decode cX7_feature 32 = .ok (.bipush 14, 2) := by decide +kernel
theorem dX7_feature_34 : decode cX7_feature 34 = .ok (.if_icmp .lt 6, 3) := by decide +kernel
theorem dX7_feature_37 : decode cX7_feature 37 = .ok (.bipush (-4), 2) := by decide +kernel
theorem dX7_feature_39 : decode cX7_feature 39 = .ok (.ireturn, 1) := by decide +kernel
theorem dX7_feature_40 : decode cX7_feature 40 = .ok (.aload_n 0, 1) := by decide +kernel
theorem dX7_feature_41 : decode cX7_feature 41 = .ok (.getfield 10, 3) := by decide +kernel
theorem dX7_feature_44 : decode cX7_feature 44 = .ok (.invokevirtual 62, 3) := by decide +kernel
theorem dX7_feature_47 : decode cX7_feature 47 = .ok (.aload_n 0, 1) := by decide +kernel
theorem dX7_feature_48 : decode cX7_feature 48 = .ok (.getfield 20, 3) := by decide +kernel
theorem dX7_feature_51 : decode cX7_feature 51 = .ok (.iload_n 1, 1) := by decide +kernel
theorem dX7_feature_52 : decode cX7_feature 52 = .ok (.iload_n 2, 1) := by decide +kernel
theorem dX7_feature_53 : decode cX7_feature 53 = .ok (.invokevirtual 65, 3) := by decide +kernel
theorem dX7_feature_56 : decode cX7_feature 56 = .ok (.ireturn, 1) := by decide +kernel
set_option maxRecDepth 20000 in
theorem ggX7_group_X5_has : GoodIn wsX7_group wsX5_has := goodIn_r _ [7, 8, 44, 45, 46, 47, 48, 49, 50, 51] (by decide +kernel) (by decide +kernel)
set_option maxRecDepth 20000 in
theorem gX7_group_X5_has : GoodIn wsX7_group (wsV RX7 69 RX5 yX5_has wsX5_has) := goodIn_app (goodIn_of _ (by decide +kernel)) ggX7_group_X5_has
set_option maxRecDepth 20000 in
theorem ggX7_group_X6_outdate : GoodIn wsX7_group wsX6_outdate := goodIn_r _ [13, 14, 52, 53, 54, 55, 56, 57] (by decide +kernel) (by decide +kernel)
set_option maxRecDepth 20000 in
theorem gX7_group_X6_outdate : GoodIn wsX7_group (wsV RX7 62 RX6 yX6_outdate wsX6_outdate) := goodIn_app (goodIn_of _ (by decide +kernel)) ggX7_group_X6_outdate
set_option maxRecDepth 20000 in
theorem ggX7_group_X5_bound : GoodIn wsX7_group wsX5_bound := goodIn_ca (goodIn_r _ [18, 19, 20, 21, 22, 23, 24, 25, 26, 27, 28, 29, 30, 31, 32, 33, 34, 35, 36, 44, 45, 46, 47, 48, 49, 50, 51] (by decide +kernel) (by decide +kernel)) (goodIn_sub (fun _ h => List.mem_cons_of_mem _ (List.mem_append_right _ h)) (by decide +kernel))
set_option maxRecDepth 20000 in
theorem gX7_group_X5_bound : GoodIn wsX7_group (wsV RX7 72 RX5 yX5_bound wsX5_bound) := goodIn_app (goodIn_of _ (by decide +kernel)) ggX7_group_X5_bound
theorem dX7_group_0 : decode cX7_group 0 = .ok (.aload_n 0, 1) := by decide +kernel
theorem dX7_group_1 : decode cX7_group 1 = .ok (.getfield 20, 3) := by decide +kernel
theorem dX7_group_4 : decode cX7_group 4 = .ok (.iload_n 1, 1) := by decide +kernel
theorem dX7_group_5 : decode cX7_group 5 = .ok (.invokevirtual 69, 3) := by decide +kernel
theorem dX7_group_8 : decode cX7_group 8 = .ok (.ifCond .ne 5, 3) := by decide +kernel
theorem dX7_group_11 : decode cX7_group 11 = .ok (.iconst (-1), 1) := by decide +kernel
theorem dX7_group_12 : decode cX7_group 12 = .ok (.ireturn, 1) := by decide +kernel
theorem dX7_group_13 : decode cX7_group 13 = .ok (.iload_n 2, 1) := by decide +kernel
theorem dX7_group_14 : decode cX7_group 14 = .ok (.ifCond .lt 14, 3) := by decide +kernel
theorem dX7_group_17 : decode cX7_group 17 = .ok (.iload_n 2, 1) := by decide +kernel
theorem dX7_group_18 : decode cX7_group 18 = .ok (.iload_n 3, 1) := by decide +kernel
theorem dX7_group_19 : decode cX7_group 19 = .ok (.if_icmp .gt 9, 3) := by decide +kernel
theorem dX7_group_22 : decode cX7_group 22 = .ok (.iload_n 3, 1) := by decide +kernel
theorem dX7_group_23 : decode cX7_group 23 = .ok (.bipush 14, 2) := by decide +kernel
theorem dX7_group_25 : decode cX7_group 25 = .ok (.if_icmp .le 6, 3) := by decide +kernel
theorem dX7_group_28 : decode cX7_group 28 = .ok (.bipush (-2), 2) := by decide +kernel
theorem dX7_group_30 : decode cX7_group 30 = .ok (.ireturn, 1) := by decide +kernel
theorem dX7_group_31 : decode cX7_group 31 = .ok (.aload_n 0, 1) := by decide +kernel
theorem dX7_group_32 : decode cX7_group 32 = .ok (.getfield 10, 3) := by decide +kernel
theorem dX7_group_35 : decode cX7_group 35 = .ok (.invokevirtual 62, 3) := by decide +kernel
theorem dX7_group_38 : decode cX7_group 38 = .ok (.aload_n 0, 1) := by decide +kernel
theorem dX7_group_39 : decode cX7_group 39 = .ok (.getfield 20, 3) := by decide +kernel
theorem dX7_group_42 : decode cX7_group 42 = .ok (.iload_n 1, 1) := by decide +kernel
theorem dX7_group_43 : decode cX7_group 43 = .ok (.iload_n 2, 1) := by decide +kernel
theorem dX7_group_44 : decode cX7_group 44 = .ok (.iload_n 3, 1) := by decide +kernel
theorem dX7_group_45 : decode cX7_group 45 = .ok (.invokevirtual 72, 3) := by decide +kernel
theorem dX7_group_48 : decode cX7_group 48 = .ok (.ireturn, 1) := by decide +kernel
set_option maxRecDepth 20000 in
theorem ggX7_formula_X5_hasSigned : GoodIn wsX7_formula wsX5_hasSigned := goodIn_r _ [9, 10, 11, 12, 8, 13, 14, 62, 63, 64, 65, 66, 67, 68, 69] (by decide +kernel) (by decide +kernel)
set_option maxRecDepth 20000 in
theorem gX7_formula_X5_hasSigned : GoodIn wsX7_formula (wsV RX7 76 RX5 yX5_hasSigned wsX5_hasSigned) := goodIn_app (goodIn_of _ (by decide +kernel)) ggX7_formula_X5_hasSigned
set_option maxRecDepth 20000 in
theorem ggX7_formula_X1_isAlwaysTrue : GoodIn wsX7_formula wsX1_isAlwaysTrue := goodIn_r _ [18, 19, 20, 17, 21, 22, 23, 24, 25, 26, 27, 28, 29, 30] (by decide +kernel) (by decide +kernel)
set_option maxRecDepth 20000 in
theorem gX7_formula_X1_isAlwaysTrue : GoodIn wsX7_formula (va_wsS RX7 82 yX1_isAlwaysTrue wsX1_isAlwaysTrue) := goodIn_app (goodIn_of _ (by decide +kernel)) ggX7_formula_X1_isAlwaysTrue
set_option maxRecDepth 20000 in
theorem ggX7_formula_X6_outdate : GoodIn wsX7_formula wsX6_outdate := goodIn_r _ [35, 36, 70, 71, 72, 73, 74, 75] (by decide +kernel) (by decide +kernel)
set_option maxRecDepth 20000 in
theorem gX7_formula_X6_outdate : GoodIn wsX7_formula (wsV RX7 62 RX6 yX6_outdate wsX6_outdate) := goodIn_app (goodIn_of _ (by decide +kernel)) ggX7_formula_X6_outdate
set_option maxRecDepth 20000 in
theorem ggX7_formula_X1_add : GoodIn wsX7_formula wsX1_add := goodIn_ca (goodIn_r _ [40, 41, 42, 43, 44, 45, 46, 47, 23, 48, 19, 20, 17, 21, 22, 24, 56, 57, 58, 59, 60, 61] (by decide +kernel) (by decide +kernel)) (goodIn_sub (fun _ h => List.mem_cons_of_mem _ (List.mem_append_right _ h)) (by decide +kernel))
set_option maxRecDepth 20000 in
theorem gX7_formula_X1_add : GoodIn wsX7_formula (wsV RX7 86 RX1 yX1_add wsX1_add) := goodIn_app (goodIn_of _ (by decide +kernel)) ggX7_formula_X1_add
theorem dX7_formula_0 : decode cX7_formula 0 = .ok (.aload_n 0, 1) := by decide +kernel
theorem dX7_formula_1 : decode cX7_formula 1 = .ok (.getfield 20, 3) := by decide +kernel
theorem dX7_formula_4 : decode cX7_formula 4 = .ok (.iload_n 2, 1) := by decide +kernel
theorem dX7_formula_5 : decode cX7_formula 5 = .ok (.invokevirtual 76, 3) := by decide +kernel
theorem dX7_formula_8 : decode cX7_formula 8 = .ok (.ifCond .eq 14, 3) := by decide +kernel
theorem dX7_formula_11 : decode cX7_formula 11 = .ok (.aload_n 0, 1) := by decide +kernel
theorem dX7_formula_12 : decode cX7_formula 12 = .ok (.getfield 20, 3) := by decide +kernel
theorem dX7_formula_15 : decode cX7_formula 15 = .ok (.iload_n 3, 1) := by decide +kernel
theorem dX7_formula_16 : decode cX7_formula 16 = .ok (.invokevirtual 76, 3) := by decide +kernel
theorem dX7_formula_19 : decode cX7_formula 19 = .ok (.ifCond .ne 5, 3) := by decide +kernel
theorem dX7_formula_22 : decode cX7_formula 22 = .ok (.iconst (-1), 1) := by decide +kernel
theorem dX7_formula_23 : decode cX7_formula 23 = .ok (.ireturn, 1) := by decide +kernel
theorem dX7_formula_24 : decode cX7_formula 24 = .ok (.iload_n 1, 1) := by decide +kernel
theorem dX7_formula_25 : decode cX7_formula 25 = .ok (.ifCond .lt 8, 3) := by decide +kernel
theorem dX7_formula_28 : decode cX7_formula 28 = .ok (.iload_n 1, 1) := by decide +kernel
theorem dX7_formula_29 : decode cX7_formula 29 = .ok (.iconst 3, 1) := by decide +kernel
theorem dX7_formula_30 : decode cX7_formula 30 = .ok (.if_icmp .le 6, 3) := by decide +kernel
theorem dX7_formula_33 : decode cX7_formula 33 = .ok (.bipush (-2), 2) := by decide +kernel
theorem dX7_formula_35 : decode cX7_formula 35 = .ok (.ireturn, 1) := by decide +kernel
theorem dX7_formula_36 : decode cX7_formula 36 = .ok (.aload_n 0, 1) := by decide +kernel
theorem dX7_formula_37 : decode cX7_formula 37 = .ok (.getfield 25, 3) := by decide +kernel
theorem dX7_formula_40 : decode cX7_formula 40 = .ok (.getfield 79, 3) := by decide +kernel
theorem dX7_formula_43 : decode cX7_formula 43 = .ok (.bipush 40, 2) := by decide +kernel
theorem dX7_formula_45 : decode cX7_formula 45 = .ok (.if_icmp .lt 6, 3) := by decide +kernel
theorem dX7_formula_48 : decode cX7_formula 48 = .ok (.bipush (-4), 2) := by decide +kernel
theorem dX7_formula_50 : decode cX7_formula 50 = .ok (.ireturn, 1) := by decide +kernel
theorem dX7_formula_51 : decode cX7_formula 51 = .ok (.iload_n 1, 1) := by decide +kernel
theorem dX7_formula_52 : decode cX7_formula 52 = .ok (.iload_n 2, 1) := by decide +kernel
theorem dX7_formula_53 : decode cX7_formula 53 = .ok (.iload_n 3, 1) := by decide +kernel
theorem dX7_formula_54 : decode cX7_formula 54 = .ok (.invokestatic 82, 3) := by decide +kernel
theorem dX7_formula_57 : decode cX7_formula 57 = .ok (.ifCond .eq 5, 3) := by decide +kernel
theorem dX7_formula_60 : decode cX7_formula 60 = .ok (.iconst 0, 1) := by decide +kernel
theorem dX7_formula_61 : decode cX7_formula 61 = .ok (.ireturn, 1) := by decide +kernel
theorem dX7_formula_62 : decode cX7_formula 62 = .ok (.aload_n 0, 1) := by decide +kernel
theorem dX7_formula_63 : decode cX7_formula 63 = .ok (.getfield 10, 3) := by decide +kernel
theorem dX7_formula_66 : decode cX7_formula 66 = .ok (.invokevirtual 62, 3) := by decide +kernel
theorem dX7_formula_69 : decode cX7_formula 69 = .ok (.aload_n 0, 1) := by decide +kernel
theorem dX7_formula_70 : decode cX7_formula 70 = .ok (.getfield 25, 3) := by decide +kernel
theorem dX7_formula_73 : decode cX7_formula 73 = .ok (.iload_n 1, 1) := by decide +kernel
theorem dX7_formula_74 : decode cX7_formula 74 = .ok (.iload_n 2, 1) := by decide +kernel
theorem dX7_formula_75 : decode cX7_formula 75 = .ok (.iload_n 3, 1) := by decide +kernel
theorem dX7_formula_76 : decode cX7_formula 76 = .ok (.invokevirtual 86, 3) := by decide +kernel
theorem dX7_formula_79 : decode cX7_formula 79 = .ok (.ireturn, 1) := by decide +kernel
set_option maxRecDepth 20000 in
theorem ggX7_attribute_X5_has : GoodIn wsX7_attribute wsX5_has := goodIn_r _ [8, 9, 37, 38, 39, 40, 41, 42, 43, 44] (by decide +kernel) (by decide +kernel)
set_option maxRecDepth 20000 in
theorem gX7_attribute_X5_has : GoodIn wsX7_attribute (wsV RX7 69 RX5 yX5_has wsX5_has) := goodIn_app (goodIn_of _ (by decide +kernel)) ggX7_attribute_X5_has
set_option maxRecDepth 20000 in
theorem ggX7_attribute_X6_outdate : GoodIn wsX7_attribute wsX6_outdate := goodIn_r _ [14, 15, 45, 46, 47, 48, 49, 50] (by decide +kernel) (by decide +kernel)
set_option maxRecDepth 20000 in
theorem gX7_attribute_X6_outdate : GoodIn wsX7_attribute (wsV RX7 62 RX6 yX6_outdate wsX6_outdate) := goodIn_app (goodIn_of _ (by decide +kernel)) ggX7_attribute_X6_outdate
set_option maxRecDepth 20000 in
theorem ggX7_attribute_X4_limit : GoodIn wsX7_attribute wsX4_limit := goodIn_ca (goodIn_r _ [20, 21, 22, 23, 24, 51, 52] (by decide +kernel) (by decide +kernel)) (goodIn_sub (fun _ h => List.mem_cons_of_mem _ (List.mem_append_right _ h)) (by decide +kernel))
set_option maxRecDepth 20000 in
theorem gX7_attribute_X4_limit : GoodIn wsX7_attribute (wsV RX7 88 RX4 yX4_limit wsX4_limit) := goodIn_app (goodIn_of _ (by decide +kernel)) ggX7_attribute_X4_limit
set_option maxRecDepth 20000 in
theorem ggX7_attribute_X4_set : GoodIn wsX7_attribute wsX4_set := goodIn_ca (goodIn_r _ [28, 29, 22, 23, 24, 51, 52] (by decide +kernel) (by decide +kernel)) (goodIn_sub (fun _ h => List.mem_cons_of_mem _ (List.mem_append_right _ h)) (by decide +kernel))
set_option maxRecDepth 20000 in
theorem gX7_attribute_X4_set : GoodIn wsX7_attribute (wsV RX7 94 RX4 yX4_set wsX4_set) := goodIn_app (goodIn_of _ (by decide +kernel)) ggX7_attribute_X4_set
theorem dX7_attribute_0 : decode cX7_attribute 0 = .ok (.iload_n 1, 1) := by decide +kernel
theorem dX7_attribute_1 : decode cX7_attribute 1 = .ok (.ifCond .ne 7, 3) := by decide +kernel
theorem dX7_attribute_4 : decode cX7_attribute 4 = .ok (.iconst 1, 1) := by decide +kernel
theorem dX7_attribute_5 : decode cX7_attribute 5 = .ok (.goto 4, 3) := by decide +kernel
theorem dX7_attribute_8 : decode cX7_attribute 8 = .ok (.iconst 0, 1) := by decide +kernel
theorem dX7_attribute_9 : decode cX7_attribute 9 = .ok (.istore 4, 2) := by decide +kernel
theorem dX7_attribute_11 : decode cX7_attribute 11 = .ok (.iload 4, 2) := by decide +kernel
theorem dX7_attribute_13 : decode cX7_attribute 13 = .ok (.ifCond .ne 16, 3) := by decide +kernel
theorem dX7_attribute_16 : decode cX7_attribute 16 = .ok (.aload_n 0, 1) := by decide +kernel
theorem dX7_attribute_17 : decode cX7_attribute 17 = .ok (.getfield 20, 3) := by decide +kernel
theorem dX7_attribute_20 : decode cX7_attribute 20 = .ok (.iload_n 1, 1) := by decide +kernel
theorem dX7_attribute_21 : decode cX7_attribute 21 = .ok (.invokevirtual 69, 3) := by decide +kernel
theorem dX7_attribute_24 : decode cX7_attribute 24 = .ok (.ifCond .ne 5, 3) := by decide +kernel
theorem dX7_attribute_27 : decode cX7_attribute 27 = .ok (.iconst (-1), 1) := by decide +kernel
theorem dX7_attribute_28 : decode cX7_attribute 28 = .ok (.ireturn, 1) := by decide +kernel
theorem dX7_attribute_29 : decode cX7_attribute 29 = .ok (.iload 4, 2) := by decide +kernel
theorem dX7_attribute_31 : decode cX7_attribute 31 = .ok (.ifCond .eq 9, 3) := by decide +kernel
theorem dX7_attribute_34 : decode cX7_attribute 34 = .ok (.sipush 10000, 3) := by decide +kernel
theorem dX7_attribute_37 : decode cX7_attribute 37 = .ok (.goto 6, 3) := by decide +kernel
theorem dX7_attribute_40 : decode cX7_attribute 40 = .ok (.sipush 1000, 3) := by decide +kernel
theorem dX7_attribute_43 : decode cX7_attribute 43 = .ok (.istore 5, 2) := by decide +kernel
theorem dX7_attribute_45 : decode cX7_attribute 45 = .ok (.iload_n 2, 1) := by decide +kernel
theorem dX7_attribute_46 : decode cX7_attribute 46 = .ok (.ifCond .lt 21, 3) := by decide +kernel
theorem dX7_attribute_49 : decode cX7_attribute 49 = .ok (.iload_n 2, 1) := by decide +kernel
theorem dX7_attribute_50 : decode cX7_attribute 50 = .ok (.iconst 4, 1) := by decide +kernel
theorem dX7_attribute_51 : decode cX7_attribute 51 = .ok (.if_icmp .ge 16, 3) := by decide +kernel
theorem dX7_attribute_54 : decode cX7_attribute 54 = .ok (.iload_n 3, 1) := by decide +kernel
theorem dX7_attribute_55 : decode cX7_attribute 55 = .ok (.iload 5, 2) := by decide +kernel
theorem dX7_attribute_57 : decode cX7_attribute 57 = .ok (.ineg, 1) := by decide +kernel
theorem dX7_attribute_58 : decode cX7_attribute 58 = .ok (.if_icmp .lt 9, 3) := by decide +kernel
theorem dX7_attribute_61 : decode cX7_attribute 61 = .ok (.iload_n 3, 1) := by decide +kernel
theorem dX7_attribute_62 : decode cX7_attribute 62 = .ok (.iload 5, 2) := by decide +kernel
theorem dX7_attribute_64 : decode cX7_attribute 64 = .ok (.if_icmp .le 6, 3) := by decide +kernel
theorem dX7_attribute_67 : decode cX7_attribute 67 = .ok (.bipush (-2), 2) := by decide +kernel
theorem dX7_attribute_69 : decode cX7_attribute 69 = .ok (.ireturn, 1) := by decide +kernel
theorem dX7_attribute_70 : decode cX7_attribute 70 = .ok (.aload_n 0, 1) := by decide +kernel
theorem dX7_attribute_71 : decode cX7_attribute 71 = .ok (.getfield 10, 3) := by decide +kernel
theorem dX7_attribute_74 : decode cX7_attribute 74 = .ok (.invokevirtual 62, 3) := by decide +kernel
theorem dX7_attribute_77 : decode cX7_attribute 77 = .ok (.iload 4, 2) := by decide +kernel
theorem dX7_attribute_79 : decode cX7_attribute 79 = .ok (.ifCond .eq 15, 3) := by decide +kernel
theorem dX7_attribute_82 : decode cX7_attribute 82 = .ok (.aload_n 0, 1) := by decide +kernel
theorem dX7_attribute_83 : decode cX7_attribute 83 = .ok (.getfield 30, 3) := by decide +kernel
theorem dX7_attribute_86 : decode cX7_attribute 86 = .ok (.iload_n 2, 1) := by decide +kernel
theorem dX7_attribute_87 : decode cX7_attribute 87 = .ok (.iload_n 3, 1) := by decide +kernel
theorem dX7_attribute_88 : decode cX7_attribute 88 = .ok (.invokevirtual 88, 3) := by decide +kernel
theorem dX7_attribute_91 : decode cX7_attribute 91 = .ok (.goto 13, 3) := by decide +kernel
theorem dX7_attribute_94 : decode cX7_attribute 94 = .ok (.aload_n 0, 1) := by decide +kernel
theorem dX7_attribute_95 : decode cX7_attribute 95 = .ok (.getfield 30, 3) := by decide +kernel
theorem dX7_attribute_98 : decode cX7_attribute 98 = .ok (.iload_n 1, 1) := by decide +kernel
theorem dX7_attribute_99 : decode cX7_attribute 99 = .ok (.iload_n 2, 1) := by decide +kernel
theorem dX7_attribute_100 : decode cX7_attribute 100 = .ok (.iload_n 3, 1) := by decide +kernel
theorem dX7_attribute_101 : decode cX7_attribute 101 = .ok (.invokevirtual 94, 3) := by decide +kernel
theorem dX7_attribute_104 : decode cX7_attribute 104 = .ok (.iconst 1, 1) := by decide +kernel
theorem dX7_attribute_105 : decode cX7_attribute 105 = .ok (.ireturn, 1) := by decide +kernel
set_option maxRecDepth 20000 in
theorem ggX7_choose_X5_hasSigned : GoodIn wsX7_choose wsX5_hasSigned := goodIn_r _ [8, 9, 10, 11, 7, 12, 13, 46, 47, 48, 49, 50, 51, 52, 53] (by decide +kernel) (by decide +kernel)
set_option maxRecDepth 20000 in
theorem gX7_choose_X5_hasSigned : GoodIn wsX7_choose (wsV RX7 76 RX5 yX5_hasSigned wsX5_hasSigned) := goodIn_app (goodIn_of _ (by decide +kernel)) ggX7_choose_X5_hasSigned
set_option maxRecDepth 20000 in
theorem ggX7_choose_X0_drop : GoodIn wsX7_choose wsX0_drop := goodIn_ca (goodIn_r _ [18, 19, 20, 21, 22, 23, 24, 25, 26, 27, 28, 29, 42, 43, 44, 45] (by decide +kernel) (by decide +kernel)) (goodIn_sub (fun _ h => List.mem_cons_of_mem _ (List.mem_append_right _ h)) (by decide +kernel))
set_option maxRecDepth 20000 in
theorem gX7_choose_X0_drop : GoodIn wsX7_choose (wsV RX7 98 RX0 yX0_drop wsX0_drop) := goodIn_app (goodIn_of _ (by decide +kernel)) ggX7_choose_X0_drop
set_option maxRecDepth 20000 in
theorem ggX7_choose_X0_tell : GoodIn wsX7_choose wsX0_tell := goodIn_ca (goodIn_r _ [33, 20, 19, 21, 22, 34, 15, 16, 17, 18, 23, 24, 25, 26, 27, 28, 29, 42, 43, 44, 45] (by decide +kernel) (by decide +kernel)) (goodIn_sub (fun _ h => List.mem_cons_of_mem _ (List.mem_append_right _ h)) (by decide +kernel))
set_option maxRecDepth 20000 in
theorem gX7_choose_X0_tell : GoodIn wsX7_choose (wsV RX7 102 RX0 yX0_tell wsX0_tell) := goodIn_app (goodIn_of _ (by decide +kernel)) ggX7_choose_X0_tell
theorem dX7_choose_0 : decode cX7_choose 0 = .ok (.aload_n 0, 1) := by decide +kernel
theorem dX7_choose_1 : decode cX7_choose 1 = .ok (.getfield 20, 3) := by decide +kernel
theorem dX7_choose_4 : decode cX7_choose 4 = .ok (.iload_n 1, 1) := by decide +kernel
theorem dX7_choose_5 : decode cX7_choose 5 = .ok (.invokevirtual 76, 3) := by decide +kernel
theorem dX7_choose_8 : decode cX7_choose 8 = .ok (.ifCond .ne 5, 3) := by decide +kernel
theorem dX7_choose_11 : decode cX7_choose 11 = .ok (.iconst (-1), 1) := by decide +kernel
theorem dX7_choose_12 : decode cX7_choose 12 = .ok (.ireturn, 1) := by decide +kernel
theorem dX7_choose_13 : decode cX7_choose 13 = .ok (.iload_n 1, 1) := by decide +kernel
theorem dX7_choose_14 : decode cX7_choose 14 = .ok (.ifCond .ge 15, 3) := by decide +kernel
theorem dX7_choose_17 : decode cX7_choose 17 = .ok (.aload_n 0, 1) := by decide +kernel
theorem dX7_choose_18 : decode cX7_choose 18 = .ok (.getfield 34, 3) := by decide +kernel
theorem dX7_choose_21 : decode cX7_choose 21 = .ok (.iload_n 1, 1) := by decide +kernel
theorem dX7_choose_22 : decode cX7_choose 22 = .ok (.ineg, 1) := by decide +kernel
theorem dX7_choose_23 : decode cX7_choose 23 = .ok (.invokevirtual 98, 3) := by decide +kernel
theorem dX7_choose_26 : decode cX7_choose 26 = .ok (.goto 12, 3) := by decide +kernel
theorem dX7_choose_29 : decode cX7_choose 29 = .ok (.aload_n 0, 1) := by decide +kernel
theorem dX7_choose_30 : decode cX7_choose 30 = .ok (.getfield 34, 3) := by decide +kernel
theorem dX7_choose_33 : decode cX7_choose 33 = .ok (.iload_n 1, 1) := by decide +kernel
theorem dX7_choose_34 : decode cX7_choose 34 = .ok (.iload_n 2, 1) := by decide +kernel
theorem dX7_choose_35 : decode cX7_choose 35 = .ok (.invokevirtual 102, 3) := by decide +kernel
theorem dX7_choose_38 : decode cX7_choose 38 = .ok (.aload_n 0, 1) := by decide +kernel
theorem dX7_choose_39 : decode cX7_choose 39 = .ok (.getfield 34, 3) := by decide +kernel
theorem dX7_choose_42 : decode cX7_choose 42 = .ok (.getfield 106, 3) := by decide +kernel
theorem dX7_choose_45 : decode cX7_choose 45 = .ok (.ireturn, 1) := by decide +kernel
set_option maxRecDepth 20000 in
theorem ggX7_solve_X6_first : GoodIn wsX7_solve wsX6_first := goodIn_ca (goodIn_r _ [11, 12, 13, 14, 15, 16, 10, 17, 18, 19, 20, 21, 22, 23, 24, 25, 26, 27, 28, 29, 30, 31, 32, 33, 34, 35, 36, 37, 38, 39, 40, 41, 42, 43, 44, 45, 46, 47, 48, 49, 50, 51, 52, 53, 54, 55, 56, 57, 58, 59, 60, 61, 62, 63, 64, 65, 66, 67, 68, 69, 70, 71, 72, 73, 74, 75, 76, 77, 78, 79, 80, 81, 82, 83, 84, 85, 86, 87, 88, 135, 136, 137, 138, 139, 140, 141, 142, 143, 144, 145, 146, 147, 148, 149, 150, 151, 152, 153, 154, 155, 156] (by decide +kernel) (by decide +kernel)) (goodIn_sub (fun _ h => List.mem_cons_of_mem _ (List.mem_append_right _ h)) (by decide +kernel))
set_option maxRecDepth 20000 in
theorem gX7_solve_X6_first : GoodIn wsX7_solve (wsV RX7 113 RX6 yX6_first wsX6_first) := goodIn_app (goodIn_of _ (by decide +kernel)) ggX7_solve_X6_first
set_option maxRecDepth 20000 in
theorem ggX7_solve_X3_clear : GoodIn wsX7_solve wsX3_clear := goodIn_r _ [93, 94, 157, 158] (by decide +kernel) (by decide +kernel)
set_option maxRecDepth 20000 in
theorem gX7_solve_X3_clear : GoodIn wsX7_solve (wsV RX7 116 RX3 yX3_clear wsX3_clear) := goodIn_app (goodIn_of _ (by decide +kernel)) ggX7_solve_X3_clear
set_option maxRecDepth 20000 in
theorem ggX7_solve_X2_keepNone : GoodIn wsX7_solve wsX2_keepNone := goodIn_r _ [99, 100, 159, 160, 161] (by decide +kernel) (by decide +kernel)
set_option maxRecDepth 20000 in
theorem gX7_solve_X2_keepNone : GoodIn wsX7_solve (wsV RX7 119 RX2 yX2_keepNone wsX2_keepNone) := goodIn_app (goodIn_of _ (by decide +kernel)) ggX7_solve_X2_keepNone
set_option maxRecDepth 20000 in
theorem ggX7_solve_X7_explain : GoodIn wsX7_solve wsX7_explain := goodIn_ca (goodIn_r _ [104, 2, 3, 4, 105, 1, 5, 106, 107, 108, 109, 110, 111, 28, 22, 29, 112, 41, 42, 7, 8, 9, 10, 11, 12, 13, 14, 15, 16, 17, 18, 19, 20, 21, 23, 24, 25, 26, 27, 30, 31, 32, 33, 34, 35, 36, 37, 38, 39, 40, 43, 44, 45, 46, 47, 48, 49, 50, 51, 52, 53, 54, 55, 56, 57, 58, 59, 60, 61, 62, 63, 64, 65, 66, 67, 68, 69, 70, 71, 72, 73, 74, 75, 76, 77, 78, 79, 80, 81, 82, 83, 84, 85, 86, 87, 88, 113, 114, 115, 92, 116, 117, 94, 124, 125, 126, 127, 128, 129, 130, 131, 132, 133, 134, 135, 136, 137, 138, 139, 140, 141, 142, 143, 144, 145, 146, 147, 148, 149, 150, 151, 152, 153, 154, 155, 156, 157, 158] (by decide +kernel) (by decide +kernel)) (goodIn_sub (fun _ h => List.mem_cons_of_mem _ (List.mem_append_right _ h)) (by decide +kernel))
set_option maxRecDepth 20000 in
theorem gX7_solve_X7_explain : GoodIn wsX7_solve (wsV RX7 122 RX7 yX7_explain wsX7_explain) := goodIn_app (goodIn_of _ (by decide +kernel)) ggX7_solve_X7_explain
set_option maxRecDepth 20000 in
theorem ggX7_solve_X2_keep : GoodIn wsX7_solve wsX2_keep := goodIn_ca (goodIn_r _ [121, 100, 122, 123, 21, 22, 23, 159, 160, 161] (by decide +kernel) (by decide +kernel)) (goodIn_sub (fun _ h => List.mem_cons_of_mem _ (List.mem_append_right _ h)) (by decide +kernel))
set_option maxRecDepth 20000 in
theorem gX7_solve_X2_keep : GoodIn wsX7_solve (wsV RX7 125 RX2 yX2_keep wsX2_keep) := goodIn_app (goodIn_of _ (by decide +kernel)) ggX7_solve_X2_keep
theorem dX7_solve_0 : decode cX7_solve 0 = .ok (.aload_n 0, 1) := by decide +kernel
theorem dX7_solve_1 : decode cX7_solve 1 = .ok (.getfield 10, 3) := by decide +kernel
theorem dX7_solve_4 : decode cX7_solve 4 = .ok (.aload_n 0, 1) := by decide +kernel
theorem dX7_solve_5 : decode cX7_solve 5 = .ok (.getfield 34, 3) := by decide +kernel
theorem dX7_solve_8 : decode cX7_solve 8 = .ok (.getfield 107, 3) := by decide +kernel
theorem dX7_solve_11 : decode cX7_solve 11 = .ok (.aload_n 0, 1) := by decide +kernel
theorem dX7_solve_12 : decode cX7_solve 12 = .ok (.getfield 34, 3) := by decide +kernel
theorem dX7_solve_15 : decode cX7_solve 15 = .ok (.getfield 110, 3) := by decide +kernel
theorem dX7_solve_18 : decode cX7_solve 18 = .ok (.invokevirtual 113, 3) := by decide +kernel
theorem dX7_solve_21 : decode cX7_solve 21 = .ok (.istore_n 1, 1) := by decide +kernel
theorem dX7_solve_22 : decode cX7_solve 22 = .ok (.aload_n 0, 1) := by decide +kernel
theorem dX7_solve_23 : decode cX7_solve 23 = .ok (.getfield 48, 3) := by decide +kernel
theorem dX7_solve_26 : decode cX7_solve 26 = .ok (.invokevirtual 116, 3) := by decide +kernel
theorem dX7_solve_29 : decode cX7_solve 29 = .ok (.iload_n 1, 1) := by decide +kernel
theorem dX7_solve_30 : decode cX7_solve 30 = .ok (.iconst (-1), 1) := by decide +kernel
theorem dX7_solve_31 : decode cX7_solve 31 = .ok (.if_icmp .ne 16, 3) := by decide +kernel
theorem dX7_solve_34 : decode cX7_solve 34 = .ok (.aload_n 0, 1) := by decide +kernel
theorem dX7_solve_35 : decode cX7_solve 35 = .ok (.getfield 41, 3) := by decide +kernel
theorem dX7_solve_38 : decode cX7_solve 38 = .ok (.invokevirtual 119, 3) := by decide +kernel
theorem dX7_solve_41 : decode cX7_solve 41 = .ok (.aload_n 0, 1) := by decide +kernel
theorem dX7_solve_42 : decode cX7_solve 42 = .ok (.invokevirtual 122, 3) := by decide +kernel
theorem dX7_solve_45 : decode cX7_solve 45 = .ok (.iconst 0, 1) := by decide +kernel
theorem dX7_solve_46 : decode cX7_solve 46 = .ok (.ireturn, 1) := by decide +kernel
theorem dX7_solve_47 : decode cX7_solve 47 = .ok (.aload_n 0, 1) := by decide +kernel
theorem dX7_solve_48 : decode cX7_solve 48 = .ok (.getfield 41, 3) := by decide +kernel
theorem dX7_solve_51 : decode cX7_solve 51 = .ok (.iload_n 1, 1) := by decide +kernel
theorem dX7_solve_52 : decode cX7_solve 52 = .ok (.invokevirtual 125, 3) := by decide +kernel
theorem dX7_solve_55 : decode cX7_solve 55 = .ok (.iconst 1, 1) := by decide +kernel
theorem dX7_solve_56 : decode cX7_solve 56 = .ok (.ireturn, 1) := by decide +kernel
set_option maxRecDepth 20000 in
theorem ggX7_chosen_X7_bit : GoodIn wsX7_chosen wsX7_bit := goodIn_r _ [6] (by decide +kernel) (by decide +kernel)
set_option maxRecDepth 20000 in
theorem gX7_chosen_X7_bit : GoodIn wsX7_chosen (va_wsS RX7 131 yX7_bit wsX7_bit) := goodIn_app (goodIn_of _ (by decide +kernel)) ggX7_chosen_X7_bit
theorem dX7_chosen_0 : decode cX7_chosen 0 = .ok (.aload_n 0, 1) := by decide +kernel
theorem dX7_chosen_1 : decode cX7_chosen 1 = .ok (.getfield 41, 3) := by decide +kernel
theorem dX7_chosen_4 : decode cX7_chosen 4 = .ok (.getfield 128, 3) := by decide +kernel
theorem dX7_chosen_7 : decode cX7_chosen 7 = .ok (.iload_n 1, 1) := by decide +kernel
theorem dX7_chosen_8 : decode cX7_chosen 8 = .ok (.invokestatic 131, 3) := by decide +kernel
theorem dX7_chosen_11 : decode cX7_chosen 11 = .ok (.iand, 1) := by decide +kernel
theorem dX7_chosen_12 : decode cX7_chosen 12 = .ok (.ifCond .eq 7, 3) := by decide +kernel
theorem dX7_chosen_15 : decode cX7_chosen 15 = .ok (.iconst 1, 1) := by decide +kernel
theorem dX7_chosen_16 : decode cX7_chosen 16 = .ok (.goto 4, 3) := by decide +kernel
theorem dX7_chosen_19 : decode cX7_chosen 19 = .ok (.iconst 0, 1) := by decide +kernel
theorem dX7_chosen_20 : decode cX7_chosen 20 = .ok (.ireturn, 1) := by decide +kernel
set_option maxRecDepth 20000 in
theorem ggX7_why_X3_get : GoodIn wsX7_why wsX3_get := goodIn_ca (goodIn_r _ [6, 7, 8, 9, 10, 11, 19, 20] (by decide +kernel) (by decide +kernel)) (goodIn_sub (fun _ h => List.mem_cons_of_mem _ (List.mem_append_right _ h)) (by decide +kernel))
set_option maxRecDepth 20000 in
theorem gX7_why_X3_get : GoodIn wsX7_why (wsV RX7 135 RX3 yX3_get wsX3_get) := goodIn_app (goodIn_of _ (by decide +kernel)) ggX7_why_X3_get
theorem dX7_why_0 : decode cX7_why 0 = .ok (.aload_n 0, 1) := by decide +kernel
theorem dX7_why_1 : decode cX7_why 1 = .ok (.getfield 48, 3) := by decide +kernel
theorem dX7_why_4 : decode cX7_why 4 = .ok (.iload_n 1, 1) := by decide +kernel
theorem dX7_why_5 : decode cX7_why 5 = .ok (.invokevirtual 135, 3) := by decide +kernel
theorem dX7_why_8 : decode cX7_why 8 = .ok (.ireturn, 1) := by decide +kernel
set_option maxRecDepth 20000 in
theorem ggX7_count_X6_number : GoodIn wsX7_count wsX6_number := goodIn_ca (goodIn_r _ [13, 14, 15, 16, 17, 18, 12, 19, 20, 21, 22, 23, 24, 25, 26, 27, 28, 29, 30, 31, 32, 33, 34, 35, 36, 37, 38, 39, 40, 41, 42, 43, 44, 45, 46, 47, 48, 49, 50, 51, 52, 53, 54, 55, 56, 57, 58, 59, 60, 61, 62, 63, 64, 65, 66, 67, 68, 69, 70, 71, 72, 73, 74, 75, 76, 77, 78, 79, 80, 81, 82, 83, 84, 85, 86, 87, 88, 89, 90, 110, 111, 112, 113, 114, 115, 98, 99, 100, 101, 102, 103, 104, 105, 116, 117, 118, 119, 120, 121, 122, 123] (by decide +kernel) (by decide +kernel)) (goodIn_sub (fun _ h => List.mem_cons_of_mem _ (List.mem_append_right _ h)) (by decide +kernel))
set_option maxRecDepth 20000 in
theorem gX7_count_X6_number : GoodIn wsX7_count (wsV RX7 142 RX6 yX6_number wsX6_number) := goodIn_app (goodIn_of _ (by decide +kernel)) ggX7_count_X6_number
theorem dX7_count_0 : decode cX7_count 0 = .ok (.lload_n 1, 1) := by decide +kernel
theorem dX7_count_1 : decode cX7_count 1 = .ok (.lconst 0, 1) := by decide +kernel
theorem dX7_count_2 : decode cX7_count 2 = .ok (.lcmp, 1) := by decide +kernel
theorem dX7_count_3 : decode cX7_count 3 = .ok (.ifCond .ge 7, 3) := by decide +kernel
theorem dX7_count_6 : decode cX7_count 6 = .ok (.ldc2_w 138, 3) := by decide +kernel
theorem dX7_count_9 : decode cX7_count 9 = .ok (.lreturn, 1) := by decide +kernel
theorem dX7_count_10 : decode cX7_count 10 = .ok (.lconst 1, 1) := by decide +kernel
theorem dX7_count_11 : decode cX7_count 11 = .ok (.aload_n 0, 1) := by decide +kernel
theorem dX7_count_12 : decode cX7_count 12 = .ok (.getfield 20, 3) := by decide +kernel
theorem dX7_count_15 : decode cX7_count 15 = .ok (.getfield 58, 3) := by decide +kernel
theorem dX7_count_18 : decode cX7_count 18 = .ok (.lshl, 1) := by decide +kernel
theorem dX7_count_19 : decode cX7_count 19 = .ok (.lload_n 1, 1) := by decide +kernel
theorem dX7_count_20 : decode cX7_count 20 = .ok (.lcmp, 1) := by decide +kernel
theorem dX7_count_21 : decode cX7_count 21 = .ok (.ifCond .le 7, 3) := by decide +kernel
theorem dX7_count_24 : decode cX7_count 24 = .ok (.ldc2_w 140, 3) := by decide +kernel
theorem dX7_count_27 : decode cX7_count 27 = .ok (.lreturn, 1) := by decide +kernel
theorem dX7_count_28 : decode cX7_count 28 = .ok (.aload_n 0, 1) := by decide +kernel
theorem dX7_count_29 : decode cX7_count 29 = .ok (.getfield 10, 3) := by decide +kernel
theorem dX7_count_32 : decode cX7_count 32 = .ok (.aload_n 0, 1) := by decide +kernel
theorem dX7_count_33 : decode cX7_count 33 = .ok (.getfield 34, 3) := by decide +kernel
theorem dX7_count_36 : decode cX7_count 36 = .ok (.getfield 107, 3) := by decide +kernel
theorem dX7_count_39 : decode cX7_count 39 = .ok (.aload_n 0, 1) := by decide +kernel
theorem dX7_count_40 : decode cX7_count 40 = .ok (.getfield 34, 3) := by decide +kernel
theorem dX7_count_43 : decode cX7_count 43 = .ok (.getfield 110, 3) := by decide +kernel
theorem dX7_count_46 : decode cX7_count 46 = .ok (.invokevirtual 142, 3) := by decide +kernel
theorem dX7_count_49 : decode cX7_count 49 = .ok (.i2l, 1) := by decide +kernel
theorem dX7_count_50 : decode cX7_count 50 = .ok (.lreturn, 1) := by decide +kernel
set_option maxRecDepth 20000 in
theorem ggX7_forces_X5_has : GoodIn wsX7_forces wsX5_has := goodIn_r _ [10, 11, 117, 118, 119, 120, 121, 122, 123, 124] (by decide +kernel) (by decide +kernel)
set_option maxRecDepth 20000 in
theorem gX7_forces_X5_has : GoodIn wsX7_forces (wsV RX7 69 RX5 yX5_has wsX5_has) := goodIn_app (goodIn_of _ (by decide +kernel)) ggX7_forces_X5_has
set_option maxRecDepth 20000 in
theorem ggX7_forces_X7_bit : GoodIn wsX7_forces wsX7_bit := goodIn_r _ [15] (by decide +kernel) (by decide +kernel)
set_option maxRecDepth 20000 in
theorem gX7_forces_X7_bit : GoodIn wsX7_forces (va_wsS RX7 131 yX7_bit wsX7_bit) := goodIn_app (goodIn_of _ (by decide +kernel)) ggX7_forces_X7_bit
set_option maxRecDepth 20000 in
theorem ggX7_forces_X6_first : GoodIn wsX7_forces wsX6_first := goodIn_ca (goodIn_r _ [20, 21, 22, 23, 24, 25, 19, 26, 27, 28, 29, 30, 14, 31, 32, 33, 34, 35, 36, 37, 38, 39, 40, 9, 41, 42, 43, 44, 45, 46, 47, 13, 15, 48, 49, 50, 51, 52, 53, 54, 55, 56, 57, 11, 58, 59, 60, 61, 62, 63, 64, 65, 66, 67, 68, 69, 70, 71, 72, 73, 74, 75, 76, 77, 78, 79, 80, 81, 82, 83, 84, 85, 86, 87, 88, 89, 90, 91, 92, 125, 126, 127, 128, 129, 130, 117, 118, 119, 120, 121, 122, 123, 124, 131, 132, 133, 134, 135, 136, 137, 138] (by decide +kernel) (by decide +kernel)) (goodIn_sub (fun _ h => List.mem_cons_of_mem _ (List.mem_append_right _ h)) (by decide +kernel))
set_option maxRecDepth 20000 in
theorem gX7_forces_X6_first : GoodIn wsX7_forces (wsV RX7 113 RX6 yX6_first wsX6_first) := goodIn_app (goodIn_of _ (by decide +kernel)) ggX7_forces_X6_first
set_option maxRecDepth 20000 in
theorem ggX7_forces_X6_inAll : GoodIn wsX7_forces wsX6_inAll := goodIn_ca (goodIn_r _ [96, 21, 22, 23, 24, 25, 19, 26, 27, 28, 29, 30, 14, 31, 32, 33, 34, 35, 36, 37, 38, 39, 40, 9, 41, 42, 43, 44, 45, 46, 47, 13, 15, 48, 49, 50, 51, 52, 53, 54, 55, 56, 57, 11, 58, 59, 60, 61, 62, 63, 64, 65, 66, 67, 68, 69, 70, 71, 72, 73, 74, 75, 76, 77, 78, 79, 80, 81, 82, 83, 84, 85, 86, 87, 88, 89, 90, 91, 92, 125, 126, 127, 128, 129, 130, 117, 118, 119, 120, 121, 122, 123, 124, 131, 132, 133, 134, 135, 136, 137, 138] (by decide +kernel) (by decide +kernel)) (goodIn_sub (fun _ h => List.mem_cons_of_mem _ (List.mem_append_right _ h)) (by decide +kernel))
set_option maxRecDepth 20000 in
theorem gX7_forces_X6_inAll : GoodIn wsX7_forces (wsV RX7 145 RX6 yX6_inAll wsX6_inAll) := goodIn_app (goodIn_of _ (by decide +kernel)) ggX7_forces_X6_inAll
set_option maxRecDepth 20000 in
theorem ggX7_forces_X6_inSome : GoodIn wsX7_forces wsX6_inSome := goodIn_ca (goodIn_r _ [100, 21, 22, 23, 24, 25, 19, 26, 27, 28, 29, 30, 14, 31, 32, 33, 34, 35, 36, 37, 38, 39, 40, 9, 41, 42, 43, 44, 45, 46, 47, 13, 15, 48, 49, 50, 51, 52, 53, 54, 55, 56, 57, 11, 58, 59, 60, 61, 62, 63, 64, 65, 66, 67, 68, 69, 70, 71, 72, 73, 74, 75, 76, 77, 78, 79, 80, 81, 82, 83, 84, 85, 86, 87, 88, 89, 90, 91, 92, 125, 126, 127, 128, 129, 130, 117, 118, 119, 120, 121, 122, 123, 124, 131, 132, 133, 134, 135, 136, 137, 138] (by decide +kernel) (by decide +kernel)) (goodIn_sub (fun _ h => List.mem_cons_of_mem _ (List.mem_append_right _ h)) (by decide +kernel))
set_option maxRecDepth 20000 in
theorem gX7_forces_X6_inSome : GoodIn wsX7_forces (wsV RX7 148 RX6 yX6_inSome wsX6_inSome) := goodIn_app (goodIn_of _ (by decide +kernel)) ggX7_forces_X6_inSome
set_option maxRecDepth 20000 in
theorem ggX7_forces_X7_forced : GoodIn wsX7_forces wsX7_forced := goodIn_r _ [104, 1, 105, 12, 13, 14, 15, 106, 107, 108, 109, 110, 111, 112, 117, 118, 119, 120, 121, 122, 123, 124] (by decide +kernel) (by decide +kernel)
set_option maxRecDepth 20000 in
theorem gX7_forces_X7_forced : GoodIn wsX7_forces (wsV RX7 151 RX7 yX7_forced wsX7_forced) := goodIn_app (goodIn_of _ (by decide +kernel)) ggX7_forces_X7_forced
theorem dX7_forces_0 : decode cX7_forces 0 = .ok (.aload_n 0, 1) := by decide +kernel
theorem dX7_forces_1 : decode cX7_forces 1 = .ok (.getfield 20, 3) := by decide +kernel
theorem dX7_forces_4 : decode cX7_forces 4 = .ok (.iload_n 1, 1) := by decide +kernel
theorem dX7_forces_5 : decode cX7_forces 5 = .ok (.invokevirtual 69, 3) := by decide +kernel
theorem dX7_forces_8 : decode cX7_forces 8 = .ok (.ifCond .ne 5, 3) := by decide +kernel
theorem dX7_forces_11 : decode cX7_forces 11 = .ok (.iconst (-1), 1) := by decide +kernel
theorem dX7_forces_12 : decode cX7_forces 12 = .ok (.ireturn, 1) := by decide +kernel
theorem dX7_forces_13 : decode cX7_forces 13 = .ok (.aload_n 0, 1) := by decide +kernel
theorem dX7_forces_14 : decode cX7_forces 14 = .ok (.getfield 34, 3) := by decide +kernel
theorem dX7_forces_17 : decode cX7_forces 17 = .ok (.getfield 107, 3) := by decide +kernel
theorem dX7_forces_20 : decode cX7_forces 20 = .ok (.iload_n 1, 1) := by decide +kernel
theorem dX7_forces_21 : decode cX7_forces 21 = .ok (.invokestatic 131, 3) := by decide +kernel
theorem dX7_forces_24 : decode cX7_forces 24 = .ok (.ior, 1) := by decide +kernel
theorem dX7_forces_25 : decode cX7_forces 25 = .ok (.istore_n 3, 1) := by decide +kernel
theorem dX7_forces_26 : decode cX7_forces 26 = .ok (.aload_n 0, 1) := by decide +kernel
theorem dX7_forces_27 : decode cX7_forces 27 = .ok (.getfield 10, 3) := by decide +kernel
theorem dX7_forces_30 : decode cX7_forces 30 = .ok (.iload_n 3, 1) := by decide +kernel
theorem dX7_forces_31 : decode cX7_forces 31 = .ok (.aload_n 0, 1) := by decide +kernel
theorem dX7_forces_32 : decode cX7_forces 32 = .ok (.getfield 34, 3) := by decide +kernel
theorem dX7_forces_35 : decode cX7_forces 35 = .ok (.getfield 110, 3) := by decide +kernel
theorem dX7_forces_38 : decode cX7_forces 38 = .ok (.invokevirtual 113, 3) := by decide +kernel
theorem dX7_forces_41 : decode cX7_forces 41 = .ok (.iconst (-1), 1) := by decide +kernel
theorem dX7_forces_42 : decode cX7_forces 42 = .ok (.if_icmp .ne 5, 3) := by decide +kernel
theorem dX7_forces_45 : decode cX7_forces 45 = .ok (.iconst 0, 1) := by decide +kernel
theorem dX7_forces_46 : decode cX7_forces 46 = .ok (.ireturn, 1) := by decide +kernel
theorem dX7_forces_47 : decode cX7_forces 47 = .ok (.aload_n 0, 1) := by decide +kernel
theorem dX7_forces_48 : decode cX7_forces 48 = .ok (.getfield 10, 3) := by decide +kernel
theorem dX7_forces_51 : decode cX7_forces 51 = .ok (.iload_n 3, 1) := by decide +kernel
theorem dX7_forces_52 : decode cX7_forces 52 = .ok (.aload_n 0, 1) := by decide +kernel
theorem dX7_forces_53 : decode cX7_forces 53 = .ok (.getfield 34, 3) := by decide +kernel
theorem dX7_forces_56 : decode cX7_forces 56 = .ok (.getfield 110, 3) := by decide +kernel
theorem dX7_forces_59 : decode cX7_forces 59 = .ok (.invokevirtual 145, 3) := by decide +kernel
theorem dX7_forces_62 : decode cX7_forces 62 = .ok (.istore 4, 2) := by decide +kernel
theorem dX7_forces_64 : decode cX7_forces 64 = .ok (.aload_n 0, 1) := by decide +kernel
theorem dX7_forces_65 : decode cX7_forces 65 = .ok (.getfield 10, 3) := by decide +kernel
theorem dX7_forces_68 : decode cX7_forces 68 = .ok (.iload_n 3, 1) := by decide +kernel
theorem dX7_forces_69 : decode cX7_forces 69 = .ok (.aload_n 0, 1) := by decide +kernel
theorem dX7_forces_70 : decode cX7_forces 70 = .ok (.getfield 34, 3) := by decide +kernel
theorem dX7_forces_73 : decode cX7_forces 73 = .ok (.getfield 110, 3) := by decide +kernel
theorem dX7_forces_76 : decode cX7_forces 76 = .ok (.invokevirtual 148, 3) := by decide +kernel
theorem dX7_forces_79 : decode cX7_forces 79 = .ok (.istore 5, 2) := by decide +kernel
theorem dX7_forces_81 : decode cX7_forces 81 = .ok (.aload_n 0, 1) := by decide +kernel
theorem dX7_forces_82 : decode cX7_forces 82 = .ok (.iload 4, 2) := by decide +kernel
theorem dX7_forces_84 : decode cX7_forces 84 = .ok (.iload 5, 2) := by decide +kernel
theorem dX7_forces_86 : decode cX7_forces 86 = .ok (.iload_n 1, 1) := by decide +kernel
theorem dX7_forces_87 : decode cX7_forces 87 = .ok (.iload_n 2, 1) := by decide +kernel
theorem dX7_forces_88 : decode cX7_forces 88 = .ok (.invokevirtual 151, 3) := by decide +kernel
theorem dX7_forces_91 : decode cX7_forces 91 = .ok (.ireturn, 1) := by decide +kernel
set_option maxRecDepth 20000 in
theorem ggX7_differ_X2_has : GoodIn wsX7_differ wsX2_has := goodIn_r _ [6, 7, 30, 31, 32] (by decide +kernel) (by decide +kernel)
set_option maxRecDepth 20000 in
theorem gX7_differ_X2_has : GoodIn wsX7_differ (wsV RX7 155 RX2 yX2_has wsX2_has) := goodIn_app (goodIn_of _ (by decide +kernel)) ggX7_differ_X2_has
set_option maxRecDepth 20000 in
theorem ggX7_differ_X2_get : GoodIn wsX7_differ wsX2_get := goodIn_ca (goodIn_r _ [11, 12, 13, 14, 15, 30, 31, 32] (by decide +kernel) (by decide +kernel)) (goodIn_sub (fun _ h => List.mem_cons_of_mem _ (List.mem_append_right _ h)) (by decide +kernel))
set_option maxRecDepth 20000 in
theorem gX7_differ_X2_get : GoodIn wsX7_differ (wsV RX7 156 RX2 yX2_get wsX2_get) := goodIn_app (goodIn_of _ (by decide +kernel)) ggX7_differ_X2_get
set_option maxRecDepth 20000 in
theorem ggX7_differ_J6_bitCount_0f7a4 : GoodIn wsX7_differ wsJ6_bitCount_0f7a4 := goodIn_r _ [19, 20, 21, 22] (by decide +kernel) (by decide +kernel)
set_option maxRecDepth 20000 in
theorem gX7_differ_J6_bitCount_0f7a4 : GoodIn wsX7_differ (va_wsS RX7 157 yJ6_bitCount_0f7a4 wsJ6_bitCount_0f7a4) := goodIn_app (goodIn_of _ (by decide +kernel)) ggX7_differ_J6_bitCount_0f7a4
theorem dX7_differ_0 : decode cX7_differ 0 = .ok (.aload_n 0, 1) := by decide +kernel
theorem dX7_differ_1 : decode cX7_differ 1 = .ok (.getfield 41, 3) := by decide +kernel
theorem dX7_differ_4 : decode cX7_differ 4 = .ok (.iload_n 1, 1) := by decide +kernel
theorem dX7_differ_5 : decode cX7_differ 5 = .ok (.invokevirtual 155, 3) := by decide +kernel
theorem dX7_differ_8 : decode cX7_differ 8 = .ok (.ifCond .eq 14, 3) := by decide +kernel
theorem dX7_differ_11 : decode cX7_differ 11 = .ok (.aload_n 0, 1) := by decide +kernel
theorem dX7_differ_12 : decode cX7_differ 12 = .ok (.getfield 41, 3) := by decide +kernel
theorem dX7_differ_15 : decode cX7_differ 15 = .ok (.iload_n 2, 1) := by decide +kernel
theorem dX7_differ_16 : decode cX7_differ 16 = .ok (.invokevirtual 155, 3) := by decide +kernel
theorem dX7_differ_19 : decode cX7_differ 19 = .ok (.ifCond .ne 5, 3) := by decide +kernel
theorem dX7_differ_22 : decode cX7_differ 22 = .ok (.iconst (-1), 1) := by decide +kernel
theorem dX7_differ_23 : decode cX7_differ 23 = .ok (.ireturn, 1) := by decide +kernel
theorem dX7_differ_24 : decode cX7_differ 24 = .ok (.aload_n 0, 1) := by decide +kernel
theorem dX7_differ_25 : decode cX7_differ 25 = .ok (.getfield 41, 3) := by decide +kernel
theorem dX7_differ_28 : decode cX7_differ 28 = .ok (.iload_n 1, 1) := by decide +kernel
theorem dX7_differ_29 : decode cX7_differ 29 = .ok (.invokevirtual 156, 3) := by decide +kernel
theorem dX7_differ_32 : decode cX7_differ 32 = .ok (.aload_n 0, 1) := by decide +kernel
theorem dX7_differ_33 : decode cX7_differ 33 = .ok (.getfield 41, 3) := by decide +kernel
theorem dX7_differ_36 : decode cX7_differ 36 = .ok (.iload_n 2, 1) := by decide +kernel
theorem dX7_differ_37 : decode cX7_differ 37 = .ok (.invokevirtual 156, 3) := by decide +kernel
theorem dX7_differ_40 : decode cX7_differ 40 = .ok (.ixor, 1) := by decide +kernel
theorem dX7_differ_41 : decode cX7_differ 41 = .ok (.invokestatic 157, 3) := by decide +kernel
theorem dX7_differ_44 : decode cX7_differ 44 = .ok (.ireturn, 1) := by decide +kernel
set_option maxRecDepth 20000 in
theorem ggX7_level_X5_above : GoodIn wsX7_level wsX5_above := goodIn_ca (goodIn_r _ [10, 11, 12, 13, 14, 22, 23, 24, 25, 26, 27, 28, 29] (by decide +kernel) (by decide +kernel)) (goodIn_sub (fun _ h => List.mem_cons_of_mem _ (List.mem_append_right _ h)) (by decide +kernel))
set_option maxRecDepth 20000 in
theorem gX7_level_X5_above : GoodIn wsX7_level (wsV RX7 165 RX5 yX5_above wsX5_above) := goodIn_app (goodIn_of _ (by decide +kernel)) ggX7_level_X5_above
theorem dX7_level_0 : decode cX7_level 0 = .ok (.iload_n 1, 1) := by decide +kernel
theorem dX7_level_1 : decode cX7_level 1 = .ok (.ifCond .lt 14, 3) := by decide +kernel
theorem dX7_level_4 : decode cX7_level 4 = .ok (.iload_n 1, 1) := by decide +kernel
theorem dX7_level_5 : decode cX7_level 5 = .ok (.aload_n 0, 1) := by decide +kernel
theorem dX7_level_6 : decode cX7_level 6 = .ok (.getfield 20, 3) := by decide +kernel
theorem dX7_level_9 : decode cX7_level 9 = .ok (.getfield 58, 3) := by decide +kernel
theorem dX7_level_12 : decode cX7_level 12 = .ok (.if_icmp .lt 11, 3) := by decide +kernel
theorem dX7_level_15 : decode cX7_level 15 = .ok (.new 162, 3) := by decide +kernel
theorem dX7_level_18 : decode cX7_level 18 = .ok (.dup, 1) := by decide +kernel
theorem dX7_level_19 : decode cX7_level 19 = .ok (.invokespecial 164, 3) := by decide +kernel
theorem dX7_level_22 : decode cX7_level 22 = .ok (.athrow, 1) := by decide +kernel
theorem dX7_level_23 : decode cX7_level 23 = .ok (.aload_n 0, 1) := by decide +kernel
theorem dX7_level_24 : decode cX7_level 24 = .ok (.getfield 20, 3) := by decide +kernel
theorem dX7_level_27 : decode cX7_level 27 = .ok (.iload_n 1, 1) := by decide +kernel
theorem dX7_level_28 : decode cX7_level 28 = .ok (.iconst 1, 1) := by decide +kernel
theorem dX7_level_29 : decode cX7_level 29 = .ok (.iadd, 1) := by decide +kernel
theorem dX7_level_30 : decode cX7_level 30 = .ok (.invokevirtual 165, 3) := by decide +kernel
theorem dX7_level_33 : decode cX7_level 33 = .ok (.ireturn, 1) := by decide +kernel
set_option maxRecDepth 20000 in
theorem ggX7_forced_X7_bit : GoodIn wsX7_forced wsX7_bit := goodIn_r _ [6] (by decide +kernel) (by decide +kernel)
set_option maxRecDepth 20000 in
theorem gX7_forced_X7_bit : GoodIn wsX7_forced (va_wsS RX7 131 yX7_bit wsX7_bit) := goodIn_app (goodIn_of _ (by decide +kernel)) ggX7_forced_X7_bit
theorem dX7_forced_0 : decode cX7_forced 0 = .ok (.iconst 0, 1) := by decide +kernel
theorem dX7_forced_1 : decode cX7_forced 1 = .ok (.istore 5, 2) := by decide +kernel
theorem dX7_forced_3 : decode cX7_forced 3 = .ok (.iconst 1, 1) := by decide +kernel
theorem dX7_forced_4 : decode cX7_forced 4 = .ok (.istore 6, 2) := by decide +kernel
theorem dX7_forced_6 : decode cX7_forced 6 = .ok (.iload 6, 2) := by decide +kernel
theorem dX7_forced_8 : decode cX7_forced 8 = .ok (.aload_n 0, 1) := by decide +kernel
theorem dX7_forced_9 : decode cX7_forced 9 = .ok (.getfield 20, 3) := by decide +kernel
theorem dX7_forced_12 : decode cX7_forced 12 = .ok (.getfield 58, 3) := by decide +kernel
theorem dX7_forced_15 : decode cX7_forced 15 = .ok (.if_icmp .gt 83, 3) := by decide +kernel
theorem dX7_forced_18 : decode cX7_forced 18 = .ok (.iload_n 1, 1) := by decide +kernel
theorem dX7_forced_19 : decode cX7_forced 19 = .ok (.iload 6, 2) := by decide +kernel
theorem dX7_forced_21 : decode cX7_forced 21 = .ok (.invokestatic 131, 3) := by decide +kernel
theorem dX7_forced_24 : decode cX7_forced 24 = .ok (.iand, 1) := by decide +kernel
theorem dX7_forced_25 : decode cX7_forced 25 = .ok (.ifCond .eq 7, 3) := by decide +kernel
theorem dX7_forced_28 : decode cX7_forced 28 = .ok (.iconst 1, 1) := by decide +kernel
theorem dX7_forced_29 : decode cX7_forced 29 = .ok (.goto 4, 3) := by decide +kernel
theorem dX7_forced_32 : decode cX7_forced 32 = .ok (.iconst 0, 1) := by decide +kernel
theorem dX7_forced_33 : decode cX7_forced 33 = .ok (.istore 7, 2) := by decide +kernel
theorem dX7_forced_35 : decode cX7_forced 35 = .ok (.iload_n 2, 1) := by decide +kernel
theorem dX7_forced_36 : decode cX7_forced 36 = .ok (.iload 6, 2) := by decide +kernel
theorem dX7_forced_38 : decode cX7_forced 38 = .ok (.invokestatic 131, 3) := by decide +kernel
theorem dX7_forced_41 : decode cX7_forced 41 = .ok (.iand, 1) := by decide +kernel
theorem dX7_forced_42 : decode cX7_forced 42 = .ok (.ifCond .ne 7, 3) := by decide +kernel
theorem dX7_forced_45 : decode cX7_forced 45 = .ok (.iconst 1, 1) := by decide +kernel
theorem dX7_forced_46 : decode cX7_forced 46 = .ok (.goto 4, 3) := by decide +kernel
theorem dX7_forced_49 : decode cX7_forced 49 = .ok (.iconst 0, 1) := by decide +kernel
theorem dX7_forced_50 : decode cX7_forced 50 = .ok (.istore 8, 2) := by decide +kernel
theorem dX7_forced_52 : decode cX7_forced 52 = .ok (.iload 6, 2) := by decide +kernel
theorem dX7_forced_54 : decode cX7_forced 54 = .ok (.iload_n 3, 1) := by decide +kernel
theorem dX7_forced_55 : decode cX7_forced 55 = .ok (.if_icmp .eq 37, 3) := by decide +kernel
theorem dX7_forced_58 : decode cX7_forced 58 = .ok (.iload 7, 2) := by decide +kernel
theorem dX7_forced_60 : decode cX7_forced 60 = .ok (.ifCond .ne 8, 3) := by decide +kernel
theorem dX7_forced_63 : decode cX7_forced 63 = .ok (.iload 8, 2) := by decide +kernel
theorem dX7_forced_65 : decode cX7_forced 65 = .ok (.ifCond .eq 27, 3) := by decide +kernel
theorem dX7_forced_68 : decode cX7_forced 68 = .ok (.iload 5, 2) := by decide +kernel
theorem dX7_forced_70 : decode cX7_forced 70 = .ok (.iload 4, 2) := by decide +kernel
theorem dX7_forced_72 : decode cX7_forced 72 = .ok (.if_icmp .ne 17, 3) := by decide +kernel
theorem dX7_forced_75 : decode cX7_forced 75 = .ok (.iload 7, 2) := by decide +kernel
theorem dX7_forced_77 : decode cX7_forced 77 = .ok (.ifCond .eq 8, 3) := by decide +kernel
theorem dX7_forced_80 : decode cX7_forced 80 = .ok (.iload 6, 2) := by decide +kernel
theorem dX7_forced_82 : decode cX7_forced 82 = .ok (.goto 6, 3) := by decide +kernel
theorem dX7_forced_85 : decode cX7_forced 85 = .ok (.iload 6, 2) := by decide +kernel
theorem dX7_forced_87 : decode cX7_forced 87 = .ok (.ineg, 1) := by decide +kernel
theorem dX7_forced_88 : decode cX7_forced 88 = .ok (.ireturn, 1) := by decide +kernel
theorem dX7_forced_89 : decode cX7_forced 89 = .ok (.iinc 5 1, 3) := by decide +kernel
theorem dX7_forced_92 : decode cX7_forced 92 = .ok (.iinc 6 1, 3) := by decide +kernel
theorem dX7_forced_95 : decode cX7_forced 95 = .ok (.goto (-89), 3) := by decide +kernel
theorem dX7_forced_98 : decode cX7_forced 98 = .ok (.iconst 0, 1) := by decide +kernel
theorem dX7_forced_99 : decode cX7_forced 99 = .ok (.ireturn, 1) := by decide +kernel
set_option maxRecDepth 20000 in
theorem ggX7_explain_X0_get : GoodIn wsX7_explain wsX0_get := goodIn_ca (goodIn_r _ [11, 12, 13, 14, 15, 110, 111, 112, 113] (by decide +kernel) (by decide +kernel)) (goodIn_sub (fun _ h => List.mem_cons_of_mem _ (List.mem_append_right _ h)) (by decide +kernel))
set_option maxRecDepth 20000 in
theorem gX7_explain_X0_get : GoodIn wsX7_explain (wsV RX7 168 RX0 yX0_get wsX0_get) := goodIn_app (goodIn_of _ (by decide +kernel)) ggX7_explain_X0_get
set_option maxRecDepth 20000 in
theorem ggX7_explain_X7_bit : GoodIn wsX7_explain wsX7_bit := goodIn_r _ [18] (by decide +kernel) (by decide +kernel)
set_option maxRecDepth 20000 in
theorem gX7_explain_X7_bit : GoodIn wsX7_explain (va_wsS RX7 131 yX7_bit wsX7_bit) := goodIn_app (goodIn_of _ (by decide +kernel)) ggX7_explain_X7_bit
set_option maxRecDepth 20000 in
theorem ggX7_explain_X6_first : GoodIn wsX7_explain wsX6_first := goodIn_ca (goodIn_r _ [23, 24, 25, 26, 27, 28, 22, 29, 30, 31, 32, 33, 14, 34, 35, 36, 37, 38, 13, 15, 39, 40, 41, 42, 43, 44, 45, 46, 47, 48, 49, 17, 18, 50, 51, 52, 53, 54, 55, 56, 57, 58, 59, 60, 61, 62, 63, 64, 65, 66, 67, 68, 69, 70, 71, 72, 73, 74, 75, 76, 77, 78, 79, 80, 81, 82, 83, 84, 85, 86, 87, 88, 89, 90, 91, 92, 93, 94, 95, 114, 115, 116, 117, 118, 119, 120, 121, 122, 123, 124, 125, 126, 127, 128, 129, 130, 131, 132, 133, 134, 135] (by decide +kernel) (by decide +kernel)) (goodIn_sub (fun _ h => List.mem_cons_of_mem _ (List.mem_append_right _ h)) (by decide +kernel))
set_option maxRecDepth 20000 in
theorem gX7_explain_X6_first : GoodIn wsX7_explain (wsV RX7 113 RX6 yX6_first wsX6_first) := goodIn_app (goodIn_of _ (by decide +kernel)) ggX7_explain_X6_first
set_option maxRecDepth 20000 in
theorem ggX7_explain_X3_add : GoodIn wsX7_explain wsX3_add := goodIn_ca (goodIn_r _ [100, 101, 102, 33, 14, 34, 136, 137] (by decide +kernel) (by decide +kernel)) (goodIn_sub (fun _ h => List.mem_cons_of_mem _ (List.mem_append_right _ h)) (by decide +kernel))
set_option maxRecDepth 20000 in
theorem gX7_explain_X3_add : GoodIn wsX7_explain (wsV RX7 169 RX3 yX3_add wsX3_add) := goodIn_app (goodIn_of _ (by decide +kernel)) ggX7_explain_X3_add
theorem dX7_explain_0 : decode cX7_explain 0 = .ok (.aload_n 0, 1) := by decide +kernel
theorem dX7_explain_1 : decode cX7_explain 1 = .ok (.getfield 34, 3) := by decide +kernel
theorem dX7_explain_4 : decode cX7_explain 4 = .ok (.getfield 107, 3) := by decide +kernel
theorem dX7_explain_7 : decode cX7_explain 7 = .ok (.istore_n 1, 1) := by decide +kernel
theorem dX7_explain_8 : decode cX7_explain 8 = .ok (.aload_n 0, 1) := by decide +kernel
theorem dX7_explain_9 : decode cX7_explain 9 = .ok (.getfield 34, 3) := by decide +kernel
theorem dX7_explain_12 : decode cX7_explain 12 = .ok (.getfield 110, 3) := by decide +kernel
theorem dX7_explain_15 : decode cX7_explain 15 = .ok (.istore_n 2, 1) := by decide +kernel
theorem dX7_explain_16 : decode cX7_explain 16 = .ok (.iconst 0, 1) := by decide +kernel
theorem dX7_explain_17 : decode cX7_explain 17 = .ok (.istore_n 3, 1) := by decide +kernel
theorem dX7_explain_18 : decode cX7_explain 18 = .ok (.iload_n 3, 1) := by decide +kernel
theorem dX7_explain_19 : decode cX7_explain 19 = .ok (.aload_n 0, 1) := by decide +kernel
theorem dX7_explain_20 : decode cX7_explain 20 = .ok (.getfield 34, 3) := by decide +kernel
theorem dX7_explain_23 : decode cX7_explain 23 = .ok (.getfield 106, 3) := by decide +kernel
theorem dX7_explain_26 : decode cX7_explain 26 = .ok (.if_icmp .ge 75, 3) := by decide +kernel
theorem dX7_explain_29 : decode cX7_explain 29 = .ok (.aload_n 0, 1) := by decide +kernel
theorem dX7_explain_30 : decode cX7_explain 30 = .ok (.getfield 34, 3) := by decide +kernel
theorem dX7_explain_33 : decode cX7_explain 33 = .ok (.iload_n 3, 1) := by decide +kernel
theorem dX7_explain_34 : decode cX7_explain 34 = .ok (.invokevirtual 168, 3) := by decide +kernel
theorem dX7_explain_37 : decode cX7_explain 37 = .ok (.istore 4, 2) := by decide +kernel
theorem dX7_explain_39 : decode cX7_explain 39 = .ok (.iload_n 1, 1) := by decide +kernel
theorem dX7_explain_40 : decode cX7_explain 40 = .ok (.iload 4, 2) := by decide +kernel
theorem dX7_explain_42 : decode cX7_explain 42 = .ok (.invokestatic 131, 3) := by decide +kernel
theorem dX7_explain_45 : decode cX7_explain 45 = .ok (.iconst (-1), 1) := by decide +kernel
theorem dX7_explain_46 : decode cX7_explain 46 = .ok (.ixor, 1) := by decide +kernel
theorem dX7_explain_47 : decode cX7_explain 47 = .ok (.iand, 1) := by decide +kernel
theorem dX7_explain_48 : decode cX7_explain 48 = .ok (.istore 5, 2) := by decide +kernel
theorem dX7_explain_50 : decode cX7_explain 50 = .ok (.iload_n 2, 1) := by decide +kernel
theorem dX7_explain_51 : decode cX7_explain 51 = .ok (.iload 4, 2) := by decide +kernel
theorem dX7_explain_53 : decode cX7_explain 53 = .ok (.ineg, 1) := by decide +kernel
theorem dX7_explain_54 : decode cX7_explain 54 = .ok (.invokestatic 131, 3) := by decide +kernel
theorem dX7_explain_57 : decode cX7_explain 57 = .ok (.iconst (-1), 1) := by decide +kernel
theorem dX7_explain_58 : decode cX7_explain 58 = .ok (.ixor, 1) := by decide +kernel
theorem dX7_explain_59 : decode cX7_explain 59 = .ok (.iand, 1) := by decide +kernel
theorem dX7_explain_60 : decode cX7_explain 60 = .ok (.istore 6, 2) := by decide +kernel
theorem dX7_explain_62 : decode cX7_explain 62 = .ok (.aload_n 0, 1) := by decide +kernel
theorem dX7_explain_63 : decode cX7_explain 63 = .ok (.getfield 10, 3) := by decide +kernel
theorem dX7_explain_66 : decode cX7_explain 66 = .ok (.iload 5, 2) := by decide +kernel
theorem dX7_explain_68 : decode cX7_explain 68 = .ok (.iload 6, 2) := by decide +kernel
theorem dX7_explain_70 : decode cX7_explain 70 = .ok (.invokevirtual 113, 3) := by decide +kernel
theorem dX7_explain_73 : decode cX7_explain 73 = .ok (.iconst (-1), 1) := by decide +kernel
theorem dX7_explain_74 : decode cX7_explain 74 = .ok (.if_icmp .ne 12, 3) := by decide +kernel
theorem dX7_explain_77 : decode cX7_explain 77 = .ok (.iload 5, 2) := by decide +kernel
theorem dX7_explain_79 : decode cX7_explain 79 = .ok (.istore_n 1, 1) := by decide +kernel
theorem dX7_explain_80 : decode cX7_explain 80 = .ok (.iload 6, 2) := by decide +kernel
theorem dX7_explain_82 : decode cX7_explain 82 = .ok (.istore_n 2, 1) := by decide +kernel
theorem dX7_explain_83 : decode cX7_explain 83 = .ok (.goto 12, 3) := by decide +kernel
theorem dX7_explain_86 : decode cX7_explain 86 = .ok (.aload_n 0, 1) := by decide +kernel
theorem dX7_explain_87 : decode cX7_explain 87 = .ok (.getfield 48, 3) := by decide +kernel
theorem dX7_explain_90 : decode cX7_explain 90 = .ok (.iload 4, 2) := by decide +kernel
theorem dX7_explain_92 : decode cX7_explain 92 = .ok (.invokevirtual 169, 3) := by decide +kernel
theorem dX7_explain_95 : decode cX7_explain 95 = .ok (.iinc 3 1, 3) := by decide +kernel
theorem dX7_explain_98 : decode cX7_explain 98 = .ok (.goto (-80), 3) := by decide +kernel
theorem dX7_explain_101 : decode cX7_explain 101 = .ok (.return_, 1) := by decide +kernel
theorem dX7_bit_0 : decode cX7_bit 0 = .ok (.iload_n 0, 1) := by decide +kernel
theorem dX7_bit_1 : decode cX7_bit 1 = .ok (.iconst 1, 1) := by decide +kernel
theorem dX7_bit_2 : decode cX7_bit 2 = .ok (.if_icmp .lt 18, 3) := by decide +kernel
theorem dX7_bit_5 : decode cX7_bit 5 = .ok (.iload_n 0, 1) := by decide +kernel
theorem dX7_bit_6 : decode cX7_bit 6 = .ok (.bipush 14, 2) := by decide +kernel
theorem dX7_bit_8 : decode cX7_bit 8 = .ok (.if_icmp .gt 12, 3) := by decide +kernel
theorem dX7_bit_11 : decode cX7_bit 11 = .ok (.iconst 1, 1) := by decide +kernel
theorem dX7_bit_12 : decode cX7_bit 12 = .ok (.bipush 14, 2) := by decide +kernel
theorem dX7_bit_14 : decode cX7_bit 14 = .ok (.iload_n 0, 1) := by decide +kernel
theorem dX7_bit_15 : decode cX7_bit 15 = .ok (.isub, 1) := by decide +kernel
theorem dX7_bit_16 : decode cX7_bit 16 = .ok (.ishl, 1) := by decide +kernel
theorem dX7_bit_17 : decode cX7_bit 17 = .ok (.goto 4, 3) := by decide +kernel
theorem dX7_bit_20 : decode cX7_bit 20 = .ok (.iconst 0, 1) := by decide +kernel
theorem dX7_bit_21 : decode cX7_bit 21 = .ok (.ireturn, 1) := by decide +kernel
theorem dX7_at_0 : decode cX7_at 0 = .ok (.iload_n 1, 1) := by decide +kernel
theorem dX7_at_1 : decode cX7_at 1 = .ok (.ifCond .lt 15, 3) := by decide +kernel
theorem dX7_at_4 : decode cX7_at 4 = .ok (.iload_n 1, 1) := by decide +kernel
theorem dX7_at_5 : decode cX7_at 5 = .ok (.aload_n 0, 1) := by decide +kernel
theorem dX7_at_6 : decode cX7_at 6 = .ok (.arraylength, 1) := by decide +kernel
theorem dX7_at_7 : decode cX7_at 7 = .ok (.if_icmp .ge 9, 3) := by decide +kernel
theorem dX7_at_10 : decode cX7_at 10 = .ok (.aload_n 0, 1) := by decide +kernel
theorem dX7_at_11 : decode cX7_at 11 = .ok (.iload_n 1, 1) := by decide +kernel
theorem dX7_at_12 : decode cX7_at 12 = .ok (.iaload, 1) := by decide +kernel
theorem dX7_at_13 : decode cX7_at 13 = .ok (.goto 4, 3) := by decide +kernel
theorem dX7_at_16 : decode cX7_at 16 = .ok (.iconst 0, 1) := by decide +kernel
theorem dX7_at_17 : decode cX7_at 17 = .ok (.ireturn, 1) := by decide +kernel
theorem dX7_put_0 : decode cX7_put 0 = .ok (.iload_n 1, 1) := by decide +kernel
theorem dX7_put_1 : decode cX7_put 1 = .ok (.ifCond .lt 13, 3) := by decide +kernel
theorem dX7_put_4 : decode cX7_put 4 = .ok (.iload_n 1, 1) := by decide +kernel
theorem dX7_put_5 : decode cX7_put 5 = .ok (.aload_n 0, 1) := by decide +kernel
theorem dX7_put_6 : decode cX7_put 6 = .ok (.arraylength, 1) := by decide +kernel
theorem dX7_put_7 : decode cX7_put 7 = .ok (.if_icmp .ge 7, 3) := by decide +kernel
theorem dX7_put_10 : decode cX7_put 10 = .ok (.aload_n 0, 1) := by decide +kernel
theorem dX7_put_11 : decode cX7_put 11 = .ok (.iload_n 1, 1) := by decide +kernel
theorem dX7_put_12 : decode cX7_put 12 = .ok (.iload_n 2, 1) := by decide +kernel
theorem dX7_put_13 : decode cX7_put 13 = .ok (.iastore, 1) := by decide +kernel
theorem dX7_put_14 : decode cX7_put 14 = .ok (.return_, 1) := by decide +kernel
