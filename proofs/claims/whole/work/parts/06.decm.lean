theorem dX8_init_0 : decode cX8_init 0 = .ok (.aload_n 0, 1) := by decide +kernel
theorem dX8_init_1 : decode cX8_init 1 = .ok (.invokespecial 1, 3) := by decide +kernel
theorem dX8_init_4 : decode cX8_init 4 = .ok (.aload_n 0, 1) := by decide +kernel
theorem dX8_init_5 : decode cX8_init 5 = .ok (.bipush 15, 2) := by decide +kernel
theorem dX8_init_7 : decode cX8_init 7 = .ok (.newarray .int, 2) := by decide +kernel
theorem dX8_init_9 : decode cX8_init 9 = .ok (.putfield 7, 3) := by decide +kernel
theorem dX8_init_12 : decode cX8_init 12 = .ok (.aload_n 0, 1) := by decide +kernel
theorem dX8_init_13 : decode cX8_init 13 = .ok (.bipush 15, 2) := by decide +kernel
theorem dX8_init_15 : decode cX8_init 15 = .ok (.newarray .int, 2) := by decide +kernel
theorem dX8_init_17 : decode cX8_init 17 = .ok (.putfield 13, 3) := by decide +kernel
theorem dX8_init_20 : decode cX8_init 20 = .ok (.aload_n 0, 1) := by decide +kernel
theorem dX8_init_21 : decode cX8_init 21 = .ok (.bipush 15, 2) := by decide +kernel
theorem dX8_init_23 : decode cX8_init 23 = .ok (.newarray .boolean, 2) := by decide +kernel
theorem dX8_init_25 : decode cX8_init 25 = .ok (.putfield 16, 3) := by decide +kernel
theorem dX8_init_28 : decode cX8_init 28 = .ok (.aload_n 0, 1) := by decide +kernel
theorem dX8_init_29 : decode cX8_init 29 = .ok (.bipush 15, 2) := by decide +kernel
theorem dX8_init_31 : decode cX8_init 31 = .ok (.newarray .int, 2) := by decide +kernel
theorem dX8_init_33 : decode cX8_init 33 = .ok (.putfield 20, 3) := by decide +kernel
theorem dX8_init_36 : decode cX8_init 36 = .ok (.aload_n 0, 1) := by decide +kernel
theorem dX8_init_37 : decode cX8_init 37 = .ok (.bipush 15, 2) := by decide +kernel
theorem dX8_init_39 : decode cX8_init 39 = .ok (.newarray .int, 2) := by decide +kernel
theorem dX8_init_41 : decode cX8_init 41 = .ok (.putfield 23, 3) := by decide +kernel
theorem dX8_init_44 : decode cX8_init 44 = .ok (.aload_n 0, 1) := by decide +kernel
theorem dX8_init_45 : decode cX8_init 45 = .ok (.bipush 60, 2) := by decide +kernel
theorem dX8_init_47 : decode cX8_init 47 = .ok (.newarray .int, 2) := by decide +kernel
theorem dX8_init_49 : decode cX8_init 49 = .ok (.putfield 26, 3) := by decide +kernel
theorem dX8_init_52 : decode cX8_init 52 = .ok (.aload_n 0, 1) := by decide +kernel
theorem dX8_init_53 : decode cX8_init 53 = .ok (.bipush 40, 2) := by decide +kernel
theorem dX8_init_55 : decode cX8_init 55 = .ok (.newarray .int, 2) := by decide +kernel
theorem dX8_init_57 : decode cX8_init 57 = .ok (.putfield 29, 3) := by decide +kernel
theorem dX8_init_60 : decode cX8_init 60 = .ok (.aload_n 0, 1) := by decide +kernel
theorem dX8_init_61 : decode cX8_init 61 = .ok (.bipush 40, 2) := by decide +kernel
theorem dX8_init_63 : decode cX8_init 63 = .ok (.newarray .int, 2) := by decide +kernel
theorem dX8_init_65 : decode cX8_init 65 = .ok (.putfield 32, 3) := by decide +kernel
theorem dX8_init_68 : decode cX8_init 68 = .ok (.aload_n 0, 1) := by decide +kernel
theorem dX8_init_69 : decode cX8_init 69 = .ok (.bipush 40, 2) := by decide +kernel
theorem dX8_init_71 : decode cX8_init 71 = .ok (.newarray .int, 2) := by decide +kernel
theorem dX8_init_73 : decode cX8_init 73 = .ok (.putfield 35, 3) := by decide +kernel
theorem dX8_init_76 : decode cX8_init 76 = .ok (.aload_n 0, 1) := by decide +kernel
theorem dX8_init_77 : decode cX8_init 77 = .ok (.iconst 4, 1) := by decide +kernel
theorem dX8_init_78 : decode cX8_init 78 = .ok (.newarray .boolean, 2) := by decide +kernel
theorem dX8_init_80 : decode cX8_init 80 = .ok (.putfield 38, 3) := by decide +kernel
theorem dX8_init_83 : decode cX8_init 83 = .ok (.aload_n 0, 1) := by decide +kernel
theorem dX8_init_84 : decode cX8_init 84 = .ok (.iconst 4, 1) := by decide +kernel
theorem dX8_init_85 : decode cX8_init 85 = .ok (.newarray .int, 2) := by decide +kernel
theorem dX8_init_87 : decode cX8_init 87 = .ok (.putfield 41, 3) := by decide +kernel
theorem dX8_init_90 : decode cX8_init 90 = .ok (.aload_n 0, 1) := by decide +kernel
theorem dX8_init_91 : decode cX8_init 91 = .ok (.bipush 14, 2) := by decide +kernel
theorem dX8_init_93 : decode cX8_init 93 = .ok (.newarray .int, 2) := by decide +kernel
theorem dX8_init_95 : decode cX8_init 95 = .ok (.putfield 44, 3) := by decide +kernel
theorem dX8_init_98 : decode cX8_init 98 = .ok (.aload_n 0, 1) := by decide +kernel
theorem dX8_init_99 : decode cX8_init 99 = .ok (.sipush 16384, 3) := by decide +kernel
theorem dX8_init_102 : decode cX8_init 102 = .ok (.newarray .int, 2) := by decide +kernel
theorem dX8_init_104 : decode cX8_init 104 = .ok (.putfield 47, 3) := by decide +kernel
theorem dX8_init_107 : decode cX8_init 107 = .ok (.aload_n 0, 1) := by decide +kernel
theorem dX8_init_108 : decode cX8_init 108 = .ok (.sipush 201, 3) := by decide +kernel
theorem dX8_init_111 : decode cX8_init 111 = .ok (.newarray .int, 2) := by decide +kernel
theorem dX8_init_113 : decode cX8_init 113 = .ok (.putfield 50, 3) := by decide +kernel
theorem dX8_init_116 : decode cX8_init 116 = .ok (.aload_n 0, 1) := by decide +kernel
theorem dX8_init_117 : decode cX8_init 117 = .ok (.sipush 201, 3) := by decide +kernel
theorem dX8_init_120 : decode cX8_init 120 = .ok (.newarray .int, 2) := by decide +kernel
theorem dX8_init_122 : decode cX8_init 122 = .ok (.putfield 53, 3) := by decide +kernel
theorem dX8_init_125 : decode cX8_init 125 = .ok (.aload_n 0, 1) := by decide +kernel
theorem dX8_init_126 : decode cX8_init 126 = .ok (.bipush 14, 2) := by decide +kernel
theorem dX8_init_128 : decode cX8_init 128 = .ok (.newarray .int, 2) := by decide +kernel
theorem dX8_init_130 : decode cX8_init 130 = .ok (.putfield 56, 3) := by decide +kernel
theorem dX8_init_133 : decode cX8_init 133 = .ok (.return_, 1) := by decide +kernel
theorem dX8_thrown_0 : decode cX8_thrown 0 = .ok (.aload_n 0, 1) := by decide +kernel
theorem dX8_thrown_1 : decode cX8_thrown 1 = .ok (.getfield 59, 3) := by decide +kernel
theorem dX8_thrown_4 : decode cX8_thrown 4 = .ok (.ireturn, 1) := by decide +kernel
theorem dX8_isFeature_0 : decode cX8_isFeature 0 = .ok (.iload_n 1, 1) := by decide +kernel
theorem dX8_isFeature_1 : decode cX8_isFeature 1 = .ok (.iconst 1, 1) := by decide +kernel
theorem dX8_isFeature_2 : decode cX8_isFeature 2 = .ok (.if_icmp .lt 15, 3) := by decide +kernel
theorem dX8_isFeature_5 : decode cX8_isFeature 5 = .ok (.iload_n 1, 1) := by decide +kernel
theorem dX8_isFeature_6 : decode cX8_isFeature 6 = .ok (.aload_n 0, 1) := by decide +kernel
theorem dX8_isFeature_7 : decode cX8_isFeature 7 = .ok (.getfield 63, 3) := by decide +kernel
theorem dX8_isFeature_10 : decode cX8_isFeature 10 = .ok (.if_icmp .gt 7, 3) := by decide +kernel
theorem dX8_isFeature_13 : decode cX8_isFeature 13 = .ok (.iconst 1, 1) := by decide +kernel
theorem dX8_isFeature_14 : decode cX8_isFeature 14 = .ok (.goto 4, 3) := by decide +kernel
theorem dX8_isFeature_17 : decode cX8_isFeature 17 = .ok (.iconst 0, 1) := by decide +kernel
theorem dX8_isFeature_18 : decode cX8_isFeature 18 = .ok (.ireturn, 1) := by decide +kernel
set_option maxRecDepth 20000 in
theorem ggX8_feature_X8_isFeature : GoodIn wsX8_feature wsX8_isFeature := goodIn_r _ [10, 2, 11, 12, 13, 14, 15, 16, 17, 18, 19, 20, 21, 22, 23, 24, 25, 26, 27, 28, 29, 30, 31, 32, 33, 34, 35, 36, 37] (by decide +kernel) (by decide +kernel)
set_option maxRecDepth 20000 in
theorem gX8_feature_X8_isFeature : GoodIn wsX8_feature (wsV RX8 66 RX8 yX8_isFeature wsX8_isFeature) := goodIn_app (goodIn_of _ (by decide +kernel)) ggX8_feature_X8_isFeature
theorem dX8_feature_0 : decode cX8_feature 0 = .ok (.aload_n 0, 1) := by decide +kernel
theorem dX8_feature_1 : decode cX8_feature 1 = .ok (.iconst 0, 1) := by decide +kernel
theorem dX8_feature_2 : decode cX8_feature 2 = .ok (.putfield 59, 3) := by decide +kernel
theorem dX8_feature_5 : decode cX8_feature 5 = .ok (.aload_n 0, 1) := by decide +kernel
theorem dX8_feature_6 : decode cX8_feature 6 = .ok (.getfield 63, 3) := by decide +kernel
theorem dX8_feature_9 : decode cX8_feature 9 = .ok (.ifCond .ne 10, 3) := by decide +kernel
theorem dX8_feature_12 : decode cX8_feature 12 = .ok (.iload_n 1, 1) := by decide +kernel
theorem dX8_feature_13 : decode cX8_feature 13 = .ok (.ifCond .eq 16, 3) := by decide +kernel
theorem dX8_feature_16 : decode cX8_feature 16 = .ok (.goto 11, 3) := by decide +kernel
theorem dX8_feature_19 : decode cX8_feature 19 = .ok (.aload_n 0, 1) := by decide +kernel
theorem dX8_feature_20 : decode cX8_feature 20 = .ok (.iload_n 1, 1) := by decide +kernel
theorem dX8_feature_21 : decode cX8_feature 21 = .ok (.invokevirtual 66, 3) := by decide +kernel
theorem dX8_feature_24 : decode cX8_feature 24 = .ok (.ifCond .ne 5, 3) := by decide +kernel
theorem dX8_feature_27 : decode cX8_feature 27 = .ok (.iconst (-1), 1) := by decide +kernel
theorem dX8_feature_28 : decode cX8_feature 28 = .ok (.ireturn, 1) := by decide +kernel
theorem dX8_feature_29 : decode cX8_feature 29 = .ok (.iload_n 2, 1) := by decide +kernel
theorem dX8_feature_30 : decode cX8_feature 30 = .ok (.ifCond .lt 8, 3) := by decide +kernel
theorem dX8_feature_33 : decode cX8_feature 33 = .ok (.iload_n 2, 1) := by decide +kernel
theorem dX8_feature_34 : decode cX8_feature 34 = .ok (.iconst 2, 1) := by decide +kernel
theorem dX8_feature_35 : decode cX8_feature 35 = .ok (.if_icmp .le 6, 3) := by decide +kernel
theorem dX8_feature_38 : decode cX8_feature 38 = .ok (.bipush (-2), 2) := by decide +kernel
theorem dX8_feature_40 : decode cX8_feature 40 = .ok (.ireturn, 1) := by decide +kernel
theorem dX8_feature_41 : decode cX8_feature 41 = .ok (.aload_n 0, 1) := by decide +kernel
theorem dX8_feature_42 : decode cX8_feature 42 = .ok (.getfield 63, 3) := by decide +kernel
theorem dX8_feature_45 : decode cX8_feature 45 = .ok (.bipush 14, 2) := by decide +kernel
theorem dX8_feature_47 : decode cX8_feature 47 = .ok (.if_icmp .ne 6, 3) := by decide +kernel
theorem dX8_feature_50 : decode cX8_feature 50 = .ok (.bipush (-4), 2) := by decide +kernel
theorem dX8_feature_52 : decode cX8_feature 52 = .ok (.ireturn, 1) := by decide +kernel
theorem dX8_feature_53 : decode cX8_feature 53 = .ok (.aload_n 0, 1) := by decide +kernel
theorem dX8_feature_54 : decode cX8_feature 54 = .ok (.dup, 1) := by decide +kernel
theorem dX8_feature_55 : decode cX8_feature 55 = .ok (.getfield 63, 3) := by decide +kernel
theorem dX8_feature_58 : decode cX8_feature 58 = .ok (.iconst 1, 1) := by decide +kernel
theorem dX8_feature_59 : decode cX8_feature 59 = .ok (.iadd, 1) := by decide +kernel
theorem dX8_feature_60 : decode cX8_feature 60 = .ok (.putfield 63, 3) := by decide +kernel
theorem dX8_feature_63 : decode cX8_feature 63 = .ok (.aload_n 0, 1) := by decide +kernel
theorem dX8_feature_64 : decode cX8_feature 64 = .ok (.getfield 7, 3) := by decide +kernel
theorem dX8_feature_67 : decode cX8_feature 67 = .ok (.aload_n 0, 1) := by decide +kernel
theorem dX8_feature_68 : decode cX8_feature 68 = .ok (.getfield 63, 3) := by decide +kernel
theorem dX8_feature_71 : decode cX8_feature 71 = .ok (.iload_n 1, 1) := by decide +kernel
theorem dX8_feature_72 : decode cX8_feature 72 = .ok (.iastore, 1) := by decide +kernel
theorem dX8_feature_73 : decode cX8_feature 73 = .ok (.aload_n 0, 1) := by decide +kernel
theorem dX8_feature_74 : decode cX8_feature 74 = .ok (.getfield 13, 3) := by decide +kernel
theorem dX8_feature_77 : decode cX8_feature 77 = .ok (.aload_n 0, 1) := by decide +kernel
theorem dX8_feature_78 : decode cX8_feature 78 = .ok (.getfield 63, 3) := by decide +kernel
theorem dX8_feature_81 : decode cX8_feature 81 = .ok (.iload_n 2, 1) := by decide +kernel
theorem dX8_feature_82 : decode cX8_feature 82 = .ok (.iastore, 1) := by decide +kernel
theorem dX8_feature_83 : decode cX8_feature 83 = .ok (.aload_n 0, 1) := by decide +kernel
theorem dX8_feature_84 : decode cX8_feature 84 = .ok (.iconst 0, 1) := by decide +kernel
theorem dX8_feature_85 : decode cX8_feature 85 = .ok (.putfield 70, 3) := by decide +kernel
theorem dX8_feature_88 : decode cX8_feature 88 = .ok (.aload_n 0, 1) := by decide +kernel
theorem dX8_feature_89 : decode cX8_feature 89 = .ok (.getfield 63, 3) := by decide +kernel
theorem dX8_feature_92 : decode cX8_feature 92 = .ok (.ireturn, 1) := by decide +kernel
theorem dX8_groupedBelow_0 : decode cX8_groupedBelow 0 = .ok (.iconst 0, 1) := by decide +kernel
theorem dX8_groupedBelow_1 : decode cX8_groupedBelow 1 = .ok (.istore_n 2, 1) := by decide +kernel
theorem dX8_groupedBelow_2 : decode cX8_groupedBelow 2 = .ok (.iconst 1, 1) := by decide +kernel
theorem dX8_groupedBelow_3 : decode cX8_groupedBelow 3 = .ok (.istore_n 3, 1) := by decide +kernel
theorem dX8_groupedBelow_4 : decode cX8_groupedBelow 4 = .ok (.iload_n 3, 1) := by decide +kernel
theorem dX8_groupedBelow_5 : decode cX8_groupedBelow 5 = .ok (.aload_n 0, 1) := by decide +kernel
theorem dX8_groupedBelow_6 : decode cX8_groupedBelow 6 = .ok (.getfield 63, 3) := by decide +kernel
theorem dX8_groupedBelow_9 : decode cX8_groupedBelow 9 = .ok (.if_icmp .gt 37, 3) := by decide +kernel
theorem dX8_groupedBelow_12 : decode cX8_groupedBelow 12 = .ok (.aload_n 0, 1) := by decide +kernel
theorem dX8_groupedBelow_13 : decode cX8_groupedBelow 13 = .ok (.getfield 7, 3) := by decide +kernel
theorem dX8_groupedBelow_16 : decode cX8_groupedBelow 16 = .ok (.iload_n 3, 1) := by decide +kernel
theorem dX8_groupedBelow_17 : decode cX8_groupedBelow 17 = .ok (.iaload, 1) := by decide +kernel
theorem dX8_groupedBelow_18 : decode cX8_groupedBelow 18 = .ok (.iload_n 1, 1) := by decide +kernel
theorem dX8_groupedBelow_19 : decode cX8_groupedBelow 19 = .ok (.if_icmp .ne 19, 3) := by decide +kernel
theorem dX8_groupedBelow_22 : decode cX8_groupedBelow 22 = .ok (.aload_n 0, 1) := by decide +kernel
theorem dX8_groupedBelow_23 : decode cX8_groupedBelow 23 = .ok (.getfield 13, 3) := by decide +kernel
theorem dX8_groupedBelow_26 : decode cX8_groupedBelow 26 = .ok (.iload_n 3, 1) := by decide +kernel
theorem dX8_groupedBelow_27 : decode cX8_groupedBelow 27 = .ok (.iaload, 1) := by decide +kernel
theorem dX8_groupedBelow_28 : decode cX8_groupedBelow 28 = .ok (.iconst 2, 1) := by decide +kernel
theorem dX8_groupedBelow_29 : decode cX8_groupedBelow 29 = .ok (.if_icmp .ne 9, 3) := by decide +kernel
theorem dX8_groupedBelow_32 : decode cX8_groupedBelow 32 = .ok (.iload_n 2, 1) := by decide +kernel
theorem dX8_groupedBelow_33 : decode cX8_groupedBelow 33 = .ok (.iconst 1, 1) := by decide +kernel
theorem dX8_groupedBelow_34 : decode cX8_groupedBelow 34 = .ok (.iadd, 1) := by decide +kernel
theorem dX8_groupedBelow_35 : decode cX8_groupedBelow 35 = .ok (.goto 4, 3) := by decide +kernel
theorem dX8_groupedBelow_38 : decode cX8_groupedBelow 38 = .ok (.iload_n 2, 1) := by decide +kernel
theorem dX8_groupedBelow_39 : decode cX8_groupedBelow 39 = .ok (.istore_n 2, 1) := by decide +kernel
theorem dX8_groupedBelow_40 : decode cX8_groupedBelow 40 = .ok (.iinc 3 1, 3) := by decide +kernel
theorem dX8_groupedBelow_43 : decode cX8_groupedBelow 43 = .ok (.goto (-39), 3) := by decide +kernel
theorem dX8_groupedBelow_46 : decode cX8_groupedBelow 46 = .ok (.iload_n 2, 1) := by decide +kernel
theorem dX8_groupedBelow_47 : decode cX8_groupedBelow 47 = .ok (.ireturn, 1) := by decide +kernel
set_option maxRecDepth 20000 in
theorem ggX8_group_X8_isFeature : GoodIn wsX8_group wsX8_isFeature := goodIn_r _ [10, 11, 18, 19, 20, 21, 22, 23, 24, 25, 26, 27, 28, 29, 30, 31, 32, 33, 34, 35, 36, 37, 38, 39, 40, 41, 42, 43, 44] (by decide +kernel) (by decide +kernel)
set_option maxRecDepth 20000 in
theorem gX8_group_X8_isFeature : GoodIn wsX8_group (wsV RX8 66 RX8 yX8_isFeature wsX8_isFeature) := goodIn_app (goodIn_of _ (by decide +kernel)) ggX8_group_X8_isFeature
set_option maxRecDepth 20000 in
theorem ggX8_group_X8_groupedBelow : GoodIn wsX8_group wsX8_groupedBelow := goodIn_ca (goodIn_r _ [15, 11, 16, 17, 18, 19, 20, 21, 22, 23, 24, 25, 26, 27, 28, 29, 30, 31, 32, 33, 34, 35, 36, 37, 38, 39, 40, 41, 42, 43, 44] (by decide +kernel) (by decide +kernel)) (goodIn_sub (fun _ h => List.mem_cons_of_mem _ (List.mem_append_right _ h)) (by decide +kernel))
set_option maxRecDepth 20000 in
theorem gX8_group_X8_groupedBelow : GoodIn wsX8_group (wsV RX8 74 RX8 yX8_groupedBelow wsX8_groupedBelow) := goodIn_app (goodIn_of _ (by decide +kernel)) ggX8_group_X8_groupedBelow
theorem dX8_group_0 : decode cX8_group 0 = .ok (.aload_n 0, 1) := by decide +kernel
theorem dX8_group_1 : decode cX8_group 1 = .ok (.iconst 0, 1) := by decide +kernel
theorem dX8_group_2 : decode cX8_group 2 = .ok (.putfield 59, 3) := by decide +kernel
theorem dX8_group_5 : decode cX8_group 5 = .ok (.aload_n 0, 1) := by decide +kernel
theorem dX8_group_6 : decode cX8_group 6 = .ok (.iload_n 1, 1) := by decide +kernel
theorem dX8_group_7 : decode cX8_group 7 = .ok (.invokevirtual 66, 3) := by decide +kernel
theorem dX8_group_10 : decode cX8_group 10 = .ok (.ifCond .ne 5, 3) := by decide +kernel
theorem dX8_group_13 : decode cX8_group 13 = .ok (.iconst (-1), 1) := by decide +kernel
theorem dX8_group_14 : decode cX8_group 14 = .ok (.ireturn, 1) := by decide +kernel
theorem dX8_group_15 : decode cX8_group 15 = .ok (.iload_n 2, 1) := by decide +kernel
theorem dX8_group_16 : decode cX8_group 16 = .ok (.ifCond .lt 14, 3) := by decide +kernel
theorem dX8_group_19 : decode cX8_group 19 = .ok (.iload_n 3, 1) := by decide +kernel
theorem dX8_group_20 : decode cX8_group 20 = .ok (.iload_n 2, 1) := by decide +kernel
theorem dX8_group_21 : decode cX8_group 21 = .ok (.if_icmp .lt 9, 3) := by decide +kernel
theorem dX8_group_24 : decode cX8_group 24 = .ok (.iload_n 3, 1) := by decide +kernel
theorem dX8_group_25 : decode cX8_group 25 = .ok (.bipush 14, 2) := by decide +kernel
theorem dX8_group_27 : decode cX8_group 27 = .ok (.if_icmp .le 6, 3) := by decide +kernel
theorem dX8_group_30 : decode cX8_group 30 = .ok (.bipush (-2), 2) := by decide +kernel
theorem dX8_group_32 : decode cX8_group 32 = .ok (.ireturn, 1) := by decide +kernel
theorem dX8_group_33 : decode cX8_group 33 = .ok (.aload_n 0, 1) := by decide +kernel
theorem dX8_group_34 : decode cX8_group 34 = .ok (.getfield 16, 3) := by decide +kernel
theorem dX8_group_37 : decode cX8_group 37 = .ok (.iload_n 1, 1) := by decide +kernel
theorem dX8_group_38 : decode cX8_group 38 = .ok (.iconst 1, 1) := by decide +kernel
theorem dX8_group_39 : decode cX8_group 39 = .ok (.bastore, 1) := by decide +kernel
theorem dX8_group_40 : decode cX8_group 40 = .ok (.aload_n 0, 1) := by decide +kernel
theorem dX8_group_41 : decode cX8_group 41 = .ok (.getfield 20, 3) := by decide +kernel
theorem dX8_group_44 : decode cX8_group 44 = .ok (.iload_n 1, 1) := by decide +kernel
theorem dX8_group_45 : decode cX8_group 45 = .ok (.iload_n 2, 1) := by decide +kernel
theorem dX8_group_46 : decode cX8_group 46 = .ok (.iastore, 1) := by decide +kernel
theorem dX8_group_47 : decode cX8_group 47 = .ok (.aload_n 0, 1) := by decide +kernel
theorem dX8_group_48 : decode cX8_group 48 = .ok (.getfield 23, 3) := by decide +kernel
theorem dX8_group_51 : decode cX8_group 51 = .ok (.iload_n 1, 1) := by decide +kernel
theorem dX8_group_52 : decode cX8_group 52 = .ok (.iload_n 3, 1) := by decide +kernel
theorem dX8_group_53 : decode cX8_group 53 = .ok (.iastore, 1) := by decide +kernel
theorem dX8_group_54 : decode cX8_group 54 = .ok (.aload_n 0, 1) := by decide +kernel
theorem dX8_group_55 : decode cX8_group 55 = .ok (.iconst 0, 1) := by decide +kernel
theorem dX8_group_56 : decode cX8_group 56 = .ok (.putfield 70, 3) := by decide +kernel
theorem dX8_group_59 : decode cX8_group 59 = .ok (.aload_n 0, 1) := by decide +kernel
theorem dX8_group_60 : decode cX8_group 60 = .ok (.iload_n 1, 1) := by decide +kernel
theorem dX8_group_61 : decode cX8_group 61 = .ok (.invokevirtual 74, 3) := by decide +kernel
theorem dX8_group_64 : decode cX8_group 64 = .ok (.ireturn, 1) := by decide +kernel
set_option maxRecDepth 20000 in
theorem ggX8_isLiteral_X8_isFeature : GoodIn wsX8_isLiteral wsX8_isFeature := goodIn_r _ [5, 6, 7, 8, 9, 10, 11, 12, 13, 14, 15, 16, 17, 18, 19, 20, 21, 22, 23, 24, 25, 26, 27, 28, 29, 30, 31, 32, 33] (by decide +kernel) (by decide +kernel)
set_option maxRecDepth 20000 in
theorem gX8_isLiteral_X8_isFeature : GoodIn wsX8_isLiteral (wsV RX8 66 RX8 yX8_isFeature wsX8_isFeature) := goodIn_app (goodIn_of _ (by decide +kernel)) ggX8_isLiteral_X8_isFeature
theorem dX8_isLiteral_0 : decode cX8_isLiteral 0 = .ok (.aload_n 0, 1) := by decide +kernel
theorem dX8_isLiteral_1 : decode cX8_isLiteral 1 = .ok (.iload_n 1, 1) := by decide +kernel
theorem dX8_isLiteral_2 : decode cX8_isLiteral 2 = .ok (.invokevirtual 66, 3) := by decide +kernel
theorem dX8_isLiteral_5 : decode cX8_isLiteral 5 = .ok (.ifCond .ne 22, 3) := by decide +kernel
theorem dX8_isLiteral_8 : decode cX8_isLiteral 8 = .ok (.iload_n 1, 1) := by decide +kernel
theorem dX8_isLiteral_9 : decode cX8_isLiteral 9 = .ok (.ifCond .ge 22, 3) := by decide +kernel
theorem dX8_isLiteral_12 : decode cX8_isLiteral 12 = .ok (.iload_n 1, 1) := by decide +kernel
theorem dX8_isLiteral_13 : decode cX8_isLiteral 13 = .ok (.bipush (-14), 2) := by decide +kernel
theorem dX8_isLiteral_15 : decode cX8_isLiteral 15 = .ok (.if_icmp .lt 16, 3) := by decide +kernel
theorem dX8_isLiteral_18 : decode cX8_isLiteral 18 = .ok (.aload_n 0, 1) := by decide +kernel
theorem dX8_isLiteral_19 : decode cX8_isLiteral 19 = .ok (.iload_n 1, 1) := by decide +kernel
theorem dX8_isLiteral_20 : decode cX8_isLiteral 20 = .ok (.ineg, 1) := by decide +kernel
theorem dX8_isLiteral_21 : decode cX8_isLiteral 21 = .ok (.invokevirtual 66, 3) := by decide +kernel
theorem dX8_isLiteral_24 : decode cX8_isLiteral 24 = .ok (.ifCond .eq 7, 3) := by decide +kernel
theorem dX8_isLiteral_27 : decode cX8_isLiteral 27 = .ok (.iconst 1, 1) := by decide +kernel
theorem dX8_isLiteral_28 : decode cX8_isLiteral 28 = .ok (.goto 4, 3) := by decide +kernel
theorem dX8_isLiteral_31 : decode cX8_isLiteral 31 = .ok (.iconst 0, 1) := by decide +kernel
theorem dX8_isLiteral_32 : decode cX8_isLiteral 32 = .ok (.ireturn, 1) := by decide +kernel
set_option maxRecDepth 20000 in
theorem ggX8_formula_X8_isLiteral : GoodIn wsX8_formula wsX8_isLiteral := goodIn_r _ [11, 12, 13, 14, 10, 15, 16, 17, 18, 19, 20, 21, 22, 23, 24, 25, 26, 27, 28, 29, 30, 31, 32, 33, 34, 35, 36, 37, 38, 39, 40, 41, 42, 43] (by decide +kernel) (by decide +kernel)
set_option maxRecDepth 20000 in
theorem gX8_formula_X8_isLiteral : GoodIn wsX8_formula (wsV RX8 78 RX8 yX8_isLiteral wsX8_isLiteral) := goodIn_app (goodIn_of _ (by decide +kernel)) ggX8_formula_X8_isLiteral
theorem dX8_formula_0 : decode cX8_formula 0 = .ok (.aload_n 0, 1) := by decide +kernel
theorem dX8_formula_1 : decode cX8_formula 1 = .ok (.iconst 0, 1) := by decide +kernel
theorem dX8_formula_2 : decode cX8_formula 2 = .ok (.putfield 59, 3) := by decide +kernel
theorem dX8_formula_5 : decode cX8_formula 5 = .ok (.aload_n 0, 1) := by decide +kernel
theorem dX8_formula_6 : decode cX8_formula 6 = .ok (.iload_n 2, 1) := by decide +kernel
theorem dX8_formula_7 : decode cX8_formula 7 = .ok (.invokevirtual 78, 3) := by decide +kernel
theorem dX8_formula_10 : decode cX8_formula 10 = .ok (.ifCond .eq 11, 3) := by decide +kernel
theorem dX8_formula_13 : decode cX8_formula 13 = .ok (.aload_n 0, 1) := by decide +kernel
theorem dX8_formula_14 : decode cX8_formula 14 = .ok (.iload_n 3, 1) := by decide +kernel
theorem dX8_formula_15 : decode cX8_formula 15 = .ok (.invokevirtual 78, 3) := by decide +kernel
theorem dX8_formula_18 : decode cX8_formula 18 = .ok (.ifCond .ne 5, 3) := by decide +kernel
theorem dX8_formula_21 : decode cX8_formula 21 = .ok (.iconst (-1), 1) := by decide +kernel
theorem dX8_formula_22 : decode cX8_formula 22 = .ok (.ireturn, 1) := by decide +kernel
theorem dX8_formula_23 : decode cX8_formula 23 = .ok (.iload_n 1, 1) := by decide +kernel
theorem dX8_formula_24 : decode cX8_formula 24 = .ok (.ifCond .lt 8, 3) := by decide +kernel
theorem dX8_formula_27 : decode cX8_formula 27 = .ok (.iload_n 1, 1) := by decide +kernel
theorem dX8_formula_28 : decode cX8_formula 28 = .ok (.iconst 3, 1) := by decide +kernel
theorem dX8_formula_29 : decode cX8_formula 29 = .ok (.if_icmp .le 6, 3) := by decide +kernel
theorem dX8_formula_32 : decode cX8_formula 32 = .ok (.bipush (-2), 2) := by decide +kernel
theorem dX8_formula_34 : decode cX8_formula 34 = .ok (.ireturn, 1) := by decide +kernel
theorem dX8_formula_35 : decode cX8_formula 35 = .ok (.iload_n 1, 1) := by decide +kernel
theorem dX8_formula_36 : decode cX8_formula 36 = .ok (.ifCond .eq 8, 3) := by decide +kernel
theorem dX8_formula_39 : decode cX8_formula 39 = .ok (.iload_n 1, 1) := by decide +kernel
theorem dX8_formula_40 : decode cX8_formula 40 = .ok (.iconst 3, 1) := by decide +kernel
theorem dX8_formula_41 : decode cX8_formula 41 = .ok (.if_icmp .ne 16, 3) := by decide +kernel
theorem dX8_formula_44 : decode cX8_formula 44 = .ok (.iload_n 2, 1) := by decide +kernel
theorem dX8_formula_45 : decode cX8_formula 45 = .ok (.iload_n 3, 1) := by decide +kernel
theorem dX8_formula_46 : decode cX8_formula 46 = .ok (.if_icmp .ne 7, 3) := by decide +kernel
theorem dX8_formula_49 : decode cX8_formula 49 = .ok (.iconst 1, 1) := by decide +kernel
theorem dX8_formula_50 : decode cX8_formula 50 = .ok (.goto 18, 3) := by decide +kernel
theorem dX8_formula_53 : decode cX8_formula 53 = .ok (.iconst 0, 1) := by decide +kernel
theorem dX8_formula_54 : decode cX8_formula 54 = .ok (.goto 14, 3) := by decide +kernel
theorem dX8_formula_57 : decode cX8_formula 57 = .ok (.iload_n 2, 1) := by decide +kernel
theorem dX8_formula_58 : decode cX8_formula 58 = .ok (.iload_n 3, 1) := by decide +kernel
theorem dX8_formula_59 : decode cX8_formula 59 = .ok (.ineg, 1) := by decide +kernel
theorem dX8_formula_60 : decode cX8_formula 60 = .ok (.if_icmp .ne 7, 3) := by decide +kernel
theorem dX8_formula_63 : decode cX8_formula 63 = .ok (.iconst 1, 1) := by decide +kernel
theorem dX8_formula_64 : decode cX8_formula 64 = .ok (.goto 4, 3) := by decide +kernel
theorem dX8_formula_67 : decode cX8_formula 67 = .ok (.iconst 0, 1) := by decide +kernel
theorem dX8_formula_68 : decode cX8_formula 68 = .ok (.istore 4, 2) := by decide +kernel
theorem dX8_formula_70 : decode cX8_formula 70 = .ok (.aload_n 0, 1) := by decide +kernel
theorem dX8_formula_71 : decode cX8_formula 71 = .ok (.getfield 81, 3) := by decide +kernel
theorem dX8_formula_74 : decode cX8_formula 74 = .ok (.bipush 40, 2) := by decide +kernel
theorem dX8_formula_76 : decode cX8_formula 76 = .ok (.if_icmp .ne 6, 3) := by decide +kernel
theorem dX8_formula_79 : decode cX8_formula 79 = .ok (.bipush (-4), 2) := by decide +kernel
theorem dX8_formula_81 : decode cX8_formula 81 = .ok (.ireturn, 1) := by decide +kernel
theorem dX8_formula_82 : decode cX8_formula 82 = .ok (.iload 4, 2) := by decide +kernel
theorem dX8_formula_84 : decode cX8_formula 84 = .ok (.ifCond .eq 5, 3) := by decide +kernel
theorem dX8_formula_87 : decode cX8_formula 87 = .ok (.iconst 0, 1) := by decide +kernel
theorem dX8_formula_88 : decode cX8_formula 88 = .ok (.ireturn, 1) := by decide +kernel
theorem dX8_formula_89 : decode cX8_formula 89 = .ok (.aload_n 0, 1) := by decide +kernel
theorem dX8_formula_90 : decode cX8_formula 90 = .ok (.getfield 29, 3) := by decide +kernel
theorem dX8_formula_93 : decode cX8_formula 93 = .ok (.aload_n 0, 1) := by decide +kernel
theorem dX8_formula_94 : decode cX8_formula 94 = .ok (.getfield 81, 3) := by decide +kernel
theorem dX8_formula_97 : decode cX8_formula 97 = .ok (.iload_n 1, 1) := by decide +kernel
theorem dX8_formula_98 : decode cX8_formula 98 = .ok (.iastore, 1) := by decide +kernel
theorem dX8_formula_99 : decode cX8_formula 99 = .ok (.aload_n 0, 1) := by decide +kernel
theorem dX8_formula_100 : decode cX8_formula 100 = .ok (.getfield 32, 3) := by decide +kernel
theorem dX8_formula_103 : decode cX8_formula 103 = .ok (.aload_n 0, 1) := by decide +kernel
theorem dX8_formula_104 : decode cX8_formula 104 = .ok (.getfield 81, 3) := by decide +kernel
theorem dX8_formula_107 : decode cX8_formula 107 = .ok (.iload_n 2, 1) := by decide +kernel
theorem dX8_formula_108 : decode cX8_formula 108 = .ok (.iastore, 1) := by decide +kernel
theorem dX8_formula_109 : decode cX8_formula 109 = .ok (.aload_n 0, 1) := by decide +kernel
theorem dX8_formula_110 : decode cX8_formula 110 = .ok (.getfield 35, 3) := by decide +kernel
theorem dX8_formula_113 : decode cX8_formula 113 = .ok (.aload_n 0, 1) := by decide +kernel
theorem dX8_formula_114 : decode cX8_formula 114 = .ok (.getfield 81, 3) := by decide +kernel
theorem dX8_formula_117 : decode cX8_formula 117 = .ok (.iload_n 3, 1) := by decide +kernel
theorem dX8_formula_118 : decode cX8_formula 118 = .ok (.iastore, 1) := by decide +kernel
theorem dX8_formula_119 : decode cX8_formula 119 = .ok (.aload_n 0, 1) := by decide +kernel
theorem dX8_formula_120 : decode cX8_formula 120 = .ok (.dup, 1) := by decide +kernel
theorem dX8_formula_121 : decode cX8_formula 121 = .ok (.getfield 81, 3) := by decide +kernel
theorem dX8_formula_124 : decode cX8_formula 124 = .ok (.iconst 1, 1) := by decide +kernel
theorem dX8_formula_125 : decode cX8_formula 125 = .ok (.iadd, 1) := by decide +kernel
theorem dX8_formula_126 : decode cX8_formula 126 = .ok (.putfield 81, 3) := by decide +kernel
theorem dX8_formula_129 : decode cX8_formula 129 = .ok (.aload_n 0, 1) := by decide +kernel
theorem dX8_formula_130 : decode cX8_formula 130 = .ok (.iconst 0, 1) := by decide +kernel
theorem dX8_formula_131 : decode cX8_formula 131 = .ok (.putfield 70, 3) := by decide +kernel
theorem dX8_formula_134 : decode cX8_formula 134 = .ok (.aload_n 0, 1) := by decide +kernel
theorem dX8_formula_135 : decode cX8_formula 135 = .ok (.getfield 81, 3) := by decide +kernel
theorem dX8_formula_138 : decode cX8_formula 138 = .ok (.ireturn, 1) := by decide +kernel
set_option maxRecDepth 20000 in
theorem ggX8_attribute_X8_isFeature : GoodIn wsX8_attribute wsX8_isFeature := goodIn_r _ [10, 11, 12, 13, 14, 15, 16, 17, 18, 19, 20, 21, 22, 23, 24, 25, 26, 27, 28, 29, 30, 31, 32, 33, 34, 35, 36, 37, 38] (by decide +kernel) (by decide +kernel)
set_option maxRecDepth 20000 in
theorem gX8_attribute_X8_isFeature : GoodIn wsX8_attribute (wsV RX8 66 RX8 yX8_isFeature wsX8_isFeature) := goodIn_app (goodIn_of _ (by decide +kernel)) ggX8_attribute_X8_isFeature
theorem dX8_attribute_0 : decode cX8_attribute 0 = .ok (.aload_n 0, 1) := by decide +kernel
theorem dX8_attribute_1 : decode cX8_attribute 1 = .ok (.iconst 0, 1) := by decide +kernel
theorem dX8_attribute_2 : decode cX8_attribute 2 = .ok (.putfield 59, 3) := by decide +kernel
theorem dX8_attribute_5 : decode cX8_attribute 5 = .ok (.iload_n 1, 1) := by decide +kernel
theorem dX8_attribute_6 : decode cX8_attribute 6 = .ok (.ifCond .eq 13, 3) := by decide +kernel
theorem dX8_attribute_9 : decode cX8_attribute 9 = .ok (.aload_n 0, 1) := by decide +kernel
theorem dX8_attribute_10 : decode cX8_attribute 10 = .ok (.iload_n 1, 1) := by decide +kernel
theorem dX8_attribute_11 : decode cX8_attribute 11 = .ok (.invokevirtual 66, 3) := by decide +kernel
theorem dX8_attribute_14 : decode cX8_attribute 14 = .ok (.ifCond .ne 5, 3) := by decide +kernel
theorem dX8_attribute_17 : decode cX8_attribute 17 = .ok (.iconst (-1), 1) := by decide +kernel
theorem dX8_attribute_18 : decode cX8_attribute 18 = .ok (.ireturn, 1) := by decide +kernel
theorem dX8_attribute_19 : decode cX8_attribute 19 = .ok (.iload_n 1, 1) := by decide +kernel
theorem dX8_attribute_20 : decode cX8_attribute 20 = .ok (.ifCond .ne 9, 3) := by decide +kernel
theorem dX8_attribute_23 : decode cX8_attribute 23 = .ok (.sipush 10000, 3) := by decide +kernel
theorem dX8_attribute_26 : decode cX8_attribute 26 = .ok (.goto 6, 3) := by decide +kernel
theorem dX8_attribute_29 : decode cX8_attribute 29 = .ok (.sipush 1000, 3) := by decide +kernel
theorem dX8_attribute_32 : decode cX8_attribute 32 = .ok (.istore 4, 2) := by decide +kernel
theorem dX8_attribute_34 : decode cX8_attribute 34 = .ok (.iload_n 2, 1) := by decide +kernel
theorem dX8_attribute_35 : decode cX8_attribute 35 = .ok (.ifCond .lt 21, 3) := by decide +kernel
theorem dX8_attribute_38 : decode cX8_attribute 38 = .ok (.iload_n 2, 1) := by decide +kernel
theorem dX8_attribute_39 : decode cX8_attribute 39 = .ok (.iconst 3, 1) := by decide +kernel
theorem dX8_attribute_40 : decode cX8_attribute 40 = .ok (.if_icmp .gt 16, 3) := by decide +kernel
theorem dX8_attribute_43 : decode cX8_attribute 43 = .ok (.iload_n 3, 1) := by decide +kernel
theorem dX8_attribute_44 : decode cX8_attribute 44 = .ok (.iload 4, 2) := by decide +kernel
theorem dX8_attribute_46 : decode cX8_attribute 46 = .ok (.ineg, 1) := by decide +kernel
theorem dX8_attribute_47 : decode cX8_attribute 47 = .ok (.if_icmp .lt 9, 3) := by decide +kernel
theorem dX8_attribute_50 : decode cX8_attribute 50 = .ok (.iload_n 3, 1) := by decide +kernel
theorem dX8_attribute_51 : decode cX8_attribute 51 = .ok (.iload 4, 2) := by decide +kernel
theorem dX8_attribute_53 : decode cX8_attribute 53 = .ok (.if_icmp .le 6, 3) := by decide +kernel
theorem dX8_attribute_56 : decode cX8_attribute 56 = .ok (.bipush (-2), 2) := by decide +kernel
theorem dX8_attribute_58 : decode cX8_attribute 58 = .ok (.ireturn, 1) := by decide +kernel
theorem dX8_attribute_59 : decode cX8_attribute 59 = .ok (.iload_n 1, 1) := by decide +kernel
theorem dX8_attribute_60 : decode cX8_attribute 60 = .ok (.ifCond .ne 20, 3) := by decide +kernel
theorem dX8_attribute_63 : decode cX8_attribute 63 = .ok (.aload_n 0, 1) := by decide +kernel
theorem dX8_attribute_64 : decode cX8_attribute 64 = .ok (.getfield 38, 3) := by decide +kernel
theorem dX8_attribute_67 : decode cX8_attribute 67 = .ok (.iload_n 2, 1) := by decide +kernel
theorem dX8_attribute_68 : decode cX8_attribute 68 = .ok (.iconst 1, 1) := by decide +kernel
theorem dX8_attribute_69 : decode cX8_attribute 69 = .ok (.bastore, 1) := by decide +kernel
theorem dX8_attribute_70 : decode cX8_attribute 70 = .ok (.aload_n 0, 1) := by decide +kernel
theorem dX8_attribute_71 : decode cX8_attribute 71 = .ok (.getfield 41, 3) := by decide +kernel
theorem dX8_attribute_74 : decode cX8_attribute 74 = .ok (.iload_n 2, 1) := by decide +kernel
theorem dX8_attribute_75 : decode cX8_attribute 75 = .ok (.iload_n 3, 1) := by decide +kernel
theorem dX8_attribute_76 : decode cX8_attribute 76 = .ok (.iastore, 1) := by decide +kernel
theorem dX8_attribute_77 : decode cX8_attribute 77 = .ok (.goto 14, 3) := by decide +kernel
theorem dX8_attribute_80 : decode cX8_attribute 80 = .ok (.aload_n 0, 1) := by decide +kernel
theorem dX8_attribute_81 : decode cX8_attribute 81 = .ok (.getfield 26, 3) := by decide +kernel
theorem dX8_attribute_84 : decode cX8_attribute 84 = .ok (.iconst 4, 1) := by decide +kernel
theorem dX8_attribute_85 : decode cX8_attribute 85 = .ok (.iload_n 1, 1) := by decide +kernel
theorem dX8_attribute_86 : decode cX8_attribute 86 = .ok (.imul, 1) := by decide +kernel
theorem dX8_attribute_87 : decode cX8_attribute 87 = .ok (.iload_n 2, 1) := by decide +kernel
theorem dX8_attribute_88 : decode cX8_attribute 88 = .ok (.iadd, 1) := by decide +kernel
theorem dX8_attribute_89 : decode cX8_attribute 89 = .ok (.iload_n 3, 1) := by decide +kernel
theorem dX8_attribute_90 : decode cX8_attribute 90 = .ok (.iastore, 1) := by decide +kernel
theorem dX8_attribute_91 : decode cX8_attribute 91 = .ok (.aload_n 0, 1) := by decide +kernel
theorem dX8_attribute_92 : decode cX8_attribute 92 = .ok (.iconst 0, 1) := by decide +kernel
theorem dX8_attribute_93 : decode cX8_attribute 93 = .ok (.putfield 70, 3) := by decide +kernel
theorem dX8_attribute_96 : decode cX8_attribute 96 = .ok (.iconst 1, 1) := by decide +kernel
theorem dX8_attribute_97 : decode cX8_attribute 97 = .ok (.ireturn, 1) := by decide +kernel
theorem dX8_choiceOf_0 : decode cX8_choiceOf 0 = .ok (.iconst (-1), 1) := by decide +kernel
theorem dX8_choiceOf_1 : decode cX8_choiceOf 1 = .ok (.istore_n 2, 1) := by decide +kernel
theorem dX8_choiceOf_2 : decode cX8_choiceOf 2 = .ok (.iconst 0, 1) := by decide +kernel
theorem dX8_choiceOf_3 : decode cX8_choiceOf 3 = .ok (.istore_n 3, 1) := by decide +kernel
theorem dX8_choiceOf_4 : decode cX8_choiceOf 4 = .ok (.iload_n 3, 1) := by decide +kernel
theorem dX8_choiceOf_5 : decode cX8_choiceOf 5 = .ok (.aload_n 0, 1) := by decide +kernel
theorem dX8_choiceOf_6 : decode cX8_choiceOf 6 = .ok (.getfield 84, 3) := by decide +kernel
theorem dX8_choiceOf_9 : decode cX8_choiceOf 9 = .ok (.if_icmp .ge 36, 3) := by decide +kernel
theorem dX8_choiceOf_12 : decode cX8_choiceOf 12 = .ok (.aload_n 0, 1) := by decide +kernel
theorem dX8_choiceOf_13 : decode cX8_choiceOf 13 = .ok (.getfield 44, 3) := by decide +kernel
theorem dX8_choiceOf_16 : decode cX8_choiceOf 16 = .ok (.iload_n 3, 1) := by decide +kernel
theorem dX8_choiceOf_17 : decode cX8_choiceOf 17 = .ok (.iaload, 1) := by decide +kernel
theorem dX8_choiceOf_18 : decode cX8_choiceOf 18 = .ok (.iload_n 1, 1) := by decide +kernel
theorem dX8_choiceOf_19 : decode cX8_choiceOf 19 = .ok (.if_icmp .eq 14, 3) := by decide +kernel
theorem dX8_choiceOf_22 : decode cX8_choiceOf 22 = .ok (.aload_n 0, 1) := by decide +kernel
theorem dX8_choiceOf_23 : decode cX8_choiceOf 23 = .ok (.getfield 44, 3) := by decide +kernel
theorem dX8_choiceOf_26 : decode cX8_choiceOf 26 = .ok (.iload_n 3, 1) := by decide +kernel
theorem dX8_choiceOf_27 : decode cX8_choiceOf 27 = .ok (.iaload, 1) := by decide +kernel
theorem dX8_choiceOf_28 : decode cX8_choiceOf 28 = .ok (.iload_n 1, 1) := by decide +kernel
theorem dX8_choiceOf_29 : decode cX8_choiceOf 29 = .ok (.ineg, 1) := by decide +kernel
theorem dX8_choiceOf_30 : decode cX8_choiceOf 30 = .ok (.if_icmp .ne 7, 3) := by decide +kernel
theorem dX8_choiceOf_33 : decode cX8_choiceOf 33 = .ok (.iload_n 3, 1) := by decide +kernel
theorem dX8_choiceOf_34 : decode cX8_choiceOf 34 = .ok (.goto 4, 3) := by decide +kernel
theorem dX8_choiceOf_37 : decode cX8_choiceOf 37 = .ok (.iload_n 2, 1) := by decide +kernel
theorem dX8_choiceOf_38 : decode cX8_choiceOf 38 = .ok (.istore_n 2, 1) := by decide +kernel
theorem dX8_choiceOf_39 : decode cX8_choiceOf 39 = .ok (.iinc 3 1, 3) := by decide +kernel
theorem dX8_choiceOf_42 : decode cX8_choiceOf 42 = .ok (.goto (-38), 3) := by decide +kernel
theorem dX8_choiceOf_45 : decode cX8_choiceOf 45 = .ok (.iload_n 2, 1) := by decide +kernel
theorem dX8_choiceOf_46 : decode cX8_choiceOf 46 = .ok (.ireturn, 1) := by decide +kernel
theorem dX8_forget_0 : decode cX8_forget 0 = .ok (.iload_n 1, 1) := by decide +kernel
theorem dX8_forget_1 : decode cX8_forget 1 = .ok (.istore_n 2, 1) := by decide +kernel
theorem dX8_forget_2 : decode cX8_forget 2 = .ok (.iload_n 2, 1) := by decide +kernel
theorem dX8_forget_3 : decode cX8_forget 3 = .ok (.iconst 1, 1) := by decide +kernel
theorem dX8_forget_4 : decode cX8_forget 4 = .ok (.iadd, 1) := by decide +kernel
theorem dX8_forget_5 : decode cX8_forget 5 = .ok (.aload_n 0, 1) := by decide +kernel
theorem dX8_forget_6 : decode cX8_forget 6 = .ok (.getfield 84, 3) := by decide +kernel
theorem dX8_forget_9 : decode cX8_forget 9 = .ok (.if_icmp .ge 23, 3) := by decide +kernel
theorem dX8_forget_12 : decode cX8_forget 12 = .ok (.aload_n 0, 1) := by decide +kernel
theorem dX8_forget_13 : decode cX8_forget 13 = .ok (.getfield 44, 3) := by decide +kernel
theorem dX8_forget_16 : decode cX8_forget 16 = .ok (.iload_n 2, 1) := by decide +kernel
theorem dX8_forget_17 : decode cX8_forget 17 = .ok (.aload_n 0, 1) := by decide +kernel
theorem dX8_forget_18 : decode cX8_forget 18 = .ok (.getfield 44, 3) := by decide +kernel
theorem dX8_forget_21 : decode cX8_forget 21 = .ok (.iload_n 2, 1) := by decide +kernel
theorem dX8_forget_22 : decode cX8_forget 22 = .ok (.iconst 1, 1) := by decide +kernel
theorem dX8_forget_23 : decode cX8_forget 23 = .ok (.iadd, 1) := by decide +kernel
theorem dX8_forget_24 : decode cX8_forget 24 = .ok (.iaload, 1) := by decide +kernel
theorem dX8_forget_25 : decode cX8_forget 25 = .ok (.iastore, 1) := by decide +kernel
theorem dX8_forget_26 : decode cX8_forget 26 = .ok (.iinc 2 1, 3) := by decide +kernel
theorem dX8_forget_29 : decode cX8_forget 29 = .ok (.goto (-27), 3) := by decide +kernel
theorem dX8_forget_32 : decode cX8_forget 32 = .ok (.aload_n 0, 1) := by decide +kernel
theorem dX8_forget_33 : decode cX8_forget 33 = .ok (.dup, 1) := by decide +kernel
theorem dX8_forget_34 : decode cX8_forget 34 = .ok (.getfield 84, 3) := by decide +kernel
theorem dX8_forget_37 : decode cX8_forget 37 = .ok (.iconst 1, 1) := by decide +kernel
theorem dX8_forget_38 : decode cX8_forget 38 = .ok (.isub, 1) := by decide +kernel
theorem dX8_forget_39 : decode cX8_forget 39 = .ok (.putfield 84, 3) := by decide +kernel
theorem dX8_forget_42 : decode cX8_forget 42 = .ok (.return_, 1) := by decide +kernel
set_option maxRecDepth 20000 in
theorem ggX8_choose_X8_isLiteral : GoodIn wsX8_choose wsX8_isLiteral := goodIn_r _ [8, 9, 10, 11, 7, 12, 13, 22, 23, 24, 25, 26, 27, 28, 29, 30, 31, 32, 33, 34, 35, 36, 37, 38, 39, 40, 41, 42, 43, 44, 45, 46, 47, 48] (by decide +kernel) (by decide +kernel)
set_option maxRecDepth 20000 in
theorem gX8_choose_X8_isLiteral : GoodIn wsX8_choose (wsV RX8 78 RX8 yX8_isLiteral wsX8_isLiteral) := goodIn_app (goodIn_of _ (by decide +kernel)) ggX8_choose_X8_isLiteral
set_option maxRecDepth 20000 in
theorem ggX8_choose_X8_choiceOf : GoodIn wsX8_choose wsX8_choiceOf := goodIn_ca (goodIn_r _ [17, 3, 2, 22, 23, 24, 25, 26, 27, 28, 29, 30, 31, 32, 33, 34, 35, 36, 37, 38, 39, 40, 41, 42, 43, 44, 45, 46, 47, 48] (by decide +kernel) (by decide +kernel)) (goodIn_sub (fun _ h => List.mem_cons_of_mem _ (List.mem_append_right _ h)) (by decide +kernel))
set_option maxRecDepth 20000 in
theorem gX8_choose_X8_choiceOf : GoodIn wsX8_choose (wsV RX8 87 RX8 yX8_choiceOf wsX8_choiceOf) := goodIn_app (goodIn_of _ (by decide +kernel)) ggX8_choose_X8_choiceOf
set_option maxRecDepth 20000 in
theorem ggX8_choose_X8_forget : GoodIn wsX8_choose wsX8_forget := goodIn_ca (goodIn_r _ [21, 3, 2, 22, 23, 24, 25, 26, 27, 28, 29, 30, 31, 32, 33, 34, 35, 36, 37, 38, 39, 40, 41, 42, 43, 44, 45, 46, 47, 48] (by decide +kernel) (by decide +kernel)) (goodIn_sub (fun _ h => List.mem_cons_of_mem _ (List.mem_append_right _ h)) (by decide +kernel))
set_option maxRecDepth 20000 in
theorem gX8_choose_X8_forget : GoodIn wsX8_choose (wsV RX8 90 RX8 yX8_forget wsX8_forget) := goodIn_app (goodIn_of _ (by decide +kernel)) ggX8_choose_X8_forget
theorem dX8_choose_0 : decode cX8_choose 0 = .ok (.aload_n 0, 1) := by decide +kernel
theorem dX8_choose_1 : decode cX8_choose 1 = .ok (.iconst 0, 1) := by decide +kernel
theorem dX8_choose_2 : decode cX8_choose 2 = .ok (.putfield 59, 3) := by decide +kernel
theorem dX8_choose_5 : decode cX8_choose 5 = .ok (.aload_n 0, 1) := by decide +kernel
theorem dX8_choose_6 : decode cX8_choose 6 = .ok (.iload_n 1, 1) := by decide +kernel
theorem dX8_choose_7 : decode cX8_choose 7 = .ok (.invokevirtual 78, 3) := by decide +kernel
theorem dX8_choose_10 : decode cX8_choose 10 = .ok (.ifCond .ne 5, 3) := by decide +kernel
theorem dX8_choose_13 : decode cX8_choose 13 = .ok (.iconst (-1), 1) := by decide +kernel
theorem dX8_choose_14 : decode cX8_choose 14 = .ok (.ireturn, 1) := by decide +kernel
theorem dX8_choose_15 : decode cX8_choose 15 = .ok (.iload_n 1, 1) := by decide +kernel
theorem dX8_choose_16 : decode cX8_choose 16 = .ok (.ifCond .ge 8, 3) := by decide +kernel
theorem dX8_choose_19 : decode cX8_choose 19 = .ok (.iload_n 1, 1) := by decide +kernel
theorem dX8_choose_20 : decode cX8_choose 20 = .ok (.ineg, 1) := by decide +kernel
theorem dX8_choose_21 : decode cX8_choose 21 = .ok (.goto 4, 3) := by decide +kernel
theorem dX8_choose_24 : decode cX8_choose 24 = .ok (.iload_n 1, 1) := by decide +kernel
theorem dX8_choose_25 : decode cX8_choose 25 = .ok (.istore_n 3, 1) := by decide +kernel
theorem dX8_choose_26 : decode cX8_choose 26 = .ok (.aload_n 0, 1) := by decide +kernel
theorem dX8_choose_27 : decode cX8_choose 27 = .ok (.iload_n 3, 1) := by decide +kernel
theorem dX8_choose_28 : decode cX8_choose 28 = .ok (.invokevirtual 87, 3) := by decide +kernel
theorem dX8_choose_31 : decode cX8_choose 31 = .ok (.istore 4, 2) := by decide +kernel
theorem dX8_choose_33 : decode cX8_choose 33 = .ok (.iload 4, 2) := by decide +kernel
theorem dX8_choose_35 : decode cX8_choose 35 = .ok (.ifCond .lt 9, 3) := by decide +kernel
theorem dX8_choose_38 : decode cX8_choose 38 = .ok (.aload_n 0, 1) := by decide +kernel
theorem dX8_choose_39 : decode cX8_choose 39 = .ok (.iload 4, 2) := by decide +kernel
theorem dX8_choose_41 : decode cX8_choose 41 = .ok (.invokevirtual 90, 3) := by decide +kernel
theorem dX8_choose_44 : decode cX8_choose 44 = .ok (.iload_n 1, 1) := by decide +kernel
theorem dX8_choose_45 : decode cX8_choose 45 = .ok (.ifCond .le 32, 3) := by decide +kernel
theorem dX8_choose_48 : decode cX8_choose 48 = .ok (.aload_n 0, 1) := by decide +kernel
theorem dX8_choose_49 : decode cX8_choose 49 = .ok (.getfield 44, 3) := by decide +kernel
theorem dX8_choose_52 : decode cX8_choose 52 = .ok (.aload_n 0, 1) := by decide +kernel
theorem dX8_choose_53 : decode cX8_choose 53 = .ok (.getfield 84, 3) := by decide +kernel
theorem dX8_choose_56 : decode cX8_choose 56 = .ok (.iload_n 2, 1) := by decide +kernel
theorem dX8_choose_57 : decode cX8_choose 57 = .ok (.ifCond .eq 7, 3) := by decide +kernel
theorem dX8_choose_60 : decode cX8_choose 60 = .ok (.iload_n 3, 1) := by decide +kernel
theorem dX8_choose_61 : decode cX8_choose 61 = .ok (.goto 5, 3) := by decide +kernel
theorem dX8_choose_64 : decode cX8_choose 64 = .ok (.iload_n 3, 1) := by decide +kernel
theorem dX8_choose_65 : decode cX8_choose 65 = .ok (.ineg, 1) := by decide +kernel
theorem dX8_choose_66 : decode cX8_choose 66 = .ok (.iastore, 1) := by decide +kernel
theorem dX8_choose_67 : decode cX8_choose 67 = .ok (.aload_n 0, 1) := by decide +kernel
theorem dX8_choose_68 : decode cX8_choose 68 = .ok (.dup, 1) := by decide +kernel
theorem dX8_choose_69 : decode cX8_choose 69 = .ok (.getfield 84, 3) := by decide +kernel
theorem dX8_choose_72 : decode cX8_choose 72 = .ok (.iconst 1, 1) := by decide +kernel
theorem dX8_choose_73 : decode cX8_choose 73 = .ok (.iadd, 1) := by decide +kernel
theorem dX8_choose_74 : decode cX8_choose 74 = .ok (.putfield 84, 3) := by decide +kernel
theorem dX8_choose_77 : decode cX8_choose 77 = .ok (.aload_n 0, 1) := by decide +kernel
theorem dX8_choose_78 : decode cX8_choose 78 = .ok (.getfield 84, 3) := by decide +kernel
theorem dX8_choose_81 : decode cX8_choose 81 = .ok (.ireturn, 1) := by decide +kernel
theorem dX8_isIn_0 : decode cX8_isIn 0 = .ok (.iload_n 1, 1) := by decide +kernel
theorem dX8_isIn_1 : decode cX8_isIn 1 = .ok (.aload_n 0, 1) := by decide +kernel
theorem dX8_isIn_2 : decode cX8_isIn 2 = .ok (.getfield 63, 3) := by decide +kernel
theorem dX8_isIn_5 : decode cX8_isIn 5 = .ok (.iload_n 2, 1) := by decide +kernel
theorem dX8_isIn_6 : decode cX8_isIn 6 = .ok (.isub, 1) := by decide +kernel
theorem dX8_isIn_7 : decode cX8_isIn 7 = .ok (.ishr, 1) := by decide +kernel
theorem dX8_isIn_8 : decode cX8_isIn 8 = .ok (.iconst 1, 1) := by decide +kernel
theorem dX8_isIn_9 : decode cX8_isIn 9 = .ok (.iand, 1) := by decide +kernel
theorem dX8_isIn_10 : decode cX8_isIn 10 = .ok (.iconst 1, 1) := by decide +kernel
theorem dX8_isIn_11 : decode cX8_isIn 11 = .ok (.if_icmp .ne 7, 3) := by decide +kernel
theorem dX8_isIn_14 : decode cX8_isIn 14 = .ok (.iconst 1, 1) := by decide +kernel
theorem dX8_isIn_15 : decode cX8_isIn 15 = .ok (.goto 4, 3) := by decide +kernel
theorem dX8_isIn_18 : decode cX8_isIn 18 = .ok (.iconst 0, 1) := by decide +kernel
theorem dX8_isIn_19 : decode cX8_isIn 19 = .ok (.ireturn, 1) := by decide +kernel
set_option maxRecDepth 20000 in
theorem ggX8_holds_X8_isIn : GoodIn wsX8_holds wsX8_isIn := goodIn_r _ [5, 6, 7, 8, 9, 10, 11, 12, 13, 14, 15, 16, 17, 18, 19, 20, 21, 22, 23, 24, 25, 26, 27, 28, 29, 30, 31, 32, 33] (by decide +kernel) (by decide +kernel)
set_option maxRecDepth 20000 in
theorem gX8_holds_X8_isIn : GoodIn wsX8_holds (wsV RX8 94 RX8 yX8_isIn wsX8_isIn) := goodIn_app (goodIn_of _ (by decide +kernel)) ggX8_holds_X8_isIn
theorem dX8_holds_0 : decode cX8_holds 0 = .ok (.iload_n 2, 1) := by decide +kernel
theorem dX8_holds_1 : decode cX8_holds 1 = .ok (.ifCond .le 12, 3) := by decide +kernel
theorem dX8_holds_4 : decode cX8_holds 4 = .ok (.aload_n 0, 1) := by decide +kernel
theorem dX8_holds_5 : decode cX8_holds 5 = .ok (.iload_n 1, 1) := by decide +kernel
theorem dX8_holds_6 : decode cX8_holds 6 = .ok (.iload_n 2, 1) := by decide +kernel
theorem dX8_holds_7 : decode cX8_holds 7 = .ok (.invokevirtual 94, 3) := by decide +kernel
theorem dX8_holds_10 : decode cX8_holds 10 = .ok (.goto 18, 3) := by decide +kernel
theorem dX8_holds_13 : decode cX8_holds 13 = .ok (.aload_n 0, 1) := by decide +kernel
theorem dX8_holds_14 : decode cX8_holds 14 = .ok (.iload_n 1, 1) := by decide +kernel
theorem dX8_holds_15 : decode cX8_holds 15 = .ok (.iload_n 2, 1) := by decide +kernel
theorem dX8_holds_16 : decode cX8_holds 16 = .ok (.ineg, 1) := by decide +kernel
theorem dX8_holds_17 : decode cX8_holds 17 = .ok (.invokevirtual 94, 3) := by decide +kernel
theorem dX8_holds_20 : decode cX8_holds 20 = .ok (.ifCond .ne 7, 3) := by decide +kernel
theorem dX8_holds_23 : decode cX8_holds 23 = .ok (.iconst 1, 1) := by decide +kernel
theorem dX8_holds_24 : decode cX8_holds 24 = .ok (.goto 4, 3) := by decide +kernel
theorem dX8_holds_27 : decode cX8_holds 27 = .ok (.iconst 0, 1) := by decide +kernel
theorem dX8_holds_28 : decode cX8_holds 28 = .ok (.ireturn, 1) := by decide +kernel
set_option maxRecDepth 20000 in
theorem ggX8_keepsTree_X8_isIn : GoodIn wsX8_keepsTree wsX8_isIn := goodIn_r _ [11, 1, 12, 13, 14, 15, 16, 17, 18, 19, 20, 21, 22, 23, 24, 25, 26, 27, 28, 29, 30, 31, 32, 33, 34, 35, 36, 37, 38] (by decide +kernel) (by decide +kernel)
set_option maxRecDepth 20000 in
theorem gX8_keepsTree_X8_isIn : GoodIn wsX8_keepsTree (wsV RX8 94 RX8 yX8_isIn wsX8_isIn) := goodIn_app (goodIn_of _ (by decide +kernel)) ggX8_keepsTree_X8_isIn
theorem dX8_keepsTree_0 : decode cX8_keepsTree 0 = .ok (.aload_n 0, 1) := by decide +kernel
theorem dX8_keepsTree_1 : decode cX8_keepsTree 1 = .ok (.getfield 63, 3) := by decide +kernel
theorem dX8_keepsTree_4 : decode cX8_keepsTree 4 = .ok (.ifCond .eq 12, 3) := by decide +kernel
theorem dX8_keepsTree_7 : decode cX8_keepsTree 7 = .ok (.aload_n 0, 1) := by decide +kernel
theorem dX8_keepsTree_8 : decode cX8_keepsTree 8 = .ok (.iload_n 1, 1) := by decide +kernel
theorem dX8_keepsTree_9 : decode cX8_keepsTree 9 = .ok (.iconst 1, 1) := by decide +kernel
theorem dX8_keepsTree_10 : decode cX8_keepsTree 10 = .ok (.invokevirtual 94, 3) := by decide +kernel
theorem dX8_keepsTree_13 : decode cX8_keepsTree 13 = .ok (.ifCond .eq 7, 3) := by decide +kernel
theorem dX8_keepsTree_16 : decode cX8_keepsTree 16 = .ok (.iconst 1, 1) := by decide +kernel
theorem dX8_keepsTree_17 : decode cX8_keepsTree 17 = .ok (.goto 4, 3) := by decide +kernel
theorem dX8_keepsTree_20 : decode cX8_keepsTree 20 = .ok (.iconst 0, 1) := by decide +kernel
theorem dX8_keepsTree_21 : decode cX8_keepsTree 21 = .ok (.istore_n 2, 1) := by decide +kernel
theorem dX8_keepsTree_22 : decode cX8_keepsTree 22 = .ok (.iconst 2, 1) := by decide +kernel
theorem dX8_keepsTree_23 : decode cX8_keepsTree 23 = .ok (.istore_n 3, 1) := by decide +kernel
theorem dX8_keepsTree_24 : decode cX8_keepsTree 24 = .ok (.iload_n 3, 1) := by decide +kernel
theorem dX8_keepsTree_25 : decode cX8_keepsTree 25 = .ok (.aload_n 0, 1) := by decide +kernel
theorem dX8_keepsTree_26 : decode cX8_keepsTree 26 = .ok (.getfield 63, 3) := by decide +kernel
theorem dX8_keepsTree_29 : decode cX8_keepsTree 29 = .ok (.if_icmp .gt 69, 3) := by decide +kernel
theorem dX8_keepsTree_32 : decode cX8_keepsTree 32 = .ok (.iload_n 2, 1) := by decide +kernel
theorem dX8_keepsTree_33 : decode cX8_keepsTree 33 = .ok (.ifCond .eq 65, 3) := by decide +kernel
theorem dX8_keepsTree_36 : decode cX8_keepsTree 36 = .ok (.aload_n 0, 1) := by decide +kernel
theorem dX8_keepsTree_37 : decode cX8_keepsTree 37 = .ok (.iload_n 1, 1) := by decide +kernel
theorem dX8_keepsTree_38 : decode cX8_keepsTree 38 = .ok (.aload_n 0, 1) := by decide +kernel
theorem dX8_keepsTree_39 : decode cX8_keepsTree 39 = .ok (.getfield 7, 3) := by decide +kernel
theorem dX8_keepsTree_42 : decode cX8_keepsTree 42 = .ok (.iload_n 3, 1) := by decide +kernel
theorem dX8_keepsTree_43 : decode cX8_keepsTree 43 = .ok (.iaload, 1) := by decide +kernel
theorem dX8_keepsTree_44 : decode cX8_keepsTree 44 = .ok (.invokevirtual 94, 3) := by decide +kernel
theorem dX8_keepsTree_47 : decode cX8_keepsTree 47 = .ok (.istore 4, 2) := by decide +kernel
theorem dX8_keepsTree_49 : decode cX8_keepsTree 49 = .ok (.iload 4, 2) := by decide +kernel
theorem dX8_keepsTree_51 : decode cX8_keepsTree 51 = .ok (.ifCond .ne 12, 3) := by decide +kernel
theorem dX8_keepsTree_54 : decode cX8_keepsTree 54 = .ok (.aload_n 0, 1) := by decide +kernel
theorem dX8_keepsTree_55 : decode cX8_keepsTree 55 = .ok (.iload_n 1, 1) := by decide +kernel
theorem dX8_keepsTree_56 : decode cX8_keepsTree 56 = .ok (.iload_n 3, 1) := by decide +kernel
theorem dX8_keepsTree_57 : decode cX8_keepsTree 57 = .ok (.invokevirtual 94, 3) := by decide +kernel
theorem dX8_keepsTree_60 : decode cX8_keepsTree 60 = .ok (.ifCond .ne 30, 3) := by decide +kernel
theorem dX8_keepsTree_63 : decode cX8_keepsTree 63 = .ok (.aload_n 0, 1) := by decide +kernel
theorem dX8_keepsTree_64 : decode cX8_keepsTree 64 = .ok (.getfield 13, 3) := by decide +kernel
theorem dX8_keepsTree_67 : decode cX8_keepsTree 67 = .ok (.iload_n 3, 1) := by decide +kernel
theorem dX8_keepsTree_68 : decode cX8_keepsTree 68 = .ok (.iaload, 1) := by decide +kernel
theorem dX8_keepsTree_69 : decode cX8_keepsTree 69 = .ok (.ifCond .ne 17, 3) := by decide +kernel
theorem dX8_keepsTree_72 : decode cX8_keepsTree 72 = .ok (.iload 4, 2) := by decide +kernel
theorem dX8_keepsTree_74 : decode cX8_keepsTree 74 = .ok (.ifCond .eq 12, 3) := by decide +kernel
theorem dX8_keepsTree_77 : decode cX8_keepsTree 77 = .ok (.aload_n 0, 1) := by decide +kernel
theorem dX8_keepsTree_78 : decode cX8_keepsTree 78 = .ok (.iload_n 1, 1) := by decide +kernel
theorem dX8_keepsTree_79 : decode cX8_keepsTree 79 = .ok (.iload_n 3, 1) := by decide +kernel
theorem dX8_keepsTree_80 : decode cX8_keepsTree 80 = .ok (.invokevirtual 94, 3) := by decide +kernel
theorem dX8_keepsTree_83 : decode cX8_keepsTree 83 = .ok (.ifCond .eq 7, 3) := by decide +kernel
theorem dX8_keepsTree_86 : decode cX8_keepsTree 86 = .ok (.iconst 1, 1) := by decide +kernel
theorem dX8_keepsTree_87 : decode cX8_keepsTree 87 = .ok (.goto 4, 3) := by decide +kernel
theorem dX8_keepsTree_90 : decode cX8_keepsTree 90 = .ok (.iconst 0, 1) := by decide +kernel
theorem dX8_keepsTree_91 : decode cX8_keepsTree 91 = .ok (.istore_n 2, 1) := by decide +kernel
theorem dX8_keepsTree_92 : decode cX8_keepsTree 92 = .ok (.iinc 3 1, 3) := by decide +kernel
theorem dX8_keepsTree_95 : decode cX8_keepsTree 95 = .ok (.goto (-71), 3) := by decide +kernel
theorem dX8_keepsTree_98 : decode cX8_keepsTree 98 = .ok (.iconst 1, 1) := by decide +kernel
theorem dX8_keepsTree_99 : decode cX8_keepsTree 99 = .ok (.istore_n 3, 1) := by decide +kernel
theorem dX8_keepsTree_100 : decode cX8_keepsTree 100 = .ok (.iload_n 3, 1) := by decide +kernel
theorem dX8_keepsTree_101 : decode cX8_keepsTree 101 = .ok (.aload_n 0, 1) := by decide +kernel
theorem dX8_keepsTree_102 : decode cX8_keepsTree 102 = .ok (.getfield 63, 3) := by decide +kernel
theorem dX8_keepsTree_105 : decode cX8_keepsTree 105 = .ok (.if_icmp .gt 123, 3) := by decide +kernel
theorem dX8_keepsTree_108 : decode cX8_keepsTree 108 = .ok (.iload_n 2, 1) := by decide +kernel
theorem dX8_keepsTree_109 : decode cX8_keepsTree 109 = .ok (.ifCond .eq 119, 3) := by decide +kernel
theorem dX8_keepsTree_112 : decode cX8_keepsTree 112 = .ok (.iconst 0, 1) := by decide +kernel
theorem dX8_keepsTree_113 : decode cX8_keepsTree 113 = .ok (.istore 4, 2) := by decide +kernel
theorem dX8_keepsTree_115 : decode cX8_keepsTree 115 = .ok (.iconst 1, 1) := by decide +kernel
theorem dX8_keepsTree_116 : decode cX8_keepsTree 116 = .ok (.istore 5, 2) := by decide +kernel
theorem dX8_keepsTree_118 : decode cX8_keepsTree 118 = .ok (.iload 5, 2) := by decide +kernel
theorem dX8_keepsTree_120 : decode cX8_keepsTree 120 = .ok (.aload_n 0, 1) := by decide +kernel
theorem dX8_keepsTree_121 : decode cX8_keepsTree 121 = .ok (.getfield 63, 3) := by decide +kernel
theorem dX8_keepsTree_124 : decode cX8_keepsTree 124 = .ok (.if_icmp .gt 52, 3) := by decide +kernel
theorem dX8_keepsTree_127 : decode cX8_keepsTree 127 = .ok (.aload_n 0, 1) := by decide +kernel
theorem dX8_keepsTree_128 : decode cX8_keepsTree 128 = .ok (.getfield 7, 3) := by decide +kernel
theorem dX8_keepsTree_131 : decode cX8_keepsTree 131 = .ok (.iload 5, 2) := by decide +kernel
theorem dX8_keepsTree_133 : decode cX8_keepsTree 133 = .ok (.iaload, 1) := by decide +kernel
theorem dX8_keepsTree_134 : decode cX8_keepsTree 134 = .ok (.iload_n 3, 1) := by decide +kernel
theorem dX8_keepsTree_135 : decode cX8_keepsTree 135 = .ok (.if_icmp .ne 31, 3) := by decide +kernel
theorem dX8_keepsTree_138 : decode cX8_keepsTree 138 = .ok (.aload_n 0, 1) := by decide +kernel
theorem dX8_keepsTree_139 : decode cX8_keepsTree 139 = .ok (.getfield 13, 3) := by decide +kernel
theorem dX8_keepsTree_142 : decode cX8_keepsTree 142 = .ok (.iload 5, 2) := by decide +kernel
theorem dX8_keepsTree_144 : decode cX8_keepsTree 144 = .ok (.iaload, 1) := by decide +kernel
theorem dX8_keepsTree_145 : decode cX8_keepsTree 145 = .ok (.iconst 2, 1) := by decide +kernel
theorem dX8_keepsTree_146 : decode cX8_keepsTree 146 = .ok (.if_icmp .ne 20, 3) := by decide +kernel
theorem dX8_keepsTree_149 : decode cX8_keepsTree 149 = .ok (.aload_n 0, 1) := by decide +kernel
theorem dX8_keepsTree_150 : decode cX8_keepsTree 150 = .ok (.iload_n 1, 1) := by decide +kernel
theorem dX8_keepsTree_151 : decode cX8_keepsTree 151 = .ok (.iload 5, 2) := by decide +kernel
theorem dX8_keepsTree_153 : decode cX8_keepsTree 153 = .ok (.invokevirtual 94, 3) := by decide +kernel
theorem dX8_keepsTree_156 : decode cX8_keepsTree 156 = .ok (.ifCond .eq 10, 3) := by decide +kernel
theorem dX8_keepsTree_159 : decode cX8_keepsTree 159 = .ok (.iload 4, 2) := by decide +kernel
theorem dX8_keepsTree_161 : decode cX8_keepsTree 161 = .ok (.iconst 1, 1) := by decide +kernel
theorem dX8_keepsTree_162 : decode cX8_keepsTree 162 = .ok (.iadd, 1) := by decide +kernel
theorem dX8_keepsTree_163 : decode cX8_keepsTree 163 = .ok (.goto 5, 3) := by decide +kernel
theorem dX8_keepsTree_166 : decode cX8_keepsTree 166 = .ok (.iload 4, 2) := by decide +kernel
theorem dX8_keepsTree_168 : decode cX8_keepsTree 168 = .ok (.istore 4, 2) := by decide +kernel
theorem dX8_keepsTree_170 : decode cX8_keepsTree 170 = .ok (.iinc 5 1, 3) := by decide +kernel
theorem dX8_keepsTree_173 : decode cX8_keepsTree 173 = .ok (.goto (-55), 3) := by decide +kernel
theorem dX8_keepsTree_176 : decode cX8_keepsTree 176 = .ok (.aload_n 0, 1) := by decide +kernel
theorem dX8_keepsTree_177 : decode cX8_keepsTree 177 = .ok (.getfield 16, 3) := by decide +kernel
theorem dX8_keepsTree_180 : decode cX8_keepsTree 180 = .ok (.iload_n 3, 1) := by decide +kernel
theorem dX8_keepsTree_181 : decode cX8_keepsTree 181 = .ok (.baload, 1) := by decide +kernel
theorem dX8_keepsTree_182 : decode cX8_keepsTree 182 = .ok (.ifCond .eq 34, 3) := by decide +kernel
theorem dX8_keepsTree_185 : decode cX8_keepsTree 185 = .ok (.aload_n 0, 1) := by decide +kernel
theorem dX8_keepsTree_186 : decode cX8_keepsTree 186 = .ok (.iload_n 1, 1) := by decide +kernel
theorem dX8_keepsTree_187 : decode cX8_keepsTree 187 = .ok (.iload_n 3, 1) := by decide +kernel
theorem dX8_keepsTree_188 : decode cX8_keepsTree 188 = .ok (.invokevirtual 94, 3) := by decide +kernel
theorem dX8_keepsTree_191 : decode cX8_keepsTree 191 = .ok (.ifCond .eq 25, 3) := by decide +kernel
theorem dX8_keepsTree_194 : decode cX8_keepsTree 194 = .ok (.iload 4, 2) := by decide +kernel
theorem dX8_keepsTree_196 : decode cX8_keepsTree 196 = .ok (.aload_n 0, 1) := by decide +kernel
theorem dX8_keepsTree_197 : decode cX8_keepsTree 197 = .ok (.getfield 20, 3) := by decide +kernel
theorem dX8_keepsTree_200 : decode cX8_keepsTree 200 = .ok (.iload_n 3, 1) := by decide +kernel
theorem dX8_keepsTree_201 : decode cX8_keepsTree 201 = .ok (.iaload, 1) := by decide +kernel
theorem dX8_keepsTree_202 : decode cX8_keepsTree 202 = .ok (.if_icmp .lt 18, 3) := by decide +kernel
theorem dX8_keepsTree_205 : decode cX8_keepsTree 205 = .ok (.iload 4, 2) := by decide +kernel
theorem dX8_keepsTree_207 : decode cX8_keepsTree 207 = .ok (.aload_n 0, 1) := by decide +kernel
theorem dX8_keepsTree_208 : decode cX8_keepsTree 208 = .ok (.getfield 23, 3) := by decide +kernel
theorem dX8_keepsTree_211 : decode cX8_keepsTree 211 = .ok (.iload_n 3, 1) := by decide +kernel
theorem dX8_keepsTree_212 : decode cX8_keepsTree 212 = .ok (.iaload, 1) := by decide +kernel
theorem dX8_keepsTree_213 : decode cX8_keepsTree 213 = .ok (.if_icmp .gt 7, 3) := by decide +kernel
theorem dX8_keepsTree_216 : decode cX8_keepsTree 216 = .ok (.iconst 1, 1) := by decide +kernel
theorem dX8_keepsTree_217 : decode cX8_keepsTree 217 = .ok (.goto 4, 3) := by decide +kernel
theorem dX8_keepsTree_220 : decode cX8_keepsTree 220 = .ok (.iconst 0, 1) := by decide +kernel
theorem dX8_keepsTree_221 : decode cX8_keepsTree 221 = .ok (.istore_n 2, 1) := by decide +kernel
theorem dX8_keepsTree_222 : decode cX8_keepsTree 222 = .ok (.iinc 3 1, 3) := by decide +kernel
theorem dX8_keepsTree_225 : decode cX8_keepsTree 225 = .ok (.goto (-125), 3) := by decide +kernel
theorem dX8_keepsTree_228 : decode cX8_keepsTree 228 = .ok (.iload_n 2, 1) := by decide +kernel
theorem dX8_keepsTree_229 : decode cX8_keepsTree 229 = .ok (.ireturn, 1) := by decide +kernel
set_option maxRecDepth 20000 in
theorem ggX8_keepsFormulas_X8_holds : GoodIn wsX8_keepsFormulas wsX8_holds := goodIn_r _ [9, 10, 11, 12, 8, 13, 14, 15, 16, 17, 18, 19, 20, 21, 22, 23, 24, 25, 26, 27, 28, 29, 30, 31, 32, 33, 34, 35, 36, 37, 38, 39, 40, 41] (by decide +kernel) (by decide +kernel)
set_option maxRecDepth 20000 in
theorem gX8_keepsFormulas_X8_holds : GoodIn wsX8_keepsFormulas (wsV RX8 98 RX8 yX8_holds wsX8_holds) := goodIn_app (goodIn_of _ (by decide +kernel)) ggX8_keepsFormulas_X8_holds
theorem dX8_keepsFormulas_0 : decode cX8_keepsFormulas 0 = .ok (.iconst 1, 1) := by decide +kernel
theorem dX8_keepsFormulas_1 : decode cX8_keepsFormulas 1 = .ok (.istore_n 2, 1) := by decide +kernel
theorem dX8_keepsFormulas_2 : decode cX8_keepsFormulas 2 = .ok (.iconst 0, 1) := by decide +kernel
theorem dX8_keepsFormulas_3 : decode cX8_keepsFormulas 3 = .ok (.istore_n 3, 1) := by decide +kernel
theorem dX8_keepsFormulas_4 : decode cX8_keepsFormulas 4 = .ok (.iload_n 3, 1) := by decide +kernel
theorem dX8_keepsFormulas_5 : decode cX8_keepsFormulas 5 = .ok (.aload_n 0, 1) := by decide +kernel
theorem dX8_keepsFormulas_6 : decode cX8_keepsFormulas 6 = .ok (.getfield 81, 3) := by decide +kernel
theorem dX8_keepsFormulas_9 : decode cX8_keepsFormulas 9 = .ok (.if_icmp .ge 135, 3) := by decide +kernel
theorem dX8_keepsFormulas_12 : decode cX8_keepsFormulas 12 = .ok (.iload_n 2, 1) := by decide +kernel
theorem dX8_keepsFormulas_13 : decode cX8_keepsFormulas 13 = .ok (.ifCond .eq 131, 3) := by decide +kernel
theorem dX8_keepsFormulas_16 : decode cX8_keepsFormulas 16 = .ok (.aload_n 0, 1) := by decide +kernel
theorem dX8_keepsFormulas_17 : decode cX8_keepsFormulas 17 = .ok (.iload_n 1, 1) := by decide +kernel
theorem dX8_keepsFormulas_18 : decode cX8_keepsFormulas 18 = .ok (.aload_n 0, 1) := by decide +kernel
theorem dX8_keepsFormulas_19 : decode cX8_keepsFormulas 19 = .ok (.getfield 32, 3) := by decide +kernel
theorem dX8_keepsFormulas_22 : decode cX8_keepsFormulas 22 = .ok (.iload_n 3, 1) := by decide +kernel
theorem dX8_keepsFormulas_23 : decode cX8_keepsFormulas 23 = .ok (.iaload, 1) := by decide +kernel
theorem dX8_keepsFormulas_24 : decode cX8_keepsFormulas 24 = .ok (.invokevirtual 98, 3) := by decide +kernel
theorem dX8_keepsFormulas_27 : decode cX8_keepsFormulas 27 = .ok (.istore 4, 2) := by decide +kernel
theorem dX8_keepsFormulas_29 : decode cX8_keepsFormulas 29 = .ok (.aload_n 0, 1) := by decide +kernel
theorem dX8_keepsFormulas_30 : decode cX8_keepsFormulas 30 = .ok (.iload_n 1, 1) := by decide +kernel
theorem dX8_keepsFormulas_31 : decode cX8_keepsFormulas 31 = .ok (.aload_n 0, 1) := by decide +kernel
theorem dX8_keepsFormulas_32 : decode cX8_keepsFormulas 32 = .ok (.getfield 35, 3) := by decide +kernel
theorem dX8_keepsFormulas_35 : decode cX8_keepsFormulas 35 = .ok (.iload_n 3, 1) := by decide +kernel
theorem dX8_keepsFormulas_36 : decode cX8_keepsFormulas 36 = .ok (.iaload, 1) := by decide +kernel
theorem dX8_keepsFormulas_37 : decode cX8_keepsFormulas 37 = .ok (.invokevirtual 98, 3) := by decide +kernel
theorem dX8_keepsFormulas_40 : decode cX8_keepsFormulas 40 = .ok (.istore 5, 2) := by decide +kernel
theorem dX8_keepsFormulas_42 : decode cX8_keepsFormulas 42 = .ok (.aload_n 0, 1) := by decide +kernel
theorem dX8_keepsFormulas_43 : decode cX8_keepsFormulas 43 = .ok (.getfield 29, 3) := by decide +kernel
theorem dX8_keepsFormulas_46 : decode cX8_keepsFormulas 46 = .ok (.iload_n 3, 1) := by decide +kernel
theorem dX8_keepsFormulas_47 : decode cX8_keepsFormulas 47 = .ok (.iaload, 1) := by decide +kernel
theorem dX8_keepsFormulas_48 : decode cX8_keepsFormulas 48 = .ok (.ifCond .ne 21, 3) := by decide +kernel
theorem dX8_keepsFormulas_51 : decode cX8_keepsFormulas 51 = .ok (.iload 4, 2) := by decide +kernel
theorem dX8_keepsFormulas_53 : decode cX8_keepsFormulas 53 = .ok (.ifCond .eq 8, 3) := by decide +kernel
theorem dX8_keepsFormulas_56 : decode cX8_keepsFormulas 56 = .ok (.iload 5, 2) := by decide +kernel
theorem dX8_keepsFormulas_58 : decode cX8_keepsFormulas 58 = .ok (.ifCond .eq 7, 3) := by decide +kernel
theorem dX8_keepsFormulas_61 : decode cX8_keepsFormulas 61 = .ok (.iconst 1, 1) := by decide +kernel
theorem dX8_keepsFormulas_62 : decode cX8_keepsFormulas 62 = .ok (.goto 75, 3) := by decide +kernel
theorem dX8_keepsFormulas_65 : decode cX8_keepsFormulas 65 = .ok (.iconst 0, 1) := by decide +kernel
theorem dX8_keepsFormulas_66 : decode cX8_keepsFormulas 66 = .ok (.goto 71, 3) := by decide +kernel
theorem dX8_keepsFormulas_69 : decode cX8_keepsFormulas 69 = .ok (.aload_n 0, 1) := by decide +kernel
theorem dX8_keepsFormulas_70 : decode cX8_keepsFormulas 70 = .ok (.getfield 29, 3) := by decide +kernel
theorem dX8_keepsFormulas_73 : decode cX8_keepsFormulas 73 = .ok (.iload_n 3, 1) := by decide +kernel
theorem dX8_keepsFormulas_74 : decode cX8_keepsFormulas 74 = .ok (.iaload, 1) := by decide +kernel
theorem dX8_keepsFormulas_75 : decode cX8_keepsFormulas 75 = .ok (.iconst 1, 1) := by decide +kernel
theorem dX8_keepsFormulas_76 : decode cX8_keepsFormulas 76 = .ok (.if_icmp .ne 21, 3) := by decide +kernel
theorem dX8_keepsFormulas_79 : decode cX8_keepsFormulas 79 = .ok (.iload 4, 2) := by decide +kernel
theorem dX8_keepsFormulas_81 : decode cX8_keepsFormulas 81 = .ok (.ifCond .eq 8, 3) := by decide +kernel
theorem dX8_keepsFormulas_84 : decode cX8_keepsFormulas 84 = .ok (.iload 5, 2) := by decide +kernel
theorem dX8_keepsFormulas_86 : decode cX8_keepsFormulas 86 = .ok (.ifCond .ne 7, 3) := by decide +kernel
theorem dX8_keepsFormulas_89 : decode cX8_keepsFormulas 89 = .ok (.iconst 1, 1) := by decide +kernel
theorem dX8_keepsFormulas_90 : decode cX8_keepsFormulas 90 = .ok (.goto 47, 3) := by decide +kernel
theorem dX8_keepsFormulas_93 : decode cX8_keepsFormulas 93 = .ok (.iconst 0, 1) := by decide +kernel
theorem dX8_keepsFormulas_94 : decode cX8_keepsFormulas 94 = .ok (.goto 43, 3) := by decide +kernel
theorem dX8_keepsFormulas_97 : decode cX8_keepsFormulas 97 = .ok (.aload_n 0, 1) := by decide +kernel
theorem dX8_keepsFormulas_98 : decode cX8_keepsFormulas 98 = .ok (.getfield 29, 3) := by decide +kernel
theorem dX8_keepsFormulas_101 : decode cX8_keepsFormulas 101 = .ok (.iload_n 3, 1) := by decide +kernel
theorem dX8_keepsFormulas_102 : decode cX8_keepsFormulas 102 = .ok (.iaload, 1) := by decide +kernel
theorem dX8_keepsFormulas_103 : decode cX8_keepsFormulas 103 = .ok (.iconst 2, 1) := by decide +kernel
theorem dX8_keepsFormulas_104 : decode cX8_keepsFormulas 104 = .ok (.if_icmp .ne 21, 3) := by decide +kernel
theorem dX8_keepsFormulas_107 : decode cX8_keepsFormulas 107 = .ok (.iload 4, 2) := by decide +kernel
theorem dX8_keepsFormulas_109 : decode cX8_keepsFormulas 109 = .ok (.ifCond .ne 8, 3) := by decide +kernel
theorem dX8_keepsFormulas_112 : decode cX8_keepsFormulas 112 = .ok (.iload 5, 2) := by decide +kernel
theorem dX8_keepsFormulas_114 : decode cX8_keepsFormulas 114 = .ok (.ifCond .eq 7, 3) := by decide +kernel
theorem dX8_keepsFormulas_117 : decode cX8_keepsFormulas 117 = .ok (.iconst 1, 1) := by decide +kernel
theorem dX8_keepsFormulas_118 : decode cX8_keepsFormulas 118 = .ok (.goto 19, 3) := by decide +kernel
theorem dX8_keepsFormulas_121 : decode cX8_keepsFormulas 121 = .ok (.iconst 0, 1) := by decide +kernel
theorem dX8_keepsFormulas_122 : decode cX8_keepsFormulas 122 = .ok (.goto 15, 3) := by decide +kernel
theorem dX8_keepsFormulas_125 : decode cX8_keepsFormulas 125 = .ok (.iload 4, 2) := by decide +kernel
theorem dX8_keepsFormulas_127 : decode cX8_keepsFormulas 127 = .ok (.iload 5, 2) := by decide +kernel
theorem dX8_keepsFormulas_129 : decode cX8_keepsFormulas 129 = .ok (.if_icmp .ne 7, 3) := by decide +kernel
theorem dX8_keepsFormulas_132 : decode cX8_keepsFormulas 132 = .ok (.iconst 1, 1) := by decide +kernel
theorem dX8_keepsFormulas_133 : decode cX8_keepsFormulas 133 = .ok (.goto 4, 3) := by decide +kernel
theorem dX8_keepsFormulas_136 : decode cX8_keepsFormulas 136 = .ok (.iconst 0, 1) := by decide +kernel
theorem dX8_keepsFormulas_137 : decode cX8_keepsFormulas 137 = .ok (.istore_n 2, 1) := by decide +kernel
theorem dX8_keepsFormulas_138 : decode cX8_keepsFormulas 138 = .ok (.iinc 3 1, 3) := by decide +kernel
theorem dX8_keepsFormulas_141 : decode cX8_keepsFormulas 141 = .ok (.goto (-137), 3) := by decide +kernel
theorem dX8_keepsFormulas_144 : decode cX8_keepsFormulas 144 = .ok (.iload_n 2, 1) := by decide +kernel
theorem dX8_keepsFormulas_145 : decode cX8_keepsFormulas 145 = .ok (.ireturn, 1) := by decide +kernel
set_option maxRecDepth 20000 in
theorem ggX8_keepsLimits_X8_isIn : GoodIn wsX8_keepsLimits wsX8_isIn := goodIn_r _ [9, 1, 10, 11, 12, 13, 14, 15, 16, 17, 18, 19, 20, 21, 22, 23, 24, 25, 26, 27, 28, 29, 30, 31, 32, 33, 34, 35, 36] (by decide +kernel) (by decide +kernel)
set_option maxRecDepth 20000 in
theorem gX8_keepsLimits_X8_isIn : GoodIn wsX8_keepsLimits (wsV RX8 94 RX8 yX8_isIn wsX8_isIn) := goodIn_app (goodIn_of _ (by decide +kernel)) ggX8_keepsLimits_X8_isIn
theorem dX8_keepsLimits_0 : decode cX8_keepsLimits 0 = .ok (.iconst 1, 1) := by decide +kernel
theorem dX8_keepsLimits_1 : decode cX8_keepsLimits 1 = .ok (.istore_n 2, 1) := by decide +kernel
theorem dX8_keepsLimits_2 : decode cX8_keepsLimits 2 = .ok (.iconst 0, 1) := by decide +kernel
theorem dX8_keepsLimits_3 : decode cX8_keepsLimits 3 = .ok (.istore_n 3, 1) := by decide +kernel
theorem dX8_keepsLimits_4 : decode cX8_keepsLimits 4 = .ok (.iload_n 3, 1) := by decide +kernel
theorem dX8_keepsLimits_5 : decode cX8_keepsLimits 5 = .ok (.iconst 4, 1) := by decide +kernel
theorem dX8_keepsLimits_6 : decode cX8_keepsLimits 6 = .ok (.if_icmp .ge 91, 3) := by decide +kernel
theorem dX8_keepsLimits_9 : decode cX8_keepsLimits 9 = .ok (.iconst 0, 1) := by decide +kernel
theorem dX8_keepsLimits_10 : decode cX8_keepsLimits 10 = .ok (.istore 4, 2) := by decide +kernel
theorem dX8_keepsLimits_12 : decode cX8_keepsLimits 12 = .ok (.iconst 1, 1) := by decide +kernel
theorem dX8_keepsLimits_13 : decode cX8_keepsLimits 13 = .ok (.istore 5, 2) := by decide +kernel
theorem dX8_keepsLimits_15 : decode cX8_keepsLimits 15 = .ok (.iload 5, 2) := by decide +kernel
theorem dX8_keepsLimits_17 : decode cX8_keepsLimits 17 = .ok (.aload_n 0, 1) := by decide +kernel
theorem dX8_keepsLimits_18 : decode cX8_keepsLimits 18 = .ok (.getfield 63, 3) := by decide +kernel
theorem dX8_keepsLimits_21 : decode cX8_keepsLimits 21 = .ok (.if_icmp .gt 40, 3) := by decide +kernel
theorem dX8_keepsLimits_24 : decode cX8_keepsLimits 24 = .ok (.aload_n 0, 1) := by decide +kernel
theorem dX8_keepsLimits_25 : decode cX8_keepsLimits 25 = .ok (.iload_n 1, 1) := by decide +kernel
theorem dX8_keepsLimits_26 : decode cX8_keepsLimits 26 = .ok (.iload 5, 2) := by decide +kernel
theorem dX8_keepsLimits_28 : decode cX8_keepsLimits 28 = .ok (.invokevirtual 94, 3) := by decide +kernel
theorem dX8_keepsLimits_31 : decode cX8_keepsLimits 31 = .ok (.ifCond .eq 20, 3) := by decide +kernel
theorem dX8_keepsLimits_34 : decode cX8_keepsLimits 34 = .ok (.iload 4, 2) := by decide +kernel
theorem dX8_keepsLimits_36 : decode cX8_keepsLimits 36 = .ok (.aload_n 0, 1) := by decide +kernel
theorem dX8_keepsLimits_37 : decode cX8_keepsLimits 37 = .ok (.getfield 26, 3) := by decide +kernel
theorem dX8_keepsLimits_40 : decode cX8_keepsLimits 40 = .ok (.iconst 4, 1) := by decide +kernel
theorem dX8_keepsLimits_41 : decode cX8_keepsLimits 41 = .ok (.iload 5, 2) := by decide +kernel
theorem dX8_keepsLimits_43 : decode cX8_keepsLimits 43 = .ok (.imul, 1) := by decide +kernel
theorem dX8_keepsLimits_44 : decode cX8_keepsLimits 44 = .ok (.iload_n 3, 1) := by decide +kernel
theorem dX8_keepsLimits_45 : decode cX8_keepsLimits 45 = .ok (.iadd, 1) := by decide +kernel
theorem dX8_keepsLimits_46 : decode cX8_keepsLimits 46 = .ok (.iaload, 1) := by decide +kernel
theorem dX8_keepsLimits_47 : decode cX8_keepsLimits 47 = .ok (.iadd, 1) := by decide +kernel
theorem dX8_keepsLimits_48 : decode cX8_keepsLimits 48 = .ok (.goto 5, 3) := by decide +kernel
theorem dX8_keepsLimits_51 : decode cX8_keepsLimits 51 = .ok (.iload 4, 2) := by decide +kernel
theorem dX8_keepsLimits_53 : decode cX8_keepsLimits 53 = .ok (.istore 4, 2) := by decide +kernel
theorem dX8_keepsLimits_55 : decode cX8_keepsLimits 55 = .ok (.iinc 5 1, 3) := by decide +kernel
theorem dX8_keepsLimits_58 : decode cX8_keepsLimits 58 = .ok (.goto (-43), 3) := by decide +kernel
theorem dX8_keepsLimits_61 : decode cX8_keepsLimits 61 = .ok (.iload_n 2, 1) := by decide +kernel
theorem dX8_keepsLimits_62 : decode cX8_keepsLimits 62 = .ok (.ifCond .eq 27, 3) := by decide +kernel
theorem dX8_keepsLimits_65 : decode cX8_keepsLimits 65 = .ok (.aload_n 0, 1) := by decide +kernel
theorem dX8_keepsLimits_66 : decode cX8_keepsLimits 66 = .ok (.getfield 38, 3) := by decide +kernel
theorem dX8_keepsLimits_69 : decode cX8_keepsLimits 69 = .ok (.iload_n 3, 1) := by decide +kernel
theorem dX8_keepsLimits_70 : decode cX8_keepsLimits 70 = .ok (.baload, 1) := by decide +kernel
theorem dX8_keepsLimits_71 : decode cX8_keepsLimits 71 = .ok (.ifCond .eq 14, 3) := by decide +kernel
theorem dX8_keepsLimits_74 : decode cX8_keepsLimits 74 = .ok (.iload 4, 2) := by decide +kernel
theorem dX8_keepsLimits_76 : decode cX8_keepsLimits 76 = .ok (.aload_n 0, 1) := by decide +kernel
theorem dX8_keepsLimits_77 : decode cX8_keepsLimits 77 = .ok (.getfield 41, 3) := by decide +kernel
theorem dX8_keepsLimits_80 : decode cX8_keepsLimits 80 = .ok (.iload_n 3, 1) := by decide +kernel
theorem dX8_keepsLimits_81 : decode cX8_keepsLimits 81 = .ok (.iaload, 1) := by decide +kernel
theorem dX8_keepsLimits_82 : decode cX8_keepsLimits 82 = .ok (.if_icmp .gt 7, 3) := by decide +kernel
theorem dX8_keepsLimits_85 : decode cX8_keepsLimits 85 = .ok (.iconst 1, 1) := by decide +kernel
theorem dX8_keepsLimits_86 : decode cX8_keepsLimits 86 = .ok (.goto 4, 3) := by decide +kernel
theorem dX8_keepsLimits_89 : decode cX8_keepsLimits 89 = .ok (.iconst 0, 1) := by decide +kernel
theorem dX8_keepsLimits_90 : decode cX8_keepsLimits 90 = .ok (.istore_n 2, 1) := by decide +kernel
theorem dX8_keepsLimits_91 : decode cX8_keepsLimits 91 = .ok (.iinc 3 1, 3) := by decide +kernel
theorem dX8_keepsLimits_94 : decode cX8_keepsLimits 94 = .ok (.goto (-90), 3) := by decide +kernel
theorem dX8_keepsLimits_97 : decode cX8_keepsLimits 97 = .ok (.iload_n 2, 1) := by decide +kernel
theorem dX8_keepsLimits_98 : decode cX8_keepsLimits 98 = .ok (.ireturn, 1) := by decide +kernel
set_option maxRecDepth 20000 in
theorem ggX8_know_X8_keepsTree : GoodIn wsX8_know wsX8_keepsTree := goodIn_ca (goodIn_r _ [9, 3, 10, 11, 12, 13, 14, 15, 16, 17, 8, 18, 38, 39, 40, 41, 42, 43, 44, 45, 46, 47, 48, 49, 50, 51, 52, 53, 54, 55, 56, 57, 58, 59, 60, 61, 62, 63, 64] (by decide +kernel) (by decide +kernel)) (goodIn_sub (fun _ h => List.mem_cons_of_mem _ (List.mem_append_right _ h)) (by decide +kernel))
set_option maxRecDepth 20000 in
theorem gX8_know_X8_keepsTree : GoodIn wsX8_know (wsV RX8 104 RX8 yX8_keepsTree wsX8_keepsTree) := goodIn_app (goodIn_of _ (by decide +kernel)) ggX8_know_X8_keepsTree
set_option maxRecDepth 20000 in
theorem ggX8_know_X8_keepsFormulas : GoodIn wsX8_know wsX8_keepsFormulas := goodIn_ca (goodIn_r _ [22, 23, 24, 25, 26, 27, 28, 29, 8, 30, 15, 16, 17, 18, 3, 38, 39, 40, 41, 42, 43, 44, 45, 46, 47, 48, 49, 50, 51, 52, 53, 54, 55, 56, 57, 58, 59, 60, 61, 62, 63, 64] (by decide +kernel) (by decide +kernel)) (goodIn_sub (fun _ h => List.mem_cons_of_mem _ (List.mem_append_right _ h)) (by decide +kernel))
set_option maxRecDepth 20000 in
theorem gX8_know_X8_keepsFormulas : GoodIn wsX8_know (wsV RX8 107 RX8 yX8_keepsFormulas wsX8_keepsFormulas) := goodIn_app (goodIn_of _ (by decide +kernel)) ggX8_know_X8_keepsFormulas
set_option maxRecDepth 20000 in
theorem ggX8_know_X8_keepsLimits : GoodIn wsX8_know wsX8_keepsLimits := goodIn_ca (goodIn_r _ [34, 3, 35, 36, 37, 15, 16, 17, 8, 18, 38, 39, 40, 41, 42, 43, 44, 45, 46, 47, 48, 49, 50, 51, 52, 53, 54, 55, 56, 57, 58, 59, 60, 61, 62, 63, 64] (by decide +kernel) (by decide +kernel)) (goodIn_sub (fun _ h => List.mem_cons_of_mem _ (List.mem_append_right _ h)) (by decide +kernel))
set_option maxRecDepth 20000 in
theorem gX8_know_X8_keepsLimits : GoodIn wsX8_know (wsV RX8 110 RX8 yX8_keepsLimits wsX8_keepsLimits) := goodIn_app (goodIn_of _ (by decide +kernel)) ggX8_know_X8_keepsLimits
theorem dX8_know_0 : decode cX8_know 0 = .ok (.aload_n 0, 1) := by decide +kernel
theorem dX8_know_1 : decode cX8_know 1 = .ok (.getfield 70, 3) := by decide +kernel
theorem dX8_know_4 : decode cX8_know 4 = .ok (.ifCond .eq 4, 3) := by decide +kernel
theorem dX8_know_7 : decode cX8_know 7 = .ok (.return_, 1) := by decide +kernel
theorem dX8_know_8 : decode cX8_know 8 = .ok (.aload_n 0, 1) := by decide +kernel
theorem dX8_know_9 : decode cX8_know 9 = .ok (.iconst 1, 1) := by decide +kernel
theorem dX8_know_10 : decode cX8_know 10 = .ok (.putfield 70, 3) := by decide +kernel
theorem dX8_know_13 : decode cX8_know 13 = .ok (.aload_n 0, 1) := by decide +kernel
theorem dX8_know_14 : decode cX8_know 14 = .ok (.iconst 0, 1) := by decide +kernel
theorem dX8_know_15 : decode cX8_know 15 = .ok (.putfield 101, 3) := by decide +kernel
theorem dX8_know_18 : decode cX8_know 18 = .ok (.iconst 1, 1) := by decide +kernel
theorem dX8_know_19 : decode cX8_know 19 = .ok (.aload_n 0, 1) := by decide +kernel
theorem dX8_know_20 : decode cX8_know 20 = .ok (.getfield 63, 3) := by decide +kernel
theorem dX8_know_23 : decode cX8_know 23 = .ok (.ishl, 1) := by decide +kernel
theorem dX8_know_24 : decode cX8_know 24 = .ok (.iconst 1, 1) := by decide +kernel
theorem dX8_know_25 : decode cX8_know 25 = .ok (.isub, 1) := by decide +kernel
theorem dX8_know_26 : decode cX8_know 26 = .ok (.istore_n 1, 1) := by decide +kernel
theorem dX8_know_27 : decode cX8_know 27 = .ok (.iload_n 1, 1) := by decide +kernel
theorem dX8_know_28 : decode cX8_know 28 = .ok (.ifCond .lt 53, 3) := by decide +kernel
theorem dX8_know_31 : decode cX8_know 31 = .ok (.aload_n 0, 1) := by decide +kernel
theorem dX8_know_32 : decode cX8_know 32 = .ok (.iload_n 1, 1) := by decide +kernel
theorem dX8_know_33 : decode cX8_know 33 = .ok (.invokevirtual 104, 3) := by decide +kernel
theorem dX8_know_36 : decode cX8_know 36 = .ok (.ifCond .eq 39, 3) := by decide +kernel
theorem dX8_know_39 : decode cX8_know 39 = .ok (.aload_n 0, 1) := by decide +kernel
theorem dX8_know_40 : decode cX8_know 40 = .ok (.iload_n 1, 1) := by decide +kernel
theorem dX8_know_41 : decode cX8_know 41 = .ok (.invokevirtual 107, 3) := by decide +kernel
theorem dX8_know_44 : decode cX8_know 44 = .ok (.ifCond .eq 31, 3) := by decide +kernel
theorem dX8_know_47 : decode cX8_know 47 = .ok (.aload_n 0, 1) := by decide +kernel
theorem dX8_know_48 : decode cX8_know 48 = .ok (.iload_n 1, 1) := by decide +kernel
theorem dX8_know_49 : decode cX8_know 49 = .ok (.invokevirtual 110, 3) := by decide +kernel
theorem dX8_know_52 : decode cX8_know 52 = .ok (.ifCond .eq 23, 3) := by decide +kernel
theorem dX8_know_55 : decode cX8_know 55 = .ok (.aload_n 0, 1) := by decide +kernel
theorem dX8_know_56 : decode cX8_know 56 = .ok (.getfield 47, 3) := by decide +kernel
theorem dX8_know_59 : decode cX8_know 59 = .ok (.aload_n 0, 1) := by decide +kernel
theorem dX8_know_60 : decode cX8_know 60 = .ok (.getfield 101, 3) := by decide +kernel
theorem dX8_know_63 : decode cX8_know 63 = .ok (.iload_n 1, 1) := by decide +kernel
theorem dX8_know_64 : decode cX8_know 64 = .ok (.iastore, 1) := by decide +kernel
theorem dX8_know_65 : decode cX8_know 65 = .ok (.aload_n 0, 1) := by decide +kernel
theorem dX8_know_66 : decode cX8_know 66 = .ok (.dup, 1) := by decide +kernel
theorem dX8_know_67 : decode cX8_know 67 = .ok (.getfield 101, 3) := by decide +kernel
theorem dX8_know_70 : decode cX8_know 70 = .ok (.iconst 1, 1) := by decide +kernel
theorem dX8_know_71 : decode cX8_know 71 = .ok (.iadd, 1) := by decide +kernel
theorem dX8_know_72 : decode cX8_know 72 = .ok (.putfield 101, 3) := by decide +kernel
theorem dX8_know_75 : decode cX8_know 75 = .ok (.iinc 1 (-1), 3) := by decide +kernel
theorem dX8_know_78 : decode cX8_know 78 = .ok (.goto (-51), 3) := by decide +kernel
theorem dX8_know_81 : decode cX8_know 81 = .ok (.return_, 1) := by decide +kernel
set_option maxRecDepth 20000 in
theorem ggX8_keepsChoices_X8_holds : GoodIn wsX8_keepsChoices wsX8_holds := goodIn_r _ [7, 8, 9, 10, 6, 11, 12, 13, 14, 15, 16, 17, 18, 19, 20, 21, 22, 23, 24, 25, 26, 27, 28, 29, 30, 31, 32, 33, 34, 35, 36, 37, 38, 39] (by decide +kernel) (by decide +kernel)
set_option maxRecDepth 20000 in
theorem gX8_keepsChoices_X8_holds : GoodIn wsX8_keepsChoices (wsV RX8 98 RX8 yX8_holds wsX8_holds) := goodIn_app (goodIn_of _ (by decide +kernel)) ggX8_keepsChoices_X8_holds
theorem dX8_keepsChoices_0 : decode cX8_keepsChoices 0 = .ok (.iconst 1, 1) := by decide +kernel
theorem dX8_keepsChoices_1 : decode cX8_keepsChoices 1 = .ok (.istore_n 3, 1) := by decide +kernel
theorem dX8_keepsChoices_2 : decode cX8_keepsChoices 2 = .ok (.iconst 0, 1) := by decide +kernel
theorem dX8_keepsChoices_3 : decode cX8_keepsChoices 3 = .ok (.istore 4, 2) := by decide +kernel
theorem dX8_keepsChoices_5 : decode cX8_keepsChoices 5 = .ok (.iload 4, 2) := by decide +kernel
theorem dX8_keepsChoices_7 : decode cX8_keepsChoices 7 = .ok (.aload_n 0, 1) := by decide +kernel
theorem dX8_keepsChoices_8 : decode cX8_keepsChoices 8 = .ok (.getfield 84, 3) := by decide +kernel
theorem dX8_keepsChoices_11 : decode cX8_keepsChoices 11 = .ok (.if_icmp .ge 44, 3) := by decide +kernel
theorem dX8_keepsChoices_14 : decode cX8_keepsChoices 14 = .ok (.iload_n 3, 1) := by decide +kernel
theorem dX8_keepsChoices_15 : decode cX8_keepsChoices 15 = .ok (.ifCond .eq 40, 3) := by decide +kernel
theorem dX8_keepsChoices_18 : decode cX8_keepsChoices 18 = .ok (.iload_n 2, 1) := by decide +kernel
theorem dX8_keepsChoices_19 : decode cX8_keepsChoices 19 = .ok (.iload 4, 2) := by decide +kernel
theorem dX8_keepsChoices_21 : decode cX8_keepsChoices 21 = .ok (.ishr, 1) := by decide +kernel
theorem dX8_keepsChoices_22 : decode cX8_keepsChoices 22 = .ok (.iconst 1, 1) := by decide +kernel
theorem dX8_keepsChoices_23 : decode cX8_keepsChoices 23 = .ok (.iand, 1) := by decide +kernel
theorem dX8_keepsChoices_24 : decode cX8_keepsChoices 24 = .ok (.iconst 1, 1) := by decide +kernel
theorem dX8_keepsChoices_25 : decode cX8_keepsChoices 25 = .ok (.if_icmp .eq 18, 3) := by decide +kernel
theorem dX8_keepsChoices_28 : decode cX8_keepsChoices 28 = .ok (.aload_n 0, 1) := by decide +kernel
theorem dX8_keepsChoices_29 : decode cX8_keepsChoices 29 = .ok (.iload_n 1, 1) := by decide +kernel
theorem dX8_keepsChoices_30 : decode cX8_keepsChoices 30 = .ok (.aload_n 0, 1) := by decide +kernel
theorem dX8_keepsChoices_31 : decode cX8_keepsChoices 31 = .ok (.getfield 44, 3) := by decide +kernel
theorem dX8_keepsChoices_34 : decode cX8_keepsChoices 34 = .ok (.iload 4, 2) := by decide +kernel
theorem dX8_keepsChoices_36 : decode cX8_keepsChoices 36 = .ok (.iaload, 1) := by decide +kernel
theorem dX8_keepsChoices_37 : decode cX8_keepsChoices 37 = .ok (.invokevirtual 98, 3) := by decide +kernel
theorem dX8_keepsChoices_40 : decode cX8_keepsChoices 40 = .ok (.ifCond .eq 7, 3) := by decide +kernel
theorem dX8_keepsChoices_43 : decode cX8_keepsChoices 43 = .ok (.iconst 1, 1) := by decide +kernel
theorem dX8_keepsChoices_44 : decode cX8_keepsChoices 44 = .ok (.goto 4, 3) := by decide +kernel
theorem dX8_keepsChoices_47 : decode cX8_keepsChoices 47 = .ok (.iconst 0, 1) := by decide +kernel
theorem dX8_keepsChoices_48 : decode cX8_keepsChoices 48 = .ok (.istore_n 3, 1) := by decide +kernel
theorem dX8_keepsChoices_49 : decode cX8_keepsChoices 49 = .ok (.iinc 4 1, 3) := by decide +kernel
theorem dX8_keepsChoices_52 : decode cX8_keepsChoices 52 = .ok (.goto (-47), 3) := by decide +kernel
theorem dX8_keepsChoices_55 : decode cX8_keepsChoices 55 = .ok (.iload_n 3, 1) := by decide +kernel
theorem dX8_keepsChoices_56 : decode cX8_keepsChoices 56 = .ok (.ireturn, 1) := by decide +kernel
set_option maxRecDepth 20000 in
theorem ggX8_firstWithout_X8_know : GoodIn wsX8_firstWithout wsX8_know := goodIn_ca (goodIn_r _ [7, 8, 1, 9, 2, 10, 11, 12, 6, 13, 14, 15, 16, 17, 18, 19, 20, 21, 22, 23, 24, 25, 26, 27, 28, 29, 30, 31, 32, 33, 34, 35, 36, 37, 38, 39, 40, 41, 48, 49, 50, 51, 52, 53, 54, 55, 56, 57, 58, 59, 60, 61, 62, 63, 64, 65, 66, 67, 68, 69, 70, 71, 72, 73, 74] (by decide +kernel) (by decide +kernel)) (goodIn_sub (fun _ h => List.mem_cons_of_mem _ (List.mem_append_right _ h)) (by decide +kernel))
set_option maxRecDepth 20000 in
theorem gX8_firstWithout_X8_know : GoodIn wsX8_firstWithout (wsV RX8 113 RX8 yX8_know wsX8_know) := goodIn_app (goodIn_of _ (by decide +kernel)) ggX8_firstWithout_X8_know
set_option maxRecDepth 20000 in
theorem ggX8_firstWithout_X8_keepsChoices : GoodIn wsX8_firstWithout wsX8_keepsChoices := goodIn_ca (goodIn_r _ [45, 46, 47, 31, 32, 33, 6, 34, 19, 20, 21, 22, 9, 48, 49, 50, 51, 52, 53, 54, 55, 56, 57, 58, 59, 60, 61, 62, 63, 64, 65, 66, 67, 68, 69, 70, 71, 72, 73, 74] (by decide +kernel) (by decide +kernel)) (goodIn_sub (fun _ h => List.mem_cons_of_mem _ (List.mem_append_right _ h)) (by decide +kernel))
set_option maxRecDepth 20000 in
theorem gX8_firstWithout_X8_keepsChoices : GoodIn wsX8_firstWithout (wsV RX8 116 RX8 yX8_keepsChoices wsX8_keepsChoices) := goodIn_app (goodIn_of _ (by decide +kernel)) ggX8_firstWithout_X8_keepsChoices
theorem dX8_firstWithout_0 : decode cX8_firstWithout 0 = .ok (.aload_n 0, 1) := by decide +kernel
theorem dX8_firstWithout_1 : decode cX8_firstWithout 1 = .ok (.invokevirtual 113, 3) := by decide +kernel
theorem dX8_firstWithout_4 : decode cX8_firstWithout 4 = .ok (.iconst 0, 1) := by decide +kernel
theorem dX8_firstWithout_5 : decode cX8_firstWithout 5 = .ok (.istore_n 2, 1) := by decide +kernel
theorem dX8_firstWithout_6 : decode cX8_firstWithout 6 = .ok (.iload_n 2, 1) := by decide +kernel
theorem dX8_firstWithout_7 : decode cX8_firstWithout 7 = .ok (.aload_n 0, 1) := by decide +kernel
theorem dX8_firstWithout_8 : decode cX8_firstWithout 8 = .ok (.getfield 101, 3) := by decide +kernel
theorem dX8_firstWithout_11 : decode cX8_firstWithout 11 = .ok (.if_icmp .ge 30, 3) := by decide +kernel
theorem dX8_firstWithout_14 : decode cX8_firstWithout 14 = .ok (.aload_n 0, 1) := by decide +kernel
theorem dX8_firstWithout_15 : decode cX8_firstWithout 15 = .ok (.aload_n 0, 1) := by decide +kernel
theorem dX8_firstWithout_16 : decode cX8_firstWithout 16 = .ok (.getfield 47, 3) := by decide +kernel
theorem dX8_firstWithout_19 : decode cX8_firstWithout 19 = .ok (.iload_n 2, 1) := by decide +kernel
theorem dX8_firstWithout_20 : decode cX8_firstWithout 20 = .ok (.iaload, 1) := by decide +kernel
theorem dX8_firstWithout_21 : decode cX8_firstWithout 21 = .ok (.iload_n 1, 1) := by decide +kernel
theorem dX8_firstWithout_22 : decode cX8_firstWithout 22 = .ok (.invokevirtual 116, 3) := by decide +kernel
theorem dX8_firstWithout_25 : decode cX8_firstWithout 25 = .ok (.ifCond .eq 10, 3) := by decide +kernel
theorem dX8_firstWithout_28 : decode cX8_firstWithout 28 = .ok (.aload_n 0, 1) := by decide +kernel
theorem dX8_firstWithout_29 : decode cX8_firstWithout 29 = .ok (.getfield 47, 3) := by decide +kernel
theorem dX8_firstWithout_32 : decode cX8_firstWithout 32 = .ok (.iload_n 2, 1) := by decide +kernel
theorem dX8_firstWithout_33 : decode cX8_firstWithout 33 = .ok (.iaload, 1) := by decide +kernel
theorem dX8_firstWithout_34 : decode cX8_firstWithout 34 = .ok (.ireturn, 1) := by decide +kernel
theorem dX8_firstWithout_35 : decode cX8_firstWithout 35 = .ok (.iinc 2 1, 3) := by decide +kernel
theorem dX8_firstWithout_38 : decode cX8_firstWithout 38 = .ok (.goto (-32), 3) := by decide +kernel
theorem dX8_firstWithout_41 : decode cX8_firstWithout 41 = .ok (.iconst (-1), 1) := by decide +kernel
theorem dX8_firstWithout_42 : decode cX8_firstWithout 42 = .ok (.ireturn, 1) := by decide +kernel
set_option maxRecDepth 20000 in
theorem ggX8_solve_X8_firstWithout : GoodIn wsX8_solve wsX8_firstWithout := goodIn_ca (goodIn_r _ [17, 18, 19, 20, 21, 22, 16, 23, 24, 5, 25, 26, 27, 28, 29, 30, 31, 32, 33, 34, 35, 36, 37, 38, 39, 40, 41, 42, 43, 44, 45, 46, 47, 48, 49, 50, 51, 52, 53, 54, 55, 56, 57, 58, 59, 60, 10, 12, 61, 62, 63, 64, 65, 66, 67, 68, 69, 70, 71, 72, 73, 74, 75, 76, 77, 78, 79, 80, 81, 82, 83, 84, 85, 86, 87] (by decide +kernel) (by decide +kernel)) (goodIn_sub (fun _ h => List.mem_cons_of_mem _ (List.mem_append_right _ h)) (by decide +kernel))
set_option maxRecDepth 20000 in
theorem gX8_solve_X8_firstWithout : GoodIn wsX8_solve (wsV RX8 122 RX8 yX8_firstWithout wsX8_firstWithout) := goodIn_app (goodIn_of _ (by decide +kernel)) ggX8_solve_X8_firstWithout
theorem dX8_solve_0 : decode cX8_solve 0 = .ok (.aload_n 0, 1) := by decide +kernel
theorem dX8_solve_1 : decode cX8_solve 1 = .ok (.iconst 0, 1) := by decide +kernel
theorem dX8_solve_2 : decode cX8_solve 2 = .ok (.putfield 59, 3) := by decide +kernel
theorem dX8_solve_5 : decode cX8_solve 5 = .ok (.aload_n 0, 1) := by decide +kernel
theorem dX8_solve_6 : decode cX8_solve 6 = .ok (.iconst 0, 1) := by decide +kernel
theorem dX8_solve_7 : decode cX8_solve 7 = .ok (.putfield 119, 3) := by decide +kernel
theorem dX8_solve_10 : decode cX8_solve 10 = .ok (.aload_n 0, 1) := by decide +kernel
theorem dX8_solve_11 : decode cX8_solve 11 = .ok (.iconst 0, 1) := by decide +kernel
theorem dX8_solve_12 : decode cX8_solve 12 = .ok (.invokevirtual 122, 3) := by decide +kernel
theorem dX8_solve_15 : decode cX8_solve 15 = .ok (.istore_n 1, 1) := by decide +kernel
theorem dX8_solve_16 : decode cX8_solve 16 = .ok (.aload_n 0, 1) := by decide +kernel
theorem dX8_solve_17 : decode cX8_solve 17 = .ok (.iload_n 1, 1) := by decide +kernel
theorem dX8_solve_18 : decode cX8_solve 18 = .ok (.ifCond .lt 7, 3) := by decide +kernel
theorem dX8_solve_21 : decode cX8_solve 21 = .ok (.iconst 1, 1) := by decide +kernel
theorem dX8_solve_22 : decode cX8_solve 22 = .ok (.goto 4, 3) := by decide +kernel
theorem dX8_solve_25 : decode cX8_solve 25 = .ok (.iconst 0, 1) := by decide +kernel
theorem dX8_solve_26 : decode cX8_solve 26 = .ok (.putfield 125, 3) := by decide +kernel
theorem dX8_solve_29 : decode cX8_solve 29 = .ok (.aload_n 0, 1) := by decide +kernel
theorem dX8_solve_30 : decode cX8_solve 30 = .ok (.getfield 125, 3) := by decide +kernel
theorem dX8_solve_33 : decode cX8_solve 33 = .ok (.ifCond .eq 61, 3) := by decide +kernel
theorem dX8_solve_36 : decode cX8_solve 36 = .ok (.aload_n 0, 1) := by decide +kernel
theorem dX8_solve_37 : decode cX8_solve 37 = .ok (.iload_n 1, 1) := by decide +kernel
theorem dX8_solve_38 : decode cX8_solve 38 = .ok (.putfield 128, 3) := by decide +kernel
theorem dX8_solve_41 : decode cX8_solve 41 = .ok (.aload_n 0, 1) := by decide +kernel
theorem dX8_solve_42 : decode cX8_solve 42 = .ok (.aload_n 0, 1) := by decide +kernel
theorem dX8_solve_43 : decode cX8_solve 43 = .ok (.getfield 63, 3) := by decide +kernel
theorem dX8_solve_46 : decode cX8_solve 46 = .ok (.putfield 131, 3) := by decide +kernel
theorem dX8_solve_49 : decode cX8_solve 49 = .ok (.aload_n 0, 1) := by decide +kernel
theorem dX8_solve_50 : decode cX8_solve 50 = .ok (.getfield 134, 3) := by decide +kernel
theorem dX8_solve_53 : decode cX8_solve 53 = .ok (.sipush 200, 3) := by decide +kernel
theorem dX8_solve_56 : decode cX8_solve 56 = .ok (.if_icmp .ge 36, 3) := by decide +kernel
theorem dX8_solve_59 : decode cX8_solve 59 = .ok (.aload_n 0, 1) := by decide +kernel
theorem dX8_solve_60 : decode cX8_solve 60 = .ok (.dup, 1) := by decide +kernel
theorem dX8_solve_61 : decode cX8_solve 61 = .ok (.getfield 134, 3) := by decide +kernel
theorem dX8_solve_64 : decode cX8_solve 64 = .ok (.iconst 1, 1) := by decide +kernel
theorem dX8_solve_65 : decode cX8_solve 65 = .ok (.iadd, 1) := by decide +kernel
theorem dX8_solve_66 : decode cX8_solve 66 = .ok (.putfield 134, 3) := by decide +kernel
theorem dX8_solve_69 : decode cX8_solve 69 = .ok (.aload_n 0, 1) := by decide +kernel
theorem dX8_solve_70 : decode cX8_solve 70 = .ok (.getfield 50, 3) := by decide +kernel
theorem dX8_solve_73 : decode cX8_solve 73 = .ok (.aload_n 0, 1) := by decide +kernel
theorem dX8_solve_74 : decode cX8_solve 74 = .ok (.getfield 134, 3) := by decide +kernel
theorem dX8_solve_77 : decode cX8_solve 77 = .ok (.iload_n 1, 1) := by decide +kernel
theorem dX8_solve_78 : decode cX8_solve 78 = .ok (.iastore, 1) := by decide +kernel
theorem dX8_solve_79 : decode cX8_solve 79 = .ok (.aload_n 0, 1) := by decide +kernel
theorem dX8_solve_80 : decode cX8_solve 80 = .ok (.getfield 53, 3) := by decide +kernel
theorem dX8_solve_83 : decode cX8_solve 83 = .ok (.aload_n 0, 1) := by decide +kernel
theorem dX8_solve_84 : decode cX8_solve 84 = .ok (.getfield 134, 3) := by decide +kernel
theorem dX8_solve_87 : decode cX8_solve 87 = .ok (.aload_n 0, 1) := by decide +kernel
theorem dX8_solve_88 : decode cX8_solve 88 = .ok (.getfield 63, 3) := by decide +kernel
theorem dX8_solve_91 : decode cX8_solve 91 = .ok (.iastore, 1) := by decide +kernel
theorem dX8_solve_92 : decode cX8_solve 92 = .ok (.iconst 1, 1) := by decide +kernel
theorem dX8_solve_93 : decode cX8_solve 93 = .ok (.ireturn, 1) := by decide +kernel
theorem dX8_solve_94 : decode cX8_solve 94 = .ok (.iconst 0, 1) := by decide +kernel
theorem dX8_solve_95 : decode cX8_solve 95 = .ok (.istore_n 2, 1) := by decide +kernel
theorem dX8_solve_96 : decode cX8_solve 96 = .ok (.iconst 0, 1) := by decide +kernel
theorem dX8_solve_97 : decode cX8_solve 97 = .ok (.istore_n 3, 1) := by decide +kernel
theorem dX8_solve_98 : decode cX8_solve 98 = .ok (.iload_n 3, 1) := by decide +kernel
theorem dX8_solve_99 : decode cX8_solve 99 = .ok (.aload_n 0, 1) := by decide +kernel
theorem dX8_solve_100 : decode cX8_solve 100 = .ok (.getfield 84, 3) := by decide +kernel
theorem dX8_solve_103 : decode cX8_solve 103 = .ok (.if_icmp .ge 31, 3) := by decide +kernel
theorem dX8_solve_106 : decode cX8_solve 106 = .ok (.aload_n 0, 1) := by decide +kernel
theorem dX8_solve_107 : decode cX8_solve 107 = .ok (.iload_n 2, 1) := by decide +kernel
theorem dX8_solve_108 : decode cX8_solve 108 = .ok (.iconst 1, 1) := by decide +kernel
theorem dX8_solve_109 : decode cX8_solve 109 = .ok (.iload_n 3, 1) := by decide +kernel
theorem dX8_solve_110 : decode cX8_solve 110 = .ok (.ishl, 1) := by decide +kernel
theorem dX8_solve_111 : decode cX8_solve 111 = .ok (.ior, 1) := by decide +kernel
theorem dX8_solve_112 : decode cX8_solve 112 = .ok (.invokevirtual 122, 3) := by decide +kernel
theorem dX8_solve_115 : decode cX8_solve 115 = .ok (.ifCond .ge 11, 3) := by decide +kernel
theorem dX8_solve_118 : decode cX8_solve 118 = .ok (.iload_n 2, 1) := by decide +kernel
theorem dX8_solve_119 : decode cX8_solve 119 = .ok (.iconst 1, 1) := by decide +kernel
theorem dX8_solve_120 : decode cX8_solve 120 = .ok (.iload_n 3, 1) := by decide +kernel
theorem dX8_solve_121 : decode cX8_solve 121 = .ok (.ishl, 1) := by decide +kernel
theorem dX8_solve_122 : decode cX8_solve 122 = .ok (.ior, 1) := by decide +kernel
theorem dX8_solve_123 : decode cX8_solve 123 = .ok (.goto 4, 3) := by decide +kernel
theorem dX8_solve_126 : decode cX8_solve 126 = .ok (.iload_n 2, 1) := by decide +kernel
theorem dX8_solve_127 : decode cX8_solve 127 = .ok (.istore_n 2, 1) := by decide +kernel
theorem dX8_solve_128 : decode cX8_solve 128 = .ok (.iinc 3 1, 3) := by decide +kernel
theorem dX8_solve_131 : decode cX8_solve 131 = .ok (.goto (-33), 3) := by decide +kernel
theorem dX8_solve_134 : decode cX8_solve 134 = .ok (.iconst 0, 1) := by decide +kernel
theorem dX8_solve_135 : decode cX8_solve 135 = .ok (.istore_n 3, 1) := by decide +kernel
theorem dX8_solve_136 : decode cX8_solve 136 = .ok (.iload_n 3, 1) := by decide +kernel
theorem dX8_solve_137 : decode cX8_solve 137 = .ok (.aload_n 0, 1) := by decide +kernel
theorem dX8_solve_138 : decode cX8_solve 138 = .ok (.getfield 84, 3) := by decide +kernel
theorem dX8_solve_141 : decode cX8_solve 141 = .ok (.if_icmp .ge 42, 3) := by decide +kernel
theorem dX8_solve_144 : decode cX8_solve 144 = .ok (.iload_n 2, 1) := by decide +kernel
theorem dX8_solve_145 : decode cX8_solve 145 = .ok (.iload_n 3, 1) := by decide +kernel
theorem dX8_solve_146 : decode cX8_solve 146 = .ok (.ishr, 1) := by decide +kernel
theorem dX8_solve_147 : decode cX8_solve 147 = .ok (.iconst 1, 1) := by decide +kernel
theorem dX8_solve_148 : decode cX8_solve 148 = .ok (.iand, 1) := by decide +kernel
theorem dX8_solve_149 : decode cX8_solve 149 = .ok (.ifCond .ne 28, 3) := by decide +kernel
theorem dX8_solve_152 : decode cX8_solve 152 = .ok (.aload_n 0, 1) := by decide +kernel
theorem dX8_solve_153 : decode cX8_solve 153 = .ok (.getfield 56, 3) := by decide +kernel
theorem dX8_solve_156 : decode cX8_solve 156 = .ok (.aload_n 0, 1) := by decide +kernel
theorem dX8_solve_157 : decode cX8_solve 157 = .ok (.getfield 119, 3) := by decide +kernel
theorem dX8_solve_160 : decode cX8_solve 160 = .ok (.aload_n 0, 1) := by decide +kernel
theorem dX8_solve_161 : decode cX8_solve 161 = .ok (.getfield 44, 3) := by decide +kernel
theorem dX8_solve_164 : decode cX8_solve 164 = .ok (.iload_n 3, 1) := by decide +kernel
theorem dX8_solve_165 : decode cX8_solve 165 = .ok (.iaload, 1) := by decide +kernel
theorem dX8_solve_166 : decode cX8_solve 166 = .ok (.iastore, 1) := by decide +kernel
theorem dX8_solve_167 : decode cX8_solve 167 = .ok (.aload_n 0, 1) := by decide +kernel
theorem dX8_solve_168 : decode cX8_solve 168 = .ok (.dup, 1) := by decide +kernel
theorem dX8_solve_169 : decode cX8_solve 169 = .ok (.getfield 119, 3) := by decide +kernel
theorem dX8_solve_172 : decode cX8_solve 172 = .ok (.iconst 1, 1) := by decide +kernel
theorem dX8_solve_173 : decode cX8_solve 173 = .ok (.iadd, 1) := by decide +kernel
theorem dX8_solve_174 : decode cX8_solve 174 = .ok (.putfield 119, 3) := by decide +kernel
theorem dX8_solve_177 : decode cX8_solve 177 = .ok (.iinc 3 1, 3) := by decide +kernel
theorem dX8_solve_180 : decode cX8_solve 180 = .ok (.goto (-44), 3) := by decide +kernel
theorem dX8_solve_183 : decode cX8_solve 183 = .ok (.iconst 0, 1) := by decide +kernel
theorem dX8_solve_184 : decode cX8_solve 184 = .ok (.ireturn, 1) := by decide +kernel
theorem dX8_wasIn_0 : decode cX8_wasIn 0 = .ok (.iload_n 2, 1) := by decide +kernel
theorem dX8_wasIn_1 : decode cX8_wasIn 1 = .ok (.iconst 1, 1) := by decide +kernel
theorem dX8_wasIn_2 : decode cX8_wasIn 2 = .ok (.if_icmp .lt 23, 3) := by decide +kernel
theorem dX8_wasIn_5 : decode cX8_wasIn 5 = .ok (.iload_n 2, 1) := by decide +kernel
theorem dX8_wasIn_6 : decode cX8_wasIn 6 = .ok (.iload_n 1, 1) := by decide +kernel
theorem dX8_wasIn_7 : decode cX8_wasIn 7 = .ok (.if_icmp .gt 18, 3) := by decide +kernel
theorem dX8_wasIn_10 : decode cX8_wasIn 10 = .ok (.iload_n 0, 1) := by decide +kernel
theorem dX8_wasIn_11 : decode cX8_wasIn 11 = .ok (.iload_n 1, 1) := by decide +kernel
theorem dX8_wasIn_12 : decode cX8_wasIn 12 = .ok (.iload_n 2, 1) := by decide +kernel
theorem dX8_wasIn_13 : decode cX8_wasIn 13 = .ok (.isub, 1) := by decide +kernel
theorem dX8_wasIn_14 : decode cX8_wasIn 14 = .ok (.ishr, 1) := by decide +kernel
theorem dX8_wasIn_15 : decode cX8_wasIn 15 = .ok (.iconst 1, 1) := by decide +kernel
theorem dX8_wasIn_16 : decode cX8_wasIn 16 = .ok (.iand, 1) := by decide +kernel
theorem dX8_wasIn_17 : decode cX8_wasIn 17 = .ok (.iconst 1, 1) := by decide +kernel
theorem dX8_wasIn_18 : decode cX8_wasIn 18 = .ok (.if_icmp .ne 7, 3) := by decide +kernel
theorem dX8_wasIn_21 : decode cX8_wasIn 21 = .ok (.iconst 1, 1) := by decide +kernel
theorem dX8_wasIn_22 : decode cX8_wasIn 22 = .ok (.goto 4, 3) := by decide +kernel
theorem dX8_wasIn_25 : decode cX8_wasIn 25 = .ok (.iconst 0, 1) := by decide +kernel
theorem dX8_wasIn_26 : decode cX8_wasIn 26 = .ok (.ireturn, 1) := by decide +kernel
set_option maxRecDepth 20000 in
theorem ggX8_chosen_X8_wasIn : GoodIn wsX8_chosen wsX8_wasIn := goodIn_r _ [8] (by decide +kernel) (by decide +kernel)
set_option maxRecDepth 20000 in
theorem gX8_chosen_X8_wasIn : GoodIn wsX8_chosen (va_wsS RX8 137 yX8_wasIn wsX8_wasIn) := goodIn_app (goodIn_of _ (by decide +kernel)) ggX8_chosen_X8_wasIn
theorem dX8_chosen_0 : decode cX8_chosen 0 = .ok (.aload_n 0, 1) := by decide +kernel
theorem dX8_chosen_1 : decode cX8_chosen 1 = .ok (.iconst 0, 1) := by decide +kernel
theorem dX8_chosen_2 : decode cX8_chosen 2 = .ok (.putfield 59, 3) := by decide +kernel
theorem dX8_chosen_5 : decode cX8_chosen 5 = .ok (.aload_n 0, 1) := by decide +kernel
theorem dX8_chosen_6 : decode cX8_chosen 6 = .ok (.getfield 125, 3) := by decide +kernel
theorem dX8_chosen_9 : decode cX8_chosen 9 = .ok (.ifCond .eq 22, 3) := by decide +kernel
theorem dX8_chosen_12 : decode cX8_chosen 12 = .ok (.aload_n 0, 1) := by decide +kernel
theorem dX8_chosen_13 : decode cX8_chosen 13 = .ok (.getfield 128, 3) := by decide +kernel
theorem dX8_chosen_16 : decode cX8_chosen 16 = .ok (.aload_n 0, 1) := by decide +kernel
theorem dX8_chosen_17 : decode cX8_chosen 17 = .ok (.getfield 131, 3) := by decide +kernel
theorem dX8_chosen_20 : decode cX8_chosen 20 = .ok (.iload_n 1, 1) := by decide +kernel
theorem dX8_chosen_21 : decode cX8_chosen 21 = .ok (.invokestatic 137, 3) := by decide +kernel
theorem dX8_chosen_24 : decode cX8_chosen 24 = .ok (.ifCond .eq 7, 3) := by decide +kernel
theorem dX8_chosen_27 : decode cX8_chosen 27 = .ok (.iconst 1, 1) := by decide +kernel
theorem dX8_chosen_28 : decode cX8_chosen 28 = .ok (.goto 4, 3) := by decide +kernel
theorem dX8_chosen_31 : decode cX8_chosen 31 = .ok (.iconst 0, 1) := by decide +kernel
theorem dX8_chosen_32 : decode cX8_chosen 32 = .ok (.ireturn, 1) := by decide +kernel
theorem dX8_why_0 : decode cX8_why 0 = .ok (.aload_n 0, 1) := by decide +kernel
theorem dX8_why_1 : decode cX8_why 1 = .ok (.iconst 0, 1) := by decide +kernel
theorem dX8_why_2 : decode cX8_why 2 = .ok (.putfield 59, 3) := by decide +kernel
theorem dX8_why_5 : decode cX8_why 5 = .ok (.iload_n 1, 1) := by decide +kernel
theorem dX8_why_6 : decode cX8_why 6 = .ok (.ifCond .lt 20, 3) := by decide +kernel
theorem dX8_why_9 : decode cX8_why 9 = .ok (.iload_n 1, 1) := by decide +kernel
theorem dX8_why_10 : decode cX8_why 10 = .ok (.aload_n 0, 1) := by decide +kernel
theorem dX8_why_11 : decode cX8_why 11 = .ok (.getfield 119, 3) := by decide +kernel
theorem dX8_why_14 : decode cX8_why 14 = .ok (.if_icmp .ge 12, 3) := by decide +kernel
theorem dX8_why_17 : decode cX8_why 17 = .ok (.aload_n 0, 1) := by decide +kernel
theorem dX8_why_18 : decode cX8_why 18 = .ok (.getfield 56, 3) := by decide +kernel
theorem dX8_why_21 : decode cX8_why 21 = .ok (.iload_n 1, 1) := by decide +kernel
theorem dX8_why_22 : decode cX8_why 22 = .ok (.iaload, 1) := by decide +kernel
theorem dX8_why_23 : decode cX8_why 23 = .ok (.goto 4, 3) := by decide +kernel
theorem dX8_why_26 : decode cX8_why 26 = .ok (.iconst 0, 1) := by decide +kernel
theorem dX8_why_27 : decode cX8_why 27 = .ok (.ireturn, 1) := by decide +kernel
set_option maxRecDepth 20000 in
theorem ggX8_count_X8_know : GoodIn wsX8_count wsX8_know := goodIn_ca (goodIn_r _ [11, 12, 5, 3, 6, 13, 14, 15, 10, 16, 17, 18, 19, 20, 21, 22, 23, 24, 25, 26, 27, 28, 29, 30, 31, 32, 33, 34, 35, 36, 37, 38, 39, 40, 41, 42, 43, 44, 51, 52, 53, 54, 55, 56, 57, 58, 59, 60, 61, 62, 63, 64, 65, 66, 67, 68, 69, 70, 71, 72, 73, 74, 75, 76, 77] (by decide +kernel) (by decide +kernel)) (goodIn_sub (fun _ h => List.mem_cons_of_mem _ (List.mem_append_right _ h)) (by decide +kernel))
set_option maxRecDepth 20000 in
theorem gX8_count_X8_know : GoodIn wsX8_count (wsV RX8 113 RX8 yX8_know wsX8_know) := goodIn_app (goodIn_of _ (by decide +kernel)) ggX8_count_X8_know
set_option maxRecDepth 20000 in
theorem ggX8_count_X8_keepsChoices : GoodIn wsX8_count wsX8_keepsChoices := goodIn_ca (goodIn_r _ [48, 49, 50, 34, 35, 36, 10, 37, 22, 23, 24, 25, 3, 51, 52, 53, 54, 55, 56, 57, 58, 59, 60, 61, 62, 63, 64, 65, 66, 67, 68, 69, 70, 71, 72, 73, 74, 75, 76, 77] (by decide +kernel) (by decide +kernel)) (goodIn_sub (fun _ h => List.mem_cons_of_mem _ (List.mem_append_right _ h)) (by decide +kernel))
set_option maxRecDepth 20000 in
theorem gX8_count_X8_keepsChoices : GoodIn wsX8_count (wsV RX8 116 RX8 yX8_keepsChoices wsX8_keepsChoices) := goodIn_app (goodIn_of _ (by decide +kernel)) ggX8_count_X8_keepsChoices
theorem dX8_count_0 : decode cX8_count 0 = .ok (.aload_n 0, 1) := by decide +kernel
theorem dX8_count_1 : decode cX8_count 1 = .ok (.iconst 0, 1) := by decide +kernel
theorem dX8_count_2 : decode cX8_count 2 = .ok (.putfield 59, 3) := by decide +kernel
theorem dX8_count_5 : decode cX8_count 5 = .ok (.lload_n 1, 1) := by decide +kernel
theorem dX8_count_6 : decode cX8_count 6 = .ok (.lconst 0, 1) := by decide +kernel
theorem dX8_count_7 : decode cX8_count 7 = .ok (.lcmp, 1) := by decide +kernel
theorem dX8_count_8 : decode cX8_count 8 = .ok (.ifCond .ge 7, 3) := by decide +kernel
theorem dX8_count_11 : decode cX8_count 11 = .ok (.ldc2_w 141, 3) := by decide +kernel
theorem dX8_count_14 : decode cX8_count 14 = .ok (.lreturn, 1) := by decide +kernel
theorem dX8_count_15 : decode cX8_count 15 = .ok (.lconst 1, 1) := by decide +kernel
theorem dX8_count_16 : decode cX8_count 16 = .ok (.aload_n 0, 1) := by decide +kernel
theorem dX8_count_17 : decode cX8_count 17 = .ok (.getfield 63, 3) := by decide +kernel
theorem dX8_count_20 : decode cX8_count 20 = .ok (.lshl, 1) := by decide +kernel
theorem dX8_count_21 : decode cX8_count 21 = .ok (.lload_n 1, 1) := by decide +kernel
theorem dX8_count_22 : decode cX8_count 22 = .ok (.lcmp, 1) := by decide +kernel
theorem dX8_count_23 : decode cX8_count 23 = .ok (.ifCond .le 7, 3) := by decide +kernel
theorem dX8_count_26 : decode cX8_count 26 = .ok (.ldc2_w 143, 3) := by decide +kernel
theorem dX8_count_29 : decode cX8_count 29 = .ok (.lreturn, 1) := by decide +kernel
theorem dX8_count_30 : decode cX8_count 30 = .ok (.aload_n 0, 1) := by decide +kernel
theorem dX8_count_31 : decode cX8_count 31 = .ok (.invokevirtual 113, 3) := by decide +kernel
theorem dX8_count_34 : decode cX8_count 34 = .ok (.lconst 0, 1) := by decide +kernel
theorem dX8_count_35 : decode cX8_count 35 = .ok (.lstore_n 3, 1) := by decide +kernel
theorem dX8_count_36 : decode cX8_count 36 = .ok (.iconst 0, 1) := by decide +kernel
theorem dX8_count_37 : decode cX8_count 37 = .ok (.istore 5, 2) := by decide +kernel
theorem dX8_count_39 : decode cX8_count 39 = .ok (.iload 5, 2) := by decide +kernel
theorem dX8_count_41 : decode cX8_count 41 = .ok (.aload_n 0, 1) := by decide +kernel
theorem dX8_count_42 : decode cX8_count 42 = .ok (.getfield 101, 3) := by decide +kernel
theorem dX8_count_45 : decode cX8_count 45 = .ok (.if_icmp .ge 32, 3) := by decide +kernel
theorem dX8_count_48 : decode cX8_count 48 = .ok (.aload_n 0, 1) := by decide +kernel
theorem dX8_count_49 : decode cX8_count 49 = .ok (.aload_n 0, 1) := by decide +kernel
theorem dX8_count_50 : decode cX8_count 50 = .ok (.getfield 47, 3) := by decide +kernel
theorem dX8_count_53 : decode cX8_count 53 = .ok (.iload 5, 2) := by decide +kernel
theorem dX8_count_55 : decode cX8_count 55 = .ok (.iaload, 1) := by decide +kernel
theorem dX8_count_56 : decode cX8_count 56 = .ok (.iconst 0, 1) := by decide +kernel
theorem dX8_count_57 : decode cX8_count 57 = .ok (.invokevirtual 116, 3) := by decide +kernel
theorem dX8_count_60 : decode cX8_count 60 = .ok (.ifCond .eq 9, 3) := by decide +kernel
theorem dX8_count_63 : decode cX8_count 63 = .ok (.lload_n 3, 1) := by decide +kernel
theorem dX8_count_64 : decode cX8_count 64 = .ok (.lconst 1, 1) := by decide +kernel
theorem dX8_count_65 : decode cX8_count 65 = .ok (.ladd, 1) := by decide +kernel
theorem dX8_count_66 : decode cX8_count 66 = .ok (.goto 4, 3) := by decide +kernel
theorem dX8_count_69 : decode cX8_count 69 = .ok (.lload_n 3, 1) := by decide +kernel
theorem dX8_count_70 : decode cX8_count 70 = .ok (.lstore_n 3, 1) := by decide +kernel
theorem dX8_count_71 : decode cX8_count 71 = .ok (.iinc 5 1, 3) := by decide +kernel
theorem dX8_count_74 : decode cX8_count 74 = .ok (.goto (-35), 3) := by decide +kernel
theorem dX8_count_77 : decode cX8_count 77 = .ok (.lload_n 3, 1) := by decide +kernel
theorem dX8_count_78 : decode cX8_count 78 = .ok (.lreturn, 1) := by decide +kernel
set_option maxRecDepth 20000 in
theorem ggX8_forces_X8_isFeature : GoodIn wsX8_forces wsX8_isFeature := goodIn_r _ [9, 4, 53, 54, 55, 56, 57, 58, 59, 60, 61, 62, 63, 64, 65, 66, 67, 68, 69, 70, 71, 72, 73, 74, 75, 76, 77, 78, 79] (by decide +kernel) (by decide +kernel)
set_option maxRecDepth 20000 in
theorem gX8_forces_X8_isFeature : GoodIn wsX8_forces (wsV RX8 66 RX8 yX8_isFeature wsX8_isFeature) := goodIn_app (goodIn_of _ (by decide +kernel)) ggX8_forces_X8_isFeature
set_option maxRecDepth 20000 in
theorem ggX8_forces_X8_know : GoodIn wsX8_forces wsX8_know := goodIn_ca (goodIn_r _ [13, 14, 2, 4, 3, 15, 16, 17, 8, 18, 19, 20, 21, 22, 23, 24, 25, 26, 27, 28, 29, 30, 31, 32, 33, 34, 35, 36, 37, 38, 39, 40, 41, 42, 43, 44, 45, 46, 53, 54, 55, 56, 57, 58, 59, 60, 61, 62, 63, 64, 65, 66, 67, 68, 69, 70, 71, 72, 73, 74, 75, 76, 77, 78, 79] (by decide +kernel) (by decide +kernel)) (goodIn_sub (fun _ h => List.mem_cons_of_mem _ (List.mem_append_right _ h)) (by decide +kernel))
set_option maxRecDepth 20000 in
theorem gX8_forces_X8_know : GoodIn wsX8_forces (wsV RX8 113 RX8 yX8_know wsX8_know) := goodIn_app (goodIn_of _ (by decide +kernel)) ggX8_forces_X8_know
set_option maxRecDepth 20000 in
theorem ggX8_forces_X8_isIn : GoodIn wsX8_forces wsX8_isIn := goodIn_r _ [27, 4, 53, 54, 55, 56, 57, 58, 59, 60, 61, 62, 63, 64, 65, 66, 67, 68, 69, 70, 71, 72, 73, 74, 75, 76, 77, 78, 79] (by decide +kernel) (by decide +kernel)
set_option maxRecDepth 20000 in
theorem gX8_forces_X8_isIn : GoodIn wsX8_forces (wsV RX8 94 RX8 yX8_isIn wsX8_isIn) := goodIn_app (goodIn_of _ (by decide +kernel)) ggX8_forces_X8_isIn
set_option maxRecDepth 20000 in
theorem ggX8_forces_X8_keepsChoices : GoodIn wsX8_forces wsX8_keepsChoices := goodIn_ca (goodIn_r _ [50, 51, 52, 36, 37, 38, 8, 39, 24, 25, 26, 27, 4, 53, 54, 55, 56, 57, 58, 59, 60, 61, 62, 63, 64, 65, 66, 67, 68, 69, 70, 71, 72, 73, 74, 75, 76, 77, 78, 79] (by decide +kernel) (by decide +kernel)) (goodIn_sub (fun _ h => List.mem_cons_of_mem _ (List.mem_append_right _ h)) (by decide +kernel))
set_option maxRecDepth 20000 in
theorem gX8_forces_X8_keepsChoices : GoodIn wsX8_forces (wsV RX8 116 RX8 yX8_keepsChoices wsX8_keepsChoices) := goodIn_app (goodIn_of _ (by decide +kernel)) ggX8_forces_X8_keepsChoices
theorem dX8_forces_0 : decode cX8_forces 0 = .ok (.aload_n 0, 1) := by decide +kernel
theorem dX8_forces_1 : decode cX8_forces 1 = .ok (.iconst 0, 1) := by decide +kernel
theorem dX8_forces_2 : decode cX8_forces 2 = .ok (.putfield 59, 3) := by decide +kernel
theorem dX8_forces_5 : decode cX8_forces 5 = .ok (.aload_n 0, 1) := by decide +kernel
theorem dX8_forces_6 : decode cX8_forces 6 = .ok (.iload_n 1, 1) := by decide +kernel
theorem dX8_forces_7 : decode cX8_forces 7 = .ok (.invokevirtual 66, 3) := by decide +kernel
theorem dX8_forces_10 : decode cX8_forces 10 = .ok (.ifCond .ne 5, 3) := by decide +kernel
theorem dX8_forces_13 : decode cX8_forces 13 = .ok (.iconst (-1), 1) := by decide +kernel
theorem dX8_forces_14 : decode cX8_forces 14 = .ok (.ireturn, 1) := by decide +kernel
theorem dX8_forces_15 : decode cX8_forces 15 = .ok (.aload_n 0, 1) := by decide +kernel
theorem dX8_forces_16 : decode cX8_forces 16 = .ok (.invokevirtual 113, 3) := by decide +kernel
theorem dX8_forces_19 : decode cX8_forces 19 = .ok (.iconst (-1), 1) := by decide +kernel
theorem dX8_forces_20 : decode cX8_forces 20 = .ok (.istore_n 3, 1) := by decide +kernel
theorem dX8_forces_21 : decode cX8_forces 21 = .ok (.iconst 0, 1) := by decide +kernel
theorem dX8_forces_22 : decode cX8_forces 22 = .ok (.istore 4, 2) := by decide +kernel
theorem dX8_forces_24 : decode cX8_forces 24 = .ok (.iconst 0, 1) := by decide +kernel
theorem dX8_forces_25 : decode cX8_forces 25 = .ok (.istore 5, 2) := by decide +kernel
theorem dX8_forces_27 : decode cX8_forces 27 = .ok (.iconst 0, 1) := by decide +kernel
theorem dX8_forces_28 : decode cX8_forces 28 = .ok (.istore 6, 2) := by decide +kernel
theorem dX8_forces_30 : decode cX8_forces 30 = .ok (.iload 6, 2) := by decide +kernel
theorem dX8_forces_32 : decode cX8_forces 32 = .ok (.aload_n 0, 1) := by decide +kernel
theorem dX8_forces_33 : decode cX8_forces 33 = .ok (.getfield 101, 3) := by decide +kernel
theorem dX8_forces_36 : decode cX8_forces 36 = .ok (.if_icmp .ge 64, 3) := by decide +kernel
theorem dX8_forces_39 : decode cX8_forces 39 = .ok (.aload_n 0, 1) := by decide +kernel
theorem dX8_forces_40 : decode cX8_forces 40 = .ok (.aload_n 0, 1) := by decide +kernel
theorem dX8_forces_41 : decode cX8_forces 41 = .ok (.getfield 47, 3) := by decide +kernel
theorem dX8_forces_44 : decode cX8_forces 44 = .ok (.iload 6, 2) := by decide +kernel
theorem dX8_forces_46 : decode cX8_forces 46 = .ok (.iaload, 1) := by decide +kernel
theorem dX8_forces_47 : decode cX8_forces 47 = .ok (.iload_n 1, 1) := by decide +kernel
theorem dX8_forces_48 : decode cX8_forces 48 = .ok (.invokevirtual 94, 3) := by decide +kernel
theorem dX8_forces_51 : decode cX8_forces 51 = .ok (.ifCond .eq 43, 3) := by decide +kernel
theorem dX8_forces_54 : decode cX8_forces 54 = .ok (.aload_n 0, 1) := by decide +kernel
theorem dX8_forces_55 : decode cX8_forces 55 = .ok (.aload_n 0, 1) := by decide +kernel
theorem dX8_forces_56 : decode cX8_forces 56 = .ok (.getfield 47, 3) := by decide +kernel
theorem dX8_forces_59 : decode cX8_forces 59 = .ok (.iload 6, 2) := by decide +kernel
theorem dX8_forces_61 : decode cX8_forces 61 = .ok (.iaload, 1) := by decide +kernel
theorem dX8_forces_62 : decode cX8_forces 62 = .ok (.iconst 0, 1) := by decide +kernel
theorem dX8_forces_63 : decode cX8_forces 63 = .ok (.invokevirtual 116, 3) := by decide +kernel
theorem dX8_forces_66 : decode cX8_forces 66 = .ok (.ifCond .eq 28, 3) := by decide +kernel
theorem dX8_forces_69 : decode cX8_forces 69 = .ok (.iload_n 3, 1) := by decide +kernel
theorem dX8_forces_70 : decode cX8_forces 70 = .ok (.aload_n 0, 1) := by decide +kernel
theorem dX8_forces_71 : decode cX8_forces 71 = .ok (.getfield 47, 3) := by decide +kernel
theorem dX8_forces_74 : decode cX8_forces 74 = .ok (.iload 6, 2) := by decide +kernel
theorem dX8_forces_76 : decode cX8_forces 76 = .ok (.iaload, 1) := by decide +kernel
theorem dX8_forces_77 : decode cX8_forces 77 = .ok (.iand, 1) := by decide +kernel
theorem dX8_forces_78 : decode cX8_forces 78 = .ok (.istore_n 3, 1) := by decide +kernel
theorem dX8_forces_79 : decode cX8_forces 79 = .ok (.iload 4, 2) := by decide +kernel
theorem dX8_forces_81 : decode cX8_forces 81 = .ok (.aload_n 0, 1) := by decide +kernel
theorem dX8_forces_82 : decode cX8_forces 82 = .ok (.getfield 47, 3) := by decide +kernel
theorem dX8_forces_85 : decode cX8_forces 85 = .ok (.iload 6, 2) := by decide +kernel
theorem dX8_forces_87 : decode cX8_forces 87 = .ok (.iaload, 1) := by decide +kernel
theorem dX8_forces_88 : decode cX8_forces 88 = .ok (.ior, 1) := by decide +kernel
theorem dX8_forces_89 : decode cX8_forces 89 = .ok (.istore 4, 2) := by decide +kernel
theorem dX8_forces_91 : decode cX8_forces 91 = .ok (.iconst 1, 1) := by decide +kernel
theorem dX8_forces_92 : decode cX8_forces 92 = .ok (.istore 5, 2) := by decide +kernel
theorem dX8_forces_94 : decode cX8_forces 94 = .ok (.iinc 6 1, 3) := by decide +kernel
theorem dX8_forces_97 : decode cX8_forces 97 = .ok (.goto (-67), 3) := by decide +kernel
theorem dX8_forces_100 : decode cX8_forces 100 = .ok (.iload_n 2, 1) := by decide +kernel
theorem dX8_forces_101 : decode cX8_forces 101 = .ok (.istore 6, 2) := by decide +kernel
theorem dX8_forces_103 : decode cX8_forces 103 = .ok (.iconst 1, 1) := by decide +kernel
theorem dX8_forces_104 : decode cX8_forces 104 = .ok (.istore 7, 2) := by decide +kernel
theorem dX8_forces_106 : decode cX8_forces 106 = .ok (.iload 7, 2) := by decide +kernel
theorem dX8_forces_108 : decode cX8_forces 108 = .ok (.aload_n 0, 1) := by decide +kernel
theorem dX8_forces_109 : decode cX8_forces 109 = .ok (.getfield 63, 3) := by decide +kernel
theorem dX8_forces_112 : decode cX8_forces 112 = .ok (.if_icmp .gt 71, 3) := by decide +kernel
theorem dX8_forces_115 : decode cX8_forces 115 = .ok (.iload 5, 2) := by decide +kernel
theorem dX8_forces_117 : decode cX8_forces 117 = .ok (.ifCond .eq 66, 3) := by decide +kernel
theorem dX8_forces_120 : decode cX8_forces 120 = .ok (.iload_n 2, 1) := by decide +kernel
theorem dX8_forces_121 : decode cX8_forces 121 = .ok (.ifCond .lt 62, 3) := by decide +kernel
theorem dX8_forces_124 : decode cX8_forces 124 = .ok (.aload_n 0, 1) := by decide +kernel
theorem dX8_forces_125 : decode cX8_forces 125 = .ok (.iload_n 3, 1) := by decide +kernel
theorem dX8_forces_126 : decode cX8_forces 126 = .ok (.iload 7, 2) := by decide +kernel
theorem dX8_forces_128 : decode cX8_forces 128 = .ok (.invokevirtual 94, 3) := by decide +kernel
theorem dX8_forces_131 : decode cX8_forces 131 = .ok (.istore 8, 2) := by decide +kernel
theorem dX8_forces_133 : decode cX8_forces 133 = .ok (.iload 7, 2) := by decide +kernel
theorem dX8_forces_135 : decode cX8_forces 135 = .ok (.iload_n 1, 1) := by decide +kernel
theorem dX8_forces_136 : decode cX8_forces 136 = .ok (.if_icmp .eq 41, 3) := by decide +kernel
theorem dX8_forces_139 : decode cX8_forces 139 = .ok (.iload 8, 2) := by decide +kernel
theorem dX8_forces_141 : decode cX8_forces 141 = .ok (.ifCond .ne 14, 3) := by decide +kernel
theorem dX8_forces_144 : decode cX8_forces 144 = .ok (.aload_n 0, 1) := by decide +kernel
theorem dX8_forces_145 : decode cX8_forces 145 = .ok (.iload 4, 2) := by decide +kernel
theorem dX8_forces_147 : decode cX8_forces 147 = .ok (.iload 7, 2) := by decide +kernel
theorem dX8_forces_149 : decode cX8_forces 149 = .ok (.invokevirtual 94, 3) := by decide +kernel
theorem dX8_forces_152 : decode cX8_forces 152 = .ok (.ifCond .ne 25, 3) := by decide +kernel
theorem dX8_forces_155 : decode cX8_forces 155 = .ok (.iload 6, 2) := by decide +kernel
theorem dX8_forces_157 : decode cX8_forces 157 = .ok (.ifCond .ne 17, 3) := by decide +kernel
theorem dX8_forces_160 : decode cX8_forces 160 = .ok (.iload 8, 2) := by decide +kernel
theorem dX8_forces_162 : decode cX8_forces 162 = .ok (.ifCond .eq 8, 3) := by decide +kernel
theorem dX8_forces_165 : decode cX8_forces 165 = .ok (.iload 7, 2) := by decide +kernel
theorem dX8_forces_167 : decode cX8_forces 167 = .ok (.goto 6, 3) := by decide +kernel
theorem dX8_forces_170 : decode cX8_forces 170 = .ok (.iload 7, 2) := by decide +kernel
theorem dX8_forces_172 : decode cX8_forces 172 = .ok (.ineg, 1) := by decide +kernel
theorem dX8_forces_173 : decode cX8_forces 173 = .ok (.ireturn, 1) := by decide +kernel
theorem dX8_forces_174 : decode cX8_forces 174 = .ok (.iinc 6 (-1), 3) := by decide +kernel
theorem dX8_forces_177 : decode cX8_forces 177 = .ok (.iinc 7 1, 3) := by decide +kernel
theorem dX8_forces_180 : decode cX8_forces 180 = .ok (.goto (-74), 3) := by decide +kernel
theorem dX8_forces_183 : decode cX8_forces 183 = .ok (.iconst 0, 1) := by decide +kernel
theorem dX8_forces_184 : decode cX8_forces 184 = .ok (.ireturn, 1) := by decide +kernel
set_option maxRecDepth 20000 in
theorem ggX8_differ_X8_wasIn : GoodIn wsX8_differ wsX8_wasIn := goodIn_r _ [8] (by decide +kernel) (by decide +kernel)
set_option maxRecDepth 20000 in
theorem gX8_differ_X8_wasIn : GoodIn wsX8_differ (va_wsS RX8 137 yX8_wasIn wsX8_wasIn) := goodIn_app (goodIn_of _ (by decide +kernel)) ggX8_differ_X8_wasIn
theorem dX8_differ_0 : decode cX8_differ 0 = .ok (.aload_n 0, 1) := by decide +kernel
theorem dX8_differ_1 : decode cX8_differ 1 = .ok (.iconst 0, 1) := by decide +kernel
theorem dX8_differ_2 : decode cX8_differ 2 = .ok (.putfield 59, 3) := by decide +kernel
theorem dX8_differ_5 : decode cX8_differ 5 = .ok (.iload_n 1, 1) := by decide +kernel
theorem dX8_differ_6 : decode cX8_differ 6 = .ok (.iconst 1, 1) := by decide +kernel
theorem dX8_differ_7 : decode cX8_differ 7 = .ok (.if_icmp .lt 24, 3) := by decide +kernel
theorem dX8_differ_10 : decode cX8_differ 10 = .ok (.iload_n 1, 1) := by decide +kernel
theorem dX8_differ_11 : decode cX8_differ 11 = .ok (.aload_n 0, 1) := by decide +kernel
theorem dX8_differ_12 : decode cX8_differ 12 = .ok (.getfield 134, 3) := by decide +kernel
theorem dX8_differ_15 : decode cX8_differ 15 = .ok (.if_icmp .gt 16, 3) := by decide +kernel
theorem dX8_differ_18 : decode cX8_differ 18 = .ok (.iload_n 2, 1) := by decide +kernel
theorem dX8_differ_19 : decode cX8_differ 19 = .ok (.iconst 1, 1) := by decide +kernel
theorem dX8_differ_20 : decode cX8_differ 20 = .ok (.if_icmp .lt 11, 3) := by decide +kernel
theorem dX8_differ_23 : decode cX8_differ 23 = .ok (.iload_n 2, 1) := by decide +kernel
theorem dX8_differ_24 : decode cX8_differ 24 = .ok (.aload_n 0, 1) := by decide +kernel
theorem dX8_differ_25 : decode cX8_differ 25 = .ok (.getfield 134, 3) := by decide +kernel
theorem dX8_differ_28 : decode cX8_differ 28 = .ok (.if_icmp .le 5, 3) := by decide +kernel
theorem dX8_differ_31 : decode cX8_differ 31 = .ok (.iconst (-1), 1) := by decide +kernel
theorem dX8_differ_32 : decode cX8_differ 32 = .ok (.ireturn, 1) := by decide +kernel
theorem dX8_differ_33 : decode cX8_differ 33 = .ok (.iconst 0, 1) := by decide +kernel
theorem dX8_differ_34 : decode cX8_differ 34 = .ok (.istore_n 3, 1) := by decide +kernel
theorem dX8_differ_35 : decode cX8_differ 35 = .ok (.iconst 1, 1) := by decide +kernel
theorem dX8_differ_36 : decode cX8_differ 36 = .ok (.istore 4, 2) := by decide +kernel
theorem dX8_differ_38 : decode cX8_differ 38 = .ok (.iload 4, 2) := by decide +kernel
theorem dX8_differ_40 : decode cX8_differ 40 = .ok (.bipush 14, 2) := by decide +kernel
theorem dX8_differ_42 : decode cX8_differ 42 = .ok (.if_icmp .gt 62, 3) := by decide +kernel
theorem dX8_differ_45 : decode cX8_differ 45 = .ok (.aload_n 0, 1) := by decide +kernel
theorem dX8_differ_46 : decode cX8_differ 46 = .ok (.getfield 50, 3) := by decide +kernel
theorem dX8_differ_49 : decode cX8_differ 49 = .ok (.iload_n 1, 1) := by decide +kernel
theorem dX8_differ_50 : decode cX8_differ 50 = .ok (.iaload, 1) := by decide +kernel
theorem dX8_differ_51 : decode cX8_differ 51 = .ok (.aload_n 0, 1) := by decide +kernel
theorem dX8_differ_52 : decode cX8_differ 52 = .ok (.getfield 53, 3) := by decide +kernel
theorem dX8_differ_55 : decode cX8_differ 55 = .ok (.iload_n 1, 1) := by decide +kernel
theorem dX8_differ_56 : decode cX8_differ 56 = .ok (.iaload, 1) := by decide +kernel
theorem dX8_differ_57 : decode cX8_differ 57 = .ok (.iload 4, 2) := by decide +kernel
theorem dX8_differ_59 : decode cX8_differ 59 = .ok (.invokestatic 137, 3) := by decide +kernel
theorem dX8_differ_62 : decode cX8_differ 62 = .ok (.istore 5, 2) := by decide +kernel
theorem dX8_differ_64 : decode cX8_differ 64 = .ok (.aload_n 0, 1) := by decide +kernel
theorem dX8_differ_65 : decode cX8_differ 65 = .ok (.getfield 50, 3) := by decide +kernel
theorem dX8_differ_68 : decode cX8_differ 68 = .ok (.iload_n 2, 1) := by decide +kernel
theorem dX8_differ_69 : decode cX8_differ 69 = .ok (.iaload, 1) := by decide +kernel
theorem dX8_differ_70 : decode cX8_differ 70 = .ok (.aload_n 0, 1) := by decide +kernel
theorem dX8_differ_71 : decode cX8_differ 71 = .ok (.getfield 53, 3) := by decide +kernel
theorem dX8_differ_74 : decode cX8_differ 74 = .ok (.iload_n 2, 1) := by decide +kernel
theorem dX8_differ_75 : decode cX8_differ 75 = .ok (.iaload, 1) := by decide +kernel
theorem dX8_differ_76 : decode cX8_differ 76 = .ok (.iload 4, 2) := by decide +kernel
theorem dX8_differ_78 : decode cX8_differ 78 = .ok (.invokestatic 137, 3) := by decide +kernel
theorem dX8_differ_81 : decode cX8_differ 81 = .ok (.istore 6, 2) := by decide +kernel
theorem dX8_differ_83 : decode cX8_differ 83 = .ok (.iload 5, 2) := by decide +kernel
theorem dX8_differ_85 : decode cX8_differ 85 = .ok (.iload 6, 2) := by decide +kernel
theorem dX8_differ_87 : decode cX8_differ 87 = .ok (.if_icmp .eq 9, 3) := by decide +kernel
theorem dX8_differ_90 : decode cX8_differ 90 = .ok (.iload_n 3, 1) := by decide +kernel
theorem dX8_differ_91 : decode cX8_differ 91 = .ok (.iconst 1, 1) := by decide +kernel
theorem dX8_differ_92 : decode cX8_differ 92 = .ok (.iadd, 1) := by decide +kernel
theorem dX8_differ_93 : decode cX8_differ 93 = .ok (.goto 4, 3) := by decide +kernel
theorem dX8_differ_96 : decode cX8_differ 96 = .ok (.iload_n 3, 1) := by decide +kernel
theorem dX8_differ_97 : decode cX8_differ 97 = .ok (.istore_n 3, 1) := by decide +kernel
theorem dX8_differ_98 : decode cX8_differ 98 = .ok (.iinc 4 1, 3) := by decide +kernel
theorem dX8_differ_101 : decode cX8_differ 101 = .ok (.goto (-63), 3) := by decide +kernel
theorem dX8_differ_104 : decode cX8_differ 104 = .ok (.iload_n 3, 1) := by decide +kernel
theorem dX8_differ_105 : decode cX8_differ 105 = .ok (.ireturn, 1) := by decide +kernel
theorem dX8_level_0 : decode cX8_level 0 = .ok (.aload_n 0, 1) := by decide +kernel
theorem dX8_level_1 : decode cX8_level 1 = .ok (.iconst 0, 1) := by decide +kernel
theorem dX8_level_2 : decode cX8_level 2 = .ok (.putfield 59, 3) := by decide +kernel
theorem dX8_level_5 : decode cX8_level 5 = .ok (.iload_n 1, 1) := by decide +kernel
theorem dX8_level_6 : decode cX8_level 6 = .ok (.ifCond .lt 11, 3) := by decide +kernel
theorem dX8_level_9 : decode cX8_level 9 = .ok (.iload_n 1, 1) := by decide +kernel
theorem dX8_level_10 : decode cX8_level 10 = .ok (.aload_n 0, 1) := by decide +kernel
theorem dX8_level_11 : decode cX8_level 11 = .ok (.getfield 63, 3) := by decide +kernel
theorem dX8_level_14 : decode cX8_level 14 = .ok (.if_icmp .lt 10, 3) := by decide +kernel
theorem dX8_level_17 : decode cX8_level 17 = .ok (.aload_n 0, 1) := by decide +kernel
theorem dX8_level_18 : decode cX8_level 18 = .ok (.iconst 1, 1) := by decide +kernel
theorem dX8_level_19 : decode cX8_level 19 = .ok (.putfield 59, 3) := by decide +kernel
theorem dX8_level_22 : decode cX8_level 22 = .ok (.iconst 0, 1) := by decide +kernel
theorem dX8_level_23 : decode cX8_level 23 = .ok (.ireturn, 1) := by decide +kernel
theorem dX8_level_24 : decode cX8_level 24 = .ok (.iconst 0, 1) := by decide +kernel
theorem dX8_level_25 : decode cX8_level 25 = .ok (.istore_n 2, 1) := by decide +kernel
theorem dX8_level_26 : decode cX8_level 26 = .ok (.aload_n 0, 1) := by decide +kernel
theorem dX8_level_27 : decode cX8_level 27 = .ok (.getfield 7, 3) := by decide +kernel
theorem dX8_level_30 : decode cX8_level 30 = .ok (.iload_n 1, 1) := by decide +kernel
theorem dX8_level_31 : decode cX8_level 31 = .ok (.iconst 1, 1) := by decide +kernel
theorem dX8_level_32 : decode cX8_level 32 = .ok (.iadd, 1) := by decide +kernel
theorem dX8_level_33 : decode cX8_level 33 = .ok (.iaload, 1) := by decide +kernel
theorem dX8_level_34 : decode cX8_level 34 = .ok (.istore_n 3, 1) := by decide +kernel
theorem dX8_level_35 : decode cX8_level 35 = .ok (.iload_n 3, 1) := by decide +kernel
theorem dX8_level_36 : decode cX8_level 36 = .ok (.ifCond .le 16, 3) := by decide +kernel
theorem dX8_level_39 : decode cX8_level 39 = .ok (.iinc 2 1, 3) := by decide +kernel
theorem dX8_level_42 : decode cX8_level 42 = .ok (.aload_n 0, 1) := by decide +kernel
theorem dX8_level_43 : decode cX8_level 43 = .ok (.getfield 7, 3) := by decide +kernel
theorem dX8_level_46 : decode cX8_level 46 = .ok (.iload_n 3, 1) := by decide +kernel
theorem dX8_level_47 : decode cX8_level 47 = .ok (.iaload, 1) := by decide +kernel
theorem dX8_level_48 : decode cX8_level 48 = .ok (.istore_n 3, 1) := by decide +kernel
theorem dX8_level_49 : decode cX8_level 49 = .ok (.goto (-14), 3) := by decide +kernel
theorem dX8_level_52 : decode cX8_level 52 = .ok (.iload_n 2, 1) := by decide +kernel
theorem dX8_level_53 : decode cX8_level 53 = .ok (.ireturn, 1) := by decide +kernel
theorem dJx00060_init_da8c8_0 : decode cJx00060_init_da8c8 0 = .ok (.aload_n 0, 1) := by decide +kernel
theorem dJx00060_init_da8c8_1 : decode cJx00060_init_da8c8 1 = .ok (.invokespecial 1, 3) := by decide +kernel
theorem dJx00060_init_da8c8_4 : decode cJx00060_init_da8c8 4 = .ok (.return_, 1) := by decide +kernel
theorem dJx00060_init_a7421_0 : decode cJx00060_init_a7421 0 = .ok (.aload_n 0, 1) := by decide +kernel
theorem dJx00060_init_a7421_1 : decode cJx00060_init_a7421 1 = .ok (.aload_n 1, 1) := by decide +kernel
theorem dJx00060_init_a7421_2 : decode cJx00060_init_a7421 2 = .ok (.invokespecial 7, 3) := by decide +kernel
theorem dJx00060_init_a7421_5 : decode cJx00060_init_a7421 5 = .ok (.return_, 1) := by decide +kernel
theorem dJ6_bitCount_0f7a4_0 : decode cJ6_bitCount_0f7a4 0 = .ok (.iload_n 0, 1) := by decide +kernel
theorem dJ6_bitCount_0f7a4_1 : decode cJ6_bitCount_0f7a4 1 = .ok (.iload_n 0, 1) := by decide +kernel
theorem dJ6_bitCount_0f7a4_2 : decode cJ6_bitCount_0f7a4 2 = .ok (.iconst 1, 1) := by decide +kernel
theorem dJ6_bitCount_0f7a4_3 : decode cJ6_bitCount_0f7a4 3 = .ok (.iushr, 1) := by decide +kernel
theorem dJ6_bitCount_0f7a4_4 : decode cJ6_bitCount_0f7a4 4 = .ok (.ldc_w 265, 3) := by decide +kernel
theorem dJ6_bitCount_0f7a4_7 : decode cJ6_bitCount_0f7a4 7 = .ok (.iand, 1) := by decide +kernel
theorem dJ6_bitCount_0f7a4_8 : decode cJ6_bitCount_0f7a4 8 = .ok (.isub, 1) := by decide +kernel
theorem dJ6_bitCount_0f7a4_9 : decode cJ6_bitCount_0f7a4 9 = .ok (.istore_n 0, 1) := by decide +kernel
theorem dJ6_bitCount_0f7a4_10 : decode cJ6_bitCount_0f7a4 10 = .ok (.iload_n 0, 1) := by decide +kernel
theorem dJ6_bitCount_0f7a4_11 : decode cJ6_bitCount_0f7a4 11 = .ok (.ldc_w 266, 3) := by decide +kernel
theorem dJ6_bitCount_0f7a4_14 : decode cJ6_bitCount_0f7a4 14 = .ok (.iand, 1) := by decide +kernel
theorem dJ6_bitCount_0f7a4_15 : decode cJ6_bitCount_0f7a4 15 = .ok (.iload_n 0, 1) := by decide +kernel
theorem dJ6_bitCount_0f7a4_16 : decode cJ6_bitCount_0f7a4 16 = .ok (.iconst 2, 1) := by decide +kernel
theorem dJ6_bitCount_0f7a4_17 : decode cJ6_bitCount_0f7a4 17 = .ok (.iushr, 1) := by decide +kernel
theorem dJ6_bitCount_0f7a4_18 : decode cJ6_bitCount_0f7a4 18 = .ok (.ldc_w 266, 3) := by decide +kernel
theorem dJ6_bitCount_0f7a4_21 : decode cJ6_bitCount_0f7a4 21 = .ok (.iand, 1) := by decide +kernel
theorem dJ6_bitCount_0f7a4_22 : decode cJ6_bitCount_0f7a4 22 = .ok (.iadd, 1) := by decide +kernel
theorem dJ6_bitCount_0f7a4_23 : decode cJ6_bitCount_0f7a4 23 = .ok (.istore_n 0, 1) := by decide +kernel
theorem dJ6_bitCount_0f7a4_24 : decode cJ6_bitCount_0f7a4 24 = .ok (.iload_n 0, 1) := by decide +kernel
theorem dJ6_bitCount_0f7a4_25 : decode cJ6_bitCount_0f7a4 25 = .ok (.iload_n 0, 1) := by decide +kernel
theorem dJ6_bitCount_0f7a4_26 : decode cJ6_bitCount_0f7a4 26 = .ok (.iconst 4, 1) := by decide +kernel
theorem dJ6_bitCount_0f7a4_27 : decode cJ6_bitCount_0f7a4 27 = .ok (.iushr, 1) := by decide +kernel
theorem dJ6_bitCount_0f7a4_28 : decode cJ6_bitCount_0f7a4 28 = .ok (.iadd, 1) := by decide +kernel
theorem dJ6_bitCount_0f7a4_29 : decode cJ6_bitCount_0f7a4 29 = .ok (.ldc_w 267, 3) := by decide +kernel
theorem dJ6_bitCount_0f7a4_32 : decode cJ6_bitCount_0f7a4 32 = .ok (.iand, 1) := by decide +kernel
theorem dJ6_bitCount_0f7a4_33 : decode cJ6_bitCount_0f7a4 33 = .ok (.istore_n 0, 1) := by decide +kernel
theorem dJ6_bitCount_0f7a4_34 : decode cJ6_bitCount_0f7a4 34 = .ok (.iload_n 0, 1) := by decide +kernel
theorem dJ6_bitCount_0f7a4_35 : decode cJ6_bitCount_0f7a4 35 = .ok (.iload_n 0, 1) := by decide +kernel
theorem dJ6_bitCount_0f7a4_36 : decode cJ6_bitCount_0f7a4 36 = .ok (.bipush 8, 2) := by decide +kernel
theorem dJ6_bitCount_0f7a4_38 : decode cJ6_bitCount_0f7a4 38 = .ok (.iushr, 1) := by decide +kernel
theorem dJ6_bitCount_0f7a4_39 : decode cJ6_bitCount_0f7a4 39 = .ok (.iadd, 1) := by decide +kernel
theorem dJ6_bitCount_0f7a4_40 : decode cJ6_bitCount_0f7a4 40 = .ok (.istore_n 0, 1) := by decide +kernel
theorem dJ6_bitCount_0f7a4_41 : decode cJ6_bitCount_0f7a4 41 = .ok (.iload_n 0, 1) := by decide +kernel
theorem dJ6_bitCount_0f7a4_42 : decode cJ6_bitCount_0f7a4 42 = .ok (.iload_n 0, 1) := by decide +kernel
theorem dJ6_bitCount_0f7a4_43 : decode cJ6_bitCount_0f7a4 43 = .ok (.bipush 16, 2) := by decide +kernel
theorem dJ6_bitCount_0f7a4_45 : decode cJ6_bitCount_0f7a4 45 = .ok (.iushr, 1) := by decide +kernel
theorem dJ6_bitCount_0f7a4_46 : decode cJ6_bitCount_0f7a4 46 = .ok (.iadd, 1) := by decide +kernel
theorem dJ6_bitCount_0f7a4_47 : decode cJ6_bitCount_0f7a4 47 = .ok (.istore_n 0, 1) := by decide +kernel
theorem dJ6_bitCount_0f7a4_48 : decode cJ6_bitCount_0f7a4 48 = .ok (.iload_n 0, 1) := by decide +kernel
theorem dJ6_bitCount_0f7a4_49 : decode cJ6_bitCount_0f7a4 49 = .ok (.bipush 63, 2) := by decide +kernel
theorem dJ6_bitCount_0f7a4_51 : decode cJ6_bitCount_0f7a4 51 = .ok (.iand, 1) := by decide +kernel
theorem dJ6_bitCount_0f7a4_52 : decode cJ6_bitCount_0f7a4 52 = .ok (.ireturn, 1) := by decide +kernel
set_option maxRecDepth 20000 in
theorem ggL_level_X7_level : GoodIn wsL_level wsX7_level := goodIn_ca (goodIn_r _ [6, 7, 8, 9, 10, 11, 12, 13, 14, 15, 16, 17, 18, 5, 19, 20, 21, 22, 23, 24, 25, 26, 27, 28, 29, 30, 31, 32, 33, 34, 35, 36, 37, 38, 39, 40] (by decide +kernel) (by decide +kernel)) (goodIn_sub (fun _ h => List.mem_cons_of_mem _ (List.mem_append_right _ h)) (by decide +kernel))
set_option maxRecDepth 20000 in
theorem gL_level_X7_level : GoodIn wsL_level (wsV RL 7 RX7 yX7_level wsX7_level) := goodIn_app (goodIn_of _ (by decide +kernel)) ggL_level_X7_level
theorem dL_level_0 : decode cL_level 0 = .ok (.aload_n 2, 1) := by decide +kernel
theorem dL_level_1 : decode cL_level 1 = .ok (.iconst 0, 1) := by decide +kernel
theorem dL_level_2 : decode cL_level 2 = .ok (.aload_n 0, 1) := by decide +kernel
theorem dL_level_3 : decode cL_level 3 = .ok (.iload_n 1, 1) := by decide +kernel
theorem dL_level_4 : decode cL_level 4 = .ok (.invokevirtual 7, 3) := by decide +kernel
theorem dL_level_7 : decode cL_level 7 = .ok (.i2l, 1) := by decide +kernel
theorem dL_level_8 : decode cL_level 8 = .ok (.lastore, 1) := by decide +kernel
theorem dL_level_9 : decode cL_level 9 = .ok (.goto 6, 3) := by decide +kernel
theorem dL_level_12 : decode cL_level 12 = .ok (.astore_n 3, 1) := by decide +kernel
theorem dL_level_13 : decode cL_level 13 = .ok (.iconst 1, 1) := by decide +kernel
theorem dL_level_14 : decode cL_level 14 = .ok (.ireturn, 1) := by decide +kernel
theorem dL_level_15 : decode cL_level 15 = .ok (.iconst 0, 1) := by decide +kernel
theorem dL_level_16 : decode cL_level 16 = .ok (.ireturn, 1) := by decide +kernel
set_option maxRecDepth 20000 in
theorem ggL_law_X7_init : GoodIn wsL_law wsX7_init := goodIn_ca (goodIn_r _ [10, 11, 12, 13, 14, 15, 16, 17, 18, 19, 20, 21, 22, 23, 24, 25, 26, 27, 28, 29, 30, 31, 32, 33, 34, 35, 36, 37, 38, 39, 40, 41, 42, 43, 44, 45, 46, 47, 48, 49, 50, 51, 52, 53, 54, 55, 56, 57, 58, 59, 60, 61, 62, 63, 64, 65, 66, 67, 68, 69, 70, 71, 72, 73, 74, 75, 76, 77, 78, 79, 80, 81, 82, 83, 84, 85, 86, 506, 507, 508, 509, 510, 511, 472, 473, 474, 475, 476, 477, 478, 512, 513, 514, 515, 516, 517, 518, 519, 520, 521, 522, 523, 524, 525, 526, 527, 528, 529, 530, 531, 532, 533, 534, 535, 536] (by decide +kernel) (by decide +kernel)) (goodIn_sub (fun _ h => List.mem_append_right _ h) (by decide +kernel))
set_option maxRecDepth 20000 in
theorem gL_law_X7_init : GoodIn wsL_law (wsX7_init) := ggL_law_X7_init
set_option maxRecDepth 20000 in
theorem ggL_law_X8_init : GoodIn wsL_law wsX8_init := goodIn_r _ [89, 90, 12, 13, 51, 91, 92, 93, 94, 95, 96, 97, 98, 99, 100, 101, 102, 103, 104, 105, 106, 107, 479, 480, 481, 482, 483, 484, 485, 486, 487, 488, 489, 490, 491, 492, 493, 494, 495, 496, 497, 498, 499, 500, 501, 502, 503, 504, 505] (by decide +kernel) (by decide +kernel)
set_option maxRecDepth 20000 in
theorem gL_law_X8_init : GoodIn wsL_law (wsX8_init) := ggL_law_X8_init
set_option maxRecDepth 20000 in
theorem ggL_law_X7_feature : GoodIn wsL_law wsX7_feature := goodIn_ca (goodIn_r _ [111, 19, 112, 17, 113, 114, 115, 41, 116, 117, 118, 119, 120, 121, 122, 123, 124, 16, 125, 126, 127, 128, 129, 130, 56, 57, 58, 59, 131, 2, 132, 133, 134, 135, 136, 472, 473, 474, 475, 476, 477, 478, 521, 522, 523, 524, 525, 526, 527, 528, 506, 507, 508, 509, 510, 511] (by decide +kernel) (by decide +kernel)) (goodIn_sub (fun _ h => List.mem_append_right _ h) (by decide +kernel))
set_option maxRecDepth 20000 in
theorem gL_law_X7_feature : GoodIn wsL_law (wsV RL 19 RX7 yX7_feature wsX7_feature) := goodIn_app (goodIn_of _ (by decide +kernel)) ggL_law_X7_feature
set_option maxRecDepth 20000 in
theorem ggL_law_X8_feature : GoodIn wsL_law wsX8_feature := goodIn_ca (goodIn_r _ [140, 141, 142, 91, 92, 143, 144, 145, 146, 5, 147, 479, 480, 481, 482, 483, 484, 485, 486, 487, 488, 489, 490, 491, 492, 493, 494, 495, 496, 497, 498, 499, 500, 501, 502, 503, 504, 505] (by decide +kernel) (by decide +kernel)) (goodIn_sub (fun _ h => List.mem_append_right _ h) (by decide +kernel))
set_option maxRecDepth 20000 in
theorem gL_law_X8_feature : GoodIn wsL_law (wsV RL 23 RX8 yX8_feature wsX8_feature) := goodIn_app (goodIn_of _ (by decide +kernel)) ggL_law_X8_feature
set_option maxRecDepth 20000 in
theorem ggL_law_X7_group : GoodIn wsL_law wsX7_group := goodIn_ca (goodIn_r _ [151, 19, 17, 152, 119, 120, 41, 121, 117, 122, 123, 124, 16, 125, 126, 153, 154, 155, 156, 60, 61, 157, 59, 131, 2, 132, 135, 136, 133, 134, 158, 159, 160, 161, 162, 163, 164, 472, 473, 474, 475, 476, 477, 478, 521, 522, 523, 524, 525, 526, 527, 528, 506, 507, 508, 509, 510, 511] (by decide +kernel) (by decide +kernel)) (goodIn_sub (fun _ h => List.mem_append_right _ h) (by decide +kernel))
set_option maxRecDepth 20000 in
theorem gL_law_X7_group : GoodIn wsL_law (wsV RL 24 RX7 yX7_group wsX7_group) := goodIn_app (goodIn_of _ (by decide +kernel)) ggL_law_X7_group
set_option maxRecDepth 20000 in
theorem ggL_law_X8_group : GoodIn wsL_law wsX8_group := goodIn_ca (goodIn_r _ [168, 141, 94, 95, 96, 143, 144, 145, 146, 5, 147, 142, 169, 170, 171, 172, 91, 92, 479, 480, 481, 482, 483, 484, 485, 486, 487, 488, 489, 490, 491, 492, 493, 494, 495, 496, 497, 498, 499, 500, 501, 502, 503, 504, 505] (by decide +kernel) (by decide +kernel)) (goodIn_sub (fun _ h => List.mem_append_right _ h) (by decide +kernel))
set_option maxRecDepth 20000 in
theorem gL_law_X8_group : GoodIn wsL_law (wsV RL 28 RX8 yX8_group wsX8_group) := goodIn_app (goodIn_of _ (by decide +kernel)) ggL_law_X8_group
set_option maxRecDepth 20000 in
theorem ggL_law_X7_formula : GoodIn wsL_law wsX7_formula := goodIn_ca (goodIn_r _ [176, 19, 21, 177, 17, 178, 179, 180, 41, 181, 118, 119, 120, 121, 117, 182, 183, 45, 184, 185, 186, 187, 135, 2, 136, 188, 189, 190, 191, 192, 193, 122, 123, 124, 16, 125, 126, 194, 195, 196, 197, 65, 198, 66, 67, 68, 69, 131, 132, 472, 473, 474, 475, 476, 477, 478, 529, 530, 531, 532, 533, 534, 521, 522, 523, 524, 525, 526, 527, 528, 506, 507, 508, 509, 510, 511] (by decide +kernel) (by decide +kernel)) (goodIn_sub (fun _ h => List.mem_append_right _ h) (by decide +kernel))
set_option maxRecDepth 20000 in
theorem gL_law_X7_formula : GoodIn wsL_law (wsV RL 29 RX7 yX7_formula wsX7_formula) := goodIn_app (goodIn_of _ (by decide +kernel)) ggL_law_X7_formula
set_option maxRecDepth 20000 in
theorem ggL_law_X8_formula : GoodIn wsL_law wsX8_formula := goodIn_ca (goodIn_r _ [202, 141, 203, 98, 99, 100, 143, 204, 205, 206, 5, 207, 144, 145, 146, 147, 142, 479, 480, 481, 482, 483, 484, 485, 486, 487, 488, 489, 490, 491, 492, 493, 494, 495, 496, 497, 498, 499, 500, 501, 502, 503, 504, 505] (by decide +kernel) (by decide +kernel)) (goodIn_sub (fun _ h => List.mem_append_right _ h) (by decide +kernel))
set_option maxRecDepth 20000 in
theorem gL_law_X8_formula : GoodIn wsL_law (wsV RL 32 RX8 yX8_formula wsX8_formula) := goodIn_app (goodIn_of _ (by decide +kernel)) ggL_law_X8_formula
set_option maxRecDepth 20000 in
theorem ggL_law_X7_attribute : GoodIn wsL_law wsX7_attribute := goodIn_ca (goodIn_r _ [211, 19, 17, 23, 152, 119, 120, 41, 121, 117, 122, 123, 124, 16, 125, 126, 212, 213, 214, 49, 215, 74, 131, 2, 132, 216, 217, 218, 219, 73, 472, 473, 474, 475, 476, 477, 478, 521, 522, 523, 524, 525, 526, 527, 528, 506, 507, 508, 509, 510, 511, 535, 536] (by decide +kernel) (by decide +kernel)) (goodIn_sub (fun _ h => List.mem_append_right _ h) (by decide +kernel))
set_option maxRecDepth 20000 in
theorem gL_law_X7_attribute : GoodIn wsL_law (wsV RL 33 RX7 yX7_attribute wsX7_attribute) := goodIn_app (goodIn_of _ (by decide +kernel)) ggL_law_X7_attribute
set_option maxRecDepth 20000 in
theorem ggL_law_X8_attribute : GoodIn wsL_law wsX8_attribute := goodIn_ca (goodIn_r _ [223, 141, 101, 102, 97, 143, 144, 145, 146, 5, 147, 142, 479, 480, 481, 482, 483, 484, 485, 486, 487, 488, 489, 490, 491, 492, 493, 494, 495, 496, 497, 498, 499, 500, 501, 502, 503, 504, 505] (by decide +kernel) (by decide +kernel)) (goodIn_sub (fun _ h => List.mem_append_right _ h) (by decide +kernel))
set_option maxRecDepth 20000 in
theorem gL_law_X8_attribute : GoodIn wsL_law (wsV RL 36 RX8 yX8_attribute wsX8_attribute) := goodIn_app (goodIn_of _ (by decide +kernel)) ggL_law_X8_attribute
set_option maxRecDepth 20000 in
theorem ggL_law_X7_choose : GoodIn wsL_law wsX7_choose := goodIn_ca (goodIn_r _ [227, 19, 27, 228, 178, 179, 180, 41, 181, 118, 119, 120, 121, 117, 229, 230, 231, 26, 232, 233, 78, 234, 235, 133, 2, 134, 131, 132, 135, 136, 236, 237, 238, 239, 240, 472, 473, 474, 475, 476, 477, 478, 512, 513, 514, 515, 521, 522, 523, 524, 525, 526, 527, 528] (by decide +kernel) (by decide +kernel)) (goodIn_sub (fun _ h => List.mem_append_right _ h) (by decide +kernel))
set_option maxRecDepth 20000 in
theorem gL_law_X7_choose : GoodIn wsL_law (wsV RL 37 RX7 yX7_choose wsX7_choose) := goodIn_app (goodIn_of _ (by decide +kernel)) ggL_law_X7_choose
set_option maxRecDepth 20000 in
theorem ggL_law_X8_choose : GoodIn wsL_law wsX8_choose := goodIn_ca (goodIn_r _ [244, 141, 103, 245, 204, 205, 206, 5, 207, 144, 145, 146, 147, 142, 246, 247, 248, 249, 250, 251, 252, 253, 479, 480, 481, 482, 483, 484, 485, 486, 487, 488, 489, 490, 491, 492, 493, 494, 495, 496, 497, 498, 499, 500, 501, 502, 503, 504, 505] (by decide +kernel) (by decide +kernel)) (goodIn_sub (fun _ h => List.mem_append_right _ h) (by decide +kernel))
set_option maxRecDepth 20000 in
theorem gL_law_X8_choose : GoodIn wsL_law (wsV RL 41 RX8 yX8_choose wsX8_choose) := goodIn_app (goodIn_of _ (by decide +kernel)) ggL_law_X8_choose
set_option maxRecDepth 20000 in
theorem ggL_law_X7_solve : GoodIn wsL_law wsX7_solve := goodIn_ca (goodIn_r _ [257, 17, 27, 258, 259, 35, 31, 260, 261, 262, 16, 263, 264, 52, 265, 266, 267, 268, 126, 42, 269, 131, 2, 132, 270, 271, 272, 273, 133, 134, 274, 275, 276, 41, 277, 58, 278, 279, 280, 281, 56, 135, 136, 282, 283, 284, 285, 46, 50, 286, 287, 288, 289, 117, 59, 157, 60, 61, 158, 159, 160, 161, 162, 163, 164, 290, 291, 292, 45, 293, 198, 66, 67, 68, 69, 65, 191, 192, 193, 294, 295, 296, 49, 297, 74, 73, 298, 299, 300, 301, 302, 303, 34, 304, 305, 306, 307, 308, 30, 309, 310, 311, 312, 313, 314, 228, 315, 316, 317, 26, 318, 78, 319, 320, 321, 322, 323, 86, 324, 325, 326, 327, 328, 82, 472, 473, 474, 475, 476, 477, 478, 512, 513, 514, 515, 506, 507, 508, 509, 510, 511, 521, 522, 523, 524, 525, 526, 527, 528, 529, 530, 531, 532, 533, 534, 535, 536, 519, 520, 516, 517, 518] (by decide +kernel) (by decide +kernel)) (goodIn_sub (fun _ h => List.mem_append_right _ h) (by decide +kernel))
set_option maxRecDepth 20000 in
theorem gL_law_X7_solve : GoodIn wsL_law (wsV RL 42 RX7 yX7_solve wsX7_solve) := goodIn_app (goodIn_of _ (by decide +kernel)) ggL_law_X7_solve
set_option maxRecDepth 20000 in
theorem ggL_law_X8_solve : GoodIn wsL_law wsX8_solve := goodIn_ca (goodIn_r _ [332, 141, 333, 334, 335, 142, 336, 337, 105, 106, 245, 107, 103, 338, 339, 340, 5, 341, 342, 104, 343, 344, 345, 346, 143, 347, 348, 349, 350, 91, 92, 94, 95, 96, 351, 352, 353, 354, 355, 356, 357, 358, 203, 99, 100, 98, 359, 360, 361, 362, 363, 364, 365, 366, 97, 101, 102, 367, 368, 369, 370, 479, 480, 481, 482, 483, 484, 485, 486, 487, 488, 489, 490, 491, 492, 493, 494, 495, 496, 497, 498, 499, 500, 501, 502, 503, 504, 505] (by decide +kernel) (by decide +kernel)) (goodIn_sub (fun _ h => List.mem_append_right _ h) (by decide +kernel))
set_option maxRecDepth 20000 in
theorem gL_law_X8_solve : GoodIn wsL_law (wsV RL 46 RX8 yX8_solve wsX8_solve) := goodIn_app (goodIn_of _ (by decide +kernel)) ggL_law_X8_solve
set_option maxRecDepth 20000 in
theorem ggL_law_X7_chosen : GoodIn wsL_law wsX7_chosen := goodIn_r _ [374, 31, 375, 319, 135, 2, 136, 472, 473, 474, 475, 476, 477, 478, 516, 517, 518] (by decide +kernel) (by decide +kernel)
set_option maxRecDepth 20000 in
theorem gL_law_X7_chosen : GoodIn wsL_law (wsV RL 47 RX7 yX7_chosen wsX7_chosen) := goodIn_app (goodIn_of _ (by decide +kernel)) ggL_law_X7_chosen
set_option maxRecDepth 20000 in
theorem ggL_law_X8_chosen : GoodIn wsL_law wsX8_chosen := goodIn_r _ [379, 141, 334, 335, 336, 380, 381, 5, 382, 479, 480, 481, 482, 483, 484, 485, 486, 487, 488, 489, 490, 491, 492, 493, 494, 495, 496, 497, 498, 499, 500, 501, 502, 503, 504, 505] (by decide +kernel) (by decide +kernel)
set_option maxRecDepth 20000 in
theorem gL_law_X8_chosen : GoodIn wsL_law (wsV RL 51 RX8 yX8_chosen wsX8_chosen) := goodIn_app (goodIn_of _ (by decide +kernel)) ggL_law_X8_chosen
set_option maxRecDepth 20000 in
theorem ggL_law_X7_why : GoodIn wsL_law wsX7_why := goodIn_ca (goodIn_r _ [386, 35, 387, 388, 389, 34, 390, 305, 86, 133, 2, 134, 472, 473, 474, 475, 476, 477, 478, 519, 520] (by decide +kernel) (by decide +kernel)) (goodIn_sub (fun _ h => List.mem_append_right _ h) (by decide +kernel))
set_option maxRecDepth 20000 in
theorem gL_law_X7_why : GoodIn wsL_law (wsV RL 52 RX7 yX7_why wsX7_why) := goodIn_app (goodIn_of _ (by decide +kernel)) ggL_law_X7_why
set_option maxRecDepth 20000 in
theorem ggL_law_X8_why : GoodIn wsL_law wsX8_why := goodIn_ca (goodIn_r _ [394, 141, 333, 107, 479, 480, 481, 482, 483, 484, 485, 486, 487, 488, 489, 490, 491, 492, 493, 494, 495, 496, 497, 498, 499, 500, 501, 502, 503, 504, 505] (by decide +kernel) (by decide +kernel)) (goodIn_sub (fun _ h => List.mem_append_right _ h) (by decide +kernel))
set_option maxRecDepth 20000 in
theorem gL_law_X8_why : GoodIn wsL_law (wsV RL 55 RX8 yX8_why wsX8_why) := goodIn_app (goodIn_of _ (by decide +kernel)) ggL_law_X8_why
set_option maxRecDepth 20000 in
theorem ggL_law_X7_count : GoodIn wsL_law wsX7_count := goodIn_ca (goodIn_r _ [398, 399, 19, 112, 400, 17, 27, 258, 259, 401, 402, 403, 16, 404, 264, 52, 265, 266, 267, 268, 126, 42, 269, 131, 2, 132, 270, 271, 272, 273, 133, 134, 274, 275, 276, 41, 277, 58, 278, 279, 280, 281, 56, 135, 136, 282, 283, 284, 285, 46, 50, 286, 287, 288, 289, 117, 59, 157, 60, 61, 158, 159, 160, 161, 162, 163, 164, 290, 291, 292, 45, 293, 198, 66, 67, 68, 69, 65, 191, 192, 193, 294, 295, 296, 49, 297, 74, 73, 298, 299, 300, 472, 473, 474, 475, 476, 477, 478, 521, 522, 523, 524, 525, 526, 527, 528, 512, 513, 514, 515, 506, 507, 508, 509, 510, 511, 529, 530, 531, 532, 533, 534, 535, 536] (by decide +kernel) (by decide +kernel)) (goodIn_sub (fun _ h => List.mem_append_right _ h) (by decide +kernel))
set_option maxRecDepth 20000 in
theorem gL_law_X7_count : GoodIn wsL_law (wsV RL 58 RX7 yX7_count wsX7_count) := goodIn_app (goodIn_of _ (by decide +kernel)) ggL_law_X7_count
set_option maxRecDepth 20000 in
theorem ggL_law_X8_count : GoodIn wsL_law wsX8_count := goodIn_ca (goodIn_r _ [408, 141, 409, 142, 410, 342, 104, 343, 344, 345, 5, 346, 143, 347, 348, 349, 350, 91, 92, 94, 95, 96, 351, 352, 353, 354, 355, 356, 357, 358, 203, 99, 100, 98, 359, 360, 361, 362, 363, 364, 365, 366, 97, 101, 102, 367, 368, 369, 370, 245, 103, 479, 480, 481, 482, 483, 484, 485, 486, 487, 488, 489, 490, 491, 492, 493, 494, 495, 496, 497, 498, 499, 500, 501, 502, 503, 504, 505] (by decide +kernel) (by decide +kernel)) (goodIn_sub (fun _ h => List.mem_append_right _ h) (by decide +kernel))
set_option maxRecDepth 20000 in
theorem gL_law_X8_count : GoodIn wsL_law (wsV RL 62 RX8 yX8_count wsX8_count) := goodIn_app (goodIn_of _ (by decide +kernel)) ggL_law_X8_count
set_option maxRecDepth 20000 in
theorem ggL_law_X7_forces : GoodIn wsL_law wsX7_forces := goodIn_ca (goodIn_r _ [414, 19, 27, 258, 17, 259, 152, 119, 120, 41, 121, 117, 319, 135, 2, 136, 260, 261, 262, 16, 263, 264, 52, 265, 266, 267, 268, 126, 42, 269, 131, 132, 270, 271, 272, 273, 133, 134, 274, 275, 276, 277, 58, 278, 279, 280, 281, 56, 282, 283, 284, 285, 46, 50, 286, 287, 288, 289, 59, 157, 60, 61, 158, 159, 160, 161, 162, 163, 164, 290, 291, 292, 45, 293, 198, 66, 67, 68, 69, 65, 191, 192, 193, 294, 295, 296, 49, 297, 74, 73, 298, 299, 300, 415, 416, 417, 418, 419, 420, 421, 422, 423, 424, 425, 426, 112, 472, 473, 474, 475, 476, 477, 478, 512, 513, 514, 515, 521, 522, 523, 524, 525, 526, 527, 528, 506, 507, 508, 509, 510, 511, 529, 530, 531, 532, 533, 534, 535, 536] (by decide +kernel) (by decide +kernel)) (goodIn_sub (fun _ h => List.mem_append_right _ h) (by decide +kernel))
set_option maxRecDepth 20000 in
theorem gL_law_X7_forces : GoodIn wsL_law (wsV RL 63 RX7 yX7_forces wsX7_forces) := goodIn_app (goodIn_of _ (by decide +kernel)) ggL_law_X7_forces
set_option maxRecDepth 20000 in
theorem ggL_law_X8_forces : GoodIn wsL_law wsX8_forces := goodIn_ca (goodIn_r _ [430, 141, 342, 104, 142, 144, 145, 146, 5, 147, 343, 344, 345, 346, 143, 347, 348, 349, 350, 91, 92, 94, 95, 96, 351, 352, 353, 354, 355, 356, 357, 358, 203, 99, 100, 98, 359, 360, 361, 362, 363, 364, 365, 366, 97, 101, 102, 367, 368, 369, 370, 245, 103, 479, 480, 481, 482, 483, 484, 485, 486, 487, 488, 489, 490, 491, 492, 493, 494, 495, 496, 497, 498, 499, 500, 501, 502, 503, 504, 505] (by decide +kernel) (by decide +kernel)) (goodIn_sub (fun _ h => List.mem_append_right _ h) (by decide +kernel))
set_option maxRecDepth 20000 in
theorem gL_law_X8_forces : GoodIn wsL_law (wsV RL 66 RX8 yX8_forces wsX8_forces) := goodIn_app (goodIn_of _ (by decide +kernel)) ggL_law_X8_forces
set_option maxRecDepth 20000 in
theorem ggL_law_X7_differ : GoodIn wsL_law wsX7_differ := goodIn_ca (goodIn_r _ [434, 31, 435, 436, 437, 30, 438, 328, 439, 440, 441, 442, 82, 133, 2, 134, 443, 159, 160, 161, 162, 163, 164, 472, 473, 474, 475, 476, 477, 478, 516, 517, 518] (by decide +kernel) (by decide +kernel)) (goodIn_sub (fun _ h => List.mem_append_right _ h) (by decide +kernel))
set_option maxRecDepth 20000 in
theorem gL_law_X7_differ : GoodIn wsL_law (wsV RL 67 RX7 yX7_differ wsX7_differ) := goodIn_app (goodIn_of _ (by decide +kernel)) ggL_law_X7_differ
set_option maxRecDepth 20000 in
theorem ggL_law_X8_differ : GoodIn wsL_law wsX8_differ := goodIn_ca (goodIn_r _ [447, 141, 337, 105, 106, 380, 381, 5, 382, 479, 480, 481, 482, 483, 484, 485, 486, 487, 488, 489, 490, 491, 492, 493, 494, 495, 496, 497, 498, 499, 500, 501, 502, 503, 504, 505] (by decide +kernel) (by decide +kernel)) (goodIn_sub (fun _ h => List.mem_append_right _ h) (by decide +kernel))
set_option maxRecDepth 20000 in
theorem gL_law_X8_differ : GoodIn wsL_law (wsV RL 70 RX8 yX8_differ wsX8_differ) := goodIn_app (goodIn_of _ (by decide +kernel)) ggL_law_X8_differ
set_option maxRecDepth 20000 in
theorem ggL_law_L_level : GoodIn wsL_law wsL_level := goodIn_ca (goodIn_r _ [451, 452, 453, 454, 455, 2, 456, 19, 112, 457, 458, 459, 460, 461, 462, 41, 463, 57, 133, 134, 472, 473, 474, 475, 476, 477, 478, 521, 522, 523, 524, 525, 526, 527, 528, 537, 538, 539, 540, 541, 542] (by decide +kernel) (by decide +kernel)) (goodIn_sub (fun _ h => List.mem_append_right _ h) (by decide +kernel))
set_option maxRecDepth 20000 in
theorem gL_law_L_level : GoodIn wsL_law (va_wsS RL 71 yL_level wsL_level) := goodIn_app (goodIn_of _ (by decide +kernel)) ggL_law_L_level
set_option maxRecDepth 20000 in
theorem ggL_law_X8_level : GoodIn wsL_law wsX8_level := goodIn_ca (goodIn_r _ [467, 141, 142, 91, 479, 480, 481, 482, 483, 484, 485, 486, 487, 488, 489, 490, 491, 492, 493, 494, 495, 496, 497, 498, 499, 500, 501, 502, 503, 504, 505] (by decide +kernel) (by decide +kernel)) (goodIn_sub (fun _ h => List.mem_append_right _ h) (by decide +kernel))
set_option maxRecDepth 20000 in
theorem gL_law_X8_level : GoodIn wsL_law (wsV RL 76 RX8 yX8_level wsX8_level) := goodIn_app (goodIn_of _ (by decide +kernel)) ggL_law_X8_level
set_option maxRecDepth 20000 in
theorem ggL_law_X8_thrown : GoodIn wsL_law wsX8_thrown := goodIn_r _ [471, 141, 479, 480, 481, 482, 483, 484, 485, 486, 487, 488, 489, 490, 491, 492, 493, 494, 495, 496, 497, 498, 499, 500, 501, 502, 503, 504, 505] (by decide +kernel) (by decide +kernel)
set_option maxRecDepth 20000 in
theorem gL_law_X8_thrown : GoodIn wsL_law (wsV RL 77 RX8 yX8_thrown wsX8_thrown) := goodIn_app (goodIn_of _ (by decide +kernel)) ggL_law_X8_thrown
theorem dL_law_0 : decode cL_law 0 = .ok (.new 8, 3) := by decide +kernel
theorem dL_law_3 : decode cL_law 3 = .ok (.dup, 1) := by decide +kernel
theorem dL_law_4 : decode cL_law 4 = .ok (.invokespecial 15, 3) := by decide +kernel
theorem dL_law_7 : decode cL_law 7 = .ok (.astore_n 1, 1) := by decide +kernel
theorem dL_law_8 : decode cL_law 8 = .ok (.new 16, 3) := by decide +kernel
theorem dL_law_11 : decode cL_law 11 = .ok (.dup, 1) := by decide +kernel
theorem dL_law_12 : decode cL_law 12 = .ok (.invokespecial 18, 3) := by decide +kernel
theorem dL_law_15 : decode cL_law 15 = .ok (.astore_n 2, 1) := by decide +kernel
theorem dL_law_16 : decode cL_law 16 = .ok (.iconst 1, 1) := by decide +kernel
theorem dL_law_17 : decode cL_law 17 = .ok (.newarray .long, 2) := by decide +kernel
theorem dL_law_19 : decode cL_law 19 = .ok (.astore_n 3, 1) := by decide +kernel
theorem dL_law_20 : decode cL_law 20 = .ok (.iconst 0, 1) := by decide +kernel
theorem dL_law_21 : decode cL_law 21 = .ok (.istore 4, 2) := by decide +kernel
theorem dL_law_23 : decode cL_law 23 = .ok (.iload 4, 2) := by decide +kernel
theorem dL_law_25 : decode cL_law 25 = .ok (.aload_n 0, 1) := by decide +kernel
theorem dL_law_26 : decode cL_law 26 = .ok (.arraylength, 1) := by decide +kernel
theorem dL_law_27 : decode cL_law 27 = .ok (.iconst 4, 1) := by decide +kernel
theorem dL_law_28 : decode cL_law 28 = .ok (.isub, 1) := by decide +kernel
theorem dL_law_29 : decode cL_law 29 = .ok (.if_icmp .gt 565, 3) := by decide +kernel
theorem dL_law_32 : decode cL_law 32 = .ok (.aload_n 0, 1) := by decide +kernel
theorem dL_law_33 : decode cL_law 33 = .ok (.iload 4, 2) := by decide +kernel
theorem dL_law_35 : decode cL_law 35 = .ok (.iaload, 1) := by decide +kernel
theorem dL_law_36 : decode cL_law 36 = .ok (.bipush 15, 2) := by decide +kernel
theorem dL_law_38 : decode cL_law 38 = .ok (.iand, 1) := by decide +kernel
theorem dL_law_39 : decode cL_law 39 = .ok (.tableswitch 549 0 11 #[61, 98, 147, 196, 245, 298, 311, 336, 361, 419, 456, 493], 61) := by decide +kernel
theorem dL_law_100 : decode cL_law 100 = .ok (.aload_n 1, 1) := by decide +kernel
theorem dL_law_101 : decode cL_law 101 = .ok (.aload_n 0, 1) := by decide +kernel
theorem dL_law_102 : decode cL_law 102 = .ok (.iload 4, 2) := by decide +kernel
theorem dL_law_104 : decode cL_law 104 = .ok (.iconst 1, 1) := by decide +kernel
theorem dL_law_105 : decode cL_law 105 = .ok (.iadd, 1) := by decide +kernel
theorem dL_law_106 : decode cL_law 106 = .ok (.iaload, 1) := by decide +kernel
theorem dL_law_107 : decode cL_law 107 = .ok (.aload_n 0, 1) := by decide +kernel
theorem dL_law_108 : decode cL_law 108 = .ok (.iload 4, 2) := by decide +kernel
theorem dL_law_110 : decode cL_law 110 = .ok (.iconst 2, 1) := by decide +kernel
theorem dL_law_111 : decode cL_law 111 = .ok (.iadd, 1) := by decide +kernel
theorem dL_law_112 : decode cL_law 112 = .ok (.iaload, 1) := by decide +kernel
theorem dL_law_113 : decode cL_law 113 = .ok (.invokevirtual 19, 3) := by decide +kernel
theorem dL_law_116 : decode cL_law 116 = .ok (.aload_n 2, 1) := by decide +kernel
theorem dL_law_117 : decode cL_law 117 = .ok (.aload_n 0, 1) := by decide +kernel
theorem dL_law_118 : decode cL_law 118 = .ok (.iload 4, 2) := by decide +kernel
theorem dL_law_120 : decode cL_law 120 = .ok (.iconst 1, 1) := by decide +kernel
theorem dL_law_121 : decode cL_law 121 = .ok (.iadd, 1) := by decide +kernel
theorem dL_law_122 : decode cL_law 122 = .ok (.iaload, 1) := by decide +kernel
theorem dL_law_123 : decode cL_law 123 = .ok (.aload_n 0, 1) := by decide +kernel
theorem dL_law_124 : decode cL_law 124 = .ok (.iload 4, 2) := by decide +kernel
theorem dL_law_126 : decode cL_law 126 = .ok (.iconst 2, 1) := by decide +kernel
theorem dL_law_127 : decode cL_law 127 = .ok (.iadd, 1) := by decide +kernel
theorem dL_law_128 : decode cL_law 128 = .ok (.iaload, 1) := by decide +kernel
theorem dL_law_129 : decode cL_law 129 = .ok (.invokevirtual 23, 3) := by decide +kernel
theorem dL_law_132 : decode cL_law 132 = .ok (.if_icmp .eq 456, 3) := by decide +kernel
theorem dL_law_135 : decode cL_law 135 = .ok (.iconst 0, 1) := by decide +kernel
theorem dL_law_136 : decode cL_law 136 = .ok (.ireturn, 1) := by decide +kernel
theorem dL_law_137 : decode cL_law 137 = .ok (.aload_n 1, 1) := by decide +kernel
theorem dL_law_138 : decode cL_law 138 = .ok (.aload_n 0, 1) := by decide +kernel
theorem dL_law_139 : decode cL_law 139 = .ok (.iload 4, 2) := by decide +kernel
theorem dL_law_141 : decode cL_law 141 = .ok (.iconst 1, 1) := by decide +kernel
theorem dL_law_142 : decode cL_law 142 = .ok (.iadd, 1) := by decide +kernel
theorem dL_law_143 : decode cL_law 143 = .ok (.iaload, 1) := by decide +kernel
theorem dL_law_144 : decode cL_law 144 = .ok (.aload_n 0, 1) := by decide +kernel
theorem dL_law_145 : decode cL_law 145 = .ok (.iload 4, 2) := by decide +kernel
theorem dL_law_147 : decode cL_law 147 = .ok (.iconst 2, 1) := by decide +kernel
theorem dL_law_148 : decode cL_law 148 = .ok (.iadd, 1) := by decide +kernel
theorem dL_law_149 : decode cL_law 149 = .ok (.iaload, 1) := by decide +kernel
theorem dL_law_150 : decode cL_law 150 = .ok (.aload_n 0, 1) := by decide +kernel
theorem dL_law_151 : decode cL_law 151 = .ok (.iload 4, 2) := by decide +kernel
theorem dL_law_153 : decode cL_law 153 = .ok (.iconst 3, 1) := by decide +kernel
theorem dL_law_154 : decode cL_law 154 = .ok (.iadd, 1) := by decide +kernel
theorem dL_law_155 : decode cL_law 155 = .ok (.iaload, 1) := by decide +kernel
theorem dL_law_156 : decode cL_law 156 = .ok (.invokevirtual 24, 3) := by decide +kernel
theorem dL_law_159 : decode cL_law 159 = .ok (.aload_n 2, 1) := by decide +kernel
theorem dL_law_160 : decode cL_law 160 = .ok (.aload_n 0, 1) := by decide +kernel
theorem dL_law_161 : decode cL_law 161 = .ok (.iload 4, 2) := by decide +kernel
theorem dL_law_163 : decode cL_law 163 = .ok (.iconst 1, 1) := by decide +kernel
theorem dL_law_164 : decode cL_law 164 = .ok (.iadd, 1) := by decide +kernel
theorem dL_law_165 : decode cL_law 165 = .ok (.iaload, 1) := by decide +kernel
theorem dL_law_166 : decode cL_law 166 = .ok (.aload_n 0, 1) := by decide +kernel
theorem dL_law_167 : decode cL_law 167 = .ok (.iload 4, 2) := by decide +kernel
theorem dL_law_169 : decode cL_law 169 = .ok (.iconst 2, 1) := by decide +kernel
theorem dL_law_170 : decode cL_law 170 = .ok (.iadd, 1) := by decide +kernel
theorem dL_law_171 : decode cL_law 171 = .ok (.iaload, 1) := by decide +kernel
theorem dL_law_172 : decode cL_law 172 = .ok (.aload_n 0, 1) := by decide +kernel
theorem dL_law_173 : decode cL_law 173 = .ok (.iload 4, 2) := by decide +kernel
theorem dL_law_175 : decode cL_law 175 = .ok (.iconst 3, 1) := by decide +kernel
theorem dL_law_176 : decode cL_law 176 = .ok (.iadd, 1) := by decide +kernel
theorem dL_law_177 : decode cL_law 177 = .ok (.iaload, 1) := by decide +kernel
theorem dL_law_178 : decode cL_law 178 = .ok (.invokevirtual 28, 3) := by decide +kernel
theorem dL_law_181 : decode cL_law 181 = .ok (.if_icmp .eq 407, 3) := by decide +kernel
theorem dL_law_184 : decode cL_law 184 = .ok (.iconst 0, 1) := by decide +kernel
theorem dL_law_185 : decode cL_law 185 = .ok (.ireturn, 1) := by decide +kernel
theorem dL_law_186 : decode cL_law 186 = .ok (.aload_n 1, 1) := by decide +kernel
theorem dL_law_187 : decode cL_law 187 = .ok (.aload_n 0, 1) := by decide +kernel
theorem dL_law_188 : decode cL_law 188 = .ok (.iload 4, 2) := by decide +kernel
theorem dL_law_190 : decode cL_law 190 = .ok (.iconst 1, 1) := by decide +kernel
theorem dL_law_191 : decode cL_law 191 = .ok (.iadd, 1) := by decide +kernel
theorem dL_law_192 : decode cL_law 192 = .ok (.iaload, 1) := by decide +kernel
theorem dL_law_193 : decode cL_law 193 = .ok (.aload_n 0, 1) := by decide +kernel
theorem dL_law_194 : decode cL_law 194 = .ok (.iload 4, 2) := by decide +kernel
theorem dL_law_196 : decode cL_law 196 = .ok (.iconst 2, 1) := by decide +kernel
theorem dL_law_197 : decode cL_law 197 = .ok (.iadd, 1) := by decide +kernel
theorem dL_law_198 : decode cL_law 198 = .ok (.iaload, 1) := by decide +kernel
theorem dL_law_199 : decode cL_law 199 = .ok (.aload_n 0, 1) := by decide +kernel
theorem dL_law_200 : decode cL_law 200 = .ok (.iload 4, 2) := by decide +kernel
theorem dL_law_202 : decode cL_law 202 = .ok (.iconst 3, 1) := by decide +kernel
theorem dL_law_203 : decode cL_law 203 = .ok (.iadd, 1) := by decide +kernel
theorem dL_law_204 : decode cL_law 204 = .ok (.iaload, 1) := by decide +kernel
theorem dL_law_205 : decode cL_law 205 = .ok (.invokevirtual 29, 3) := by decide +kernel
theorem dL_law_208 : decode cL_law 208 = .ok (.aload_n 2, 1) := by decide +kernel
theorem dL_law_209 : decode cL_law 209 = .ok (.aload_n 0, 1) := by decide +kernel
theorem dL_law_210 : decode cL_law 210 = .ok (.iload 4, 2) := by decide +kernel
theorem dL_law_212 : decode cL_law 212 = .ok (.iconst 1, 1) := by decide +kernel
theorem dL_law_213 : decode cL_law 213 = .ok (.iadd, 1) := by decide +kernel
theorem dL_law_214 : decode cL_law 214 = .ok (.iaload, 1) := by decide +kernel
theorem dL_law_215 : decode cL_law 215 = .ok (.aload_n 0, 1) := by decide +kernel
theorem dL_law_216 : decode cL_law 216 = .ok (.iload 4, 2) := by decide +kernel
theorem dL_law_218 : decode cL_law 218 = .ok (.iconst 2, 1) := by decide +kernel
theorem dL_law_219 : decode cL_law 219 = .ok (.iadd, 1) := by decide +kernel
theorem dL_law_220 : decode cL_law 220 = .ok (.iaload, 1) := by decide +kernel
theorem dL_law_221 : decode cL_law 221 = .ok (.aload_n 0, 1) := by decide +kernel
theorem dL_law_222 : decode cL_law 222 = .ok (.iload 4, 2) := by decide +kernel
theorem dL_law_224 : decode cL_law 224 = .ok (.iconst 3, 1) := by decide +kernel
theorem dL_law_225 : decode cL_law 225 = .ok (.iadd, 1) := by decide +kernel
theorem dL_law_226 : decode cL_law 226 = .ok (.iaload, 1) := by decide +kernel
theorem dL_law_227 : decode cL_law 227 = .ok (.invokevirtual 32, 3) := by decide +kernel
theorem dL_law_230 : decode cL_law 230 = .ok (.if_icmp .eq 358, 3) := by decide +kernel
theorem dL_law_233 : decode cL_law 233 = .ok (.iconst 0, 1) := by decide +kernel
theorem dL_law_234 : decode cL_law 234 = .ok (.ireturn, 1) := by decide +kernel
theorem dL_law_235 : decode cL_law 235 = .ok (.aload_n 1, 1) := by decide +kernel
theorem dL_law_236 : decode cL_law 236 = .ok (.aload_n 0, 1) := by decide +kernel
theorem dL_law_237 : decode cL_law 237 = .ok (.iload 4, 2) := by decide +kernel
theorem dL_law_239 : decode cL_law 239 = .ok (.iconst 1, 1) := by decide +kernel
theorem dL_law_240 : decode cL_law 240 = .ok (.iadd, 1) := by decide +kernel
theorem dL_law_241 : decode cL_law 241 = .ok (.iaload, 1) := by decide +kernel
theorem dL_law_242 : decode cL_law 242 = .ok (.aload_n 0, 1) := by decide +kernel
theorem dL_law_243 : decode cL_law 243 = .ok (.iload 4, 2) := by decide +kernel
theorem dL_law_245 : decode cL_law 245 = .ok (.iconst 2, 1) := by decide +kernel
theorem dL_law_246 : decode cL_law 246 = .ok (.iadd, 1) := by decide +kernel
theorem dL_law_247 : decode cL_law 247 = .ok (.iaload, 1) := by decide +kernel
theorem dL_law_248 : decode cL_law 248 = .ok (.aload_n 0, 1) := by decide +kernel
theorem dL_law_249 : decode cL_law 249 = .ok (.iload 4, 2) := by decide +kernel
theorem dL_law_251 : decode cL_law 251 = .ok (.iconst 3, 1) := by decide +kernel
theorem dL_law_252 : decode cL_law 252 = .ok (.iadd, 1) := by decide +kernel
theorem dL_law_253 : decode cL_law 253 = .ok (.iaload, 1) := by decide +kernel
theorem dL_law_254 : decode cL_law 254 = .ok (.invokevirtual 33, 3) := by decide +kernel
theorem dL_law_257 : decode cL_law 257 = .ok (.aload_n 2, 1) := by decide +kernel
theorem dL_law_258 : decode cL_law 258 = .ok (.aload_n 0, 1) := by decide +kernel
theorem dL_law_259 : decode cL_law 259 = .ok (.iload 4, 2) := by decide +kernel
theorem dL_law_261 : decode cL_law 261 = .ok (.iconst 1, 1) := by decide +kernel
theorem dL_law_262 : decode cL_law 262 = .ok (.iadd, 1) := by decide +kernel
theorem dL_law_263 : decode cL_law 263 = .ok (.iaload, 1) := by decide +kernel
theorem dL_law_264 : decode cL_law 264 = .ok (.aload_n 0, 1) := by decide +kernel
theorem dL_law_265 : decode cL_law 265 = .ok (.iload 4, 2) := by decide +kernel
theorem dL_law_267 : decode cL_law 267 = .ok (.iconst 2, 1) := by decide +kernel
theorem dL_law_268 : decode cL_law 268 = .ok (.iadd, 1) := by decide +kernel
theorem dL_law_269 : decode cL_law 269 = .ok (.iaload, 1) := by decide +kernel
theorem dL_law_270 : decode cL_law 270 = .ok (.aload_n 0, 1) := by decide +kernel
theorem dL_law_271 : decode cL_law 271 = .ok (.iload 4, 2) := by decide +kernel
theorem dL_law_273 : decode cL_law 273 = .ok (.iconst 3, 1) := by decide +kernel
theorem dL_law_274 : decode cL_law 274 = .ok (.iadd, 1) := by decide +kernel
theorem dL_law_275 : decode cL_law 275 = .ok (.iaload, 1) := by decide +kernel
theorem dL_law_276 : decode cL_law 276 = .ok (.invokevirtual 36, 3) := by decide +kernel
theorem dL_law_279 : decode cL_law 279 = .ok (.if_icmp .eq 309, 3) := by decide +kernel
theorem dL_law_282 : decode cL_law 282 = .ok (.iconst 0, 1) := by decide +kernel
theorem dL_law_283 : decode cL_law 283 = .ok (.ireturn, 1) := by decide +kernel
theorem dL_law_284 : decode cL_law 284 = .ok (.aload_n 1, 1) := by decide +kernel
theorem dL_law_285 : decode cL_law 285 = .ok (.aload_n 0, 1) := by decide +kernel
theorem dL_law_286 : decode cL_law 286 = .ok (.iload 4, 2) := by decide +kernel
theorem dL_law_288 : decode cL_law 288 = .ok (.iconst 1, 1) := by decide +kernel
theorem dL_law_289 : decode cL_law 289 = .ok (.iadd, 1) := by decide +kernel
theorem dL_law_290 : decode cL_law 290 = .ok (.iaload, 1) := by decide +kernel
theorem dL_law_291 : decode cL_law 291 = .ok (.aload_n 0, 1) := by decide +kernel
theorem dL_law_292 : decode cL_law 292 = .ok (.iload 4, 2) := by decide +kernel
theorem dL_law_294 : decode cL_law 294 = .ok (.iconst 2, 1) := by decide +kernel
theorem dL_law_295 : decode cL_law 295 = .ok (.iadd, 1) := by decide +kernel
theorem dL_law_296 : decode cL_law 296 = .ok (.iaload, 1) := by decide +kernel
theorem dL_law_297 : decode cL_law 297 = .ok (.ifCond .eq 7, 3) := by decide +kernel
theorem dL_law_300 : decode cL_law 300 = .ok (.iconst 1, 1) := by decide +kernel
theorem dL_law_301 : decode cL_law 301 = .ok (.goto 4, 3) := by decide +kernel
theorem dL_law_304 : decode cL_law 304 = .ok (.iconst 0, 1) := by decide +kernel
theorem dL_law_305 : decode cL_law 305 = .ok (.invokevirtual 37, 3) := by decide +kernel
theorem dL_law_308 : decode cL_law 308 = .ok (.aload_n 2, 1) := by decide +kernel
theorem dL_law_309 : decode cL_law 309 = .ok (.aload_n 0, 1) := by decide +kernel
theorem dL_law_310 : decode cL_law 310 = .ok (.iload 4, 2) := by decide +kernel
theorem dL_law_312 : decode cL_law 312 = .ok (.iconst 1, 1) := by decide +kernel
theorem dL_law_313 : decode cL_law 313 = .ok (.iadd, 1) := by decide +kernel
theorem dL_law_314 : decode cL_law 314 = .ok (.iaload, 1) := by decide +kernel
theorem dL_law_315 : decode cL_law 315 = .ok (.aload_n 0, 1) := by decide +kernel
theorem dL_law_316 : decode cL_law 316 = .ok (.iload 4, 2) := by decide +kernel
theorem dL_law_318 : decode cL_law 318 = .ok (.iconst 2, 1) := by decide +kernel
theorem dL_law_319 : decode cL_law 319 = .ok (.iadd, 1) := by decide +kernel
theorem dL_law_320 : decode cL_law 320 = .ok (.iaload, 1) := by decide +kernel
theorem dL_law_321 : decode cL_law 321 = .ok (.ifCond .eq 7, 3) := by decide +kernel
theorem dL_law_324 : decode cL_law 324 = .ok (.iconst 1, 1) := by decide +kernel
theorem dL_law_325 : decode cL_law 325 = .ok (.goto 4, 3) := by decide +kernel
theorem dL_law_328 : decode cL_law 328 = .ok (.iconst 0, 1) := by decide +kernel
theorem dL_law_329 : decode cL_law 329 = .ok (.invokevirtual 41, 3) := by decide +kernel
theorem dL_law_332 : decode cL_law 332 = .ok (.if_icmp .eq 256, 3) := by decide +kernel
theorem dL_law_335 : decode cL_law 335 = .ok (.iconst 0, 1) := by decide +kernel
theorem dL_law_336 : decode cL_law 336 = .ok (.ireturn, 1) := by decide +kernel
theorem dL_law_337 : decode cL_law 337 = .ok (.aload_n 1, 1) := by decide +kernel
theorem dL_law_338 : decode cL_law 338 = .ok (.invokevirtual 42, 3) := by decide +kernel
theorem dL_law_341 : decode cL_law 341 = .ok (.aload_n 2, 1) := by decide +kernel
theorem dL_law_342 : decode cL_law 342 = .ok (.invokevirtual 46, 3) := by decide +kernel
theorem dL_law_345 : decode cL_law 345 = .ok (.if_icmp .eq 243, 3) := by decide +kernel
theorem dL_law_348 : decode cL_law 348 = .ok (.iconst 0, 1) := by decide +kernel
theorem dL_law_349 : decode cL_law 349 = .ok (.ireturn, 1) := by decide +kernel
theorem dL_law_350 : decode cL_law 350 = .ok (.aload_n 1, 1) := by decide +kernel
theorem dL_law_351 : decode cL_law 351 = .ok (.aload_n 0, 1) := by decide +kernel
theorem dL_law_352 : decode cL_law 352 = .ok (.iload 4, 2) := by decide +kernel
theorem dL_law_354 : decode cL_law 354 = .ok (.iconst 1, 1) := by decide +kernel
theorem dL_law_355 : decode cL_law 355 = .ok (.iadd, 1) := by decide +kernel
theorem dL_law_356 : decode cL_law 356 = .ok (.iaload, 1) := by decide +kernel
theorem dL_law_357 : decode cL_law 357 = .ok (.invokevirtual 47, 3) := by decide +kernel
theorem dL_law_360 : decode cL_law 360 = .ok (.aload_n 2, 1) := by decide +kernel
theorem dL_law_361 : decode cL_law 361 = .ok (.aload_n 0, 1) := by decide +kernel
theorem dL_law_362 : decode cL_law 362 = .ok (.iload 4, 2) := by decide +kernel
theorem dL_law_364 : decode cL_law 364 = .ok (.iconst 1, 1) := by decide +kernel
theorem dL_law_365 : decode cL_law 365 = .ok (.iadd, 1) := by decide +kernel
theorem dL_law_366 : decode cL_law 366 = .ok (.iaload, 1) := by decide +kernel
theorem dL_law_367 : decode cL_law 367 = .ok (.invokevirtual 51, 3) := by decide +kernel
theorem dL_law_370 : decode cL_law 370 = .ok (.if_icmp .eq 218, 3) := by decide +kernel
theorem dL_law_373 : decode cL_law 373 = .ok (.iconst 0, 1) := by decide +kernel
theorem dL_law_374 : decode cL_law 374 = .ok (.ireturn, 1) := by decide +kernel
theorem dL_law_375 : decode cL_law 375 = .ok (.aload_n 1, 1) := by decide +kernel
theorem dL_law_376 : decode cL_law 376 = .ok (.aload_n 0, 1) := by decide +kernel
theorem dL_law_377 : decode cL_law 377 = .ok (.iload 4, 2) := by decide +kernel
theorem dL_law_379 : decode cL_law 379 = .ok (.iconst 1, 1) := by decide +kernel
theorem dL_law_380 : decode cL_law 380 = .ok (.iadd, 1) := by decide +kernel
theorem dL_law_381 : decode cL_law 381 = .ok (.iaload, 1) := by decide +kernel
theorem dL_law_382 : decode cL_law 382 = .ok (.invokevirtual 52, 3) := by decide +kernel
theorem dL_law_385 : decode cL_law 385 = .ok (.aload_n 2, 1) := by decide +kernel
theorem dL_law_386 : decode cL_law 386 = .ok (.aload_n 0, 1) := by decide +kernel
theorem dL_law_387 : decode cL_law 387 = .ok (.iload 4, 2) := by decide +kernel
theorem dL_law_389 : decode cL_law 389 = .ok (.iconst 1, 1) := by decide +kernel
theorem dL_law_390 : decode cL_law 390 = .ok (.iadd, 1) := by decide +kernel
theorem dL_law_391 : decode cL_law 391 = .ok (.iaload, 1) := by decide +kernel
theorem dL_law_392 : decode cL_law 392 = .ok (.invokevirtual 55, 3) := by decide +kernel
theorem dL_law_395 : decode cL_law 395 = .ok (.if_icmp .eq 193, 3) := by decide +kernel
theorem dL_law_398 : decode cL_law 398 = .ok (.iconst 0, 1) := by decide +kernel
theorem dL_law_399 : decode cL_law 399 = .ok (.ireturn, 1) := by decide +kernel
theorem dL_law_400 : decode cL_law 400 = .ok (.aload_n 1, 1) := by decide +kernel
theorem dL_law_401 : decode cL_law 401 = .ok (.aload_n 0, 1) := by decide +kernel
theorem dL_law_402 : decode cL_law 402 = .ok (.iload 4, 2) := by decide +kernel
theorem dL_law_404 : decode cL_law 404 = .ok (.iconst 1, 1) := by decide +kernel
theorem dL_law_405 : decode cL_law 405 = .ok (.iadd, 1) := by decide +kernel
theorem dL_law_406 : decode cL_law 406 = .ok (.iaload, 1) := by decide +kernel
theorem dL_law_407 : decode cL_law 407 = .ok (.i2l, 1) := by decide +kernel
theorem dL_law_408 : decode cL_law 408 = .ok (.bipush 32, 2) := by decide +kernel
theorem dL_law_410 : decode cL_law 410 = .ok (.lshl, 1) := by decide +kernel
theorem dL_law_411 : decode cL_law 411 = .ok (.aload_n 0, 1) := by decide +kernel
theorem dL_law_412 : decode cL_law 412 = .ok (.iload 4, 2) := by decide +kernel
theorem dL_law_414 : decode cL_law 414 = .ok (.iconst 2, 1) := by decide +kernel
theorem dL_law_415 : decode cL_law 415 = .ok (.iadd, 1) := by decide +kernel
theorem dL_law_416 : decode cL_law 416 = .ok (.iaload, 1) := by decide +kernel
theorem dL_law_417 : decode cL_law 417 = .ok (.i2l, 1) := by decide +kernel
theorem dL_law_418 : decode cL_law 418 = .ok (.ldc2_w 56, 3) := by decide +kernel
theorem dL_law_421 : decode cL_law 421 = .ok (.land, 1) := by decide +kernel
theorem dL_law_422 : decode cL_law 422 = .ok (.lor, 1) := by decide +kernel
theorem dL_law_423 : decode cL_law 423 = .ok (.invokevirtual 58, 3) := by decide +kernel
theorem dL_law_426 : decode cL_law 426 = .ok (.aload_n 2, 1) := by decide +kernel
theorem dL_law_427 : decode cL_law 427 = .ok (.aload_n 0, 1) := by decide +kernel
theorem dL_law_428 : decode cL_law 428 = .ok (.iload 4, 2) := by decide +kernel
theorem dL_law_430 : decode cL_law 430 = .ok (.iconst 1, 1) := by decide +kernel
theorem dL_law_431 : decode cL_law 431 = .ok (.iadd, 1) := by decide +kernel
theorem dL_law_432 : decode cL_law 432 = .ok (.iaload, 1) := by decide +kernel
theorem dL_law_433 : decode cL_law 433 = .ok (.i2l, 1) := by decide +kernel
theorem dL_law_434 : decode cL_law 434 = .ok (.bipush 32, 2) := by decide +kernel
theorem dL_law_436 : decode cL_law 436 = .ok (.lshl, 1) := by decide +kernel
theorem dL_law_437 : decode cL_law 437 = .ok (.aload_n 0, 1) := by decide +kernel
theorem dL_law_438 : decode cL_law 438 = .ok (.iload 4, 2) := by decide +kernel
theorem dL_law_440 : decode cL_law 440 = .ok (.iconst 2, 1) := by decide +kernel
theorem dL_law_441 : decode cL_law 441 = .ok (.iadd, 1) := by decide +kernel
theorem dL_law_442 : decode cL_law 442 = .ok (.iaload, 1) := by decide +kernel
theorem dL_law_443 : decode cL_law 443 = .ok (.i2l, 1) := by decide +kernel
theorem dL_law_444 : decode cL_law 444 = .ok (.ldc2_w 56, 3) := by decide +kernel
theorem dL_law_447 : decode cL_law 447 = .ok (.land, 1) := by decide +kernel
theorem dL_law_448 : decode cL_law 448 = .ok (.lor, 1) := by decide +kernel
theorem dL_law_449 : decode cL_law 449 = .ok (.invokevirtual 62, 3) := by decide +kernel
theorem dL_law_452 : decode cL_law 452 = .ok (.lcmp, 1) := by decide +kernel
theorem dL_law_453 : decode cL_law 453 = .ok (.ifCond .eq 135, 3) := by decide +kernel
theorem dL_law_456 : decode cL_law 456 = .ok (.iconst 0, 1) := by decide +kernel
theorem dL_law_457 : decode cL_law 457 = .ok (.ireturn, 1) := by decide +kernel
theorem dL_law_458 : decode cL_law 458 = .ok (.aload_n 1, 1) := by decide +kernel
theorem dL_law_459 : decode cL_law 459 = .ok (.aload_n 0, 1) := by decide +kernel
theorem dL_law_460 : decode cL_law 460 = .ok (.iload 4, 2) := by decide +kernel
theorem dL_law_462 : decode cL_law 462 = .ok (.iconst 1, 1) := by decide +kernel
theorem dL_law_463 : decode cL_law 463 = .ok (.iadd, 1) := by decide +kernel
theorem dL_law_464 : decode cL_law 464 = .ok (.iaload, 1) := by decide +kernel
theorem dL_law_465 : decode cL_law 465 = .ok (.aload_n 0, 1) := by decide +kernel
theorem dL_law_466 : decode cL_law 466 = .ok (.iload 4, 2) := by decide +kernel
theorem dL_law_468 : decode cL_law 468 = .ok (.iconst 2, 1) := by decide +kernel
theorem dL_law_469 : decode cL_law 469 = .ok (.iadd, 1) := by decide +kernel
theorem dL_law_470 : decode cL_law 470 = .ok (.iaload, 1) := by decide +kernel
theorem dL_law_471 : decode cL_law 471 = .ok (.invokevirtual 63, 3) := by decide +kernel
theorem dL_law_474 : decode cL_law 474 = .ok (.aload_n 2, 1) := by decide +kernel
theorem dL_law_475 : decode cL_law 475 = .ok (.aload_n 0, 1) := by decide +kernel
theorem dL_law_476 : decode cL_law 476 = .ok (.iload 4, 2) := by decide +kernel
theorem dL_law_478 : decode cL_law 478 = .ok (.iconst 1, 1) := by decide +kernel
theorem dL_law_479 : decode cL_law 479 = .ok (.iadd, 1) := by decide +kernel
theorem dL_law_480 : decode cL_law 480 = .ok (.iaload, 1) := by decide +kernel
theorem dL_law_481 : decode cL_law 481 = .ok (.aload_n 0, 1) := by decide +kernel
theorem dL_law_482 : decode cL_law 482 = .ok (.iload 4, 2) := by decide +kernel
theorem dL_law_484 : decode cL_law 484 = .ok (.iconst 2, 1) := by decide +kernel
theorem dL_law_485 : decode cL_law 485 = .ok (.iadd, 1) := by decide +kernel
theorem dL_law_486 : decode cL_law 486 = .ok (.iaload, 1) := by decide +kernel
theorem dL_law_487 : decode cL_law 487 = .ok (.invokevirtual 66, 3) := by decide +kernel
theorem dL_law_490 : decode cL_law 490 = .ok (.if_icmp .eq 98, 3) := by decide +kernel
theorem dL_law_493 : decode cL_law 493 = .ok (.iconst 0, 1) := by decide +kernel
theorem dL_law_494 : decode cL_law 494 = .ok (.ireturn, 1) := by decide +kernel
theorem dL_law_495 : decode cL_law 495 = .ok (.aload_n 1, 1) := by decide +kernel
theorem dL_law_496 : decode cL_law 496 = .ok (.aload_n 0, 1) := by decide +kernel
theorem dL_law_497 : decode cL_law 497 = .ok (.iload 4, 2) := by decide +kernel
theorem dL_law_499 : decode cL_law 499 = .ok (.iconst 1, 1) := by decide +kernel
theorem dL_law_500 : decode cL_law 500 = .ok (.iadd, 1) := by decide +kernel
theorem dL_law_501 : decode cL_law 501 = .ok (.iaload, 1) := by decide +kernel
theorem dL_law_502 : decode cL_law 502 = .ok (.aload_n 0, 1) := by decide +kernel
theorem dL_law_503 : decode cL_law 503 = .ok (.iload 4, 2) := by decide +kernel
theorem dL_law_505 : decode cL_law 505 = .ok (.iconst 2, 1) := by decide +kernel
theorem dL_law_506 : decode cL_law 506 = .ok (.iadd, 1) := by decide +kernel
theorem dL_law_507 : decode cL_law 507 = .ok (.iaload, 1) := by decide +kernel
theorem dL_law_508 : decode cL_law 508 = .ok (.invokevirtual 67, 3) := by decide +kernel
theorem dL_law_511 : decode cL_law 511 = .ok (.aload_n 2, 1) := by decide +kernel
theorem dL_law_512 : decode cL_law 512 = .ok (.aload_n 0, 1) := by decide +kernel
theorem dL_law_513 : decode cL_law 513 = .ok (.iload 4, 2) := by decide +kernel
theorem dL_law_515 : decode cL_law 515 = .ok (.iconst 1, 1) := by decide +kernel
theorem dL_law_516 : decode cL_law 516 = .ok (.iadd, 1) := by decide +kernel
theorem dL_law_517 : decode cL_law 517 = .ok (.iaload, 1) := by decide +kernel
theorem dL_law_518 : decode cL_law 518 = .ok (.aload_n 0, 1) := by decide +kernel
theorem dL_law_519 : decode cL_law 519 = .ok (.iload 4, 2) := by decide +kernel
theorem dL_law_521 : decode cL_law 521 = .ok (.iconst 2, 1) := by decide +kernel
theorem dL_law_522 : decode cL_law 522 = .ok (.iadd, 1) := by decide +kernel
theorem dL_law_523 : decode cL_law 523 = .ok (.iaload, 1) := by decide +kernel
theorem dL_law_524 : decode cL_law 524 = .ok (.invokevirtual 70, 3) := by decide +kernel
theorem dL_law_527 : decode cL_law 527 = .ok (.if_icmp .eq 61, 3) := by decide +kernel
theorem dL_law_530 : decode cL_law 530 = .ok (.iconst 0, 1) := by decide +kernel
theorem dL_law_531 : decode cL_law 531 = .ok (.ireturn, 1) := by decide +kernel
theorem dL_law_532 : decode cL_law 532 = .ok (.aload_n 1, 1) := by decide +kernel
theorem dL_law_533 : decode cL_law 533 = .ok (.aload_n 0, 1) := by decide +kernel
theorem dL_law_534 : decode cL_law 534 = .ok (.iload 4, 2) := by decide +kernel
theorem dL_law_536 : decode cL_law 536 = .ok (.iconst 1, 1) := by decide +kernel
theorem dL_law_537 : decode cL_law 537 = .ok (.iadd, 1) := by decide +kernel
theorem dL_law_538 : decode cL_law 538 = .ok (.iaload, 1) := by decide +kernel
theorem dL_law_539 : decode cL_law 539 = .ok (.aload_n 3, 1) := by decide +kernel
theorem dL_law_540 : decode cL_law 540 = .ok (.invokestatic 71, 3) := by decide +kernel
theorem dL_law_543 : decode cL_law 543 = .ok (.istore 5, 2) := by decide +kernel
theorem dL_law_545 : decode cL_law 545 = .ok (.aload_n 2, 1) := by decide +kernel
theorem dL_law_546 : decode cL_law 546 = .ok (.aload_n 0, 1) := by decide +kernel
theorem dL_law_547 : decode cL_law 547 = .ok (.iload 4, 2) := by decide +kernel
theorem dL_law_549 : decode cL_law 549 = .ok (.iconst 1, 1) := by decide +kernel
theorem dL_law_550 : decode cL_law 550 = .ok (.iadd, 1) := by decide +kernel
theorem dL_law_551 : decode cL_law 551 = .ok (.iaload, 1) := by decide +kernel
theorem dL_law_552 : decode cL_law 552 = .ok (.invokevirtual 76, 3) := by decide +kernel
theorem dL_law_555 : decode cL_law 555 = .ok (.istore 6, 2) := by decide +kernel
theorem dL_law_557 : decode cL_law 557 = .ok (.aload_n 2, 1) := by decide +kernel
theorem dL_law_558 : decode cL_law 558 = .ok (.invokevirtual 77, 3) := by decide +kernel
theorem dL_law_561 : decode cL_law 561 = .ok (.iload 5, 2) := by decide +kernel
theorem dL_law_563 : decode cL_law 563 = .ok (.if_icmp .eq 5, 3) := by decide +kernel
theorem dL_law_566 : decode cL_law 566 = .ok (.iconst 0, 1) := by decide +kernel
theorem dL_law_567 : decode cL_law 567 = .ok (.ireturn, 1) := by decide +kernel
theorem dL_law_568 : decode cL_law 568 = .ok (.iload 5, 2) := by decide +kernel
theorem dL_law_570 : decode cL_law 570 = .ok (.ifCond .ne 15, 3) := by decide +kernel
theorem dL_law_573 : decode cL_law 573 = .ok (.aload_n 3, 1) := by decide +kernel
theorem dL_law_574 : decode cL_law 574 = .ok (.iconst 0, 1) := by decide +kernel
theorem dL_law_575 : decode cL_law 575 = .ok (.laload, 1) := by decide +kernel
theorem dL_law_576 : decode cL_law 576 = .ok (.iload 6, 2) := by decide +kernel
theorem dL_law_578 : decode cL_law 578 = .ok (.i2l, 1) := by decide +kernel
theorem dL_law_579 : decode cL_law 579 = .ok (.lcmp, 1) := by decide +kernel
theorem dL_law_580 : decode cL_law 580 = .ok (.ifCond .eq 5, 3) := by decide +kernel
theorem dL_law_583 : decode cL_law 583 = .ok (.iconst 0, 1) := by decide +kernel
theorem dL_law_584 : decode cL_law 584 = .ok (.ireturn, 1) := by decide +kernel
theorem dL_law_585 : decode cL_law 585 = .ok (.goto 3, 3) := by decide +kernel
theorem dL_law_588 : decode cL_law 588 = .ok (.iinc 4 4, 3) := by decide +kernel
theorem dL_law_591 : decode cL_law 591 = .ok (.goto (-568), 3) := by decide +kernel
theorem dL_law_594 : decode cL_law 594 = .ok (.iconst 1, 1) := by decide +kernel
theorem dL_law_595 : decode cL_law 595 = .ok (.ireturn, 1) := by decide +kernel
