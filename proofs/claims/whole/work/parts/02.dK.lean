theorem dX0_init_0 : decode cX0_init 0 = .ok (.aload_n 0, 1) := by decide +kernel
theorem dX0_init_1 : decode cX0_init 1 = .ok (.invokespecial 3, 3) := by decide +kernel
theorem dX0_init_4 : decode cX0_init 4 = .ok (.aload_n 0, 1) := by decide +kernel
theorem dX0_init_5 : decode cX0_init 5 = .ok (.bipush 9, 2) := by decide +kernel
theorem dX0_init_7 : decode cX0_init 7 = .ok (.newarray .int, 2) := by decide +kernel
theorem dX0_init_9 : decode cX0_init 9 = .ok (.putfield 9, 3) := by decide +kernel
theorem dX0_init_12 : decode cX0_init 12 = .ok (.aload_n 0, 1) := by decide +kernel
theorem dX0_init_13 : decode cX0_init 13 = .ok (.bipush 9, 2) := by decide +kernel
theorem dX0_init_15 : decode cX0_init 15 = .ok (.newarray .int, 2) := by decide +kernel
theorem dX0_init_17 : decode cX0_init 17 = .ok (.putfield 15, 3) := by decide +kernel
theorem dX0_init_20 : decode cX0_init 20 = .ok (.aload_n 0, 1) := by decide +kernel
theorem dX0_init_21 : decode cX0_init 21 = .ok (.bipush 9, 2) := by decide +kernel
theorem dX0_init_23 : decode cX0_init 23 = .ok (.newarray .int, 2) := by decide +kernel
theorem dX0_init_25 : decode cX0_init 25 = .ok (.putfield 18, 3) := by decide +kernel
theorem dX0_init_28 : decode cX0_init 28 = .ok (.aload_n 0, 1) := by decide +kernel
theorem dX0_init_29 : decode cX0_init 29 = .ok (.new 21, 3) := by decide +kernel
theorem dX0_init_32 : decode cX0_init 32 = .ok (.dup, 1) := by decide +kernel
theorem dX0_init_33 : decode cX0_init 33 = .ok (.invokespecial 23, 3) := by decide +kernel
theorem dX0_init_36 : decode cX0_init 36 = .ok (.putfield 24, 3) := by decide +kernel
theorem dX0_init_39 : decode cX0_init 39 = .ok (.aload_n 0, 1) := by decide +kernel
theorem dX0_init_40 : decode cX0_init 40 = .ok (.new 21, 3) := by decide +kernel
theorem dX0_init_43 : decode cX0_init 43 = .ok (.dup, 1) := by decide +kernel
theorem dX0_init_44 : decode cX0_init 44 = .ok (.invokespecial 23, 3) := by decide +kernel
theorem dX0_init_47 : decode cX0_init 47 = .ok (.putfield 28, 3) := by decide +kernel
theorem dX0_init_50 : decode cX0_init 50 = .ok (.aload_n 0, 1) := by decide +kernel
theorem dX0_init_51 : decode cX0_init 51 = .ok (.invokevirtual 31, 3) := by decide +kernel
theorem dX0_init_54 : decode cX0_init 54 = .ok (.return_, 1) := by decide +kernel
theorem dX0_clear_0 : decode cX0_clear 0 = .ok (.aload_n 0, 1) := by decide +kernel
theorem dX0_clear_1 : decode cX0_clear 1 = .ok (.iconst 5, 1) := by decide +kernel
theorem dX0_clear_2 : decode cX0_clear 2 = .ok (.putfield 34, 3) := by decide +kernel
theorem dX0_clear_5 : decode cX0_clear 5 = .ok (.aload_n 0, 1) := by decide +kernel
theorem dX0_clear_6 : decode cX0_clear 6 = .ok (.iconst 2, 1) := by decide +kernel
theorem dX0_clear_7 : decode cX0_clear 7 = .ok (.putfield 38, 3) := by decide +kernel
theorem dX0_clear_10 : decode cX0_clear 10 = .ok (.aload_n 0, 1) := by decide +kernel
theorem dX0_clear_11 : decode cX0_clear 11 = .ok (.iconst 2, 1) := by decide +kernel
theorem dX0_clear_12 : decode cX0_clear 12 = .ok (.putfield 41, 3) := by decide +kernel
theorem dX0_clear_15 : decode cX0_clear 15 = .ok (.aload_n 0, 1) := by decide +kernel
theorem dX0_clear_16 : decode cX0_clear 16 = .ok (.iconst 0, 1) := by decide +kernel
theorem dX0_clear_17 : decode cX0_clear 17 = .ok (.putfield 44, 3) := by decide +kernel
theorem dX0_clear_20 : decode cX0_clear 20 = .ok (.aload_n 0, 1) := by decide +kernel
theorem dX0_clear_21 : decode cX0_clear 21 = .ok (.iconst 0, 1) := by decide +kernel
theorem dX0_clear_22 : decode cX0_clear 22 = .ok (.putfield 47, 3) := by decide +kernel
theorem dX0_clear_25 : decode cX0_clear 25 = .ok (.iconst 0, 1) := by decide +kernel
theorem dX0_clear_26 : decode cX0_clear 26 = .ok (.istore_n 1, 1) := by decide +kernel
theorem dX0_clear_27 : decode cX0_clear 27 = .ok (.iload_n 1, 1) := by decide +kernel
theorem dX0_clear_28 : decode cX0_clear 28 = .ok (.bipush 9, 2) := by decide +kernel
theorem dX0_clear_30 : decode cX0_clear 30 = .ok (.if_icmp .ge 31, 3) := by decide +kernel
theorem dX0_clear_33 : decode cX0_clear 33 = .ok (.aload_n 0, 1) := by decide +kernel
theorem dX0_clear_34 : decode cX0_clear 34 = .ok (.getfield 9, 3) := by decide +kernel
theorem dX0_clear_37 : decode cX0_clear 37 = .ok (.iload_n 1, 1) := by decide +kernel
theorem dX0_clear_38 : decode cX0_clear 38 = .ok (.bipush 12, 2) := by decide +kernel
theorem dX0_clear_40 : decode cX0_clear 40 = .ok (.iastore, 1) := by decide +kernel
theorem dX0_clear_41 : decode cX0_clear 41 = .ok (.aload_n 0, 1) := by decide +kernel
theorem dX0_clear_42 : decode cX0_clear 42 = .ok (.getfield 15, 3) := by decide +kernel
theorem dX0_clear_45 : decode cX0_clear 45 = .ok (.iload_n 1, 1) := by decide +kernel
theorem dX0_clear_46 : decode cX0_clear 46 = .ok (.iconst 3, 1) := by decide +kernel
theorem dX0_clear_47 : decode cX0_clear 47 = .ok (.iastore, 1) := by decide +kernel
theorem dX0_clear_48 : decode cX0_clear 48 = .ok (.aload_n 0, 1) := by decide +kernel
theorem dX0_clear_49 : decode cX0_clear 49 = .ok (.getfield 18, 3) := by decide +kernel
theorem dX0_clear_52 : decode cX0_clear 52 = .ok (.iload_n 1, 1) := by decide +kernel
theorem dX0_clear_53 : decode cX0_clear 53 = .ok (.iconst 0, 1) := by decide +kernel
theorem dX0_clear_54 : decode cX0_clear 54 = .ok (.iastore, 1) := by decide +kernel
theorem dX0_clear_55 : decode cX0_clear 55 = .ok (.iinc 1 1, 3) := by decide +kernel
theorem dX0_clear_58 : decode cX0_clear 58 = .ok (.goto (-31), 3) := by decide +kernel
theorem dX0_clear_61 : decode cX0_clear 61 = .ok (.aload_n 0, 1) := by decide +kernel
theorem dX0_clear_62 : decode cX0_clear 62 = .ok (.getfield 24, 3) := by decide +kernel
theorem dX0_clear_65 : decode cX0_clear 65 = .ok (.invokevirtual 50, 3) := by decide +kernel
theorem dX0_clear_68 : decode cX0_clear 68 = .ok (.aload_n 0, 1) := by decide +kernel
theorem dX0_clear_69 : decode cX0_clear 69 = .ok (.getfield 28, 3) := by decide +kernel
theorem dX0_clear_72 : decode cX0_clear 72 = .ok (.invokevirtual 50, 3) := by decide +kernel
theorem dX0_clear_75 : decode cX0_clear 75 = .ok (.return_, 1) := by decide +kernel
theorem dX0_copyOf_0 : decode cX0_copyOf 0 = .ok (.aload_n 0, 1) := by decide +kernel
theorem dX0_copyOf_1 : decode cX0_copyOf 1 = .ok (.aload_n 1, 1) := by decide +kernel
theorem dX0_copyOf_2 : decode cX0_copyOf 2 = .ok (.getfield 34, 3) := by decide +kernel
theorem dX0_copyOf_5 : decode cX0_copyOf 5 = .ok (.putfield 34, 3) := by decide +kernel
theorem dX0_copyOf_8 : decode cX0_copyOf 8 = .ok (.aload_n 0, 1) := by decide +kernel
theorem dX0_copyOf_9 : decode cX0_copyOf 9 = .ok (.aload_n 1, 1) := by decide +kernel
theorem dX0_copyOf_10 : decode cX0_copyOf 10 = .ok (.getfield 38, 3) := by decide +kernel
theorem dX0_copyOf_13 : decode cX0_copyOf 13 = .ok (.putfield 38, 3) := by decide +kernel
theorem dX0_copyOf_16 : decode cX0_copyOf 16 = .ok (.aload_n 0, 1) := by decide +kernel
theorem dX0_copyOf_17 : decode cX0_copyOf 17 = .ok (.aload_n 1, 1) := by decide +kernel
theorem dX0_copyOf_18 : decode cX0_copyOf 18 = .ok (.getfield 41, 3) := by decide +kernel
theorem dX0_copyOf_21 : decode cX0_copyOf 21 = .ok (.putfield 41, 3) := by decide +kernel
theorem dX0_copyOf_24 : decode cX0_copyOf 24 = .ok (.aload_n 0, 1) := by decide +kernel
theorem dX0_copyOf_25 : decode cX0_copyOf 25 = .ok (.aload_n 1, 1) := by decide +kernel
theorem dX0_copyOf_26 : decode cX0_copyOf 26 = .ok (.getfield 44, 3) := by decide +kernel
theorem dX0_copyOf_29 : decode cX0_copyOf 29 = .ok (.putfield 44, 3) := by decide +kernel
theorem dX0_copyOf_32 : decode cX0_copyOf 32 = .ok (.aload_n 0, 1) := by decide +kernel
theorem dX0_copyOf_33 : decode cX0_copyOf 33 = .ok (.aload_n 1, 1) := by decide +kernel
theorem dX0_copyOf_34 : decode cX0_copyOf 34 = .ok (.getfield 47, 3) := by decide +kernel
theorem dX0_copyOf_37 : decode cX0_copyOf 37 = .ok (.putfield 47, 3) := by decide +kernel
theorem dX0_copyOf_40 : decode cX0_copyOf 40 = .ok (.aload_n 1, 1) := by decide +kernel
theorem dX0_copyOf_41 : decode cX0_copyOf 41 = .ok (.getfield 9, 3) := by decide +kernel
theorem dX0_copyOf_44 : decode cX0_copyOf 44 = .ok (.iconst 0, 1) := by decide +kernel
theorem dX0_copyOf_45 : decode cX0_copyOf 45 = .ok (.aload_n 0, 1) := by decide +kernel
theorem dX0_copyOf_46 : decode cX0_copyOf 46 = .ok (.getfield 9, 3) := by decide +kernel
theorem dX0_copyOf_49 : decode cX0_copyOf 49 = .ok (.iconst 0, 1) := by decide +kernel
theorem dX0_copyOf_50 : decode cX0_copyOf 50 = .ok (.bipush 9, 2) := by decide +kernel
theorem dX0_copyOf_52 : decode cX0_copyOf 52 = .ok (.invokestatic 51, 3) := by decide +kernel
theorem dX0_copyOf_55 : decode cX0_copyOf 55 = .ok (.aload_n 1, 1) := by decide +kernel
theorem dX0_copyOf_56 : decode cX0_copyOf 56 = .ok (.getfield 15, 3) := by decide +kernel
theorem dX0_copyOf_59 : decode cX0_copyOf 59 = .ok (.iconst 0, 1) := by decide +kernel
theorem dX0_copyOf_60 : decode cX0_copyOf 60 = .ok (.aload_n 0, 1) := by decide +kernel
theorem dX0_copyOf_61 : decode cX0_copyOf 61 = .ok (.getfield 15, 3) := by decide +kernel
theorem dX0_copyOf_64 : decode cX0_copyOf 64 = .ok (.iconst 0, 1) := by decide +kernel
theorem dX0_copyOf_65 : decode cX0_copyOf 65 = .ok (.bipush 9, 2) := by decide +kernel
theorem dX0_copyOf_67 : decode cX0_copyOf 67 = .ok (.invokestatic 51, 3) := by decide +kernel
theorem dX0_copyOf_70 : decode cX0_copyOf 70 = .ok (.aload_n 1, 1) := by decide +kernel
theorem dX0_copyOf_71 : decode cX0_copyOf 71 = .ok (.getfield 18, 3) := by decide +kernel
theorem dX0_copyOf_74 : decode cX0_copyOf 74 = .ok (.iconst 0, 1) := by decide +kernel
theorem dX0_copyOf_75 : decode cX0_copyOf 75 = .ok (.aload_n 0, 1) := by decide +kernel
theorem dX0_copyOf_76 : decode cX0_copyOf 76 = .ok (.getfield 18, 3) := by decide +kernel
theorem dX0_copyOf_79 : decode cX0_copyOf 79 = .ok (.iconst 0, 1) := by decide +kernel
theorem dX0_copyOf_80 : decode cX0_copyOf 80 = .ok (.bipush 9, 2) := by decide +kernel
theorem dX0_copyOf_82 : decode cX0_copyOf 82 = .ok (.invokestatic 51, 3) := by decide +kernel
theorem dX0_copyOf_85 : decode cX0_copyOf 85 = .ok (.aload_n 0, 1) := by decide +kernel
theorem dX0_copyOf_86 : decode cX0_copyOf 86 = .ok (.getfield 24, 3) := by decide +kernel
theorem dX0_copyOf_89 : decode cX0_copyOf 89 = .ok (.aload_n 1, 1) := by decide +kernel
theorem dX0_copyOf_90 : decode cX0_copyOf 90 = .ok (.getfield 24, 3) := by decide +kernel
theorem dX0_copyOf_93 : decode cX0_copyOf 93 = .ok (.invokevirtual 57, 3) := by decide +kernel
theorem dX0_copyOf_96 : decode cX0_copyOf 96 = .ok (.aload_n 0, 1) := by decide +kernel
theorem dX0_copyOf_97 : decode cX0_copyOf 97 = .ok (.getfield 28, 3) := by decide +kernel
theorem dX0_copyOf_100 : decode cX0_copyOf 100 = .ok (.aload_n 1, 1) := by decide +kernel
theorem dX0_copyOf_101 : decode cX0_copyOf 101 = .ok (.getfield 28, 3) := by decide +kernel
theorem dX0_copyOf_104 : decode cX0_copyOf 104 = .ok (.invokevirtual 57, 3) := by decide +kernel
theorem dX0_copyOf_107 : decode cX0_copyOf 107 = .ok (.return_, 1) := by decide +kernel
theorem dX0_sideOf_0 : decode cX0_sideOf 0 = .ok (.iload_n 1, 1) := by decide +kernel
theorem dX0_sideOf_1 : decode cX0_sideOf 1 = .ok (.ifCond .ne 10, 3) := by decide +kernel
theorem dX0_sideOf_4 : decode cX0_sideOf 4 = .ok (.aload_n 0, 1) := by decide +kernel
theorem dX0_sideOf_5 : decode cX0_sideOf 5 = .ok (.getfield 24, 3) := by decide +kernel
theorem dX0_sideOf_8 : decode cX0_sideOf 8 = .ok (.goto 7, 3) := by decide +kernel
theorem dX0_sideOf_11 : decode cX0_sideOf 11 = .ok (.aload_n 0, 1) := by decide +kernel
theorem dX0_sideOf_12 : decode cX0_sideOf 12 = .ok (.getfield 28, 3) := by decide +kernel
theorem dX0_sideOf_15 : decode cX0_sideOf 15 = .ok (.areturn, 1) := by decide +kernel
theorem dX0_hasCell_0 : decode cX0_hasCell 0 = .ok (.iload_n 1, 1) := by decide +kernel
theorem dX0_hasCell_1 : decode cX0_hasCell 1 = .ok (.ifCond .lt 21, 3) := by decide +kernel
theorem dX0_hasCell_4 : decode cX0_hasCell 4 = .ok (.iload_n 1, 1) := by decide +kernel
theorem dX0_hasCell_5 : decode cX0_hasCell 5 = .ok (.aload_n 0, 1) := by decide +kernel
theorem dX0_hasCell_6 : decode cX0_hasCell 6 = .ok (.getfield 34, 3) := by decide +kernel
theorem dX0_hasCell_9 : decode cX0_hasCell 9 = .ok (.if_icmp .ge 13, 3) := by decide +kernel
theorem dX0_hasCell_12 : decode cX0_hasCell 12 = .ok (.iload_n 1, 1) := by decide +kernel
theorem dX0_hasCell_13 : decode cX0_hasCell 13 = .ok (.bipush 9, 2) := by decide +kernel
theorem dX0_hasCell_15 : decode cX0_hasCell 15 = .ok (.if_icmp .ge 7, 3) := by decide +kernel
theorem dX0_hasCell_18 : decode cX0_hasCell 18 = .ok (.iconst 1, 1) := by decide +kernel
theorem dX0_hasCell_19 : decode cX0_hasCell 19 = .ok (.goto 4, 3) := by decide +kernel
theorem dX0_hasCell_22 : decode cX0_hasCell 22 = .ok (.iconst 0, 1) := by decide +kernel
theorem dX0_hasCell_23 : decode cX0_hasCell 23 = .ok (.ireturn, 1) := by decide +kernel
theorem dX0_hasPlace_0 : decode cX0_hasPlace 0 = .ok (.aload_n 0, 1) := by decide +kernel
theorem dX0_hasPlace_1 : decode cX0_hasPlace 1 = .ok (.iload_n 1, 1) := by decide +kernel
theorem dX0_hasPlace_2 : decode cX0_hasPlace 2 = .ok (.invokevirtual 61, 3) := by decide +kernel
theorem dX0_hasPlace_5 : decode cX0_hasPlace 5 = .ok (.ifCond .ne 15, 3) := by decide +kernel
theorem dX0_hasPlace_8 : decode cX0_hasPlace 8 = .ok (.iload_n 1, 1) := by decide +kernel
theorem dX0_hasPlace_9 : decode cX0_hasPlace 9 = .ok (.bipush 20, 2) := by decide +kernel
theorem dX0_hasPlace_11 : decode cX0_hasPlace 11 = .ok (.if_icmp .eq 9, 3) := by decide +kernel
theorem dX0_hasPlace_14 : decode cX0_hasPlace 14 = .ok (.iload_n 1, 1) := by decide +kernel
theorem dX0_hasPlace_15 : decode cX0_hasPlace 15 = .ok (.bipush 21, 2) := by decide +kernel
theorem dX0_hasPlace_17 : decode cX0_hasPlace 17 = .ok (.if_icmp .ne 7, 3) := by decide +kernel
theorem dX0_hasPlace_20 : decode cX0_hasPlace 20 = .ok (.iconst 1, 1) := by decide +kernel
theorem dX0_hasPlace_21 : decode cX0_hasPlace 21 = .ok (.goto 4, 3) := by decide +kernel
theorem dX0_hasPlace_24 : decode cX0_hasPlace 24 = .ok (.iconst 0, 1) := by decide +kernel
theorem dX0_hasPlace_25 : decode cX0_hasPlace 25 = .ok (.ireturn, 1) := by decide +kernel
theorem dX0_isOver_0 : decode cX0_isOver 0 = .ok (.aload_n 0, 1) := by decide +kernel
theorem dX0_isOver_1 : decode cX0_isOver 1 = .ok (.getfield 38, 3) := by decide +kernel
theorem dX0_isOver_4 : decode cX0_isOver 4 = .ok (.ifCond .lt 23, 3) := by decide +kernel
theorem dX0_isOver_7 : decode cX0_isOver 7 = .ok (.aload_n 0, 1) := by decide +kernel
theorem dX0_isOver_8 : decode cX0_isOver 8 = .ok (.getfield 38, 3) := by decide +kernel
theorem dX0_isOver_11 : decode cX0_isOver 11 = .ok (.aload_n 0, 1) := by decide +kernel
theorem dX0_isOver_12 : decode cX0_isOver 12 = .ok (.getfield 34, 3) := by decide +kernel
theorem dX0_isOver_15 : decode cX0_isOver 15 = .ok (.if_icmp .ge 12, 3) := by decide +kernel
theorem dX0_isOver_18 : decode cX0_isOver 18 = .ok (.aload_n 0, 1) := by decide +kernel
theorem dX0_isOver_19 : decode cX0_isOver 19 = .ok (.getfield 38, 3) := by decide +kernel
theorem dX0_isOver_22 : decode cX0_isOver 22 = .ok (.bipush 9, 2) := by decide +kernel
theorem dX0_isOver_24 : decode cX0_isOver 24 = .ok (.if_icmp .lt 7, 3) := by decide +kernel
theorem dX0_isOver_27 : decode cX0_isOver 27 = .ok (.iconst 1, 1) := by decide +kernel
theorem dX0_isOver_28 : decode cX0_isOver 28 = .ok (.goto 4, 3) := by decide +kernel
theorem dX0_isOver_31 : decode cX0_isOver 31 = .ok (.iconst 0, 1) := by decide +kernel
theorem dX0_isOver_32 : decode cX0_isOver 32 = .ok (.ireturn, 1) := by decide +kernel
theorem dX0_spotOf_0 : decode cX0_spotOf 0 = .ok (.iload_n 1, 1) := by decide +kernel
theorem dX0_spotOf_1 : decode cX0_spotOf 1 = .ok (.bipush 20, 2) := by decide +kernel
theorem dX0_spotOf_3 : decode cX0_spotOf 3 = .ok (.if_icmp .ne 5, 3) := by decide +kernel
theorem dX0_spotOf_6 : decode cX0_spotOf 6 = .ok (.iconst 0, 1) := by decide +kernel
theorem dX0_spotOf_7 : decode cX0_spotOf 7 = .ok (.ireturn, 1) := by decide +kernel
theorem dX0_spotOf_8 : decode cX0_spotOf 8 = .ok (.iload_n 1, 1) := by decide +kernel
theorem dX0_spotOf_9 : decode cX0_spotOf 9 = .ok (.bipush 21, 2) := by decide +kernel
theorem dX0_spotOf_11 : decode cX0_spotOf 11 = .ok (.if_icmp .ne 12, 3) := by decide +kernel
theorem dX0_spotOf_14 : decode cX0_spotOf 14 = .ok (.aload_n 0, 1) := by decide +kernel
theorem dX0_spotOf_15 : decode cX0_spotOf 15 = .ok (.getfield 34, 3) := by decide +kernel
theorem dX0_spotOf_18 : decode cX0_spotOf 18 = .ok (.iconst 1, 1) := by decide +kernel
theorem dX0_spotOf_19 : decode cX0_spotOf 19 = .ok (.iadd, 1) := by decide +kernel
theorem dX0_spotOf_20 : decode cX0_spotOf 20 = .ok (.goto 6, 3) := by decide +kernel
theorem dX0_spotOf_23 : decode cX0_spotOf 23 = .ok (.iload_n 1, 1) := by decide +kernel
theorem dX0_spotOf_24 : decode cX0_spotOf 24 = .ok (.iconst 1, 1) := by decide +kernel
theorem dX0_spotOf_25 : decode cX0_spotOf 25 = .ok (.iadd, 1) := by decide +kernel
theorem dX0_spotOf_26 : decode cX0_spotOf 26 = .ok (.ireturn, 1) := by decide +kernel
theorem dX0_spot_0 : decode cX0_spot 0 = .ok (.aload_n 0, 1) := by decide +kernel
theorem dX0_spot_1 : decode cX0_spot 1 = .ok (.aload_n 0, 1) := by decide +kernel
theorem dX0_spot_2 : decode cX0_spot 2 = .ok (.getfield 38, 3) := by decide +kernel
theorem dX0_spot_5 : decode cX0_spot 5 = .ok (.invokevirtual 65, 3) := by decide +kernel
theorem dX0_spot_8 : decode cX0_spot 8 = .ok (.ireturn, 1) := by decide +kernel
theorem dX0_distanceOf_0 : decode cX0_distanceOf 0 = .ok (.iload_n 1, 1) := by decide +kernel
theorem dX0_distanceOf_1 : decode cX0_distanceOf 1 = .ok (.ifCond .ne 10, 3) := by decide +kernel
theorem dX0_distanceOf_4 : decode cX0_distanceOf 4 = .ok (.aload_n 0, 1) := by decide +kernel
theorem dX0_distanceOf_5 : decode cX0_distanceOf 5 = .ok (.invokevirtual 69, 3) := by decide +kernel
theorem dX0_distanceOf_8 : decode cX0_distanceOf 8 = .ok (.goto 14, 3) := by decide +kernel
theorem dX0_distanceOf_11 : decode cX0_distanceOf 11 = .ok (.aload_n 0, 1) := by decide +kernel
theorem dX0_distanceOf_12 : decode cX0_distanceOf 12 = .ok (.getfield 34, 3) := by decide +kernel
theorem dX0_distanceOf_15 : decode cX0_distanceOf 15 = .ok (.iconst 1, 1) := by decide +kernel
theorem dX0_distanceOf_16 : decode cX0_distanceOf 16 = .ok (.iadd, 1) := by decide +kernel
theorem dX0_distanceOf_17 : decode cX0_distanceOf 17 = .ok (.aload_n 0, 1) := by decide +kernel
theorem dX0_distanceOf_18 : decode cX0_distanceOf 18 = .ok (.invokevirtual 69, 3) := by decide +kernel
theorem dX0_distanceOf_21 : decode cX0_distanceOf 21 = .ok (.isub, 1) := by decide +kernel
theorem dX0_distanceOf_22 : decode cX0_distanceOf 22 = .ok (.ireturn, 1) := by decide +kernel
theorem dX0_nearestOf_0 : decode cX0_nearestOf 0 = .ok (.aload_n 0, 1) := by decide +kernel
theorem dX0_nearestOf_1 : decode cX0_nearestOf 1 = .ok (.invokevirtual 73, 3) := by decide +kernel
theorem dX0_nearestOf_4 : decode cX0_nearestOf 4 = .ok (.ifCond .eq 11, 3) := by decide +kernel
theorem dX0_nearestOf_7 : decode cX0_nearestOf 7 = .ok (.aload_n 0, 1) := by decide +kernel
theorem dX0_nearestOf_8 : decode cX0_nearestOf 8 = .ok (.iload_n 1, 1) := by decide +kernel
theorem dX0_nearestOf_9 : decode cX0_nearestOf 9 = .ok (.invokevirtual 77, 3) := by decide +kernel
theorem dX0_nearestOf_12 : decode cX0_nearestOf 12 = .ok (.goto 14, 3) := by decide +kernel
theorem dX0_nearestOf_15 : decode cX0_nearestOf 15 = .ok (.iconst 0, 1) := by decide +kernel
theorem dX0_nearestOf_16 : decode cX0_nearestOf 16 = .ok (.aload_n 0, 1) := by decide +kernel
theorem dX0_nearestOf_17 : decode cX0_nearestOf 17 = .ok (.iload_n 1, 1) := by decide +kernel
theorem dX0_nearestOf_18 : decode cX0_nearestOf 18 = .ok (.invokevirtual 77, 3) := by decide +kernel
theorem dX0_nearestOf_21 : decode cX0_nearestOf 21 = .ok (.iload_n 2, 1) := by decide +kernel
theorem dX0_nearestOf_22 : decode cX0_nearestOf 22 = .ok (.isub, 1) := by decide +kernel
theorem dX0_nearestOf_23 : decode cX0_nearestOf 23 = .ok (.invokestatic 80, 3) := by decide +kernel
theorem dX0_nearestOf_26 : decode cX0_nearestOf 26 = .ok (.ireturn, 1) := by decide +kernel
theorem dX0_isBeyond_0 : decode cX0_isBeyond 0 = .ok (.aload_n 0, 1) := by decide +kernel
theorem dX0_isBeyond_1 : decode cX0_isBeyond 1 = .ok (.iload_n 1, 1) := by decide +kernel
theorem dX0_isBeyond_2 : decode cX0_isBeyond 2 = .ok (.invokevirtual 77, 3) := by decide +kernel
theorem dX0_isBeyond_5 : decode cX0_isBeyond 5 = .ok (.iload_n 1, 1) := by decide +kernel
theorem dX0_isBeyond_6 : decode cX0_isBeyond 6 = .ok (.ifCond .ne 9, 3) := by decide +kernel
theorem dX0_isBeyond_9 : decode cX0_isBeyond 9 = .ok (.iload_n 2, 1) := by decide +kernel
theorem dX0_isBeyond_10 : decode cX0_isBeyond 10 = .ok (.iconst 1, 1) := by decide +kernel
theorem dX0_isBeyond_11 : decode cX0_isBeyond 11 = .ok (.iadd, 1) := by decide +kernel
theorem dX0_isBeyond_12 : decode cX0_isBeyond 12 = .ok (.goto 9, 3) := by decide +kernel
theorem dX0_isBeyond_15 : decode cX0_isBeyond 15 = .ok (.aload_n 0, 1) := by decide +kernel
theorem dX0_isBeyond_16 : decode cX0_isBeyond 16 = .ok (.getfield 34, 3) := by decide +kernel
theorem dX0_isBeyond_19 : decode cX0_isBeyond 19 = .ok (.iload_n 2, 1) := by decide +kernel
theorem dX0_isBeyond_20 : decode cX0_isBeyond 20 = .ok (.isub, 1) := by decide +kernel
theorem dX0_isBeyond_21 : decode cX0_isBeyond 21 = .ok (.if_icmp .le 7, 3) := by decide +kernel
theorem dX0_isBeyond_24 : decode cX0_isBeyond 24 = .ok (.iconst 1, 1) := by decide +kernel
theorem dX0_isBeyond_25 : decode cX0_isBeyond 25 = .ok (.goto 4, 3) := by decide +kernel
theorem dX0_isBeyond_28 : decode cX0_isBeyond 28 = .ok (.iconst 0, 1) := by decide +kernel
theorem dX0_isBeyond_29 : decode cX0_isBeyond 29 = .ok (.ireturn, 1) := by decide +kernel
theorem dX0_hasFresh_0 : decode cX0_hasFresh 0 = .ok (.iload_n 1, 1) := by decide +kernel
theorem dX0_hasFresh_1 : decode cX0_hasFresh 1 = .ok (.iconst 0, 1) := by decide +kernel
theorem dX0_hasFresh_2 : decode cX0_hasFresh 2 = .ok (.aload_n 0, 1) := by decide +kernel
theorem dX0_hasFresh_3 : decode cX0_hasFresh 3 = .ok (.getfield 24, 3) := by decide +kernel
theorem dX0_hasFresh_6 : decode cX0_hasFresh 6 = .ok (.getfield 86, 3) := by decide +kernel
theorem dX0_hasFresh_9 : decode cX0_hasFresh 9 = .ok (.invokestatic 89, 3) := by decide +kernel
theorem dX0_hasFresh_12 : decode cX0_hasFresh 12 = .ok (.ifCond .eq 22, 3) := by decide +kernel
theorem dX0_hasFresh_15 : decode cX0_hasFresh 15 = .ok (.iload_n 2, 1) := by decide +kernel
theorem dX0_hasFresh_16 : decode cX0_hasFresh 16 = .ok (.iconst 0, 1) := by decide +kernel
theorem dX0_hasFresh_17 : decode cX0_hasFresh 17 = .ok (.aload_n 0, 1) := by decide +kernel
theorem dX0_hasFresh_18 : decode cX0_hasFresh 18 = .ok (.getfield 28, 3) := by decide +kernel
theorem dX0_hasFresh_21 : decode cX0_hasFresh 21 = .ok (.getfield 86, 3) := by decide +kernel
theorem dX0_hasFresh_24 : decode cX0_hasFresh 24 = .ok (.invokestatic 89, 3) := by decide +kernel
theorem dX0_hasFresh_27 : decode cX0_hasFresh 27 = .ok (.ifCond .eq 7, 3) := by decide +kernel
theorem dX0_hasFresh_30 : decode cX0_hasFresh 30 = .ok (.iconst 1, 1) := by decide +kernel
theorem dX0_hasFresh_31 : decode cX0_hasFresh 31 = .ok (.goto 4, 3) := by decide +kernel
theorem dX0_hasFresh_34 : decode cX0_hasFresh 34 = .ok (.iconst 0, 1) := by decide +kernel
theorem dX0_hasFresh_35 : decode cX0_hasFresh 35 = .ok (.ireturn, 1) := by decide +kernel
theorem dX0_passOrRefuse_0 : decode cX0_passOrRefuse 0 = .ok (.aload_n 0, 1) := by decide +kernel
theorem dX0_passOrRefuse_1 : decode cX0_passOrRefuse 1 = .ok (.iload_n 1, 1) := by decide +kernel
theorem dX0_passOrRefuse_2 : decode cX0_passOrRefuse 2 = .ok (.iload_n 2, 1) := by decide +kernel
theorem dX0_passOrRefuse_3 : decode cX0_passOrRefuse 3 = .ok (.invokevirtual 93, 3) := by decide +kernel
theorem dX0_passOrRefuse_6 : decode cX0_passOrRefuse 6 = .ok (.ifCond .ne 5, 3) := by decide +kernel
theorem dX0_passOrRefuse_9 : decode cX0_passOrRefuse 9 = .ok (.iconst (-1), 1) := by decide +kernel
theorem dX0_passOrRefuse_10 : decode cX0_passOrRefuse 10 = .ok (.ireturn, 1) := by decide +kernel
theorem dX0_passOrRefuse_11 : decode cX0_passOrRefuse 11 = .ok (.aload_n 0, 1) := by decide +kernel
theorem dX0_passOrRefuse_12 : decode cX0_passOrRefuse 12 = .ok (.invokevirtual 73, 3) := by decide +kernel
theorem dX0_passOrRefuse_15 : decode cX0_passOrRefuse 15 = .ok (.ifCond .eq 6, 3) := by decide +kernel
theorem dX0_passOrRefuse_18 : decode cX0_passOrRefuse 18 = .ok (.bipush (-2), 2) := by decide +kernel
theorem dX0_passOrRefuse_20 : decode cX0_passOrRefuse 20 = .ok (.ireturn, 1) := by decide +kernel
theorem dX0_passOrRefuse_21 : decode cX0_passOrRefuse 21 = .ok (.aload_n 0, 1) := by decide +kernel
theorem dX0_passOrRefuse_22 : decode cX0_passOrRefuse 22 = .ok (.getfield 47, 3) := by decide +kernel
theorem dX0_passOrRefuse_25 : decode cX0_passOrRefuse 25 = .ok (.sipush 999, 3) := by decide +kernel
theorem dX0_passOrRefuse_28 : decode cX0_passOrRefuse 28 = .ok (.if_icmp .lt 6, 3) := by decide +kernel
theorem dX0_passOrRefuse_31 : decode cX0_passOrRefuse 31 = .ok (.bipush (-3), 2) := by decide +kernel
theorem dX0_passOrRefuse_33 : decode cX0_passOrRefuse 33 = .ok (.ireturn, 1) := by decide +kernel
theorem dX0_passOrRefuse_34 : decode cX0_passOrRefuse 34 = .ok (.aload_n 0, 1) := by decide +kernel
theorem dX0_passOrRefuse_35 : decode cX0_passOrRefuse 35 = .ok (.iload_n 1, 1) := by decide +kernel
theorem dX0_passOrRefuse_36 : decode cX0_passOrRefuse 36 = .ok (.iload_n 2, 1) := by decide +kernel
theorem dX0_passOrRefuse_37 : decode cX0_passOrRefuse 37 = .ok (.iload_n 3, 1) := by decide +kernel
theorem dX0_passOrRefuse_38 : decode cX0_passOrRefuse 38 = .ok (.invokevirtual 97, 3) := by decide +kernel
theorem dX0_passOrRefuse_41 : decode cX0_passOrRefuse 41 = .ok (.iconst 0, 1) := by decide +kernel
theorem dX0_passOrRefuse_42 : decode cX0_passOrRefuse 42 = .ok (.ireturn, 1) := by decide +kernel
theorem dX0_sentBy_0 : decode cX0_sentBy 0 = .ok (.aload_n 0, 1) := by decide +kernel
theorem dX0_sentBy_1 : decode cX0_sentBy 1 = .ok (.iload_n 1, 1) := by decide +kernel
theorem dX0_sentBy_2 : decode cX0_sentBy 2 = .ok (.invokevirtual 101, 3) := by decide +kernel
theorem dX0_sentBy_5 : decode cX0_sentBy 5 = .ok (.astore_n 2, 1) := by decide +kernel
theorem dX0_sentBy_6 : decode cX0_sentBy 6 = .ok (.aload_n 2, 1) := by decide +kernel
theorem dX0_sentBy_7 : decode cX0_sentBy 7 = .ok (.getfield 105, 3) := by decide +kernel
theorem dX0_sentBy_10 : decode cX0_sentBy 10 = .ok (.tableswitch 88 1 4 #[30, 37, 49, 70], 30) := by decide +kernel
theorem dX0_sentBy_40 : decode cX0_sentBy 40 = .ok (.aload_n 2, 1) := by decide +kernel
theorem dX0_sentBy_41 : decode cX0_sentBy 41 = .ok (.getfield 86, 3) := by decide +kernel
theorem dX0_sentBy_44 : decode cX0_sentBy 44 = .ok (.iconst 2, 1) := by decide +kernel
theorem dX0_sentBy_45 : decode cX0_sentBy 45 = .ok (.idiv, 1) := by decide +kernel
theorem dX0_sentBy_46 : decode cX0_sentBy 46 = .ok (.ireturn, 1) := by decide +kernel
theorem dX0_sentBy_47 : decode cX0_sentBy 47 = .ok (.aload_n 2, 1) := by decide +kernel
theorem dX0_sentBy_48 : decode cX0_sentBy 48 = .ok (.getfield 108, 3) := by decide +kernel
theorem dX0_sentBy_51 : decode cX0_sentBy 51 = .ok (.aload_n 2, 1) := by decide +kernel
theorem dX0_sentBy_52 : decode cX0_sentBy 52 = .ok (.getfield 86, 3) := by decide +kernel
theorem dX0_sentBy_55 : decode cX0_sentBy 55 = .ok (.invokestatic 111, 3) := by decide +kernel
theorem dX0_sentBy_58 : decode cX0_sentBy 58 = .ok (.ireturn, 1) := by decide +kernel
theorem dX0_sentBy_59 : decode cX0_sentBy 59 = .ok (.aload_n 0, 1) := by decide +kernel
theorem dX0_sentBy_60 : decode cX0_sentBy 60 = .ok (.iload_n 1, 1) := by decide +kernel
theorem dX0_sentBy_61 : decode cX0_sentBy 61 = .ok (.aload_n 2, 1) := by decide +kernel
theorem dX0_sentBy_62 : decode cX0_sentBy 62 = .ok (.getfield 108, 3) := by decide +kernel
theorem dX0_sentBy_65 : decode cX0_sentBy 65 = .ok (.invokevirtual 114, 3) := by decide +kernel
theorem dX0_sentBy_68 : decode cX0_sentBy 68 = .ok (.ifCond .eq 10, 3) := by decide +kernel
theorem dX0_sentBy_71 : decode cX0_sentBy 71 = .ok (.aload_n 2, 1) := by decide +kernel
theorem dX0_sentBy_72 : decode cX0_sentBy 72 = .ok (.getfield 86, 3) := by decide +kernel
theorem dX0_sentBy_75 : decode cX0_sentBy 75 = .ok (.goto 4, 3) := by decide +kernel
theorem dX0_sentBy_78 : decode cX0_sentBy 78 = .ok (.iconst 0, 1) := by decide +kernel
theorem dX0_sentBy_79 : decode cX0_sentBy 79 = .ok (.ireturn, 1) := by decide +kernel
theorem dX0_sentBy_80 : decode cX0_sentBy 80 = .ok (.aload_n 0, 1) := by decide +kernel
theorem dX0_sentBy_81 : decode cX0_sentBy 81 = .ok (.iconst 1, 1) := by decide +kernel
theorem dX0_sentBy_82 : decode cX0_sentBy 82 = .ok (.iload_n 1, 1) := by decide +kernel
theorem dX0_sentBy_83 : decode cX0_sentBy 83 = .ok (.isub, 1) := by decide +kernel
theorem dX0_sentBy_84 : decode cX0_sentBy 84 = .ok (.invokevirtual 101, 3) := by decide +kernel
theorem dX0_sentBy_87 : decode cX0_sentBy 87 = .ok (.getfield 86, 3) := by decide +kernel
theorem dX0_sentBy_90 : decode cX0_sentBy 90 = .ok (.aload_n 2, 1) := by decide +kernel
theorem dX0_sentBy_91 : decode cX0_sentBy 91 = .ok (.getfield 86, 3) := by decide +kernel
theorem dX0_sentBy_94 : decode cX0_sentBy 94 = .ok (.invokestatic 111, 3) := by decide +kernel
theorem dX0_sentBy_97 : decode cX0_sentBy 97 = .ok (.ireturn, 1) := by decide +kernel
theorem dX0_sentBy_98 : decode cX0_sentBy 98 = .ok (.aload_n 2, 1) := by decide +kernel
theorem dX0_sentBy_99 : decode cX0_sentBy 99 = .ok (.getfield 86, 3) := by decide +kernel
theorem dX0_sentBy_102 : decode cX0_sentBy 102 = .ok (.ireturn, 1) := by decide +kernel
theorem dX0_isLateFor_0 : decode cX0_isLateFor 0 = .ok (.iload_n 1, 1) := by decide +kernel
theorem dX0_isLateFor_1 : decode cX0_isLateFor 1 = .ok (.ifCond .ne 24, 3) := by decide +kernel
theorem dX0_isLateFor_4 : decode cX0_isLateFor 4 = .ok (.aload_n 0, 1) := by decide +kernel
theorem dX0_isLateFor_5 : decode cX0_isLateFor 5 = .ok (.getfield 38, 3) := by decide +kernel
theorem dX0_isLateFor_8 : decode cX0_isLateFor 8 = .ok (.aload_n 0, 1) := by decide +kernel
theorem dX0_isLateFor_9 : decode cX0_isLateFor 9 = .ok (.getfield 34, 3) := by decide +kernel
theorem dX0_isLateFor_12 : decode cX0_isLateFor 12 = .ok (.iload_n 2, 1) := by decide +kernel
theorem dX0_isLateFor_13 : decode cX0_isLateFor 13 = .ok (.isub, 1) := by decide +kernel
theorem dX0_isLateFor_14 : decode cX0_isLateFor 14 = .ok (.if_icmp .lt 7, 3) := by decide +kernel
theorem dX0_isLateFor_17 : decode cX0_isLateFor 17 = .ok (.iconst 1, 1) := by decide +kernel
theorem dX0_isLateFor_18 : decode cX0_isLateFor 18 = .ok (.goto 20, 3) := by decide +kernel
theorem dX0_isLateFor_21 : decode cX0_isLateFor 21 = .ok (.iconst 0, 1) := by decide +kernel
theorem dX0_isLateFor_22 : decode cX0_isLateFor 22 = .ok (.goto 16, 3) := by decide +kernel
theorem dX0_isLateFor_25 : decode cX0_isLateFor 25 = .ok (.aload_n 0, 1) := by decide +kernel
theorem dX0_isLateFor_26 : decode cX0_isLateFor 26 = .ok (.getfield 38, 3) := by decide +kernel
theorem dX0_isLateFor_29 : decode cX0_isLateFor 29 = .ok (.iload_n 2, 1) := by decide +kernel
theorem dX0_isLateFor_30 : decode cX0_isLateFor 30 = .ok (.if_icmp .ge 7, 3) := by decide +kernel
theorem dX0_isLateFor_33 : decode cX0_isLateFor 33 = .ok (.iconst 1, 1) := by decide +kernel
theorem dX0_isLateFor_34 : decode cX0_isLateFor 34 = .ok (.goto 4, 3) := by decide +kernel
theorem dX0_isLateFor_37 : decode cX0_isLateFor 37 = .ok (.iconst 0, 1) := by decide +kernel
theorem dX0_isLateFor_38 : decode cX0_isLateFor 38 = .ok (.ireturn, 1) := by decide +kernel
theorem dX0_netOf_0 : decode cX0_netOf 0 = .ok (.aload_n 0, 1) := by decide +kernel
theorem dX0_netOf_1 : decode cX0_netOf 1 = .ok (.invokevirtual 73, 3) := by decide +kernel
theorem dX0_netOf_4 : decode cX0_netOf 4 = .ok (.ifCond .eq 5, 3) := by decide +kernel
theorem dX0_netOf_7 : decode cX0_netOf 7 = .ok (.iconst 0, 1) := by decide +kernel
theorem dX0_netOf_8 : decode cX0_netOf 8 = .ok (.ireturn, 1) := by decide +kernel
theorem dX0_netOf_9 : decode cX0_netOf 9 = .ok (.aload_n 0, 1) := by decide +kernel
theorem dX0_netOf_10 : decode cX0_netOf 10 = .ok (.getfield 28, 3) := by decide +kernel
theorem dX0_netOf_13 : decode cX0_netOf 13 = .ok (.iload_n 2, 1) := by decide +kernel
theorem dX0_netOf_14 : decode cX0_netOf 14 = .ok (.aload_n 0, 1) := by decide +kernel
theorem dX0_netOf_15 : decode cX0_netOf 15 = .ok (.getfield 9, 3) := by decide +kernel
theorem dX0_netOf_18 : decode cX0_netOf 18 = .ok (.aload_n 0, 1) := by decide +kernel
theorem dX0_netOf_19 : decode cX0_netOf 19 = .ok (.getfield 38, 3) := by decide +kernel
theorem dX0_netOf_22 : decode cX0_netOf 22 = .ok (.iaload, 1) := by decide +kernel
theorem dX0_netOf_23 : decode cX0_netOf 23 = .ok (.invokevirtual 117, 3) := by decide +kernel
theorem dX0_netOf_26 : decode cX0_netOf 26 = .ok (.aload_n 0, 1) := by decide +kernel
theorem dX0_netOf_27 : decode cX0_netOf 27 = .ok (.getfield 24, 3) := by decide +kernel
theorem dX0_netOf_30 : decode cX0_netOf 30 = .ok (.iload_n 1, 1) := by decide +kernel
theorem dX0_netOf_31 : decode cX0_netOf 31 = .ok (.aload_n 0, 1) := by decide +kernel
theorem dX0_netOf_32 : decode cX0_netOf 32 = .ok (.getfield 9, 3) := by decide +kernel
theorem dX0_netOf_35 : decode cX0_netOf 35 = .ok (.aload_n 0, 1) := by decide +kernel
theorem dX0_netOf_36 : decode cX0_netOf 36 = .ok (.getfield 38, 3) := by decide +kernel
theorem dX0_netOf_39 : decode cX0_netOf 39 = .ok (.iaload, 1) := by decide +kernel
theorem dX0_netOf_40 : decode cX0_netOf 40 = .ok (.invokevirtual 117, 3) := by decide +kernel
theorem dX0_netOf_43 : decode cX0_netOf 43 = .ok (.isub, 1) := by decide +kernel
theorem dX0_netOf_44 : decode cX0_netOf 44 = .ok (.aload_n 0, 1) := by decide +kernel
theorem dX0_netOf_45 : decode cX0_netOf 45 = .ok (.getfield 15, 3) := by decide +kernel
theorem dX0_netOf_48 : decode cX0_netOf 48 = .ok (.aload_n 0, 1) := by decide +kernel
theorem dX0_netOf_49 : decode cX0_netOf 49 = .ok (.getfield 38, 3) := by decide +kernel
theorem dX0_netOf_52 : decode cX0_netOf 52 = .ok (.iaload, 1) := by decide +kernel
theorem dX0_netOf_53 : decode cX0_netOf 53 = .ok (.iadd, 1) := by decide +kernel
theorem dX0_netOf_54 : decode cX0_netOf 54 = .ok (.iconst 3, 1) := by decide +kernel
theorem dX0_netOf_55 : decode cX0_netOf 55 = .ok (.isub, 1) := by decide +kernel
theorem dX0_netOf_56 : decode cX0_netOf 56 = .ok (.ireturn, 1) := by decide +kernel
theorem dX0_pass_0 : decode cX0_pass 0 = .ok (.aload_n 0, 1) := by decide +kernel
theorem dX0_pass_1 : decode cX0_pass 1 = .ok (.invokevirtual 73, 3) := by decide +kernel
theorem dX0_pass_4 : decode cX0_pass 4 = .ok (.ifCond .eq 4, 3) := by decide +kernel
theorem dX0_pass_7 : decode cX0_pass 7 = .ok (.return_, 1) := by decide +kernel
theorem dX0_pass_8 : decode cX0_pass 8 = .ok (.aload_n 0, 1) := by decide +kernel
theorem dX0_pass_9 : decode cX0_pass 9 = .ok (.aload_n 0, 1) := by decide +kernel
theorem dX0_pass_10 : decode cX0_pass 10 = .ok (.iload_n 1, 1) := by decide +kernel
theorem dX0_pass_11 : decode cX0_pass 11 = .ok (.iload_n 2, 1) := by decide +kernel
theorem dX0_pass_12 : decode cX0_pass 12 = .ok (.invokevirtual 120, 3) := by decide +kernel
theorem dX0_pass_15 : decode cX0_pass 15 = .ok (.invokevirtual 123, 3) := by decide +kernel
theorem dX0_pass_18 : decode cX0_pass 18 = .ok (.istore 4, 2) := by decide +kernel
theorem dX0_pass_20 : decode cX0_pass 20 = .ok (.aload_n 0, 1) := by decide +kernel
theorem dX0_pass_21 : decode cX0_pass 21 = .ok (.iload 4, 2) := by decide +kernel
theorem dX0_pass_23 : decode cX0_pass 23 = .ok (.invokevirtual 126, 3) := by decide +kernel
theorem dX0_pass_26 : decode cX0_pass 26 = .ok (.iload_n 3, 1) := by decide +kernel
theorem dX0_pass_27 : decode cX0_pass 27 = .ok (.ifCond .eq 9, 3) := by decide +kernel
theorem dX0_pass_30 : decode cX0_pass 30 = .ok (.aload_n 0, 1) := by decide +kernel
theorem dX0_pass_31 : decode cX0_pass 31 = .ok (.iload 4, 2) := by decide +kernel
theorem dX0_pass_33 : decode cX0_pass 33 = .ok (.invokevirtual 126, 3) := by decide +kernel
theorem dX0_pass_36 : decode cX0_pass 36 = .ok (.aload_n 0, 1) := by decide +kernel
theorem dX0_pass_37 : decode cX0_pass 37 = .ok (.getfield 24, 3) := by decide +kernel
theorem dX0_pass_40 : decode cX0_pass 40 = .ok (.iload_n 1, 1) := by decide +kernel
theorem dX0_pass_41 : decode cX0_pass 41 = .ok (.aload_n 0, 1) := by decide +kernel
theorem dX0_pass_42 : decode cX0_pass 42 = .ok (.getfield 41, 3) := by decide +kernel
theorem dX0_pass_45 : decode cX0_pass 45 = .ok (.invokevirtual 130, 3) := by decide +kernel
theorem dX0_pass_48 : decode cX0_pass 48 = .ok (.aload_n 0, 1) := by decide +kernel
theorem dX0_pass_49 : decode cX0_pass 49 = .ok (.getfield 28, 3) := by decide +kernel
theorem dX0_pass_52 : decode cX0_pass 52 = .ok (.iload_n 2, 1) := by decide +kernel
theorem dX0_pass_53 : decode cX0_pass 53 = .ok (.aload_n 0, 1) := by decide +kernel
theorem dX0_pass_54 : decode cX0_pass 54 = .ok (.getfield 41, 3) := by decide +kernel
theorem dX0_pass_57 : decode cX0_pass 57 = .ok (.invokevirtual 130, 3) := by decide +kernel
theorem dX0_pass_60 : decode cX0_pass 60 = .ok (.aload_n 0, 1) := by decide +kernel
theorem dX0_pass_61 : decode cX0_pass 61 = .ok (.dup, 1) := by decide +kernel
theorem dX0_pass_62 : decode cX0_pass 62 = .ok (.getfield 47, 3) := by decide +kernel
theorem dX0_pass_65 : decode cX0_pass 65 = .ok (.iconst 1, 1) := by decide +kernel
theorem dX0_pass_66 : decode cX0_pass 66 = .ok (.iadd, 1) := by decide +kernel
theorem dX0_pass_67 : decode cX0_pass 67 = .ok (.putfield 47, 3) := by decide +kernel
theorem dX0_pass_70 : decode cX0_pass 70 = .ok (.return_, 1) := by decide +kernel
theorem dX0_wayOf_0 : decode cX0_wayOf 0 = .ok (.iload_n 1, 1) := by decide +kernel
theorem dX0_wayOf_1 : decode cX0_wayOf 1 = .ok (.aload_n 0, 1) := by decide +kernel
theorem dX0_wayOf_2 : decode cX0_wayOf 2 = .ok (.aload_n 0, 1) := by decide +kernel
theorem dX0_wayOf_3 : decode cX0_wayOf 3 = .ok (.getfield 38, 3) := by decide +kernel
theorem dX0_wayOf_6 : decode cX0_wayOf 6 = .ok (.invokevirtual 134, 3) := by decide +kernel
theorem dX0_wayOf_9 : decode cX0_wayOf 9 = .ok (.if_icmp .le 5, 3) := by decide +kernel
theorem dX0_wayOf_12 : decode cX0_wayOf 12 = .ok (.iconst 1, 1) := by decide +kernel
theorem dX0_wayOf_13 : decode cX0_wayOf 13 = .ok (.ireturn, 1) := by decide +kernel
theorem dX0_wayOf_14 : decode cX0_wayOf 14 = .ok (.iload_n 1, 1) := by decide +kernel
theorem dX0_wayOf_15 : decode cX0_wayOf 15 = .ok (.ineg, 1) := by decide +kernel
theorem dX0_wayOf_16 : decode cX0_wayOf 16 = .ok (.aload_n 0, 1) := by decide +kernel
theorem dX0_wayOf_17 : decode cX0_wayOf 17 = .ok (.aload_n 0, 1) := by decide +kernel
theorem dX0_wayOf_18 : decode cX0_wayOf 18 = .ok (.getfield 38, 3) := by decide +kernel
theorem dX0_wayOf_21 : decode cX0_wayOf 21 = .ok (.iconst 1, 1) := by decide +kernel
theorem dX0_wayOf_22 : decode cX0_wayOf 22 = .ok (.isub, 1) := by decide +kernel
theorem dX0_wayOf_23 : decode cX0_wayOf 23 = .ok (.invokevirtual 134, 3) := by decide +kernel
theorem dX0_wayOf_26 : decode cX0_wayOf 26 = .ok (.if_icmp .le 7, 3) := by decide +kernel
theorem dX0_wayOf_29 : decode cX0_wayOf 29 = .ok (.iconst (-1), 1) := by decide +kernel
theorem dX0_wayOf_30 : decode cX0_wayOf 30 = .ok (.goto 4, 3) := by decide +kernel
theorem dX0_wayOf_33 : decode cX0_wayOf 33 = .ok (.iconst 0, 1) := by decide +kernel
theorem dX0_wayOf_34 : decode cX0_wayOf 34 = .ok (.ireturn, 1) := by decide +kernel
theorem dX0_hedgeBetween_0 : decode cX0_hedgeBetween 0 = .ok (.iload_n 1, 1) := by decide +kernel
theorem dX0_hedgeBetween_1 : decode cX0_hedgeBetween 1 = .ok (.ifCond .lt 28, 3) := by decide +kernel
theorem dX0_hedgeBetween_4 : decode cX0_hedgeBetween 4 = .ok (.iload_n 1, 1) := by decide +kernel
theorem dX0_hedgeBetween_5 : decode cX0_hedgeBetween 5 = .ok (.aload_n 0, 1) := by decide +kernel
theorem dX0_hedgeBetween_6 : decode cX0_hedgeBetween 6 = .ok (.getfield 34, 3) := by decide +kernel
theorem dX0_hedgeBetween_9 : decode cX0_hedgeBetween 9 = .ok (.iconst 1, 1) := by decide +kernel
theorem dX0_hedgeBetween_10 : decode cX0_hedgeBetween 10 = .ok (.isub, 1) := by decide +kernel
theorem dX0_hedgeBetween_11 : decode cX0_hedgeBetween 11 = .ok (.if_icmp .ge 18, 3) := by decide +kernel
theorem dX0_hedgeBetween_14 : decode cX0_hedgeBetween 14 = .ok (.iload_n 1, 1) := by decide +kernel
theorem dX0_hedgeBetween_15 : decode cX0_hedgeBetween 15 = .ok (.bipush 9, 2) := by decide +kernel
theorem dX0_hedgeBetween_17 : decode cX0_hedgeBetween 17 = .ok (.if_icmp .ge 12, 3) := by decide +kernel
theorem dX0_hedgeBetween_20 : decode cX0_hedgeBetween 20 = .ok (.aload_n 0, 1) := by decide +kernel
theorem dX0_hedgeBetween_21 : decode cX0_hedgeBetween 21 = .ok (.getfield 18, 3) := by decide +kernel
theorem dX0_hedgeBetween_24 : decode cX0_hedgeBetween 24 = .ok (.iload_n 1, 1) := by decide +kernel
theorem dX0_hedgeBetween_25 : decode cX0_hedgeBetween 25 = .ok (.iaload, 1) := by decide +kernel
theorem dX0_hedgeBetween_26 : decode cX0_hedgeBetween 26 = .ok (.goto 4, 3) := by decide +kernel
theorem dX0_hedgeBetween_29 : decode cX0_hedgeBetween 29 = .ok (.iconst 0, 1) := by decide +kernel
theorem dX0_hedgeBetween_30 : decode cX0_hedgeBetween 30 = .ok (.ireturn, 1) := by decide +kernel
theorem dX0_shift_0 : decode cX0_shift 0 = .ok (.aload_n 0, 1) := by decide +kernel
theorem dX0_shift_1 : decode cX0_shift 1 = .ok (.invokevirtual 73, 3) := by decide +kernel
theorem dX0_shift_4 : decode cX0_shift 4 = .ok (.ifCond .eq 4, 3) := by decide +kernel
theorem dX0_shift_7 : decode cX0_shift 7 = .ok (.return_, 1) := by decide +kernel
theorem dX0_shift_8 : decode cX0_shift 8 = .ok (.aload_n 0, 1) := by decide +kernel
theorem dX0_shift_9 : decode cX0_shift 9 = .ok (.getfield 38, 3) := by decide +kernel
theorem dX0_shift_12 : decode cX0_shift 12 = .ok (.iload_n 1, 1) := by decide +kernel
theorem dX0_shift_13 : decode cX0_shift 13 = .ok (.iadd, 1) := by decide +kernel
theorem dX0_shift_14 : decode cX0_shift 14 = .ok (.istore_n 2, 1) := by decide +kernel
theorem dX0_shift_15 : decode cX0_shift 15 = .ok (.iload_n 2, 1) := by decide +kernel
theorem dX0_shift_16 : decode cX0_shift 16 = .ok (.ifCond .ge 12, 3) := by decide +kernel
theorem dX0_shift_19 : decode cX0_shift 19 = .ok (.aload_n 0, 1) := by decide +kernel
theorem dX0_shift_20 : decode cX0_shift 20 = .ok (.bipush 20, 2) := by decide +kernel
theorem dX0_shift_22 : decode cX0_shift 22 = .ok (.putfield 38, 3) := by decide +kernel
theorem dX0_shift_25 : decode cX0_shift 25 = .ok (.goto 25, 3) := by decide +kernel
theorem dX0_shift_28 : decode cX0_shift 28 = .ok (.iload_n 2, 1) := by decide +kernel
theorem dX0_shift_29 : decode cX0_shift 29 = .ok (.aload_n 0, 1) := by decide +kernel
theorem dX0_shift_30 : decode cX0_shift 30 = .ok (.getfield 34, 3) := by decide +kernel
theorem dX0_shift_33 : decode cX0_shift 33 = .ok (.if_icmp .lt 12, 3) := by decide +kernel
theorem dX0_shift_36 : decode cX0_shift 36 = .ok (.aload_n 0, 1) := by decide +kernel
theorem dX0_shift_37 : decode cX0_shift 37 = .ok (.bipush 21, 2) := by decide +kernel
theorem dX0_shift_39 : decode cX0_shift 39 = .ok (.putfield 38, 3) := by decide +kernel
theorem dX0_shift_42 : decode cX0_shift 42 = .ok (.goto 8, 3) := by decide +kernel
theorem dX0_shift_45 : decode cX0_shift 45 = .ok (.aload_n 0, 1) := by decide +kernel
theorem dX0_shift_46 : decode cX0_shift 46 = .ok (.iload_n 2, 1) := by decide +kernel
theorem dX0_shift_47 : decode cX0_shift 47 = .ok (.putfield 38, 3) := by decide +kernel
theorem dX0_shift_50 : decode cX0_shift 50 = .ok (.return_, 1) := by decide +kernel
theorem dX0_passByCaptains_0 : decode cX0_passByCaptains 0 = .ok (.aload_n 0, 1) := by decide +kernel
theorem dX0_passByCaptains_1 : decode cX0_passByCaptains 1 = .ok (.invokevirtual 73, 3) := by decide +kernel
theorem dX0_passByCaptains_4 : decode cX0_passByCaptains 4 = .ok (.ifCond .ne 18, 3) := by decide +kernel
theorem dX0_passByCaptains_7 : decode cX0_passByCaptains 7 = .ok (.aload_n 0, 1) := by decide +kernel
theorem dX0_passByCaptains_8 : decode cX0_passByCaptains 8 = .ok (.aload_n 0, 1) := by decide +kernel
theorem dX0_passByCaptains_9 : decode cX0_passByCaptains 9 = .ok (.iconst 0, 1) := by decide +kernel
theorem dX0_passByCaptains_10 : decode cX0_passByCaptains 10 = .ok (.invokevirtual 137, 3) := by decide +kernel
theorem dX0_passByCaptains_13 : decode cX0_passByCaptains 13 = .ok (.aload_n 0, 1) := by decide +kernel
theorem dX0_passByCaptains_14 : decode cX0_passByCaptains 14 = .ok (.iconst 1, 1) := by decide +kernel
theorem dX0_passByCaptains_15 : decode cX0_passByCaptains 15 = .ok (.invokevirtual 137, 3) := by decide +kernel
theorem dX0_passByCaptains_18 : decode cX0_passByCaptains 18 = .ok (.iload_n 1, 1) := by decide +kernel
theorem dX0_passByCaptains_19 : decode cX0_passByCaptains 19 = .ok (.invokevirtual 97, 3) := by decide +kernel
theorem dX0_passByCaptains_22 : decode cX0_passByCaptains 22 = .ok (.return_, 1) := by decide +kernel
theorem dX0_passByCaptainsBut_0 : decode cX0_passByCaptainsBut 0 = .ok (.aload_n 0, 1) := by decide +kernel
theorem dX0_passByCaptainsBut_1 : decode cX0_passByCaptainsBut 1 = .ok (.invokevirtual 73, 3) := by decide +kernel
theorem dX0_passByCaptainsBut_4 : decode cX0_passByCaptainsBut 4 = .ok (.ifCond .ne 34, 3) := by decide +kernel
theorem dX0_passByCaptainsBut_7 : decode cX0_passByCaptainsBut 7 = .ok (.aload_n 0, 1) := by decide +kernel
theorem dX0_passByCaptainsBut_8 : decode cX0_passByCaptainsBut 8 = .ok (.iconst 1, 1) := by decide +kernel
theorem dX0_passByCaptainsBut_9 : decode cX0_passByCaptainsBut 9 = .ok (.iload_n 1, 1) := by decide +kernel
theorem dX0_passByCaptainsBut_10 : decode cX0_passByCaptainsBut 10 = .ok (.isub, 1) := by decide +kernel
theorem dX0_passByCaptainsBut_11 : decode cX0_passByCaptainsBut 11 = .ok (.invokevirtual 137, 3) := by decide +kernel
theorem dX0_passByCaptainsBut_14 : decode cX0_passByCaptainsBut 14 = .ok (.istore_n 3, 1) := by decide +kernel
theorem dX0_passByCaptainsBut_15 : decode cX0_passByCaptainsBut 15 = .ok (.aload_n 0, 1) := by decide +kernel
theorem dX0_passByCaptainsBut_16 : decode cX0_passByCaptainsBut 16 = .ok (.iload_n 1, 1) := by decide +kernel
theorem dX0_passByCaptainsBut_17 : decode cX0_passByCaptainsBut 17 = .ok (.ifCond .ne 7, 3) := by decide +kernel
theorem dX0_passByCaptainsBut_20 : decode cX0_passByCaptainsBut 20 = .ok (.iload_n 2, 1) := by decide +kernel
theorem dX0_passByCaptainsBut_21 : decode cX0_passByCaptainsBut 21 = .ok (.goto 4, 3) := by decide +kernel
theorem dX0_passByCaptainsBut_24 : decode cX0_passByCaptainsBut 24 = .ok (.iload_n 3, 1) := by decide +kernel
theorem dX0_passByCaptainsBut_25 : decode cX0_passByCaptainsBut 25 = .ok (.iload_n 1, 1) := by decide +kernel
theorem dX0_passByCaptainsBut_26 : decode cX0_passByCaptainsBut 26 = .ok (.ifCond .ne 7, 3) := by decide +kernel
theorem dX0_passByCaptainsBut_29 : decode cX0_passByCaptainsBut 29 = .ok (.iload_n 3, 1) := by decide +kernel
theorem dX0_passByCaptainsBut_30 : decode cX0_passByCaptainsBut 30 = .ok (.goto 4, 3) := by decide +kernel
theorem dX0_passByCaptainsBut_33 : decode cX0_passByCaptainsBut 33 = .ok (.iload_n 2, 1) := by decide +kernel
theorem dX0_passByCaptainsBut_34 : decode cX0_passByCaptainsBut 34 = .ok (.iconst 0, 1) := by decide +kernel
theorem dX0_passByCaptainsBut_35 : decode cX0_passByCaptainsBut 35 = .ok (.invokevirtual 97, 3) := by decide +kernel
theorem dX0_passByCaptainsBut_38 : decode cX0_passByCaptainsBut 38 = .ok (.return_, 1) := by decide +kernel
theorem dX1_init_0 : decode cX1_init 0 = .ok (.aload_n 0, 1) := by decide +kernel
theorem dX1_init_1 : decode cX1_init 1 = .ok (.invokespecial 3, 3) := by decide +kernel
theorem dX1_init_4 : decode cX1_init 4 = .ok (.aload_n 0, 1) := by decide +kernel
theorem dX1_init_5 : decode cX1_init 5 = .ok (.new 9, 3) := by decide +kernel
theorem dX1_init_8 : decode cX1_init 8 = .ok (.dup, 1) := by decide +kernel
theorem dX1_init_9 : decode cX1_init 9 = .ok (.invokespecial 11, 3) := by decide +kernel
theorem dX1_init_12 : decode cX1_init 12 = .ok (.putfield 12, 3) := by decide +kernel
theorem dX1_init_15 : decode cX1_init 15 = .ok (.return_, 1) := by decide +kernel
theorem dX1_kegBehind_0 : decode cX1_kegBehind 0 = .ok (.aload_n 0, 1) := by decide +kernel
theorem dX1_kegBehind_1 : decode cX1_kegBehind 1 = .ok (.getfield 12, 3) := by decide +kernel
theorem dX1_kegBehind_4 : decode cX1_kegBehind 4 = .ok (.aload_n 1, 1) := by decide +kernel
theorem dX1_kegBehind_5 : decode cX1_kegBehind 5 = .ok (.invokevirtual 18, 3) := by decide +kernel
theorem dX1_kegBehind_8 : decode cX1_kegBehind 8 = .ok (.aload_n 0, 1) := by decide +kernel
theorem dX1_kegBehind_9 : decode cX1_kegBehind 9 = .ok (.iload_n 2, 1) := by decide +kernel
theorem dX1_kegBehind_10 : decode cX1_kegBehind 10 = .ok (.invokevirtual 22, 3) := by decide +kernel
theorem dX1_kegBehind_13 : decode cX1_kegBehind 13 = .ok (.ireturn, 1) := by decide +kernel
theorem dX1_kegByKinds_0 : decode cX1_kegByKinds 0 = .ok (.aload_n 0, 1) := by decide +kernel
theorem dX1_kegByKinds_1 : decode cX1_kegByKinds 1 = .ok (.getfield 12, 3) := by decide +kernel
theorem dX1_kegByKinds_4 : decode cX1_kegByKinds 4 = .ok (.aload_n 1, 1) := by decide +kernel
theorem dX1_kegByKinds_5 : decode cX1_kegByKinds 5 = .ok (.invokevirtual 18, 3) := by decide +kernel
theorem dX1_kegByKinds_8 : decode cX1_kegByKinds 8 = .ok (.aload_n 0, 1) := by decide +kernel
theorem dX1_kegByKinds_9 : decode cX1_kegByKinds 9 = .ok (.getfield 12, 3) := by decide +kernel
theorem dX1_kegByKinds_12 : decode cX1_kegByKinds 12 = .ok (.getfield 26, 3) := by decide +kernel
theorem dX1_kegByKinds_15 : decode cX1_kegByKinds 15 = .ok (.iload_n 2, 1) := by decide +kernel
theorem dX1_kegByKinds_16 : decode cX1_kegByKinds 16 = .ok (.putfield 30, 3) := by decide +kernel
theorem dX1_kegByKinds_19 : decode cX1_kegByKinds 19 = .ok (.aload_n 0, 1) := by decide +kernel
theorem dX1_kegByKinds_20 : decode cX1_kegByKinds 20 = .ok (.getfield 12, 3) := by decide +kernel
theorem dX1_kegByKinds_23 : decode cX1_kegByKinds 23 = .ok (.getfield 36, 3) := by decide +kernel
theorem dX1_kegByKinds_26 : decode cX1_kegByKinds 26 = .ok (.iload_n 3, 1) := by decide +kernel
theorem dX1_kegByKinds_27 : decode cX1_kegByKinds 27 = .ok (.putfield 30, 3) := by decide +kernel
theorem dX1_kegByKinds_30 : decode cX1_kegByKinds 30 = .ok (.aload_n 0, 1) := by decide +kernel
theorem dX1_kegByKinds_31 : decode cX1_kegByKinds 31 = .ok (.iload 4, 2) := by decide +kernel
theorem dX1_kegByKinds_33 : decode cX1_kegByKinds 33 = .ok (.invokevirtual 22, 3) := by decide +kernel
theorem dX1_kegByKinds_36 : decode cX1_kegByKinds 36 = .ok (.ireturn, 1) := by decide +kernel
theorem dX1_kegWithoutHedge_0 : decode cX1_kegWithoutHedge 0 = .ok (.aload_n 0, 1) := by decide +kernel
theorem dX1_kegWithoutHedge_1 : decode cX1_kegWithoutHedge 1 = .ok (.getfield 12, 3) := by decide +kernel
theorem dX1_kegWithoutHedge_4 : decode cX1_kegWithoutHedge 4 = .ok (.aload_n 1, 1) := by decide +kernel
theorem dX1_kegWithoutHedge_5 : decode cX1_kegWithoutHedge 5 = .ok (.invokevirtual 18, 3) := by decide +kernel
theorem dX1_kegWithoutHedge_8 : decode cX1_kegWithoutHedge 8 = .ok (.aload_n 0, 1) := by decide +kernel
theorem dX1_kegWithoutHedge_9 : decode cX1_kegWithoutHedge 9 = .ok (.getfield 12, 3) := by decide +kernel
theorem dX1_kegWithoutHedge_12 : decode cX1_kegWithoutHedge 12 = .ok (.getfield 39, 3) := by decide +kernel
theorem dX1_kegWithoutHedge_15 : decode cX1_kegWithoutHedge 15 = .ok (.iload_n 2, 1) := by decide +kernel
theorem dX1_kegWithoutHedge_16 : decode cX1_kegWithoutHedge 16 = .ok (.iconst 0, 1) := by decide +kernel
theorem dX1_kegWithoutHedge_17 : decode cX1_kegWithoutHedge 17 = .ok (.invokestatic 43, 3) := by decide +kernel
theorem dX1_kegWithoutHedge_20 : decode cX1_kegWithoutHedge 20 = .ok (.pop, 1) := by decide +kernel
theorem dX1_kegWithoutHedge_21 : decode cX1_kegWithoutHedge 21 = .ok (.aload_n 0, 1) := by decide +kernel
theorem dX1_kegWithoutHedge_22 : decode cX1_kegWithoutHedge 22 = .ok (.iload_n 3, 1) := by decide +kernel
theorem dX1_kegWithoutHedge_23 : decode cX1_kegWithoutHedge 23 = .ok (.invokevirtual 22, 3) := by decide +kernel
theorem dX1_kegWithoutHedge_26 : decode cX1_kegWithoutHedge 26 = .ok (.ireturn, 1) := by decide +kernel
theorem dX1_letPass_0 : decode cX1_letPass 0 = .ok (.iconst 0, 1) := by decide +kernel
theorem dX1_letPass_1 : decode cX1_letPass 1 = .ok (.istore_n 2, 1) := by decide +kernel
theorem dX1_letPass_2 : decode cX1_letPass 2 = .ok (.iload_n 2, 1) := by decide +kernel
theorem dX1_letPass_3 : decode cX1_letPass 3 = .ok (.iload_n 1, 1) := by decide +kernel
theorem dX1_letPass_4 : decode cX1_letPass 4 = .ok (.if_icmp .ge 17, 3) := by decide +kernel
theorem dX1_letPass_7 : decode cX1_letPass 7 = .ok (.aload_n 0, 1) := by decide +kernel
theorem dX1_letPass_8 : decode cX1_letPass 8 = .ok (.getfield 12, 3) := by decide +kernel
theorem dX1_letPass_11 : decode cX1_letPass 11 = .ok (.iconst 0, 1) := by decide +kernel
theorem dX1_letPass_12 : decode cX1_letPass 12 = .ok (.invokevirtual 47, 3) := by decide +kernel
theorem dX1_letPass_15 : decode cX1_letPass 15 = .ok (.iinc 2 1, 3) := by decide +kernel
theorem dX1_letPass_18 : decode cX1_letPass 18 = .ok (.goto (-16), 3) := by decide +kernel
theorem dX1_letPass_21 : decode cX1_letPass 21 = .ok (.aload_n 0, 1) := by decide +kernel
theorem dX1_letPass_22 : decode cX1_letPass 22 = .ok (.getfield 12, 3) := by decide +kernel
theorem dX1_letPass_25 : decode cX1_letPass 25 = .ok (.getfield 51, 3) := by decide +kernel
theorem dX1_letPass_28 : decode cX1_letPass 28 = .ok (.ireturn, 1) := by decide +kernel
theorem dX1_minuteOver_0 : decode cX1_minuteOver 0 = .ok (.aload_n 0, 1) := by decide +kernel
theorem dX1_minuteOver_1 : decode cX1_minuteOver 1 = .ok (.getfield 12, 3) := by decide +kernel
theorem dX1_minuteOver_4 : decode cX1_minuteOver 4 = .ok (.aload_n 1, 1) := by decide +kernel
theorem dX1_minuteOver_5 : decode cX1_minuteOver 5 = .ok (.invokevirtual 18, 3) := by decide +kernel
theorem dX1_minuteOver_8 : decode cX1_minuteOver 8 = .ok (.iconst 0, 1) := by decide +kernel
theorem dX1_minuteOver_9 : decode cX1_minuteOver 9 = .ok (.istore_n 2, 1) := by decide +kernel
theorem dX1_minuteOver_10 : decode cX1_minuteOver 10 = .ok (.iload_n 2, 1) := by decide +kernel
theorem dX1_minuteOver_11 : decode cX1_minuteOver 11 = .ok (.bipush 60, 2) := by decide +kernel
theorem dX1_minuteOver_13 : decode cX1_minuteOver 13 = .ok (.if_icmp .gt 29, 3) := by decide +kernel
theorem dX1_minuteOver_16 : decode cX1_minuteOver 16 = .ok (.aload_n 0, 1) := by decide +kernel
theorem dX1_minuteOver_17 : decode cX1_minuteOver 17 = .ok (.getfield 12, 3) := by decide +kernel
theorem dX1_minuteOver_20 : decode cX1_minuteOver 20 = .ok (.invokevirtual 54, 3) := by decide +kernel
theorem dX1_minuteOver_23 : decode cX1_minuteOver 23 = .ok (.ifCond .eq 5, 3) := by decide +kernel
theorem dX1_minuteOver_26 : decode cX1_minuteOver 26 = .ok (.iload_n 2, 1) := by decide +kernel
theorem dX1_minuteOver_27 : decode cX1_minuteOver 27 = .ok (.ireturn, 1) := by decide +kernel
theorem dX1_minuteOver_28 : decode cX1_minuteOver 28 = .ok (.aload_n 0, 1) := by decide +kernel
theorem dX1_minuteOver_29 : decode cX1_minuteOver 29 = .ok (.getfield 12, 3) := by decide +kernel
theorem dX1_minuteOver_32 : decode cX1_minuteOver 32 = .ok (.iconst 0, 1) := by decide +kernel
theorem dX1_minuteOver_33 : decode cX1_minuteOver 33 = .ok (.invokevirtual 47, 3) := by decide +kernel
theorem dX1_minuteOver_36 : decode cX1_minuteOver 36 = .ok (.iinc 2 1, 3) := by decide +kernel
theorem dX1_minuteOver_39 : decode cX1_minuteOver 39 = .ok (.goto (-29), 3) := by decide +kernel
theorem dX1_minuteOver_42 : decode cX1_minuteOver 42 = .ok (.bipush (-4), 2) := by decide +kernel
theorem dX1_minuteOver_44 : decode cX1_minuteOver 44 = .ok (.ireturn, 1) := by decide +kernel
theorem dX1_leastThatHolds_0 : decode cX1_leastThatHolds 0 = .ok (.iconst 0, 1) := by decide +kernel
theorem dX1_leastThatHolds_1 : decode cX1_leastThatHolds 1 = .ok (.istore 5, 2) := by decide +kernel
theorem dX1_leastThatHolds_3 : decode cX1_leastThatHolds 3 = .ok (.iload 5, 2) := by decide +kernel
theorem dX1_leastThatHolds_5 : decode cX1_leastThatHolds 5 = .ok (.bipush 12, 2) := by decide +kernel
theorem dX1_leastThatHolds_7 : decode cX1_leastThatHolds 7 = .ok (.if_icmp .gt 54, 3) := by decide +kernel
theorem dX1_leastThatHolds_10 : decode cX1_leastThatHolds 10 = .ok (.aload_n 0, 1) := by decide +kernel
theorem dX1_leastThatHolds_11 : decode cX1_leastThatHolds 11 = .ok (.getfield 12, 3) := by decide +kernel
theorem dX1_leastThatHolds_14 : decode cX1_leastThatHolds 14 = .ok (.aload_n 1, 1) := by decide +kernel
theorem dX1_leastThatHolds_15 : decode cX1_leastThatHolds 15 = .ok (.invokevirtual 18, 3) := by decide +kernel
theorem dX1_leastThatHolds_18 : decode cX1_leastThatHolds 18 = .ok (.aload_n 0, 1) := by decide +kernel
theorem dX1_leastThatHolds_19 : decode cX1_leastThatHolds 19 = .ok (.getfield 12, 3) := by decide +kernel
theorem dX1_leastThatHolds_22 : decode cX1_leastThatHolds 22 = .ok (.iload_n 2, 1) := by decide +kernel
theorem dX1_leastThatHolds_23 : decode cX1_leastThatHolds 23 = .ok (.invokevirtual 58, 3) := by decide +kernel
theorem dX1_leastThatHolds_26 : decode cX1_leastThatHolds 26 = .ok (.astore 6, 2) := by decide +kernel
theorem dX1_leastThatHolds_28 : decode cX1_leastThatHolds 28 = .ok (.aload 6, 2) := by decide +kernel
theorem dX1_leastThatHolds_30 : decode cX1_leastThatHolds 30 = .ok (.iconst 2, 1) := by decide +kernel
theorem dX1_leastThatHolds_31 : decode cX1_leastThatHolds 31 = .ok (.putfield 30, 3) := by decide +kernel
theorem dX1_leastThatHolds_34 : decode cX1_leastThatHolds 34 = .ok (.aload 6, 2) := by decide +kernel
theorem dX1_leastThatHolds_36 : decode cX1_leastThatHolds 36 = .ok (.iload 5, 2) := by decide +kernel
theorem dX1_leastThatHolds_38 : decode cX1_leastThatHolds 38 = .ok (.putfield 62, 3) := by decide +kernel
theorem dX1_leastThatHolds_41 : decode cX1_leastThatHolds 41 = .ok (.aload_n 0, 1) := by decide +kernel
theorem dX1_leastThatHolds_42 : decode cX1_leastThatHolds 42 = .ok (.iload_n 2, 1) := by decide +kernel
theorem dX1_leastThatHolds_43 : decode cX1_leastThatHolds 43 = .ok (.iload_n 3, 1) := by decide +kernel
theorem dX1_leastThatHolds_44 : decode cX1_leastThatHolds 44 = .ok (.iload 4, 2) := by decide +kernel
theorem dX1_leastThatHolds_46 : decode cX1_leastThatHolds 46 = .ok (.invokevirtual 65, 3) := by decide +kernel
theorem dX1_leastThatHolds_49 : decode cX1_leastThatHolds 49 = .ok (.ifCond .eq 6, 3) := by decide +kernel
theorem dX1_leastThatHolds_52 : decode cX1_leastThatHolds 52 = .ok (.iload 5, 2) := by decide +kernel
theorem dX1_leastThatHolds_54 : decode cX1_leastThatHolds 54 = .ok (.ireturn, 1) := by decide +kernel
theorem dX1_leastThatHolds_55 : decode cX1_leastThatHolds 55 = .ok (.iinc 5 1, 3) := by decide +kernel
theorem dX1_leastThatHolds_58 : decode cX1_leastThatHolds 58 = .ok (.goto (-55), 3) := by decide +kernel
theorem dX1_leastThatHolds_61 : decode cX1_leastThatHolds 61 = .ok (.bipush (-4), 2) := by decide +kernel
theorem dX1_leastThatHolds_63 : decode cX1_leastThatHolds 63 = .ok (.ireturn, 1) := by decide +kernel
theorem dX1_holds_0 : decode cX1_holds 0 = .ok (.iconst 0, 1) := by decide +kernel
theorem dX1_holds_1 : decode cX1_holds 1 = .ok (.istore 4, 2) := by decide +kernel
theorem dX1_holds_3 : decode cX1_holds 3 = .ok (.iload 4, 2) := by decide +kernel
theorem dX1_holds_5 : decode cX1_holds 5 = .ok (.iload_n 3, 1) := by decide +kernel
theorem dX1_holds_6 : decode cX1_holds 6 = .ok (.if_icmp .ge 31, 3) := by decide +kernel
theorem dX1_holds_9 : decode cX1_holds 9 = .ok (.aload_n 0, 1) := by decide +kernel
theorem dX1_holds_10 : decode cX1_holds 10 = .ok (.getfield 12, 3) := by decide +kernel
theorem dX1_holds_13 : decode cX1_holds 13 = .ok (.iconst 0, 1) := by decide +kernel
theorem dX1_holds_14 : decode cX1_holds 14 = .ok (.invokevirtual 47, 3) := by decide +kernel
theorem dX1_holds_17 : decode cX1_holds 17 = .ok (.aload_n 0, 1) := by decide +kernel
theorem dX1_holds_18 : decode cX1_holds 18 = .ok (.getfield 12, 3) := by decide +kernel
theorem dX1_holds_21 : decode cX1_holds 21 = .ok (.iload_n 1, 1) := by decide +kernel
theorem dX1_holds_22 : decode cX1_holds 22 = .ok (.iload_n 2, 1) := by decide +kernel
theorem dX1_holds_23 : decode cX1_holds 23 = .ok (.invokevirtual 69, 3) := by decide +kernel
theorem dX1_holds_26 : decode cX1_holds 26 = .ok (.ifCond .eq 5, 3) := by decide +kernel
theorem dX1_holds_29 : decode cX1_holds 29 = .ok (.iconst 0, 1) := by decide +kernel
theorem dX1_holds_30 : decode cX1_holds 30 = .ok (.ireturn, 1) := by decide +kernel
theorem dX1_holds_31 : decode cX1_holds 31 = .ok (.iinc 4 1, 3) := by decide +kernel
theorem dX1_holds_34 : decode cX1_holds 34 = .ok (.goto (-31), 3) := by decide +kernel
theorem dX1_holds_37 : decode cX1_holds 37 = .ok (.iconst 1, 1) := by decide +kernel
theorem dX1_holds_38 : decode cX1_holds 38 = .ok (.ireturn, 1) := by decide +kernel
theorem dX1_untrueFrom_0 : decode cX1_untrueFrom 0 = .ok (.aload_n 0, 1) := by decide +kernel
theorem dX1_untrueFrom_1 : decode cX1_untrueFrom 1 = .ok (.getfield 12, 3) := by decide +kernel
theorem dX1_untrueFrom_4 : decode cX1_untrueFrom 4 = .ok (.aload_n 1, 1) := by decide +kernel
theorem dX1_untrueFrom_5 : decode cX1_untrueFrom 5 = .ok (.invokevirtual 18, 3) := by decide +kernel
theorem dX1_untrueFrom_8 : decode cX1_untrueFrom 8 = .ok (.aload_n 0, 1) := by decide +kernel
theorem dX1_untrueFrom_9 : decode cX1_untrueFrom 9 = .ok (.getfield 12, 3) := by decide +kernel
theorem dX1_untrueFrom_12 : decode cX1_untrueFrom 12 = .ok (.iload_n 2, 1) := by decide +kernel
theorem dX1_untrueFrom_13 : decode cX1_untrueFrom 13 = .ok (.putfield 51, 3) := by decide +kernel
theorem dX1_untrueFrom_16 : decode cX1_untrueFrom 16 = .ok (.iconst 0, 1) := by decide +kernel
theorem dX1_untrueFrom_17 : decode cX1_untrueFrom 17 = .ok (.istore 4, 2) := by decide +kernel
theorem dX1_untrueFrom_19 : decode cX1_untrueFrom 19 = .ok (.iconst 0, 1) := by decide +kernel
theorem dX1_untrueFrom_20 : decode cX1_untrueFrom 20 = .ok (.istore 5, 2) := by decide +kernel
theorem dX1_untrueFrom_22 : decode cX1_untrueFrom 22 = .ok (.iload 5, 2) := by decide +kernel
theorem dX1_untrueFrom_24 : decode cX1_untrueFrom 24 = .ok (.bipush 12, 2) := by decide +kernel
theorem dX1_untrueFrom_26 : decode cX1_untrueFrom 26 = .ok (.if_icmp .gt 35, 3) := by decide +kernel
theorem dX1_untrueFrom_29 : decode cX1_untrueFrom 29 = .ok (.iload 4, 2) := by decide +kernel
theorem dX1_untrueFrom_31 : decode cX1_untrueFrom 31 = .ok (.aload_n 3, 1) := by decide +kernel
theorem dX1_untrueFrom_32 : decode cX1_untrueFrom 32 = .ok (.iload 5, 2) := by decide +kernel
theorem dX1_untrueFrom_34 : decode cX1_untrueFrom 34 = .ok (.aload_n 0, 1) := by decide +kernel
theorem dX1_untrueFrom_35 : decode cX1_untrueFrom 35 = .ok (.getfield 12, 3) := by decide +kernel
theorem dX1_untrueFrom_38 : decode cX1_untrueFrom 38 = .ok (.getfield 51, 3) := by decide +kernel
theorem dX1_untrueFrom_41 : decode cX1_untrueFrom 41 = .ok (.invokevirtual 73, 3) := by decide +kernel
theorem dX1_untrueFrom_44 : decode cX1_untrueFrom 44 = .ok (.ior, 1) := by decide +kernel
theorem dX1_untrueFrom_45 : decode cX1_untrueFrom 45 = .ok (.istore 4, 2) := by decide +kernel
theorem dX1_untrueFrom_47 : decode cX1_untrueFrom 47 = .ok (.aload_n 0, 1) := by decide +kernel
theorem dX1_untrueFrom_48 : decode cX1_untrueFrom 48 = .ok (.getfield 12, 3) := by decide +kernel
theorem dX1_untrueFrom_51 : decode cX1_untrueFrom 51 = .ok (.iconst 0, 1) := by decide +kernel
theorem dX1_untrueFrom_52 : decode cX1_untrueFrom 52 = .ok (.invokevirtual 47, 3) := by decide +kernel
theorem dX1_untrueFrom_55 : decode cX1_untrueFrom 55 = .ok (.iinc 5 1, 3) := by decide +kernel
theorem dX1_untrueFrom_58 : decode cX1_untrueFrom 58 = .ok (.goto (-36), 3) := by decide +kernel
theorem dX1_untrueFrom_61 : decode cX1_untrueFrom 61 = .ok (.iload 4, 2) := by decide +kernel
theorem dX1_untrueFrom_63 : decode cX1_untrueFrom 63 = .ok (.ireturn, 1) := by decide +kernel
theorem dX1_minutesBySeed_0 : decode cX1_minutesBySeed 0 = .ok (.aload_n 0, 1) := by decide +kernel
theorem dX1_minutesBySeed_1 : decode cX1_minutesBySeed 1 = .ok (.getfield 12, 3) := by decide +kernel
theorem dX1_minutesBySeed_4 : decode cX1_minutesBySeed 4 = .ok (.aload_n 1, 1) := by decide +kernel
theorem dX1_minutesBySeed_5 : decode cX1_minutesBySeed 5 = .ok (.invokevirtual 18, 3) := by decide +kernel
theorem dX1_minutesBySeed_8 : decode cX1_minutesBySeed 8 = .ok (.iconst 0, 1) := by decide +kernel
theorem dX1_minutesBySeed_9 : decode cX1_minutesBySeed 9 = .ok (.istore 4, 2) := by decide +kernel
theorem dX1_minutesBySeed_11 : decode cX1_minutesBySeed 11 = .ok (.iload 4, 2) := by decide +kernel
theorem dX1_minutesBySeed_13 : decode cX1_minutesBySeed 13 = .ok (.iload_n 3, 1) := by decide +kernel
theorem dX1_minutesBySeed_14 : decode cX1_minutesBySeed 14 = .ok (.if_icmp .ge 61, 3) := by decide +kernel
theorem dX1_minutesBySeed_17 : decode cX1_minutesBySeed 17 = .ok (.aload_n 0, 1) := by decide +kernel
theorem dX1_minutesBySeed_18 : decode cX1_minutesBySeed 18 = .ok (.getfield 12, 3) := by decide +kernel
theorem dX1_minutesBySeed_21 : decode cX1_minutesBySeed 21 = .ok (.invokevirtual 54, 3) := by decide +kernel
theorem dX1_minutesBySeed_24 : decode cX1_minutesBySeed 24 = .ok (.ifCond .ne 51, 3) := by decide +kernel
theorem dX1_minutesBySeed_27 : decode cX1_minutesBySeed 27 = .ok (.iload_n 2, 1) := by decide +kernel
theorem dX1_minutesBySeed_28 : decode cX1_minutesBySeed 28 = .ok (.ldc 79, 2) := by decide +kernel
theorem dX1_minutesBySeed_30 : decode cX1_minutesBySeed 30 = .ok (.imul, 1) := by decide +kernel
theorem dX1_minutesBySeed_31 : decode cX1_minutesBySeed 31 = .ok (.sipush 12345, 3) := by decide +kernel
theorem dX1_minutesBySeed_34 : decode cX1_minutesBySeed 34 = .ok (.iadd, 1) := by decide +kernel
theorem dX1_minutesBySeed_35 : decode cX1_minutesBySeed 35 = .ok (.istore_n 2, 1) := by decide +kernel
theorem dX1_minutesBySeed_36 : decode cX1_minutesBySeed 36 = .ok (.aload_n 0, 1) := by decide +kernel
theorem dX1_minutesBySeed_37 : decode cX1_minutesBySeed 37 = .ok (.getfield 12, 3) := by decide +kernel
theorem dX1_minutesBySeed_40 : decode cX1_minutesBySeed 40 = .ok (.iload_n 2, 1) := by decide +kernel
theorem dX1_minutesBySeed_41 : decode cX1_minutesBySeed 41 = .ok (.bipush 16, 2) := by decide +kernel
theorem dX1_minutesBySeed_43 : decode cX1_minutesBySeed 43 = .ok (.iushr, 1) := by decide +kernel
theorem dX1_minutesBySeed_44 : decode cX1_minutesBySeed 44 = .ok (.sipush 32767, 3) := by decide +kernel
theorem dX1_minutesBySeed_47 : decode cX1_minutesBySeed 47 = .ok (.iand, 1) := by decide +kernel
theorem dX1_minutesBySeed_48 : decode cX1_minutesBySeed 48 = .ok (.bipush 8, 2) := by decide +kernel
theorem dX1_minutesBySeed_50 : decode cX1_minutesBySeed 50 = .ok (.irem, 1) := by decide +kernel
theorem dX1_minutesBySeed_51 : decode cX1_minutesBySeed 51 = .ok (.aload_n 0, 1) := by decide +kernel
theorem dX1_minutesBySeed_52 : decode cX1_minutesBySeed 52 = .ok (.getfield 12, 3) := by decide +kernel
theorem dX1_minutesBySeed_55 : decode cX1_minutesBySeed 55 = .ok (.getfield 80, 3) := by decide +kernel
theorem dX1_minutesBySeed_58 : decode cX1_minutesBySeed 58 = .ok (.if_icmp .ge 7, 3) := by decide +kernel
theorem dX1_minutesBySeed_61 : decode cX1_minutesBySeed 61 = .ok (.iconst 1, 1) := by decide +kernel
theorem dX1_minutesBySeed_62 : decode cX1_minutesBySeed 62 = .ok (.goto 4, 3) := by decide +kernel
theorem dX1_minutesBySeed_65 : decode cX1_minutesBySeed 65 = .ok (.iconst 0, 1) := by decide +kernel
theorem dX1_minutesBySeed_66 : decode cX1_minutesBySeed 66 = .ok (.invokevirtual 47, 3) := by decide +kernel
theorem dX1_minutesBySeed_69 : decode cX1_minutesBySeed 69 = .ok (.iinc 4 1, 3) := by decide +kernel
theorem dX1_minutesBySeed_72 : decode cX1_minutesBySeed 72 = .ok (.goto (-61), 3) := by decide +kernel
theorem dX1_minutesBySeed_75 : decode cX1_minutesBySeed 75 = .ok (.iload 4, 2) := by decide +kernel
theorem dX1_minutesBySeed_77 : decode cX1_minutesBySeed 77 = .ok (.ireturn, 1) := by decide +kernel
theorem dX2_init_0 : decode cX2_init 0 = .ok (.aload_n 0, 1) := by decide +kernel
theorem dX2_init_1 : decode cX2_init 1 = .ok (.invokespecial 3, 3) := by decide +kernel
theorem dX2_init_4 : decode cX2_init 4 = .ok (.aload_n 0, 1) := by decide +kernel
theorem dX2_init_5 : decode cX2_init 5 = .ok (.new 9, 3) := by decide +kernel
theorem dX2_init_8 : decode cX2_init 8 = .ok (.dup, 1) := by decide +kernel
theorem dX2_init_9 : decode cX2_init 9 = .ok (.invokespecial 11, 3) := by decide +kernel
theorem dX2_init_12 : decode cX2_init 12 = .ok (.putfield 12, 3) := by decide +kernel
theorem dX2_init_15 : decode cX2_init 15 = .ok (.aload_n 0, 1) := by decide +kernel
theorem dX2_init_16 : decode cX2_init 16 = .ok (.bipush 11, 2) := by decide +kernel
theorem dX2_init_18 : decode cX2_init 18 = .ok (.newarray .long, 2) := by decide +kernel
theorem dX2_init_20 : decode cX2_init 20 = .ok (.putfield 18, 3) := by decide +kernel
theorem dX2_init_23 : decode cX2_init 23 = .ok (.aload_n 0, 1) := by decide +kernel
theorem dX2_init_24 : decode cX2_init 24 = .ok (.lconst 1, 1) := by decide +kernel
theorem dX2_init_25 : decode cX2_init 25 = .ok (.putfield 22, 3) := by decide +kernel
theorem dX2_init_28 : decode cX2_init 28 = .ok (.return_, 1) := by decide +kernel
theorem dX2_weigh_0 : decode cX2_weigh 0 = .ok (.iconst 0, 1) := by decide +kernel
theorem dX2_weigh_1 : decode cX2_weigh 1 = .ok (.istore_n 3, 1) := by decide +kernel
theorem dX2_weigh_2 : decode cX2_weigh 2 = .ok (.iload_n 3, 1) := by decide +kernel
theorem dX2_weigh_3 : decode cX2_weigh 3 = .ok (.aload_n 0, 1) := by decide +kernel
theorem dX2_weigh_4 : decode cX2_weigh 4 = .ok (.getfield 18, 3) := by decide +kernel
theorem dX2_weigh_7 : decode cX2_weigh 7 = .ok (.arraylength, 1) := by decide +kernel
theorem dX2_weigh_8 : decode cX2_weigh 8 = .ok (.if_icmp .ge 16, 3) := by decide +kernel
theorem dX2_weigh_11 : decode cX2_weigh 11 = .ok (.aload_n 0, 1) := by decide +kernel
theorem dX2_weigh_12 : decode cX2_weigh 12 = .ok (.getfield 18, 3) := by decide +kernel
theorem dX2_weigh_15 : decode cX2_weigh 15 = .ok (.iload_n 3, 1) := by decide +kernel
theorem dX2_weigh_16 : decode cX2_weigh 16 = .ok (.lconst 0, 1) := by decide +kernel
theorem dX2_weigh_17 : decode cX2_weigh 17 = .ok (.lastore, 1) := by decide +kernel
theorem dX2_weigh_18 : decode cX2_weigh 18 = .ok (.iinc 3 1, 3) := by decide +kernel
theorem dX2_weigh_21 : decode cX2_weigh 21 = .ok (.goto (-19), 3) := by decide +kernel
theorem dX2_weigh_24 : decode cX2_weigh 24 = .ok (.aload_n 0, 1) := by decide +kernel
theorem dX2_weigh_25 : decode cX2_weigh 25 = .ok (.iload_n 2, 1) := by decide +kernel
theorem dX2_weigh_26 : decode cX2_weigh 26 = .ok (.invokestatic 26, 3) := by decide +kernel
theorem dX2_weigh_29 : decode cX2_weigh 29 = .ok (.putfield 22, 3) := by decide +kernel
theorem dX2_weigh_32 : decode cX2_weigh 32 = .ok (.aload_n 0, 1) := by decide +kernel
theorem dX2_weigh_33 : decode cX2_weigh 33 = .ok (.getfield 12, 3) := by decide +kernel
theorem dX2_weigh_36 : decode cX2_weigh 36 = .ok (.iconst 0, 1) := by decide +kernel
theorem dX2_weigh_37 : decode cX2_weigh 37 = .ok (.invokevirtual 30, 3) := by decide +kernel
theorem dX2_weigh_40 : decode cX2_weigh 40 = .ok (.aload_n 1, 1) := by decide +kernel
theorem dX2_weigh_41 : decode cX2_weigh 41 = .ok (.invokevirtual 34, 3) := by decide +kernel
theorem dX2_weigh_44 : decode cX2_weigh 44 = .ok (.aload_n 0, 1) := by decide +kernel
theorem dX2_weigh_45 : decode cX2_weigh 45 = .ok (.iconst 0, 1) := by decide +kernel
theorem dX2_weigh_46 : decode cX2_weigh 46 = .ok (.iload_n 2, 1) := by decide +kernel
theorem dX2_weigh_47 : decode cX2_weigh 47 = .ok (.lconst 1, 1) := by decide +kernel
theorem dX2_weigh_48 : decode cX2_weigh 48 = .ok (.invokestatic 40, 3) := by decide +kernel
theorem dX2_weigh_51 : decode cX2_weigh 51 = .ok (.return_, 1) := by decide +kernel
theorem dX2_wholeOf_0 : decode cX2_wholeOf 0 = .ok (.lconst 1, 1) := by decide +kernel
theorem dX2_wholeOf_1 : decode cX2_wholeOf 1 = .ok (.iconst 3, 1) := by decide +kernel
theorem dX2_wholeOf_2 : decode cX2_wholeOf 2 = .ok (.iload_n 0, 1) := by decide +kernel
theorem dX2_wholeOf_3 : decode cX2_wholeOf 3 = .ok (.imul, 1) := by decide +kernel
theorem dX2_wholeOf_4 : decode cX2_wholeOf 4 = .ok (.lshl, 1) := by decide +kernel
theorem dX2_wholeOf_5 : decode cX2_wholeOf 5 = .ok (.lreturn, 1) := by decide +kernel
theorem dX2_branch_0 : decode cX2_branch 0 = .ok (.aload_n 0, 1) := by decide +kernel
theorem dX2_branch_1 : decode cX2_branch 1 = .ok (.getfield 12, 3) := by decide +kernel
theorem dX2_branch_4 : decode cX2_branch 4 = .ok (.iload_n 1, 1) := by decide +kernel
theorem dX2_branch_5 : decode cX2_branch 5 = .ok (.invokevirtual 30, 3) := by decide +kernel
theorem dX2_branch_8 : decode cX2_branch 8 = .ok (.astore 5, 2) := by decide +kernel
theorem dX2_branch_10 : decode cX2_branch 10 = .ok (.iload_n 2, 1) := by decide +kernel
theorem dX2_branch_11 : decode cX2_branch 11 = .ok (.ifCond .le 17, 3) := by decide +kernel
theorem dX2_branch_14 : decode cX2_branch 14 = .ok (.iload_n 1, 1) := by decide +kernel
theorem dX2_branch_15 : decode cX2_branch 15 = .ok (.bipush 8, 2) := by decide +kernel
theorem dX2_branch_17 : decode cX2_branch 17 = .ok (.if_icmp .ge 11, 3) := by decide +kernel
theorem dX2_branch_20 : decode cX2_branch 20 = .ok (.aload 5, 2) := by decide +kernel
theorem dX2_branch_22 : decode cX2_branch 22 = .ok (.invokevirtual 44, 3) := by decide +kernel
theorem dX2_branch_25 : decode cX2_branch 25 = .ok (.ifCond .eq 19, 3) := by decide +kernel
theorem dX2_branch_28 : decode cX2_branch 28 = .ok (.aload_n 0, 1) := by decide +kernel
theorem dX2_branch_29 : decode cX2_branch 29 = .ok (.aload 5, 2) := by decide +kernel
theorem dX2_branch_31 : decode cX2_branch 31 = .ok (.invokevirtual 48, 3) := by decide +kernel
theorem dX2_branch_34 : decode cX2_branch 34 = .ok (.lload_n 3, 1) := by decide +kernel
theorem dX2_branch_35 : decode cX2_branch 35 = .ok (.iload_n 2, 1) := by decide +kernel
theorem dX2_branch_36 : decode cX2_branch 36 = .ok (.invokestatic 26, 3) := by decide +kernel
theorem dX2_branch_39 : decode cX2_branch 39 = .ok (.lmul, 1) := by decide +kernel
theorem dX2_branch_40 : decode cX2_branch 40 = .ok (.invokevirtual 52, 3) := by decide +kernel
theorem dX2_branch_43 : decode cX2_branch 43 = .ok (.return_, 1) := by decide +kernel
theorem dX2_branch_44 : decode cX2_branch 44 = .ok (.aload_n 0, 1) := by decide +kernel
theorem dX2_branch_45 : decode cX2_branch 45 = .ok (.getfield 12, 3) := by decide +kernel
theorem dX2_branch_48 : decode cX2_branch 48 = .ok (.iload_n 1, 1) := by decide +kernel
theorem dX2_branch_49 : decode cX2_branch 49 = .ok (.iconst 1, 1) := by decide +kernel
theorem dX2_branch_50 : decode cX2_branch 50 = .ok (.iadd, 1) := by decide +kernel
theorem dX2_branch_51 : decode cX2_branch 51 = .ok (.invokevirtual 30, 3) := by decide +kernel
theorem dX2_branch_54 : decode cX2_branch 54 = .ok (.astore 6, 2) := by decide +kernel
theorem dX2_branch_56 : decode cX2_branch 56 = .ok (.aload 6, 2) := by decide +kernel
theorem dX2_branch_58 : decode cX2_branch 58 = .ok (.aload 5, 2) := by decide +kernel
theorem dX2_branch_60 : decode cX2_branch 60 = .ok (.invokevirtual 34, 3) := by decide +kernel
theorem dX2_branch_63 : decode cX2_branch 63 = .ok (.aload 6, 2) := by decide +kernel
theorem dX2_branch_65 : decode cX2_branch 65 = .ok (.iconst 0, 1) := by decide +kernel
theorem dX2_branch_66 : decode cX2_branch 66 = .ok (.invokevirtual 56, 3) := by decide +kernel
theorem dX2_branch_69 : decode cX2_branch 69 = .ok (.aload_n 0, 1) := by decide +kernel
theorem dX2_branch_70 : decode cX2_branch 70 = .ok (.iload_n 1, 1) := by decide +kernel
theorem dX2_branch_71 : decode cX2_branch 71 = .ok (.iconst 1, 1) := by decide +kernel
theorem dX2_branch_72 : decode cX2_branch 72 = .ok (.iadd, 1) := by decide +kernel
theorem dX2_branch_73 : decode cX2_branch 73 = .ok (.iload_n 2, 1) := by decide +kernel
theorem dX2_branch_74 : decode cX2_branch 74 = .ok (.iconst 1, 1) := by decide +kernel
theorem dX2_branch_75 : decode cX2_branch 75 = .ok (.isub, 1) := by decide +kernel
theorem dX2_branch_76 : decode cX2_branch 76 = .ok (.lload_n 3, 1) := by decide +kernel
theorem dX2_branch_77 : decode cX2_branch 77 = .ok (.bipush 8, 2) := by decide +kernel
theorem dX2_branch_79 : decode cX2_branch 79 = .ok (.aload 5, 2) := by decide +kernel
theorem dX2_branch_81 : decode cX2_branch 81 = .ok (.getfield 60, 3) := by decide +kernel
theorem dX2_branch_84 : decode cX2_branch 84 = .ok (.isub, 1) := by decide +kernel
theorem dX2_branch_85 : decode cX2_branch 85 = .ok (.i2l, 1) := by decide +kernel
theorem dX2_branch_86 : decode cX2_branch 86 = .ok (.lmul, 1) := by decide +kernel
theorem dX2_branch_87 : decode cX2_branch 87 = .ok (.invokestatic 40, 3) := by decide +kernel
theorem dX2_branch_90 : decode cX2_branch 90 = .ok (.aload 5, 2) := by decide +kernel
theorem dX2_branch_92 : decode cX2_branch 92 = .ok (.getfield 60, 3) := by decide +kernel
theorem dX2_branch_95 : decode cX2_branch 95 = .ok (.ifCond .le 34, 3) := by decide +kernel
theorem dX2_branch_98 : decode cX2_branch 98 = .ok (.aload 6, 2) := by decide +kernel
theorem dX2_branch_100 : decode cX2_branch 100 = .ok (.aload 5, 2) := by decide +kernel
theorem dX2_branch_102 : decode cX2_branch 102 = .ok (.invokevirtual 34, 3) := by decide +kernel
theorem dX2_branch_105 : decode cX2_branch 105 = .ok (.aload 6, 2) := by decide +kernel
theorem dX2_branch_107 : decode cX2_branch 107 = .ok (.iconst 1, 1) := by decide +kernel
theorem dX2_branch_108 : decode cX2_branch 108 = .ok (.invokevirtual 56, 3) := by decide +kernel
theorem dX2_branch_111 : decode cX2_branch 111 = .ok (.aload_n 0, 1) := by decide +kernel
theorem dX2_branch_112 : decode cX2_branch 112 = .ok (.iload_n 1, 1) := by decide +kernel
theorem dX2_branch_113 : decode cX2_branch 113 = .ok (.iconst 1, 1) := by decide +kernel
theorem dX2_branch_114 : decode cX2_branch 114 = .ok (.iadd, 1) := by decide +kernel
theorem dX2_branch_115 : decode cX2_branch 115 = .ok (.iload_n 2, 1) := by decide +kernel
theorem dX2_branch_116 : decode cX2_branch 116 = .ok (.iconst 1, 1) := by decide +kernel
theorem dX2_branch_117 : decode cX2_branch 117 = .ok (.isub, 1) := by decide +kernel
theorem dX2_branch_118 : decode cX2_branch 118 = .ok (.lload_n 3, 1) := by decide +kernel
theorem dX2_branch_119 : decode cX2_branch 119 = .ok (.aload 5, 2) := by decide +kernel
theorem dX2_branch_121 : decode cX2_branch 121 = .ok (.getfield 60, 3) := by decide +kernel
theorem dX2_branch_124 : decode cX2_branch 124 = .ok (.i2l, 1) := by decide +kernel
theorem dX2_branch_125 : decode cX2_branch 125 = .ok (.lmul, 1) := by decide +kernel
theorem dX2_branch_126 : decode cX2_branch 126 = .ok (.invokestatic 40, 3) := by decide +kernel
theorem dX2_branch_129 : decode cX2_branch 129 = .ok (.return_, 1) := by decide +kernel
theorem dX2_add_0 : decode cX2_add 0 = .ok (.iload_n 1, 1) := by decide +kernel
theorem dX2_add_1 : decode cX2_add 1 = .ok (.ifCond .lt 22, 3) := by decide +kernel
theorem dX2_add_4 : decode cX2_add 4 = .ok (.iload_n 1, 1) := by decide +kernel
theorem dX2_add_5 : decode cX2_add 5 = .ok (.aload_n 0, 1) := by decide +kernel
theorem dX2_add_6 : decode cX2_add 6 = .ok (.getfield 18, 3) := by decide +kernel
theorem dX2_add_9 : decode cX2_add 9 = .ok (.arraylength, 1) := by decide +kernel
theorem dX2_add_10 : decode cX2_add 10 = .ok (.if_icmp .ge 13, 3) := by decide +kernel
theorem dX2_add_13 : decode cX2_add 13 = .ok (.aload_n 0, 1) := by decide +kernel
theorem dX2_add_14 : decode cX2_add 14 = .ok (.getfield 18, 3) := by decide +kernel
theorem dX2_add_17 : decode cX2_add 17 = .ok (.iload_n 1, 1) := by decide +kernel
theorem dX2_add_18 : decode cX2_add 18 = .ok (.dup2, 1) := by decide +kernel
theorem dX2_add_19 : decode cX2_add 19 = .ok (.laload, 1) := by decide +kernel
theorem dX2_add_20 : decode cX2_add 20 = .ok (.lload_n 2, 1) := by decide +kernel
theorem dX2_add_21 : decode cX2_add 21 = .ok (.ladd, 1) := by decide +kernel
theorem dX2_add_22 : decode cX2_add 22 = .ok (.lastore, 1) := by decide +kernel
theorem dX2_add_23 : decode cX2_add 23 = .ok (.return_, 1) := by decide +kernel
theorem dX2_shareOf_0 : decode cX2_shareOf 0 = .ok (.iload_n 1, 1) := by decide +kernel
theorem dX2_shareOf_1 : decode cX2_shareOf 1 = .ok (.ifCond .lt 21, 3) := by decide +kernel
theorem dX2_shareOf_4 : decode cX2_shareOf 4 = .ok (.iload_n 1, 1) := by decide +kernel
theorem dX2_shareOf_5 : decode cX2_shareOf 5 = .ok (.aload_n 0, 1) := by decide +kernel
theorem dX2_shareOf_6 : decode cX2_shareOf 6 = .ok (.getfield 18, 3) := by decide +kernel
theorem dX2_shareOf_9 : decode cX2_shareOf 9 = .ok (.arraylength, 1) := by decide +kernel
theorem dX2_shareOf_10 : decode cX2_shareOf 10 = .ok (.if_icmp .ge 12, 3) := by decide +kernel
theorem dX2_shareOf_13 : decode cX2_shareOf 13 = .ok (.aload_n 0, 1) := by decide +kernel
theorem dX2_shareOf_14 : decode cX2_shareOf 14 = .ok (.getfield 18, 3) := by decide +kernel
theorem dX2_shareOf_17 : decode cX2_shareOf 17 = .ok (.iload_n 1, 1) := by decide +kernel
theorem dX2_shareOf_18 : decode cX2_shareOf 18 = .ok (.laload, 1) := by decide +kernel
theorem dX2_shareOf_19 : decode cX2_shareOf 19 = .ok (.goto 4, 3) := by decide +kernel
theorem dX2_shareOf_22 : decode cX2_shareOf 22 = .ok (.lconst 0, 1) := by decide +kernel
theorem dX2_shareOf_23 : decode cX2_shareOf 23 = .ok (.lreturn, 1) := by decide +kernel
theorem dX2_sumOfSpots_0 : decode cX2_sumOfSpots 0 = .ok (.lconst 0, 1) := by decide +kernel
theorem dX2_sumOfSpots_1 : decode cX2_sumOfSpots 1 = .ok (.lstore_n 1, 1) := by decide +kernel
theorem dX2_sumOfSpots_2 : decode cX2_sumOfSpots 2 = .ok (.iconst 0, 1) := by decide +kernel
theorem dX2_sumOfSpots_3 : decode cX2_sumOfSpots 3 = .ok (.istore_n 3, 1) := by decide +kernel
theorem dX2_sumOfSpots_4 : decode cX2_sumOfSpots 4 = .ok (.iload_n 3, 1) := by decide +kernel
theorem dX2_sumOfSpots_5 : decode cX2_sumOfSpots 5 = .ok (.aload_n 0, 1) := by decide +kernel
theorem dX2_sumOfSpots_6 : decode cX2_sumOfSpots 6 = .ok (.getfield 18, 3) := by decide +kernel
theorem dX2_sumOfSpots_9 : decode cX2_sumOfSpots 9 = .ok (.arraylength, 1) := by decide +kernel
theorem dX2_sumOfSpots_10 : decode cX2_sumOfSpots 10 = .ok (.if_icmp .ge 21, 3) := by decide +kernel
theorem dX2_sumOfSpots_13 : decode cX2_sumOfSpots 13 = .ok (.lload_n 1, 1) := by decide +kernel
theorem dX2_sumOfSpots_14 : decode cX2_sumOfSpots 14 = .ok (.aload_n 0, 1) := by decide +kernel
theorem dX2_sumOfSpots_15 : decode cX2_sumOfSpots 15 = .ok (.getfield 18, 3) := by decide +kernel
theorem dX2_sumOfSpots_18 : decode cX2_sumOfSpots 18 = .ok (.iload_n 3, 1) := by decide +kernel
theorem dX2_sumOfSpots_19 : decode cX2_sumOfSpots 19 = .ok (.laload, 1) := by decide +kernel
theorem dX2_sumOfSpots_20 : decode cX2_sumOfSpots 20 = .ok (.iload_n 3, 1) := by decide +kernel
theorem dX2_sumOfSpots_21 : decode cX2_sumOfSpots 21 = .ok (.i2l, 1) := by decide +kernel
theorem dX2_sumOfSpots_22 : decode cX2_sumOfSpots 22 = .ok (.lmul, 1) := by decide +kernel
theorem dX2_sumOfSpots_23 : decode cX2_sumOfSpots 23 = .ok (.ladd, 1) := by decide +kernel
theorem dX2_sumOfSpots_24 : decode cX2_sumOfSpots 24 = .ok (.lstore_n 1, 1) := by decide +kernel
theorem dX2_sumOfSpots_25 : decode cX2_sumOfSpots 25 = .ok (.iinc 3 1, 3) := by decide +kernel
theorem dX2_sumOfSpots_28 : decode cX2_sumOfSpots 28 = .ok (.goto (-24), 3) := by decide +kernel
theorem dX2_sumOfSpots_31 : decode cX2_sumOfSpots 31 = .ok (.lload_n 1, 1) := by decide +kernel
theorem dX2_sumOfSpots_32 : decode cX2_sumOfSpots 32 = .ok (.lreturn, 1) := by decide +kernel
theorem dX3_init_0 : decode cX3_init 0 = .ok (.aload_n 0, 1) := by decide +kernel
theorem dX3_init_1 : decode cX3_init 1 = .ok (.invokespecial 3, 3) := by decide +kernel
theorem dX3_init_4 : decode cX3_init 4 = .ok (.aload_n 0, 1) := by decide +kernel
theorem dX3_init_5 : decode cX3_init 5 = .ok (.new 9, 3) := by decide +kernel
theorem dX3_init_8 : decode cX3_init 8 = .ok (.dup, 1) := by decide +kernel
theorem dX3_init_9 : decode cX3_init 9 = .ok (.invokespecial 11, 3) := by decide +kernel
theorem dX3_init_12 : decode cX3_init 12 = .ok (.putfield 12, 3) := by decide +kernel
theorem dX3_init_15 : decode cX3_init 15 = .ok (.aload_n 0, 1) := by decide +kernel
theorem dX3_init_16 : decode cX3_init 16 = .ok (.new 18, 3) := by decide +kernel
theorem dX3_init_19 : decode cX3_init 19 = .ok (.dup, 1) := by decide +kernel
theorem dX3_init_20 : decode cX3_init 20 = .ok (.invokespecial 20, 3) := by decide +kernel
theorem dX3_init_23 : decode cX3_init 23 = .ok (.putfield 21, 3) := by decide +kernel
theorem dX3_init_26 : decode cX3_init 26 = .ok (.aload_n 0, 1) := by decide +kernel
theorem dX3_init_27 : decode cX3_init 27 = .ok (.bipush 9, 2) := by decide +kernel
theorem dX3_init_29 : decode cX3_init 29 = .ok (.newarray .int, 2) := by decide +kernel
theorem dX3_init_31 : decode cX3_init 31 = .ok (.putfield 25, 3) := by decide +kernel
theorem dX3_init_34 : decode cX3_init 34 = .ok (.return_, 1) := by decide +kernel
theorem dX3_open_0 : decode cX3_open 0 = .ok (.aload_n 0, 1) := by decide +kernel
theorem dX3_open_1 : decode cX3_open 1 = .ok (.getfield 12, 3) := by decide +kernel
theorem dX3_open_4 : decode cX3_open 4 = .ok (.invokevirtual 29, 3) := by decide +kernel
theorem dX3_open_7 : decode cX3_open 7 = .ok (.aload_n 0, 1) := by decide +kernel
theorem dX3_open_8 : decode cX3_open 8 = .ok (.getfield 21, 3) := by decide +kernel
theorem dX3_open_11 : decode cX3_open 11 = .ok (.invokevirtual 32, 3) := by decide +kernel
theorem dX3_open_14 : decode cX3_open 14 = .ok (.aload_n 0, 1) := by decide +kernel
theorem dX3_open_15 : decode cX3_open 15 = .ok (.getfield 21, 3) := by decide +kernel
theorem dX3_open_18 : decode cX3_open 18 = .ok (.iconst (-1), 1) := by decide +kernel
theorem dX3_open_19 : decode cX3_open 19 = .ok (.putfield 35, 3) := by decide +kernel
theorem dX3_open_22 : decode cX3_open 22 = .ok (.iconst 0, 1) := by decide +kernel
theorem dX3_open_23 : decode cX3_open 23 = .ok (.istore_n 1, 1) := by decide +kernel
theorem dX3_open_24 : decode cX3_open 24 = .ok (.iload_n 1, 1) := by decide +kernel
theorem dX3_open_25 : decode cX3_open 25 = .ok (.bipush 9, 2) := by decide +kernel
theorem dX3_open_27 : decode cX3_open 27 = .ok (.if_icmp .ge 16, 3) := by decide +kernel
theorem dX3_open_30 : decode cX3_open 30 = .ok (.aload_n 0, 1) := by decide +kernel
theorem dX3_open_31 : decode cX3_open 31 = .ok (.getfield 25, 3) := by decide +kernel
theorem dX3_open_34 : decode cX3_open 34 = .ok (.iload_n 1, 1) := by decide +kernel
theorem dX3_open_35 : decode cX3_open 35 = .ok (.iconst 0, 1) := by decide +kernel
theorem dX3_open_36 : decode cX3_open 36 = .ok (.iastore, 1) := by decide +kernel
theorem dX3_open_37 : decode cX3_open 37 = .ok (.iinc 1 1, 3) := by decide +kernel
theorem dX3_open_40 : decode cX3_open 40 = .ok (.goto (-16), 3) := by decide +kernel
theorem dX3_open_43 : decode cX3_open 43 = .ok (.aload_n 0, 1) := by decide +kernel
theorem dX3_open_44 : decode cX3_open 44 = .ok (.iconst 0, 1) := by decide +kernel
theorem dX3_open_45 : decode cX3_open 45 = .ok (.putfield 39, 3) := by decide +kernel
theorem dX3_open_48 : decode cX3_open 48 = .ok (.aload_n 0, 1) := by decide +kernel
theorem dX3_open_49 : decode cX3_open 49 = .ok (.iconst 0, 1) := by decide +kernel
theorem dX3_open_50 : decode cX3_open 50 = .ok (.putfield 42, 3) := by decide +kernel
theorem dX3_open_53 : decode cX3_open 53 = .ok (.return_, 1) := by decide +kernel
theorem dX3_close_0 : decode cX3_close 0 = .ok (.aload_n 0, 1) := by decide +kernel
theorem dX3_close_1 : decode cX3_close 1 = .ok (.getfield 42, 3) := by decide +kernel
theorem dX3_close_4 : decode cX3_close 4 = .ok (.ifCond .ne 33, 3) := by decide +kernel
theorem dX3_close_7 : decode cX3_close 7 = .ok (.aload_n 0, 1) := by decide +kernel
theorem dX3_close_8 : decode cX3_close 8 = .ok (.getfield 39, 3) := by decide +kernel
theorem dX3_close_11 : decode cX3_close 11 = .ok (.aload_n 0, 1) := by decide +kernel
theorem dX3_close_12 : decode cX3_close 12 = .ok (.getfield 21, 3) := by decide +kernel
theorem dX3_close_15 : decode cX3_close 15 = .ok (.getfield 45, 3) := by decide +kernel
theorem dX3_close_18 : decode cX3_close 18 = .ok (.if_icmp .lt 19, 3) := by decide +kernel
theorem dX3_close_21 : decode cX3_close 21 = .ok (.aload_n 0, 1) := by decide +kernel
theorem dX3_close_22 : decode cX3_close 22 = .ok (.iconst 5, 1) := by decide +kernel
theorem dX3_close_23 : decode cX3_close 23 = .ok (.putfield 42, 3) := by decide +kernel
theorem dX3_close_26 : decode cX3_close 26 = .ok (.aload_n 0, 1) := by decide +kernel
theorem dX3_close_27 : decode cX3_close 27 = .ok (.aload_n 0, 1) := by decide +kernel
theorem dX3_close_28 : decode cX3_close 28 = .ok (.getfield 12, 3) := by decide +kernel
theorem dX3_close_31 : decode cX3_close 31 = .ok (.getfield 48, 3) := by decide +kernel
theorem dX3_close_34 : decode cX3_close 34 = .ok (.putfield 51, 3) := by decide +kernel
theorem dX3_close_37 : decode cX3_close 37 = .ok (.aload_n 0, 1) := by decide +kernel
theorem dX3_close_38 : decode cX3_close 38 = .ok (.getfield 21, 3) := by decide +kernel
theorem dX3_close_41 : decode cX3_close 41 = .ok (.getfield 35, 3) := by decide +kernel
theorem dX3_close_44 : decode cX3_close 44 = .ok (.iconst (-1), 1) := by decide +kernel
theorem dX3_close_45 : decode cX3_close 45 = .ok (.if_icmp .ne 19, 3) := by decide +kernel
theorem dX3_close_48 : decode cX3_close 48 = .ok (.aload_n 0, 1) := by decide +kernel
theorem dX3_close_49 : decode cX3_close 49 = .ok (.getfield 21, 3) := by decide +kernel
theorem dX3_close_52 : decode cX3_close 52 = .ok (.aload_n 0, 1) := by decide +kernel
theorem dX3_close_53 : decode cX3_close 53 = .ok (.getfield 21, 3) := by decide +kernel
theorem dX3_close_56 : decode cX3_close 56 = .ok (.getfield 45, 3) := by decide +kernel
theorem dX3_close_59 : decode cX3_close 59 = .ok (.iconst 2, 1) := by decide +kernel
theorem dX3_close_60 : decode cX3_close 60 = .ok (.idiv, 1) := by decide +kernel
theorem dX3_close_61 : decode cX3_close 61 = .ok (.putfield 35, 3) := by decide +kernel
theorem dX3_close_64 : decode cX3_close 64 = .ok (.aload_n 0, 1) := by decide +kernel
theorem dX3_close_65 : decode cX3_close 65 = .ok (.getfield 12, 3) := by decide +kernel
theorem dX3_close_68 : decode cX3_close 68 = .ok (.iconst 0, 1) := by decide +kernel
theorem dX3_close_69 : decode cX3_close 69 = .ok (.putfield 48, 3) := by decide +kernel
theorem dX3_close_72 : decode cX3_close 72 = .ok (.return_, 1) := by decide +kernel
theorem dX3_takesLine_0 : decode cX3_takesLine 0 = .ok (.aload_n 0, 1) := by decide +kernel
theorem dX3_takesLine_1 : decode cX3_takesLine 1 = .ok (.invokevirtual 54, 3) := by decide +kernel
theorem dX3_takesLine_4 : decode cX3_takesLine 4 = .ok (.aload_n 0, 1) := by decide +kernel
theorem dX3_takesLine_5 : decode cX3_takesLine 5 = .ok (.getfield 42, 3) := by decide +kernel
theorem dX3_takesLine_8 : decode cX3_takesLine 8 = .ok (.ifCond .ne 13, 3) := by decide +kernel
theorem dX3_takesLine_11 : decode cX3_takesLine 11 = .ok (.aload_n 0, 1) := by decide +kernel
theorem dX3_takesLine_12 : decode cX3_takesLine 12 = .ok (.getfield 12, 3) := by decide +kernel
theorem dX3_takesLine_15 : decode cX3_takesLine 15 = .ok (.getfield 57, 3) := by decide +kernel
theorem dX3_takesLine_18 : decode cX3_takesLine 18 = .ok (.ifCond .ne 5, 3) := by decide +kernel
theorem dX3_takesLine_21 : decode cX3_takesLine 21 = .ok (.iconst 0, 1) := by decide +kernel
theorem dX3_takesLine_22 : decode cX3_takesLine 22 = .ok (.ireturn, 1) := by decide +kernel
theorem dX3_takesLine_23 : decode cX3_takesLine 23 = .ok (.aload_n 0, 1) := by decide +kernel
theorem dX3_takesLine_24 : decode cX3_takesLine 24 = .ok (.getfield 12, 3) := by decide +kernel
theorem dX3_takesLine_27 : decode cX3_takesLine 27 = .ok (.ldc 60, 2) := by decide +kernel
theorem dX3_takesLine_29 : decode cX3_takesLine 29 = .ok (.invokevirtual 62, 3) := by decide +kernel
theorem dX3_takesLine_32 : decode cX3_takesLine 32 = .ok (.istore_n 1, 1) := by decide +kernel
theorem dX3_takesLine_33 : decode cX3_takesLine 33 = .ok (.iload_n 1, 1) := by decide +kernel
theorem dX3_takesLine_34 : decode cX3_takesLine 34 = .ok (.tableswitch 195 0 8 #[50, 68, 86, 104, 122, 144, 152, 160, 177], 50) := by decide +kernel
theorem dX3_takesLine_84 : decode cX3_takesLine 84 = .ok (.aload_n 0, 1) := by decide +kernel
theorem dX3_takesLine_85 : decode cX3_takesLine 85 = .ok (.getfield 21, 3) := by decide +kernel
theorem dX3_takesLine_88 : decode cX3_takesLine 88 = .ok (.aload_n 0, 1) := by decide +kernel
theorem dX3_takesLine_89 : decode cX3_takesLine 89 = .ok (.iload_n 1, 1) := by decide +kernel
theorem dX3_takesLine_90 : decode cX3_takesLine 90 = .ok (.iconst 3, 1) := by decide +kernel
theorem dX3_takesLine_91 : decode cX3_takesLine 91 = .ok (.bipush 9, 2) := by decide +kernel
theorem dX3_takesLine_93 : decode cX3_takesLine 93 = .ok (.invokevirtual 66, 3) := by decide +kernel
theorem dX3_takesLine_96 : decode cX3_takesLine 96 = .ok (.putfield 45, 3) := by decide +kernel
theorem dX3_takesLine_99 : decode cX3_takesLine 99 = .ok (.goto 135, 3) := by decide +kernel
theorem dX3_takesLine_102 : decode cX3_takesLine 102 = .ok (.aload_n 0, 1) := by decide +kernel
theorem dX3_takesLine_103 : decode cX3_takesLine 103 = .ok (.iload_n 1, 1) := by decide +kernel
theorem dX3_takesLine_104 : decode cX3_takesLine 104 = .ok (.aload_n 0, 1) := by decide +kernel
theorem dX3_takesLine_105 : decode cX3_takesLine 105 = .ok (.getfield 21, 3) := by decide +kernel
theorem dX3_takesLine_108 : decode cX3_takesLine 108 = .ok (.getfield 70, 3) := by decide +kernel
theorem dX3_takesLine_111 : decode cX3_takesLine 111 = .ok (.iconst 1, 1) := by decide +kernel
theorem dX3_takesLine_112 : decode cX3_takesLine 112 = .ok (.bipush 12, 2) := by decide +kernel
theorem dX3_takesLine_114 : decode cX3_takesLine 114 = .ok (.invokevirtual 73, 3) := by decide +kernel
theorem dX3_takesLine_117 : decode cX3_takesLine 117 = .ok (.goto 117, 3) := by decide +kernel
theorem dX3_takesLine_120 : decode cX3_takesLine 120 = .ok (.aload_n 0, 1) := by decide +kernel
theorem dX3_takesLine_121 : decode cX3_takesLine 121 = .ok (.iload_n 1, 1) := by decide +kernel
theorem dX3_takesLine_122 : decode cX3_takesLine 122 = .ok (.aload_n 0, 1) := by decide +kernel
theorem dX3_takesLine_123 : decode cX3_takesLine 123 = .ok (.getfield 21, 3) := by decide +kernel
theorem dX3_takesLine_126 : decode cX3_takesLine 126 = .ok (.getfield 77, 3) := by decide +kernel
theorem dX3_takesLine_129 : decode cX3_takesLine 129 = .ok (.iconst 0, 1) := by decide +kernel
theorem dX3_takesLine_130 : decode cX3_takesLine 130 = .ok (.bipush 6, 2) := by decide +kernel
theorem dX3_takesLine_132 : decode cX3_takesLine 132 = .ok (.invokevirtual 73, 3) := by decide +kernel
theorem dX3_takesLine_135 : decode cX3_takesLine 135 = .ok (.goto 99, 3) := by decide +kernel
theorem dX3_takesLine_138 : decode cX3_takesLine 138 = .ok (.aload_n 0, 1) := by decide +kernel
theorem dX3_takesLine_139 : decode cX3_takesLine 139 = .ok (.iload_n 1, 1) := by decide +kernel
theorem dX3_takesLine_140 : decode cX3_takesLine 140 = .ok (.aload_n 0, 1) := by decide +kernel
theorem dX3_takesLine_141 : decode cX3_takesLine 141 = .ok (.getfield 21, 3) := by decide +kernel
theorem dX3_takesLine_144 : decode cX3_takesLine 144 = .ok (.getfield 80, 3) := by decide +kernel
theorem dX3_takesLine_147 : decode cX3_takesLine 147 = .ok (.iconst 0, 1) := by decide +kernel
theorem dX3_takesLine_148 : decode cX3_takesLine 148 = .ok (.bipush 9, 2) := by decide +kernel
theorem dX3_takesLine_150 : decode cX3_takesLine 150 = .ok (.invokevirtual 73, 3) := by decide +kernel
theorem dX3_takesLine_153 : decode cX3_takesLine 153 = .ok (.goto 81, 3) := by decide +kernel
theorem dX3_takesLine_156 : decode cX3_takesLine 156 = .ok (.aload_n 0, 1) := by decide +kernel
theorem dX3_takesLine_157 : decode cX3_takesLine 157 = .ok (.getfield 21, 3) := by decide +kernel
theorem dX3_takesLine_160 : decode cX3_takesLine 160 = .ok (.aload_n 0, 1) := by decide +kernel
theorem dX3_takesLine_161 : decode cX3_takesLine 161 = .ok (.aload_n 0, 1) := by decide +kernel
theorem dX3_takesLine_162 : decode cX3_takesLine 162 = .ok (.iload_n 1, 1) := by decide +kernel
theorem dX3_takesLine_163 : decode cX3_takesLine 163 = .ok (.iconst 0, 1) := by decide +kernel
theorem dX3_takesLine_164 : decode cX3_takesLine 164 = .ok (.bipush 8, 2) := by decide +kernel
theorem dX3_takesLine_166 : decode cX3_takesLine 166 = .ok (.invokevirtual 66, 3) := by decide +kernel
theorem dX3_takesLine_169 : decode cX3_takesLine 169 = .ok (.invokevirtual 83, 3) := by decide +kernel
theorem dX3_takesLine_172 : decode cX3_takesLine 172 = .ok (.putfield 35, 3) := by decide +kernel
theorem dX3_takesLine_175 : decode cX3_takesLine 175 = .ok (.goto 59, 3) := by decide +kernel
theorem dX3_takesLine_178 : decode cX3_takesLine 178 = .ok (.aload_n 0, 1) := by decide +kernel
theorem dX3_takesLine_179 : decode cX3_takesLine 179 = .ok (.iload_n 1, 1) := by decide +kernel
theorem dX3_takesLine_180 : decode cX3_takesLine 180 = .ok (.invokevirtual 87, 3) := by decide +kernel
theorem dX3_takesLine_183 : decode cX3_takesLine 183 = .ok (.goto 51, 3) := by decide +kernel
theorem dX3_takesLine_186 : decode cX3_takesLine 186 = .ok (.aload_n 0, 1) := by decide +kernel
theorem dX3_takesLine_187 : decode cX3_takesLine 187 = .ok (.iload_n 1, 1) := by decide +kernel
theorem dX3_takesLine_188 : decode cX3_takesLine 188 = .ok (.invokevirtual 91, 3) := by decide +kernel
theorem dX3_takesLine_191 : decode cX3_takesLine 191 = .ok (.goto 43, 3) := by decide +kernel
theorem dX3_takesLine_194 : decode cX3_takesLine 194 = .ok (.aload_n 0, 1) := by decide +kernel
theorem dX3_takesLine_195 : decode cX3_takesLine 195 = .ok (.getfield 21, 3) := by decide +kernel
theorem dX3_takesLine_198 : decode cX3_takesLine 198 = .ok (.aload_n 0, 1) := by decide +kernel
theorem dX3_takesLine_199 : decode cX3_takesLine 199 = .ok (.iload_n 1, 1) := by decide +kernel
theorem dX3_takesLine_200 : decode cX3_takesLine 200 = .ok (.iconst 1, 1) := by decide +kernel
theorem dX3_takesLine_201 : decode cX3_takesLine 201 = .ok (.iconst 4, 1) := by decide +kernel
theorem dX3_takesLine_202 : decode cX3_takesLine 202 = .ok (.invokevirtual 66, 3) := by decide +kernel
theorem dX3_takesLine_205 : decode cX3_takesLine 205 = .ok (.putfield 94, 3) := by decide +kernel
theorem dX3_takesLine_208 : decode cX3_takesLine 208 = .ok (.goto 26, 3) := by decide +kernel
theorem dX3_takesLine_211 : decode cX3_takesLine 211 = .ok (.aload_n 0, 1) := by decide +kernel
theorem dX3_takesLine_212 : decode cX3_takesLine 212 = .ok (.getfield 21, 3) := by decide +kernel
theorem dX3_takesLine_215 : decode cX3_takesLine 215 = .ok (.aload_n 0, 1) := by decide +kernel
theorem dX3_takesLine_216 : decode cX3_takesLine 216 = .ok (.iload_n 1, 1) := by decide +kernel
theorem dX3_takesLine_217 : decode cX3_takesLine 217 = .ok (.iconst 0, 1) := by decide +kernel
theorem dX3_takesLine_218 : decode cX3_takesLine 218 = .ok (.bipush 7, 2) := by decide +kernel
theorem dX3_takesLine_220 : decode cX3_takesLine 220 = .ok (.invokevirtual 66, 3) := by decide +kernel
theorem dX3_takesLine_223 : decode cX3_takesLine 223 = .ok (.putfield 97, 3) := by decide +kernel
theorem dX3_takesLine_226 : decode cX3_takesLine 226 = .ok (.goto 8, 3) := by decide +kernel
theorem dX3_takesLine_229 : decode cX3_takesLine 229 = .ok (.aload_n 0, 1) := by decide +kernel
theorem dX3_takesLine_230 : decode cX3_takesLine 230 = .ok (.iconst 2, 1) := by decide +kernel
theorem dX3_takesLine_231 : decode cX3_takesLine 231 = .ok (.invokevirtual 100, 3) := by decide +kernel
theorem dX3_takesLine_234 : decode cX3_takesLine 234 = .ok (.aload_n 0, 1) := by decide +kernel
theorem dX3_takesLine_235 : decode cX3_takesLine 235 = .ok (.invokevirtual 54, 3) := by decide +kernel
theorem dX3_takesLine_238 : decode cX3_takesLine 238 = .ok (.aload_n 0, 1) := by decide +kernel
theorem dX3_takesLine_239 : decode cX3_takesLine 239 = .ok (.getfield 12, 3) := by decide +kernel
theorem dX3_takesLine_242 : decode cX3_takesLine 242 = .ok (.getfield 57, 3) := by decide +kernel
theorem dX3_takesLine_245 : decode cX3_takesLine 245 = .ok (.iconst 3, 1) := by decide +kernel
theorem dX3_takesLine_246 : decode cX3_takesLine 246 = .ok (.if_icmp .eq 8, 3) := by decide +kernel
theorem dX3_takesLine_249 : decode cX3_takesLine 249 = .ok (.aload_n 0, 1) := by decide +kernel
theorem dX3_takesLine_250 : decode cX3_takesLine 250 = .ok (.iconst 2, 1) := by decide +kernel
theorem dX3_takesLine_251 : decode cX3_takesLine 251 = .ok (.invokevirtual 100, 3) := by decide +kernel
theorem dX3_takesLine_254 : decode cX3_takesLine 254 = .ok (.aload_n 0, 1) := by decide +kernel
theorem dX3_takesLine_255 : decode cX3_takesLine 255 = .ok (.getfield 42, 3) := by decide +kernel
theorem dX3_takesLine_258 : decode cX3_takesLine 258 = .ok (.ifCond .ne 7, 3) := by decide +kernel
theorem dX3_takesLine_261 : decode cX3_takesLine 261 = .ok (.iconst 1, 1) := by decide +kernel
theorem dX3_takesLine_262 : decode cX3_takesLine 262 = .ok (.goto 4, 3) := by decide +kernel
theorem dX3_takesLine_265 : decode cX3_takesLine 265 = .ok (.iconst 0, 1) := by decide +kernel
theorem dX3_takesLine_266 : decode cX3_takesLine 266 = .ok (.ireturn, 1) := by decide +kernel
theorem dX3_onlyNumber_0 : decode cX3_onlyNumber 0 = .ok (.aload_n 0, 1) := by decide +kernel
theorem dX3_onlyNumber_1 : decode cX3_onlyNumber 1 = .ok (.iload_n 1, 1) := by decide +kernel
theorem dX3_onlyNumber_2 : decode cX3_onlyNumber 2 = .ok (.iconst 0, 1) := by decide +kernel
theorem dX3_onlyNumber_3 : decode cX3_onlyNumber 3 = .ok (.invokevirtual 103, 3) := by decide +kernel
theorem dX3_onlyNumber_6 : decode cX3_onlyNumber 6 = .ok (.aload_n 0, 1) := by decide +kernel
theorem dX3_onlyNumber_7 : decode cX3_onlyNumber 7 = .ok (.iload_n 2, 1) := by decide +kernel
theorem dX3_onlyNumber_8 : decode cX3_onlyNumber 8 = .ok (.iload_n 3, 1) := by decide +kernel
theorem dX3_onlyNumber_9 : decode cX3_onlyNumber 9 = .ok (.invokevirtual 107, 3) := by decide +kernel
theorem dX3_onlyNumber_12 : decode cX3_onlyNumber 12 = .ok (.ireturn, 1) := by decide +kernel
theorem dX3_cellLine_0 : decode cX3_cellLine 0 = .ok (.aload_n 0, 1) := by decide +kernel
theorem dX3_cellLine_1 : decode cX3_cellLine 1 = .ok (.aload_n 0, 1) := by decide +kernel
theorem dX3_cellLine_2 : decode cX3_cellLine 2 = .ok (.iconst 0, 1) := by decide +kernel
theorem dX3_cellLine_3 : decode cX3_cellLine 3 = .ok (.bipush 8, 2) := by decide +kernel
theorem dX3_cellLine_5 : decode cX3_cellLine 5 = .ok (.invokevirtual 107, 3) := by decide +kernel
theorem dX3_cellLine_8 : decode cX3_cellLine 8 = .ok (.invokevirtual 83, 3) := by decide +kernel
theorem dX3_cellLine_11 : decode cX3_cellLine 11 = .ok (.istore 5, 2) := by decide +kernel
theorem dX3_cellLine_13 : decode cX3_cellLine 13 = .ok (.aload_n 0, 1) := by decide +kernel
theorem dX3_cellLine_14 : decode cX3_cellLine 14 = .ok (.iload_n 1, 1) := by decide +kernel
theorem dX3_cellLine_15 : decode cX3_cellLine 15 = .ok (.iload 5, 2) := by decide +kernel
theorem dX3_cellLine_17 : decode cX3_cellLine 17 = .ok (.invokevirtual 103, 3) := by decide +kernel
theorem dX3_cellLine_20 : decode cX3_cellLine 20 = .ok (.aload_n 2, 1) := by decide +kernel
theorem dX3_cellLine_21 : decode cX3_cellLine 21 = .ok (.iload 5, 2) := by decide +kernel
theorem dX3_cellLine_23 : decode cX3_cellLine 23 = .ok (.aload_n 0, 1) := by decide +kernel
theorem dX3_cellLine_24 : decode cX3_cellLine 24 = .ok (.iload_n 3, 1) := by decide +kernel
theorem dX3_cellLine_25 : decode cX3_cellLine 25 = .ok (.iload 4, 2) := by decide +kernel
theorem dX3_cellLine_27 : decode cX3_cellLine 27 = .ok (.invokevirtual 107, 3) := by decide +kernel
theorem dX3_cellLine_30 : decode cX3_cellLine 30 = .ok (.invokestatic 111, 3) := by decide +kernel
theorem dX3_cellLine_33 : decode cX3_cellLine 33 = .ok (.pop, 1) := by decide +kernel
theorem dX3_cellLine_34 : decode cX3_cellLine 34 = .ok (.return_, 1) := by decide +kernel
theorem dX3_sideLine_0 : decode cX3_sideLine 0 = .ok (.aload_n 0, 1) := by decide +kernel
theorem dX3_sideLine_1 : decode cX3_sideLine 1 = .ok (.iconst 0, 1) := by decide +kernel
theorem dX3_sideLine_2 : decode cX3_sideLine 2 = .ok (.iconst 1, 1) := by decide +kernel
theorem dX3_sideLine_3 : decode cX3_sideLine 3 = .ok (.invokevirtual 107, 3) := by decide +kernel
theorem dX3_sideLine_6 : decode cX3_sideLine 6 = .ok (.istore_n 2, 1) := by decide +kernel
theorem dX3_sideLine_7 : decode cX3_sideLine 7 = .ok (.aload_n 0, 1) := by decide +kernel
theorem dX3_sideLine_8 : decode cX3_sideLine 8 = .ok (.iload_n 1, 1) := by decide +kernel
theorem dX3_sideLine_9 : decode cX3_sideLine 9 = .ok (.iload_n 2, 1) := by decide +kernel
theorem dX3_sideLine_10 : decode cX3_sideLine 10 = .ok (.invokevirtual 103, 3) := by decide +kernel
theorem dX3_sideLine_13 : decode cX3_sideLine 13 = .ok (.aload_n 0, 1) := by decide +kernel
theorem dX3_sideLine_14 : decode cX3_sideLine 14 = .ok (.getfield 21, 3) := by decide +kernel
theorem dX3_sideLine_17 : decode cX3_sideLine 17 = .ok (.iload_n 2, 1) := by decide +kernel
theorem dX3_sideLine_18 : decode cX3_sideLine 18 = .ok (.invokevirtual 115, 3) := by decide +kernel
theorem dX3_sideLine_21 : decode cX3_sideLine 21 = .ok (.astore_n 3, 1) := by decide +kernel
theorem dX3_sideLine_22 : decode cX3_sideLine 22 = .ok (.aload_n 3, 1) := by decide +kernel
theorem dX3_sideLine_23 : decode cX3_sideLine 23 = .ok (.aload_n 0, 1) := by decide +kernel
theorem dX3_sideLine_24 : decode cX3_sideLine 24 = .ok (.iconst 0, 1) := by decide +kernel
theorem dX3_sideLine_25 : decode cX3_sideLine 25 = .ok (.bipush 12, 2) := by decide +kernel
theorem dX3_sideLine_27 : decode cX3_sideLine 27 = .ok (.invokevirtual 107, 3) := by decide +kernel
theorem dX3_sideLine_30 : decode cX3_sideLine 30 = .ok (.putfield 119, 3) := by decide +kernel
theorem dX3_sideLine_33 : decode cX3_sideLine 33 = .ok (.aload_n 0, 1) := by decide +kernel
theorem dX3_sideLine_34 : decode cX3_sideLine 34 = .ok (.invokevirtual 54, 3) := by decide +kernel
theorem dX3_sideLine_37 : decode cX3_sideLine 37 = .ok (.aload_n 3, 1) := by decide +kernel
theorem dX3_sideLine_38 : decode cX3_sideLine 38 = .ok (.aload_n 0, 1) := by decide +kernel
theorem dX3_sideLine_39 : decode cX3_sideLine 39 = .ok (.getfield 12, 3) := by decide +kernel
theorem dX3_sideLine_42 : decode cX3_sideLine 42 = .ok (.ldc 124, 2) := by decide +kernel
theorem dX3_sideLine_44 : decode cX3_sideLine 44 = .ok (.invokevirtual 62, 3) := by decide +kernel
theorem dX3_sideLine_47 : decode cX3_sideLine 47 = .ok (.putfield 126, 3) := by decide +kernel
theorem dX3_sideLine_50 : decode cX3_sideLine 50 = .ok (.aload_n 3, 1) := by decide +kernel
theorem dX3_sideLine_51 : decode cX3_sideLine 51 = .ok (.getfield 126, 3) := by decide +kernel
theorem dX3_sideLine_54 : decode cX3_sideLine 54 = .ok (.ifCond .ge 8, 3) := by decide +kernel
theorem dX3_sideLine_57 : decode cX3_sideLine 57 = .ok (.aload_n 0, 1) := by decide +kernel
theorem dX3_sideLine_58 : decode cX3_sideLine 58 = .ok (.iconst 2, 1) := by decide +kernel
theorem dX3_sideLine_59 : decode cX3_sideLine 59 = .ok (.invokevirtual 100, 3) := by decide +kernel
theorem dX3_sideLine_62 : decode cX3_sideLine 62 = .ok (.aload_n 3, 1) := by decide +kernel
theorem dX3_sideLine_63 : decode cX3_sideLine 63 = .ok (.aload_n 0, 1) := by decide +kernel
theorem dX3_sideLine_64 : decode cX3_sideLine 64 = .ok (.iconst 0, 1) := by decide +kernel
theorem dX3_sideLine_65 : decode cX3_sideLine 65 = .ok (.bipush 12, 2) := by decide +kernel
theorem dX3_sideLine_67 : decode cX3_sideLine 67 = .ok (.invokevirtual 107, 3) := by decide +kernel
theorem dX3_sideLine_70 : decode cX3_sideLine 70 = .ok (.putfield 127, 3) := by decide +kernel
theorem dX3_sideLine_73 : decode cX3_sideLine 73 = .ok (.return_, 1) := by decide +kernel
theorem dX3_foolsLine_0 : decode cX3_foolsLine 0 = .ok (.aload_n 0, 1) := by decide +kernel
theorem dX3_foolsLine_1 : decode cX3_foolsLine 1 = .ok (.iconst 0, 1) := by decide +kernel
theorem dX3_foolsLine_2 : decode cX3_foolsLine 2 = .ok (.iconst 1, 1) := by decide +kernel
theorem dX3_foolsLine_3 : decode cX3_foolsLine 3 = .ok (.invokevirtual 107, 3) := by decide +kernel
theorem dX3_foolsLine_6 : decode cX3_foolsLine 6 = .ok (.istore_n 2, 1) := by decide +kernel
theorem dX3_foolsLine_7 : decode cX3_foolsLine 7 = .ok (.aload_n 0, 1) := by decide +kernel
theorem dX3_foolsLine_8 : decode cX3_foolsLine 8 = .ok (.iload_n 1, 1) := by decide +kernel
theorem dX3_foolsLine_9 : decode cX3_foolsLine 9 = .ok (.iload_n 2, 1) := by decide +kernel
theorem dX3_foolsLine_10 : decode cX3_foolsLine 10 = .ok (.invokevirtual 103, 3) := by decide +kernel
theorem dX3_foolsLine_13 : decode cX3_foolsLine 13 = .ok (.aload_n 0, 1) := by decide +kernel
theorem dX3_foolsLine_14 : decode cX3_foolsLine 14 = .ok (.getfield 21, 3) := by decide +kernel
theorem dX3_foolsLine_17 : decode cX3_foolsLine 17 = .ok (.iload_n 2, 1) := by decide +kernel
theorem dX3_foolsLine_18 : decode cX3_foolsLine 18 = .ok (.invokevirtual 115, 3) := by decide +kernel
theorem dX3_foolsLine_21 : decode cX3_foolsLine 21 = .ok (.aload_n 0, 1) := by decide +kernel
theorem dX3_foolsLine_22 : decode cX3_foolsLine 22 = .ok (.iconst 0, 1) := by decide +kernel
theorem dX3_foolsLine_23 : decode cX3_foolsLine 23 = .ok (.iconst 5, 1) := by decide +kernel
theorem dX3_foolsLine_24 : decode cX3_foolsLine 24 = .ok (.invokevirtual 107, 3) := by decide +kernel
theorem dX3_foolsLine_27 : decode cX3_foolsLine 27 = .ok (.putfield 129, 3) := by decide +kernel
theorem dX3_foolsLine_30 : decode cX3_foolsLine 30 = .ok (.return_, 1) := by decide +kernel
theorem dX3_noted_0 : decode cX3_noted 0 = .ok (.aload_n 0, 1) := by decide +kernel
theorem dX3_noted_1 : decode cX3_noted 1 = .ok (.aload_n 0, 1) := by decide +kernel
theorem dX3_noted_2 : decode cX3_noted 2 = .ok (.getfield 39, 3) := by decide +kernel
theorem dX3_noted_5 : decode cX3_noted 5 = .ok (.iload_n 1, 1) := by decide +kernel
theorem dX3_noted_6 : decode cX3_noted 6 = .ok (.invokestatic 132, 3) := by decide +kernel
theorem dX3_noted_9 : decode cX3_noted 9 = .ok (.putfield 39, 3) := by decide +kernel
theorem dX3_noted_12 : decode cX3_noted 12 = .ok (.iload_n 1, 1) := by decide +kernel
theorem dX3_noted_13 : decode cX3_noted 13 = .ok (.ireturn, 1) := by decide +kernel
theorem dX3_markSeen_0 : decode cX3_markSeen 0 = .ok (.iload_n 1, 1) := by decide +kernel
theorem dX3_markSeen_1 : decode cX3_markSeen 1 = .ok (.ifCond .lt 9, 3) := by decide +kernel
theorem dX3_markSeen_4 : decode cX3_markSeen 4 = .ok (.iload_n 1, 1) := by decide +kernel
theorem dX3_markSeen_5 : decode cX3_markSeen 5 = .ok (.bipush 9, 2) := by decide +kernel
theorem dX3_markSeen_7 : decode cX3_markSeen 7 = .ok (.if_icmp .lt 4, 3) := by decide +kernel
theorem dX3_markSeen_10 : decode cX3_markSeen 10 = .ok (.return_, 1) := by decide +kernel
theorem dX3_markSeen_11 : decode cX3_markSeen 11 = .ok (.aload_n 0, 1) := by decide +kernel
theorem dX3_markSeen_12 : decode cX3_markSeen 12 = .ok (.getfield 25, 3) := by decide +kernel
theorem dX3_markSeen_15 : decode cX3_markSeen 15 = .ok (.iload_n 1, 1) := by decide +kernel
theorem dX3_markSeen_16 : decode cX3_markSeen 16 = .ok (.iaload, 1) := by decide +kernel
theorem dX3_markSeen_17 : decode cX3_markSeen 17 = .ok (.iload_n 2, 1) := by decide +kernel
theorem dX3_markSeen_18 : decode cX3_markSeen 18 = .ok (.ishr, 1) := by decide +kernel
theorem dX3_markSeen_19 : decode cX3_markSeen 19 = .ok (.iconst 1, 1) := by decide +kernel
theorem dX3_markSeen_20 : decode cX3_markSeen 20 = .ok (.iand, 1) := by decide +kernel
theorem dX3_markSeen_21 : decode cX3_markSeen 21 = .ok (.ifCond .eq 8, 3) := by decide +kernel
theorem dX3_markSeen_24 : decode cX3_markSeen 24 = .ok (.aload_n 0, 1) := by decide +kernel
theorem dX3_markSeen_25 : decode cX3_markSeen 25 = .ok (.iconst 4, 1) := by decide +kernel
theorem dX3_markSeen_26 : decode cX3_markSeen 26 = .ok (.invokevirtual 100, 3) := by decide +kernel
theorem dX3_markSeen_29 : decode cX3_markSeen 29 = .ok (.aload_n 0, 1) := by decide +kernel
theorem dX3_markSeen_30 : decode cX3_markSeen 30 = .ok (.getfield 25, 3) := by decide +kernel
theorem dX3_markSeen_33 : decode cX3_markSeen 33 = .ok (.iload_n 1, 1) := by decide +kernel
theorem dX3_markSeen_34 : decode cX3_markSeen 34 = .ok (.dup2, 1) := by decide +kernel
theorem dX3_markSeen_35 : decode cX3_markSeen 35 = .ok (.iaload, 1) := by decide +kernel
theorem dX3_markSeen_36 : decode cX3_markSeen 36 = .ok (.iconst 1, 1) := by decide +kernel
theorem dX3_markSeen_37 : decode cX3_markSeen 37 = .ok (.iload_n 2, 1) := by decide +kernel
theorem dX3_markSeen_38 : decode cX3_markSeen 38 = .ok (.ishl, 1) := by decide +kernel
theorem dX3_markSeen_39 : decode cX3_markSeen 39 = .ok (.ior, 1) := by decide +kernel
theorem dX3_markSeen_40 : decode cX3_markSeen 40 = .ok (.iastore, 1) := by decide +kernel
theorem dX3_markSeen_41 : decode cX3_markSeen 41 = .ok (.return_, 1) := by decide +kernel
theorem dX3_number_0 : decode cX3_number 0 = .ok (.aload_n 0, 1) := by decide +kernel
theorem dX3_number_1 : decode cX3_number 1 = .ok (.invokevirtual 54, 3) := by decide +kernel
theorem dX3_number_4 : decode cX3_number 4 = .ok (.aload_n 0, 1) := by decide +kernel
theorem dX3_number_5 : decode cX3_number 5 = .ok (.getfield 12, 3) := by decide +kernel
theorem dX3_number_8 : decode cX3_number 8 = .ok (.getfield 57, 3) := by decide +kernel
theorem dX3_number_11 : decode cX3_number 11 = .ok (.iconst 2, 1) := by decide +kernel
theorem dX3_number_12 : decode cX3_number 12 = .ok (.if_icmp .eq 11, 3) := by decide +kernel
theorem dX3_number_15 : decode cX3_number 15 = .ok (.aload_n 0, 1) := by decide +kernel
theorem dX3_number_16 : decode cX3_number 16 = .ok (.iconst 2, 1) := by decide +kernel
theorem dX3_number_17 : decode cX3_number 17 = .ok (.invokevirtual 100, 3) := by decide +kernel
theorem dX3_number_20 : decode cX3_number 20 = .ok (.goto 30, 3) := by decide +kernel
theorem dX3_number_23 : decode cX3_number 23 = .ok (.aload_n 0, 1) := by decide +kernel
theorem dX3_number_24 : decode cX3_number 24 = .ok (.getfield 12, 3) := by decide +kernel
theorem dX3_number_27 : decode cX3_number 27 = .ok (.getfield 137, 3) := by decide +kernel
theorem dX3_number_30 : decode cX3_number 30 = .ok (.iload_n 1, 1) := by decide +kernel
theorem dX3_number_31 : decode cX3_number 31 = .ok (.if_icmp .lt 14, 3) := by decide +kernel
theorem dX3_number_34 : decode cX3_number 34 = .ok (.aload_n 0, 1) := by decide +kernel
theorem dX3_number_35 : decode cX3_number 35 = .ok (.getfield 12, 3) := by decide +kernel
theorem dX3_number_38 : decode cX3_number 38 = .ok (.getfield 137, 3) := by decide +kernel
theorem dX3_number_41 : decode cX3_number 41 = .ok (.iload_n 2, 1) := by decide +kernel
theorem dX3_number_42 : decode cX3_number 42 = .ok (.if_icmp .le 8, 3) := by decide +kernel
theorem dX3_number_45 : decode cX3_number 45 = .ok (.aload_n 0, 1) := by decide +kernel
theorem dX3_number_46 : decode cX3_number 46 = .ok (.iconst 3, 1) := by decide +kernel
theorem dX3_number_47 : decode cX3_number 47 = .ok (.invokevirtual 100, 3) := by decide +kernel
theorem dX3_number_50 : decode cX3_number 50 = .ok (.aload_n 0, 1) := by decide +kernel
theorem dX3_number_51 : decode cX3_number 51 = .ok (.getfield 42, 3) := by decide +kernel
theorem dX3_number_54 : decode cX3_number 54 = .ok (.ifCond .ne 13, 3) := by decide +kernel
theorem dX3_number_57 : decode cX3_number 57 = .ok (.aload_n 0, 1) := by decide +kernel
theorem dX3_number_58 : decode cX3_number 58 = .ok (.getfield 12, 3) := by decide +kernel
theorem dX3_number_61 : decode cX3_number 61 = .ok (.getfield 137, 3) := by decide +kernel
theorem dX3_number_64 : decode cX3_number 64 = .ok (.goto 4, 3) := by decide +kernel
theorem dX3_number_67 : decode cX3_number 67 = .ok (.iload_n 1, 1) := by decide +kernel
theorem dX3_number_68 : decode cX3_number 68 = .ok (.ireturn, 1) := by decide +kernel
theorem dX3_next_0 : decode cX3_next 0 = .ok (.aload_n 0, 1) := by decide +kernel
theorem dX3_next_1 : decode cX3_next 1 = .ok (.getfield 42, 3) := by decide +kernel
theorem dX3_next_4 : decode cX3_next 4 = .ok (.ifCond .ne 26, 3) := by decide +kernel
theorem dX3_next_7 : decode cX3_next 7 = .ok (.aload_n 0, 1) := by decide +kernel
theorem dX3_next_8 : decode cX3_next 8 = .ok (.getfield 12, 3) := by decide +kernel
theorem dX3_next_11 : decode cX3_next 11 = .ok (.invokevirtual 140, 3) := by decide +kernel
theorem dX3_next_14 : decode cX3_next 14 = .ok (.aload_n 0, 1) := by decide +kernel
theorem dX3_next_15 : decode cX3_next 15 = .ok (.getfield 12, 3) := by decide +kernel
theorem dX3_next_18 : decode cX3_next 18 = .ok (.getfield 57, 3) := by decide +kernel
theorem dX3_next_21 : decode cX3_next 21 = .ok (.iconst 4, 1) := by decide +kernel
theorem dX3_next_22 : decode cX3_next 22 = .ok (.if_icmp .ne 8, 3) := by decide +kernel
theorem dX3_next_25 : decode cX3_next 25 = .ok (.aload_n 0, 1) := by decide +kernel
theorem dX3_next_26 : decode cX3_next 26 = .ok (.iconst 1, 1) := by decide +kernel
theorem dX3_next_27 : decode cX3_next 27 = .ok (.invokevirtual 100, 3) := by decide +kernel
theorem dX3_next_30 : decode cX3_next 30 = .ok (.return_, 1) := by decide +kernel
theorem dX3_refuse_0 : decode cX3_refuse 0 = .ok (.aload_n 0, 1) := by decide +kernel
theorem dX3_refuse_1 : decode cX3_refuse 1 = .ok (.getfield 42, 3) := by decide +kernel
theorem dX3_refuse_4 : decode cX3_refuse 4 = .ok (.ifCond .ne 19, 3) := by decide +kernel
theorem dX3_refuse_7 : decode cX3_refuse 7 = .ok (.aload_n 0, 1) := by decide +kernel
theorem dX3_refuse_8 : decode cX3_refuse 8 = .ok (.iload_n 1, 1) := by decide +kernel
theorem dX3_refuse_9 : decode cX3_refuse 9 = .ok (.putfield 42, 3) := by decide +kernel
theorem dX3_refuse_12 : decode cX3_refuse 12 = .ok (.aload_n 0, 1) := by decide +kernel
theorem dX3_refuse_13 : decode cX3_refuse 13 = .ok (.aload_n 0, 1) := by decide +kernel
theorem dX3_refuse_14 : decode cX3_refuse 14 = .ok (.getfield 12, 3) := by decide +kernel
theorem dX3_refuse_17 : decode cX3_refuse 17 = .ok (.getfield 143, 3) := by decide +kernel
theorem dX3_refuse_20 : decode cX3_refuse 20 = .ok (.putfield 51, 3) := by decide +kernel
theorem dX3_refuse_23 : decode cX3_refuse 23 = .ok (.return_, 1) := by decide +kernel
theorem dX4_init_0 : decode cX4_init 0 = .ok (.aload_n 0, 1) := by decide +kernel
theorem dX4_init_1 : decode cX4_init 1 = .ok (.invokespecial 3, 3) := by decide +kernel
theorem dX4_init_4 : decode cX4_init 4 = .ok (.aload_n 0, 1) := by decide +kernel
theorem dX4_init_5 : decode cX4_init 5 = .ok (.new 9, 3) := by decide +kernel
theorem dX4_init_8 : decode cX4_init 8 = .ok (.dup, 1) := by decide +kernel
theorem dX4_init_9 : decode cX4_init 9 = .ok (.invokespecial 11, 3) := by decide +kernel
theorem dX4_init_12 : decode cX4_init 12 = .ok (.putfield 12, 3) := by decide +kernel
theorem dX4_init_15 : decode cX4_init 15 = .ok (.aload_n 0, 1) := by decide +kernel
theorem dX4_init_16 : decode cX4_init 16 = .ok (.iconst 4, 1) := by decide +kernel
theorem dX4_init_17 : decode cX4_init 17 = .ok (.newarray .int, 2) := by decide +kernel
theorem dX4_init_19 : decode cX4_init 19 = .ok (.putfield 18, 3) := by decide +kernel
theorem dX4_init_22 : decode cX4_init 22 = .ok (.aload_n 0, 1) := by decide +kernel
theorem dX4_init_23 : decode cX4_init 23 = .ok (.iconst 4, 1) := by decide +kernel
theorem dX4_init_24 : decode cX4_init 24 = .ok (.newarray .int, 2) := by decide +kernel
theorem dX4_init_26 : decode cX4_init 26 = .ok (.putfield 22, 3) := by decide +kernel
theorem dX4_init_29 : decode cX4_init 29 = .ok (.return_, 1) := by decide +kernel
theorem dX4_seek_0 : decode cX4_seek 0 = .ok (.aload_n 0, 1) := by decide +kernel
theorem dX4_seek_1 : decode cX4_seek 1 = .ok (.iload_n 2, 1) := by decide +kernel
theorem dX4_seek_2 : decode cX4_seek 2 = .ok (.putfield 25, 3) := by decide +kernel
theorem dX4_seek_5 : decode cX4_seek 5 = .ok (.aload_n 0, 1) := by decide +kernel
theorem dX4_seek_6 : decode cX4_seek 6 = .ok (.iload_n 3, 1) := by decide +kernel
theorem dX4_seek_7 : decode cX4_seek 7 = .ok (.putfield 29, 3) := by decide +kernel
theorem dX4_seek_10 : decode cX4_seek 10 = .ok (.aload_n 0, 1) := by decide +kernel
theorem dX4_seek_11 : decode cX4_seek 11 = .ok (.bipush 11, 2) := by decide +kernel
theorem dX4_seek_13 : decode cX4_seek 13 = .ok (.putfield 32, 3) := by decide +kernel
theorem dX4_seek_16 : decode cX4_seek 16 = .ok (.aload_n 0, 1) := by decide +kernel
theorem dX4_seek_17 : decode cX4_seek 17 = .ok (.getfield 12, 3) := by decide +kernel
theorem dX4_seek_20 : decode cX4_seek 20 = .ok (.iconst 0, 1) := by decide +kernel
theorem dX4_seek_21 : decode cX4_seek 21 = .ok (.invokevirtual 35, 3) := by decide +kernel
theorem dX4_seek_24 : decode cX4_seek 24 = .ok (.aload_n 1, 1) := by decide +kernel
theorem dX4_seek_25 : decode cX4_seek 25 = .ok (.invokevirtual 39, 3) := by decide +kernel
theorem dX4_seek_28 : decode cX4_seek 28 = .ok (.aload_n 0, 1) := by decide +kernel
theorem dX4_seek_29 : decode cX4_seek 29 = .ok (.iconst 0, 1) := by decide +kernel
theorem dX4_seek_30 : decode cX4_seek 30 = .ok (.invokestatic 45, 3) := by decide +kernel
theorem dX4_seek_33 : decode cX4_seek 33 = .ok (.return_, 1) := by decide +kernel
theorem dX4_search_0 : decode cX4_search 0 = .ok (.aload_n 0, 1) := by decide +kernel
theorem dX4_search_1 : decode cX4_search 1 = .ok (.getfield 12, 3) := by decide +kernel
theorem dX4_search_4 : decode cX4_search 4 = .ok (.iload_n 1, 1) := by decide +kernel
theorem dX4_search_5 : decode cX4_search 5 = .ok (.invokevirtual 35, 3) := by decide +kernel
theorem dX4_search_8 : decode cX4_search 8 = .ok (.astore_n 2, 1) := by decide +kernel
theorem dX4_search_9 : decode cX4_search 9 = .ok (.iload_n 1, 1) := by decide +kernel
theorem dX4_search_10 : decode cX4_search 10 = .ok (.aload_n 0, 1) := by decide +kernel
theorem dX4_search_11 : decode cX4_search 11 = .ok (.getfield 29, 3) := by decide +kernel
theorem dX4_search_14 : decode cX4_search 14 = .ok (.if_icmp .ge 8, 3) := by decide +kernel
theorem dX4_search_17 : decode cX4_search 17 = .ok (.iload_n 1, 1) := by decide +kernel
theorem dX4_search_18 : decode cX4_search 18 = .ok (.iconst 4, 1) := by decide +kernel
theorem dX4_search_19 : decode cX4_search 19 = .ok (.if_icmp .lt 9, 3) := by decide +kernel
theorem dX4_search_22 : decode cX4_search 22 = .ok (.aload_n 0, 1) := by decide +kernel
theorem dX4_search_23 : decode cX4_search 23 = .ok (.aload_n 2, 1) := by decide +kernel
theorem dX4_search_24 : decode cX4_search 24 = .ok (.invokevirtual 49, 3) := by decide +kernel
theorem dX4_search_27 : decode cX4_search 27 = .ok (.return_, 1) := by decide +kernel
theorem dX4_search_28 : decode cX4_search 28 = .ok (.aload_n 0, 1) := by decide +kernel
theorem dX4_search_29 : decode cX4_search 29 = .ok (.getfield 29, 3) := by decide +kernel
theorem dX4_search_32 : decode cX4_search 32 = .ok (.iload_n 1, 1) := by decide +kernel
theorem dX4_search_33 : decode cX4_search 33 = .ok (.isub, 1) := by decide +kernel
theorem dX4_search_34 : decode cX4_search 34 = .ok (.iconst 1, 1) := by decide +kernel
theorem dX4_search_35 : decode cX4_search 35 = .ok (.isub, 1) := by decide +kernel
theorem dX4_search_36 : decode cX4_search 36 = .ok (.istore_n 3, 1) := by decide +kernel
theorem dX4_search_37 : decode cX4_search 37 = .ok (.aload_n 2, 1) := by decide +kernel
theorem dX4_search_38 : decode cX4_search 38 = .ok (.invokevirtual 52, 3) := by decide +kernel
theorem dX4_search_41 : decode cX4_search 41 = .ok (.ifCond .eq 7, 3) := by decide +kernel
theorem dX4_search_44 : decode cX4_search 44 = .ok (.iconst 0, 1) := by decide +kernel
theorem dX4_search_45 : decode cX4_search 45 = .ok (.goto 14, 3) := by decide +kernel
theorem dX4_search_48 : decode cX4_search 48 = .ok (.aload_n 2, 1) := by decide +kernel
theorem dX4_search_49 : decode cX4_search 49 = .ok (.aload_n 0, 1) := by decide +kernel
theorem dX4_search_50 : decode cX4_search 50 = .ok (.getfield 25, 3) := by decide +kernel
theorem dX4_search_53 : decode cX4_search 53 = .ok (.invokevirtual 56, 3) := by decide +kernel
theorem dX4_search_56 : decode cX4_search 56 = .ok (.getfield 60, 3) := by decide +kernel
theorem dX4_search_59 : decode cX4_search 59 = .ok (.istore 4, 2) := by decide +kernel
theorem dX4_search_61 : decode cX4_search 61 = .ok (.aload_n 0, 1) := by decide +kernel
theorem dX4_search_62 : decode cX4_search 62 = .ok (.getfield 12, 3) := by decide +kernel
theorem dX4_search_65 : decode cX4_search 65 = .ok (.iload_n 1, 1) := by decide +kernel
theorem dX4_search_66 : decode cX4_search 66 = .ok (.iconst 1, 1) := by decide +kernel
theorem dX4_search_67 : decode cX4_search 67 = .ok (.iadd, 1) := by decide +kernel
theorem dX4_search_68 : decode cX4_search 68 = .ok (.invokevirtual 35, 3) := by decide +kernel
theorem dX4_search_71 : decode cX4_search 71 = .ok (.astore 5, 2) := by decide +kernel
theorem dX4_search_73 : decode cX4_search 73 = .ok (.iconst 0, 1) := by decide +kernel
theorem dX4_search_74 : decode cX4_search 74 = .ok (.istore 6, 2) := by decide +kernel
theorem dX4_search_76 : decode cX4_search 76 = .ok (.iload 6, 2) := by decide +kernel
theorem dX4_search_78 : decode cX4_search 78 = .ok (.iload 4, 2) := by decide +kernel
theorem dX4_search_80 : decode cX4_search 80 = .ok (.if_icmp .gt 58, 3) := by decide +kernel
theorem dX4_search_83 : decode cX4_search 83 = .ok (.aload_n 0, 1) := by decide +kernel
theorem dX4_search_84 : decode cX4_search 84 = .ok (.getfield 18, 3) := by decide +kernel
theorem dX4_search_87 : decode cX4_search 87 = .ok (.iload_n 1, 1) := by decide +kernel
theorem dX4_search_88 : decode cX4_search 88 = .ok (.iload 6, 2) := by decide +kernel
theorem dX4_search_90 : decode cX4_search 90 = .ok (.iastore, 1) := by decide +kernel
theorem dX4_search_91 : decode cX4_search 91 = .ok (.aload 5, 2) := by decide +kernel
theorem dX4_search_93 : decode cX4_search 93 = .ok (.aload_n 2, 1) := by decide +kernel
theorem dX4_search_94 : decode cX4_search 94 = .ok (.invokevirtual 39, 3) := by decide +kernel
theorem dX4_search_97 : decode cX4_search 97 = .ok (.aload 5, 2) := by decide +kernel
theorem dX4_search_99 : decode cX4_search 99 = .ok (.aload_n 0, 1) := by decide +kernel
theorem dX4_search_100 : decode cX4_search 100 = .ok (.getfield 25, 3) := by decide +kernel
theorem dX4_search_103 : decode cX4_search 103 = .ok (.iload 6, 2) := by decide +kernel
theorem dX4_search_105 : decode cX4_search 105 = .ok (.invokevirtual 65, 3) := by decide +kernel
theorem dX4_search_108 : decode cX4_search 108 = .ok (.aload 5, 2) := by decide +kernel
theorem dX4_search_110 : decode cX4_search 110 = .ok (.aload_n 0, 1) := by decide +kernel
theorem dX4_search_111 : decode cX4_search 111 = .ok (.getfield 25, 3) := by decide +kernel
theorem dX4_search_114 : decode cX4_search 114 = .ok (.iload_n 3, 1) := by decide +kernel
theorem dX4_search_115 : decode cX4_search 115 = .ok (.invokevirtual 69, 3) := by decide +kernel
theorem dX4_search_118 : decode cX4_search 118 = .ok (.aload_n 0, 1) := by decide +kernel
theorem dX4_search_119 : decode cX4_search 119 = .ok (.getfield 32, 3) := by decide +kernel
theorem dX4_search_122 : decode cX4_search 122 = .ok (.if_icmp .ge 10, 3) := by decide +kernel
theorem dX4_search_125 : decode cX4_search 125 = .ok (.aload_n 0, 1) := by decide +kernel
theorem dX4_search_126 : decode cX4_search 126 = .ok (.iload_n 1, 1) := by decide +kernel
theorem dX4_search_127 : decode cX4_search 127 = .ok (.iconst 1, 1) := by decide +kernel
theorem dX4_search_128 : decode cX4_search 128 = .ok (.iadd, 1) := by decide +kernel
theorem dX4_search_129 : decode cX4_search 129 = .ok (.invokestatic 45, 3) := by decide +kernel
theorem dX4_search_132 : decode cX4_search 132 = .ok (.iinc 6 1, 3) := by decide +kernel
theorem dX4_search_135 : decode cX4_search 135 = .ok (.goto (-59), 3) := by decide +kernel
theorem dX4_search_138 : decode cX4_search 138 = .ok (.return_, 1) := by decide +kernel
theorem dX4_take_0 : decode cX4_take 0 = .ok (.aload_n 0, 1) := by decide +kernel
theorem dX4_take_1 : decode cX4_take 1 = .ok (.aload_n 1, 1) := by decide +kernel
theorem dX4_take_2 : decode cX4_take 2 = .ok (.aload_n 0, 1) := by decide +kernel
theorem dX4_take_3 : decode cX4_take 3 = .ok (.getfield 25, 3) := by decide +kernel
theorem dX4_take_6 : decode cX4_take 6 = .ok (.invokevirtual 73, 3) := by decide +kernel
theorem dX4_take_9 : decode cX4_take 9 = .ok (.putfield 32, 3) := by decide +kernel
theorem dX4_take_12 : decode cX4_take 12 = .ok (.aload_n 0, 1) := by decide +kernel
theorem dX4_take_13 : decode cX4_take 13 = .ok (.aload_n 1, 1) := by decide +kernel
theorem dX4_take_14 : decode cX4_take 14 = .ok (.getfield 77, 3) := by decide +kernel
theorem dX4_take_17 : decode cX4_take 17 = .ok (.putfield 80, 3) := by decide +kernel
theorem dX4_take_20 : decode cX4_take 20 = .ok (.aload_n 0, 1) := by decide +kernel
theorem dX4_take_21 : decode cX4_take 21 = .ok (.getfield 18, 3) := by decide +kernel
theorem dX4_take_24 : decode cX4_take 24 = .ok (.iconst 0, 1) := by decide +kernel
theorem dX4_take_25 : decode cX4_take 25 = .ok (.aload_n 0, 1) := by decide +kernel
theorem dX4_take_26 : decode cX4_take 26 = .ok (.getfield 22, 3) := by decide +kernel
theorem dX4_take_29 : decode cX4_take 29 = .ok (.iconst 0, 1) := by decide +kernel
theorem dX4_take_30 : decode cX4_take 30 = .ok (.iconst 4, 1) := by decide +kernel
theorem dX4_take_31 : decode cX4_take 31 = .ok (.invokestatic 81, 3) := by decide +kernel
theorem dX4_take_34 : decode cX4_take 34 = .ok (.return_, 1) := by decide +kernel
theorem dX4_sentIn_0 : decode cX4_sentIn 0 = .ok (.iload_n 1, 1) := by decide +kernel
theorem dX4_sentIn_1 : decode cX4_sentIn 1 = .ok (.ifCond .lt 17, 3) := by decide +kernel
theorem dX4_sentIn_4 : decode cX4_sentIn 4 = .ok (.iload_n 1, 1) := by decide +kernel
theorem dX4_sentIn_5 : decode cX4_sentIn 5 = .ok (.iconst 4, 1) := by decide +kernel
theorem dX4_sentIn_6 : decode cX4_sentIn 6 = .ok (.if_icmp .ge 12, 3) := by decide +kernel
theorem dX4_sentIn_9 : decode cX4_sentIn 9 = .ok (.aload_n 0, 1) := by decide +kernel
theorem dX4_sentIn_10 : decode cX4_sentIn 10 = .ok (.getfield 22, 3) := by decide +kernel
theorem dX4_sentIn_13 : decode cX4_sentIn 13 = .ok (.iload_n 1, 1) := by decide +kernel
theorem dX4_sentIn_14 : decode cX4_sentIn 14 = .ok (.iaload, 1) := by decide +kernel
theorem dX4_sentIn_15 : decode cX4_sentIn 15 = .ok (.goto 4, 3) := by decide +kernel
theorem dX4_sentIn_18 : decode cX4_sentIn 18 = .ok (.iconst (-1), 1) := by decide +kernel
theorem dX4_sentIn_19 : decode cX4_sentIn 19 = .ok (.ireturn, 1) := by decide +kernel
theorem dX5_init_0 : decode cX5_init 0 = .ok (.aload_n 0, 1) := by decide +kernel
theorem dX5_init_1 : decode cX5_init 1 = .ok (.invokespecial 3, 3) := by decide +kernel
theorem dX5_init_4 : decode cX5_init 4 = .ok (.aload_n 0, 1) := by decide +kernel
theorem dX5_init_5 : decode cX5_init 5 = .ok (.iconst (-1), 1) := by decide +kernel
theorem dX5_init_6 : decode cX5_init 6 = .ok (.putfield 11, 3) := by decide +kernel
theorem dX5_init_9 : decode cX5_init 9 = .ok (.aload_n 0, 1) := by decide +kernel
theorem dX5_init_10 : decode cX5_init 10 = .ok (.bipush 40, 2) := by decide +kernel
theorem dX5_init_12 : decode cX5_init 12 = .ok (.newarray .int, 2) := by decide +kernel
theorem dX5_init_14 : decode cX5_init 14 = .ok (.putfield 15, 3) := by decide +kernel
theorem dX5_init_17 : decode cX5_init 17 = .ok (.return_, 1) := by decide +kernel
theorem dX5_renew_0 : decode cX5_renew 0 = .ok (.aload_n 0, 1) := by decide +kernel
theorem dX5_renew_1 : decode cX5_renew 1 = .ok (.iload_n 1, 1) := by decide +kernel
theorem dX5_renew_2 : decode cX5_renew 2 = .ok (.putfield 11, 3) := by decide +kernel
theorem dX5_renew_5 : decode cX5_renew 5 = .ok (.aload_n 0, 1) := by decide +kernel
theorem dX5_renew_6 : decode cX5_renew 6 = .ok (.iconst 0, 1) := by decide +kernel
theorem dX5_renew_7 : decode cX5_renew 7 = .ok (.iload_n 2, 1) := by decide +kernel
theorem dX5_renew_8 : decode cX5_renew 8 = .ok (.bipush 40, 2) := by decide +kernel
theorem dX5_renew_10 : decode cX5_renew 10 = .ok (.invokestatic 19, 3) := by decide +kernel
theorem dX5_renew_13 : decode cX5_renew 13 = .ok (.invokestatic 25, 3) := by decide +kernel
theorem dX5_renew_16 : decode cX5_renew 16 = .ok (.putfield 28, 3) := by decide +kernel
theorem dX5_renew_19 : decode cX5_renew 19 = .ok (.iconst 0, 1) := by decide +kernel
theorem dX5_renew_20 : decode cX5_renew 20 = .ok (.istore_n 3, 1) := by decide +kernel
theorem dX5_renew_21 : decode cX5_renew 21 = .ok (.iload_n 3, 1) := by decide +kernel
theorem dX5_renew_22 : decode cX5_renew 22 = .ok (.bipush 40, 2) := by decide +kernel
theorem dX5_renew_24 : decode cX5_renew 24 = .ok (.if_icmp .ge 16, 3) := by decide +kernel
theorem dX5_renew_27 : decode cX5_renew 27 = .ok (.aload_n 0, 1) := by decide +kernel
theorem dX5_renew_28 : decode cX5_renew 28 = .ok (.getfield 15, 3) := by decide +kernel
theorem dX5_renew_31 : decode cX5_renew 31 = .ok (.iload_n 3, 1) := by decide +kernel
theorem dX5_renew_32 : decode cX5_renew 32 = .ok (.iconst 0, 1) := by decide +kernel
theorem dX5_renew_33 : decode cX5_renew 33 = .ok (.iastore, 1) := by decide +kernel
theorem dX5_renew_34 : decode cX5_renew 34 = .ok (.iinc 3 1, 3) := by decide +kernel
theorem dX5_renew_37 : decode cX5_renew 37 = .ok (.goto (-16), 3) := by decide +kernel
theorem dX5_renew_40 : decode cX5_renew 40 = .ok (.return_, 1) := by decide +kernel
theorem dX5_faultOf_0 : decode cX5_faultOf 0 = .ok (.aload_n 0, 1) := by decide +kernel
theorem dX5_faultOf_1 : decode cX5_faultOf 1 = .ok (.getfield 11, 3) := by decide +kernel
theorem dX5_faultOf_4 : decode cX5_faultOf 4 = .ok (.iconst (-1), 1) := by decide +kernel
theorem dX5_faultOf_5 : decode cX5_faultOf 5 = .ok (.if_icmp .ne 5, 3) := by decide +kernel
theorem dX5_faultOf_8 : decode cX5_faultOf 8 = .ok (.iconst 1, 1) := by decide +kernel
theorem dX5_faultOf_9 : decode cX5_faultOf 9 = .ok (.ireturn, 1) := by decide +kernel
theorem dX5_faultOf_10 : decode cX5_faultOf 10 = .ok (.aload_n 0, 1) := by decide +kernel
theorem dX5_faultOf_11 : decode cX5_faultOf 11 = .ok (.getfield 11, 3) := by decide +kernel
theorem dX5_faultOf_14 : decode cX5_faultOf 14 = .ok (.iload_n 1, 1) := by decide +kernel
theorem dX5_faultOf_15 : decode cX5_faultOf 15 = .ok (.if_icmp .eq 5, 3) := by decide +kernel
theorem dX5_faultOf_18 : decode cX5_faultOf 18 = .ok (.iconst 3, 1) := by decide +kernel
theorem dX5_faultOf_19 : decode cX5_faultOf 19 = .ok (.ireturn, 1) := by decide +kernel
theorem dX5_faultOf_20 : decode cX5_faultOf 20 = .ok (.iload_n 2, 1) := by decide +kernel
theorem dX5_faultOf_21 : decode cX5_faultOf 21 = .ok (.ifCond .lt 13, 3) := by decide +kernel
theorem dX5_faultOf_24 : decode cX5_faultOf 24 = .ok (.iload_n 2, 1) := by decide +kernel
theorem dX5_faultOf_25 : decode cX5_faultOf 25 = .ok (.aload_n 0, 1) := by decide +kernel
theorem dX5_faultOf_26 : decode cX5_faultOf 26 = .ok (.getfield 28, 3) := by decide +kernel
theorem dX5_faultOf_29 : decode cX5_faultOf 29 = .ok (.iload_n 3, 1) := by decide +kernel
theorem dX5_faultOf_30 : decode cX5_faultOf 30 = .ok (.isub, 1) := by decide +kernel
theorem dX5_faultOf_31 : decode cX5_faultOf 31 = .ok (.if_icmp .le 7, 3) := by decide +kernel
theorem dX5_faultOf_34 : decode cX5_faultOf 34 = .ok (.iconst 2, 1) := by decide +kernel
theorem dX5_faultOf_35 : decode cX5_faultOf 35 = .ok (.goto 4, 3) := by decide +kernel
theorem dX5_faultOf_38 : decode cX5_faultOf 38 = .ok (.iconst 0, 1) := by decide +kernel
theorem dX5_faultOf_39 : decode cX5_faultOf 39 = .ok (.ireturn, 1) := by decide +kernel
theorem dX5_write_0 : decode cX5_write 0 = .ok (.iload_n 1, 1) := by decide +kernel
theorem dX5_write_1 : decode cX5_write 1 = .ok (.ifCond .lt 28, 3) := by decide +kernel
theorem dX5_write_4 : decode cX5_write 4 = .ok (.iload_n 1, 1) := by decide +kernel
theorem dX5_write_5 : decode cX5_write 5 = .ok (.aload_n 0, 1) := by decide +kernel
theorem dX5_write_6 : decode cX5_write 6 = .ok (.getfield 28, 3) := by decide +kernel
theorem dX5_write_9 : decode cX5_write 9 = .ok (.if_icmp .ge 20, 3) := by decide +kernel
theorem dX5_write_12 : decode cX5_write 12 = .ok (.iload_n 1, 1) := by decide +kernel
theorem dX5_write_13 : decode cX5_write 13 = .ok (.bipush 40, 2) := by decide +kernel
theorem dX5_write_15 : decode cX5_write 15 = .ok (.if_icmp .ge 14, 3) := by decide +kernel
theorem dX5_write_18 : decode cX5_write 18 = .ok (.aload_n 0, 1) := by decide +kernel
theorem dX5_write_19 : decode cX5_write 19 = .ok (.getfield 15, 3) := by decide +kernel
theorem dX5_write_22 : decode cX5_write 22 = .ok (.iload_n 1, 1) := by decide +kernel
theorem dX5_write_23 : decode cX5_write 23 = .ok (.aload_n 0, 1) := by decide +kernel
theorem dX5_write_24 : decode cX5_write 24 = .ok (.iload_n 2, 1) := by decide +kernel
theorem dX5_write_25 : decode cX5_write 25 = .ok (.invokevirtual 31, 3) := by decide +kernel
theorem dX5_write_28 : decode cX5_write 28 = .ok (.iastore, 1) := by decide +kernel
theorem dX5_write_29 : decode cX5_write 29 = .ok (.return_, 1) := by decide +kernel
theorem dX5_lowestBits_0 : decode cX5_lowestBits 0 = .ok (.aload_n 0, 1) := by decide +kernel
theorem dX5_lowestBits_1 : decode cX5_lowestBits 1 = .ok (.getfield 11, 3) := by decide +kernel
theorem dX5_lowestBits_4 : decode cX5_lowestBits 4 = .ok (.lookupswitch 34 #[(0, 28), (1, 31)], 28) := by decide +kernel
theorem dX5_lowestBits_32 : decode cX5_lowestBits 32 = .ok (.iload_n 1, 1) := by decide +kernel
theorem dX5_lowestBits_33 : decode cX5_lowestBits 33 = .ok (.i2b, 1) := by decide +kernel
theorem dX5_lowestBits_34 : decode cX5_lowestBits 34 = .ok (.ireturn, 1) := by decide +kernel
theorem dX5_lowestBits_35 : decode cX5_lowestBits 35 = .ok (.iload_n 1, 1) := by decide +kernel
theorem dX5_lowestBits_36 : decode cX5_lowestBits 36 = .ok (.i2s, 1) := by decide +kernel
theorem dX5_lowestBits_37 : decode cX5_lowestBits 37 = .ok (.ireturn, 1) := by decide +kernel
theorem dX5_lowestBits_38 : decode cX5_lowestBits 38 = .ok (.iload_n 1, 1) := by decide +kernel
theorem dX5_lowestBits_39 : decode cX5_lowestBits 39 = .ok (.ireturn, 1) := by decide +kernel
theorem dX5_valueAt_0 : decode cX5_valueAt 0 = .ok (.iload_n 1, 1) := by decide +kernel
theorem dX5_valueAt_1 : decode cX5_valueAt 1 = .ok (.ifCond .lt 26, 3) := by decide +kernel
theorem dX5_valueAt_4 : decode cX5_valueAt 4 = .ok (.iload_n 1, 1) := by decide +kernel
theorem dX5_valueAt_5 : decode cX5_valueAt 5 = .ok (.aload_n 0, 1) := by decide +kernel
theorem dX5_valueAt_6 : decode cX5_valueAt 6 = .ok (.getfield 28, 3) := by decide +kernel
theorem dX5_valueAt_9 : decode cX5_valueAt 9 = .ok (.if_icmp .ge 18, 3) := by decide +kernel
theorem dX5_valueAt_12 : decode cX5_valueAt 12 = .ok (.iload_n 1, 1) := by decide +kernel
theorem dX5_valueAt_13 : decode cX5_valueAt 13 = .ok (.bipush 40, 2) := by decide +kernel
theorem dX5_valueAt_15 : decode cX5_valueAt 15 = .ok (.if_icmp .ge 12, 3) := by decide +kernel
theorem dX5_valueAt_18 : decode cX5_valueAt 18 = .ok (.aload_n 0, 1) := by decide +kernel
theorem dX5_valueAt_19 : decode cX5_valueAt 19 = .ok (.getfield 15, 3) := by decide +kernel
theorem dX5_valueAt_22 : decode cX5_valueAt 22 = .ok (.iload_n 1, 1) := by decide +kernel
theorem dX5_valueAt_23 : decode cX5_valueAt 23 = .ok (.iaload, 1) := by decide +kernel
theorem dX5_valueAt_24 : decode cX5_valueAt 24 = .ok (.goto 4, 3) := by decide +kernel
theorem dX5_valueAt_27 : decode cX5_valueAt 27 = .ok (.iconst 0, 1) := by decide +kernel
theorem dX5_valueAt_28 : decode cX5_valueAt 28 = .ok (.ireturn, 1) := by decide +kernel
theorem dX6_init_0 : decode cX6_init 0 = .ok (.aload_n 0, 1) := by decide +kernel
theorem dX6_init_1 : decode cX6_init 1 = .ok (.invokespecial 3, 3) := by decide +kernel
theorem dX6_init_4 : decode cX6_init 4 = .ok (.aload_n 0, 1) := by decide +kernel
theorem dX6_init_5 : decode cX6_init 5 = .ok (.iconst 5, 1) := by decide +kernel
theorem dX6_init_6 : decode cX6_init 6 = .ok (.newarray .int, 2) := by decide +kernel
theorem dX6_init_8 : decode cX6_init 8 = .ok (.putfield 9, 3) := by decide +kernel
theorem dX6_init_11 : decode cX6_init 11 = .ok (.return_, 1) := by decide +kernel
theorem dX6_clear_0 : decode cX6_clear 0 = .ok (.aload_n 0, 1) := by decide +kernel
theorem dX6_clear_1 : decode cX6_clear 1 = .ok (.iconst 0, 1) := by decide +kernel
theorem dX6_clear_2 : decode cX6_clear 2 = .ok (.putfield 15, 3) := by decide +kernel
theorem dX6_clear_5 : decode cX6_clear 5 = .ok (.iconst 0, 1) := by decide +kernel
theorem dX6_clear_6 : decode cX6_clear 6 = .ok (.istore_n 1, 1) := by decide +kernel
theorem dX6_clear_7 : decode cX6_clear 7 = .ok (.iload_n 1, 1) := by decide +kernel
theorem dX6_clear_8 : decode cX6_clear 8 = .ok (.iconst 4, 1) := by decide +kernel
theorem dX6_clear_9 : decode cX6_clear 9 = .ok (.if_icmp .gt 16, 3) := by decide +kernel
theorem dX6_clear_12 : decode cX6_clear 12 = .ok (.aload_n 0, 1) := by decide +kernel
theorem dX6_clear_13 : decode cX6_clear 13 = .ok (.getfield 9, 3) := by decide +kernel
theorem dX6_clear_16 : decode cX6_clear 16 = .ok (.iload_n 1, 1) := by decide +kernel
theorem dX6_clear_17 : decode cX6_clear 17 = .ok (.iconst 0, 1) := by decide +kernel
theorem dX6_clear_18 : decode cX6_clear 18 = .ok (.iastore, 1) := by decide +kernel
theorem dX6_clear_19 : decode cX6_clear 19 = .ok (.iinc 1 1, 3) := by decide +kernel
theorem dX6_clear_22 : decode cX6_clear 22 = .ok (.goto (-15), 3) := by decide +kernel
theorem dX6_clear_25 : decode cX6_clear 25 = .ok (.aload_n 0, 1) := by decide +kernel
theorem dX6_clear_26 : decode cX6_clear 26 = .ok (.iconst 0, 1) := by decide +kernel
theorem dX6_clear_27 : decode cX6_clear 27 = .ok (.putfield 19, 3) := by decide +kernel
theorem dX6_clear_30 : decode cX6_clear 30 = .ok (.aload_n 0, 1) := by decide +kernel
theorem dX6_clear_31 : decode cX6_clear 31 = .ok (.iconst 0, 1) := by decide +kernel
theorem dX6_clear_32 : decode cX6_clear 32 = .ok (.putfield 22, 3) := by decide +kernel
theorem dX6_clear_35 : decode cX6_clear 35 = .ok (.aload_n 0, 1) := by decide +kernel
theorem dX6_clear_36 : decode cX6_clear 36 = .ok (.iconst 0, 1) := by decide +kernel
theorem dX6_clear_37 : decode cX6_clear 37 = .ok (.putfield 25, 3) := by decide +kernel
theorem dX6_clear_40 : decode cX6_clear 40 = .ok (.return_, 1) := by decide +kernel
theorem dX6_copyOf_0 : decode cX6_copyOf 0 = .ok (.aload_n 0, 1) := by decide +kernel
theorem dX6_copyOf_1 : decode cX6_copyOf 1 = .ok (.aload_n 1, 1) := by decide +kernel
theorem dX6_copyOf_2 : decode cX6_copyOf 2 = .ok (.getfield 15, 3) := by decide +kernel
theorem dX6_copyOf_5 : decode cX6_copyOf 5 = .ok (.putfield 15, 3) := by decide +kernel
theorem dX6_copyOf_8 : decode cX6_copyOf 8 = .ok (.iconst 0, 1) := by decide +kernel
theorem dX6_copyOf_9 : decode cX6_copyOf 9 = .ok (.istore_n 2, 1) := by decide +kernel
theorem dX6_copyOf_10 : decode cX6_copyOf 10 = .ok (.iload_n 2, 1) := by decide +kernel
theorem dX6_copyOf_11 : decode cX6_copyOf 11 = .ok (.iconst 4, 1) := by decide +kernel
theorem dX6_copyOf_12 : decode cX6_copyOf 12 = .ok (.if_icmp .gt 21, 3) := by decide +kernel
theorem dX6_copyOf_15 : decode cX6_copyOf 15 = .ok (.aload_n 0, 1) := by decide +kernel
theorem dX6_copyOf_16 : decode cX6_copyOf 16 = .ok (.getfield 9, 3) := by decide +kernel
theorem dX6_copyOf_19 : decode cX6_copyOf 19 = .ok (.iload_n 2, 1) := by decide +kernel
theorem dX6_copyOf_20 : decode cX6_copyOf 20 = .ok (.aload_n 1, 1) := by decide +kernel
theorem dX6_copyOf_21 : decode cX6_copyOf 21 = .ok (.getfield 9, 3) := by decide +kernel
theorem dX6_copyOf_24 : decode cX6_copyOf 24 = .ok (.iload_n 2, 1) := by decide +kernel
theorem dX6_copyOf_25 : decode cX6_copyOf 25 = .ok (.iaload, 1) := by decide +kernel
theorem dX6_copyOf_26 : decode cX6_copyOf 26 = .ok (.iastore, 1) := by decide +kernel
theorem dX6_copyOf_27 : decode cX6_copyOf 27 = .ok (.iinc 2 1, 3) := by decide +kernel
theorem dX6_copyOf_30 : decode cX6_copyOf 30 = .ok (.goto (-20), 3) := by decide +kernel
theorem dX6_copyOf_33 : decode cX6_copyOf 33 = .ok (.aload_n 0, 1) := by decide +kernel
theorem dX6_copyOf_34 : decode cX6_copyOf 34 = .ok (.aload_n 1, 1) := by decide +kernel
theorem dX6_copyOf_35 : decode cX6_copyOf 35 = .ok (.getfield 19, 3) := by decide +kernel
theorem dX6_copyOf_38 : decode cX6_copyOf 38 = .ok (.putfield 19, 3) := by decide +kernel
theorem dX6_copyOf_41 : decode cX6_copyOf 41 = .ok (.aload_n 0, 1) := by decide +kernel
theorem dX6_copyOf_42 : decode cX6_copyOf 42 = .ok (.aload_n 1, 1) := by decide +kernel
theorem dX6_copyOf_43 : decode cX6_copyOf 43 = .ok (.getfield 22, 3) := by decide +kernel
theorem dX6_copyOf_46 : decode cX6_copyOf 46 = .ok (.putfield 22, 3) := by decide +kernel
theorem dX6_copyOf_49 : decode cX6_copyOf 49 = .ok (.aload_n 0, 1) := by decide +kernel
theorem dX6_copyOf_50 : decode cX6_copyOf 50 = .ok (.aload_n 1, 1) := by decide +kernel
theorem dX6_copyOf_51 : decode cX6_copyOf 51 = .ok (.getfield 25, 3) := by decide +kernel
theorem dX6_copyOf_54 : decode cX6_copyOf 54 = .ok (.putfield 25, 3) := by decide +kernel
theorem dX6_copyOf_57 : decode cX6_copyOf 57 = .ok (.return_, 1) := by decide +kernel
theorem dX6_answer_0 : decode cX6_answer 0 = .ok (.iload_n 1, 1) := by decide +kernel
theorem dX6_answer_1 : decode cX6_answer 1 = .ok (.iconst 1, 1) := by decide +kernel
theorem dX6_answer_2 : decode cX6_answer 2 = .ok (.iconst 4, 1) := by decide +kernel
theorem dX6_answer_3 : decode cX6_answer 3 = .ok (.invokestatic 28, 3) := by decide +kernel
theorem dX6_answer_6 : decode cX6_answer 6 = .ok (.ifCond .eq 10, 3) := by decide +kernel
theorem dX6_answer_9 : decode cX6_answer 9 = .ok (.aload_n 0, 1) := by decide +kernel
theorem dX6_answer_10 : decode cX6_answer 10 = .ok (.getfield 9, 3) := by decide +kernel
theorem dX6_answer_13 : decode cX6_answer 13 = .ok (.iload_n 1, 1) := by decide +kernel
theorem dX6_answer_14 : decode cX6_answer 14 = .ok (.iaload, 1) := by decide +kernel
theorem dX6_answer_15 : decode cX6_answer 15 = .ok (.ireturn, 1) := by decide +kernel
theorem dX6_answer_16 : decode cX6_answer 16 = .ok (.iload_n 1, 1) := by decide +kernel
theorem dX6_answer_17 : decode cX6_answer 17 = .ok (.tableswitch 67 0 7 #[47, 67, 67, 67, 67, 52, 57, 62], 47) := by decide +kernel
theorem dX6_answer_64 : decode cX6_answer 64 = .ok (.aload_n 0, 1) := by decide +kernel
theorem dX6_answer_65 : decode cX6_answer 65 = .ok (.getfield 15, 3) := by decide +kernel
theorem dX6_answer_68 : decode cX6_answer 68 = .ok (.ireturn, 1) := by decide +kernel
theorem dX6_answer_69 : decode cX6_answer 69 = .ok (.aload_n 0, 1) := by decide +kernel
theorem dX6_answer_70 : decode cX6_answer 70 = .ok (.getfield 19, 3) := by decide +kernel
theorem dX6_answer_73 : decode cX6_answer 73 = .ok (.ireturn, 1) := by decide +kernel
theorem dX6_answer_74 : decode cX6_answer 74 = .ok (.aload_n 0, 1) := by decide +kernel
theorem dX6_answer_75 : decode cX6_answer 75 = .ok (.getfield 22, 3) := by decide +kernel
theorem dX6_answer_78 : decode cX6_answer 78 = .ok (.ireturn, 1) := by decide +kernel
theorem dX6_answer_79 : decode cX6_answer 79 = .ok (.aload_n 0, 1) := by decide +kernel
theorem dX6_answer_80 : decode cX6_answer 80 = .ok (.getfield 25, 3) := by decide +kernel
theorem dX6_answer_83 : decode cX6_answer 83 = .ok (.ireturn, 1) := by decide +kernel
theorem dX6_answer_84 : decode cX6_answer 84 = .ok (.iconst (-1), 1) := by decide +kernel
theorem dX6_answer_85 : decode cX6_answer 85 = .ok (.ireturn, 1) := by decide +kernel
theorem dX6_allResting_0 : decode cX6_allResting 0 = .ok (.iconst 0, 1) := by decide +kernel
theorem dX6_allResting_1 : decode cX6_allResting 1 = .ok (.istore_n 1, 1) := by decide +kernel
theorem dX6_allResting_2 : decode cX6_allResting 2 = .ok (.iconst 1, 1) := by decide +kernel
theorem dX6_allResting_3 : decode cX6_allResting 3 = .ok (.istore_n 2, 1) := by decide +kernel
theorem dX6_allResting_4 : decode cX6_allResting 4 = .ok (.iload_n 2, 1) := by decide +kernel
theorem dX6_allResting_5 : decode cX6_allResting 5 = .ok (.iconst 4, 1) := by decide +kernel
theorem dX6_allResting_6 : decode cX6_allResting 6 = .ok (.if_icmp .gt 18, 3) := by decide +kernel
theorem dX6_allResting_9 : decode cX6_allResting 9 = .ok (.iload_n 1, 1) := by decide +kernel
theorem dX6_allResting_10 : decode cX6_allResting 10 = .ok (.aload_n 0, 1) := by decide +kernel
theorem dX6_allResting_11 : decode cX6_allResting 11 = .ok (.getfield 9, 3) := by decide +kernel
theorem dX6_allResting_14 : decode cX6_allResting 14 = .ok (.iload_n 2, 1) := by decide +kernel
theorem dX6_allResting_15 : decode cX6_allResting 15 = .ok (.iaload, 1) := by decide +kernel
theorem dX6_allResting_16 : decode cX6_allResting 16 = .ok (.iadd, 1) := by decide +kernel
theorem dX6_allResting_17 : decode cX6_allResting 17 = .ok (.istore_n 1, 1) := by decide +kernel
theorem dX6_allResting_18 : decode cX6_allResting 18 = .ok (.iinc 2 1, 3) := by decide +kernel
theorem dX6_allResting_21 : decode cX6_allResting 21 = .ok (.goto (-17), 3) := by decide +kernel
theorem dX6_allResting_24 : decode cX6_allResting 24 = .ok (.iload_n 1, 1) := by decide +kernel
theorem dX6_allResting_25 : decode cX6_allResting 25 = .ok (.ireturn, 1) := by decide +kernel
theorem dX6_allMen_0 : decode cX6_allMen 0 = .ok (.aload_n 0, 1) := by decide +kernel
theorem dX6_allMen_1 : decode cX6_allMen 1 = .ok (.getfield 15, 3) := by decide +kernel
theorem dX6_allMen_4 : decode cX6_allMen 4 = .ok (.aload_n 0, 1) := by decide +kernel
theorem dX6_allMen_5 : decode cX6_allMen 5 = .ok (.invokevirtual 32, 3) := by decide +kernel
theorem dX6_allMen_8 : decode cX6_allMen 8 = .ok (.iadd, 1) := by decide +kernel
theorem dX6_allMen_9 : decode cX6_allMen 9 = .ok (.ireturn, 1) := by decide +kernel
theorem dX6_pushOf_0 : decode cX6_pushOf 0 = .ok (.iconst 0, 1) := by decide +kernel
theorem dX6_pushOf_1 : decode cX6_pushOf 1 = .ok (.iload_n 1, 1) := by decide +kernel
theorem dX6_pushOf_2 : decode cX6_pushOf 2 = .ok (.iload_n 2, 1) := by decide +kernel
theorem dX6_pushOf_3 : decode cX6_pushOf 3 = .ok (.invokestatic 36, 3) := by decide +kernel
theorem dX6_pushOf_6 : decode cX6_pushOf 6 = .ok (.aload_n 0, 1) := by decide +kernel
theorem dX6_pushOf_7 : decode cX6_pushOf 7 = .ok (.getfield 19, 3) := by decide +kernel
theorem dX6_pushOf_10 : decode cX6_pushOf 10 = .ok (.isub, 1) := by decide +kernel
theorem dX6_pushOf_11 : decode cX6_pushOf 11 = .ok (.invokestatic 42, 3) := by decide +kernel
theorem dX6_pushOf_14 : decode cX6_pushOf 14 = .ok (.ireturn, 1) := by decide +kernel
theorem dX6_tire_0 : decode cX6_tire 0 = .ok (.aload_n 0, 1) := by decide +kernel
theorem dX6_tire_1 : decode cX6_tire 1 = .ok (.dup, 1) := by decide +kernel
theorem dX6_tire_2 : decode cX6_tire 2 = .ok (.getfield 15, 3) := by decide +kernel
theorem dX6_tire_5 : decode cX6_tire 5 = .ok (.aload_n 0, 1) := by decide +kernel
theorem dX6_tire_6 : decode cX6_tire 6 = .ok (.getfield 9, 3) := by decide +kernel
theorem dX6_tire_9 : decode cX6_tire 9 = .ok (.iconst 1, 1) := by decide +kernel
theorem dX6_tire_10 : decode cX6_tire 10 = .ok (.iaload, 1) := by decide +kernel
theorem dX6_tire_11 : decode cX6_tire 11 = .ok (.iload_n 1, 1) := by decide +kernel
theorem dX6_tire_12 : decode cX6_tire 12 = .ok (.isub, 1) := by decide +kernel
theorem dX6_tire_13 : decode cX6_tire 13 = .ok (.iadd, 1) := by decide +kernel
theorem dX6_tire_14 : decode cX6_tire 14 = .ok (.putfield 15, 3) := by decide +kernel
theorem dX6_tire_17 : decode cX6_tire 17 = .ok (.iconst 1, 1) := by decide +kernel
theorem dX6_tire_18 : decode cX6_tire 18 = .ok (.istore_n 3, 1) := by decide +kernel
theorem dX6_tire_19 : decode cX6_tire 19 = .ok (.iload_n 3, 1) := by decide +kernel
theorem dX6_tire_20 : decode cX6_tire 20 = .ok (.iconst 4, 1) := by decide +kernel
theorem dX6_tire_21 : decode cX6_tire 21 = .ok (.if_icmp .ge 23, 3) := by decide +kernel
theorem dX6_tire_24 : decode cX6_tire 24 = .ok (.aload_n 0, 1) := by decide +kernel
theorem dX6_tire_25 : decode cX6_tire 25 = .ok (.getfield 9, 3) := by decide +kernel
theorem dX6_tire_28 : decode cX6_tire 28 = .ok (.iload_n 3, 1) := by decide +kernel
theorem dX6_tire_29 : decode cX6_tire 29 = .ok (.aload_n 0, 1) := by decide +kernel
theorem dX6_tire_30 : decode cX6_tire 30 = .ok (.getfield 9, 3) := by decide +kernel
theorem dX6_tire_33 : decode cX6_tire 33 = .ok (.iload_n 3, 1) := by decide +kernel
theorem dX6_tire_34 : decode cX6_tire 34 = .ok (.iconst 1, 1) := by decide +kernel
theorem dX6_tire_35 : decode cX6_tire 35 = .ok (.iadd, 1) := by decide +kernel
theorem dX6_tire_36 : decode cX6_tire 36 = .ok (.iaload, 1) := by decide +kernel
theorem dX6_tire_37 : decode cX6_tire 37 = .ok (.iastore, 1) := by decide +kernel
theorem dX6_tire_38 : decode cX6_tire 38 = .ok (.iinc 3 1, 3) := by decide +kernel
theorem dX6_tire_41 : decode cX6_tire 41 = .ok (.goto (-22), 3) := by decide +kernel
theorem dX6_tire_44 : decode cX6_tire 44 = .ok (.aload_n 0, 1) := by decide +kernel
theorem dX6_tire_45 : decode cX6_tire 45 = .ok (.getfield 9, 3) := by decide +kernel
theorem dX6_tire_48 : decode cX6_tire 48 = .ok (.iconst 4, 1) := by decide +kernel
theorem dX6_tire_49 : decode cX6_tire 49 = .ok (.iconst 0, 1) := by decide +kernel
theorem dX6_tire_50 : decode cX6_tire 50 = .ok (.iastore, 1) := by decide +kernel
theorem dX6_tire_51 : decode cX6_tire 51 = .ok (.iload_n 2, 1) := by decide +kernel
theorem dX6_tire_52 : decode cX6_tire 52 = .ok (.iconst 1, 1) := by decide +kernel
theorem dX6_tire_53 : decode cX6_tire 53 = .ok (.iconst 4, 1) := by decide +kernel
theorem dX6_tire_54 : decode cX6_tire 54 = .ok (.invokestatic 28, 3) := by decide +kernel
theorem dX6_tire_57 : decode cX6_tire 57 = .ok (.ifCond .eq 13, 3) := by decide +kernel
theorem dX6_tire_60 : decode cX6_tire 60 = .ok (.aload_n 0, 1) := by decide +kernel
theorem dX6_tire_61 : decode cX6_tire 61 = .ok (.getfield 9, 3) := by decide +kernel
theorem dX6_tire_64 : decode cX6_tire 64 = .ok (.iload_n 2, 1) := by decide +kernel
theorem dX6_tire_65 : decode cX6_tire 65 = .ok (.dup2, 1) := by decide +kernel
theorem dX6_tire_66 : decode cX6_tire 66 = .ok (.iaload, 1) := by decide +kernel
theorem dX6_tire_67 : decode cX6_tire 67 = .ok (.iload_n 1, 1) := by decide +kernel
theorem dX6_tire_68 : decode cX6_tire 68 = .ok (.iadd, 1) := by decide +kernel
theorem dX6_tire_69 : decode cX6_tire 69 = .ok (.iastore, 1) := by decide +kernel
theorem dX6_tire_70 : decode cX6_tire 70 = .ok (.return_, 1) := by decide +kernel
theorem dX7_init_0 : decode cX7_init 0 = .ok (.aload_n 0, 1) := by decide +kernel
theorem dX7_init_1 : decode cX7_init 1 = .ok (.invokespecial 3, 3) := by decide +kernel
theorem dX7_init_4 : decode cX7_init 4 = .ok (.aload_n 0, 1) := by decide +kernel
theorem dX7_init_5 : decode cX7_init 5 = .ok (.bipush 9, 2) := by decide +kernel
theorem dX7_init_7 : decode cX7_init 7 = .ok (.anewarray 9, 3) := by decide +kernel
theorem dX7_init_10 : decode cX7_init 10 = .ok (.putfield 11, 3) := by decide +kernel
theorem dX7_init_13 : decode cX7_init 13 = .ok (.aload_n 0, 1) := by decide +kernel
theorem dX7_init_14 : decode cX7_init 14 = .ok (.new 9, 3) := by decide +kernel
theorem dX7_init_17 : decode cX7_init 17 = .ok (.dup, 1) := by decide +kernel
theorem dX7_init_18 : decode cX7_init 18 = .ok (.invokespecial 17, 3) := by decide +kernel
theorem dX7_init_21 : decode cX7_init 21 = .ok (.putfield 18, 3) := by decide +kernel
theorem dX7_init_24 : decode cX7_init 24 = .ok (.iconst 0, 1) := by decide +kernel
theorem dX7_init_25 : decode cX7_init 25 = .ok (.istore_n 1, 1) := by decide +kernel
theorem dX7_init_26 : decode cX7_init 26 = .ok (.iload_n 1, 1) := by decide +kernel
theorem dX7_init_27 : decode cX7_init 27 = .ok (.aload_n 0, 1) := by decide +kernel
theorem dX7_init_28 : decode cX7_init 28 = .ok (.getfield 11, 3) := by decide +kernel
theorem dX7_init_31 : decode cX7_init 31 = .ok (.arraylength, 1) := by decide +kernel
theorem dX7_init_32 : decode cX7_init 32 = .ok (.if_icmp .ge 22, 3) := by decide +kernel
theorem dX7_init_35 : decode cX7_init 35 = .ok (.aload_n 0, 1) := by decide +kernel
theorem dX7_init_36 : decode cX7_init 36 = .ok (.getfield 11, 3) := by decide +kernel
theorem dX7_init_39 : decode cX7_init 39 = .ok (.iload_n 1, 1) := by decide +kernel
theorem dX7_init_40 : decode cX7_init 40 = .ok (.new 9, 3) := by decide +kernel
theorem dX7_init_43 : decode cX7_init 43 = .ok (.dup, 1) := by decide +kernel
theorem dX7_init_44 : decode cX7_init 44 = .ok (.invokespecial 17, 3) := by decide +kernel
theorem dX7_init_47 : decode cX7_init 47 = .ok (.aastore, 1) := by decide +kernel
theorem dX7_init_48 : decode cX7_init 48 = .ok (.iinc 1 1, 3) := by decide +kernel
theorem dX7_init_51 : decode cX7_init 51 = .ok (.goto (-25), 3) := by decide +kernel
theorem dX7_init_54 : decode cX7_init 54 = .ok (.return_, 1) := by decide +kernel
theorem dX7_stage_0 : decode cX7_stage 0 = .ok (.iload_n 1, 1) := by decide +kernel
theorem dX7_stage_1 : decode cX7_stage 1 = .ok (.ifCond .lt 21, 3) := by decide +kernel
theorem dX7_stage_4 : decode cX7_stage 4 = .ok (.iload_n 1, 1) := by decide +kernel
theorem dX7_stage_5 : decode cX7_stage 5 = .ok (.aload_n 0, 1) := by decide +kernel
theorem dX7_stage_6 : decode cX7_stage 6 = .ok (.getfield 11, 3) := by decide +kernel
theorem dX7_stage_9 : decode cX7_stage 9 = .ok (.arraylength, 1) := by decide +kernel
theorem dX7_stage_10 : decode cX7_stage 10 = .ok (.if_icmp .ge 12, 3) := by decide +kernel
theorem dX7_stage_13 : decode cX7_stage 13 = .ok (.aload_n 0, 1) := by decide +kernel
theorem dX7_stage_14 : decode cX7_stage 14 = .ok (.getfield 11, 3) := by decide +kernel
theorem dX7_stage_17 : decode cX7_stage 17 = .ok (.iload_n 1, 1) := by decide +kernel
theorem dX7_stage_18 : decode cX7_stage 18 = .ok (.aaload, 1) := by decide +kernel
theorem dX7_stage_19 : decode cX7_stage 19 = .ok (.goto 4, 3) := by decide +kernel
theorem dX7_stage_22 : decode cX7_stage 22 = .ok (.aconst_null, 1) := by decide +kernel
theorem dX7_stage_23 : decode cX7_stage 23 = .ok (.astore_n 2, 1) := by decide +kernel
theorem dX7_stage_24 : decode cX7_stage 24 = .ok (.aload_n 2, 1) := by decide +kernel
theorem dX7_stage_25 : decode cX7_stage 25 = .ok (.ifnonnull 10, 3) := by decide +kernel
theorem dX7_stage_28 : decode cX7_stage 28 = .ok (.aload_n 0, 1) := by decide +kernel
theorem dX7_stage_29 : decode cX7_stage 29 = .ok (.getfield 18, 3) := by decide +kernel
theorem dX7_stage_32 : decode cX7_stage 32 = .ok (.goto 4, 3) := by decide +kernel
theorem dX7_stage_35 : decode cX7_stage 35 = .ok (.aload_n 2, 1) := by decide +kernel
theorem dX7_stage_36 : decode cX7_stage 36 = .ok (.areturn, 1) := by decide +kernel
theorem dX8_init_0 : decode cX8_init 0 = .ok (.aload_n 0, 1) := by decide +kernel
theorem dX8_init_1 : decode cX8_init 1 = .ok (.invokespecial 3, 3) := by decide +kernel
theorem dX8_init_4 : decode cX8_init 4 = .ok (.aload_n 0, 1) := by decide +kernel
theorem dX8_init_5 : decode cX8_init 5 = .ok (.sipush 320, 3) := by decide +kernel
theorem dX8_init_8 : decode cX8_init 8 = .ok (.newarray .byte, 2) := by decide +kernel
theorem dX8_init_10 : decode cX8_init 10 = .ok (.putfield 9, 3) := by decide +kernel
theorem dX8_init_13 : decode cX8_init 13 = .ok (.return_, 1) := by decide +kernel
theorem dX8_append_0 : decode cX8_append 0 = .ok (.aload_n 0, 1) := by decide +kernel
theorem dX8_append_1 : decode cX8_append 1 = .ok (.getfield 15, 3) := by decide +kernel
theorem dX8_append_4 : decode cX8_append 4 = .ok (.ifCond .lt 13, 3) := by decide +kernel
theorem dX8_append_7 : decode cX8_append 7 = .ok (.aload_n 0, 1) := by decide +kernel
theorem dX8_append_8 : decode cX8_append 8 = .ok (.getfield 15, 3) := by decide +kernel
theorem dX8_append_11 : decode cX8_append 11 = .ok (.sipush 312, 3) := by decide +kernel
theorem dX8_append_14 : decode cX8_append 14 = .ok (.if_icmp .le 5, 3) := by decide +kernel
theorem dX8_append_17 : decode cX8_append 17 = .ok (.iconst 0, 1) := by decide +kernel
theorem dX8_append_18 : decode cX8_append 18 = .ok (.ireturn, 1) := by decide +kernel
theorem dX8_append_19 : decode cX8_append 19 = .ok (.bipush 56, 2) := by decide +kernel
theorem dX8_append_21 : decode cX8_append 21 = .ok (.istore_n 3, 1) := by decide +kernel
theorem dX8_append_22 : decode cX8_append 22 = .ok (.iload_n 3, 1) := by decide +kernel
theorem dX8_append_23 : decode cX8_append 23 = .ok (.ifCond .lt 33, 3) := by decide +kernel
theorem dX8_append_26 : decode cX8_append 26 = .ok (.aload_n 0, 1) := by decide +kernel
theorem dX8_append_27 : decode cX8_append 27 = .ok (.getfield 9, 3) := by decide +kernel
theorem dX8_append_30 : decode cX8_append 30 = .ok (.aload_n 0, 1) := by decide +kernel
theorem dX8_append_31 : decode cX8_append 31 = .ok (.getfield 15, 3) := by decide +kernel
theorem dX8_append_34 : decode cX8_append 34 = .ok (.lload_n 1, 1) := by decide +kernel
theorem dX8_append_35 : decode cX8_append 35 = .ok (.iload_n 3, 1) := by decide +kernel
theorem dX8_append_36 : decode cX8_append 36 = .ok (.lshr, 1) := by decide +kernel
theorem dX8_append_37 : decode cX8_append 37 = .ok (.l2i, 1) := by decide +kernel
theorem dX8_append_38 : decode cX8_append 38 = .ok (.i2b, 1) := by decide +kernel
theorem dX8_append_39 : decode cX8_append 39 = .ok (.bastore, 1) := by decide +kernel
theorem dX8_append_40 : decode cX8_append 40 = .ok (.aload_n 0, 1) := by decide +kernel
theorem dX8_append_41 : decode cX8_append 41 = .ok (.dup, 1) := by decide +kernel
theorem dX8_append_42 : decode cX8_append 42 = .ok (.getfield 15, 3) := by decide +kernel
theorem dX8_append_45 : decode cX8_append 45 = .ok (.iconst 1, 1) := by decide +kernel
theorem dX8_append_46 : decode cX8_append 46 = .ok (.iadd, 1) := by decide +kernel
theorem dX8_append_47 : decode cX8_append 47 = .ok (.putfield 15, 3) := by decide +kernel
theorem dX8_append_50 : decode cX8_append 50 = .ok (.iinc 3 (-8), 3) := by decide +kernel
theorem dX8_append_53 : decode cX8_append 53 = .ok (.goto (-31), 3) := by decide +kernel
theorem dX8_append_56 : decode cX8_append 56 = .ok (.iconst 1, 1) := by decide +kernel
theorem dX8_append_57 : decode cX8_append 57 = .ok (.ireturn, 1) := by decide +kernel
theorem dX8_rewind_0 : decode cX8_rewind 0 = .ok (.aload_n 0, 1) := by decide +kernel
theorem dX8_rewind_1 : decode cX8_rewind 1 = .ok (.iconst 0, 1) := by decide +kernel
theorem dX8_rewind_2 : decode cX8_rewind 2 = .ok (.putfield 19, 3) := by decide +kernel
theorem dX8_rewind_5 : decode cX8_rewind 5 = .ok (.return_, 1) := by decide +kernel
theorem dX8_advance_0 : decode cX8_advance 0 = .ok (.aload_n 0, 1) := by decide +kernel
theorem dX8_advance_1 : decode cX8_advance 1 = .ok (.getfield 19, 3) := by decide +kernel
theorem dX8_advance_4 : decode cX8_advance 4 = .ok (.aload_n 0, 1) := by decide +kernel
theorem dX8_advance_5 : decode cX8_advance 5 = .ok (.getfield 15, 3) := by decide +kernel
theorem dX8_advance_8 : decode cX8_advance 8 = .ok (.if_icmp .ge 29, 3) := by decide +kernel
theorem dX8_advance_11 : decode cX8_advance 11 = .ok (.aload_n 0, 1) := by decide +kernel
theorem dX8_advance_12 : decode cX8_advance 12 = .ok (.aload_n 0, 1) := by decide +kernel
theorem dX8_advance_13 : decode cX8_advance 13 = .ok (.getfield 19, 3) := by decide +kernel
theorem dX8_advance_16 : decode cX8_advance 16 = .ok (.invokevirtual 22, 3) := by decide +kernel
theorem dX8_advance_19 : decode cX8_advance 19 = .ok (.bipush 32, 2) := by decide +kernel
theorem dX8_advance_21 : decode cX8_advance 21 = .ok (.if_icmp .ne 16, 3) := by decide +kernel
theorem dX8_advance_24 : decode cX8_advance 24 = .ok (.aload_n 0, 1) := by decide +kernel
theorem dX8_advance_25 : decode cX8_advance 25 = .ok (.dup, 1) := by decide +kernel
theorem dX8_advance_26 : decode cX8_advance 26 = .ok (.getfield 19, 3) := by decide +kernel
theorem dX8_advance_29 : decode cX8_advance 29 = .ok (.iconst 1, 1) := by decide +kernel
theorem dX8_advance_30 : decode cX8_advance 30 = .ok (.iadd, 1) := by decide +kernel
theorem dX8_advance_31 : decode cX8_advance 31 = .ok (.putfield 19, 3) := by decide +kernel
theorem dX8_advance_34 : decode cX8_advance 34 = .ok (.goto (-34), 3) := by decide +kernel
theorem dX8_advance_37 : decode cX8_advance 37 = .ok (.aload_n 0, 1) := by decide +kernel
theorem dX8_advance_38 : decode cX8_advance 38 = .ok (.aload_n 0, 1) := by decide +kernel
theorem dX8_advance_39 : decode cX8_advance 39 = .ok (.getfield 19, 3) := by decide +kernel
theorem dX8_advance_42 : decode cX8_advance 42 = .ok (.putfield 26, 3) := by decide +kernel
theorem dX8_advance_45 : decode cX8_advance 45 = .ok (.aload_n 0, 1) := by decide +kernel
theorem dX8_advance_46 : decode cX8_advance 46 = .ok (.aload_n 0, 1) := by decide +kernel
theorem dX8_advance_47 : decode cX8_advance 47 = .ok (.aload_n 0, 1) := by decide +kernel
theorem dX8_advance_48 : decode cX8_advance 48 = .ok (.getfield 19, 3) := by decide +kernel
theorem dX8_advance_51 : decode cX8_advance 51 = .ok (.invokevirtual 22, 3) := by decide +kernel
theorem dX8_advance_54 : decode cX8_advance 54 = .ok (.invokestatic 29, 3) := by decide +kernel
theorem dX8_advance_57 : decode cX8_advance 57 = .ok (.putfield 32, 3) := by decide +kernel
theorem dX8_advance_60 : decode cX8_advance 60 = .ok (.aload_n 0, 1) := by decide +kernel
theorem dX8_advance_61 : decode cX8_advance 61 = .ok (.iconst 0, 1) := by decide +kernel
theorem dX8_advance_62 : decode cX8_advance 62 = .ok (.putfield 35, 3) := by decide +kernel
theorem dX8_advance_65 : decode cX8_advance 65 = .ok (.aload_n 0, 1) := by decide +kernel
theorem dX8_advance_66 : decode cX8_advance 66 = .ok (.getfield 32, 3) := by decide +kernel
theorem dX8_advance_69 : decode cX8_advance 69 = .ok (.iconst 1, 1) := by decide +kernel
theorem dX8_advance_70 : decode cX8_advance 70 = .ok (.if_icmp .ne 42, 3) := by decide +kernel
theorem dX8_advance_73 : decode cX8_advance 73 = .ok (.aload_n 0, 1) := by decide +kernel
theorem dX8_advance_74 : decode cX8_advance 74 = .ok (.getfield 19, 3) := by decide +kernel
theorem dX8_advance_77 : decode cX8_advance 77 = .ok (.aload_n 0, 1) := by decide +kernel
theorem dX8_advance_78 : decode cX8_advance 78 = .ok (.getfield 15, 3) := by decide +kernel
theorem dX8_advance_81 : decode cX8_advance 81 = .ok (.if_icmp .ge 118, 3) := by decide +kernel
theorem dX8_advance_84 : decode cX8_advance 84 = .ok (.aload_n 0, 1) := by decide +kernel
theorem dX8_advance_85 : decode cX8_advance 85 = .ok (.aload_n 0, 1) := by decide +kernel
theorem dX8_advance_86 : decode cX8_advance 86 = .ok (.getfield 19, 3) := by decide +kernel
theorem dX8_advance_89 : decode cX8_advance 89 = .ok (.invokevirtual 22, 3) := by decide +kernel
theorem dX8_advance_92 : decode cX8_advance 92 = .ok (.invokestatic 29, 3) := by decide +kernel
theorem dX8_advance_95 : decode cX8_advance 95 = .ok (.iconst 1, 1) := by decide +kernel
theorem dX8_advance_96 : decode cX8_advance 96 = .ok (.if_icmp .ne 103, 3) := by decide +kernel
theorem dX8_advance_99 : decode cX8_advance 99 = .ok (.aload_n 0, 1) := by decide +kernel
theorem dX8_advance_100 : decode cX8_advance 100 = .ok (.dup, 1) := by decide +kernel
theorem dX8_advance_101 : decode cX8_advance 101 = .ok (.getfield 19, 3) := by decide +kernel
theorem dX8_advance_104 : decode cX8_advance 104 = .ok (.iconst 1, 1) := by decide +kernel
theorem dX8_advance_105 : decode cX8_advance 105 = .ok (.iadd, 1) := by decide +kernel
theorem dX8_advance_106 : decode cX8_advance 106 = .ok (.putfield 19, 3) := by decide +kernel
theorem dX8_advance_109 : decode cX8_advance 109 = .ok (.goto (-36), 3) := by decide +kernel
theorem dX8_advance_112 : decode cX8_advance 112 = .ok (.aload_n 0, 1) := by decide +kernel
theorem dX8_advance_113 : decode cX8_advance 113 = .ok (.getfield 32, 3) := by decide +kernel
theorem dX8_advance_116 : decode cX8_advance 116 = .ok (.iconst 2, 1) := by decide +kernel
theorem dX8_advance_117 : decode cX8_advance 117 = .ok (.if_icmp .ne 65, 3) := by decide +kernel
theorem dX8_advance_120 : decode cX8_advance 120 = .ok (.aload_n 0, 1) := by decide +kernel
theorem dX8_advance_121 : decode cX8_advance 121 = .ok (.getfield 19, 3) := by decide +kernel
theorem dX8_advance_124 : decode cX8_advance 124 = .ok (.aload_n 0, 1) := by decide +kernel
theorem dX8_advance_125 : decode cX8_advance 125 = .ok (.getfield 15, 3) := by decide +kernel
theorem dX8_advance_128 : decode cX8_advance 128 = .ok (.if_icmp .ge 71, 3) := by decide +kernel
theorem dX8_advance_131 : decode cX8_advance 131 = .ok (.aload_n 0, 1) := by decide +kernel
theorem dX8_advance_132 : decode cX8_advance 132 = .ok (.aload_n 0, 1) := by decide +kernel
theorem dX8_advance_133 : decode cX8_advance 133 = .ok (.getfield 19, 3) := by decide +kernel
theorem dX8_advance_136 : decode cX8_advance 136 = .ok (.invokevirtual 22, 3) := by decide +kernel
theorem dX8_advance_139 : decode cX8_advance 139 = .ok (.invokestatic 29, 3) := by decide +kernel
theorem dX8_advance_142 : decode cX8_advance 142 = .ok (.iconst 2, 1) := by decide +kernel
theorem dX8_advance_143 : decode cX8_advance 143 = .ok (.if_icmp .ne 56, 3) := by decide +kernel
theorem dX8_advance_146 : decode cX8_advance 146 = .ok (.aload_n 0, 1) := by decide +kernel
theorem dX8_advance_147 : decode cX8_advance 147 = .ok (.aload_n 0, 1) := by decide +kernel
theorem dX8_advance_148 : decode cX8_advance 148 = .ok (.getfield 35, 3) := by decide +kernel
theorem dX8_advance_151 : decode cX8_advance 151 = .ok (.bipush 10, 2) := by decide +kernel
theorem dX8_advance_153 : decode cX8_advance 153 = .ok (.imul, 1) := by decide +kernel
theorem dX8_advance_154 : decode cX8_advance 154 = .ok (.aload_n 0, 1) := by decide +kernel
theorem dX8_advance_155 : decode cX8_advance 155 = .ok (.aload_n 0, 1) := by decide +kernel
theorem dX8_advance_156 : decode cX8_advance 156 = .ok (.getfield 19, 3) := by decide +kernel
theorem dX8_advance_159 : decode cX8_advance 159 = .ok (.invokevirtual 22, 3) := by decide +kernel
theorem dX8_advance_162 : decode cX8_advance 162 = .ok (.iadd, 1) := by decide +kernel
theorem dX8_advance_163 : decode cX8_advance 163 = .ok (.bipush 48, 2) := by decide +kernel
theorem dX8_advance_165 : decode cX8_advance 165 = .ok (.isub, 1) := by decide +kernel
theorem dX8_advance_166 : decode cX8_advance 166 = .ok (.putfield 35, 3) := by decide +kernel
theorem dX8_advance_169 : decode cX8_advance 169 = .ok (.aload_n 0, 1) := by decide +kernel
theorem dX8_advance_170 : decode cX8_advance 170 = .ok (.dup, 1) := by decide +kernel
theorem dX8_advance_171 : decode cX8_advance 171 = .ok (.getfield 19, 3) := by decide +kernel
theorem dX8_advance_174 : decode cX8_advance 174 = .ok (.iconst 1, 1) := by decide +kernel
theorem dX8_advance_175 : decode cX8_advance 175 = .ok (.iadd, 1) := by decide +kernel
theorem dX8_advance_176 : decode cX8_advance 176 = .ok (.putfield 19, 3) := by decide +kernel
theorem dX8_advance_179 : decode cX8_advance 179 = .ok (.goto (-59), 3) := by decide +kernel
theorem dX8_advance_182 : decode cX8_advance 182 = .ok (.aload_n 0, 1) := by decide +kernel
theorem dX8_advance_183 : decode cX8_advance 183 = .ok (.getfield 32, 3) := by decide +kernel
theorem dX8_advance_186 : decode cX8_advance 186 = .ok (.ifCond .eq 13, 3) := by decide +kernel
theorem dX8_advance_189 : decode cX8_advance 189 = .ok (.aload_n 0, 1) := by decide +kernel
theorem dX8_advance_190 : decode cX8_advance 190 = .ok (.dup, 1) := by decide +kernel
theorem dX8_advance_191 : decode cX8_advance 191 = .ok (.getfield 19, 3) := by decide +kernel
theorem dX8_advance_194 : decode cX8_advance 194 = .ok (.iconst 1, 1) := by decide +kernel
theorem dX8_advance_195 : decode cX8_advance 195 = .ok (.iadd, 1) := by decide +kernel
theorem dX8_advance_196 : decode cX8_advance 196 = .ok (.putfield 19, 3) := by decide +kernel
theorem dX8_advance_199 : decode cX8_advance 199 = .ok (.aload_n 0, 1) := by decide +kernel
theorem dX8_advance_200 : decode cX8_advance 200 = .ok (.getfield 32, 3) := by decide +kernel
theorem dX8_advance_203 : decode cX8_advance 203 = .ok (.iconst 2, 1) := by decide +kernel
theorem dX8_advance_204 : decode cX8_advance 204 = .ok (.if_icmp .ne 21, 3) := by decide +kernel
theorem dX8_advance_207 : decode cX8_advance 207 = .ok (.aload_n 0, 1) := by decide +kernel
theorem dX8_advance_208 : decode cX8_advance 208 = .ok (.getfield 19, 3) := by decide +kernel
theorem dX8_advance_211 : decode cX8_advance 211 = .ok (.aload_n 0, 1) := by decide +kernel
theorem dX8_advance_212 : decode cX8_advance 212 = .ok (.getfield 26, 3) := by decide +kernel
theorem dX8_advance_215 : decode cX8_advance 215 = .ok (.isub, 1) := by decide +kernel
theorem dX8_advance_216 : decode cX8_advance 216 = .ok (.iconst 2, 1) := by decide +kernel
theorem dX8_advance_217 : decode cX8_advance 217 = .ok (.if_icmp .le 8, 3) := by decide +kernel
theorem dX8_advance_220 : decode cX8_advance 220 = .ok (.aload_n 0, 1) := by decide +kernel
theorem dX8_advance_221 : decode cX8_advance 221 = .ok (.iconst 4, 1) := by decide +kernel
theorem dX8_advance_222 : decode cX8_advance 222 = .ok (.putfield 32, 3) := by decide +kernel
theorem dX8_advance_225 : decode cX8_advance 225 = .ok (.return_, 1) := by decide +kernel
theorem dX8_byteAt_0 : decode cX8_byteAt 0 = .ok (.iload_n 1, 1) := by decide +kernel
theorem dX8_byteAt_1 : decode cX8_byteAt 1 = .ok (.ifCond .lt 31, 3) := by decide +kernel
theorem dX8_byteAt_4 : decode cX8_byteAt 4 = .ok (.iload_n 1, 1) := by decide +kernel
theorem dX8_byteAt_5 : decode cX8_byteAt 5 = .ok (.aload_n 0, 1) := by decide +kernel
theorem dX8_byteAt_6 : decode cX8_byteAt 6 = .ok (.getfield 15, 3) := by decide +kernel
theorem dX8_byteAt_9 : decode cX8_byteAt 9 = .ok (.if_icmp .ge 23, 3) := by decide +kernel
theorem dX8_byteAt_12 : decode cX8_byteAt 12 = .ok (.iload_n 1, 1) := by decide +kernel
theorem dX8_byteAt_13 : decode cX8_byteAt 13 = .ok (.sipush 320, 3) := by decide +kernel
theorem dX8_byteAt_16 : decode cX8_byteAt 16 = .ok (.if_icmp .ge 16, 3) := by decide +kernel
theorem dX8_byteAt_19 : decode cX8_byteAt 19 = .ok (.aload_n 0, 1) := by decide +kernel
theorem dX8_byteAt_20 : decode cX8_byteAt 20 = .ok (.getfield 9, 3) := by decide +kernel
theorem dX8_byteAt_23 : decode cX8_byteAt 23 = .ok (.iload_n 1, 1) := by decide +kernel
theorem dX8_byteAt_24 : decode cX8_byteAt 24 = .ok (.baload, 1) := by decide +kernel
theorem dX8_byteAt_25 : decode cX8_byteAt 25 = .ok (.sipush 255, 3) := by decide +kernel
theorem dX8_byteAt_28 : decode cX8_byteAt 28 = .ok (.iand, 1) := by decide +kernel
theorem dX8_byteAt_29 : decode cX8_byteAt 29 = .ok (.goto 4, 3) := by decide +kernel
theorem dX8_byteAt_32 : decode cX8_byteAt 32 = .ok (.iconst (-1), 1) := by decide +kernel
theorem dX8_byteAt_33 : decode cX8_byteAt 33 = .ok (.ireturn, 1) := by decide +kernel
theorem dX8_kindOf_0 : decode cX8_kindOf 0 = .ok (.iload_n 0, 1) := by decide +kernel
theorem dX8_kindOf_1 : decode cX8_kindOf 1 = .ok (.ifCond .ge 5, 3) := by decide +kernel
theorem dX8_kindOf_4 : decode cX8_kindOf 4 = .ok (.iconst 0, 1) := by decide +kernel
theorem dX8_kindOf_5 : decode cX8_kindOf 5 = .ok (.ireturn, 1) := by decide +kernel
theorem dX8_kindOf_6 : decode cX8_kindOf 6 = .ok (.iload_n 0, 1) := by decide +kernel
theorem dX8_kindOf_7 : decode cX8_kindOf 7 = .ok (.bipush 97, 2) := by decide +kernel
theorem dX8_kindOf_9 : decode cX8_kindOf 9 = .ok (.if_icmp .lt 11, 3) := by decide +kernel
theorem dX8_kindOf_12 : decode cX8_kindOf 12 = .ok (.iload_n 0, 1) := by decide +kernel
theorem dX8_kindOf_13 : decode cX8_kindOf 13 = .ok (.bipush 122, 2) := by decide +kernel
theorem dX8_kindOf_15 : decode cX8_kindOf 15 = .ok (.if_icmp .gt 5, 3) := by decide +kernel
theorem dX8_kindOf_18 : decode cX8_kindOf 18 = .ok (.iconst 1, 1) := by decide +kernel
theorem dX8_kindOf_19 : decode cX8_kindOf 19 = .ok (.ireturn, 1) := by decide +kernel
theorem dX8_kindOf_20 : decode cX8_kindOf 20 = .ok (.iload_n 0, 1) := by decide +kernel
theorem dX8_kindOf_21 : decode cX8_kindOf 21 = .ok (.bipush 48, 2) := by decide +kernel
theorem dX8_kindOf_23 : decode cX8_kindOf 23 = .ok (.if_icmp .lt 11, 3) := by decide +kernel
theorem dX8_kindOf_26 : decode cX8_kindOf 26 = .ok (.iload_n 0, 1) := by decide +kernel
theorem dX8_kindOf_27 : decode cX8_kindOf 27 = .ok (.bipush 57, 2) := by decide +kernel
theorem dX8_kindOf_29 : decode cX8_kindOf 29 = .ok (.if_icmp .gt 5, 3) := by decide +kernel
theorem dX8_kindOf_32 : decode cX8_kindOf 32 = .ok (.iconst 2, 1) := by decide +kernel
theorem dX8_kindOf_33 : decode cX8_kindOf 33 = .ok (.ireturn, 1) := by decide +kernel
theorem dX8_kindOf_34 : decode cX8_kindOf 34 = .ok (.iload_n 0, 1) := by decide +kernel
theorem dX8_kindOf_35 : decode cX8_kindOf 35 = .ok (.bipush 59, 2) := by decide +kernel
theorem dX8_kindOf_37 : decode cX8_kindOf 37 = .ok (.if_icmp .ne 7, 3) := by decide +kernel
theorem dX8_kindOf_40 : decode cX8_kindOf 40 = .ok (.iconst 3, 1) := by decide +kernel
theorem dX8_kindOf_41 : decode cX8_kindOf 41 = .ok (.goto 4, 3) := by decide +kernel
theorem dX8_kindOf_44 : decode cX8_kindOf 44 = .ok (.iconst 4, 1) := by decide +kernel
theorem dX8_kindOf_45 : decode cX8_kindOf 45 = .ok (.ireturn, 1) := by decide +kernel
theorem dX8_wordIn_0 : decode cX8_wordIn 0 = .ok (.iconst 0, 1) := by decide +kernel
theorem dX8_wordIn_1 : decode cX8_wordIn 1 = .ok (.istore_n 2, 1) := by decide +kernel
theorem dX8_wordIn_2 : decode cX8_wordIn 2 = .ok (.iconst 0, 1) := by decide +kernel
theorem dX8_wordIn_3 : decode cX8_wordIn 3 = .ok (.istore_n 3, 1) := by decide +kernel
theorem dX8_wordIn_4 : decode cX8_wordIn 4 = .ok (.iconst 0, 1) := by decide +kernel
theorem dX8_wordIn_5 : decode cX8_wordIn 5 = .ok (.istore 4, 2) := by decide +kernel
theorem dX8_wordIn_7 : decode cX8_wordIn 7 = .ok (.iload 4, 2) := by decide +kernel
theorem dX8_wordIn_9 : decode cX8_wordIn 9 = .ok (.aload_n 1, 1) := by decide +kernel
theorem dX8_wordIn_10 : decode cX8_wordIn 10 = .ok (.invokevirtual 38, 3) := by decide +kernel
theorem dX8_wordIn_13 : decode cX8_wordIn 13 = .ok (.if_icmp .gt 58, 3) := by decide +kernel
theorem dX8_wordIn_16 : decode cX8_wordIn 16 = .ok (.aload_n 0, 1) := by decide +kernel
theorem dX8_wordIn_17 : decode cX8_wordIn 17 = .ok (.getfield 32, 3) := by decide +kernel
theorem dX8_wordIn_20 : decode cX8_wordIn 20 = .ok (.iconst 1, 1) := by decide +kernel
theorem dX8_wordIn_21 : decode cX8_wordIn 21 = .ok (.if_icmp .ne 50, 3) := by decide +kernel
theorem dX8_wordIn_24 : decode cX8_wordIn 24 = .ok (.iload 4, 2) := by decide +kernel
theorem dX8_wordIn_26 : decode cX8_wordIn 26 = .ok (.aload_n 1, 1) := by decide +kernel
theorem dX8_wordIn_27 : decode cX8_wordIn 27 = .ok (.invokevirtual 38, 3) := by decide +kernel
theorem dX8_wordIn_30 : decode cX8_wordIn 30 = .ok (.if_icmp .eq 14, 3) := by decide +kernel
theorem dX8_wordIn_33 : decode cX8_wordIn 33 = .ok (.aload_n 1, 1) := by decide +kernel
theorem dX8_wordIn_34 : decode cX8_wordIn 34 = .ok (.iload 4, 2) := by decide +kernel
theorem dX8_wordIn_36 : decode cX8_wordIn 36 = .ok (.invokevirtual 43, 3) := by decide +kernel
theorem dX8_wordIn_39 : decode cX8_wordIn 39 = .ok (.bipush 32, 2) := by decide +kernel
theorem dX8_wordIn_41 : decode cX8_wordIn 41 = .ok (.if_icmp .ne 24, 3) := by decide +kernel
theorem dX8_wordIn_44 : decode cX8_wordIn 44 = .ok (.aload_n 0, 1) := by decide +kernel
theorem dX8_wordIn_45 : decode cX8_wordIn 45 = .ok (.aload_n 1, 1) := by decide +kernel
theorem dX8_wordIn_46 : decode cX8_wordIn 46 = .ok (.iload_n 3, 1) := by decide +kernel
theorem dX8_wordIn_47 : decode cX8_wordIn 47 = .ok (.iload 4, 2) := by decide +kernel
theorem dX8_wordIn_49 : decode cX8_wordIn 49 = .ok (.invokevirtual 47, 3) := by decide +kernel
theorem dX8_wordIn_52 : decode cX8_wordIn 52 = .ok (.ifCond .eq 5, 3) := by decide +kernel
theorem dX8_wordIn_55 : decode cX8_wordIn 55 = .ok (.iload_n 2, 1) := by decide +kernel
theorem dX8_wordIn_56 : decode cX8_wordIn 56 = .ok (.ireturn, 1) := by decide +kernel
theorem dX8_wordIn_57 : decode cX8_wordIn 57 = .ok (.iinc 2 1, 3) := by decide +kernel
theorem dX8_wordIn_60 : decode cX8_wordIn 60 = .ok (.iload 4, 2) := by decide +kernel
theorem dX8_wordIn_62 : decode cX8_wordIn 62 = .ok (.iconst 1, 1) := by decide +kernel
theorem dX8_wordIn_63 : decode cX8_wordIn 63 = .ok (.iadd, 1) := by decide +kernel
theorem dX8_wordIn_64 : decode cX8_wordIn 64 = .ok (.istore_n 3, 1) := by decide +kernel
theorem dX8_wordIn_65 : decode cX8_wordIn 65 = .ok (.iinc 4 1, 3) := by decide +kernel
theorem dX8_wordIn_68 : decode cX8_wordIn 68 = .ok (.goto (-61), 3) := by decide +kernel
theorem dX8_wordIn_71 : decode cX8_wordIn 71 = .ok (.iconst (-1), 1) := by decide +kernel
theorem dX8_wordIn_72 : decode cX8_wordIn 72 = .ok (.ireturn, 1) := by decide +kernel
theorem dX8_isPartOf_0 : decode cX8_isPartOf 0 = .ok (.iload_n 3, 1) := by decide +kernel
theorem dX8_isPartOf_1 : decode cX8_isPartOf 1 = .ok (.iload_n 2, 1) := by decide +kernel
theorem dX8_isPartOf_2 : decode cX8_isPartOf 2 = .ok (.isub, 1) := by decide +kernel
theorem dX8_isPartOf_3 : decode cX8_isPartOf 3 = .ok (.aload_n 0, 1) := by decide +kernel
theorem dX8_isPartOf_4 : decode cX8_isPartOf 4 = .ok (.getfield 19, 3) := by decide +kernel
theorem dX8_isPartOf_7 : decode cX8_isPartOf 7 = .ok (.aload_n 0, 1) := by decide +kernel
theorem dX8_isPartOf_8 : decode cX8_isPartOf 8 = .ok (.getfield 26, 3) := by decide +kernel
theorem dX8_isPartOf_11 : decode cX8_isPartOf 11 = .ok (.isub, 1) := by decide +kernel
theorem dX8_isPartOf_12 : decode cX8_isPartOf 12 = .ok (.if_icmp .ne 15, 3) := by decide +kernel
theorem dX8_isPartOf_15 : decode cX8_isPartOf 15 = .ok (.iload_n 2, 1) := by decide +kernel
theorem dX8_isPartOf_16 : decode cX8_isPartOf 16 = .ok (.ifCond .lt 11, 3) := by decide +kernel
theorem dX8_isPartOf_19 : decode cX8_isPartOf 19 = .ok (.iload_n 3, 1) := by decide +kernel
theorem dX8_isPartOf_20 : decode cX8_isPartOf 20 = .ok (.aload_n 1, 1) := by decide +kernel
theorem dX8_isPartOf_21 : decode cX8_isPartOf 21 = .ok (.invokevirtual 38, 3) := by decide +kernel
theorem dX8_isPartOf_24 : decode cX8_isPartOf 24 = .ok (.if_icmp .le 5, 3) := by decide +kernel
theorem dX8_isPartOf_27 : decode cX8_isPartOf 27 = .ok (.iconst 0, 1) := by decide +kernel
theorem dX8_isPartOf_28 : decode cX8_isPartOf 28 = .ok (.ireturn, 1) := by decide +kernel
theorem dX8_isPartOf_29 : decode cX8_isPartOf 29 = .ok (.iload_n 2, 1) := by decide +kernel
theorem dX8_isPartOf_30 : decode cX8_isPartOf 30 = .ok (.istore 4, 2) := by decide +kernel
theorem dX8_isPartOf_32 : decode cX8_isPartOf 32 = .ok (.iload 4, 2) := by decide +kernel
theorem dX8_isPartOf_34 : decode cX8_isPartOf 34 = .ok (.iload_n 3, 1) := by decide +kernel
theorem dX8_isPartOf_35 : decode cX8_isPartOf 35 = .ok (.if_icmp .ge 33, 3) := by decide +kernel
theorem dX8_isPartOf_38 : decode cX8_isPartOf 38 = .ok (.aload_n 1, 1) := by decide +kernel
theorem dX8_isPartOf_39 : decode cX8_isPartOf 39 = .ok (.iload 4, 2) := by decide +kernel
theorem dX8_isPartOf_41 : decode cX8_isPartOf 41 = .ok (.invokevirtual 43, 3) := by decide +kernel
theorem dX8_isPartOf_44 : decode cX8_isPartOf 44 = .ok (.aload_n 0, 1) := by decide +kernel
theorem dX8_isPartOf_45 : decode cX8_isPartOf 45 = .ok (.aload_n 0, 1) := by decide +kernel
theorem dX8_isPartOf_46 : decode cX8_isPartOf 46 = .ok (.getfield 26, 3) := by decide +kernel
theorem dX8_isPartOf_49 : decode cX8_isPartOf 49 = .ok (.iload 4, 2) := by decide +kernel
theorem dX8_isPartOf_51 : decode cX8_isPartOf 51 = .ok (.iadd, 1) := by decide +kernel
theorem dX8_isPartOf_52 : decode cX8_isPartOf 52 = .ok (.iload_n 2, 1) := by decide +kernel
theorem dX8_isPartOf_53 : decode cX8_isPartOf 53 = .ok (.isub, 1) := by decide +kernel
theorem dX8_isPartOf_54 : decode cX8_isPartOf 54 = .ok (.invokevirtual 22, 3) := by decide +kernel
theorem dX8_isPartOf_57 : decode cX8_isPartOf 57 = .ok (.if_icmp .eq 5, 3) := by decide +kernel
theorem dX8_isPartOf_60 : decode cX8_isPartOf 60 = .ok (.iconst 0, 1) := by decide +kernel
theorem dX8_isPartOf_61 : decode cX8_isPartOf 61 = .ok (.ireturn, 1) := by decide +kernel
theorem dX8_isPartOf_62 : decode cX8_isPartOf 62 = .ok (.iinc 4 1, 3) := by decide +kernel
theorem dX8_isPartOf_65 : decode cX8_isPartOf 65 = .ok (.goto (-33), 3) := by decide +kernel
theorem dX8_isPartOf_68 : decode cX8_isPartOf 68 = .ok (.iconst 1, 1) := by decide +kernel
theorem dX8_isPartOf_69 : decode cX8_isPartOf 69 = .ok (.ireturn, 1) := by decide +kernel
theorem dX9_init_0 : decode cX9_init 0 = .ok (.aload_n 0, 1) := by decide +kernel
theorem dX9_init_1 : decode cX9_init 1 = .ok (.invokespecial 3, 3) := by decide +kernel
theorem dX9_init_4 : decode cX9_init 4 = .ok (.aload_n 0, 1) := by decide +kernel
theorem dX9_init_5 : decode cX9_init 5 = .ok (.bipush 8, 2) := by decide +kernel
theorem dX9_init_7 : decode cX9_init 7 = .ok (.newarray .int, 2) := by decide +kernel
theorem dX9_init_9 : decode cX9_init 9 = .ok (.putfield 9, 3) := by decide +kernel
theorem dX9_init_12 : decode cX9_init 12 = .ok (.aload_n 0, 1) := by decide +kernel
theorem dX9_init_13 : decode cX9_init 13 = .ok (.bipush 8, 2) := by decide +kernel
theorem dX9_init_15 : decode cX9_init 15 = .ok (.newarray .int, 2) := by decide +kernel
theorem dX9_init_17 : decode cX9_init 17 = .ok (.putfield 15, 3) := by decide +kernel
theorem dX9_init_20 : decode cX9_init 20 = .ok (.return_, 1) := by decide +kernel
theorem dX9_add_0 : decode cX9_add 0 = .ok (.aload_n 0, 1) := by decide +kernel
theorem dX9_add_1 : decode cX9_add 1 = .ok (.getfield 18, 3) := by decide +kernel
theorem dX9_add_4 : decode cX9_add 4 = .ok (.bipush 8, 2) := by decide +kernel
theorem dX9_add_6 : decode cX9_add 6 = .ok (.if_icmp .ge 10, 3) := by decide +kernel
theorem dX9_add_9 : decode cX9_add 9 = .ok (.aload_n 0, 1) := by decide +kernel
theorem dX9_add_10 : decode cX9_add 10 = .ok (.getfield 18, 3) := by decide +kernel
theorem dX9_add_13 : decode cX9_add 13 = .ok (.ifCond .ge 5, 3) := by decide +kernel
theorem dX9_add_16 : decode cX9_add 16 = .ok (.iconst 0, 1) := by decide +kernel
theorem dX9_add_17 : decode cX9_add 17 = .ok (.ireturn, 1) := by decide +kernel
theorem dX9_add_18 : decode cX9_add 18 = .ok (.aload_n 0, 1) := by decide +kernel
theorem dX9_add_19 : decode cX9_add 19 = .ok (.getfield 9, 3) := by decide +kernel
theorem dX9_add_22 : decode cX9_add 22 = .ok (.aload_n 0, 1) := by decide +kernel
theorem dX9_add_23 : decode cX9_add 23 = .ok (.getfield 18, 3) := by decide +kernel
theorem dX9_add_26 : decode cX9_add 26 = .ok (.iload_n 1, 1) := by decide +kernel
theorem dX9_add_27 : decode cX9_add 27 = .ok (.iastore, 1) := by decide +kernel
theorem dX9_add_28 : decode cX9_add 28 = .ok (.aload_n 0, 1) := by decide +kernel
theorem dX9_add_29 : decode cX9_add 29 = .ok (.getfield 15, 3) := by decide +kernel
theorem dX9_add_32 : decode cX9_add 32 = .ok (.aload_n 0, 1) := by decide +kernel
theorem dX9_add_33 : decode cX9_add 33 = .ok (.getfield 18, 3) := by decide +kernel
theorem dX9_add_36 : decode cX9_add 36 = .ok (.iload_n 2, 1) := by decide +kernel
theorem dX9_add_37 : decode cX9_add 37 = .ok (.iastore, 1) := by decide +kernel
theorem dX9_add_38 : decode cX9_add 38 = .ok (.aload_n 0, 1) := by decide +kernel
theorem dX9_add_39 : decode cX9_add 39 = .ok (.dup, 1) := by decide +kernel
theorem dX9_add_40 : decode cX9_add 40 = .ok (.getfield 18, 3) := by decide +kernel
theorem dX9_add_43 : decode cX9_add 43 = .ok (.iconst 1, 1) := by decide +kernel
theorem dX9_add_44 : decode cX9_add 44 = .ok (.iadd, 1) := by decide +kernel
theorem dX9_add_45 : decode cX9_add 45 = .ok (.putfield 18, 3) := by decide +kernel
theorem dX9_add_48 : decode cX9_add 48 = .ok (.iconst 1, 1) := by decide +kernel
theorem dX9_add_49 : decode cX9_add 49 = .ok (.ireturn, 1) := by decide +kernel
theorem dX9_untrueIn_0 : decode cX9_untrueIn 0 = .ok (.iconst 0, 1) := by decide +kernel
theorem dX9_untrueIn_1 : decode cX9_untrueIn 1 = .ok (.istore_n 3, 1) := by decide +kernel
theorem dX9_untrueIn_2 : decode cX9_untrueIn 2 = .ok (.iconst 0, 1) := by decide +kernel
theorem dX9_untrueIn_3 : decode cX9_untrueIn 3 = .ok (.istore 4, 2) := by decide +kernel
theorem dX9_untrueIn_5 : decode cX9_untrueIn 5 = .ok (.iload 4, 2) := by decide +kernel
theorem dX9_untrueIn_7 : decode cX9_untrueIn 7 = .ok (.aload_n 0, 1) := by decide +kernel
theorem dX9_untrueIn_8 : decode cX9_untrueIn 8 = .ok (.getfield 18, 3) := by decide +kernel
theorem dX9_untrueIn_11 : decode cX9_untrueIn 11 = .ok (.if_icmp .ge 45, 3) := by decide +kernel
theorem dX9_untrueIn_14 : decode cX9_untrueIn 14 = .ok (.iload 4, 2) := by decide +kernel
theorem dX9_untrueIn_16 : decode cX9_untrueIn 16 = .ok (.bipush 8, 2) := by decide +kernel
theorem dX9_untrueIn_18 : decode cX9_untrueIn 18 = .ok (.if_icmp .ge 38, 3) := by decide +kernel
theorem dX9_untrueIn_21 : decode cX9_untrueIn 21 = .ok (.aload_n 0, 1) := by decide +kernel
theorem dX9_untrueIn_22 : decode cX9_untrueIn 22 = .ok (.getfield 9, 3) := by decide +kernel
theorem dX9_untrueIn_25 : decode cX9_untrueIn 25 = .ok (.iload 4, 2) := by decide +kernel
theorem dX9_untrueIn_27 : decode cX9_untrueIn 27 = .ok (.iaload, 1) := by decide +kernel
theorem dX9_untrueIn_28 : decode cX9_untrueIn 28 = .ok (.iload_n 1, 1) := by decide +kernel
theorem dX9_untrueIn_29 : decode cX9_untrueIn 29 = .ok (.if_icmp .ne 21, 3) := by decide +kernel
theorem dX9_untrueIn_32 : decode cX9_untrueIn 32 = .ok (.aload_n 0, 1) := by decide +kernel
theorem dX9_untrueIn_33 : decode cX9_untrueIn 33 = .ok (.getfield 15, 3) := by decide +kernel
theorem dX9_untrueIn_36 : decode cX9_untrueIn 36 = .ok (.iload 4, 2) := by decide +kernel
theorem dX9_untrueIn_38 : decode cX9_untrueIn 38 = .ok (.iaload, 1) := by decide +kernel
theorem dX9_untrueIn_39 : decode cX9_untrueIn 39 = .ok (.iload_n 2, 1) := by decide +kernel
theorem dX9_untrueIn_40 : decode cX9_untrueIn 40 = .ok (.if_icmp .eq 10, 3) := by decide +kernel
theorem dX9_untrueIn_43 : decode cX9_untrueIn 43 = .ok (.iload_n 3, 1) := by decide +kernel
theorem dX9_untrueIn_44 : decode cX9_untrueIn 44 = .ok (.iconst 1, 1) := by decide +kernel
theorem dX9_untrueIn_45 : decode cX9_untrueIn 45 = .ok (.iload 4, 2) := by decide +kernel
theorem dX9_untrueIn_47 : decode cX9_untrueIn 47 = .ok (.ishl, 1) := by decide +kernel
theorem dX9_untrueIn_48 : decode cX9_untrueIn 48 = .ok (.ior, 1) := by decide +kernel
theorem dX9_untrueIn_49 : decode cX9_untrueIn 49 = .ok (.istore_n 3, 1) := by decide +kernel
theorem dX9_untrueIn_50 : decode cX9_untrueIn 50 = .ok (.iinc 4 1, 3) := by decide +kernel
theorem dX9_untrueIn_53 : decode cX9_untrueIn 53 = .ok (.goto (-48), 3) := by decide +kernel
theorem dX9_untrueIn_56 : decode cX9_untrueIn 56 = .ok (.iload_n 3, 1) := by decide +kernel
theorem dX9_untrueIn_57 : decode cX9_untrueIn 57 = .ok (.ireturn, 1) := by decide +kernel
theorem dX10_init_0 : decode cX10_init 0 = .ok (.aload_n 0, 1) := by decide +kernel
theorem dX10_init_1 : decode cX10_init 1 = .ok (.invokespecial 1, 3) := by decide +kernel
theorem dX10_init_4 : decode cX10_init 4 = .ok (.aload_n 0, 1) := by decide +kernel
theorem dX10_init_5 : decode cX10_init 5 = .ok (.new 7, 3) := by decide +kernel
theorem dX10_init_8 : decode cX10_init 8 = .ok (.dup, 1) := by decide +kernel
theorem dX10_init_9 : decode cX10_init 9 = .ok (.invokespecial 9, 3) := by decide +kernel
theorem dX10_init_12 : decode cX10_init 12 = .ok (.putfield 10, 3) := by decide +kernel
theorem dX10_init_15 : decode cX10_init 15 = .ok (.aload_n 0, 1) := by decide +kernel
theorem dX10_init_16 : decode cX10_init 16 = .ok (.new 7, 3) := by decide +kernel
theorem dX10_init_19 : decode cX10_init 19 = .ok (.dup, 1) := by decide +kernel
theorem dX10_init_20 : decode cX10_init 20 = .ok (.invokespecial 9, 3) := by decide +kernel
theorem dX10_init_23 : decode cX10_init 23 = .ok (.putfield 16, 3) := by decide +kernel
theorem dX10_init_26 : decode cX10_init 26 = .ok (.aload_n 0, 1) := by decide +kernel
theorem dX10_init_27 : decode cX10_init 27 = .ok (.new 19, 3) := by decide +kernel
theorem dX10_init_30 : decode cX10_init 30 = .ok (.dup, 1) := by decide +kernel
theorem dX10_init_31 : decode cX10_init 31 = .ok (.invokespecial 21, 3) := by decide +kernel
theorem dX10_init_34 : decode cX10_init 34 = .ok (.putfield 22, 3) := by decide +kernel
theorem dX10_init_37 : decode cX10_init 37 = .ok (.aload_n 0, 1) := by decide +kernel
theorem dX10_init_38 : decode cX10_init 38 = .ok (.new 26, 3) := by decide +kernel
theorem dX10_init_41 : decode cX10_init 41 = .ok (.dup, 1) := by decide +kernel
theorem dX10_init_42 : decode cX10_init 42 = .ok (.invokespecial 28, 3) := by decide +kernel
theorem dX10_init_45 : decode cX10_init 45 = .ok (.putfield 29, 3) := by decide +kernel
theorem dX10_init_48 : decode cX10_init 48 = .ok (.aload_n 0, 1) := by decide +kernel
theorem dX10_init_49 : decode cX10_init 49 = .ok (.new 33, 3) := by decide +kernel
theorem dX10_init_52 : decode cX10_init 52 = .ok (.dup, 1) := by decide +kernel
theorem dX10_init_53 : decode cX10_init 53 = .ok (.invokespecial 35, 3) := by decide +kernel
theorem dX10_init_56 : decode cX10_init 56 = .ok (.putfield 36, 3) := by decide +kernel
theorem dX10_init_59 : decode cX10_init 59 = .ok (.aload_n 0, 1) := by decide +kernel
theorem dX10_init_60 : decode cX10_init 60 = .ok (.new 40, 3) := by decide +kernel
theorem dX10_init_63 : decode cX10_init 63 = .ok (.dup, 1) := by decide +kernel
theorem dX10_init_64 : decode cX10_init 64 = .ok (.invokespecial 42, 3) := by decide +kernel
theorem dX10_init_67 : decode cX10_init 67 = .ok (.putfield 43, 3) := by decide +kernel
theorem dX10_init_70 : decode cX10_init 70 = .ok (.aload_n 0, 1) := by decide +kernel
theorem dX10_init_71 : decode cX10_init 71 = .ok (.new 47, 3) := by decide +kernel
theorem dX10_init_74 : decode cX10_init 74 = .ok (.dup, 1) := by decide +kernel
theorem dX10_init_75 : decode cX10_init 75 = .ok (.invokespecial 49, 3) := by decide +kernel
theorem dX10_init_78 : decode cX10_init 78 = .ok (.putfield 50, 3) := by decide +kernel
theorem dX10_init_81 : decode cX10_init 81 = .ok (.aload_n 0, 1) := by decide +kernel
theorem dX10_init_82 : decode cX10_init 82 = .ok (.new 7, 3) := by decide +kernel
theorem dX10_init_85 : decode cX10_init 85 = .ok (.dup, 1) := by decide +kernel
theorem dX10_init_86 : decode cX10_init 86 = .ok (.invokespecial 9, 3) := by decide +kernel
theorem dX10_init_89 : decode cX10_init 89 = .ok (.putfield 54, 3) := by decide +kernel
theorem dX10_init_92 : decode cX10_init 92 = .ok (.aload_n 0, 1) := by decide +kernel
theorem dX10_init_93 : decode cX10_init 93 = .ok (.new 7, 3) := by decide +kernel
theorem dX10_init_96 : decode cX10_init 96 = .ok (.dup, 1) := by decide +kernel
theorem dX10_init_97 : decode cX10_init 97 = .ok (.invokespecial 9, 3) := by decide +kernel
theorem dX10_init_100 : decode cX10_init 100 = .ok (.putfield 57, 3) := by decide +kernel
theorem dX10_init_103 : decode cX10_init 103 = .ok (.aload_n 0, 1) := by decide +kernel
theorem dX10_init_104 : decode cX10_init 104 = .ok (.iconst 4, 1) := by decide +kernel
theorem dX10_init_105 : decode cX10_init 105 = .ok (.anewarray 60, 3) := by decide +kernel
theorem dX10_init_108 : decode cX10_init 108 = .ok (.putfield 62, 3) := by decide +kernel
theorem dX10_init_111 : decode cX10_init 111 = .ok (.iconst 0, 1) := by decide +kernel
theorem dX10_init_112 : decode cX10_init 112 = .ok (.istore_n 1, 1) := by decide +kernel
theorem dX10_init_113 : decode cX10_init 113 = .ok (.iload_n 1, 1) := by decide +kernel
theorem dX10_init_114 : decode cX10_init 114 = .ok (.iconst 4, 1) := by decide +kernel
theorem dX10_init_115 : decode cX10_init 115 = .ok (.if_icmp .ge 22, 3) := by decide +kernel
theorem dX10_init_118 : decode cX10_init 118 = .ok (.aload_n 0, 1) := by decide +kernel
theorem dX10_init_119 : decode cX10_init 119 = .ok (.getfield 62, 3) := by decide +kernel
theorem dX10_init_122 : decode cX10_init 122 = .ok (.iload_n 1, 1) := by decide +kernel
theorem dX10_init_123 : decode cX10_init 123 = .ok (.new 60, 3) := by decide +kernel
theorem dX10_init_126 : decode cX10_init 126 = .ok (.dup, 1) := by decide +kernel
theorem dX10_init_127 : decode cX10_init 127 = .ok (.invokespecial 66, 3) := by decide +kernel
theorem dX10_init_130 : decode cX10_init 130 = .ok (.aastore, 1) := by decide +kernel
theorem dX10_init_131 : decode cX10_init 131 = .ok (.iinc 1 1, 3) := by decide +kernel
theorem dX10_init_134 : decode cX10_init 134 = .ok (.goto (-21), 3) := by decide +kernel
theorem dX10_init_137 : decode cX10_init 137 = .ok (.return_, 1) := by decide +kernel
theorem dX10_feed_0 : decode cX10_feed 0 = .ok (.aload_n 0, 1) := by decide +kernel
theorem dX10_feed_1 : decode cX10_feed 1 = .ok (.getfield 22, 3) := by decide +kernel
theorem dX10_feed_4 : decode cX10_feed 4 = .ok (.getfield 67, 3) := by decide +kernel
theorem dX10_feed_7 : decode cX10_feed 7 = .ok (.lload_n 1, 1) := by decide +kernel
theorem dX10_feed_8 : decode cX10_feed 8 = .ok (.invokevirtual 71, 3) := by decide +kernel
theorem dX10_feed_11 : decode cX10_feed 11 = .ok (.ifCond .eq 16, 3) := by decide +kernel
theorem dX10_feed_14 : decode cX10_feed 14 = .ok (.aload_n 0, 1) := by decide +kernel
theorem dX10_feed_15 : decode cX10_feed 15 = .ok (.getfield 22, 3) := by decide +kernel
theorem dX10_feed_18 : decode cX10_feed 18 = .ok (.getfield 67, 3) := by decide +kernel
theorem dX10_feed_21 : decode cX10_feed 21 = .ok (.getfield 77, 3) := by decide +kernel
theorem dX10_feed_24 : decode cX10_feed 24 = .ok (.goto 5, 3) := by decide +kernel
theorem dX10_feed_27 : decode cX10_feed 27 = .ok (.bipush (-3), 2) := by decide +kernel
theorem dX10_feed_29 : decode cX10_feed 29 = .ok (.ireturn, 1) := by decide +kernel
theorem dX10_end_0 : decode cX10_end 0 = .ok (.aload_n 0, 1) := by decide +kernel
theorem dX10_end_1 : decode cX10_end 1 = .ok (.getfield 22, 3) := by decide +kernel
theorem dX10_end_4 : decode cX10_end 4 = .ok (.getfield 67, 3) := by decide +kernel
theorem dX10_end_7 : decode cX10_end 7 = .ok (.astore_n 2, 1) := by decide +kernel
theorem dX10_end_8 : decode cX10_end 8 = .ok (.iload_n 1, 1) := by decide +kernel
theorem dX10_end_9 : decode cX10_end 9 = .ok (.iconst 0, 1) := by decide +kernel
theorem dX10_end_10 : decode cX10_end 10 = .ok (.aload_n 2, 1) := by decide +kernel
theorem dX10_end_11 : decode cX10_end 11 = .ok (.getfield 77, 3) := by decide +kernel
theorem dX10_end_14 : decode cX10_end 14 = .ok (.invokestatic 81, 3) := by decide +kernel
theorem dX10_end_17 : decode cX10_end 17 = .ok (.ifCond .ne 5, 3) := by decide +kernel
theorem dX10_end_20 : decode cX10_end 20 = .ok (.iconst (-1), 1) := by decide +kernel
theorem dX10_end_21 : decode cX10_end 21 = .ok (.ireturn, 1) := by decide +kernel
theorem dX10_end_22 : decode cX10_end 22 = .ok (.aload_n 2, 1) := by decide +kernel
theorem dX10_end_23 : decode cX10_end 23 = .ok (.getfield 77, 3) := by decide +kernel
theorem dX10_end_26 : decode cX10_end 26 = .ok (.istore_n 3, 1) := by decide +kernel
theorem dX10_end_27 : decode cX10_end 27 = .ok (.aload_n 2, 1) := by decide +kernel
theorem dX10_end_28 : decode cX10_end 28 = .ok (.iload_n 1, 1) := by decide +kernel
theorem dX10_end_29 : decode cX10_end 29 = .ok (.putfield 77, 3) := by decide +kernel
theorem dX10_end_32 : decode cX10_end 32 = .ok (.iload_n 3, 1) := by decide +kernel
theorem dX10_end_33 : decode cX10_end 33 = .ok (.ireturn, 1) := by decide +kernel
theorem dX10_text_0 : decode cX10_text 0 = .ok (.iconst 0, 1) := by decide +kernel
theorem dX10_text_1 : decode cX10_text 1 = .ok (.istore_n 1, 1) := by decide +kernel
theorem dX10_text_2 : decode cX10_text 2 = .ok (.aload_n 0, 1) := by decide +kernel
theorem dX10_text_3 : decode cX10_text 3 = .ok (.getfield 22, 3) := by decide +kernel
theorem dX10_text_6 : decode cX10_text 6 = .ok (.invokevirtual 85, 3) := by decide +kernel
theorem dX10_text_9 : decode cX10_text 9 = .ok (.iload_n 1, 1) := by decide +kernel
theorem dX10_text_10 : decode cX10_text 10 = .ok (.sipush 320, 3) := by decide +kernel
theorem dX10_text_13 : decode cX10_text 13 = .ok (.if_icmp .ge 19, 3) := by decide +kernel
theorem dX10_text_16 : decode cX10_text 16 = .ok (.aload_n 0, 1) := by decide +kernel
theorem dX10_text_17 : decode cX10_text 17 = .ok (.getfield 22, 3) := by decide +kernel
theorem dX10_text_20 : decode cX10_text 20 = .ok (.invokevirtual 88, 3) := by decide +kernel
theorem dX10_text_23 : decode cX10_text 23 = .ok (.ifCond .eq 9, 3) := by decide +kernel
theorem dX10_text_26 : decode cX10_text 26 = .ok (.iinc 1 1, 3) := by decide +kernel
theorem dX10_text_29 : decode cX10_text 29 = .ok (.goto (-20), 3) := by decide +kernel
theorem dX10_text_32 : decode cX10_text 32 = .ok (.aload_n 0, 1) := by decide +kernel
theorem dX10_text_33 : decode cX10_text 33 = .ok (.getfield 22, 3) := by decide +kernel
theorem dX10_text_36 : decode cX10_text 36 = .ok (.invokevirtual 92, 3) := by decide +kernel
theorem dX10_text_39 : decode cX10_text 39 = .ok (.aload_n 0, 1) := by decide +kernel
theorem dX10_text_40 : decode cX10_text 40 = .ok (.getfield 22, 3) := by decide +kernel
theorem dX10_text_43 : decode cX10_text 43 = .ok (.getfield 95, 3) := by decide +kernel
theorem dX10_text_46 : decode cX10_text 46 = .ok (.ifCond .eq 14, 3) := by decide +kernel
theorem dX10_text_49 : decode cX10_text 49 = .ok (.bipush (-10), 2) := by decide +kernel
theorem dX10_text_51 : decode cX10_text 51 = .ok (.aload_n 0, 1) := by decide +kernel
theorem dX10_text_52 : decode cX10_text 52 = .ok (.getfield 22, 3) := by decide +kernel
theorem dX10_text_55 : decode cX10_text 55 = .ok (.getfield 98, 3) := by decide +kernel
theorem dX10_text_58 : decode cX10_text 58 = .ok (.isub, 1) := by decide +kernel
theorem dX10_text_59 : decode cX10_text 59 = .ok (.ireturn, 1) := by decide +kernel
theorem dX10_text_60 : decode cX10_text 60 = .ok (.aload_n 0, 1) := by decide +kernel
theorem dX10_text_61 : decode cX10_text 61 = .ok (.getfield 10, 3) := by decide +kernel
theorem dX10_text_64 : decode cX10_text 64 = .ok (.aload_n 0, 1) := by decide +kernel
theorem dX10_text_65 : decode cX10_text 65 = .ok (.getfield 22, 3) := by decide +kernel
theorem dX10_text_68 : decode cX10_text 68 = .ok (.getfield 101, 3) := by decide +kernel
theorem dX10_text_71 : decode cX10_text 71 = .ok (.invokevirtual 104, 3) := by decide +kernel
theorem dX10_text_74 : decode cX10_text 74 = .ok (.aload_n 0, 1) := by decide +kernel
theorem dX10_text_75 : decode cX10_text 75 = .ok (.getfield 50, 3) := by decide +kernel
theorem dX10_text_78 : decode cX10_text 78 = .ok (.iconst 0, 1) := by decide +kernel
theorem dX10_text_79 : decode cX10_text 79 = .ok (.putfield 108, 3) := by decide +kernel
theorem dX10_text_82 : decode cX10_text 82 = .ok (.aload_n 0, 1) := by decide +kernel
theorem dX10_text_83 : decode cX10_text 83 = .ok (.iconst 0, 1) := by decide +kernel
theorem dX10_text_84 : decode cX10_text 84 = .ok (.putfield 111, 3) := by decide +kernel
theorem dX10_text_87 : decode cX10_text 87 = .ok (.iload_n 1, 1) := by decide +kernel
theorem dX10_text_88 : decode cX10_text 88 = .ok (.ireturn, 1) := by decide +kernel
theorem dX10_fault_0 : decode cX10_fault 0 = .ok (.aload_n 0, 1) := by decide +kernel
theorem dX10_fault_1 : decode cX10_fault 1 = .ok (.getfield 22, 3) := by decide +kernel
theorem dX10_fault_4 : decode cX10_fault 4 = .ok (.getfield 95, 3) := by decide +kernel
theorem dX10_fault_7 : decode cX10_fault 7 = .ok (.ireturn, 1) := by decide +kernel
theorem dX10_rule_0 : decode cX10_rule 0 = .ok (.iload_n 1, 1) := by decide +kernel
theorem dX10_rule_1 : decode cX10_rule 1 = .ok (.tableswitch 75 0 4 #[35, 43, 51, 59, 67], 35) := by decide +kernel
theorem dX10_rule_36 : decode cX10_rule 36 = .ok (.aload_n 0, 1) := by decide +kernel
theorem dX10_rule_37 : decode cX10_rule 37 = .ok (.getfield 10, 3) := by decide +kernel
theorem dX10_rule_40 : decode cX10_rule 40 = .ok (.getfield 114, 3) := by decide +kernel
theorem dX10_rule_43 : decode cX10_rule 43 = .ok (.ireturn, 1) := by decide +kernel
theorem dX10_rule_44 : decode cX10_rule 44 = .ok (.aload_n 0, 1) := by decide +kernel
theorem dX10_rule_45 : decode cX10_rule 45 = .ok (.getfield 10, 3) := by decide +kernel
theorem dX10_rule_48 : decode cX10_rule 48 = .ok (.getfield 117, 3) := by decide +kernel
theorem dX10_rule_51 : decode cX10_rule 51 = .ok (.ireturn, 1) := by decide +kernel
theorem dX10_rule_52 : decode cX10_rule 52 = .ok (.aload_n 0, 1) := by decide +kernel
theorem dX10_rule_53 : decode cX10_rule 53 = .ok (.getfield 10, 3) := by decide +kernel
theorem dX10_rule_56 : decode cX10_rule 56 = .ok (.getfield 120, 3) := by decide +kernel
theorem dX10_rule_59 : decode cX10_rule 59 = .ok (.ireturn, 1) := by decide +kernel
theorem dX10_rule_60 : decode cX10_rule 60 = .ok (.aload_n 0, 1) := by decide +kernel
theorem dX10_rule_61 : decode cX10_rule 61 = .ok (.getfield 10, 3) := by decide +kernel
theorem dX10_rule_64 : decode cX10_rule 64 = .ok (.getfield 123, 3) := by decide +kernel
theorem dX10_rule_67 : decode cX10_rule 67 = .ok (.ireturn, 1) := by decide +kernel
theorem dX10_rule_68 : decode cX10_rule 68 = .ok (.aload_n 0, 1) := by decide +kernel
theorem dX10_rule_69 : decode cX10_rule 69 = .ok (.getfield 10, 3) := by decide +kernel
theorem dX10_rule_72 : decode cX10_rule 72 = .ok (.getfield 126, 3) := by decide +kernel
theorem dX10_rule_75 : decode cX10_rule 75 = .ok (.ireturn, 1) := by decide +kernel
theorem dX10_rule_76 : decode cX10_rule 76 = .ok (.iconst (-1), 1) := by decide +kernel
theorem dX10_rule_77 : decode cX10_rule 77 = .ok (.ireturn, 1) := by decide +kernel
theorem dX10_cell_0 : decode cX10_cell 0 = .ok (.aload_n 0, 1) := by decide +kernel
theorem dX10_cell_1 : decode cX10_cell 1 = .ok (.getfield 10, 3) := by decide +kernel
theorem dX10_cell_4 : decode cX10_cell 4 = .ok (.iload_n 1, 1) := by decide +kernel
theorem dX10_cell_5 : decode cX10_cell 5 = .ok (.invokevirtual 129, 3) := by decide +kernel
theorem dX10_cell_8 : decode cX10_cell 8 = .ok (.ifCond .ne 5, 3) := by decide +kernel
theorem dX10_cell_11 : decode cX10_cell 11 = .ok (.iconst (-1), 1) := by decide +kernel
theorem dX10_cell_12 : decode cX10_cell 12 = .ok (.ireturn, 1) := by decide +kernel
theorem dX10_cell_13 : decode cX10_cell 13 = .ok (.iload_n 2, 1) := by decide +kernel
theorem dX10_cell_14 : decode cX10_cell 14 = .ok (.tableswitch 56 0 2 #[26, 36, 46], 26) := by decide +kernel
theorem dX10_cell_40 : decode cX10_cell 40 = .ok (.aload_n 0, 1) := by decide +kernel
theorem dX10_cell_41 : decode cX10_cell 41 = .ok (.getfield 10, 3) := by decide +kernel
theorem dX10_cell_44 : decode cX10_cell 44 = .ok (.getfield 133, 3) := by decide +kernel
theorem dX10_cell_47 : decode cX10_cell 47 = .ok (.iload_n 1, 1) := by decide +kernel
theorem dX10_cell_48 : decode cX10_cell 48 = .ok (.iaload, 1) := by decide +kernel
theorem dX10_cell_49 : decode cX10_cell 49 = .ok (.ireturn, 1) := by decide +kernel
theorem dX10_cell_50 : decode cX10_cell 50 = .ok (.aload_n 0, 1) := by decide +kernel
theorem dX10_cell_51 : decode cX10_cell 51 = .ok (.getfield 10, 3) := by decide +kernel
theorem dX10_cell_54 : decode cX10_cell 54 = .ok (.getfield 137, 3) := by decide +kernel
theorem dX10_cell_57 : decode cX10_cell 57 = .ok (.iload_n 1, 1) := by decide +kernel
theorem dX10_cell_58 : decode cX10_cell 58 = .ok (.iaload, 1) := by decide +kernel
theorem dX10_cell_59 : decode cX10_cell 59 = .ok (.ireturn, 1) := by decide +kernel
theorem dX10_cell_60 : decode cX10_cell 60 = .ok (.aload_n 0, 1) := by decide +kernel
theorem dX10_cell_61 : decode cX10_cell 61 = .ok (.getfield 10, 3) := by decide +kernel
theorem dX10_cell_64 : decode cX10_cell 64 = .ok (.getfield 140, 3) := by decide +kernel
theorem dX10_cell_67 : decode cX10_cell 67 = .ok (.iload_n 1, 1) := by decide +kernel
theorem dX10_cell_68 : decode cX10_cell 68 = .ok (.iaload, 1) := by decide +kernel
theorem dX10_cell_69 : decode cX10_cell 69 = .ok (.ireturn, 1) := by decide +kernel
theorem dX10_cell_70 : decode cX10_cell 70 = .ok (.iconst (-1), 1) := by decide +kernel
theorem dX10_cell_71 : decode cX10_cell 71 = .ok (.ireturn, 1) := by decide +kernel
theorem dX10_side_0 : decode cX10_side 0 = .ok (.iload_n 1, 1) := by decide +kernel
theorem dX10_side_1 : decode cX10_side 1 = .ok (.invokestatic 143, 3) := by decide +kernel
theorem dX10_side_4 : decode cX10_side 4 = .ok (.ifCond .eq 18, 3) := by decide +kernel
theorem dX10_side_7 : decode cX10_side 7 = .ok (.aload_n 0, 1) := by decide +kernel
theorem dX10_side_8 : decode cX10_side 8 = .ok (.getfield 10, 3) := by decide +kernel
theorem dX10_side_11 : decode cX10_side 11 = .ok (.iload_n 1, 1) := by decide +kernel
theorem dX10_side_12 : decode cX10_side 12 = .ok (.invokevirtual 146, 3) := by decide +kernel
theorem dX10_side_15 : decode cX10_side 15 = .ok (.iload_n 2, 1) := by decide +kernel
theorem dX10_side_16 : decode cX10_side 16 = .ok (.invokevirtual 150, 3) := by decide +kernel
theorem dX10_side_19 : decode cX10_side 19 = .ok (.goto 4, 3) := by decide +kernel
theorem dX10_side_22 : decode cX10_side 22 = .ok (.iconst (-1), 1) := by decide +kernel
theorem dX10_side_23 : decode cX10_side 23 = .ok (.ireturn, 1) := by decide +kernel
theorem dX10_room_0 : decode cX10_room 0 = .ok (.aload_n 0, 1) := by decide +kernel
theorem dX10_room_1 : decode cX10_room 1 = .ok (.getfield 10, 3) := by decide +kernel
theorem dX10_room_4 : decode cX10_room 4 = .ok (.iload_n 1, 1) := by decide +kernel
theorem dX10_room_5 : decode cX10_room 5 = .ok (.invokevirtual 129, 3) := by decide +kernel
theorem dX10_room_8 : decode cX10_room 8 = .ok (.ifCond .eq 28, 3) := by decide +kernel
theorem dX10_room_11 : decode cX10_room 11 = .ok (.iload_n 2, 1) := by decide +kernel
theorem dX10_room_12 : decode cX10_room 12 = .ok (.iconst 1, 1) := by decide +kernel
theorem dX10_room_13 : decode cX10_room 13 = .ok (.bipush 12, 2) := by decide +kernel
theorem dX10_room_15 : decode cX10_room 15 = .ok (.invokestatic 81, 3) := by decide +kernel
theorem dX10_room_18 : decode cX10_room 18 = .ok (.ifCond .eq 18, 3) := by decide +kernel
theorem dX10_room_21 : decode cX10_room 21 = .ok (.aload_n 0, 1) := by decide +kernel
theorem dX10_room_22 : decode cX10_room 22 = .ok (.getfield 10, 3) := by decide +kernel
theorem dX10_room_25 : decode cX10_room 25 = .ok (.getfield 133, 3) := by decide +kernel
theorem dX10_room_28 : decode cX10_room 28 = .ok (.iload_n 1, 1) := by decide +kernel
theorem dX10_room_29 : decode cX10_room 29 = .ok (.iload_n 2, 1) := by decide +kernel
theorem dX10_room_30 : decode cX10_room 30 = .ok (.invokestatic 156, 3) := by decide +kernel
theorem dX10_room_33 : decode cX10_room 33 = .ok (.goto 4, 3) := by decide +kernel
theorem dX10_room_36 : decode cX10_room 36 = .ok (.iconst (-1), 1) := by decide +kernel
theorem dX10_room_37 : decode cX10_room 37 = .ok (.ireturn, 1) := by decide +kernel
theorem dX10_slope_0 : decode cX10_slope 0 = .ok (.aload_n 0, 1) := by decide +kernel
theorem dX10_slope_1 : decode cX10_slope 1 = .ok (.getfield 10, 3) := by decide +kernel
theorem dX10_slope_4 : decode cX10_slope 4 = .ok (.iload_n 1, 1) := by decide +kernel
theorem dX10_slope_5 : decode cX10_slope 5 = .ok (.invokevirtual 129, 3) := by decide +kernel
theorem dX10_slope_8 : decode cX10_slope 8 = .ok (.ifCond .eq 28, 3) := by decide +kernel
theorem dX10_slope_11 : decode cX10_slope 11 = .ok (.iload_n 2, 1) := by decide +kernel
theorem dX10_slope_12 : decode cX10_slope 12 = .ok (.iconst 0, 1) := by decide +kernel
theorem dX10_slope_13 : decode cX10_slope 13 = .ok (.bipush 6, 2) := by decide +kernel
theorem dX10_slope_15 : decode cX10_slope 15 = .ok (.invokestatic 81, 3) := by decide +kernel
theorem dX10_slope_18 : decode cX10_slope 18 = .ok (.ifCond .eq 18, 3) := by decide +kernel
theorem dX10_slope_21 : decode cX10_slope 21 = .ok (.aload_n 0, 1) := by decide +kernel
theorem dX10_slope_22 : decode cX10_slope 22 = .ok (.getfield 10, 3) := by decide +kernel
theorem dX10_slope_25 : decode cX10_slope 25 = .ok (.getfield 137, 3) := by decide +kernel
theorem dX10_slope_28 : decode cX10_slope 28 = .ok (.iload_n 1, 1) := by decide +kernel
theorem dX10_slope_29 : decode cX10_slope 29 = .ok (.iload_n 2, 1) := by decide +kernel
theorem dX10_slope_30 : decode cX10_slope 30 = .ok (.invokestatic 156, 3) := by decide +kernel
theorem dX10_slope_33 : decode cX10_slope 33 = .ok (.goto 4, 3) := by decide +kernel
theorem dX10_slope_36 : decode cX10_slope 36 = .ok (.iconst (-1), 1) := by decide +kernel
theorem dX10_slope_37 : decode cX10_slope 37 = .ok (.ireturn, 1) := by decide +kernel
theorem dX10_hedge_0 : decode cX10_hedge 0 = .ok (.aload_n 0, 1) := by decide +kernel
theorem dX10_hedge_1 : decode cX10_hedge 1 = .ok (.getfield 10, 3) := by decide +kernel
theorem dX10_hedge_4 : decode cX10_hedge 4 = .ok (.iload_n 1, 1) := by decide +kernel
theorem dX10_hedge_5 : decode cX10_hedge 5 = .ok (.invokevirtual 129, 3) := by decide +kernel
theorem dX10_hedge_8 : decode cX10_hedge 8 = .ok (.ifCond .eq 28, 3) := by decide +kernel
theorem dX10_hedge_11 : decode cX10_hedge 11 = .ok (.iload_n 2, 1) := by decide +kernel
theorem dX10_hedge_12 : decode cX10_hedge 12 = .ok (.iconst 0, 1) := by decide +kernel
theorem dX10_hedge_13 : decode cX10_hedge 13 = .ok (.bipush 9, 2) := by decide +kernel
theorem dX10_hedge_15 : decode cX10_hedge 15 = .ok (.invokestatic 81, 3) := by decide +kernel
theorem dX10_hedge_18 : decode cX10_hedge 18 = .ok (.ifCond .eq 18, 3) := by decide +kernel
theorem dX10_hedge_21 : decode cX10_hedge 21 = .ok (.aload_n 0, 1) := by decide +kernel
theorem dX10_hedge_22 : decode cX10_hedge 22 = .ok (.getfield 10, 3) := by decide +kernel
theorem dX10_hedge_25 : decode cX10_hedge 25 = .ok (.getfield 140, 3) := by decide +kernel
theorem dX10_hedge_28 : decode cX10_hedge 28 = .ok (.iload_n 1, 1) := by decide +kernel
theorem dX10_hedge_29 : decode cX10_hedge 29 = .ok (.iload_n 2, 1) := by decide +kernel
theorem dX10_hedge_30 : decode cX10_hedge 30 = .ok (.invokestatic 156, 3) := by decide +kernel
theorem dX10_hedge_33 : decode cX10_hedge 33 = .ok (.goto 4, 3) := by decide +kernel
theorem dX10_hedge_36 : decode cX10_hedge 36 = .ok (.iconst (-1), 1) := by decide +kernel
theorem dX10_hedge_37 : decode cX10_hedge 37 = .ok (.ireturn, 1) := by decide +kernel
theorem dX10_fool_0 : decode cX10_fool 0 = .ok (.iload_n 1, 1) := by decide +kernel
theorem dX10_fool_1 : decode cX10_fool 1 = .ok (.invokestatic 143, 3) := by decide +kernel
theorem dX10_fool_4 : decode cX10_fool 4 = .ok (.ifCond .eq 12, 3) := by decide +kernel
theorem dX10_fool_7 : decode cX10_fool 7 = .ok (.iload_n 2, 1) := by decide +kernel
theorem dX10_fool_8 : decode cX10_fool 8 = .ok (.iconst 0, 1) := by decide +kernel
theorem dX10_fool_9 : decode cX10_fool 9 = .ok (.iconst 5, 1) := by decide +kernel
theorem dX10_fool_10 : decode cX10_fool 10 = .ok (.invokestatic 81, 3) := by decide +kernel
theorem dX10_fool_13 : decode cX10_fool 13 = .ok (.ifCond .ne 5, 3) := by decide +kernel
theorem dX10_fool_16 : decode cX10_fool 16 = .ok (.iconst (-1), 1) := by decide +kernel
theorem dX10_fool_17 : decode cX10_fool 17 = .ok (.ireturn, 1) := by decide +kernel
theorem dX10_fool_18 : decode cX10_fool 18 = .ok (.aload_n 0, 1) := by decide +kernel
theorem dX10_fool_19 : decode cX10_fool 19 = .ok (.getfield 10, 3) := by decide +kernel
theorem dX10_fool_22 : decode cX10_fool 22 = .ok (.iload_n 1, 1) := by decide +kernel
theorem dX10_fool_23 : decode cX10_fool 23 = .ok (.invokevirtual 146, 3) := by decide +kernel
theorem dX10_fool_26 : decode cX10_fool 26 = .ok (.astore_n 3, 1) := by decide +kernel
theorem dX10_fool_27 : decode cX10_fool 27 = .ok (.aload_n 3, 1) := by decide +kernel
theorem dX10_fool_28 : decode cX10_fool 28 = .ok (.getfield 160, 3) := by decide +kernel
theorem dX10_fool_31 : decode cX10_fool 31 = .ok (.istore 4, 2) := by decide +kernel
theorem dX10_fool_33 : decode cX10_fool 33 = .ok (.aload_n 3, 1) := by decide +kernel
theorem dX10_fool_34 : decode cX10_fool 34 = .ok (.iload_n 2, 1) := by decide +kernel
theorem dX10_fool_35 : decode cX10_fool 35 = .ok (.putfield 160, 3) := by decide +kernel
theorem dX10_fool_38 : decode cX10_fool 38 = .ok (.iload 4, 2) := by decide +kernel
theorem dX10_fool_40 : decode cX10_fool 40 = .ok (.ireturn, 1) := by decide +kernel
theorem dX10_men_0 : decode cX10_men 0 = .ok (.iload_n 1, 1) := by decide +kernel
theorem dX10_men_1 : decode cX10_men 1 = .ok (.invokestatic 143, 3) := by decide +kernel
theorem dX10_men_4 : decode cX10_men 4 = .ok (.ifCond .eq 25, 3) := by decide +kernel
theorem dX10_men_7 : decode cX10_men 7 = .ok (.iload_n 2, 1) := by decide +kernel
theorem dX10_men_8 : decode cX10_men 8 = .ok (.iconst 0, 1) := by decide +kernel
theorem dX10_men_9 : decode cX10_men 9 = .ok (.bipush 12, 2) := by decide +kernel
theorem dX10_men_11 : decode cX10_men 11 = .ok (.aload_n 0, 1) := by decide +kernel
theorem dX10_men_12 : decode cX10_men 12 = .ok (.getfield 10, 3) := by decide +kernel
theorem dX10_men_15 : decode cX10_men 15 = .ok (.iload_n 1, 1) := by decide +kernel
theorem dX10_men_16 : decode cX10_men 16 = .ok (.invokevirtual 146, 3) := by decide +kernel
theorem dX10_men_19 : decode cX10_men 19 = .ok (.invokevirtual 163, 3) := by decide +kernel
theorem dX10_men_22 : decode cX10_men 22 = .ok (.isub, 1) := by decide +kernel
theorem dX10_men_23 : decode cX10_men 23 = .ok (.invokestatic 81, 3) := by decide +kernel
theorem dX10_men_26 : decode cX10_men 26 = .ok (.ifCond .ne 5, 3) := by decide +kernel
theorem dX10_men_29 : decode cX10_men 29 = .ok (.iconst (-1), 1) := by decide +kernel
theorem dX10_men_30 : decode cX10_men 30 = .ok (.ireturn, 1) := by decide +kernel
theorem dX10_men_31 : decode cX10_men 31 = .ok (.aload_n 0, 1) := by decide +kernel
theorem dX10_men_32 : decode cX10_men 32 = .ok (.getfield 10, 3) := by decide +kernel
theorem dX10_men_35 : decode cX10_men 35 = .ok (.iload_n 1, 1) := by decide +kernel
theorem dX10_men_36 : decode cX10_men 36 = .ok (.invokevirtual 146, 3) := by decide +kernel
theorem dX10_men_39 : decode cX10_men 39 = .ok (.astore_n 3, 1) := by decide +kernel
theorem dX10_men_40 : decode cX10_men 40 = .ok (.aload_n 3, 1) := by decide +kernel
theorem dX10_men_41 : decode cX10_men 41 = .ok (.getfield 167, 3) := by decide +kernel
theorem dX10_men_44 : decode cX10_men 44 = .ok (.istore 4, 2) := by decide +kernel
theorem dX10_men_46 : decode cX10_men 46 = .ok (.aload_n 3, 1) := by decide +kernel
theorem dX10_men_47 : decode cX10_men 47 = .ok (.iload_n 2, 1) := by decide +kernel
theorem dX10_men_48 : decode cX10_men 48 = .ok (.putfield 167, 3) := by decide +kernel
theorem dX10_men_51 : decode cX10_men 51 = .ok (.iload 4, 2) := by decide +kernel
theorem dX10_men_53 : decode cX10_men 53 = .ok (.ireturn, 1) := by decide +kernel
theorem dX10_captain_0 : decode cX10_captain 0 = .ok (.iload_n 1, 1) := by decide +kernel
theorem dX10_captain_1 : decode cX10_captain 1 = .ok (.invokestatic 143, 3) := by decide +kernel
theorem dX10_captain_4 : decode cX10_captain 4 = .ok (.ifCond .eq 20, 3) := by decide +kernel
theorem dX10_captain_7 : decode cX10_captain 7 = .ok (.iload_n 2, 1) := by decide +kernel
theorem dX10_captain_8 : decode cX10_captain 8 = .ok (.invokestatic 170, 3) := by decide +kernel
theorem dX10_captain_11 : decode cX10_captain 11 = .ok (.ifCond .eq 13, 3) := by decide +kernel
theorem dX10_captain_14 : decode cX10_captain 14 = .ok (.iload_n 3, 1) := by decide +kernel
theorem dX10_captain_15 : decode cX10_captain 15 = .ok (.iconst 0, 1) := by decide +kernel
theorem dX10_captain_16 : decode cX10_captain 16 = .ok (.bipush 12, 2) := by decide +kernel
theorem dX10_captain_18 : decode cX10_captain 18 = .ok (.invokestatic 81, 3) := by decide +kernel
theorem dX10_captain_21 : decode cX10_captain 21 = .ok (.ifCond .ne 5, 3) := by decide +kernel
theorem dX10_captain_24 : decode cX10_captain 24 = .ok (.iconst (-1), 1) := by decide +kernel
theorem dX10_captain_25 : decode cX10_captain 25 = .ok (.ireturn, 1) := by decide +kernel
theorem dX10_captain_26 : decode cX10_captain 26 = .ok (.aload_n 0, 1) := by decide +kernel
theorem dX10_captain_27 : decode cX10_captain 27 = .ok (.getfield 10, 3) := by decide +kernel
theorem dX10_captain_30 : decode cX10_captain 30 = .ok (.iload_n 1, 1) := by decide +kernel
theorem dX10_captain_31 : decode cX10_captain 31 = .ok (.invokevirtual 146, 3) := by decide +kernel
theorem dX10_captain_34 : decode cX10_captain 34 = .ok (.astore 4, 2) := by decide +kernel
theorem dX10_captain_36 : decode cX10_captain 36 = .ok (.aload 4, 2) := by decide +kernel
theorem dX10_captain_38 : decode cX10_captain 38 = .ok (.getfield 173, 3) := by decide +kernel
theorem dX10_captain_41 : decode cX10_captain 41 = .ok (.istore 5, 2) := by decide +kernel
theorem dX10_captain_43 : decode cX10_captain 43 = .ok (.aload 4, 2) := by decide +kernel
theorem dX10_captain_45 : decode cX10_captain 45 = .ok (.iload_n 2, 1) := by decide +kernel
theorem dX10_captain_46 : decode cX10_captain 46 = .ok (.putfield 173, 3) := by decide +kernel
theorem dX10_captain_49 : decode cX10_captain 49 = .ok (.aload 4, 2) := by decide +kernel
theorem dX10_captain_51 : decode cX10_captain 51 = .ok (.iload_n 3, 1) := by decide +kernel
theorem dX10_captain_52 : decode cX10_captain 52 = .ok (.putfield 176, 3) := by decide +kernel
theorem dX10_captain_55 : decode cX10_captain 55 = .ok (.iload 5, 2) := by decide +kernel
theorem dX10_captain_57 : decode cX10_captain 57 = .ok (.ireturn, 1) := by decide +kernel
theorem dX10_rest_0 : decode cX10_rest 0 = .ok (.iload_n 1, 1) := by decide +kernel
theorem dX10_rest_1 : decode cX10_rest 1 = .ok (.iconst 1, 1) := by decide +kernel
theorem dX10_rest_2 : decode cX10_rest 2 = .ok (.iconst 4, 1) := by decide +kernel
theorem dX10_rest_3 : decode cX10_rest 3 = .ok (.invokestatic 81, 3) := by decide +kernel
theorem dX10_rest_6 : decode cX10_rest 6 = .ok (.ifCond .ne 5, 3) := by decide +kernel
theorem dX10_rest_9 : decode cX10_rest 9 = .ok (.iconst (-1), 1) := by decide +kernel
theorem dX10_rest_10 : decode cX10_rest 10 = .ok (.ireturn, 1) := by decide +kernel
theorem dX10_rest_11 : decode cX10_rest 11 = .ok (.aload_n 0, 1) := by decide +kernel
theorem dX10_rest_12 : decode cX10_rest 12 = .ok (.getfield 10, 3) := by decide +kernel
theorem dX10_rest_15 : decode cX10_rest 15 = .ok (.getfield 120, 3) := by decide +kernel
theorem dX10_rest_18 : decode cX10_rest 18 = .ok (.istore_n 2, 1) := by decide +kernel
theorem dX10_rest_19 : decode cX10_rest 19 = .ok (.aload_n 0, 1) := by decide +kernel
theorem dX10_rest_20 : decode cX10_rest 20 = .ok (.getfield 10, 3) := by decide +kernel
theorem dX10_rest_23 : decode cX10_rest 23 = .ok (.iload_n 1, 1) := by decide +kernel
theorem dX10_rest_24 : decode cX10_rest 24 = .ok (.putfield 120, 3) := by decide +kernel
theorem dX10_rest_27 : decode cX10_rest 27 = .ok (.iload_n 2, 1) := by decide +kernel
theorem dX10_rest_28 : decode cX10_rest 28 = .ok (.ireturn, 1) := by decide +kernel
theorem dX10_breaks_0 : decode cX10_breaks 0 = .ok (.iload_n 1, 1) := by decide +kernel
theorem dX10_breaks_1 : decode cX10_breaks 1 = .ok (.iconst 0, 1) := by decide +kernel
theorem dX10_breaks_2 : decode cX10_breaks 2 = .ok (.bipush 7, 2) := by decide +kernel
theorem dX10_breaks_4 : decode cX10_breaks 4 = .ok (.invokestatic 81, 3) := by decide +kernel
theorem dX10_breaks_7 : decode cX10_breaks 7 = .ok (.ifCond .ne 5, 3) := by decide +kernel
theorem dX10_breaks_10 : decode cX10_breaks 10 = .ok (.iconst (-1), 1) := by decide +kernel
theorem dX10_breaks_11 : decode cX10_breaks 11 = .ok (.ireturn, 1) := by decide +kernel
theorem dX10_breaks_12 : decode cX10_breaks 12 = .ok (.aload_n 0, 1) := by decide +kernel
theorem dX10_breaks_13 : decode cX10_breaks 13 = .ok (.getfield 10, 3) := by decide +kernel
theorem dX10_breaks_16 : decode cX10_breaks 16 = .ok (.getfield 123, 3) := by decide +kernel
theorem dX10_breaks_19 : decode cX10_breaks 19 = .ok (.istore_n 2, 1) := by decide +kernel
theorem dX10_breaks_20 : decode cX10_breaks 20 = .ok (.aload_n 0, 1) := by decide +kernel
theorem dX10_breaks_21 : decode cX10_breaks 21 = .ok (.getfield 10, 3) := by decide +kernel
theorem dX10_breaks_24 : decode cX10_breaks 24 = .ok (.iload_n 1, 1) := by decide +kernel
theorem dX10_breaks_25 : decode cX10_breaks 25 = .ok (.putfield 123, 3) := by decide +kernel
theorem dX10_breaks_28 : decode cX10_breaks 28 = .ok (.iload_n 2, 1) := by decide +kernel
theorem dX10_breaks_29 : decode cX10_breaks 29 = .ok (.ireturn, 1) := by decide +kernel
theorem dX10_put_0 : decode cX10_put 0 = .ok (.aload_n 0, 1) := by decide +kernel
theorem dX10_put_1 : decode cX10_put 1 = .ok (.getfield 10, 3) := by decide +kernel
theorem dX10_put_4 : decode cX10_put 4 = .ok (.iload_n 1, 1) := by decide +kernel
theorem dX10_put_5 : decode cX10_put 5 = .ok (.invokevirtual 129, 3) := by decide +kernel
theorem dX10_put_8 : decode cX10_put 8 = .ok (.ifCond .ne 5, 3) := by decide +kernel
theorem dX10_put_11 : decode cX10_put 11 = .ok (.iconst (-1), 1) := by decide +kernel
theorem dX10_put_12 : decode cX10_put 12 = .ok (.ireturn, 1) := by decide +kernel
theorem dX10_put_13 : decode cX10_put 13 = .ok (.aload_n 0, 1) := by decide +kernel
theorem dX10_put_14 : decode cX10_put 14 = .ok (.getfield 10, 3) := by decide +kernel
theorem dX10_put_17 : decode cX10_put 17 = .ok (.getfield 117, 3) := by decide +kernel
theorem dX10_put_20 : decode cX10_put 20 = .ok (.istore_n 2, 1) := by decide +kernel
theorem dX10_put_21 : decode cX10_put 21 = .ok (.aload_n 0, 1) := by decide +kernel
theorem dX10_put_22 : decode cX10_put 22 = .ok (.getfield 10, 3) := by decide +kernel
theorem dX10_put_25 : decode cX10_put 25 = .ok (.iload_n 1, 1) := by decide +kernel
theorem dX10_put_26 : decode cX10_put 26 = .ok (.putfield 117, 3) := by decide +kernel
theorem dX10_put_29 : decode cX10_put 29 = .ok (.iload_n 2, 1) := by decide +kernel
theorem dX10_put_30 : decode cX10_put 30 = .ok (.ireturn, 1) := by decide +kernel
theorem dX10_sends_0 : decode cX10_sends 0 = .ok (.iload_n 1, 1) := by decide +kernel
theorem dX10_sends_1 : decode cX10_sends 1 = .ok (.invokestatic 143, 3) := by decide +kernel
theorem dX10_sends_4 : decode cX10_sends 4 = .ok (.ifCond .ne 5, 3) := by decide +kernel
theorem dX10_sends_7 : decode cX10_sends 7 = .ok (.iconst (-1), 1) := by decide +kernel
theorem dX10_sends_8 : decode cX10_sends 8 = .ok (.ireturn, 1) := by decide +kernel
theorem dX10_sends_9 : decode cX10_sends 9 = .ok (.aload_n 0, 1) := by decide +kernel
theorem dX10_sends_10 : decode cX10_sends 10 = .ok (.getfield 10, 3) := by decide +kernel
theorem dX10_sends_13 : decode cX10_sends 13 = .ok (.invokevirtual 179, 3) := by decide +kernel
theorem dX10_sends_16 : decode cX10_sends 16 = .ok (.ifCond .eq 8, 3) := by decide +kernel
theorem dX10_sends_19 : decode cX10_sends 19 = .ok (.bipush (-2), 2) := by decide +kernel
theorem dX10_sends_21 : decode cX10_sends 21 = .ok (.goto 11, 3) := by decide +kernel
theorem dX10_sends_24 : decode cX10_sends 24 = .ok (.aload_n 0, 1) := by decide +kernel
theorem dX10_sends_25 : decode cX10_sends 25 = .ok (.getfield 10, 3) := by decide +kernel
theorem dX10_sends_28 : decode cX10_sends 28 = .ok (.iload_n 1, 1) := by decide +kernel
theorem dX10_sends_29 : decode cX10_sends 29 = .ok (.invokevirtual 182, 3) := by decide +kernel
theorem dX10_sends_32 : decode cX10_sends 32 = .ok (.ireturn, 1) := by decide +kernel
theorem dX10_net_0 : decode cX10_net 0 = .ok (.aload_n 0, 1) := by decide +kernel
theorem dX10_net_1 : decode cX10_net 1 = .ok (.getfield 10, 3) := by decide +kernel
theorem dX10_net_4 : decode cX10_net 4 = .ok (.iload_n 1, 1) := by decide +kernel
theorem dX10_net_5 : decode cX10_net 5 = .ok (.iload_n 2, 1) := by decide +kernel
theorem dX10_net_6 : decode cX10_net 6 = .ok (.invokevirtual 185, 3) := by decide +kernel
theorem dX10_net_9 : decode cX10_net 9 = .ok (.ifCond .ne 5, 3) := by decide +kernel
theorem dX10_net_12 : decode cX10_net 12 = .ok (.iconst (-1), 1) := by decide +kernel
theorem dX10_net_13 : decode cX10_net 13 = .ok (.ireturn, 1) := by decide +kernel
theorem dX10_net_14 : decode cX10_net 14 = .ok (.aload_n 0, 1) := by decide +kernel
theorem dX10_net_15 : decode cX10_net 15 = .ok (.getfield 10, 3) := by decide +kernel
theorem dX10_net_18 : decode cX10_net 18 = .ok (.invokevirtual 179, 3) := by decide +kernel
theorem dX10_net_21 : decode cX10_net 21 = .ok (.ifCond .eq 8, 3) := by decide +kernel
theorem dX10_net_24 : decode cX10_net 24 = .ok (.bipush (-2), 2) := by decide +kernel
theorem dX10_net_26 : decode cX10_net 26 = .ok (.goto 15, 3) := by decide +kernel
theorem dX10_net_29 : decode cX10_net 29 = .ok (.bipush 100, 2) := by decide +kernel
theorem dX10_net_31 : decode cX10_net 31 = .ok (.aload_n 0, 1) := by decide +kernel
theorem dX10_net_32 : decode cX10_net 32 = .ok (.getfield 10, 3) := by decide +kernel
theorem dX10_net_35 : decode cX10_net 35 = .ok (.iload_n 1, 1) := by decide +kernel
theorem dX10_net_36 : decode cX10_net 36 = .ok (.iload_n 2, 1) := by decide +kernel
theorem dX10_net_37 : decode cX10_net 37 = .ok (.invokevirtual 189, 3) := by decide +kernel
theorem dX10_net_40 : decode cX10_net 40 = .ok (.iadd, 1) := by decide +kernel
theorem dX10_net_41 : decode cX10_net 41 = .ok (.ireturn, 1) := by decide +kernel
theorem dX10_go_0 : decode cX10_go 0 = .ok (.aload_n 0, 1) := by decide +kernel
theorem dX10_go_1 : decode cX10_go 1 = .ok (.getfield 10, 3) := by decide +kernel
theorem dX10_go_4 : decode cX10_go 4 = .ok (.iload_n 1, 1) := by decide +kernel
theorem dX10_go_5 : decode cX10_go 5 = .ok (.iload_n 2, 1) := by decide +kernel
theorem dX10_go_6 : decode cX10_go 6 = .ok (.iload_n 3, 1) := by decide +kernel
theorem dX10_go_7 : decode cX10_go 7 = .ok (.invokevirtual 193, 3) := by decide +kernel
theorem dX10_go_10 : decode cX10_go 10 = .ok (.istore 4, 2) := by decide +kernel
theorem dX10_go_12 : decode cX10_go 12 = .ok (.iload 4, 2) := by decide +kernel
theorem dX10_go_14 : decode cX10_go 14 = .ok (.ifCond .eq 8, 3) := by decide +kernel
theorem dX10_go_17 : decode cX10_go 17 = .ok (.iload 4, 2) := by decide +kernel
theorem dX10_go_19 : decode cX10_go 19 = .ok (.goto 10, 3) := by decide +kernel
theorem dX10_go_22 : decode cX10_go 22 = .ok (.aload_n 0, 1) := by decide +kernel
theorem dX10_go_23 : decode cX10_go 23 = .ok (.getfield 10, 3) := by decide +kernel
theorem dX10_go_26 : decode cX10_go 26 = .ok (.getfield 117, 3) := by decide +kernel
theorem dX10_go_29 : decode cX10_go 29 = .ok (.ireturn, 1) := by decide +kernel
theorem dX10_ahead_0 : decode cX10_ahead 0 = .ok (.iload_n 1, 1) := by decide +kernel
theorem dX10_ahead_1 : decode cX10_ahead 1 = .ok (.iconst 0, 1) := by decide +kernel
theorem dX10_ahead_2 : decode cX10_ahead 2 = .ok (.bipush 60, 2) := by decide +kernel
theorem dX10_ahead_4 : decode cX10_ahead 4 = .ok (.invokestatic 81, 3) := by decide +kernel
theorem dX10_ahead_7 : decode cX10_ahead 7 = .ok (.ifCond .eq 18, 3) := by decide +kernel
theorem dX10_ahead_10 : decode cX10_ahead 10 = .ok (.aload_n 0, 1) := by decide +kernel
theorem dX10_ahead_11 : decode cX10_ahead 11 = .ok (.getfield 29, 3) := by decide +kernel
theorem dX10_ahead_14 : decode cX10_ahead 14 = .ok (.aload_n 0, 1) := by decide +kernel
theorem dX10_ahead_15 : decode cX10_ahead 15 = .ok (.getfield 10, 3) := by decide +kernel
theorem dX10_ahead_18 : decode cX10_ahead 18 = .ok (.iload_n 1, 1) := by decide +kernel
theorem dX10_ahead_19 : decode cX10_ahead 19 = .ok (.invokevirtual 197, 3) := by decide +kernel
theorem dX10_ahead_22 : decode cX10_ahead 22 = .ok (.goto 4, 3) := by decide +kernel
theorem dX10_ahead_25 : decode cX10_ahead 25 = .ok (.iconst (-1), 1) := by decide +kernel
theorem dX10_ahead_26 : decode cX10_ahead 26 = .ok (.ireturn, 1) := by decide +kernel
theorem dX10_over_0 : decode cX10_over 0 = .ok (.aload_n 0, 1) := by decide +kernel
theorem dX10_over_1 : decode cX10_over 1 = .ok (.getfield 29, 3) := by decide +kernel
theorem dX10_over_4 : decode cX10_over 4 = .ok (.aload_n 0, 1) := by decide +kernel
theorem dX10_over_5 : decode cX10_over 5 = .ok (.getfield 10, 3) := by decide +kernel
theorem dX10_over_8 : decode cX10_over 8 = .ok (.invokevirtual 201, 3) := by decide +kernel
theorem dX10_over_11 : decode cX10_over 11 = .ok (.ireturn, 1) := by decide +kernel
theorem dX10_odds_0 : decode cX10_odds 0 = .ok (.iload_n 1, 1) := by decide +kernel
theorem dX10_odds_1 : decode cX10_odds 1 = .ok (.iconst 0, 1) := by decide +kernel
theorem dX10_odds_2 : decode cX10_odds 2 = .ok (.bipush 8, 2) := by decide +kernel
theorem dX10_odds_4 : decode cX10_odds 4 = .ok (.invokestatic 81, 3) := by decide +kernel
theorem dX10_odds_7 : decode cX10_odds 7 = .ok (.ifCond .eq 23, 3) := by decide +kernel
theorem dX10_odds_10 : decode cX10_odds 10 = .ok (.aload_n 0, 1) := by decide +kernel
theorem dX10_odds_11 : decode cX10_odds 11 = .ok (.getfield 10, 3) := by decide +kernel
theorem dX10_odds_14 : decode cX10_odds 14 = .ok (.iload_n 2, 1) := by decide +kernel
theorem dX10_odds_15 : decode cX10_odds 15 = .ok (.invokevirtual 205, 3) := by decide +kernel
theorem dX10_odds_18 : decode cX10_odds 18 = .ok (.ifCond .eq 12, 3) := by decide +kernel
theorem dX10_odds_21 : decode cX10_odds 21 = .ok (.iload_n 3, 1) := by decide +kernel
theorem dX10_odds_22 : decode cX10_odds 22 = .ok (.iconst 0, 1) := by decide +kernel
theorem dX10_odds_23 : decode cX10_odds 23 = .ok (.iconst 1, 1) := by decide +kernel
theorem dX10_odds_24 : decode cX10_odds 24 = .ok (.invokestatic 81, 3) := by decide +kernel
theorem dX10_odds_27 : decode cX10_odds 27 = .ok (.ifCond .ne 7, 3) := by decide +kernel
theorem dX10_odds_30 : decode cX10_odds 30 = .ok (.ldc2_w 208, 3) := by decide +kernel
theorem dX10_odds_33 : decode cX10_odds 33 = .ok (.lreturn, 1) := by decide +kernel
theorem dX10_odds_34 : decode cX10_odds 34 = .ok (.aload_n 0, 1) := by decide +kernel
theorem dX10_odds_35 : decode cX10_odds 35 = .ok (.getfield 36, 3) := by decide +kernel
theorem dX10_odds_38 : decode cX10_odds 38 = .ok (.aload_n 0, 1) := by decide +kernel
theorem dX10_odds_39 : decode cX10_odds 39 = .ok (.getfield 10, 3) := by decide +kernel
theorem dX10_odds_42 : decode cX10_odds 42 = .ok (.iload_n 1, 1) := by decide +kernel
theorem dX10_odds_43 : decode cX10_odds 43 = .ok (.invokevirtual 210, 3) := by decide +kernel
theorem dX10_odds_46 : decode cX10_odds 46 = .ok (.aload_n 0, 1) := by decide +kernel
theorem dX10_odds_47 : decode cX10_odds 47 = .ok (.getfield 36, 3) := by decide +kernel
theorem dX10_odds_50 : decode cX10_odds 50 = .ok (.aload_n 0, 1) := by decide +kernel
theorem dX10_odds_51 : decode cX10_odds 51 = .ok (.getfield 10, 3) := by decide +kernel
theorem dX10_odds_54 : decode cX10_odds 54 = .ok (.iload_n 2, 1) := by decide +kernel
theorem dX10_odds_55 : decode cX10_odds 55 = .ok (.invokevirtual 214, 3) := by decide +kernel
theorem dX10_odds_58 : decode cX10_odds 58 = .ok (.invokevirtual 217, 3) := by decide +kernel
theorem dX10_odds_61 : decode cX10_odds 61 = .ok (.aload_n 0, 1) := by decide +kernel
theorem dX10_odds_62 : decode cX10_odds 62 = .ok (.getfield 36, 3) := by decide +kernel
theorem dX10_odds_65 : decode cX10_odds 65 = .ok (.getfield 221, 3) := by decide +kernel
theorem dX10_odds_68 : decode cX10_odds 68 = .ok (.iload_n 3, 1) := by decide +kernel
theorem dX10_odds_69 : decode cX10_odds 69 = .ok (.invokestatic 225, 3) := by decide +kernel
theorem dX10_odds_72 : decode cX10_odds 72 = .ok (.lreturn, 1) := by decide +kernel
theorem dX10_mean_0 : decode cX10_mean 0 = .ok (.iload_n 1, 1) := by decide +kernel
theorem dX10_mean_1 : decode cX10_mean 1 = .ok (.iconst 0, 1) := by decide +kernel
theorem dX10_mean_2 : decode cX10_mean 2 = .ok (.bipush 8, 2) := by decide +kernel
theorem dX10_mean_4 : decode cX10_mean 4 = .ok (.invokestatic 81, 3) := by decide +kernel
theorem dX10_mean_7 : decode cX10_mean 7 = .ok (.ifCond .eq 12, 3) := by decide +kernel
theorem dX10_mean_10 : decode cX10_mean 10 = .ok (.iload_n 2, 1) := by decide +kernel
theorem dX10_mean_11 : decode cX10_mean 11 = .ok (.iconst 0, 1) := by decide +kernel
theorem dX10_mean_12 : decode cX10_mean 12 = .ok (.iconst 1, 1) := by decide +kernel
theorem dX10_mean_13 : decode cX10_mean 13 = .ok (.invokestatic 81, 3) := by decide +kernel
theorem dX10_mean_16 : decode cX10_mean 16 = .ok (.ifCond .ne 7, 3) := by decide +kernel
theorem dX10_mean_19 : decode cX10_mean 19 = .ok (.ldc2_w 208, 3) := by decide +kernel
theorem dX10_mean_22 : decode cX10_mean 22 = .ok (.lreturn, 1) := by decide +kernel
theorem dX10_mean_23 : decode cX10_mean 23 = .ok (.aload_n 0, 1) := by decide +kernel
theorem dX10_mean_24 : decode cX10_mean 24 = .ok (.getfield 36, 3) := by decide +kernel
theorem dX10_mean_27 : decode cX10_mean 27 = .ok (.aload_n 0, 1) := by decide +kernel
theorem dX10_mean_28 : decode cX10_mean 28 = .ok (.getfield 10, 3) := by decide +kernel
theorem dX10_mean_31 : decode cX10_mean 31 = .ok (.iload_n 1, 1) := by decide +kernel
theorem dX10_mean_32 : decode cX10_mean 32 = .ok (.invokevirtual 210, 3) := by decide +kernel
theorem dX10_mean_35 : decode cX10_mean 35 = .ok (.aload_n 0, 1) := by decide +kernel
theorem dX10_mean_36 : decode cX10_mean 36 = .ok (.getfield 36, 3) := by decide +kernel
theorem dX10_mean_39 : decode cX10_mean 39 = .ok (.invokevirtual 229, 3) := by decide +kernel
theorem dX10_mean_42 : decode cX10_mean 42 = .ok (.aload_n 0, 1) := by decide +kernel
theorem dX10_mean_43 : decode cX10_mean 43 = .ok (.getfield 36, 3) := by decide +kernel
theorem dX10_mean_46 : decode cX10_mean 46 = .ok (.getfield 221, 3) := by decide +kernel
theorem dX10_mean_49 : decode cX10_mean 49 = .ok (.iload_n 2, 1) := by decide +kernel
theorem dX10_mean_50 : decode cX10_mean 50 = .ok (.invokestatic 225, 3) := by decide +kernel
theorem dX10_mean_53 : decode cX10_mean 53 = .ok (.lreturn, 1) := by decide +kernel
theorem dX10_reply_0 : decode cX10_reply 0 = .ok (.iload_n 1, 1) := by decide +kernel
theorem dX10_reply_1 : decode cX10_reply 1 = .ok (.invokestatic 143, 3) := by decide +kernel
theorem dX10_reply_4 : decode cX10_reply 4 = .ok (.ifCond .eq 29, 3) := by decide +kernel
theorem dX10_reply_7 : decode cX10_reply 7 = .ok (.iload_n 2, 1) := by decide +kernel
theorem dX10_reply_8 : decode cX10_reply 8 = .ok (.iconst 1, 1) := by decide +kernel
theorem dX10_reply_9 : decode cX10_reply 9 = .ok (.iconst 4, 1) := by decide +kernel
theorem dX10_reply_10 : decode cX10_reply 10 = .ok (.invokestatic 81, 3) := by decide +kernel
theorem dX10_reply_13 : decode cX10_reply 13 = .ok (.ifCond .eq 20, 3) := by decide +kernel
theorem dX10_reply_16 : decode cX10_reply 16 = .ok (.iload_n 3, 1) := by decide +kernel
theorem dX10_reply_17 : decode cX10_reply 17 = .ok (.ifCond .eq 18, 3) := by decide +kernel
theorem dX10_reply_20 : decode cX10_reply 20 = .ok (.iload_n 3, 1) := by decide +kernel
theorem dX10_reply_21 : decode cX10_reply 21 = .ok (.bipush 10, 2) := by decide +kernel
theorem dX10_reply_23 : decode cX10_reply 23 = .ok (.bipush 9, 2) := by decide +kernel
theorem dX10_reply_25 : decode cX10_reply 25 = .ok (.iload_n 2, 1) := by decide +kernel
theorem dX10_reply_26 : decode cX10_reply 26 = .ok (.iadd, 1) := by decide +kernel
theorem dX10_reply_27 : decode cX10_reply 27 = .ok (.invokestatic 81, 3) := by decide +kernel
theorem dX10_reply_30 : decode cX10_reply 30 = .ok (.ifCond .ne 5, 3) := by decide +kernel
theorem dX10_reply_33 : decode cX10_reply 33 = .ok (.iconst (-1), 1) := by decide +kernel
theorem dX10_reply_34 : decode cX10_reply 34 = .ok (.ireturn, 1) := by decide +kernel
theorem dX10_reply_35 : decode cX10_reply 35 = .ok (.aload_n 0, 1) := by decide +kernel
theorem dX10_reply_36 : decode cX10_reply 36 = .ok (.getfield 10, 3) := by decide +kernel
theorem dX10_reply_39 : decode cX10_reply 39 = .ok (.invokevirtual 179, 3) := by decide +kernel
theorem dX10_reply_42 : decode cX10_reply 42 = .ok (.ifCond .eq 6, 3) := by decide +kernel
theorem dX10_reply_45 : decode cX10_reply 45 = .ok (.bipush (-2), 2) := by decide +kernel
theorem dX10_reply_47 : decode cX10_reply 47 = .ok (.ireturn, 1) := by decide +kernel
theorem dX10_reply_48 : decode cX10_reply 48 = .ok (.aload_n 0, 1) := by decide +kernel
theorem dX10_reply_49 : decode cX10_reply 49 = .ok (.getfield 43, 3) := by decide +kernel
theorem dX10_reply_52 : decode cX10_reply 52 = .ok (.aload_n 0, 1) := by decide +kernel
theorem dX10_reply_53 : decode cX10_reply 53 = .ok (.getfield 10, 3) := by decide +kernel
theorem dX10_reply_56 : decode cX10_reply 56 = .ok (.iload_n 1, 1) := by decide +kernel
theorem dX10_reply_57 : decode cX10_reply 57 = .ok (.iload_n 2, 1) := by decide +kernel
theorem dX10_reply_58 : decode cX10_reply 58 = .ok (.invokevirtual 233, 3) := by decide +kernel
theorem dX10_reply_61 : decode cX10_reply 61 = .ok (.iload_n 3, 1) := by decide +kernel
theorem dX10_reply_62 : decode cX10_reply 62 = .ok (.ifCond .ne 13, 3) := by decide +kernel
theorem dX10_reply_65 : decode cX10_reply 65 = .ok (.aload_n 0, 1) := by decide +kernel
theorem dX10_reply_66 : decode cX10_reply 66 = .ok (.getfield 43, 3) := by decide +kernel
theorem dX10_reply_69 : decode cX10_reply 69 = .ok (.getfield 237, 3) := by decide +kernel
theorem dX10_reply_72 : decode cX10_reply 72 = .ok (.goto 14, 3) := by decide +kernel
theorem dX10_reply_75 : decode cX10_reply 75 = .ok (.aload_n 0, 1) := by decide +kernel
theorem dX10_reply_76 : decode cX10_reply 76 = .ok (.getfield 43, 3) := by decide +kernel
theorem dX10_reply_79 : decode cX10_reply 79 = .ok (.iload_n 3, 1) := by decide +kernel
theorem dX10_reply_80 : decode cX10_reply 80 = .ok (.bipush 10, 2) := by decide +kernel
theorem dX10_reply_82 : decode cX10_reply 82 = .ok (.isub, 1) := by decide +kernel
theorem dX10_reply_83 : decode cX10_reply 83 = .ok (.invokevirtual 238, 3) := by decide +kernel
theorem dX10_reply_86 : decode cX10_reply 86 = .ok (.ireturn, 1) := by decide +kernel
theorem dX10_hold_0 : decode cX10_hold 0 = .ok (.iload_n 1, 1) := by decide +kernel
theorem dX10_hold_1 : decode cX10_hold 1 = .ok (.invokestatic 143, 3) := by decide +kernel
theorem dX10_hold_4 : decode cX10_hold 4 = .ok (.ifCond .eq 24, 3) := by decide +kernel
theorem dX10_hold_7 : decode cX10_hold 7 = .ok (.aload_n 0, 1) := by decide +kernel
theorem dX10_hold_8 : decode cX10_hold 8 = .ok (.getfield 10, 3) := by decide +kernel
theorem dX10_hold_11 : decode cX10_hold 11 = .ok (.iload_n 2, 1) := by decide +kernel
theorem dX10_hold_12 : decode cX10_hold 12 = .ok (.invokevirtual 129, 3) := by decide +kernel
theorem dX10_hold_15 : decode cX10_hold 15 = .ok (.ifCond .eq 13, 3) := by decide +kernel
theorem dX10_hold_18 : decode cX10_hold 18 = .ok (.iload_n 3, 1) := by decide +kernel
theorem dX10_hold_19 : decode cX10_hold 19 = .ok (.iconst 1, 1) := by decide +kernel
theorem dX10_hold_20 : decode cX10_hold 20 = .ok (.bipush 20, 2) := by decide +kernel
theorem dX10_hold_22 : decode cX10_hold 22 = .ok (.invokestatic 81, 3) := by decide +kernel
theorem dX10_hold_25 : decode cX10_hold 25 = .ok (.ifCond .ne 5, 3) := by decide +kernel
theorem dX10_hold_28 : decode cX10_hold 28 = .ok (.iconst (-1), 1) := by decide +kernel
theorem dX10_hold_29 : decode cX10_hold 29 = .ok (.ireturn, 1) := by decide +kernel
theorem dX10_hold_30 : decode cX10_hold 30 = .ok (.aload_n 0, 1) := by decide +kernel
theorem dX10_hold_31 : decode cX10_hold 31 = .ok (.getfield 10, 3) := by decide +kernel
theorem dX10_hold_34 : decode cX10_hold 34 = .ok (.invokevirtual 179, 3) := by decide +kernel
theorem dX10_hold_37 : decode cX10_hold 37 = .ok (.ifCond .eq 8, 3) := by decide +kernel
theorem dX10_hold_40 : decode cX10_hold 40 = .ok (.bipush (-2), 2) := by decide +kernel
theorem dX10_hold_42 : decode cX10_hold 42 = .ok (.goto 17, 3) := by decide +kernel
theorem dX10_hold_45 : decode cX10_hold 45 = .ok (.aload_n 0, 1) := by decide +kernel
theorem dX10_hold_46 : decode cX10_hold 46 = .ok (.getfield 29, 3) := by decide +kernel
theorem dX10_hold_49 : decode cX10_hold 49 = .ok (.aload_n 0, 1) := by decide +kernel
theorem dX10_hold_50 : decode cX10_hold 50 = .ok (.getfield 10, 3) := by decide +kernel
theorem dX10_hold_53 : decode cX10_hold 53 = .ok (.iload_n 1, 1) := by decide +kernel
theorem dX10_hold_54 : decode cX10_hold 54 = .ok (.iload_n 2, 1) := by decide +kernel
theorem dX10_hold_55 : decode cX10_hold 55 = .ok (.iload_n 3, 1) := by decide +kernel
theorem dX10_hold_56 : decode cX10_hold 56 = .ok (.invokevirtual 241, 3) := by decide +kernel
theorem dX10_hold_59 : decode cX10_hold 59 = .ok (.ireturn, 1) := by decide +kernel
theorem dX10_table_0 : decode cX10_table 0 = .ok (.iload_n 1, 1) := by decide +kernel
theorem dX10_table_1 : decode cX10_table 1 = .ok (.invokestatic 170, 3) := by decide +kernel
theorem dX10_table_4 : decode cX10_table 4 = .ok (.ifCond .eq 20, 3) := by decide +kernel
theorem dX10_table_7 : decode cX10_table 7 = .ok (.iload_n 2, 1) := by decide +kernel
theorem dX10_table_8 : decode cX10_table 8 = .ok (.invokestatic 170, 3) := by decide +kernel
theorem dX10_table_11 : decode cX10_table 11 = .ok (.ifCond .eq 13, 3) := by decide +kernel
theorem dX10_table_14 : decode cX10_table 14 = .ok (.iload_n 3, 1) := by decide +kernel
theorem dX10_table_15 : decode cX10_table 15 = .ok (.iconst 0, 1) := by decide +kernel
theorem dX10_table_16 : decode cX10_table 16 = .ok (.bipush 60, 2) := by decide +kernel
theorem dX10_table_18 : decode cX10_table 18 = .ok (.invokestatic 81, 3) := by decide +kernel
theorem dX10_table_21 : decode cX10_table 21 = .ok (.ifCond .ne 5, 3) := by decide +kernel
theorem dX10_table_24 : decode cX10_table 24 = .ok (.iconst (-1), 1) := by decide +kernel
theorem dX10_table_25 : decode cX10_table 25 = .ok (.ireturn, 1) := by decide +kernel
theorem dX10_table_26 : decode cX10_table 26 = .ok (.aload_n 0, 1) := by decide +kernel
theorem dX10_table_27 : decode cX10_table 27 = .ok (.getfield 29, 3) := by decide +kernel
theorem dX10_table_30 : decode cX10_table 30 = .ok (.aload_n 0, 1) := by decide +kernel
theorem dX10_table_31 : decode cX10_table 31 = .ok (.getfield 10, 3) := by decide +kernel
theorem dX10_table_34 : decode cX10_table 34 = .ok (.iload_n 1, 1) := by decide +kernel
theorem dX10_table_35 : decode cX10_table 35 = .ok (.iload_n 2, 1) := by decide +kernel
theorem dX10_table_36 : decode cX10_table 36 = .ok (.iload_n 3, 1) := by decide +kernel
theorem dX10_table_37 : decode cX10_table 37 = .ok (.invokevirtual 245, 3) := by decide +kernel
theorem dX10_table_40 : decode cX10_table 40 = .ok (.ireturn, 1) := by decide +kernel
theorem dX10_without_0 : decode cX10_without 0 = .ok (.aload_n 0, 1) := by decide +kernel
theorem dX10_without_1 : decode cX10_without 1 = .ok (.getfield 10, 3) := by decide +kernel
theorem dX10_without_4 : decode cX10_without 4 = .ok (.iload_n 1, 1) := by decide +kernel
theorem dX10_without_5 : decode cX10_without 5 = .ok (.invokevirtual 129, 3) := by decide +kernel
theorem dX10_without_8 : decode cX10_without 8 = .ok (.ifCond .eq 29, 3) := by decide +kernel
theorem dX10_without_11 : decode cX10_without 11 = .ok (.iload_n 2, 1) := by decide +kernel
theorem dX10_without_12 : decode cX10_without 12 = .ok (.iconst 0, 1) := by decide +kernel
theorem dX10_without_13 : decode cX10_without 13 = .ok (.bipush 60, 2) := by decide +kernel
theorem dX10_without_15 : decode cX10_without 15 = .ok (.invokestatic 81, 3) := by decide +kernel
theorem dX10_without_18 : decode cX10_without 18 = .ok (.ifCond .eq 19, 3) := by decide +kernel
theorem dX10_without_21 : decode cX10_without 21 = .ok (.aload_n 0, 1) := by decide +kernel
theorem dX10_without_22 : decode cX10_without 22 = .ok (.getfield 29, 3) := by decide +kernel
theorem dX10_without_25 : decode cX10_without 25 = .ok (.aload_n 0, 1) := by decide +kernel
theorem dX10_without_26 : decode cX10_without 26 = .ok (.getfield 10, 3) := by decide +kernel
theorem dX10_without_29 : decode cX10_without 29 = .ok (.iload_n 1, 1) := by decide +kernel
theorem dX10_without_30 : decode cX10_without 30 = .ok (.iload_n 2, 1) := by decide +kernel
theorem dX10_without_31 : decode cX10_without 31 = .ok (.invokevirtual 248, 3) := by decide +kernel
theorem dX10_without_34 : decode cX10_without 34 = .ok (.goto 4, 3) := by decide +kernel
theorem dX10_without_37 : decode cX10_without 37 = .ok (.iconst (-1), 1) := by decide +kernel
theorem dX10_without_38 : decode cX10_without 38 = .ok (.ireturn, 1) := by decide +kernel
theorem dX10_tell_0 : decode cX10_tell 0 = .ok (.iload_n 1, 1) := by decide +kernel
theorem dX10_tell_1 : decode cX10_tell 1 = .ok (.iconst 0, 1) := by decide +kernel
theorem dX10_tell_2 : decode cX10_tell 2 = .ok (.bipush 12, 2) := by decide +kernel
theorem dX10_tell_4 : decode cX10_tell 4 = .ok (.invokestatic 81, 3) := by decide +kernel
theorem dX10_tell_7 : decode cX10_tell 7 = .ok (.ifCond .eq 14, 3) := by decide +kernel
theorem dX10_tell_10 : decode cX10_tell 10 = .ok (.aload_n 0, 1) := by decide +kernel
theorem dX10_tell_11 : decode cX10_tell 11 = .ok (.getfield 10, 3) := by decide +kernel
theorem dX10_tell_14 : decode cX10_tell 14 = .ok (.iload_n 2, 1) := by decide +kernel
theorem dX10_tell_15 : decode cX10_tell 15 = .ok (.invokevirtual 205, 3) := by decide +kernel
theorem dX10_tell_18 : decode cX10_tell 18 = .ok (.ifCond .ne 5, 3) := by decide +kernel
theorem dX10_tell_21 : decode cX10_tell 21 = .ok (.iconst (-1), 1) := by decide +kernel
theorem dX10_tell_22 : decode cX10_tell 22 = .ok (.ireturn, 1) := by decide +kernel
theorem dX10_tell_23 : decode cX10_tell 23 = .ok (.aload_n 0, 1) := by decide +kernel
theorem dX10_tell_24 : decode cX10_tell 24 = .ok (.getfield 50, 3) := by decide +kernel
theorem dX10_tell_27 : decode cX10_tell 27 = .ok (.iload_n 1, 1) := by decide +kernel
theorem dX10_tell_28 : decode cX10_tell 28 = .ok (.iload_n 2, 1) := by decide +kernel
theorem dX10_tell_29 : decode cX10_tell 29 = .ok (.invokevirtual 252, 3) := by decide +kernel
theorem dX10_tell_32 : decode cX10_tell 32 = .ok (.ifCond .eq 13, 3) := by decide +kernel
theorem dX10_tell_35 : decode cX10_tell 35 = .ok (.aload_n 0, 1) := by decide +kernel
theorem dX10_tell_36 : decode cX10_tell 36 = .ok (.getfield 50, 3) := by decide +kernel
theorem dX10_tell_39 : decode cX10_tell 39 = .ok (.getfield 108, 3) := by decide +kernel
theorem dX10_tell_42 : decode cX10_tell 42 = .ok (.goto 5, 3) := by decide +kernel
theorem dX10_tell_45 : decode cX10_tell 45 = .ok (.bipush (-3), 2) := by decide +kernel
theorem dX10_tell_47 : decode cX10_tell 47 = .ok (.ireturn, 1) := by decide +kernel
theorem dX10_forget_0 : decode cX10_forget 0 = .ok (.iload_n 1, 1) := by decide +kernel
theorem dX10_forget_1 : decode cX10_forget 1 = .ok (.iconst 0, 1) := by decide +kernel
theorem dX10_forget_2 : decode cX10_forget 2 = .ok (.aload_n 0, 1) := by decide +kernel
theorem dX10_forget_3 : decode cX10_forget 3 = .ok (.getfield 50, 3) := by decide +kernel
theorem dX10_forget_6 : decode cX10_forget 6 = .ok (.getfield 108, 3) := by decide +kernel
theorem dX10_forget_9 : decode cX10_forget 9 = .ok (.invokestatic 81, 3) := by decide +kernel
theorem dX10_forget_12 : decode cX10_forget 12 = .ok (.ifCond .ne 5, 3) := by decide +kernel
theorem dX10_forget_15 : decode cX10_forget 15 = .ok (.iconst (-1), 1) := by decide +kernel
theorem dX10_forget_16 : decode cX10_forget 16 = .ok (.ireturn, 1) := by decide +kernel
theorem dX10_forget_17 : decode cX10_forget 17 = .ok (.aload_n 0, 1) := by decide +kernel
theorem dX10_forget_18 : decode cX10_forget 18 = .ok (.getfield 50, 3) := by decide +kernel
theorem dX10_forget_21 : decode cX10_forget 21 = .ok (.getfield 108, 3) := by decide +kernel
theorem dX10_forget_24 : decode cX10_forget 24 = .ok (.istore_n 2, 1) := by decide +kernel
theorem dX10_forget_25 : decode cX10_forget 25 = .ok (.aload_n 0, 1) := by decide +kernel
theorem dX10_forget_26 : decode cX10_forget 26 = .ok (.getfield 50, 3) := by decide +kernel
theorem dX10_forget_29 : decode cX10_forget 29 = .ok (.iload_n 1, 1) := by decide +kernel
theorem dX10_forget_30 : decode cX10_forget 30 = .ok (.putfield 108, 3) := by decide +kernel
theorem dX10_forget_33 : decode cX10_forget 33 = .ok (.iload_n 2, 1) := by decide +kernel
theorem dX10_forget_34 : decode cX10_forget 34 = .ok (.ireturn, 1) := by decide +kernel
theorem dX10_lies_0 : decode cX10_lies 0 = .ok (.aload_n 0, 1) := by decide +kernel
theorem dX10_lies_1 : decode cX10_lies 1 = .ok (.getfield 29, 3) := by decide +kernel
theorem dX10_lies_4 : decode cX10_lies 4 = .ok (.aload_n 0, 1) := by decide +kernel
theorem dX10_lies_5 : decode cX10_lies 5 = .ok (.getfield 10, 3) := by decide +kernel
theorem dX10_lies_8 : decode cX10_lies 8 = .ok (.aload_n 0, 1) := by decide +kernel
theorem dX10_lies_9 : decode cX10_lies 9 = .ok (.getfield 10, 3) := by decide +kernel
theorem dX10_lies_12 : decode cX10_lies 12 = .ok (.getfield 117, 3) := by decide +kernel
theorem dX10_lies_15 : decode cX10_lies 15 = .ok (.aload_n 0, 1) := by decide +kernel
theorem dX10_lies_16 : decode cX10_lies 16 = .ok (.getfield 50, 3) := by decide +kernel
theorem dX10_lies_19 : decode cX10_lies 19 = .ok (.invokevirtual 255, 3) := by decide +kernel
theorem dX10_lies_22 : decode cX10_lies 22 = .ok (.ireturn, 1) := by decide +kernel
theorem dX10_where_0 : decode cX10_where 0 = .ok (.iconst 0, 1) := by decide +kernel
theorem dX10_where_1 : decode cX10_where 1 = .ok (.istore_n 1, 1) := by decide +kernel
theorem dX10_where_2 : decode cX10_where 2 = .ok (.iconst 0, 1) := by decide +kernel
theorem dX10_where_3 : decode cX10_where 3 = .ok (.istore_n 2, 1) := by decide +kernel
theorem dX10_where_4 : decode cX10_where 4 = .ok (.iload_n 2, 1) := by decide +kernel
theorem dX10_where_5 : decode cX10_where 5 = .ok (.aload_n 0, 1) := by decide +kernel
theorem dX10_where_6 : decode cX10_where 6 = .ok (.getfield 10, 3) := by decide +kernel
theorem dX10_where_9 : decode cX10_where 9 = .ok (.getfield 114, 3) := by decide +kernel
theorem dX10_where_12 : decode cX10_where 12 = .ok (.if_icmp .ge 34, 3) := by decide +kernel
theorem dX10_where_15 : decode cX10_where 15 = .ok (.aload_n 0, 1) := by decide +kernel
theorem dX10_where_16 : decode cX10_where 16 = .ok (.getfield 29, 3) := by decide +kernel
theorem dX10_where_19 : decode cX10_where 19 = .ok (.aload_n 0, 1) := by decide +kernel
theorem dX10_where_20 : decode cX10_where 20 = .ok (.getfield 10, 3) := by decide +kernel
theorem dX10_where_23 : decode cX10_where 23 = .ok (.iload_n 2, 1) := by decide +kernel
theorem dX10_where_24 : decode cX10_where 24 = .ok (.aload_n 0, 1) := by decide +kernel
theorem dX10_where_25 : decode cX10_where 25 = .ok (.getfield 50, 3) := by decide +kernel
theorem dX10_where_28 : decode cX10_where 28 = .ok (.invokevirtual 255, 3) := by decide +kernel
theorem dX10_where_31 : decode cX10_where 31 = .ok (.ifCond .ne 9, 3) := by decide +kernel
theorem dX10_where_34 : decode cX10_where 34 = .ok (.iload_n 1, 1) := by decide +kernel
theorem dX10_where_35 : decode cX10_where 35 = .ok (.iconst 1, 1) := by decide +kernel
theorem dX10_where_36 : decode cX10_where 36 = .ok (.iload_n 2, 1) := by decide +kernel
theorem dX10_where_37 : decode cX10_where 37 = .ok (.ishl, 1) := by decide +kernel
theorem dX10_where_38 : decode cX10_where 38 = .ok (.ior, 1) := by decide +kernel
theorem dX10_where_39 : decode cX10_where 39 = .ok (.istore_n 1, 1) := by decide +kernel
theorem dX10_where_40 : decode cX10_where 40 = .ok (.iinc 2 1, 3) := by decide +kernel
theorem dX10_where_43 : decode cX10_where 43 = .ok (.goto (-39), 3) := by decide +kernel
theorem dX10_where_46 : decode cX10_where 46 = .ok (.iload_n 1, 1) := by decide +kernel
theorem dX10_where_47 : decode cX10_where 47 = .ok (.ireturn, 1) := by decide +kernel
theorem dX10_play_0 : decode cX10_play 0 = .ok (.iload_n 2, 1) := by decide +kernel
theorem dX10_play_1 : decode cX10_play 1 = .ok (.iconst 1, 1) := by decide +kernel
theorem dX10_play_2 : decode cX10_play 2 = .ok (.bipush 60, 2) := by decide +kernel
theorem dX10_play_4 : decode cX10_play 4 = .ok (.invokestatic 81, 3) := by decide +kernel
theorem dX10_play_7 : decode cX10_play 7 = .ok (.ifCond .eq 12, 3) := by decide +kernel
theorem dX10_play_10 : decode cX10_play 10 = .ok (.iload_n 3, 1) := by decide +kernel
theorem dX10_play_11 : decode cX10_play 11 = .ok (.iconst 0, 1) := by decide +kernel
theorem dX10_play_12 : decode cX10_play 12 = .ok (.iconst 1, 1) := by decide +kernel
theorem dX10_play_13 : decode cX10_play 13 = .ok (.invokestatic 81, 3) := by decide +kernel
theorem dX10_play_16 : decode cX10_play 16 = .ok (.ifCond .ne 5, 3) := by decide +kernel
theorem dX10_play_19 : decode cX10_play 19 = .ok (.iconst (-1), 1) := by decide +kernel
theorem dX10_play_20 : decode cX10_play 20 = .ok (.ireturn, 1) := by decide +kernel
theorem dX10_play_21 : decode cX10_play 21 = .ok (.aload_n 0, 1) := by decide +kernel
theorem dX10_play_22 : decode cX10_play 22 = .ok (.getfield 29, 3) := by decide +kernel
theorem dX10_play_25 : decode cX10_play 25 = .ok (.aload_n 0, 1) := by decide +kernel
theorem dX10_play_26 : decode cX10_play 26 = .ok (.getfield 10, 3) := by decide +kernel
theorem dX10_play_29 : decode cX10_play 29 = .ok (.iload_n 1, 1) := by decide +kernel
theorem dX10_play_30 : decode cX10_play 30 = .ok (.iload_n 2, 1) := by decide +kernel
theorem dX10_play_31 : decode cX10_play 31 = .ok (.invokevirtual 259, 3) := by decide +kernel
theorem dX10_play_34 : decode cX10_play 34 = .ok (.istore 4, 2) := by decide +kernel
theorem dX10_play_36 : decode cX10_play 36 = .ok (.iload_n 3, 1) := by decide +kernel
theorem dX10_play_37 : decode cX10_play 37 = .ok (.ifCond .ne 16, 3) := by decide +kernel
theorem dX10_play_40 : decode cX10_play 40 = .ok (.aload_n 0, 1) := by decide +kernel
theorem dX10_play_41 : decode cX10_play 41 = .ok (.getfield 29, 3) := by decide +kernel
theorem dX10_play_44 : decode cX10_play 44 = .ok (.getfield 262, 3) := by decide +kernel
theorem dX10_play_47 : decode cX10_play 47 = .ok (.getfield 117, 3) := by decide +kernel
theorem dX10_play_50 : decode cX10_play 50 = .ok (.goto 5, 3) := by decide +kernel
theorem dX10_play_53 : decode cX10_play 53 = .ok (.iload 4, 2) := by decide +kernel
theorem dX10_play_55 : decode cX10_play 55 = .ok (.ireturn, 1) := by decide +kernel
theorem dX10_keep_0 : decode cX10_keep 0 = .ok (.iload_n 1, 1) := by decide +kernel
theorem dX10_keep_1 : decode cX10_keep 1 = .ok (.invokestatic 265, 3) := by decide +kernel
theorem dX10_keep_4 : decode cX10_keep 4 = .ok (.ifCond .ne 5, 3) := by decide +kernel
theorem dX10_keep_7 : decode cX10_keep 7 = .ok (.iconst (-1), 1) := by decide +kernel
theorem dX10_keep_8 : decode cX10_keep 8 = .ok (.ireturn, 1) := by decide +kernel
theorem dX10_keep_9 : decode cX10_keep 9 = .ok (.aload_n 0, 1) := by decide +kernel
theorem dX10_keep_10 : decode cX10_keep 10 = .ok (.getfield 111, 3) := by decide +kernel
theorem dX10_keep_13 : decode cX10_keep 13 = .ok (.iload_n 1, 1) := by decide +kernel
theorem dX10_keep_14 : decode cX10_keep 14 = .ok (.ishr, 1) := by decide +kernel
theorem dX10_keep_15 : decode cX10_keep 15 = .ok (.iconst 1, 1) := by decide +kernel
theorem dX10_keep_16 : decode cX10_keep 16 = .ok (.iand, 1) := by decide +kernel
theorem dX10_keep_17 : decode cX10_keep 17 = .ok (.istore_n 2, 1) := by decide +kernel
theorem dX10_keep_18 : decode cX10_keep 18 = .ok (.aload_n 0, 1) := by decide +kernel
theorem dX10_keep_19 : decode cX10_keep 19 = .ok (.iload_n 1, 1) := by decide +kernel
theorem dX10_keep_20 : decode cX10_keep 20 = .ok (.invokevirtual 268, 3) := by decide +kernel
theorem dX10_keep_23 : decode cX10_keep 23 = .ok (.aload_n 0, 1) := by decide +kernel
theorem dX10_keep_24 : decode cX10_keep 24 = .ok (.getfield 10, 3) := by decide +kernel
theorem dX10_keep_27 : decode cX10_keep 27 = .ok (.invokevirtual 104, 3) := by decide +kernel
theorem dX10_keep_30 : decode cX10_keep 30 = .ok (.aload_n 0, 1) := by decide +kernel
theorem dX10_keep_31 : decode cX10_keep 31 = .ok (.dup, 1) := by decide +kernel
theorem dX10_keep_32 : decode cX10_keep 32 = .ok (.getfield 111, 3) := by decide +kernel
theorem dX10_keep_35 : decode cX10_keep 35 = .ok (.iconst 1, 1) := by decide +kernel
theorem dX10_keep_36 : decode cX10_keep 36 = .ok (.iload_n 1, 1) := by decide +kernel
theorem dX10_keep_37 : decode cX10_keep 37 = .ok (.ishl, 1) := by decide +kernel
theorem dX10_keep_38 : decode cX10_keep 38 = .ok (.ior, 1) := by decide +kernel
theorem dX10_keep_39 : decode cX10_keep 39 = .ok (.putfield 111, 3) := by decide +kernel
theorem dX10_keep_42 : decode cX10_keep 42 = .ok (.iload_n 2, 1) := by decide +kernel
theorem dX10_keep_43 : decode cX10_keep 43 = .ok (.ireturn, 1) := by decide +kernel
theorem dX10_back_0 : decode cX10_back 0 = .ok (.iload_n 1, 1) := by decide +kernel
theorem dX10_back_1 : decode cX10_back 1 = .ok (.invokestatic 265, 3) := by decide +kernel
theorem dX10_back_4 : decode cX10_back 4 = .ok (.ifCond .ne 5, 3) := by decide +kernel
theorem dX10_back_7 : decode cX10_back 7 = .ok (.iconst (-1), 1) := by decide +kernel
theorem dX10_back_8 : decode cX10_back 8 = .ok (.ireturn, 1) := by decide +kernel
theorem dX10_back_9 : decode cX10_back 9 = .ok (.aload_n 0, 1) := by decide +kernel
theorem dX10_back_10 : decode cX10_back 10 = .ok (.getfield 111, 3) := by decide +kernel
theorem dX10_back_13 : decode cX10_back 13 = .ok (.iload_n 1, 1) := by decide +kernel
theorem dX10_back_14 : decode cX10_back 14 = .ok (.ishr, 1) := by decide +kernel
theorem dX10_back_15 : decode cX10_back 15 = .ok (.iconst 1, 1) := by decide +kernel
theorem dX10_back_16 : decode cX10_back 16 = .ok (.iand, 1) := by decide +kernel
theorem dX10_back_17 : decode cX10_back 17 = .ok (.ifCond .ne 6, 3) := by decide +kernel
theorem dX10_back_20 : decode cX10_back 20 = .ok (.bipush (-2), 2) := by decide +kernel
theorem dX10_back_22 : decode cX10_back 22 = .ok (.ireturn, 1) := by decide +kernel
theorem dX10_back_23 : decode cX10_back 23 = .ok (.aload_n 0, 1) := by decide +kernel
theorem dX10_back_24 : decode cX10_back 24 = .ok (.getfield 10, 3) := by decide +kernel
theorem dX10_back_27 : decode cX10_back 27 = .ok (.aload_n 0, 1) := by decide +kernel
theorem dX10_back_28 : decode cX10_back 28 = .ok (.iload_n 1, 1) := by decide +kernel
theorem dX10_back_29 : decode cX10_back 29 = .ok (.invokevirtual 268, 3) := by decide +kernel
theorem dX10_back_32 : decode cX10_back 32 = .ok (.invokevirtual 104, 3) := by decide +kernel
theorem dX10_back_35 : decode cX10_back 35 = .ok (.aload_n 0, 1) := by decide +kernel
theorem dX10_back_36 : decode cX10_back 36 = .ok (.getfield 10, 3) := by decide +kernel
theorem dX10_back_39 : decode cX10_back 39 = .ok (.getfield 126, 3) := by decide +kernel
theorem dX10_back_42 : decode cX10_back 42 = .ok (.ireturn, 1) := by decide +kernel
theorem dX10_sheet_0 : decode cX10_sheet 0 = .ok (.aload_n 0, 1) := by decide +kernel
theorem dX10_sheet_1 : decode cX10_sheet 1 = .ok (.iload_n 1, 1) := by decide +kernel
theorem dX10_sheet_2 : decode cX10_sheet 2 = .ok (.invokevirtual 272, 3) := by decide +kernel
theorem dX10_sheet_5 : decode cX10_sheet 5 = .ok (.astore 4, 2) := by decide +kernel
theorem dX10_sheet_7 : decode cX10_sheet 7 = .ok (.aload 4, 2) := by decide +kernel
theorem dX10_sheet_9 : decode cX10_sheet 9 = .ok (.ifnull 18, 3) := by decide +kernel
theorem dX10_sheet_12 : decode cX10_sheet 12 = .ok (.iload_n 2, 1) := by decide +kernel
theorem dX10_sheet_13 : decode cX10_sheet 13 = .ok (.iconst 0, 1) := by decide +kernel
theorem dX10_sheet_14 : decode cX10_sheet 14 = .ok (.iconst 2, 1) := by decide +kernel
theorem dX10_sheet_15 : decode cX10_sheet 15 = .ok (.invokestatic 81, 3) := by decide +kernel
theorem dX10_sheet_18 : decode cX10_sheet 18 = .ok (.ifCond .eq 9, 3) := by decide +kernel
theorem dX10_sheet_21 : decode cX10_sheet 21 = .ok (.iload_n 3, 1) := by decide +kernel
theorem dX10_sheet_22 : decode cX10_sheet 22 = .ok (.bipush 40, 2) := by decide +kernel
theorem dX10_sheet_24 : decode cX10_sheet 24 = .ok (.if_icmp .le 5, 3) := by decide +kernel
theorem dX10_sheet_27 : decode cX10_sheet 27 = .ok (.iconst (-1), 1) := by decide +kernel
theorem dX10_sheet_28 : decode cX10_sheet 28 = .ok (.ireturn, 1) := by decide +kernel
theorem dX10_sheet_29 : decode cX10_sheet 29 = .ok (.iload_n 3, 1) := by decide +kernel
theorem dX10_sheet_30 : decode cX10_sheet 30 = .ok (.ifCond .ge 6, 3) := by decide +kernel
theorem dX10_sheet_33 : decode cX10_sheet 33 = .ok (.bipush (-14), 2) := by decide +kernel
theorem dX10_sheet_35 : decode cX10_sheet 35 = .ok (.ireturn, 1) := by decide +kernel
theorem dX10_sheet_36 : decode cX10_sheet 36 = .ok (.aload 4, 2) := by decide +kernel
theorem dX10_sheet_38 : decode cX10_sheet 38 = .ok (.iload_n 2, 1) := by decide +kernel
theorem dX10_sheet_39 : decode cX10_sheet 39 = .ok (.iload_n 3, 1) := by decide +kernel
theorem dX10_sheet_40 : decode cX10_sheet 40 = .ok (.invokevirtual 276, 3) := by decide +kernel
theorem dX10_sheet_43 : decode cX10_sheet 43 = .ok (.iconst 1, 1) := by decide +kernel
theorem dX10_sheet_44 : decode cX10_sheet 44 = .ok (.ireturn, 1) := by decide +kernel
theorem dX10_lay_0 : decode cX10_lay 0 = .ok (.aload_n 0, 1) := by decide +kernel
theorem dX10_lay_1 : decode cX10_lay 1 = .ok (.iload_n 1, 1) := by decide +kernel
theorem dX10_lay_2 : decode cX10_lay 2 = .ok (.invokevirtual 272, 3) := by decide +kernel
theorem dX10_lay_5 : decode cX10_lay 5 = .ok (.astore 4, 2) := by decide +kernel
theorem dX10_lay_7 : decode cX10_lay 7 = .ok (.aload 4, 2) := by decide +kernel
theorem dX10_lay_9 : decode cX10_lay 9 = .ok (.ifnonnull 5, 3) := by decide +kernel
theorem dX10_lay_12 : decode cX10_lay 12 = .ok (.iconst (-1), 1) := by decide +kernel
theorem dX10_lay_13 : decode cX10_lay 13 = .ok (.ireturn, 1) := by decide +kernel
theorem dX10_lay_14 : decode cX10_lay 14 = .ok (.aload 4, 2) := by decide +kernel
theorem dX10_lay_16 : decode cX10_lay 16 = .ok (.aload 4, 2) := by decide +kernel
theorem dX10_lay_18 : decode cX10_lay 18 = .ok (.getfield 280, 3) := by decide +kernel
theorem dX10_lay_21 : decode cX10_lay 21 = .ok (.iload_n 2, 1) := by decide +kernel
theorem dX10_lay_22 : decode cX10_lay 22 = .ok (.iconst 1, 1) := by decide +kernel
theorem dX10_lay_23 : decode cX10_lay 23 = .ok (.invokevirtual 283, 3) := by decide +kernel
theorem dX10_lay_26 : decode cX10_lay 26 = .ok (.istore 5, 2) := by decide +kernel
theorem dX10_lay_28 : decode cX10_lay 28 = .ok (.iload 5, 2) := by decide +kernel
theorem dX10_lay_30 : decode cX10_lay 30 = .ok (.ifCond .eq 9, 3) := by decide +kernel
theorem dX10_lay_33 : decode cX10_lay 33 = .ok (.bipush (-10), 2) := by decide +kernel
theorem dX10_lay_35 : decode cX10_lay 35 = .ok (.iload 5, 2) := by decide +kernel
theorem dX10_lay_37 : decode cX10_lay 37 = .ok (.isub, 1) := by decide +kernel
theorem dX10_lay_38 : decode cX10_lay 38 = .ok (.ireturn, 1) := by decide +kernel
theorem dX10_lay_39 : decode cX10_lay 39 = .ok (.aload 4, 2) := by decide +kernel
theorem dX10_lay_41 : decode cX10_lay 41 = .ok (.iload_n 2, 1) := by decide +kernel
theorem dX10_lay_42 : decode cX10_lay 42 = .ok (.iload_n 3, 1) := by decide +kernel
theorem dX10_lay_43 : decode cX10_lay 43 = .ok (.invokevirtual 287, 3) := by decide +kernel
theorem dX10_lay_46 : decode cX10_lay 46 = .ok (.iconst 1, 1) := by decide +kernel
theorem dX10_lay_47 : decode cX10_lay 47 = .ok (.ireturn, 1) := by decide +kernel
theorem dX10_read_0 : decode cX10_read 0 = .ok (.aload_n 0, 1) := by decide +kernel
theorem dX10_read_1 : decode cX10_read 1 = .ok (.iload_n 1, 1) := by decide +kernel
theorem dX10_read_2 : decode cX10_read 2 = .ok (.invokevirtual 272, 3) := by decide +kernel
theorem dX10_read_5 : decode cX10_read 5 = .ok (.astore 5, 2) := by decide +kernel
theorem dX10_read_7 : decode cX10_read 7 = .ok (.aload 5, 2) := by decide +kernel
theorem dX10_read_9 : decode cX10_read 9 = .ok (.ifnull 23, 3) := by decide +kernel
theorem dX10_read_12 : decode cX10_read 12 = .ok (.iload_n 2, 1) := by decide +kernel
theorem dX10_read_13 : decode cX10_read 13 = .ok (.iconst 0, 1) := by decide +kernel
theorem dX10_read_14 : decode cX10_read 14 = .ok (.iconst 2, 1) := by decide +kernel
theorem dX10_read_15 : decode cX10_read 15 = .ok (.invokestatic 81, 3) := by decide +kernel
theorem dX10_read_18 : decode cX10_read 18 = .ok (.ifCond .eq 14, 3) := by decide +kernel
theorem dX10_read_21 : decode cX10_read 21 = .ok (.iload 4, 2) := by decide +kernel
theorem dX10_read_23 : decode cX10_read 23 = .ok (.iconst 0, 1) := by decide +kernel
theorem dX10_read_24 : decode cX10_read 24 = .ok (.bipush 20, 2) := by decide +kernel
theorem dX10_read_26 : decode cX10_read 26 = .ok (.invokestatic 81, 3) := by decide +kernel
theorem dX10_read_29 : decode cX10_read 29 = .ok (.ifCond .ne 5, 3) := by decide +kernel
theorem dX10_read_32 : decode cX10_read 32 = .ok (.iconst (-1), 1) := by decide +kernel
theorem dX10_read_33 : decode cX10_read 33 = .ok (.ireturn, 1) := by decide +kernel
theorem dX10_read_34 : decode cX10_read 34 = .ok (.aload_n 0, 1) := by decide +kernel
theorem dX10_read_35 : decode cX10_read 35 = .ok (.getfield 16, 3) := by decide +kernel
theorem dX10_read_38 : decode cX10_read 38 = .ok (.aload_n 0, 1) := by decide +kernel
theorem dX10_read_39 : decode cX10_read 39 = .ok (.getfield 10, 3) := by decide +kernel
theorem dX10_read_42 : decode cX10_read 42 = .ok (.invokevirtual 104, 3) := by decide +kernel
theorem dX10_read_45 : decode cX10_read 45 = .ok (.iconst 0, 1) := by decide +kernel
theorem dX10_read_46 : decode cX10_read 46 = .ok (.istore 6, 2) := by decide +kernel
theorem dX10_read_48 : decode cX10_read 48 = .ok (.iconst 0, 1) := by decide +kernel
theorem dX10_read_49 : decode cX10_read 49 = .ok (.istore 7, 2) := by decide +kernel
theorem dX10_read_51 : decode cX10_read 51 = .ok (.iload 7, 2) := by decide +kernel
theorem dX10_read_53 : decode cX10_read 53 = .ok (.iload 4, 2) := by decide +kernel
theorem dX10_read_55 : decode cX10_read 55 = .ok (.if_icmp .ge 69, 3) := by decide +kernel
theorem dX10_read_58 : decode cX10_read 58 = .ok (.iload_n 3, 1) := by decide +kernel
theorem dX10_read_59 : decode cX10_read 59 = .ok (.iconst 2, 1) := by decide +kernel
theorem dX10_read_60 : decode cX10_read 60 = .ok (.iload 7, 2) := by decide +kernel
theorem dX10_read_62 : decode cX10_read 62 = .ok (.imul, 1) := by decide +kernel
theorem dX10_read_63 : decode cX10_read 63 = .ok (.iadd, 1) := by decide +kernel
theorem dX10_read_64 : decode cX10_read 64 = .ok (.istore 8, 2) := by decide +kernel
theorem dX10_read_66 : decode cX10_read 66 = .ok (.aload 5, 2) := by decide +kernel
theorem dX10_read_68 : decode cX10_read 68 = .ok (.iload_n 2, 1) := by decide +kernel
theorem dX10_read_69 : decode cX10_read 69 = .ok (.iload 8, 2) := by decide +kernel
theorem dX10_read_71 : decode cX10_read 71 = .ok (.iconst 2, 1) := by decide +kernel
theorem dX10_read_72 : decode cX10_read 72 = .ok (.invokevirtual 283, 3) := by decide +kernel
theorem dX10_read_75 : decode cX10_read 75 = .ok (.istore 6, 2) := by decide +kernel
theorem dX10_read_77 : decode cX10_read 77 = .ok (.iload 6, 2) := by decide +kernel
theorem dX10_read_79 : decode cX10_read 79 = .ok (.ifCond .eq 6, 3) := by decide +kernel
theorem dX10_read_82 : decode cX10_read 82 = .ok (.goto 42, 3) := by decide +kernel
theorem dX10_read_85 : decode cX10_read 85 = .ok (.aload_n 0, 1) := by decide +kernel
theorem dX10_read_86 : decode cX10_read 86 = .ok (.getfield 16, 3) := by decide +kernel
theorem dX10_read_89 : decode cX10_read 89 = .ok (.aload 5, 2) := by decide +kernel
theorem dX10_read_91 : decode cX10_read 91 = .ok (.iload 8, 2) := by decide +kernel
theorem dX10_read_93 : decode cX10_read 93 = .ok (.invokevirtual 290, 3) := by decide +kernel
theorem dX10_read_96 : decode cX10_read 96 = .ok (.aload 5, 2) := by decide +kernel
theorem dX10_read_98 : decode cX10_read 98 = .ok (.iload 8, 2) := by decide +kernel
theorem dX10_read_100 : decode cX10_read 100 = .ok (.iconst 1, 1) := by decide +kernel
theorem dX10_read_101 : decode cX10_read 101 = .ok (.iadd, 1) := by decide +kernel
theorem dX10_read_102 : decode cX10_read 102 = .ok (.invokevirtual 290, 3) := by decide +kernel
theorem dX10_read_105 : decode cX10_read 105 = .ok (.iconst 0, 1) := by decide +kernel
theorem dX10_read_106 : decode cX10_read 106 = .ok (.invokevirtual 193, 3) := by decide +kernel
theorem dX10_read_109 : decode cX10_read 109 = .ok (.ifCond .eq 9, 3) := by decide +kernel
theorem dX10_read_112 : decode cX10_read 112 = .ok (.bipush (-20), 2) := by decide +kernel
theorem dX10_read_114 : decode cX10_read 114 = .ok (.iload 7, 2) := by decide +kernel
theorem dX10_read_116 : decode cX10_read 116 = .ok (.isub, 1) := by decide +kernel
theorem dX10_read_117 : decode cX10_read 117 = .ok (.ireturn, 1) := by decide +kernel
theorem dX10_read_118 : decode cX10_read 118 = .ok (.iinc 7 1, 3) := by decide +kernel
theorem dX10_read_121 : decode cX10_read 121 = .ok (.goto (-70), 3) := by decide +kernel
theorem dX10_read_124 : decode cX10_read 124 = .ok (.aload_n 0, 1) := by decide +kernel
theorem dX10_read_125 : decode cX10_read 125 = .ok (.getfield 10, 3) := by decide +kernel
theorem dX10_read_128 : decode cX10_read 128 = .ok (.aload_n 0, 1) := by decide +kernel
theorem dX10_read_129 : decode cX10_read 129 = .ok (.getfield 16, 3) := by decide +kernel
theorem dX10_read_132 : decode cX10_read 132 = .ok (.invokevirtual 104, 3) := by decide +kernel
theorem dX10_read_135 : decode cX10_read 135 = .ok (.aload_n 0, 1) := by decide +kernel
theorem dX10_read_136 : decode cX10_read 136 = .ok (.iload 6, 2) := by decide +kernel
theorem dX10_read_138 : decode cX10_read 138 = .ok (.putfield 293, 3) := by decide +kernel
theorem dX10_read_141 : decode cX10_read 141 = .ok (.iload 7, 2) := by decide +kernel
theorem dX10_read_143 : decode cX10_read 143 = .ok (.ireturn, 1) := by decide +kernel
theorem dX10_torn_0 : decode cX10_torn 0 = .ok (.aload_n 0, 1) := by decide +kernel
theorem dX10_torn_1 : decode cX10_torn 1 = .ok (.getfield 293, 3) := by decide +kernel
theorem dX10_torn_4 : decode cX10_torn 4 = .ok (.ireturn, 1) := by decide +kernel
theorem dX10_count_0 : decode cX10_count 0 = .ok (.iload_n 1, 1) := by decide +kernel
theorem dX10_count_1 : decode cX10_count 1 = .ok (.tableswitch 93 0 5 #[39, 47, 55, 66, 71, 82], 39) := by decide +kernel
theorem dX10_count_40 : decode cX10_count 40 = .ok (.aload_n 0, 1) := by decide +kernel
theorem dX10_count_41 : decode cX10_count 41 = .ok (.getfield 50, 3) := by decide +kernel
theorem dX10_count_44 : decode cX10_count 44 = .ok (.getfield 108, 3) := by decide +kernel
theorem dX10_count_47 : decode cX10_count 47 = .ok (.ireturn, 1) := by decide +kernel
theorem dX10_count_48 : decode cX10_count 48 = .ok (.aload_n 0, 1) := by decide +kernel
theorem dX10_count_49 : decode cX10_count 49 = .ok (.getfield 111, 3) := by decide +kernel
theorem dX10_count_52 : decode cX10_count 52 = .ok (.invokestatic 296, 3) := by decide +kernel
theorem dX10_count_55 : decode cX10_count 55 = .ok (.ireturn, 1) := by decide +kernel
theorem dX10_count_56 : decode cX10_count 56 = .ok (.aload_n 0, 1) := by decide +kernel
theorem dX10_count_57 : decode cX10_count 57 = .ok (.getfield 22, 3) := by decide +kernel
theorem dX10_count_60 : decode cX10_count 60 = .ok (.getfield 67, 3) := by decide +kernel
theorem dX10_count_63 : decode cX10_count 63 = .ok (.getfield 77, 3) := by decide +kernel
theorem dX10_count_66 : decode cX10_count 66 = .ok (.ireturn, 1) := by decide +kernel
theorem dX10_count_67 : decode cX10_count 67 = .ok (.aload_n 0, 1) := by decide +kernel
theorem dX10_count_68 : decode cX10_count 68 = .ok (.invokevirtual 301, 3) := by decide +kernel
theorem dX10_count_71 : decode cX10_count 71 = .ok (.ireturn, 1) := by decide +kernel
theorem dX10_count_72 : decode cX10_count 72 = .ok (.aload_n 0, 1) := by decide +kernel
theorem dX10_count_73 : decode cX10_count 73 = .ok (.getfield 10, 3) := by decide +kernel
theorem dX10_count_76 : decode cX10_count 76 = .ok (.getfield 304, 3) := by decide +kernel
theorem dX10_count_79 : decode cX10_count 79 = .ok (.invokevirtual 308, 3) := by decide +kernel
theorem dX10_count_82 : decode cX10_count 82 = .ok (.ireturn, 1) := by decide +kernel
theorem dX10_count_83 : decode cX10_count 83 = .ok (.aload_n 0, 1) := by decide +kernel
theorem dX10_count_84 : decode cX10_count 84 = .ok (.getfield 10, 3) := by decide +kernel
theorem dX10_count_87 : decode cX10_count 87 = .ok (.getfield 311, 3) := by decide +kernel
theorem dX10_count_90 : decode cX10_count 90 = .ok (.invokevirtual 308, 3) := by decide +kernel
theorem dX10_count_93 : decode cX10_count 93 = .ok (.ireturn, 1) := by decide +kernel
theorem dX10_count_94 : decode cX10_count 94 = .ok (.iconst (-1), 1) := by decide +kernel
theorem dX10_count_95 : decode cX10_count 95 = .ok (.ireturn, 1) := by decide +kernel
theorem dX10_cellsOfFirstSheet_0 : decode cX10_cellsOfFirstSheet 0 = .ok (.aload_n 0, 1) := by decide +kernel
theorem dX10_cellsOfFirstSheet_1 : decode cX10_cellsOfFirstSheet 1 = .ok (.iconst 0, 1) := by decide +kernel
theorem dX10_cellsOfFirstSheet_2 : decode cX10_cellsOfFirstSheet 2 = .ok (.invokevirtual 272, 3) := by decide +kernel
theorem dX10_cellsOfFirstSheet_5 : decode cX10_cellsOfFirstSheet 5 = .ok (.astore_n 1, 1) := by decide +kernel
theorem dX10_cellsOfFirstSheet_6 : decode cX10_cellsOfFirstSheet 6 = .ok (.aload_n 1, 1) := by decide +kernel
theorem dX10_cellsOfFirstSheet_7 : decode cX10_cellsOfFirstSheet 7 = .ok (.ifnull 11, 3) := by decide +kernel
theorem dX10_cellsOfFirstSheet_10 : decode cX10_cellsOfFirstSheet 10 = .ok (.aload_n 1, 1) := by decide +kernel
theorem dX10_cellsOfFirstSheet_11 : decode cX10_cellsOfFirstSheet 11 = .ok (.getfield 280, 3) := by decide +kernel
theorem dX10_cellsOfFirstSheet_14 : decode cX10_cellsOfFirstSheet 14 = .ok (.iconst (-1), 1) := by decide +kernel
theorem dX10_cellsOfFirstSheet_15 : decode cX10_cellsOfFirstSheet 15 = .ok (.if_icmp .ne 8, 3) := by decide +kernel
theorem dX10_cellsOfFirstSheet_18 : decode cX10_cellsOfFirstSheet 18 = .ok (.bipush (-4), 2) := by decide +kernel
theorem dX10_cellsOfFirstSheet_20 : decode cX10_cellsOfFirstSheet 20 = .ok (.goto 7, 3) := by decide +kernel
theorem dX10_cellsOfFirstSheet_23 : decode cX10_cellsOfFirstSheet 23 = .ok (.aload_n 1, 1) := by decide +kernel
theorem dX10_cellsOfFirstSheet_24 : decode cX10_cellsOfFirstSheet 24 = .ok (.getfield 314, 3) := by decide +kernel
theorem dX10_cellsOfFirstSheet_27 : decode cX10_cellsOfFirstSheet 27 = .ok (.ireturn, 1) := by decide +kernel
theorem dX10_sheetOf_0 : decode cX10_sheetOf 0 = .ok (.iload_n 1, 1) := by decide +kernel
theorem dX10_sheetOf_1 : decode cX10_sheetOf 1 = .ok (.ifCond .lt 21, 3) := by decide +kernel
theorem dX10_sheetOf_4 : decode cX10_sheetOf 4 = .ok (.iload_n 1, 1) := by decide +kernel
theorem dX10_sheetOf_5 : decode cX10_sheetOf 5 = .ok (.aload_n 0, 1) := by decide +kernel
theorem dX10_sheetOf_6 : decode cX10_sheetOf 6 = .ok (.getfield 62, 3) := by decide +kernel
theorem dX10_sheetOf_9 : decode cX10_sheetOf 9 = .ok (.arraylength, 1) := by decide +kernel
theorem dX10_sheetOf_10 : decode cX10_sheetOf 10 = .ok (.if_icmp .ge 12, 3) := by decide +kernel
theorem dX10_sheetOf_13 : decode cX10_sheetOf 13 = .ok (.aload_n 0, 1) := by decide +kernel
theorem dX10_sheetOf_14 : decode cX10_sheetOf 14 = .ok (.getfield 62, 3) := by decide +kernel
theorem dX10_sheetOf_17 : decode cX10_sheetOf 17 = .ok (.iload_n 1, 1) := by decide +kernel
theorem dX10_sheetOf_18 : decode cX10_sheetOf 18 = .ok (.aaload, 1) := by decide +kernel
theorem dX10_sheetOf_19 : decode cX10_sheetOf 19 = .ok (.goto 4, 3) := by decide +kernel
theorem dX10_sheetOf_22 : decode cX10_sheetOf 22 = .ok (.aconst_null, 1) := by decide +kernel
theorem dX10_sheetOf_23 : decode cX10_sheetOf 23 = .ok (.areturn, 1) := by decide +kernel
theorem dX10_imageOf_0 : decode cX10_imageOf 0 = .ok (.iload_n 1, 1) := by decide +kernel
theorem dX10_imageOf_1 : decode cX10_imageOf 1 = .ok (.ifCond .ne 10, 3) := by decide +kernel
theorem dX10_imageOf_4 : decode cX10_imageOf 4 = .ok (.aload_n 0, 1) := by decide +kernel
theorem dX10_imageOf_5 : decode cX10_imageOf 5 = .ok (.getfield 54, 3) := by decide +kernel
theorem dX10_imageOf_8 : decode cX10_imageOf 8 = .ok (.goto 7, 3) := by decide +kernel
theorem dX10_imageOf_11 : decode cX10_imageOf 11 = .ok (.aload_n 0, 1) := by decide +kernel
theorem dX10_imageOf_12 : decode cX10_imageOf 12 = .ok (.getfield 57, 3) := by decide +kernel
theorem dX10_imageOf_15 : decode cX10_imageOf 15 = .ok (.areturn, 1) := by decide +kernel
theorem dX10_isImage_0 : decode cX10_isImage 0 = .ok (.iload_n 0, 1) := by decide +kernel
theorem dX10_isImage_1 : decode cX10_isImage 1 = .ok (.ifCond .eq 8, 3) := by decide +kernel
theorem dX10_isImage_4 : decode cX10_isImage 4 = .ok (.iload_n 0, 1) := by decide +kernel
theorem dX10_isImage_5 : decode cX10_isImage 5 = .ok (.iconst 1, 1) := by decide +kernel
theorem dX10_isImage_6 : decode cX10_isImage 6 = .ok (.if_icmp .ne 7, 3) := by decide +kernel
theorem dX10_isImage_9 : decode cX10_isImage 9 = .ok (.iconst 1, 1) := by decide +kernel
theorem dX10_isImage_10 : decode cX10_isImage 10 = .ok (.goto 4, 3) := by decide +kernel
theorem dX10_isImage_13 : decode cX10_isImage 13 = .ok (.iconst 0, 1) := by decide +kernel
theorem dX10_isImage_14 : decode cX10_isImage 14 = .ok (.ireturn, 1) := by decide +kernel
theorem dX10_isSide_0 : decode cX10_isSide 0 = .ok (.iload_n 0, 1) := by decide +kernel
theorem dX10_isSide_1 : decode cX10_isSide 1 = .ok (.ifCond .eq 8, 3) := by decide +kernel
theorem dX10_isSide_4 : decode cX10_isSide 4 = .ok (.iload_n 0, 1) := by decide +kernel
theorem dX10_isSide_5 : decode cX10_isSide 5 = .ok (.iconst 1, 1) := by decide +kernel
theorem dX10_isSide_6 : decode cX10_isSide 6 = .ok (.if_icmp .ne 7, 3) := by decide +kernel
theorem dX10_isSide_9 : decode cX10_isSide 9 = .ok (.iconst 1, 1) := by decide +kernel
theorem dX10_isSide_10 : decode cX10_isSide 10 = .ok (.goto 4, 3) := by decide +kernel
theorem dX10_isSide_13 : decode cX10_isSide 13 = .ok (.iconst 0, 1) := by decide +kernel
theorem dX10_isSide_14 : decode cX10_isSide 14 = .ok (.ireturn, 1) := by decide +kernel
theorem dX10_isKind_0 : decode cX10_isKind 0 = .ok (.iload_n 0, 1) := by decide +kernel
theorem dX10_isKind_1 : decode cX10_isKind 1 = .ok (.iconst 0, 1) := by decide +kernel
theorem dX10_isKind_2 : decode cX10_isKind 2 = .ok (.iconst 4, 1) := by decide +kernel
theorem dX10_isKind_3 : decode cX10_isKind 3 = .ok (.invokestatic 81, 3) := by decide +kernel
theorem dX10_isKind_6 : decode cX10_isKind 6 = .ok (.ireturn, 1) := by decide +kernel
theorem dX10_within_0 : decode cX10_within 0 = .ok (.iload_n 0, 1) := by decide +kernel
theorem dX10_within_1 : decode cX10_within 1 = .ok (.iload_n 1, 1) := by decide +kernel
theorem dX10_within_2 : decode cX10_within 2 = .ok (.if_icmp .lt 12, 3) := by decide +kernel
theorem dX10_within_5 : decode cX10_within 5 = .ok (.iload_n 0, 1) := by decide +kernel
theorem dX10_within_6 : decode cX10_within 6 = .ok (.iload_n 2, 1) := by decide +kernel
theorem dX10_within_7 : decode cX10_within 7 = .ok (.if_icmp .gt 7, 3) := by decide +kernel
theorem dX10_within_10 : decode cX10_within 10 = .ok (.iconst 1, 1) := by decide +kernel
theorem dX10_within_11 : decode cX10_within 11 = .ok (.goto 4, 3) := by decide +kernel
theorem dX10_within_14 : decode cX10_within 14 = .ok (.iconst 0, 1) := by decide +kernel
theorem dX10_within_15 : decode cX10_within 15 = .ok (.ireturn, 1) := by decide +kernel
theorem dX10_replace_0 : decode cX10_replace 0 = .ok (.iload_n 1, 1) := by decide +kernel
theorem dX10_replace_1 : decode cX10_replace 1 = .ok (.ifCond .lt 9, 3) := by decide +kernel
theorem dX10_replace_4 : decode cX10_replace 4 = .ok (.iload_n 1, 1) := by decide +kernel
theorem dX10_replace_5 : decode cX10_replace 5 = .ok (.aload_n 0, 1) := by decide +kernel
theorem dX10_replace_6 : decode cX10_replace 6 = .ok (.arraylength, 1) := by decide +kernel
theorem dX10_replace_7 : decode cX10_replace 7 = .ok (.if_icmp .lt 5, 3) := by decide +kernel
theorem dX10_replace_10 : decode cX10_replace 10 = .ok (.iconst (-1), 1) := by decide +kernel
theorem dX10_replace_11 : decode cX10_replace 11 = .ok (.ireturn, 1) := by decide +kernel
theorem dX10_replace_12 : decode cX10_replace 12 = .ok (.aload_n 0, 1) := by decide +kernel
theorem dX10_replace_13 : decode cX10_replace 13 = .ok (.iload_n 1, 1) := by decide +kernel
theorem dX10_replace_14 : decode cX10_replace 14 = .ok (.iaload, 1) := by decide +kernel
theorem dX10_replace_15 : decode cX10_replace 15 = .ok (.istore_n 3, 1) := by decide +kernel
theorem dX10_replace_16 : decode cX10_replace 16 = .ok (.aload_n 0, 1) := by decide +kernel
theorem dX10_replace_17 : decode cX10_replace 17 = .ok (.iload_n 1, 1) := by decide +kernel
theorem dX10_replace_18 : decode cX10_replace 18 = .ok (.iload_n 2, 1) := by decide +kernel
theorem dX10_replace_19 : decode cX10_replace 19 = .ok (.iastore, 1) := by decide +kernel
theorem dX10_replace_20 : decode cX10_replace 20 = .ok (.iload_n 3, 1) := by decide +kernel
theorem dX10_replace_21 : decode cX10_replace 21 = .ok (.ireturn, 1) := by decide +kernel
theorem dX10_fraction_0 : decode cX10_fraction 0 = .ok (.lload_n 0, 1) := by decide +kernel
theorem dX10_fraction_1 : decode cX10_fraction 1 = .ok (.lload_n 2, 1) := by decide +kernel
theorem dX10_fraction_2 : decode cX10_fraction 2 = .ok (.invokestatic 315, 3) := by decide +kernel
theorem dX10_fraction_5 : decode cX10_fraction 5 = .ok (.lstore 5, 2) := by decide +kernel
theorem dX10_fraction_7 : decode cX10_fraction 7 = .ok (.lload 5, 2) := by decide +kernel
theorem dX10_fraction_9 : decode cX10_fraction 9 = .ok (.lconst 0, 1) := by decide +kernel
theorem dX10_fraction_10 : decode cX10_fraction 10 = .ok (.lcmp, 1) := by decide +kernel
theorem dX10_fraction_11 : decode cX10_fraction 11 = .ok (.ifCond .gt 14, 3) := by decide +kernel
theorem dX10_fraction_14 : decode cX10_fraction 14 = .ok (.iload 4, 2) := by decide +kernel
theorem dX10_fraction_16 : decode cX10_fraction 16 = .ok (.ifCond .ne 7, 3) := by decide +kernel
theorem dX10_fraction_19 : decode cX10_fraction 19 = .ok (.lconst 0, 1) := by decide +kernel
theorem dX10_fraction_20 : decode cX10_fraction 20 = .ok (.goto 4, 3) := by decide +kernel
theorem dX10_fraction_23 : decode cX10_fraction 23 = .ok (.lconst 1, 1) := by decide +kernel
theorem dX10_fraction_24 : decode cX10_fraction 24 = .ok (.lreturn, 1) := by decide +kernel
theorem dX10_fraction_25 : decode cX10_fraction 25 = .ok (.iload 4, 2) := by decide +kernel
theorem dX10_fraction_27 : decode cX10_fraction 27 = .ok (.ifCond .ne 10, 3) := by decide +kernel
theorem dX10_fraction_30 : decode cX10_fraction 30 = .ok (.lload_n 0, 1) := by decide +kernel
theorem dX10_fraction_31 : decode cX10_fraction 31 = .ok (.lload 5, 2) := by decide +kernel
theorem dX10_fraction_33 : decode cX10_fraction 33 = .ok (.ldiv, 1) := by decide +kernel
theorem dX10_fraction_34 : decode cX10_fraction 34 = .ok (.goto 7, 3) := by decide +kernel
theorem dX10_fraction_37 : decode cX10_fraction 37 = .ok (.lload_n 2, 1) := by decide +kernel
theorem dX10_fraction_38 : decode cX10_fraction 38 = .ok (.lload 5, 2) := by decide +kernel
theorem dX10_fraction_40 : decode cX10_fraction 40 = .ok (.ldiv, 1) := by decide +kernel
theorem dX10_fraction_41 : decode cX10_fraction 41 = .ok (.lreturn, 1) := by decide +kernel
theorem dX10_commonDivisor_0 : decode cX10_commonDivisor 0 = .ok (.iconst 0, 1) := by decide +kernel
theorem dX10_commonDivisor_1 : decode cX10_commonDivisor 1 = .ok (.istore 4, 2) := by decide +kernel
theorem dX10_commonDivisor_3 : decode cX10_commonDivisor 3 = .ok (.iload 4, 2) := by decide +kernel
theorem dX10_commonDivisor_5 : decode cX10_commonDivisor 5 = .ok (.sipush 128, 3) := by decide +kernel
theorem dX10_commonDivisor_8 : decode cX10_commonDivisor 8 = .ok (.if_icmp .ge 25, 3) := by decide +kernel
theorem dX10_commonDivisor_11 : decode cX10_commonDivisor 11 = .ok (.lload_n 2, 1) := by decide +kernel
theorem dX10_commonDivisor_12 : decode cX10_commonDivisor 12 = .ok (.lconst 0, 1) := by decide +kernel
theorem dX10_commonDivisor_13 : decode cX10_commonDivisor 13 = .ok (.lcmp, 1) := by decide +kernel
theorem dX10_commonDivisor_14 : decode cX10_commonDivisor 14 = .ok (.ifCond .eq 19, 3) := by decide +kernel
theorem dX10_commonDivisor_17 : decode cX10_commonDivisor 17 = .ok (.lload_n 0, 1) := by decide +kernel
theorem dX10_commonDivisor_18 : decode cX10_commonDivisor 18 = .ok (.lload_n 2, 1) := by decide +kernel
theorem dX10_commonDivisor_19 : decode cX10_commonDivisor 19 = .ok (.lrem, 1) := by decide +kernel
theorem dX10_commonDivisor_20 : decode cX10_commonDivisor 20 = .ok (.lstore 5, 2) := by decide +kernel
theorem dX10_commonDivisor_22 : decode cX10_commonDivisor 22 = .ok (.lload_n 2, 1) := by decide +kernel
theorem dX10_commonDivisor_23 : decode cX10_commonDivisor 23 = .ok (.lstore_n 0, 1) := by decide +kernel
theorem dX10_commonDivisor_24 : decode cX10_commonDivisor 24 = .ok (.lload 5, 2) := by decide +kernel
theorem dX10_commonDivisor_26 : decode cX10_commonDivisor 26 = .ok (.lstore_n 2, 1) := by decide +kernel
theorem dX10_commonDivisor_27 : decode cX10_commonDivisor 27 = .ok (.iinc 4 1, 3) := by decide +kernel
theorem dX10_commonDivisor_30 : decode cX10_commonDivisor 30 = .ok (.goto (-27), 3) := by decide +kernel
theorem dX10_commonDivisor_33 : decode cX10_commonDivisor 33 = .ok (.lload_n 0, 1) := by decide +kernel
theorem dX10_commonDivisor_34 : decode cX10_commonDivisor 34 = .ok (.lreturn, 1) := by decide +kernel
