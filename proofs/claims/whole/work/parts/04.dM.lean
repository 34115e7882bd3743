theorem dX11_sentBy_52 : decode cX11_sentBy 52 = .ok (.goto 4, 3) := by decide +kernel
theorem dX11_sentBy_55 : decode cX11_sentBy 55 = .ok (.iload_n 3, 1) := by decide +kernel
theorem dX11_sentBy_56 : decode cX11_sentBy 56 = .ok (.ireturn, 1) := by decide +kernel
theorem dX11_sentBy_57 : decode cX11_sentBy 57 = .ok (.iload 5, 2) := by decide +kernel
theorem dX11_sentBy_59 : decode cX11_sentBy 59 = .ok (.iconst 3, 1) := by decide +kernel
theorem dX11_sentBy_60 : decode cX11_sentBy 60 = .ok (.if_icmp .ne 41, 3) := by decide +kernel
theorem dX11_sentBy_63 : decode cX11_sentBy 63 = .ok (.iload_n 2, 1) := by decide +kernel
theorem dX11_sentBy_64 : decode cX11_sentBy 64 = .ok (.ifCond .ne 21, 3) := by decide +kernel
theorem dX11_sentBy_67 : decode cX11_sentBy 67 = .ok (.aload_n 0, 1) := by decide +kernel
theorem dX11_sentBy_68 : decode cX11_sentBy 68 = .ok (.iload_n 1, 1) := by decide +kernel
theorem dX11_sentBy_69 : decode cX11_sentBy 69 = .ok (.invokevirtual 146, 3) := by decide +kernel
theorem dX11_sentBy_72 : decode cX11_sentBy 72 = .ok (.aload_n 0, 1) := by decide +kernel
theorem dX11_sentBy_73 : decode cX11_sentBy 73 = .ok (.getfield 13, 3) := by decide +kernel
theorem dX11_sentBy_76 : decode cX11_sentBy 76 = .ok (.iload 4, 2) := by decide +kernel
theorem dX11_sentBy_78 : decode cX11_sentBy 78 = .ok (.isub, 1) := by decide +kernel
theorem dX11_sentBy_79 : decode cX11_sentBy 79 = .ok (.if_icmp .lt 20, 3) := by decide +kernel
theorem dX11_sentBy_82 : decode cX11_sentBy 82 = .ok (.goto 13, 3) := by decide +kernel
theorem dX11_sentBy_85 : decode cX11_sentBy 85 = .ok (.aload_n 0, 1) := by decide +kernel
theorem dX11_sentBy_86 : decode cX11_sentBy 86 = .ok (.iload_n 1, 1) := by decide +kernel
theorem dX11_sentBy_87 : decode cX11_sentBy 87 = .ok (.invokevirtual 146, 3) := by decide +kernel
theorem dX11_sentBy_90 : decode cX11_sentBy 90 = .ok (.iload 4, 2) := by decide +kernel
theorem dX11_sentBy_92 : decode cX11_sentBy 92 = .ok (.if_icmp .ge 7, 3) := by decide +kernel
theorem dX11_sentBy_95 : decode cX11_sentBy 95 = .ok (.iload_n 3, 1) := by decide +kernel
theorem dX11_sentBy_96 : decode cX11_sentBy 96 = .ok (.goto 4, 3) := by decide +kernel
theorem dX11_sentBy_99 : decode cX11_sentBy 99 = .ok (.iconst 0, 1) := by decide +kernel
theorem dX11_sentBy_100 : decode cX11_sentBy 100 = .ok (.ireturn, 1) := by decide +kernel
theorem dX11_sentBy_101 : decode cX11_sentBy 101 = .ok (.aload_n 0, 1) := by decide +kernel
theorem dX11_sentBy_102 : decode cX11_sentBy 102 = .ok (.iload_n 1, 1) := by decide +kernel
theorem dX11_sentBy_103 : decode cX11_sentBy 103 = .ok (.iconst 1, 1) := by decide +kernel
theorem dX11_sentBy_104 : decode cX11_sentBy 104 = .ok (.iload_n 2, 1) := by decide +kernel
theorem dX11_sentBy_105 : decode cX11_sentBy 105 = .ok (.isub, 1) := by decide +kernel
theorem dX11_sentBy_106 : decode cX11_sentBy 106 = .ok (.iconst 0, 1) := by decide +kernel
theorem dX11_sentBy_107 : decode cX11_sentBy 107 = .ok (.invokevirtual 156, 3) := by decide +kernel
theorem dX11_sentBy_110 : decode cX11_sentBy 110 = .ok (.istore 6, 2) := by decide +kernel
theorem dX11_sentBy_112 : decode cX11_sentBy 112 = .ok (.iload 5, 2) := by decide +kernel
theorem dX11_sentBy_114 : decode cX11_sentBy 114 = .ok (.iconst 4, 1) := by decide +kernel
theorem dX11_sentBy_115 : decode cX11_sentBy 115 = .ok (.if_icmp .ne 14, 3) := by decide +kernel
theorem dX11_sentBy_118 : decode cX11_sentBy 118 = .ok (.iload 6, 2) := by decide +kernel
theorem dX11_sentBy_120 : decode cX11_sentBy 120 = .ok (.iload_n 3, 1) := by decide +kernel
theorem dX11_sentBy_121 : decode cX11_sentBy 121 = .ok (.if_icmp .ge 8, 3) := by decide +kernel
theorem dX11_sentBy_124 : decode cX11_sentBy 124 = .ok (.iload 6, 2) := by decide +kernel
theorem dX11_sentBy_126 : decode cX11_sentBy 126 = .ok (.goto 4, 3) := by decide +kernel
theorem dX11_sentBy_129 : decode cX11_sentBy 129 = .ok (.iload_n 3, 1) := by decide +kernel
theorem dX11_sentBy_130 : decode cX11_sentBy 130 = .ok (.ireturn, 1) := by decide +kernel
theorem dX11_push_0 : decode cX11_push 0 = .ok (.bipush 12, 2) := by decide +kernel
theorem dX11_push_2 : decode cX11_push 2 = .ok (.aload_n 0, 1) := by decide +kernel
theorem dX11_push_3 : decode cX11_push 3 = .ok (.getfield 7, 3) := by decide +kernel
theorem dX11_push_6 : decode cX11_push 6 = .ok (.iload_n 1, 1) := by decide +kernel
theorem dX11_push_7 : decode cX11_push 7 = .ok (.iconst 3, 1) := by decide +kernel
theorem dX11_push_8 : decode cX11_push 8 = .ok (.aload_n 0, 1) := by decide +kernel
theorem dX11_push_9 : decode cX11_push 9 = .ok (.iload_n 1, 1) := by decide +kernel
theorem dX11_push_10 : decode cX11_push 10 = .ok (.invokevirtual 146, 3) := by decide +kernel
theorem dX11_push_13 : decode cX11_push 13 = .ok (.imul, 1) := by decide +kernel
theorem dX11_push_14 : decode cX11_push 14 = .ok (.iadd, 1) := by decide +kernel
theorem dX11_push_15 : decode cX11_push 15 = .ok (.iaload, 1) := by decide +kernel
theorem dX11_push_16 : decode cX11_push 16 = .ok (.isub, 1) := by decide +kernel
theorem dX11_push_17 : decode cX11_push 17 = .ok (.istore 4, 2) := by decide +kernel
theorem dX11_push_19 : decode cX11_push 19 = .ok (.iload_n 3, 1) := by decide +kernel
theorem dX11_push_20 : decode cX11_push 20 = .ok (.iload 4, 2) := by decide +kernel
theorem dX11_push_22 : decode cX11_push 22 = .ok (.if_icmp .ge 7, 3) := by decide +kernel
theorem dX11_push_25 : decode cX11_push 25 = .ok (.iload_n 3, 1) := by decide +kernel
theorem dX11_push_26 : decode cX11_push 26 = .ok (.goto 5, 3) := by decide +kernel
theorem dX11_push_29 : decode cX11_push 29 = .ok (.iload 4, 2) := by decide +kernel
theorem dX11_push_31 : decode cX11_push 31 = .ok (.aload_n 0, 1) := by decide +kernel
theorem dX11_push_32 : decode cX11_push 32 = .ok (.iload_n 1, 1) := by decide +kernel
theorem dX11_push_33 : decode cX11_push 33 = .ok (.iload_n 2, 1) := by decide +kernel
theorem dX11_push_34 : decode cX11_push 34 = .ok (.iconst 5, 1) := by decide +kernel
theorem dX11_push_35 : decode cX11_push 35 = .ok (.invokevirtual 156, 3) := by decide +kernel
theorem dX11_push_38 : decode cX11_push 38 = .ok (.isub, 1) := by decide +kernel
theorem dX11_push_39 : decode cX11_push 39 = .ok (.istore 5, 2) := by decide +kernel
theorem dX11_push_41 : decode cX11_push 41 = .ok (.iload 5, 2) := by decide +kernel
theorem dX11_push_43 : decode cX11_push 43 = .ok (.ifCond .ge 7, 3) := by decide +kernel
theorem dX11_push_46 : decode cX11_push 46 = .ok (.iconst 0, 1) := by decide +kernel
theorem dX11_push_47 : decode cX11_push 47 = .ok (.goto 5, 3) := by decide +kernel
theorem dX11_push_50 : decode cX11_push 50 = .ok (.iload 5, 2) := by decide +kernel
theorem dX11_push_52 : decode cX11_push 52 = .ok (.ireturn, 1) := by decide +kernel
theorem dX11_netOf_0 : decode cX11_netOf 0 = .ok (.aload_n 0, 1) := by decide +kernel
theorem dX11_netOf_1 : decode cX11_netOf 1 = .ok (.iload_n 1, 1) := by decide +kernel
theorem dX11_netOf_2 : decode cX11_netOf 2 = .ok (.iconst 1, 1) := by decide +kernel
theorem dX11_netOf_3 : decode cX11_netOf 3 = .ok (.iload_n 3, 1) := by decide +kernel
theorem dX11_netOf_4 : decode cX11_netOf 4 = .ok (.invokevirtual 175, 3) := by decide +kernel
theorem dX11_netOf_7 : decode cX11_netOf 7 = .ok (.aload_n 0, 1) := by decide +kernel
theorem dX11_netOf_8 : decode cX11_netOf 8 = .ok (.iload_n 1, 1) := by decide +kernel
theorem dX11_netOf_9 : decode cX11_netOf 9 = .ok (.iconst 0, 1) := by decide +kernel
theorem dX11_netOf_10 : decode cX11_netOf 10 = .ok (.iload_n 2, 1) := by decide +kernel
theorem dX11_netOf_11 : decode cX11_netOf 11 = .ok (.invokevirtual 175, 3) := by decide +kernel
theorem dX11_netOf_14 : decode cX11_netOf 14 = .ok (.isub, 1) := by decide +kernel
theorem dX11_netOf_15 : decode cX11_netOf 15 = .ok (.aload_n 0, 1) := by decide +kernel
theorem dX11_netOf_16 : decode cX11_netOf 16 = .ok (.getfield 7, 3) := by decide +kernel
theorem dX11_netOf_19 : decode cX11_netOf 19 = .ok (.iload_n 1, 1) := by decide +kernel
theorem dX11_netOf_20 : decode cX11_netOf 20 = .ok (.iconst 3, 1) := by decide +kernel
theorem dX11_netOf_21 : decode cX11_netOf 21 = .ok (.aload_n 0, 1) := by decide +kernel
theorem dX11_netOf_22 : decode cX11_netOf 22 = .ok (.iload_n 1, 1) := by decide +kernel
theorem dX11_netOf_23 : decode cX11_netOf 23 = .ok (.invokevirtual 146, 3) := by decide +kernel
theorem dX11_netOf_26 : decode cX11_netOf 26 = .ok (.imul, 1) := by decide +kernel
theorem dX11_netOf_27 : decode cX11_netOf 27 = .ok (.iadd, 1) := by decide +kernel
theorem dX11_netOf_28 : decode cX11_netOf 28 = .ok (.iconst 1, 1) := by decide +kernel
theorem dX11_netOf_29 : decode cX11_netOf 29 = .ok (.iadd, 1) := by decide +kernel
theorem dX11_netOf_30 : decode cX11_netOf 30 = .ok (.iaload, 1) := by decide +kernel
theorem dX11_netOf_31 : decode cX11_netOf 31 = .ok (.iadd, 1) := by decide +kernel
theorem dX11_netOf_32 : decode cX11_netOf 32 = .ok (.ireturn, 1) := by decide +kernel
theorem dX11_onward_0 : decode cX11_onward 0 = .ok (.iload_n 1, 1) := by decide +kernel
theorem dX11_onward_1 : decode cX11_onward 1 = .ok (.iload_n 2, 1) := by decide +kernel
theorem dX11_onward_2 : decode cX11_onward 2 = .ok (.iadd, 1) := by decide +kernel
theorem dX11_onward_3 : decode cX11_onward 3 = .ok (.istore_n 3, 1) := by decide +kernel
theorem dX11_onward_4 : decode cX11_onward 4 = .ok (.iload_n 3, 1) := by decide +kernel
theorem dX11_onward_5 : decode cX11_onward 5 = .ok (.ifCond .ge 8, 3) := by decide +kernel
theorem dX11_onward_8 : decode cX11_onward 8 = .ok (.bipush 20, 2) := by decide +kernel
theorem dX11_onward_10 : decode cX11_onward 10 = .ok (.goto 17, 3) := by decide +kernel
theorem dX11_onward_13 : decode cX11_onward 13 = .ok (.iload_n 3, 1) := by decide +kernel
theorem dX11_onward_14 : decode cX11_onward 14 = .ok (.aload_n 0, 1) := by decide +kernel
theorem dX11_onward_15 : decode cX11_onward 15 = .ok (.getfield 13, 3) := by decide +kernel
theorem dX11_onward_18 : decode cX11_onward 18 = .ok (.if_icmp .lt 8, 3) := by decide +kernel
theorem dX11_onward_21 : decode cX11_onward 21 = .ok (.bipush 21, 2) := by decide +kernel
theorem dX11_onward_23 : decode cX11_onward 23 = .ok (.goto 4, 3) := by decide +kernel
theorem dX11_onward_26 : decode cX11_onward 26 = .ok (.iload_n 3, 1) := by decide +kernel
theorem dX11_onward_27 : decode cX11_onward 27 = .ok (.ireturn, 1) := by decide +kernel
theorem dX11_restThen_0 : decode cX11_restThen 0 = .ok (.iload_n 1, 1) := by decide +kernel
theorem dX11_restThen_1 : decode cX11_restThen 1 = .ok (.bipush 28, 2) := by decide +kernel
theorem dX11_restThen_3 : decode cX11_restThen 3 = .ok (.iadd, 1) := by decide +kernel
theorem dX11_restThen_4 : decode cX11_restThen 4 = .ok (.bipush 8, 2) := by decide +kernel
theorem dX11_restThen_6 : decode cX11_restThen 6 = .ok (.iload_n 2, 1) := by decide +kernel
theorem dX11_restThen_7 : decode cX11_restThen 7 = .ok (.imul, 1) := by decide +kernel
theorem dX11_restThen_8 : decode cX11_restThen 8 = .ok (.iadd, 1) := by decide +kernel
theorem dX11_restThen_9 : decode cX11_restThen 9 = .ok (.istore 4, 2) := by decide +kernel
theorem dX11_restThen_11 : decode cX11_restThen 11 = .ok (.aload_n 0, 1) := by decide +kernel
theorem dX11_restThen_12 : decode cX11_restThen 12 = .ok (.getfield 7, 3) := by decide +kernel
theorem dX11_restThen_15 : decode cX11_restThen 15 = .ok (.iload 4, 2) := by decide +kernel
theorem dX11_restThen_17 : decode cX11_restThen 17 = .ok (.dup2, 1) := by decide +kernel
theorem dX11_restThen_18 : decode cX11_restThen 18 = .ok (.iaload, 1) := by decide +kernel
theorem dX11_restThen_19 : decode cX11_restThen 19 = .ok (.aload_n 0, 1) := by decide +kernel
theorem dX11_restThen_20 : decode cX11_restThen 20 = .ok (.getfield 7, 3) := by decide +kernel
theorem dX11_restThen_23 : decode cX11_restThen 23 = .ok (.iload 4, 2) := by decide +kernel
theorem dX11_restThen_25 : decode cX11_restThen 25 = .ok (.iconst 1, 1) := by decide +kernel
theorem dX11_restThen_26 : decode cX11_restThen 26 = .ok (.iadd, 1) := by decide +kernel
theorem dX11_restThen_27 : decode cX11_restThen 27 = .ok (.iaload, 1) := by decide +kernel
theorem dX11_restThen_28 : decode cX11_restThen 28 = .ok (.iload_n 3, 1) := by decide +kernel
theorem dX11_restThen_29 : decode cX11_restThen 29 = .ok (.isub, 1) := by decide +kernel
theorem dX11_restThen_30 : decode cX11_restThen 30 = .ok (.iadd, 1) := by decide +kernel
theorem dX11_restThen_31 : decode cX11_restThen 31 = .ok (.iastore, 1) := by decide +kernel
theorem dX11_restThen_32 : decode cX11_restThen 32 = .ok (.iconst 1, 1) := by decide +kernel
theorem dX11_restThen_33 : decode cX11_restThen 33 = .ok (.istore 5, 2) := by decide +kernel
theorem dX11_restThen_35 : decode cX11_restThen 35 = .ok (.iload 5, 2) := by decide +kernel
theorem dX11_restThen_37 : decode cX11_restThen 37 = .ok (.iconst 4, 1) := by decide +kernel
theorem dX11_restThen_38 : decode cX11_restThen 38 = .ok (.if_icmp .ge 31, 3) := by decide +kernel
theorem dX11_restThen_41 : decode cX11_restThen 41 = .ok (.aload_n 0, 1) := by decide +kernel
theorem dX11_restThen_42 : decode cX11_restThen 42 = .ok (.getfield 7, 3) := by decide +kernel
theorem dX11_restThen_45 : decode cX11_restThen 45 = .ok (.iload 4, 2) := by decide +kernel
theorem dX11_restThen_47 : decode cX11_restThen 47 = .ok (.iload 5, 2) := by decide +kernel
theorem dX11_restThen_49 : decode cX11_restThen 49 = .ok (.iadd, 1) := by decide +kernel
theorem dX11_restThen_50 : decode cX11_restThen 50 = .ok (.aload_n 0, 1) := by decide +kernel
theorem dX11_restThen_51 : decode cX11_restThen 51 = .ok (.getfield 7, 3) := by decide +kernel
theorem dX11_restThen_54 : decode cX11_restThen 54 = .ok (.iload 4, 2) := by decide +kernel
theorem dX11_restThen_56 : decode cX11_restThen 56 = .ok (.iload 5, 2) := by decide +kernel
theorem dX11_restThen_58 : decode cX11_restThen 58 = .ok (.iadd, 1) := by decide +kernel
theorem dX11_restThen_59 : decode cX11_restThen 59 = .ok (.iconst 1, 1) := by decide +kernel
theorem dX11_restThen_60 : decode cX11_restThen 60 = .ok (.iadd, 1) := by decide +kernel
theorem dX11_restThen_61 : decode cX11_restThen 61 = .ok (.iaload, 1) := by decide +kernel
theorem dX11_restThen_62 : decode cX11_restThen 62 = .ok (.iastore, 1) := by decide +kernel
theorem dX11_restThen_63 : decode cX11_restThen 63 = .ok (.iinc 5 1, 3) := by decide +kernel
theorem dX11_restThen_66 : decode cX11_restThen 66 = .ok (.goto (-31), 3) := by decide +kernel
theorem dX11_restThen_69 : decode cX11_restThen 69 = .ok (.aload_n 0, 1) := by decide +kernel
theorem dX11_restThen_70 : decode cX11_restThen 70 = .ok (.getfield 7, 3) := by decide +kernel
theorem dX11_restThen_73 : decode cX11_restThen 73 = .ok (.iload 4, 2) := by decide +kernel
theorem dX11_restThen_75 : decode cX11_restThen 75 = .ok (.iconst 4, 1) := by decide +kernel
theorem dX11_restThen_76 : decode cX11_restThen 76 = .ok (.iadd, 1) := by decide +kernel
theorem dX11_restThen_77 : decode cX11_restThen 77 = .ok (.iconst 0, 1) := by decide +kernel
theorem dX11_restThen_78 : decode cX11_restThen 78 = .ok (.iastore, 1) := by decide +kernel
theorem dX11_restThen_79 : decode cX11_restThen 79 = .ok (.aload_n 0, 1) := by decide +kernel
theorem dX11_restThen_80 : decode cX11_restThen 80 = .ok (.getfield 7, 3) := by decide +kernel
theorem dX11_restThen_83 : decode cX11_restThen 83 = .ok (.iload 4, 2) := by decide +kernel
theorem dX11_restThen_85 : decode cX11_restThen 85 = .ok (.aload_n 0, 1) := by decide +kernel
theorem dX11_restThen_86 : decode cX11_restThen 86 = .ok (.getfield 7, 3) := by decide +kernel
theorem dX11_restThen_89 : decode cX11_restThen 89 = .ok (.iload_n 1, 1) := by decide +kernel
theorem dX11_restThen_90 : decode cX11_restThen 90 = .ok (.bipush 44, 2) := by decide +kernel
theorem dX11_restThen_92 : decode cX11_restThen 92 = .ok (.iadd, 1) := by decide +kernel
theorem dX11_restThen_93 : decode cX11_restThen 93 = .ok (.iaload, 1) := by decide +kernel
theorem dX11_restThen_94 : decode cX11_restThen 94 = .ok (.iadd, 1) := by decide +kernel
theorem dX11_restThen_95 : decode cX11_restThen 95 = .ok (.iconst 2, 1) := by decide +kernel
theorem dX11_restThen_96 : decode cX11_restThen 96 = .ok (.iadd, 1) := by decide +kernel
theorem dX11_restThen_97 : decode cX11_restThen 97 = .ok (.dup2, 1) := by decide +kernel
theorem dX11_restThen_98 : decode cX11_restThen 98 = .ok (.iaload, 1) := by decide +kernel
theorem dX11_restThen_99 : decode cX11_restThen 99 = .ok (.iload_n 3, 1) := by decide +kernel
theorem dX11_restThen_100 : decode cX11_restThen 100 = .ok (.iadd, 1) := by decide +kernel
theorem dX11_restThen_101 : decode cX11_restThen 101 = .ok (.iastore, 1) := by decide +kernel
theorem dX11_restThen_102 : decode cX11_restThen 102 = .ok (.return_, 1) := by decide +kernel
theorem dX11_minutes_0 : decode cX11_minutes 0 = .ok (.aload_n 0, 1) := by decide +kernel
theorem dX11_minutes_1 : decode cX11_minutes 1 = .ok (.iload_n 1, 1) := by decide +kernel
theorem dX11_minutes_2 : decode cX11_minutes 2 = .ok (.invokevirtual 146, 3) := by decide +kernel
theorem dX11_minutes_5 : decode cX11_minutes 5 = .ok (.istore 5, 2) := by decide +kernel
theorem dX11_minutes_7 : decode cX11_minutes 7 = .ok (.aload_n 0, 1) := by decide +kernel
theorem dX11_minutes_8 : decode cX11_minutes 8 = .ok (.iload_n 1, 1) := by decide +kernel
theorem dX11_minutes_9 : decode cX11_minutes 9 = .ok (.iload_n 2, 1) := by decide +kernel
theorem dX11_minutes_10 : decode cX11_minutes 10 = .ok (.iload_n 3, 1) := by decide +kernel
theorem dX11_minutes_11 : decode cX11_minutes 11 = .ok (.invokevirtual 178, 3) := by decide +kernel
theorem dX11_minutes_14 : decode cX11_minutes 14 = .ok (.istore 6, 2) := by decide +kernel
theorem dX11_minutes_16 : decode cX11_minutes 16 = .ok (.iconst 0, 1) := by decide +kernel
theorem dX11_minutes_17 : decode cX11_minutes 17 = .ok (.istore 7, 2) := by decide +kernel
theorem dX11_minutes_19 : decode cX11_minutes 19 = .ok (.iload 6, 2) := by decide +kernel
theorem dX11_minutes_21 : decode cX11_minutes 21 = .ok (.ifCond .le 42, 3) := by decide +kernel
theorem dX11_minutes_24 : decode cX11_minutes 24 = .ok (.iload 5, 2) := by decide +kernel
theorem dX11_minutes_26 : decode cX11_minutes 26 = .ok (.aload_n 0, 1) := by decide +kernel
theorem dX11_minutes_27 : decode cX11_minutes 27 = .ok (.getfield 13, 3) := by decide +kernel
theorem dX11_minutes_30 : decode cX11_minutes 30 = .ok (.iconst 1, 1) := by decide +kernel
theorem dX11_minutes_31 : decode cX11_minutes 31 = .ok (.isub, 1) := by decide +kernel
theorem dX11_minutes_32 : decode cX11_minutes 32 = .ok (.if_icmp .eq 21, 3) := by decide +kernel
theorem dX11_minutes_35 : decode cX11_minutes 35 = .ok (.iload 6, 2) := by decide +kernel
theorem dX11_minutes_37 : decode cX11_minutes 37 = .ok (.aload_n 0, 1) := by decide +kernel
theorem dX11_minutes_38 : decode cX11_minutes 38 = .ok (.getfield 7, 3) := by decide +kernel
theorem dX11_minutes_41 : decode cX11_minutes 41 = .ok (.iload_n 1, 1) := by decide +kernel
theorem dX11_minutes_42 : decode cX11_minutes 42 = .ok (.iconst 3, 1) := by decide +kernel
theorem dX11_minutes_43 : decode cX11_minutes 43 = .ok (.iload 5, 2) := by decide +kernel
theorem dX11_minutes_45 : decode cX11_minutes 45 = .ok (.imul, 1) := by decide +kernel
theorem dX11_minutes_46 : decode cX11_minutes 46 = .ok (.iadd, 1) := by decide +kernel
theorem dX11_minutes_47 : decode cX11_minutes 47 = .ok (.iconst 2, 1) := by decide +kernel
theorem dX11_minutes_48 : decode cX11_minutes 48 = .ok (.iadd, 1) := by decide +kernel
theorem dX11_minutes_49 : decode cX11_minutes 49 = .ok (.iaload, 1) := by decide +kernel
theorem dX11_minutes_50 : decode cX11_minutes 50 = .ok (.if_icmp .le 7, 3) := by decide +kernel
theorem dX11_minutes_53 : decode cX11_minutes 53 = .ok (.iconst 1, 1) := by decide +kernel
theorem dX11_minutes_54 : decode cX11_minutes 54 = .ok (.goto 4, 3) := by decide +kernel
theorem dX11_minutes_57 : decode cX11_minutes 57 = .ok (.iconst 0, 1) := by decide +kernel
theorem dX11_minutes_58 : decode cX11_minutes 58 = .ok (.istore 7, 2) := by decide +kernel
theorem dX11_minutes_60 : decode cX11_minutes 60 = .ok (.goto 39, 3) := by decide +kernel
theorem dX11_minutes_63 : decode cX11_minutes 63 = .ok (.iload 6, 2) := by decide +kernel
theorem dX11_minutes_65 : decode cX11_minutes 65 = .ok (.ifCond .ge 34, 3) := by decide +kernel
theorem dX11_minutes_68 : decode cX11_minutes 68 = .ok (.iload 5, 2) := by decide +kernel
theorem dX11_minutes_70 : decode cX11_minutes 70 = .ok (.ifCond .eq 22, 3) := by decide +kernel
theorem dX11_minutes_73 : decode cX11_minutes 73 = .ok (.iload 6, 2) := by decide +kernel
theorem dX11_minutes_75 : decode cX11_minutes 75 = .ok (.ineg, 1) := by decide +kernel
theorem dX11_minutes_76 : decode cX11_minutes 76 = .ok (.aload_n 0, 1) := by decide +kernel
theorem dX11_minutes_77 : decode cX11_minutes 77 = .ok (.getfield 7, 3) := by decide +kernel
theorem dX11_minutes_80 : decode cX11_minutes 80 = .ok (.iload_n 1, 1) := by decide +kernel
theorem dX11_minutes_81 : decode cX11_minutes 81 = .ok (.iconst 3, 1) := by decide +kernel
theorem dX11_minutes_82 : decode cX11_minutes 82 = .ok (.iload 5, 2) := by decide +kernel
theorem dX11_minutes_84 : decode cX11_minutes 84 = .ok (.imul, 1) := by decide +kernel
theorem dX11_minutes_85 : decode cX11_minutes 85 = .ok (.iadd, 1) := by decide +kernel
theorem dX11_minutes_86 : decode cX11_minutes 86 = .ok (.iconst 1, 1) := by decide +kernel
theorem dX11_minutes_87 : decode cX11_minutes 87 = .ok (.isub, 1) := by decide +kernel
theorem dX11_minutes_88 : decode cX11_minutes 88 = .ok (.iaload, 1) := by decide +kernel
theorem dX11_minutes_89 : decode cX11_minutes 89 = .ok (.if_icmp .le 7, 3) := by decide +kernel
theorem dX11_minutes_92 : decode cX11_minutes 92 = .ok (.iconst (-1), 1) := by decide +kernel
theorem dX11_minutes_93 : decode cX11_minutes 93 = .ok (.goto 4, 3) := by decide +kernel
theorem dX11_minutes_96 : decode cX11_minutes 96 = .ok (.iconst 0, 1) := by decide +kernel
theorem dX11_minutes_97 : decode cX11_minutes 97 = .ok (.istore 7, 2) := by decide +kernel
theorem dX11_minutes_99 : decode cX11_minutes 99 = .ok (.iload 7, 2) := by decide +kernel
theorem dX11_minutes_101 : decode cX11_minutes 101 = .ok (.ifCond .ne 8, 3) := by decide +kernel
theorem dX11_minutes_104 : decode cX11_minutes 104 = .ok (.iload 5, 2) := by decide +kernel
theorem dX11_minutes_106 : decode cX11_minutes 106 = .ok (.goto 11, 3) := by decide +kernel
theorem dX11_minutes_109 : decode cX11_minutes 109 = .ok (.aload_n 0, 1) := by decide +kernel
theorem dX11_minutes_110 : decode cX11_minutes 110 = .ok (.iload 5, 2) := by decide +kernel
theorem dX11_minutes_112 : decode cX11_minutes 112 = .ok (.iload 7, 2) := by decide +kernel
theorem dX11_minutes_114 : decode cX11_minutes 114 = .ok (.invokevirtual 181, 3) := by decide +kernel
theorem dX11_minutes_117 : decode cX11_minutes 117 = .ok (.istore 8, 2) := by decide +kernel
theorem dX11_minutes_119 : decode cX11_minutes 119 = .ok (.iload 4, 2) := by decide +kernel
theorem dX11_minutes_121 : decode cX11_minutes 121 = .ok (.ifCond .eq 26, 3) := by decide +kernel
theorem dX11_minutes_124 : decode cX11_minutes 124 = .ok (.iload 7, 2) := by decide +kernel
theorem dX11_minutes_126 : decode cX11_minutes 126 = .ok (.ifCond .eq 21, 3) := by decide +kernel
theorem dX11_minutes_129 : decode cX11_minutes 129 = .ok (.iload 8, 2) := by decide +kernel
theorem dX11_minutes_131 : decode cX11_minutes 131 = .ok (.bipush 20, 2) := by decide +kernel
theorem dX11_minutes_133 : decode cX11_minutes 133 = .ok (.if_icmp .ge 14, 3) := by decide +kernel
theorem dX11_minutes_136 : decode cX11_minutes 136 = .ok (.aload_n 0, 1) := by decide +kernel
theorem dX11_minutes_137 : decode cX11_minutes 137 = .ok (.iload 8, 2) := by decide +kernel
theorem dX11_minutes_139 : decode cX11_minutes 139 = .ok (.iload 7, 2) := by decide +kernel
theorem dX11_minutes_141 : decode cX11_minutes 141 = .ok (.invokevirtual 181, 3) := by decide +kernel
theorem dX11_minutes_144 : decode cX11_minutes 144 = .ok (.goto 5, 3) := by decide +kernel
theorem dX11_minutes_147 : decode cX11_minutes 147 = .ok (.iload 8, 2) := by decide +kernel
theorem dX11_minutes_149 : decode cX11_minutes 149 = .ok (.istore 8, 2) := by decide +kernel
theorem dX11_minutes_151 : decode cX11_minutes 151 = .ok (.aload_n 0, 1) := by decide +kernel
theorem dX11_minutes_152 : decode cX11_minutes 152 = .ok (.getfield 7, 3) := by decide +kernel
theorem dX11_minutes_155 : decode cX11_minutes 155 = .ok (.iload_n 1, 1) := by decide +kernel
theorem dX11_minutes_156 : decode cX11_minutes 156 = .ok (.bipush 27, 2) := by decide +kernel
theorem dX11_minutes_158 : decode cX11_minutes 158 = .ok (.iadd, 1) := by decide +kernel
theorem dX11_minutes_159 : decode cX11_minutes 159 = .ok (.iload 8, 2) := by decide +kernel
theorem dX11_minutes_161 : decode cX11_minutes 161 = .ok (.iconst 2, 1) := by decide +kernel
theorem dX11_minutes_162 : decode cX11_minutes 162 = .ok (.isub, 1) := by decide +kernel
theorem dX11_minutes_163 : decode cX11_minutes 163 = .ok (.iastore, 1) := by decide +kernel
theorem dX11_minutes_164 : decode cX11_minutes 164 = .ok (.aload_n 0, 1) := by decide +kernel
theorem dX11_minutes_165 : decode cX11_minutes 165 = .ok (.iload_n 1, 1) := by decide +kernel
theorem dX11_minutes_166 : decode cX11_minutes 166 = .ok (.iconst 0, 1) := by decide +kernel
theorem dX11_minutes_167 : decode cX11_minutes 167 = .ok (.iload_n 2, 1) := by decide +kernel
theorem dX11_minutes_168 : decode cX11_minutes 168 = .ok (.invokevirtual 184, 3) := by decide +kernel
theorem dX11_minutes_171 : decode cX11_minutes 171 = .ok (.aload_n 0, 1) := by decide +kernel
theorem dX11_minutes_172 : decode cX11_minutes 172 = .ok (.iload_n 1, 1) := by decide +kernel
theorem dX11_minutes_173 : decode cX11_minutes 173 = .ok (.iconst 1, 1) := by decide +kernel
theorem dX11_minutes_174 : decode cX11_minutes 174 = .ok (.iload_n 3, 1) := by decide +kernel
theorem dX11_minutes_175 : decode cX11_minutes 175 = .ok (.invokevirtual 184, 3) := by decide +kernel
theorem dX11_minutes_178 : decode cX11_minutes 178 = .ok (.aload_n 0, 1) := by decide +kernel
theorem dX11_minutes_179 : decode cX11_minutes 179 = .ok (.getfield 7, 3) := by decide +kernel
theorem dX11_minutes_182 : decode cX11_minutes 182 = .ok (.iload_n 1, 1) := by decide +kernel
theorem dX11_minutes_183 : decode cX11_minutes 183 = .ok (.bipush 46, 2) := by decide +kernel
theorem dX11_minutes_185 : decode cX11_minutes 185 = .ok (.iadd, 1) := by decide +kernel
theorem dX11_minutes_186 : decode cX11_minutes 186 = .ok (.dup2, 1) := by decide +kernel
theorem dX11_minutes_187 : decode cX11_minutes 187 = .ok (.iaload, 1) := by decide +kernel
theorem dX11_minutes_188 : decode cX11_minutes 188 = .ok (.iconst 1, 1) := by decide +kernel
theorem dX11_minutes_189 : decode cX11_minutes 189 = .ok (.iadd, 1) := by decide +kernel
theorem dX11_minutes_190 : decode cX11_minutes 190 = .ok (.iastore, 1) := by decide +kernel
theorem dX11_minutes_191 : decode cX11_minutes 191 = .ok (.return_, 1) := by decide +kernel
theorem dX11_canSend_0 : decode cX11_canSend 0 = .ok (.iload_n 1, 1) := by decide +kernel
theorem dX11_canSend_1 : decode cX11_canSend 1 = .ok (.i2l, 1) := by decide +kernel
theorem dX11_canSend_2 : decode cX11_canSend 2 = .ok (.lconst 0, 1) := by decide +kernel
theorem dX11_canSend_3 : decode cX11_canSend 3 = .ok (.aload_n 0, 1) := by decide +kernel
theorem dX11_canSend_4 : decode cX11_canSend 4 = .ok (.iconst 0, 1) := by decide +kernel
theorem dX11_canSend_5 : decode cX11_canSend 5 = .ok (.iconst 0, 1) := by decide +kernel
theorem dX11_canSend_6 : decode cX11_canSend 6 = .ok (.iconst 0, 1) := by decide +kernel
theorem dX11_canSend_7 : decode cX11_canSend 7 = .ok (.invokevirtual 156, 3) := by decide +kernel
theorem dX11_canSend_10 : decode cX11_canSend 10 = .ok (.i2l, 1) := by decide +kernel
theorem dX11_canSend_11 : decode cX11_canSend 11 = .ok (.invokestatic 57, 3) := by decide +kernel
theorem dX11_canSend_14 : decode cX11_canSend 14 = .ok (.ifCond .eq 24, 3) := by decide +kernel
theorem dX11_canSend_17 : decode cX11_canSend 17 = .ok (.iload_n 2, 1) := by decide +kernel
theorem dX11_canSend_18 : decode cX11_canSend 18 = .ok (.i2l, 1) := by decide +kernel
theorem dX11_canSend_19 : decode cX11_canSend 19 = .ok (.lconst 0, 1) := by decide +kernel
theorem dX11_canSend_20 : decode cX11_canSend 20 = .ok (.aload_n 0, 1) := by decide +kernel
theorem dX11_canSend_21 : decode cX11_canSend 21 = .ok (.iconst 0, 1) := by decide +kernel
theorem dX11_canSend_22 : decode cX11_canSend 22 = .ok (.iconst 1, 1) := by decide +kernel
theorem dX11_canSend_23 : decode cX11_canSend 23 = .ok (.iconst 0, 1) := by decide +kernel
theorem dX11_canSend_24 : decode cX11_canSend 24 = .ok (.invokevirtual 156, 3) := by decide +kernel
theorem dX11_canSend_27 : decode cX11_canSend 27 = .ok (.i2l, 1) := by decide +kernel
theorem dX11_canSend_28 : decode cX11_canSend 28 = .ok (.invokestatic 57, 3) := by decide +kernel
theorem dX11_canSend_31 : decode cX11_canSend 31 = .ok (.ifCond .eq 7, 3) := by decide +kernel
theorem dX11_canSend_34 : decode cX11_canSend 34 = .ok (.iconst 1, 1) := by decide +kernel
theorem dX11_canSend_35 : decode cX11_canSend 35 = .ok (.goto 4, 3) := by decide +kernel
theorem dX11_canSend_38 : decode cX11_canSend 38 = .ok (.iconst 0, 1) := by decide +kernel
theorem dX11_canSend_39 : decode cX11_canSend 39 = .ok (.ireturn, 1) := by decide +kernel
theorem dX11_sends_0 : decode cX11_sends 0 = .ok (.iload_n 1, 1) := by decide +kernel
theorem dX11_sends_1 : decode cX11_sends 1 = .ok (.invokestatic 151, 3) := by decide +kernel
theorem dX11_sends_4 : decode cX11_sends 4 = .ok (.ifCond .ne 7, 3) := by decide +kernel
theorem dX11_sends_7 : decode cX11_sends 7 = .ok (.iconst (-1), 1) := by decide +kernel
theorem dX11_sends_8 : decode cX11_sends 8 = .ok (.goto 22, 3) := by decide +kernel
theorem dX11_sends_11 : decode cX11_sends 11 = .ok (.aload_n 0, 1) := by decide +kernel
theorem dX11_sends_12 : decode cX11_sends 12 = .ok (.iconst 0, 1) := by decide +kernel
theorem dX11_sends_13 : decode cX11_sends 13 = .ok (.invokevirtual 188, 3) := by decide +kernel
theorem dX11_sends_16 : decode cX11_sends 16 = .ok (.ifCond .eq 8, 3) := by decide +kernel
theorem dX11_sends_19 : decode cX11_sends 19 = .ok (.bipush (-2), 2) := by decide +kernel
theorem dX11_sends_21 : decode cX11_sends 21 = .ok (.goto 9, 3) := by decide +kernel
theorem dX11_sends_24 : decode cX11_sends 24 = .ok (.aload_n 0, 1) := by decide +kernel
theorem dX11_sends_25 : decode cX11_sends 25 = .ok (.iconst 0, 1) := by decide +kernel
theorem dX11_sends_26 : decode cX11_sends 26 = .ok (.iload_n 1, 1) := by decide +kernel
theorem dX11_sends_27 : decode cX11_sends 27 = .ok (.invokevirtual 191, 3) := by decide +kernel
theorem dX11_sends_30 : decode cX11_sends 30 = .ok (.ireturn, 1) := by decide +kernel
theorem dX11_net_0 : decode cX11_net 0 = .ok (.aload_n 0, 1) := by decide +kernel
theorem dX11_net_1 : decode cX11_net 1 = .ok (.iload_n 1, 1) := by decide +kernel
theorem dX11_net_2 : decode cX11_net 2 = .ok (.iload_n 2, 1) := by decide +kernel
theorem dX11_net_3 : decode cX11_net 3 = .ok (.invokevirtual 194, 3) := by decide +kernel
theorem dX11_net_6 : decode cX11_net 6 = .ok (.ifCond .ne 7, 3) := by decide +kernel
theorem dX11_net_9 : decode cX11_net 9 = .ok (.iconst (-1), 1) := by decide +kernel
theorem dX11_net_10 : decode cX11_net 10 = .ok (.goto 26, 3) := by decide +kernel
theorem dX11_net_13 : decode cX11_net 13 = .ok (.aload_n 0, 1) := by decide +kernel
theorem dX11_net_14 : decode cX11_net 14 = .ok (.iconst 0, 1) := by decide +kernel
theorem dX11_net_15 : decode cX11_net 15 = .ok (.invokevirtual 188, 3) := by decide +kernel
theorem dX11_net_18 : decode cX11_net 18 = .ok (.ifCond .eq 8, 3) := by decide +kernel
theorem dX11_net_21 : decode cX11_net 21 = .ok (.bipush (-2), 2) := by decide +kernel
theorem dX11_net_23 : decode cX11_net 23 = .ok (.goto 13, 3) := by decide +kernel
theorem dX11_net_26 : decode cX11_net 26 = .ok (.bipush 100, 2) := by decide +kernel
theorem dX11_net_28 : decode cX11_net 28 = .ok (.aload_n 0, 1) := by decide +kernel
theorem dX11_net_29 : decode cX11_net 29 = .ok (.iconst 0, 1) := by decide +kernel
theorem dX11_net_30 : decode cX11_net 30 = .ok (.iload_n 1, 1) := by decide +kernel
theorem dX11_net_31 : decode cX11_net 31 = .ok (.iload_n 2, 1) := by decide +kernel
theorem dX11_net_32 : decode cX11_net 32 = .ok (.invokevirtual 178, 3) := by decide +kernel
theorem dX11_net_35 : decode cX11_net 35 = .ok (.iadd, 1) := by decide +kernel
theorem dX11_net_36 : decode cX11_net 36 = .ok (.ireturn, 1) := by decide +kernel
theorem dX11_goes_0 : decode cX11_goes 0 = .ok (.aload_n 0, 1) := by decide +kernel
theorem dX11_goes_1 : decode cX11_goes 1 = .ok (.iload_n 1, 1) := by decide +kernel
theorem dX11_goes_2 : decode cX11_goes 2 = .ok (.iload_n 2, 1) := by decide +kernel
theorem dX11_goes_3 : decode cX11_goes 3 = .ok (.invokevirtual 194, 3) := by decide +kernel
theorem dX11_goes_6 : decode cX11_goes 6 = .ok (.ifCond .ne 5, 3) := by decide +kernel
theorem dX11_goes_9 : decode cX11_goes 9 = .ok (.iconst (-1), 1) := by decide +kernel
theorem dX11_goes_10 : decode cX11_goes 10 = .ok (.ireturn, 1) := by decide +kernel
theorem dX11_goes_11 : decode cX11_goes 11 = .ok (.aload_n 0, 1) := by decide +kernel
theorem dX11_goes_12 : decode cX11_goes 12 = .ok (.iconst 0, 1) := by decide +kernel
theorem dX11_goes_13 : decode cX11_goes 13 = .ok (.invokevirtual 188, 3) := by decide +kernel
theorem dX11_goes_16 : decode cX11_goes 16 = .ok (.ifCond .eq 6, 3) := by decide +kernel
theorem dX11_goes_19 : decode cX11_goes 19 = .ok (.bipush (-2), 2) := by decide +kernel
theorem dX11_goes_21 : decode cX11_goes 21 = .ok (.ireturn, 1) := by decide +kernel
theorem dX11_goes_22 : decode cX11_goes 22 = .ok (.aload_n 0, 1) := by decide +kernel
theorem dX11_goes_23 : decode cX11_goes 23 = .ok (.getfield 7, 3) := by decide +kernel
theorem dX11_goes_26 : decode cX11_goes 26 = .ok (.bipush 46, 2) := by decide +kernel
theorem dX11_goes_28 : decode cX11_goes 28 = .ok (.iaload, 1) := by decide +kernel
theorem dX11_goes_29 : decode cX11_goes 29 = .ok (.sipush 999, 3) := by decide +kernel
theorem dX11_goes_32 : decode cX11_goes 32 = .ok (.if_icmp .ne 6, 3) := by decide +kernel
theorem dX11_goes_35 : decode cX11_goes 35 = .ok (.bipush (-3), 2) := by decide +kernel
theorem dX11_goes_37 : decode cX11_goes 37 = .ok (.ireturn, 1) := by decide +kernel
theorem dX11_goes_38 : decode cX11_goes 38 = .ok (.aload_n 0, 1) := by decide +kernel
theorem dX11_goes_39 : decode cX11_goes 39 = .ok (.iconst 0, 1) := by decide +kernel
theorem dX11_goes_40 : decode cX11_goes 40 = .ok (.iload_n 1, 1) := by decide +kernel
theorem dX11_goes_41 : decode cX11_goes 41 = .ok (.iload_n 2, 1) := by decide +kernel
theorem dX11_goes_42 : decode cX11_goes 42 = .ok (.iload_n 3, 1) := by decide +kernel
theorem dX11_goes_43 : decode cX11_goes 43 = .ok (.invokevirtual 198, 3) := by decide +kernel
theorem dX11_goes_46 : decode cX11_goes 46 = .ok (.aload_n 0, 1) := by decide +kernel
theorem dX11_goes_47 : decode cX11_goes 47 = .ok (.iconst 0, 1) := by decide +kernel
theorem dX11_goes_48 : decode cX11_goes 48 = .ok (.invokevirtual 146, 3) := by decide +kernel
theorem dX11_goes_51 : decode cX11_goes 51 = .ok (.ireturn, 1) := by decide +kernel
theorem dX11_go_0 : decode cX11_go 0 = .ok (.aload_n 0, 1) := by decide +kernel
theorem dX11_go_1 : decode cX11_go 1 = .ok (.iload_n 1, 1) := by decide +kernel
theorem dX11_go_2 : decode cX11_go 2 = .ok (.iload_n 2, 1) := by decide +kernel
theorem dX11_go_3 : decode cX11_go 3 = .ok (.iload_n 3, 1) := by decide +kernel
theorem dX11_go_4 : decode cX11_go 4 = .ok (.invokevirtual 202, 3) := by decide +kernel
theorem dX11_go_7 : decode cX11_go 7 = .ok (.ireturn, 1) := by decide +kernel
theorem dX11_copies_0 : decode cX11_copies 0 = .ok (.iconst 0, 1) := by decide +kernel
theorem dX11_copies_1 : decode cX11_copies 1 = .ok (.istore_n 3, 1) := by decide +kernel
theorem dX11_copies_2 : decode cX11_copies 2 = .ok (.iload_n 3, 1) := by decide +kernel
theorem dX11_copies_3 : decode cX11_copies 3 = .ok (.bipush 47, 2) := by decide +kernel
theorem dX11_copies_5 : decode cX11_copies 5 = .ok (.if_icmp .ge 25, 3) := by decide +kernel
theorem dX11_copies_8 : decode cX11_copies 8 = .ok (.aload_n 0, 1) := by decide +kernel
theorem dX11_copies_9 : decode cX11_copies 9 = .ok (.getfield 7, 3) := by decide +kernel
theorem dX11_copies_12 : decode cX11_copies 12 = .ok (.iload_n 2, 1) := by decide +kernel
theorem dX11_copies_13 : decode cX11_copies 13 = .ok (.iload_n 3, 1) := by decide +kernel
theorem dX11_copies_14 : decode cX11_copies 14 = .ok (.iadd, 1) := by decide +kernel
theorem dX11_copies_15 : decode cX11_copies 15 = .ok (.aload_n 0, 1) := by decide +kernel
theorem dX11_copies_16 : decode cX11_copies 16 = .ok (.getfield 7, 3) := by decide +kernel
theorem dX11_copies_19 : decode cX11_copies 19 = .ok (.iload_n 1, 1) := by decide +kernel
theorem dX11_copies_20 : decode cX11_copies 20 = .ok (.iload_n 3, 1) := by decide +kernel
theorem dX11_copies_21 : decode cX11_copies 21 = .ok (.iadd, 1) := by decide +kernel
theorem dX11_copies_22 : decode cX11_copies 22 = .ok (.iaload, 1) := by decide +kernel
theorem dX11_copies_23 : decode cX11_copies 23 = .ok (.iastore, 1) := by decide +kernel
theorem dX11_copies_24 : decode cX11_copies 24 = .ok (.iinc 3 1, 3) := by decide +kernel
theorem dX11_copies_27 : decode cX11_copies 27 = .ok (.goto (-25), 3) := by decide +kernel
theorem dX11_copies_30 : decode cX11_copies 30 = .ok (.return_, 1) := by decide +kernel
theorem dX11_triesOne_0 : decode cX11_triesOne 0 = .ok (.aload_n 0, 1) := by decide +kernel
theorem dX11_triesOne_1 : decode cX11_triesOne 1 = .ok (.sipush 188, 3) := by decide +kernel
theorem dX11_triesOne_4 : decode cX11_triesOne 4 = .ok (.invokevirtual 188, 3) := by decide +kernel
theorem dX11_triesOne_7 : decode cX11_triesOne 7 = .ok (.ifCond .ne 29, 3) := by decide +kernel
theorem dX11_triesOne_10 : decode cX11_triesOne 10 = .ok (.aload_n 0, 1) := by decide +kernel
theorem dX11_triesOne_11 : decode cX11_triesOne 11 = .ok (.sipush 188, 3) := by decide +kernel
theorem dX11_triesOne_14 : decode cX11_triesOne 14 = .ok (.iconst 0, 1) := by decide +kernel
theorem dX11_triesOne_15 : decode cX11_triesOne 15 = .ok (.invokevirtual 191, 3) := by decide +kernel
theorem dX11_triesOne_18 : decode cX11_triesOne 18 = .ok (.istore_n 2, 1) := by decide +kernel
theorem dX11_triesOne_19 : decode cX11_triesOne 19 = .ok (.aload_n 0, 1) := by decide +kernel
theorem dX11_triesOne_20 : decode cX11_triesOne 20 = .ok (.sipush 188, 3) := by decide +kernel
theorem dX11_triesOne_23 : decode cX11_triesOne 23 = .ok (.iload_n 2, 1) := by decide +kernel
theorem dX11_triesOne_24 : decode cX11_triesOne 24 = .ok (.aload_n 0, 1) := by decide +kernel
theorem dX11_triesOne_25 : decode cX11_triesOne 25 = .ok (.sipush 188, 3) := by decide +kernel
theorem dX11_triesOne_28 : decode cX11_triesOne 28 = .ok (.iconst 1, 1) := by decide +kernel
theorem dX11_triesOne_29 : decode cX11_triesOne 29 = .ok (.invokevirtual 191, 3) := by decide +kernel
theorem dX11_triesOne_32 : decode cX11_triesOne 32 = .ok (.iload_n 1, 1) := by decide +kernel
theorem dX11_triesOne_33 : decode cX11_triesOne 33 = .ok (.invokevirtual 198, 3) := by decide +kernel
theorem dX11_triesOne_36 : decode cX11_triesOne 36 = .ok (.return_, 1) := by decide +kernel
theorem dX11_triesOn_0 : decode cX11_triesOn 0 = .ok (.iconst 0, 1) := by decide +kernel
theorem dX11_triesOn_1 : decode cX11_triesOn 1 = .ok (.istore_n 2, 1) := by decide +kernel
theorem dX11_triesOn_2 : decode cX11_triesOn 2 = .ok (.iload_n 2, 1) := by decide +kernel
theorem dX11_triesOn_3 : decode cX11_triesOn 3 = .ok (.iload_n 1, 1) := by decide +kernel
theorem dX11_triesOn_4 : decode cX11_triesOn 4 = .ok (.if_icmp .ge 14, 3) := by decide +kernel
theorem dX11_triesOn_7 : decode cX11_triesOn 7 = .ok (.aload_n 0, 1) := by decide +kernel
theorem dX11_triesOn_8 : decode cX11_triesOn 8 = .ok (.iconst 0, 1) := by decide +kernel
theorem dX11_triesOn_9 : decode cX11_triesOn 9 = .ok (.invokevirtual 206, 3) := by decide +kernel
theorem dX11_triesOn_12 : decode cX11_triesOn 12 = .ok (.iinc 2 1, 3) := by decide +kernel
theorem dX11_triesOn_15 : decode cX11_triesOn 15 = .ok (.goto (-13), 3) := by decide +kernel
theorem dX11_triesOn_18 : decode cX11_triesOn 18 = .ok (.aload_n 0, 1) := by decide +kernel
theorem dX11_triesOn_19 : decode cX11_triesOn 19 = .ok (.sipush 188, 3) := by decide +kernel
theorem dX11_triesOn_22 : decode cX11_triesOn 22 = .ok (.invokevirtual 146, 3) := by decide +kernel
theorem dX11_triesOn_25 : decode cX11_triesOn 25 = .ok (.ireturn, 1) := by decide +kernel
theorem dX11_ahead_0 : decode cX11_ahead 0 = .ok (.iload_n 1, 1) := by decide +kernel
theorem dX11_ahead_1 : decode cX11_ahead 1 = .ok (.i2l, 1) := by decide +kernel
theorem dX11_ahead_2 : decode cX11_ahead 2 = .ok (.lconst 0, 1) := by decide +kernel
theorem dX11_ahead_3 : decode cX11_ahead 3 = .ok (.ldc2_w 210, 3) := by decide +kernel
theorem dX11_ahead_6 : decode cX11_ahead 6 = .ok (.invokestatic 57, 3) := by decide +kernel
theorem dX11_ahead_9 : decode cX11_ahead 9 = .ok (.ifCond .ne 5, 3) := by decide +kernel
theorem dX11_ahead_12 : decode cX11_ahead 12 = .ok (.iconst (-1), 1) := by decide +kernel
theorem dX11_ahead_13 : decode cX11_ahead 13 = .ok (.ireturn, 1) := by decide +kernel
theorem dX11_ahead_14 : decode cX11_ahead 14 = .ok (.aload_n 0, 1) := by decide +kernel
theorem dX11_ahead_15 : decode cX11_ahead 15 = .ok (.iconst 0, 1) := by decide +kernel
theorem dX11_ahead_16 : decode cX11_ahead 16 = .ok (.sipush 188, 3) := by decide +kernel
theorem dX11_ahead_19 : decode cX11_ahead 19 = .ok (.invokevirtual 212, 3) := by decide +kernel
theorem dX11_ahead_22 : decode cX11_ahead 22 = .ok (.aload_n 0, 1) := by decide +kernel
theorem dX11_ahead_23 : decode cX11_ahead 23 = .ok (.iload_n 1, 1) := by decide +kernel
theorem dX11_ahead_24 : decode cX11_ahead 24 = .ok (.invokevirtual 216, 3) := by decide +kernel
theorem dX11_ahead_27 : decode cX11_ahead 27 = .ok (.ireturn, 1) := by decide +kernel
theorem dX11_over_0 : decode cX11_over 0 = .ok (.aload_n 0, 1) := by decide +kernel
theorem dX11_over_1 : decode cX11_over 1 = .ok (.iconst 0, 1) := by decide +kernel
theorem dX11_over_2 : decode cX11_over 2 = .ok (.sipush 188, 3) := by decide +kernel
theorem dX11_over_5 : decode cX11_over 5 = .ok (.invokevirtual 212, 3) := by decide +kernel
theorem dX11_over_8 : decode cX11_over 8 = .ok (.iconst 0, 1) := by decide +kernel
theorem dX11_over_9 : decode cX11_over 9 = .ok (.istore_n 1, 1) := by decide +kernel
theorem dX11_over_10 : decode cX11_over 10 = .ok (.iload_n 1, 1) := by decide +kernel
theorem dX11_over_11 : decode cX11_over 11 = .ok (.bipush 60, 2) := by decide +kernel
theorem dX11_over_13 : decode cX11_over 13 = .ok (.if_icmp .gt 26, 3) := by decide +kernel
theorem dX11_over_16 : decode cX11_over 16 = .ok (.aload_n 0, 1) := by decide +kernel
theorem dX11_over_17 : decode cX11_over 17 = .ok (.sipush 188, 3) := by decide +kernel
theorem dX11_over_20 : decode cX11_over 20 = .ok (.invokevirtual 188, 3) := by decide +kernel
theorem dX11_over_23 : decode cX11_over 23 = .ok (.ifCond .eq 5, 3) := by decide +kernel
theorem dX11_over_26 : decode cX11_over 26 = .ok (.iload_n 1, 1) := by decide +kernel
theorem dX11_over_27 : decode cX11_over 27 = .ok (.ireturn, 1) := by decide +kernel
theorem dX11_over_28 : decode cX11_over 28 = .ok (.aload_n 0, 1) := by decide +kernel
theorem dX11_over_29 : decode cX11_over 29 = .ok (.iconst 0, 1) := by decide +kernel
theorem dX11_over_30 : decode cX11_over 30 = .ok (.invokevirtual 206, 3) := by decide +kernel
theorem dX11_over_33 : decode cX11_over 33 = .ok (.iinc 1 1, 3) := by decide +kernel
theorem dX11_over_36 : decode cX11_over 36 = .ok (.goto (-26), 3) := by decide +kernel
theorem dX11_over_39 : decode cX11_over 39 = .ok (.bipush (-4), 2) := by decide +kernel
theorem dX11_over_41 : decode cX11_over 41 = .ok (.ireturn, 1) := by decide +kernel
theorem dX11_lowest_0 : decode cX11_lowest 0 = .ok (.lload_n 0, 1) := by decide +kernel
theorem dX11_lowest_1 : decode cX11_lowest 1 = .ok (.lstore 5, 2) := by decide +kernel
theorem dX11_lowest_3 : decode cX11_lowest 3 = .ok (.lload_n 2, 1) := by decide +kernel
theorem dX11_lowest_4 : decode cX11_lowest 4 = .ok (.lstore 7, 2) := by decide +kernel
theorem dX11_lowest_6 : decode cX11_lowest 6 = .ok (.lload 7, 2) := by decide +kernel
theorem dX11_lowest_8 : decode cX11_lowest 8 = .ok (.lconst 0, 1) := by decide +kernel
theorem dX11_lowest_9 : decode cX11_lowest 9 = .ok (.lcmp, 1) := by decide +kernel
theorem dX11_lowest_10 : decode cX11_lowest 10 = .ok (.ifCond .eq 21, 3) := by decide +kernel
theorem dX11_lowest_13 : decode cX11_lowest 13 = .ok (.lload 5, 2) := by decide +kernel
theorem dX11_lowest_15 : decode cX11_lowest 15 = .ok (.lload 7, 2) := by decide +kernel
theorem dX11_lowest_17 : decode cX11_lowest 17 = .ok (.lrem, 1) := by decide +kernel
theorem dX11_lowest_18 : decode cX11_lowest 18 = .ok (.lstore 9, 2) := by decide +kernel
theorem dX11_lowest_20 : decode cX11_lowest 20 = .ok (.lload 7, 2) := by decide +kernel
theorem dX11_lowest_22 : decode cX11_lowest 22 = .ok (.lstore 5, 2) := by decide +kernel
theorem dX11_lowest_24 : decode cX11_lowest 24 = .ok (.lload 9, 2) := by decide +kernel
theorem dX11_lowest_26 : decode cX11_lowest 26 = .ok (.lstore 7, 2) := by decide +kernel
theorem dX11_lowest_28 : decode cX11_lowest 28 = .ok (.goto (-22), 3) := by decide +kernel
theorem dX11_lowest_31 : decode cX11_lowest 31 = .ok (.iload 4, 2) := by decide +kernel
theorem dX11_lowest_33 : decode cX11_lowest 33 = .ok (.ifCond .ne 7, 3) := by decide +kernel
theorem dX11_lowest_36 : decode cX11_lowest 36 = .ok (.lload_n 0, 1) := by decide +kernel
theorem dX11_lowest_37 : decode cX11_lowest 37 = .ok (.goto 4, 3) := by decide +kernel
theorem dX11_lowest_40 : decode cX11_lowest 40 = .ok (.lload_n 2, 1) := by decide +kernel
theorem dX11_lowest_41 : decode cX11_lowest 41 = .ok (.lload 5, 2) := by decide +kernel
theorem dX11_lowest_43 : decode cX11_lowest 43 = .ok (.ldiv, 1) := by decide +kernel
theorem dX11_lowest_44 : decode cX11_lowest 44 = .ok (.lreturn, 1) := by decide +kernel
theorem dX11_triesBreaks_0 : decode cX11_triesBreaks 0 = .ok (.lconst 1, 1) := by decide +kernel
theorem dX11_triesBreaks_1 : decode cX11_triesBreaks 1 = .ok (.lstore_n 3, 1) := by decide +kernel
theorem dX11_triesBreaks_2 : decode cX11_triesBreaks 2 = .ok (.aload_n 0, 1) := by decide +kernel
theorem dX11_triesBreaks_3 : decode cX11_triesBreaks 3 = .ok (.iconst 0, 1) := by decide +kernel
theorem dX11_triesBreaks_4 : decode cX11_triesBreaks 4 = .ok (.sipush 188, 3) := by decide +kernel
theorem dX11_triesBreaks_7 : decode cX11_triesBreaks 7 = .ok (.invokevirtual 212, 3) := by decide +kernel
theorem dX11_triesBreaks_10 : decode cX11_triesBreaks 10 = .ok (.iconst 0, 1) := by decide +kernel
theorem dX11_triesBreaks_11 : decode cX11_triesBreaks 11 = .ok (.istore 5, 2) := by decide +kernel
theorem dX11_triesBreaks_13 : decode cX11_triesBreaks 13 = .ok (.iload 5, 2) := by decide +kernel
theorem dX11_triesBreaks_15 : decode cX11_triesBreaks 15 = .ok (.iload_n 1, 1) := by decide +kernel
theorem dX11_triesBreaks_16 : decode cX11_triesBreaks 16 = .ok (.if_icmp .ge 62, 3) := by decide +kernel
theorem dX11_triesBreaks_19 : decode cX11_triesBreaks 19 = .ok (.iload_n 2, 1) := by decide +kernel
theorem dX11_triesBreaks_20 : decode cX11_triesBreaks 20 = .ok (.iload 5, 2) := by decide +kernel
theorem dX11_triesBreaks_22 : decode cX11_triesBreaks 22 = .ok (.ishr, 1) := by decide +kernel
theorem dX11_triesBreaks_23 : decode cX11_triesBreaks 23 = .ok (.iconst 1, 1) := by decide +kernel
theorem dX11_triesBreaks_24 : decode cX11_triesBreaks 24 = .ok (.iand, 1) := by decide +kernel
theorem dX11_triesBreaks_25 : decode cX11_triesBreaks 25 = .ok (.iconst 1, 1) := by decide +kernel
theorem dX11_triesBreaks_26 : decode cX11_triesBreaks 26 = .ok (.if_icmp .ne 7, 3) := by decide +kernel
theorem dX11_triesBreaks_29 : decode cX11_triesBreaks 29 = .ok (.iconst 1, 1) := by decide +kernel
theorem dX11_triesBreaks_30 : decode cX11_triesBreaks 30 = .ok (.goto 4, 3) := by decide +kernel
theorem dX11_triesBreaks_33 : decode cX11_triesBreaks 33 = .ok (.iconst 0, 1) := by decide +kernel
theorem dX11_triesBreaks_34 : decode cX11_triesBreaks 34 = .ok (.istore 6, 2) := by decide +kernel
theorem dX11_triesBreaks_36 : decode cX11_triesBreaks 36 = .ok (.lload_n 3, 1) := by decide +kernel
theorem dX11_triesBreaks_37 : decode cX11_triesBreaks 37 = .ok (.iload 6, 2) := by decide +kernel
theorem dX11_triesBreaks_39 : decode cX11_triesBreaks 39 = .ok (.ifCond .eq 14, 3) := by decide +kernel
theorem dX11_triesBreaks_42 : decode cX11_triesBreaks 42 = .ok (.aload_n 0, 1) := by decide +kernel
theorem dX11_triesBreaks_43 : decode cX11_triesBreaks 43 = .ok (.getfield 7, 3) := by decide +kernel
theorem dX11_triesBreaks_46 : decode cX11_triesBreaks 46 = .ok (.bipush 45, 2) := by decide +kernel
theorem dX11_triesBreaks_48 : decode cX11_triesBreaks 48 = .ok (.iaload, 1) := by decide +kernel
theorem dX11_triesBreaks_49 : decode cX11_triesBreaks 49 = .ok (.i2l, 1) := by decide +kernel
theorem dX11_triesBreaks_50 : decode cX11_triesBreaks 50 = .ok (.goto 14, 3) := by decide +kernel
theorem dX11_triesBreaks_53 : decode cX11_triesBreaks 53 = .ok (.bipush 8, 2) := by decide +kernel
theorem dX11_triesBreaks_55 : decode cX11_triesBreaks 55 = .ok (.aload_n 0, 1) := by decide +kernel
theorem dX11_triesBreaks_56 : decode cX11_triesBreaks 56 = .ok (.getfield 7, 3) := by decide +kernel
theorem dX11_triesBreaks_59 : decode cX11_triesBreaks 59 = .ok (.bipush 45, 2) := by decide +kernel
theorem dX11_triesBreaks_61 : decode cX11_triesBreaks 61 = .ok (.iaload, 1) := by decide +kernel
theorem dX11_triesBreaks_62 : decode cX11_triesBreaks 62 = .ok (.isub, 1) := by decide +kernel
theorem dX11_triesBreaks_63 : decode cX11_triesBreaks 63 = .ok (.i2l, 1) := by decide +kernel
theorem dX11_triesBreaks_64 : decode cX11_triesBreaks 64 = .ok (.lmul, 1) := by decide +kernel
theorem dX11_triesBreaks_65 : decode cX11_triesBreaks 65 = .ok (.lstore_n 3, 1) := by decide +kernel
theorem dX11_triesBreaks_66 : decode cX11_triesBreaks 66 = .ok (.aload_n 0, 1) := by decide +kernel
theorem dX11_triesBreaks_67 : decode cX11_triesBreaks 67 = .ok (.iload 6, 2) := by decide +kernel
theorem dX11_triesBreaks_69 : decode cX11_triesBreaks 69 = .ok (.invokevirtual 206, 3) := by decide +kernel
theorem dX11_triesBreaks_72 : decode cX11_triesBreaks 72 = .ok (.iinc 5 1, 3) := by decide +kernel
theorem dX11_triesBreaks_75 : decode cX11_triesBreaks 75 = .ok (.goto (-62), 3) := by decide +kernel
theorem dX11_triesBreaks_78 : decode cX11_triesBreaks 78 = .ok (.lload_n 3, 1) := by decide +kernel
theorem dX11_triesBreaks_79 : decode cX11_triesBreaks 79 = .ok (.lreturn, 1) := by decide +kernel
theorem dX11_eights_0 : decode cX11_eights 0 = .ok (.lconst 1, 1) := by decide +kernel
theorem dX11_eights_1 : decode cX11_eights 1 = .ok (.lstore_n 1, 1) := by decide +kernel
theorem dX11_eights_2 : decode cX11_eights 2 = .ok (.iconst 0, 1) := by decide +kernel
theorem dX11_eights_3 : decode cX11_eights 3 = .ok (.istore_n 3, 1) := by decide +kernel
theorem dX11_eights_4 : decode cX11_eights 4 = .ok (.iload_n 3, 1) := by decide +kernel
theorem dX11_eights_5 : decode cX11_eights 5 = .ok (.iload_n 0, 1) := by decide +kernel
theorem dX11_eights_6 : decode cX11_eights 6 = .ok (.if_icmp .ge 15, 3) := by decide +kernel
theorem dX11_eights_9 : decode cX11_eights 9 = .ok (.lload_n 1, 1) := by decide +kernel
theorem dX11_eights_10 : decode cX11_eights 10 = .ok (.ldc2_w 122, 3) := by decide +kernel
theorem dX11_eights_13 : decode cX11_eights 13 = .ok (.lmul, 1) := by decide +kernel
theorem dX11_eights_14 : decode cX11_eights 14 = .ok (.lstore_n 1, 1) := by decide +kernel
theorem dX11_eights_15 : decode cX11_eights 15 = .ok (.iinc 3 1, 3) := by decide +kernel
theorem dX11_eights_18 : decode cX11_eights 18 = .ok (.goto (-14), 3) := by decide +kernel
theorem dX11_eights_21 : decode cX11_eights 21 = .ok (.lload_n 1, 1) := by decide +kernel
theorem dX11_eights_22 : decode cX11_eights 22 = .ok (.lreturn, 1) := by decide +kernel
theorem dX11_odds_0 : decode cX11_odds 0 = .ok (.iload_n 1, 1) := by decide +kernel
theorem dX11_odds_1 : decode cX11_odds 1 = .ok (.i2l, 1) := by decide +kernel
theorem dX11_odds_2 : decode cX11_odds 2 = .ok (.lconst 0, 1) := by decide +kernel
theorem dX11_odds_3 : decode cX11_odds 3 = .ok (.ldc2_w 122, 3) := by decide +kernel
theorem dX11_odds_6 : decode cX11_odds 6 = .ok (.invokestatic 57, 3) := by decide +kernel
theorem dX11_odds_9 : decode cX11_odds 9 = .ok (.ifCond .eq 21, 3) := by decide +kernel
theorem dX11_odds_12 : decode cX11_odds 12 = .ok (.aload_n 0, 1) := by decide +kernel
theorem dX11_odds_13 : decode cX11_odds 13 = .ok (.iload_n 2, 1) := by decide +kernel
theorem dX11_odds_14 : decode cX11_odds 14 = .ok (.invokevirtual 219, 3) := by decide +kernel
theorem dX11_odds_17 : decode cX11_odds 17 = .ok (.ifCond .eq 13, 3) := by decide +kernel
theorem dX11_odds_20 : decode cX11_odds 20 = .ok (.iload_n 3, 1) := by decide +kernel
theorem dX11_odds_21 : decode cX11_odds 21 = .ok (.i2l, 1) := by decide +kernel
theorem dX11_odds_22 : decode cX11_odds 22 = .ok (.lconst 0, 1) := by decide +kernel
theorem dX11_odds_23 : decode cX11_odds 23 = .ok (.lconst 1, 1) := by decide +kernel
theorem dX11_odds_24 : decode cX11_odds 24 = .ok (.invokestatic 57, 3) := by decide +kernel
theorem dX11_odds_27 : decode cX11_odds 27 = .ok (.ifCond .ne 7, 3) := by decide +kernel
theorem dX11_odds_30 : decode cX11_odds 30 = .ok (.ldc2_w 222, 3) := by decide +kernel
theorem dX11_odds_33 : decode cX11_odds 33 = .ok (.lreturn, 1) := by decide +kernel
theorem dX11_odds_34 : decode cX11_odds 34 = .ok (.lconst 0, 1) := by decide +kernel
theorem dX11_odds_35 : decode cX11_odds 35 = .ok (.lstore 4, 2) := by decide +kernel
theorem dX11_odds_37 : decode cX11_odds 37 = .ok (.iconst 0, 1) := by decide +kernel
theorem dX11_odds_38 : decode cX11_odds 38 = .ok (.istore 6, 2) := by decide +kernel
theorem dX11_odds_40 : decode cX11_odds 40 = .ok (.iload 6, 2) := by decide +kernel
theorem dX11_odds_42 : decode cX11_odds 42 = .ok (.iconst 1, 1) := by decide +kernel
theorem dX11_odds_43 : decode cX11_odds 43 = .ok (.iload_n 1, 1) := by decide +kernel
theorem dX11_odds_44 : decode cX11_odds 44 = .ok (.ishl, 1) := by decide +kernel
theorem dX11_odds_45 : decode cX11_odds 45 = .ok (.if_icmp .ge 40, 3) := by decide +kernel
theorem dX11_odds_48 : decode cX11_odds 48 = .ok (.aload_n 0, 1) := by decide +kernel
theorem dX11_odds_49 : decode cX11_odds 49 = .ok (.iload_n 1, 1) := by decide +kernel
theorem dX11_odds_50 : decode cX11_odds 50 = .ok (.iload 6, 2) := by decide +kernel
theorem dX11_odds_52 : decode cX11_odds 52 = .ok (.invokevirtual 224, 3) := by decide +kernel
theorem dX11_odds_55 : decode cX11_odds 55 = .ok (.lstore 7, 2) := by decide +kernel
theorem dX11_odds_57 : decode cX11_odds 57 = .ok (.lload 4, 2) := by decide +kernel
theorem dX11_odds_59 : decode cX11_odds 59 = .ok (.aload_n 0, 1) := by decide +kernel
theorem dX11_odds_60 : decode cX11_odds 60 = .ok (.sipush 188, 3) := by decide +kernel
theorem dX11_odds_63 : decode cX11_odds 63 = .ok (.invokevirtual 146, 3) := by decide +kernel
theorem dX11_odds_66 : decode cX11_odds 66 = .ok (.iload_n 2, 1) := by decide +kernel
theorem dX11_odds_67 : decode cX11_odds 67 = .ok (.if_icmp .ne 8, 3) := by decide +kernel
theorem dX11_odds_70 : decode cX11_odds 70 = .ok (.lload 7, 2) := by decide +kernel
theorem dX11_odds_72 : decode cX11_odds 72 = .ok (.goto 4, 3) := by decide +kernel
theorem dX11_odds_75 : decode cX11_odds 75 = .ok (.lconst 0, 1) := by decide +kernel
theorem dX11_odds_76 : decode cX11_odds 76 = .ok (.ladd, 1) := by decide +kernel
theorem dX11_odds_77 : decode cX11_odds 77 = .ok (.lstore 4, 2) := by decide +kernel
theorem dX11_odds_79 : decode cX11_odds 79 = .ok (.iinc 6 1, 3) := by decide +kernel
theorem dX11_odds_82 : decode cX11_odds 82 = .ok (.goto (-42), 3) := by decide +kernel
theorem dX11_odds_85 : decode cX11_odds 85 = .ok (.lload 4, 2) := by decide +kernel
theorem dX11_odds_87 : decode cX11_odds 87 = .ok (.iload_n 1, 1) := by decide +kernel
theorem dX11_odds_88 : decode cX11_odds 88 = .ok (.invokestatic 228, 3) := by decide +kernel
theorem dX11_odds_91 : decode cX11_odds 91 = .ok (.iload_n 3, 1) := by decide +kernel
theorem dX11_odds_92 : decode cX11_odds 92 = .ok (.invokestatic 232, 3) := by decide +kernel
theorem dX11_odds_95 : decode cX11_odds 95 = .ok (.lreturn, 1) := by decide +kernel
theorem dX11_mean_0 : decode cX11_mean 0 = .ok (.iload_n 1, 1) := by decide +kernel
theorem dX11_mean_1 : decode cX11_mean 1 = .ok (.i2l, 1) := by decide +kernel
theorem dX11_mean_2 : decode cX11_mean 2 = .ok (.lconst 0, 1) := by decide +kernel
theorem dX11_mean_3 : decode cX11_mean 3 = .ok (.ldc2_w 122, 3) := by decide +kernel
theorem dX11_mean_6 : decode cX11_mean 6 = .ok (.invokestatic 57, 3) := by decide +kernel
theorem dX11_mean_9 : decode cX11_mean 9 = .ok (.ifCond .eq 13, 3) := by decide +kernel
theorem dX11_mean_12 : decode cX11_mean 12 = .ok (.iload_n 2, 1) := by decide +kernel
theorem dX11_mean_13 : decode cX11_mean 13 = .ok (.i2l, 1) := by decide +kernel
theorem dX11_mean_14 : decode cX11_mean 14 = .ok (.lconst 0, 1) := by decide +kernel
theorem dX11_mean_15 : decode cX11_mean 15 = .ok (.lconst 1, 1) := by decide +kernel
theorem dX11_mean_16 : decode cX11_mean 16 = .ok (.invokestatic 57, 3) := by decide +kernel
theorem dX11_mean_19 : decode cX11_mean 19 = .ok (.ifCond .ne 7, 3) := by decide +kernel
theorem dX11_mean_22 : decode cX11_mean 22 = .ok (.ldc2_w 222, 3) := by decide +kernel
theorem dX11_mean_25 : decode cX11_mean 25 = .ok (.lreturn, 1) := by decide +kernel
theorem dX11_mean_26 : decode cX11_mean 26 = .ok (.lconst 0, 1) := by decide +kernel
theorem dX11_mean_27 : decode cX11_mean 27 = .ok (.lstore_n 3, 1) := by decide +kernel
theorem dX11_mean_28 : decode cX11_mean 28 = .ok (.iconst 0, 1) := by decide +kernel
theorem dX11_mean_29 : decode cX11_mean 29 = .ok (.istore 5, 2) := by decide +kernel
theorem dX11_mean_31 : decode cX11_mean 31 = .ok (.iload 5, 2) := by decide +kernel
theorem dX11_mean_33 : decode cX11_mean 33 = .ok (.iconst 1, 1) := by decide +kernel
theorem dX11_mean_34 : decode cX11_mean 34 = .ok (.iload_n 1, 1) := by decide +kernel
theorem dX11_mean_35 : decode cX11_mean 35 = .ok (.ishl, 1) := by decide +kernel
theorem dX11_mean_36 : decode cX11_mean 36 = .ok (.if_icmp .ge 38, 3) := by decide +kernel
theorem dX11_mean_39 : decode cX11_mean 39 = .ok (.aload_n 0, 1) := by decide +kernel
theorem dX11_mean_40 : decode cX11_mean 40 = .ok (.iload_n 1, 1) := by decide +kernel
theorem dX11_mean_41 : decode cX11_mean 41 = .ok (.iload 5, 2) := by decide +kernel
theorem dX11_mean_43 : decode cX11_mean 43 = .ok (.invokevirtual 224, 3) := by decide +kernel
theorem dX11_mean_46 : decode cX11_mean 46 = .ok (.lstore 6, 2) := by decide +kernel
theorem dX11_mean_48 : decode cX11_mean 48 = .ok (.lload_n 3, 1) := by decide +kernel
theorem dX11_mean_49 : decode cX11_mean 49 = .ok (.lload 6, 2) := by decide +kernel
theorem dX11_mean_51 : decode cX11_mean 51 = .ok (.aload_n 0, 1) := by decide +kernel
theorem dX11_mean_52 : decode cX11_mean 52 = .ok (.aload_n 0, 1) := by decide +kernel
theorem dX11_mean_53 : decode cX11_mean 53 = .ok (.sipush 188, 3) := by decide +kernel
theorem dX11_mean_56 : decode cX11_mean 56 = .ok (.invokevirtual 146, 3) := by decide +kernel
theorem dX11_mean_59 : decode cX11_mean 59 = .ok (.invokevirtual 236, 3) := by decide +kernel
theorem dX11_mean_62 : decode cX11_mean 62 = .ok (.iconst 1, 1) := by decide +kernel
theorem dX11_mean_63 : decode cX11_mean 63 = .ok (.iadd, 1) := by decide +kernel
theorem dX11_mean_64 : decode cX11_mean 64 = .ok (.i2l, 1) := by decide +kernel
theorem dX11_mean_65 : decode cX11_mean 65 = .ok (.lmul, 1) := by decide +kernel
theorem dX11_mean_66 : decode cX11_mean 66 = .ok (.ladd, 1) := by decide +kernel
theorem dX11_mean_67 : decode cX11_mean 67 = .ok (.lstore_n 3, 1) := by decide +kernel
theorem dX11_mean_68 : decode cX11_mean 68 = .ok (.iinc 5 1, 3) := by decide +kernel
theorem dX11_mean_71 : decode cX11_mean 71 = .ok (.goto (-40), 3) := by decide +kernel
theorem dX11_mean_74 : decode cX11_mean 74 = .ok (.lload_n 3, 1) := by decide +kernel
theorem dX11_mean_75 : decode cX11_mean 75 = .ok (.iload_n 1, 1) := by decide +kernel
theorem dX11_mean_76 : decode cX11_mean 76 = .ok (.invokestatic 228, 3) := by decide +kernel
theorem dX11_mean_79 : decode cX11_mean 79 = .ok (.iload_n 2, 1) := by decide +kernel
theorem dX11_mean_80 : decode cX11_mean 80 = .ok (.invokestatic 232, 3) := by decide +kernel
theorem dX11_mean_83 : decode cX11_mean 83 = .ok (.lreturn, 1) := by decide +kernel
theorem dX11_place_0 : decode cX11_place 0 = .ok (.iload_n 1, 1) := by decide +kernel
theorem dX11_place_1 : decode cX11_place 1 = .ok (.bipush 20, 2) := by decide +kernel
theorem dX11_place_3 : decode cX11_place 3 = .ok (.if_icmp .ne 7, 3) := by decide +kernel
theorem dX11_place_6 : decode cX11_place 6 = .ok (.iconst (-1), 1) := by decide +kernel
theorem dX11_place_7 : decode cX11_place 7 = .ok (.goto 17, 3) := by decide +kernel
theorem dX11_place_10 : decode cX11_place 10 = .ok (.iload_n 1, 1) := by decide +kernel
theorem dX11_place_11 : decode cX11_place 11 = .ok (.bipush 21, 2) := by decide +kernel
theorem dX11_place_13 : decode cX11_place 13 = .ok (.if_icmp .ne 10, 3) := by decide +kernel
theorem dX11_place_16 : decode cX11_place 16 = .ok (.aload_n 0, 1) := by decide +kernel
theorem dX11_place_17 : decode cX11_place 17 = .ok (.getfield 13, 3) := by decide +kernel
theorem dX11_place_20 : decode cX11_place 20 = .ok (.goto 4, 3) := by decide +kernel
theorem dX11_place_23 : decode cX11_place 23 = .ok (.iload_n 1, 1) := by decide +kernel
theorem dX11_place_24 : decode cX11_place 24 = .ok (.ireturn, 1) := by decide +kernel
theorem dX11_triesNumbers_0 : decode cX11_triesNumbers 0 = .ok (.aload_n 0, 1) := by decide +kernel
theorem dX11_triesNumbers_1 : decode cX11_triesNumbers 1 = .ok (.iconst 0, 1) := by decide +kernel
theorem dX11_triesNumbers_2 : decode cX11_triesNumbers 2 = .ok (.sipush 188, 3) := by decide +kernel
theorem dX11_triesNumbers_5 : decode cX11_triesNumbers 5 = .ok (.invokevirtual 212, 3) := by decide +kernel
theorem dX11_triesNumbers_8 : decode cX11_triesNumbers 8 = .ok (.iconst 1, 1) := by decide +kernel
theorem dX11_triesNumbers_9 : decode cX11_triesNumbers 9 = .ok (.istore_n 3, 1) := by decide +kernel
theorem dX11_triesNumbers_10 : decode cX11_triesNumbers 10 = .ok (.iconst 0, 1) := by decide +kernel
theorem dX11_triesNumbers_11 : decode cX11_triesNumbers 11 = .ok (.istore 4, 2) := by decide +kernel
theorem dX11_triesNumbers_13 : decode cX11_triesNumbers 13 = .ok (.iload 4, 2) := by decide +kernel
theorem dX11_triesNumbers_15 : decode cX11_triesNumbers 15 = .ok (.iload_n 2, 1) := by decide +kernel
theorem dX11_triesNumbers_16 : decode cX11_triesNumbers 16 = .ok (.if_icmp .ge 123, 3) := by decide +kernel
theorem dX11_triesNumbers_19 : decode cX11_triesNumbers 19 = .ok (.iload_n 3, 1) := by decide +kernel
theorem dX11_triesNumbers_20 : decode cX11_triesNumbers 20 = .ok (.ifCond .eq 119, 3) := by decide +kernel
theorem dX11_triesNumbers_23 : decode cX11_triesNumbers 23 = .ok (.aload_n 0, 1) := by decide +kernel
theorem dX11_triesNumbers_24 : decode cX11_triesNumbers 24 = .ok (.sipush 188, 3) := by decide +kernel
theorem dX11_triesNumbers_27 : decode cX11_triesNumbers 27 = .ok (.invokevirtual 188, 3) := by decide +kernel
theorem dX11_triesNumbers_30 : decode cX11_triesNumbers 30 = .ok (.ifCond .eq 22, 3) := by decide +kernel
theorem dX11_triesNumbers_33 : decode cX11_triesNumbers 33 = .ok (.aload_n 0, 1) := by decide +kernel
theorem dX11_triesNumbers_34 : decode cX11_triesNumbers 34 = .ok (.getfield 32, 3) := by decide +kernel
theorem dX11_triesNumbers_37 : decode cX11_triesNumbers 37 = .ok (.iload 4, 2) := by decide +kernel
theorem dX11_triesNumbers_39 : decode cX11_triesNumbers 39 = .ok (.iaload, 1) := by decide +kernel
theorem dX11_triesNumbers_40 : decode cX11_triesNumbers 40 = .ok (.ifCond .ne 7, 3) := by decide +kernel
theorem dX11_triesNumbers_43 : decode cX11_triesNumbers 43 = .ok (.iconst 1, 1) := by decide +kernel
theorem dX11_triesNumbers_44 : decode cX11_triesNumbers 44 = .ok (.goto 4, 3) := by decide +kernel
theorem dX11_triesNumbers_47 : decode cX11_triesNumbers 47 = .ok (.iconst 0, 1) := by decide +kernel
theorem dX11_triesNumbers_48 : decode cX11_triesNumbers 48 = .ok (.istore_n 3, 1) := by decide +kernel
theorem dX11_triesNumbers_49 : decode cX11_triesNumbers 49 = .ok (.goto 84, 3) := by decide +kernel
theorem dX11_triesNumbers_52 : decode cX11_triesNumbers 52 = .ok (.aload_n 0, 1) := by decide +kernel
theorem dX11_triesNumbers_53 : decode cX11_triesNumbers 53 = .ok (.getfield 32, 3) := by decide +kernel
theorem dX11_triesNumbers_56 : decode cX11_triesNumbers 56 = .ok (.iload 4, 2) := by decide +kernel
theorem dX11_triesNumbers_58 : decode cX11_triesNumbers 58 = .ok (.iaload, 1) := by decide +kernel
theorem dX11_triesNumbers_59 : decode cX11_triesNumbers 59 = .ok (.aload_n 0, 1) := by decide +kernel
theorem dX11_triesNumbers_60 : decode cX11_triesNumbers 60 = .ok (.sipush 188, 3) := by decide +kernel
theorem dX11_triesNumbers_63 : decode cX11_triesNumbers 63 = .ok (.iload_n 1, 1) := by decide +kernel
theorem dX11_triesNumbers_64 : decode cX11_triesNumbers 64 = .ok (.iconst 0, 1) := by decide +kernel
theorem dX11_triesNumbers_65 : decode cX11_triesNumbers 65 = .ok (.invokevirtual 156, 3) := by decide +kernel
theorem dX11_triesNumbers_68 : decode cX11_triesNumbers 68 = .ok (.if_icmp .gt 7, 3) := by decide +kernel
theorem dX11_triesNumbers_71 : decode cX11_triesNumbers 71 = .ok (.iconst 1, 1) := by decide +kernel
theorem dX11_triesNumbers_72 : decode cX11_triesNumbers 72 = .ok (.goto 4, 3) := by decide +kernel
theorem dX11_triesNumbers_75 : decode cX11_triesNumbers 75 = .ok (.iconst 0, 1) := by decide +kernel
theorem dX11_triesNumbers_76 : decode cX11_triesNumbers 76 = .ok (.istore_n 3, 1) := by decide +kernel
theorem dX11_triesNumbers_77 : decode cX11_triesNumbers 77 = .ok (.aload_n 0, 1) := by decide +kernel
theorem dX11_triesNumbers_78 : decode cX11_triesNumbers 78 = .ok (.sipush 188, 3) := by decide +kernel
theorem dX11_triesNumbers_81 : decode cX11_triesNumbers 81 = .ok (.iconst 1, 1) := by decide +kernel
theorem dX11_triesNumbers_82 : decode cX11_triesNumbers 82 = .ok (.iload_n 1, 1) := by decide +kernel
theorem dX11_triesNumbers_83 : decode cX11_triesNumbers 83 = .ok (.isub, 1) := by decide +kernel
theorem dX11_triesNumbers_84 : decode cX11_triesNumbers 84 = .ok (.invokevirtual 191, 3) := by decide +kernel
theorem dX11_triesNumbers_87 : decode cX11_triesNumbers 87 = .ok (.istore 5, 2) := by decide +kernel
theorem dX11_triesNumbers_89 : decode cX11_triesNumbers 89 = .ok (.iload_n 3, 1) := by decide +kernel
theorem dX11_triesNumbers_90 : decode cX11_triesNumbers 90 = .ok (.ifCond .eq 43, 3) := by decide +kernel
theorem dX11_triesNumbers_93 : decode cX11_triesNumbers 93 = .ok (.aload_n 0, 1) := by decide +kernel
theorem dX11_triesNumbers_94 : decode cX11_triesNumbers 94 = .ok (.sipush 188, 3) := by decide +kernel
theorem dX11_triesNumbers_97 : decode cX11_triesNumbers 97 = .ok (.iload_n 1, 1) := by decide +kernel
theorem dX11_triesNumbers_98 : decode cX11_triesNumbers 98 = .ok (.ifCond .ne 13, 3) := by decide +kernel
theorem dX11_triesNumbers_101 : decode cX11_triesNumbers 101 = .ok (.aload_n 0, 1) := by decide +kernel
theorem dX11_triesNumbers_102 : decode cX11_triesNumbers 102 = .ok (.getfield 32, 3) := by decide +kernel
theorem dX11_triesNumbers_105 : decode cX11_triesNumbers 105 = .ok (.iload 4, 2) := by decide +kernel
theorem dX11_triesNumbers_107 : decode cX11_triesNumbers 107 = .ok (.iaload, 1) := by decide +kernel
theorem dX11_triesNumbers_108 : decode cX11_triesNumbers 108 = .ok (.goto 5, 3) := by decide +kernel
theorem dX11_triesNumbers_111 : decode cX11_triesNumbers 111 = .ok (.iload 5, 2) := by decide +kernel
theorem dX11_triesNumbers_113 : decode cX11_triesNumbers 113 = .ok (.iload_n 1, 1) := by decide +kernel
theorem dX11_triesNumbers_114 : decode cX11_triesNumbers 114 = .ok (.ifCond .ne 8, 3) := by decide +kernel
theorem dX11_triesNumbers_117 : decode cX11_triesNumbers 117 = .ok (.iload 5, 2) := by decide +kernel
theorem dX11_triesNumbers_119 : decode cX11_triesNumbers 119 = .ok (.goto 10, 3) := by decide +kernel
theorem dX11_triesNumbers_122 : decode cX11_triesNumbers 122 = .ok (.aload_n 0, 1) := by decide +kernel
theorem dX11_triesNumbers_123 : decode cX11_triesNumbers 123 = .ok (.getfield 32, 3) := by decide +kernel
theorem dX11_triesNumbers_126 : decode cX11_triesNumbers 126 = .ok (.iload 4, 2) := by decide +kernel
theorem dX11_triesNumbers_128 : decode cX11_triesNumbers 128 = .ok (.iaload, 1) := by decide +kernel
theorem dX11_triesNumbers_129 : decode cX11_triesNumbers 129 = .ok (.iconst 0, 1) := by decide +kernel
theorem dX11_triesNumbers_130 : decode cX11_triesNumbers 130 = .ok (.invokevirtual 198, 3) := by decide +kernel
theorem dX11_triesNumbers_133 : decode cX11_triesNumbers 133 = .ok (.iinc 4 1, 3) := by decide +kernel
theorem dX11_triesNumbers_136 : decode cX11_triesNumbers 136 = .ok (.goto (-123), 3) := by decide +kernel
theorem dX11_triesNumbers_139 : decode cX11_triesNumbers 139 = .ok (.iload_n 3, 1) := by decide +kernel
theorem dX11_triesNumbers_140 : decode cX11_triesNumbers 140 = .ok (.ireturn, 1) := by decide +kernel
theorem dX11_reply_0 : decode cX11_reply 0 = .ok (.iload_n 1, 1) := by decide +kernel
theorem dX11_reply_1 : decode cX11_reply 1 = .ok (.invokestatic 151, 3) := by decide +kernel
theorem dX11_reply_4 : decode cX11_reply 4 = .ok (.ifCond .eq 35, 3) := by decide +kernel
theorem dX11_reply_7 : decode cX11_reply 7 = .ok (.iload_n 2, 1) := by decide +kernel
theorem dX11_reply_8 : decode cX11_reply 8 = .ok (.i2l, 1) := by decide +kernel
theorem dX11_reply_9 : decode cX11_reply 9 = .ok (.lconst 1, 1) := by decide +kernel
theorem dX11_reply_10 : decode cX11_reply 10 = .ok (.ldc2_w 173, 3) := by decide +kernel
theorem dX11_reply_13 : decode cX11_reply 13 = .ok (.invokestatic 57, 3) := by decide +kernel
theorem dX11_reply_16 : decode cX11_reply 16 = .ok (.ifCond .eq 23, 3) := by decide +kernel
theorem dX11_reply_19 : decode cX11_reply 19 = .ok (.iload_n 3, 1) := by decide +kernel
theorem dX11_reply_20 : decode cX11_reply 20 = .ok (.ifCond .eq 21, 3) := by decide +kernel
theorem dX11_reply_23 : decode cX11_reply 23 = .ok (.iload_n 3, 1) := by decide +kernel
theorem dX11_reply_24 : decode cX11_reply 24 = .ok (.i2l, 1) := by decide +kernel
theorem dX11_reply_25 : decode cX11_reply 25 = .ok (.ldc2_w 239, 3) := by decide +kernel
theorem dX11_reply_28 : decode cX11_reply 28 = .ok (.bipush 9, 2) := by decide +kernel
theorem dX11_reply_30 : decode cX11_reply 30 = .ok (.iload_n 2, 1) := by decide +kernel
theorem dX11_reply_31 : decode cX11_reply 31 = .ok (.iadd, 1) := by decide +kernel
theorem dX11_reply_32 : decode cX11_reply 32 = .ok (.i2l, 1) := by decide +kernel
theorem dX11_reply_33 : decode cX11_reply 33 = .ok (.invokestatic 57, 3) := by decide +kernel
theorem dX11_reply_36 : decode cX11_reply 36 = .ok (.ifCond .ne 5, 3) := by decide +kernel
theorem dX11_reply_39 : decode cX11_reply 39 = .ok (.iconst (-1), 1) := by decide +kernel
theorem dX11_reply_40 : decode cX11_reply 40 = .ok (.ireturn, 1) := by decide +kernel
theorem dX11_reply_41 : decode cX11_reply 41 = .ok (.aload_n 0, 1) := by decide +kernel
theorem dX11_reply_42 : decode cX11_reply 42 = .ok (.iconst 0, 1) := by decide +kernel
theorem dX11_reply_43 : decode cX11_reply 43 = .ok (.invokevirtual 188, 3) := by decide +kernel
theorem dX11_reply_46 : decode cX11_reply 46 = .ok (.ifCond .eq 6, 3) := by decide +kernel
theorem dX11_reply_49 : decode cX11_reply 49 = .ok (.bipush (-2), 2) := by decide +kernel
theorem dX11_reply_51 : decode cX11_reply 51 = .ok (.ireturn, 1) := by decide +kernel
theorem dX11_reply_52 : decode cX11_reply 52 = .ok (.iconst 1, 1) := by decide +kernel
theorem dX11_reply_53 : decode cX11_reply 53 = .ok (.istore 4, 2) := by decide +kernel
theorem dX11_reply_55 : decode cX11_reply 55 = .ok (.bipush (-4), 2) := by decide +kernel
theorem dX11_reply_57 : decode cX11_reply 57 = .ok (.istore 5, 2) := by decide +kernel
theorem dX11_reply_59 : decode cX11_reply 59 = .ok (.bipush (-4), 2) := by decide +kernel
theorem dX11_reply_61 : decode cX11_reply 61 = .ok (.istore 6, 2) := by decide +kernel
theorem dX11_reply_63 : decode cX11_reply 63 = .ok (.iconst 0, 1) := by decide +kernel
theorem dX11_reply_64 : decode cX11_reply 64 = .ok (.istore 7, 2) := by decide +kernel
theorem dX11_reply_66 : decode cX11_reply 66 = .ok (.iload 7, 2) := by decide +kernel
theorem dX11_reply_68 : decode cX11_reply 68 = .ok (.iload_n 2, 1) := by decide +kernel
theorem dX11_reply_69 : decode cX11_reply 69 = .ok (.if_icmp .ge 16, 3) := by decide +kernel
theorem dX11_reply_72 : decode cX11_reply 72 = .ok (.iload 4, 2) := by decide +kernel
theorem dX11_reply_74 : decode cX11_reply 74 = .ok (.bipush 13, 2) := by decide +kernel
theorem dX11_reply_76 : decode cX11_reply 76 = .ok (.imul, 1) := by decide +kernel
theorem dX11_reply_77 : decode cX11_reply 77 = .ok (.istore 4, 2) := by decide +kernel
theorem dX11_reply_79 : decode cX11_reply 79 = .ok (.iinc 7 1, 3) := by decide +kernel
theorem dX11_reply_82 : decode cX11_reply 82 = .ok (.goto (-16), 3) := by decide +kernel
theorem dX11_reply_85 : decode cX11_reply 85 = .ok (.iconst 0, 1) := by decide +kernel
theorem dX11_reply_86 : decode cX11_reply 86 = .ok (.istore 7, 2) := by decide +kernel
theorem dX11_reply_88 : decode cX11_reply 88 = .ok (.iload 7, 2) := by decide +kernel
theorem dX11_reply_90 : decode cX11_reply 90 = .ok (.iload 4, 2) := by decide +kernel
theorem dX11_reply_92 : decode cX11_reply 92 = .ok (.if_icmp .ge 142, 3) := by decide +kernel
theorem dX11_reply_95 : decode cX11_reply 95 = .ok (.iload 7, 2) := by decide +kernel
theorem dX11_reply_97 : decode cX11_reply 97 = .ok (.istore 8, 2) := by decide +kernel
theorem dX11_reply_99 : decode cX11_reply 99 = .ok (.iload_n 2, 1) := by decide +kernel
theorem dX11_reply_100 : decode cX11_reply 100 = .ok (.iconst 1, 1) := by decide +kernel
theorem dX11_reply_101 : decode cX11_reply 101 = .ok (.isub, 1) := by decide +kernel
theorem dX11_reply_102 : decode cX11_reply 102 = .ok (.istore 9, 2) := by decide +kernel
theorem dX11_reply_104 : decode cX11_reply 104 = .ok (.iload 9, 2) := by decide +kernel
theorem dX11_reply_106 : decode cX11_reply 106 = .ok (.ifCond .lt 28, 3) := by decide +kernel
theorem dX11_reply_109 : decode cX11_reply 109 = .ok (.aload_n 0, 1) := by decide +kernel
theorem dX11_reply_110 : decode cX11_reply 110 = .ok (.getfield 32, 3) := by decide +kernel
theorem dX11_reply_113 : decode cX11_reply 113 = .ok (.iload 9, 2) := by decide +kernel
theorem dX11_reply_115 : decode cX11_reply 115 = .ok (.iload 8, 2) := by decide +kernel
theorem dX11_reply_117 : decode cX11_reply 117 = .ok (.bipush 13, 2) := by decide +kernel
theorem dX11_reply_119 : decode cX11_reply 119 = .ok (.irem, 1) := by decide +kernel
theorem dX11_reply_120 : decode cX11_reply 120 = .ok (.iastore, 1) := by decide +kernel
theorem dX11_reply_121 : decode cX11_reply 121 = .ok (.iload 8, 2) := by decide +kernel
theorem dX11_reply_123 : decode cX11_reply 123 = .ok (.bipush 13, 2) := by decide +kernel
theorem dX11_reply_125 : decode cX11_reply 125 = .ok (.idiv, 1) := by decide +kernel
theorem dX11_reply_126 : decode cX11_reply 126 = .ok (.istore 8, 2) := by decide +kernel
theorem dX11_reply_128 : decode cX11_reply 128 = .ok (.iinc 9 (-1), 3) := by decide +kernel
theorem dX11_reply_131 : decode cX11_reply 131 = .ok (.goto (-27), 3) := by decide +kernel
theorem dX11_reply_134 : decode cX11_reply 134 = .ok (.aload_n 0, 1) := by decide +kernel
theorem dX11_reply_135 : decode cX11_reply 135 = .ok (.iload_n 1, 1) := by decide +kernel
theorem dX11_reply_136 : decode cX11_reply 136 = .ok (.iload_n 2, 1) := by decide +kernel
theorem dX11_reply_137 : decode cX11_reply 137 = .ok (.invokevirtual 241, 3) := by decide +kernel
theorem dX11_reply_140 : decode cX11_reply 140 = .ok (.ifCond .eq 88, 3) := by decide +kernel
theorem dX11_reply_143 : decode cX11_reply 143 = .ok (.iload_n 1, 1) := by decide +kernel
theorem dX11_reply_144 : decode cX11_reply 144 = .ok (.ifCond .ne 20, 3) := by decide +kernel
theorem dX11_reply_147 : decode cX11_reply 147 = .ok (.bipush 10, 2) := by decide +kernel
theorem dX11_reply_149 : decode cX11_reply 149 = .ok (.aload_n 0, 1) := by decide +kernel
theorem dX11_reply_150 : decode cX11_reply 150 = .ok (.aload_n 0, 1) := by decide +kernel
theorem dX11_reply_151 : decode cX11_reply 151 = .ok (.sipush 188, 3) := by decide +kernel
theorem dX11_reply_154 : decode cX11_reply 154 = .ok (.invokevirtual 146, 3) := by decide +kernel
theorem dX11_reply_157 : decode cX11_reply 157 = .ok (.invokevirtual 236, 3) := by decide +kernel
theorem dX11_reply_160 : decode cX11_reply 160 = .ok (.isub, 1) := by decide +kernel
theorem dX11_reply_161 : decode cX11_reply 161 = .ok (.goto 16, 3) := by decide +kernel
theorem dX11_reply_164 : decode cX11_reply 164 = .ok (.iconst 1, 1) := by decide +kernel
theorem dX11_reply_165 : decode cX11_reply 165 = .ok (.aload_n 0, 1) := by decide +kernel
theorem dX11_reply_166 : decode cX11_reply 166 = .ok (.aload_n 0, 1) := by decide +kernel
theorem dX11_reply_167 : decode cX11_reply 167 = .ok (.sipush 188, 3) := by decide +kernel
theorem dX11_reply_170 : decode cX11_reply 170 = .ok (.invokevirtual 146, 3) := by decide +kernel
theorem dX11_reply_173 : decode cX11_reply 173 = .ok (.invokevirtual 236, 3) := by decide +kernel
theorem dX11_reply_176 : decode cX11_reply 176 = .ok (.iadd, 1) := by decide +kernel
theorem dX11_reply_177 : decode cX11_reply 177 = .ok (.istore 9, 2) := by decide +kernel
theorem dX11_reply_179 : decode cX11_reply 179 = .ok (.iload 9, 2) := by decide +kernel
theorem dX11_reply_181 : decode cX11_reply 181 = .ok (.iload 5, 2) := by decide +kernel
theorem dX11_reply_183 : decode cX11_reply 183 = .ok (.if_icmp .le 45, 3) := by decide +kernel
theorem dX11_reply_186 : decode cX11_reply 186 = .ok (.iload 9, 2) := by decide +kernel
theorem dX11_reply_188 : decode cX11_reply 188 = .ok (.istore 5, 2) := by decide +kernel
theorem dX11_reply_190 : decode cX11_reply 190 = .ok (.aload_n 0, 1) := by decide +kernel
theorem dX11_reply_191 : decode cX11_reply 191 = .ok (.sipush 188, 3) := by decide +kernel
theorem dX11_reply_194 : decode cX11_reply 194 = .ok (.invokevirtual 146, 3) := by decide +kernel
theorem dX11_reply_197 : decode cX11_reply 197 = .ok (.istore 6, 2) := by decide +kernel
theorem dX11_reply_199 : decode cX11_reply 199 = .ok (.iconst 0, 1) := by decide +kernel
theorem dX11_reply_200 : decode cX11_reply 200 = .ok (.istore 10, 2) := by decide +kernel
theorem dX11_reply_202 : decode cX11_reply 202 = .ok (.iload 10, 2) := by decide +kernel
theorem dX11_reply_204 : decode cX11_reply 204 = .ok (.iload_n 2, 1) := by decide +kernel
theorem dX11_reply_205 : decode cX11_reply 205 = .ok (.if_icmp .ge 23, 3) := by decide +kernel
theorem dX11_reply_208 : decode cX11_reply 208 = .ok (.aload_n 0, 1) := by decide +kernel
theorem dX11_reply_209 : decode cX11_reply 209 = .ok (.getfield 35, 3) := by decide +kernel
theorem dX11_reply_212 : decode cX11_reply 212 = .ok (.iload 10, 2) := by decide +kernel
theorem dX11_reply_214 : decode cX11_reply 214 = .ok (.aload_n 0, 1) := by decide +kernel
theorem dX11_reply_215 : decode cX11_reply 215 = .ok (.getfield 32, 3) := by decide +kernel
theorem dX11_reply_218 : decode cX11_reply 218 = .ok (.iload 10, 2) := by decide +kernel
theorem dX11_reply_220 : decode cX11_reply 220 = .ok (.iaload, 1) := by decide +kernel
theorem dX11_reply_221 : decode cX11_reply 221 = .ok (.iastore, 1) := by decide +kernel
theorem dX11_reply_222 : decode cX11_reply 222 = .ok (.iinc 10 1, 3) := by decide +kernel
theorem dX11_reply_225 : decode cX11_reply 225 = .ok (.goto (-23), 3) := by decide +kernel
theorem dX11_reply_228 : decode cX11_reply 228 = .ok (.iinc 7 1, 3) := by decide +kernel
theorem dX11_reply_231 : decode cX11_reply 231 = .ok (.goto (-143), 3) := by decide +kernel
theorem dX11_reply_234 : decode cX11_reply 234 = .ok (.iload_n 3, 1) := by decide +kernel
theorem dX11_reply_235 : decode cX11_reply 235 = .ok (.ifCond .ne 8, 3) := by decide +kernel
theorem dX11_reply_238 : decode cX11_reply 238 = .ok (.iload 6, 2) := by decide +kernel
theorem dX11_reply_240 : decode cX11_reply 240 = .ok (.goto 12, 3) := by decide +kernel
theorem dX11_reply_243 : decode cX11_reply 243 = .ok (.aload_n 0, 1) := by decide +kernel
theorem dX11_reply_244 : decode cX11_reply 244 = .ok (.getfield 35, 3) := by decide +kernel
theorem dX11_reply_247 : decode cX11_reply 247 = .ok (.iload_n 3, 1) := by decide +kernel
theorem dX11_reply_248 : decode cX11_reply 248 = .ok (.bipush 10, 2) := by decide +kernel
theorem dX11_reply_250 : decode cX11_reply 250 = .ok (.isub, 1) := by decide +kernel
theorem dX11_reply_251 : decode cX11_reply 251 = .ok (.iaload, 1) := by decide +kernel
theorem dX11_reply_252 : decode cX11_reply 252 = .ok (.ireturn, 1) := by decide +kernel
theorem dX11_hold_0 : decode cX11_hold 0 = .ok (.iload_n 1, 1) := by decide +kernel
theorem dX11_hold_1 : decode cX11_hold 1 = .ok (.invokestatic 151, 3) := by decide +kernel
theorem dX11_hold_4 : decode cX11_hold 4 = .ok (.ifCond .eq 23, 3) := by decide +kernel
theorem dX11_hold_7 : decode cX11_hold 7 = .ok (.aload_n 0, 1) := by decide +kernel
theorem dX11_hold_8 : decode cX11_hold 8 = .ok (.iload_n 2, 1) := by decide +kernel
theorem dX11_hold_9 : decode cX11_hold 9 = .ok (.invokevirtual 142, 3) := by decide +kernel
theorem dX11_hold_12 : decode cX11_hold 12 = .ok (.ifCond .eq 15, 3) := by decide +kernel
theorem dX11_hold_15 : decode cX11_hold 15 = .ok (.iload_n 3, 1) := by decide +kernel
theorem dX11_hold_16 : decode cX11_hold 16 = .ok (.i2l, 1) := by decide +kernel
theorem dX11_hold_17 : decode cX11_hold 17 = .ok (.lconst 1, 1) := by decide +kernel
theorem dX11_hold_18 : decode cX11_hold 18 = .ok (.ldc2_w 244, 3) := by decide +kernel
theorem dX11_hold_21 : decode cX11_hold 21 = .ok (.invokestatic 57, 3) := by decide +kernel
theorem dX11_hold_24 : decode cX11_hold 24 = .ok (.ifCond .ne 5, 3) := by decide +kernel
theorem dX11_hold_27 : decode cX11_hold 27 = .ok (.iconst (-1), 1) := by decide +kernel
theorem dX11_hold_28 : decode cX11_hold 28 = .ok (.ireturn, 1) := by decide +kernel
theorem dX11_hold_29 : decode cX11_hold 29 = .ok (.aload_n 0, 1) := by decide +kernel
theorem dX11_hold_30 : decode cX11_hold 30 = .ok (.iconst 0, 1) := by decide +kernel
theorem dX11_hold_31 : decode cX11_hold 31 = .ok (.invokevirtual 188, 3) := by decide +kernel
theorem dX11_hold_34 : decode cX11_hold 34 = .ok (.ifCond .eq 6, 3) := by decide +kernel
theorem dX11_hold_37 : decode cX11_hold 37 = .ok (.bipush (-2), 2) := by decide +kernel
theorem dX11_hold_39 : decode cX11_hold 39 = .ok (.ireturn, 1) := by decide +kernel
theorem dX11_hold_40 : decode cX11_hold 40 = .ok (.iconst 0, 1) := by decide +kernel
theorem dX11_hold_41 : decode cX11_hold 41 = .ok (.istore 4, 2) := by decide +kernel
theorem dX11_hold_43 : decode cX11_hold 43 = .ok (.iload 4, 2) := by decide +kernel
theorem dX11_hold_45 : decode cX11_hold 45 = .ok (.bipush 12, 2) := by decide +kernel
theorem dX11_hold_47 : decode cX11_hold 47 = .ok (.if_icmp .gt 132, 3) := by decide +kernel
theorem dX11_hold_50 : decode cX11_hold 50 = .ok (.aload_n 0, 1) := by decide +kernel
theorem dX11_hold_51 : decode cX11_hold 51 = .ok (.iconst 0, 1) := by decide +kernel
theorem dX11_hold_52 : decode cX11_hold 52 = .ok (.sipush 188, 3) := by decide +kernel
theorem dX11_hold_55 : decode cX11_hold 55 = .ok (.invokevirtual 212, 3) := by decide +kernel
theorem dX11_hold_58 : decode cX11_hold 58 = .ok (.aload_n 0, 1) := by decide +kernel
theorem dX11_hold_59 : decode cX11_hold 59 = .ok (.getfield 7, 3) := by decide +kernel
theorem dX11_hold_62 : decode cX11_hold 62 = .ok (.sipush 216, 3) := by decide +kernel
theorem dX11_hold_65 : decode cX11_hold 65 = .ok (.bipush 8, 2) := by decide +kernel
theorem dX11_hold_67 : decode cX11_hold 67 = .ok (.iload_n 1, 1) := by decide +kernel
theorem dX11_hold_68 : decode cX11_hold 68 = .ok (.imul, 1) := by decide +kernel
theorem dX11_hold_69 : decode cX11_hold 69 = .ok (.iadd, 1) := by decide +kernel
theorem dX11_hold_70 : decode cX11_hold 70 = .ok (.bipush 6, 2) := by decide +kernel
theorem dX11_hold_72 : decode cX11_hold 72 = .ok (.iadd, 1) := by decide +kernel
theorem dX11_hold_73 : decode cX11_hold 73 = .ok (.iconst 2, 1) := by decide +kernel
theorem dX11_hold_74 : decode cX11_hold 74 = .ok (.iastore, 1) := by decide +kernel
theorem dX11_hold_75 : decode cX11_hold 75 = .ok (.aload_n 0, 1) := by decide +kernel
theorem dX11_hold_76 : decode cX11_hold 76 = .ok (.getfield 7, 3) := by decide +kernel
theorem dX11_hold_79 : decode cX11_hold 79 = .ok (.sipush 216, 3) := by decide +kernel
theorem dX11_hold_82 : decode cX11_hold 82 = .ok (.bipush 8, 2) := by decide +kernel
theorem dX11_hold_84 : decode cX11_hold 84 = .ok (.iload_n 1, 1) := by decide +kernel
theorem dX11_hold_85 : decode cX11_hold 85 = .ok (.imul, 1) := by decide +kernel
theorem dX11_hold_86 : decode cX11_hold 86 = .ok (.iadd, 1) := by decide +kernel
theorem dX11_hold_87 : decode cX11_hold 87 = .ok (.bipush 7, 2) := by decide +kernel
theorem dX11_hold_89 : decode cX11_hold 89 = .ok (.iadd, 1) := by decide +kernel
theorem dX11_hold_90 : decode cX11_hold 90 = .ok (.iload 4, 2) := by decide +kernel
theorem dX11_hold_92 : decode cX11_hold 92 = .ok (.iastore, 1) := by decide +kernel
theorem dX11_hold_93 : decode cX11_hold 93 = .ok (.iconst 1, 1) := by decide +kernel
theorem dX11_hold_94 : decode cX11_hold 94 = .ok (.istore 5, 2) := by decide +kernel
theorem dX11_hold_96 : decode cX11_hold 96 = .ok (.iconst 0, 1) := by decide +kernel
theorem dX11_hold_97 : decode cX11_hold 97 = .ok (.istore 6, 2) := by decide +kernel
theorem dX11_hold_99 : decode cX11_hold 99 = .ok (.iload 6, 2) := by decide +kernel
theorem dX11_hold_101 : decode cX11_hold 101 = .ok (.iload_n 3, 1) := by decide +kernel
theorem dX11_hold_102 : decode cX11_hold 102 = .ok (.if_icmp .ge 63, 3) := by decide +kernel
theorem dX11_hold_105 : decode cX11_hold 105 = .ok (.iload 5, 2) := by decide +kernel
theorem dX11_hold_107 : decode cX11_hold 107 = .ok (.ifCond .eq 58, 3) := by decide +kernel
theorem dX11_hold_110 : decode cX11_hold 110 = .ok (.aload_n 0, 1) := by decide +kernel
theorem dX11_hold_111 : decode cX11_hold 111 = .ok (.iconst 0, 1) := by decide +kernel
theorem dX11_hold_112 : decode cX11_hold 112 = .ok (.invokevirtual 206, 3) := by decide +kernel
theorem dX11_hold_115 : decode cX11_hold 115 = .ok (.aload_n 0, 1) := by decide +kernel
theorem dX11_hold_116 : decode cX11_hold 116 = .ok (.aload_n 0, 1) := by decide +kernel
theorem dX11_hold_117 : decode cX11_hold 117 = .ok (.sipush 188, 3) := by decide +kernel
theorem dX11_hold_120 : decode cX11_hold 120 = .ok (.invokevirtual 146, 3) := by decide +kernel
theorem dX11_hold_123 : decode cX11_hold 123 = .ok (.invokevirtual 236, 3) := by decide +kernel
theorem dX11_hold_126 : decode cX11_hold 126 = .ok (.istore 7, 2) := by decide +kernel
theorem dX11_hold_128 : decode cX11_hold 128 = .ok (.iload_n 1, 1) := by decide +kernel
theorem dX11_hold_129 : decode cX11_hold 129 = .ok (.ifCond .ne 17, 3) := by decide +kernel
theorem dX11_hold_132 : decode cX11_hold 132 = .ok (.iload 7, 2) := by decide +kernel
theorem dX11_hold_134 : decode cX11_hold 134 = .ok (.iload_n 2, 1) := by decide +kernel
theorem dX11_hold_135 : decode cX11_hold 135 = .ok (.if_icmp .gt 7, 3) := by decide +kernel
theorem dX11_hold_138 : decode cX11_hold 138 = .ok (.iconst 1, 1) := by decide +kernel
theorem dX11_hold_139 : decode cX11_hold 139 = .ok (.goto 18, 3) := by decide +kernel
theorem dX11_hold_142 : decode cX11_hold 142 = .ok (.iconst 0, 1) := by decide +kernel
theorem dX11_hold_143 : decode cX11_hold 143 = .ok (.goto 14, 3) := by decide +kernel
theorem dX11_hold_146 : decode cX11_hold 146 = .ok (.iload 7, 2) := by decide +kernel
theorem dX11_hold_148 : decode cX11_hold 148 = .ok (.iload_n 2, 1) := by decide +kernel
theorem dX11_hold_149 : decode cX11_hold 149 = .ok (.if_icmp .lt 7, 3) := by decide +kernel
theorem dX11_hold_152 : decode cX11_hold 152 = .ok (.iconst 1, 1) := by decide +kernel
theorem dX11_hold_153 : decode cX11_hold 153 = .ok (.goto 4, 3) := by decide +kernel
theorem dX11_hold_156 : decode cX11_hold 156 = .ok (.iconst 0, 1) := by decide +kernel
theorem dX11_hold_157 : decode cX11_hold 157 = .ok (.istore 5, 2) := by decide +kernel
theorem dX11_hold_159 : decode cX11_hold 159 = .ok (.iinc 6 1, 3) := by decide +kernel
theorem dX11_hold_162 : decode cX11_hold 162 = .ok (.goto (-63), 3) := by decide +kernel
theorem dX11_hold_165 : decode cX11_hold 165 = .ok (.iload 5, 2) := by decide +kernel
theorem dX11_hold_167 : decode cX11_hold 167 = .ok (.ifCond .eq 6, 3) := by decide +kernel
theorem dX11_hold_170 : decode cX11_hold 170 = .ok (.iload 4, 2) := by decide +kernel
theorem dX11_hold_172 : decode cX11_hold 172 = .ok (.ireturn, 1) := by decide +kernel
theorem dX11_hold_173 : decode cX11_hold 173 = .ok (.iinc 4 1, 3) := by decide +kernel
theorem dX11_hold_176 : decode cX11_hold 176 = .ok (.goto (-133), 3) := by decide +kernel
theorem dX11_hold_179 : decode cX11_hold 179 = .ok (.bipush (-4), 2) := by decide +kernel
theorem dX11_hold_181 : decode cX11_hold 181 = .ok (.ireturn, 1) := by decide +kernel
theorem dX11_table_0 : decode cX11_table 0 = .ok (.iload_n 1, 1) := by decide +kernel
theorem dX11_table_1 : decode cX11_table 1 = .ok (.i2l, 1) := by decide +kernel
theorem dX11_table_2 : decode cX11_table 2 = .ok (.lconst 0, 1) := by decide +kernel
theorem dX11_table_3 : decode cX11_table 3 = .ok (.ldc2_w 173, 3) := by decide +kernel
theorem dX11_table_6 : decode cX11_table 6 = .ok (.invokestatic 57, 3) := by decide +kernel
theorem dX11_table_9 : decode cX11_table 9 = .ok (.ifCond .eq 27, 3) := by decide +kernel
theorem dX11_table_12 : decode cX11_table 12 = .ok (.iload_n 2, 1) := by decide +kernel
theorem dX11_table_13 : decode cX11_table 13 = .ok (.i2l, 1) := by decide +kernel
theorem dX11_table_14 : decode cX11_table 14 = .ok (.lconst 0, 1) := by decide +kernel
theorem dX11_table_15 : decode cX11_table 15 = .ok (.ldc2_w 173, 3) := by decide +kernel
theorem dX11_table_18 : decode cX11_table 18 = .ok (.invokestatic 57, 3) := by decide +kernel
theorem dX11_table_21 : decode cX11_table 21 = .ok (.ifCond .eq 15, 3) := by decide +kernel
theorem dX11_table_24 : decode cX11_table 24 = .ok (.iload_n 3, 1) := by decide +kernel
theorem dX11_table_25 : decode cX11_table 25 = .ok (.i2l, 1) := by decide +kernel
theorem dX11_table_26 : decode cX11_table 26 = .ok (.lconst 0, 1) := by decide +kernel
theorem dX11_table_27 : decode cX11_table 27 = .ok (.ldc2_w 210, 3) := by decide +kernel
theorem dX11_table_30 : decode cX11_table 30 = .ok (.invokestatic 57, 3) := by decide +kernel
theorem dX11_table_33 : decode cX11_table 33 = .ok (.ifCond .ne 5, 3) := by decide +kernel
theorem dX11_table_36 : decode cX11_table 36 = .ok (.iconst (-1), 1) := by decide +kernel
theorem dX11_table_37 : decode cX11_table 37 = .ok (.ireturn, 1) := by decide +kernel
theorem dX11_table_38 : decode cX11_table 38 = .ok (.aload_n 0, 1) := by decide +kernel
theorem dX11_table_39 : decode cX11_table 39 = .ok (.iconst 0, 1) := by decide +kernel
theorem dX11_table_40 : decode cX11_table 40 = .ok (.sipush 188, 3) := by decide +kernel
theorem dX11_table_43 : decode cX11_table 43 = .ok (.invokevirtual 212, 3) := by decide +kernel
theorem dX11_table_46 : decode cX11_table 46 = .ok (.aload_n 0, 1) := by decide +kernel
theorem dX11_table_47 : decode cX11_table 47 = .ok (.getfield 7, 3) := by decide +kernel
theorem dX11_table_50 : decode cX11_table 50 = .ok (.sipush 222, 3) := by decide +kernel
theorem dX11_table_53 : decode cX11_table 53 = .ok (.iload_n 1, 1) := by decide +kernel
theorem dX11_table_54 : decode cX11_table 54 = .ok (.iastore, 1) := by decide +kernel
theorem dX11_table_55 : decode cX11_table 55 = .ok (.aload_n 0, 1) := by decide +kernel
theorem dX11_table_56 : decode cX11_table 56 = .ok (.getfield 7, 3) := by decide +kernel
theorem dX11_table_59 : decode cX11_table 59 = .ok (.sipush 230, 3) := by decide +kernel
theorem dX11_table_62 : decode cX11_table 62 = .ok (.iload_n 2, 1) := by decide +kernel
theorem dX11_table_63 : decode cX11_table 63 = .ok (.iastore, 1) := by decide +kernel
theorem dX11_table_64 : decode cX11_table 64 = .ok (.aload_n 0, 1) := by decide +kernel
theorem dX11_table_65 : decode cX11_table 65 = .ok (.iload_n 3, 1) := by decide +kernel
theorem dX11_table_66 : decode cX11_table 66 = .ok (.invokevirtual 216, 3) := by decide +kernel
theorem dX11_table_69 : decode cX11_table 69 = .ok (.ireturn, 1) := by decide +kernel
theorem dX11_without_0 : decode cX11_without 0 = .ok (.aload_n 0, 1) := by decide +kernel
theorem dX11_without_1 : decode cX11_without 1 = .ok (.iload_n 1, 1) := by decide +kernel
theorem dX11_without_2 : decode cX11_without 2 = .ok (.invokevirtual 142, 3) := by decide +kernel
theorem dX11_without_5 : decode cX11_without 5 = .ok (.ifCond .eq 15, 3) := by decide +kernel
theorem dX11_without_8 : decode cX11_without 8 = .ok (.iload_n 2, 1) := by decide +kernel
theorem dX11_without_9 : decode cX11_without 9 = .ok (.i2l, 1) := by decide +kernel
theorem dX11_without_10 : decode cX11_without 10 = .ok (.lconst 0, 1) := by decide +kernel
theorem dX11_without_11 : decode cX11_without 11 = .ok (.ldc2_w 210, 3) := by decide +kernel
theorem dX11_without_14 : decode cX11_without 14 = .ok (.invokestatic 57, 3) := by decide +kernel
theorem dX11_without_17 : decode cX11_without 17 = .ok (.ifCond .ne 5, 3) := by decide +kernel
theorem dX11_without_20 : decode cX11_without 20 = .ok (.iconst (-1), 1) := by decide +kernel
theorem dX11_without_21 : decode cX11_without 21 = .ok (.ireturn, 1) := by decide +kernel
theorem dX11_without_22 : decode cX11_without 22 = .ok (.aload_n 0, 1) := by decide +kernel
theorem dX11_without_23 : decode cX11_without 23 = .ok (.iconst 0, 1) := by decide +kernel
theorem dX11_without_24 : decode cX11_without 24 = .ok (.sipush 188, 3) := by decide +kernel
theorem dX11_without_27 : decode cX11_without 27 = .ok (.invokevirtual 212, 3) := by decide +kernel
theorem dX11_without_30 : decode cX11_without 30 = .ok (.aload_n 0, 1) := by decide +kernel
theorem dX11_without_31 : decode cX11_without 31 = .ok (.getfield 7, 3) := by decide +kernel
theorem dX11_without_34 : decode cX11_without 34 = .ok (.sipush 188, 3) := by decide +kernel
theorem dX11_without_37 : decode cX11_without 37 = .ok (.iconst 3, 1) := by decide +kernel
theorem dX11_without_38 : decode cX11_without 38 = .ok (.iload_n 1, 1) := by decide +kernel
theorem dX11_without_39 : decode cX11_without 39 = .ok (.imul, 1) := by decide +kernel
theorem dX11_without_40 : decode cX11_without 40 = .ok (.iadd, 1) := by decide +kernel
theorem dX11_without_41 : decode cX11_without 41 = .ok (.iconst 2, 1) := by decide +kernel
theorem dX11_without_42 : decode cX11_without 42 = .ok (.iadd, 1) := by decide +kernel
theorem dX11_without_43 : decode cX11_without 43 = .ok (.iconst 0, 1) := by decide +kernel
theorem dX11_without_44 : decode cX11_without 44 = .ok (.iastore, 1) := by decide +kernel
theorem dX11_without_45 : decode cX11_without 45 = .ok (.aload_n 0, 1) := by decide +kernel
theorem dX11_without_46 : decode cX11_without 46 = .ok (.iload_n 2, 1) := by decide +kernel
theorem dX11_without_47 : decode cX11_without 47 = .ok (.invokevirtual 216, 3) := by decide +kernel
theorem dX11_without_50 : decode cX11_without 50 = .ok (.ireturn, 1) := by decide +kernel
theorem dX11_tell_0 : decode cX11_tell 0 = .ok (.iload_n 1, 1) := by decide +kernel
theorem dX11_tell_1 : decode cX11_tell 1 = .ok (.i2l, 1) := by decide +kernel
theorem dX11_tell_2 : decode cX11_tell 2 = .ok (.lconst 0, 1) := by decide +kernel
theorem dX11_tell_3 : decode cX11_tell 3 = .ok (.ldc2_w 159, 3) := by decide +kernel
theorem dX11_tell_6 : decode cX11_tell 6 = .ok (.invokestatic 57, 3) := by decide +kernel
theorem dX11_tell_9 : decode cX11_tell 9 = .ok (.ifCond .eq 11, 3) := by decide +kernel
theorem dX11_tell_12 : decode cX11_tell 12 = .ok (.aload_n 0, 1) := by decide +kernel
theorem dX11_tell_13 : decode cX11_tell 13 = .ok (.iload_n 2, 1) := by decide +kernel
theorem dX11_tell_14 : decode cX11_tell 14 = .ok (.invokevirtual 219, 3) := by decide +kernel
theorem dX11_tell_17 : decode cX11_tell 17 = .ok (.ifCond .ne 5, 3) := by decide +kernel
theorem dX11_tell_20 : decode cX11_tell 20 = .ok (.iconst (-1), 1) := by decide +kernel
theorem dX11_tell_21 : decode cX11_tell 21 = .ok (.ireturn, 1) := by decide +kernel
theorem dX11_tell_22 : decode cX11_tell 22 = .ok (.aload_n 0, 1) := by decide +kernel
theorem dX11_tell_23 : decode cX11_tell 23 = .ok (.getfield 139, 3) := by decide +kernel
theorem dX11_tell_26 : decode cX11_tell 26 = .ok (.bipush 8, 2) := by decide +kernel
theorem dX11_tell_28 : decode cX11_tell 28 = .ok (.if_icmp .ne 6, 3) := by decide +kernel
theorem dX11_tell_31 : decode cX11_tell 31 = .ok (.bipush (-3), 2) := by decide +kernel
theorem dX11_tell_33 : decode cX11_tell 33 = .ok (.ireturn, 1) := by decide +kernel
theorem dX11_tell_34 : decode cX11_tell 34 = .ok (.aload_n 0, 1) := by decide +kernel
theorem dX11_tell_35 : decode cX11_tell 35 = .ok (.getfield 38, 3) := by decide +kernel
theorem dX11_tell_38 : decode cX11_tell 38 = .ok (.iconst 2, 1) := by decide +kernel
theorem dX11_tell_39 : decode cX11_tell 39 = .ok (.aload_n 0, 1) := by decide +kernel
theorem dX11_tell_40 : decode cX11_tell 40 = .ok (.getfield 139, 3) := by decide +kernel
theorem dX11_tell_43 : decode cX11_tell 43 = .ok (.imul, 1) := by decide +kernel
theorem dX11_tell_44 : decode cX11_tell 44 = .ok (.iload_n 1, 1) := by decide +kernel
theorem dX11_tell_45 : decode cX11_tell 45 = .ok (.iastore, 1) := by decide +kernel
theorem dX11_tell_46 : decode cX11_tell 46 = .ok (.aload_n 0, 1) := by decide +kernel
theorem dX11_tell_47 : decode cX11_tell 47 = .ok (.getfield 38, 3) := by decide +kernel
theorem dX11_tell_50 : decode cX11_tell 50 = .ok (.iconst 2, 1) := by decide +kernel
theorem dX11_tell_51 : decode cX11_tell 51 = .ok (.aload_n 0, 1) := by decide +kernel
theorem dX11_tell_52 : decode cX11_tell 52 = .ok (.getfield 139, 3) := by decide +kernel
theorem dX11_tell_55 : decode cX11_tell 55 = .ok (.imul, 1) := by decide +kernel
theorem dX11_tell_56 : decode cX11_tell 56 = .ok (.iconst 1, 1) := by decide +kernel
theorem dX11_tell_57 : decode cX11_tell 57 = .ok (.iadd, 1) := by decide +kernel
theorem dX11_tell_58 : decode cX11_tell 58 = .ok (.iload_n 2, 1) := by decide +kernel
theorem dX11_tell_59 : decode cX11_tell 59 = .ok (.iastore, 1) := by decide +kernel
theorem dX11_tell_60 : decode cX11_tell 60 = .ok (.aload_n 0, 1) := by decide +kernel
theorem dX11_tell_61 : decode cX11_tell 61 = .ok (.dup, 1) := by decide +kernel
theorem dX11_tell_62 : decode cX11_tell 62 = .ok (.getfield 139, 3) := by decide +kernel
theorem dX11_tell_65 : decode cX11_tell 65 = .ok (.iconst 1, 1) := by decide +kernel
theorem dX11_tell_66 : decode cX11_tell 66 = .ok (.iadd, 1) := by decide +kernel
theorem dX11_tell_67 : decode cX11_tell 67 = .ok (.putfield 139, 3) := by decide +kernel
theorem dX11_tell_70 : decode cX11_tell 70 = .ok (.aload_n 0, 1) := by decide +kernel
theorem dX11_tell_71 : decode cX11_tell 71 = .ok (.getfield 139, 3) := by decide +kernel
theorem dX11_tell_74 : decode cX11_tell 74 = .ok (.ireturn, 1) := by decide +kernel
theorem dX11_forget_0 : decode cX11_forget 0 = .ok (.iload_n 1, 1) := by decide +kernel
theorem dX11_forget_1 : decode cX11_forget 1 = .ok (.i2l, 1) := by decide +kernel
theorem dX11_forget_2 : decode cX11_forget 2 = .ok (.lconst 0, 1) := by decide +kernel
theorem dX11_forget_3 : decode cX11_forget 3 = .ok (.aload_n 0, 1) := by decide +kernel
theorem dX11_forget_4 : decode cX11_forget 4 = .ok (.getfield 139, 3) := by decide +kernel
theorem dX11_forget_7 : decode cX11_forget 7 = .ok (.i2l, 1) := by decide +kernel
theorem dX11_forget_8 : decode cX11_forget 8 = .ok (.invokestatic 57, 3) := by decide +kernel
theorem dX11_forget_11 : decode cX11_forget 11 = .ok (.ifCond .ne 5, 3) := by decide +kernel
theorem dX11_forget_14 : decode cX11_forget 14 = .ok (.iconst (-1), 1) := by decide +kernel
theorem dX11_forget_15 : decode cX11_forget 15 = .ok (.ireturn, 1) := by decide +kernel
theorem dX11_forget_16 : decode cX11_forget 16 = .ok (.aload_n 0, 1) := by decide +kernel
theorem dX11_forget_17 : decode cX11_forget 17 = .ok (.getfield 139, 3) := by decide +kernel
theorem dX11_forget_20 : decode cX11_forget 20 = .ok (.istore_n 2, 1) := by decide +kernel
theorem dX11_forget_21 : decode cX11_forget 21 = .ok (.aload_n 0, 1) := by decide +kernel
theorem dX11_forget_22 : decode cX11_forget 22 = .ok (.iload_n 1, 1) := by decide +kernel
theorem dX11_forget_23 : decode cX11_forget 23 = .ok (.putfield 139, 3) := by decide +kernel
theorem dX11_forget_26 : decode cX11_forget 26 = .ok (.iload_n 2, 1) := by decide +kernel
theorem dX11_forget_27 : decode cX11_forget 27 = .ok (.ireturn, 1) := by decide +kernel
theorem dX11_liesFrom_0 : decode cX11_liesFrom 0 = .ok (.iconst 0, 1) := by decide +kernel
theorem dX11_liesFrom_1 : decode cX11_liesFrom 1 = .ok (.istore_n 2, 1) := by decide +kernel
theorem dX11_liesFrom_2 : decode cX11_liesFrom 2 = .ok (.iconst 0, 1) := by decide +kernel
theorem dX11_liesFrom_3 : decode cX11_liesFrom 3 = .ok (.istore_n 3, 1) := by decide +kernel
theorem dX11_liesFrom_4 : decode cX11_liesFrom 4 = .ok (.iload_n 3, 1) := by decide +kernel
theorem dX11_liesFrom_5 : decode cX11_liesFrom 5 = .ok (.aload_n 0, 1) := by decide +kernel
theorem dX11_liesFrom_6 : decode cX11_liesFrom 6 = .ok (.getfield 139, 3) := by decide +kernel
theorem dX11_liesFrom_9 : decode cX11_liesFrom 9 = .ok (.if_icmp .ge 63, 3) := by decide +kernel
theorem dX11_liesFrom_12 : decode cX11_liesFrom 12 = .ok (.aload_n 0, 1) := by decide +kernel
theorem dX11_liesFrom_13 : decode cX11_liesFrom 13 = .ok (.iconst 0, 1) := by decide +kernel
theorem dX11_liesFrom_14 : decode cX11_liesFrom 14 = .ok (.sipush 188, 3) := by decide +kernel
theorem dX11_liesFrom_17 : decode cX11_liesFrom 17 = .ok (.invokevirtual 212, 3) := by decide +kernel
theorem dX11_liesFrom_20 : decode cX11_liesFrom 20 = .ok (.aload_n 0, 1) := by decide +kernel
theorem dX11_liesFrom_21 : decode cX11_liesFrom 21 = .ok (.getfield 7, 3) := by decide +kernel
theorem dX11_liesFrom_24 : decode cX11_liesFrom 24 = .ok (.sipush 215, 3) := by decide +kernel
theorem dX11_liesFrom_27 : decode cX11_liesFrom 27 = .ok (.iload_n 1, 1) := by decide +kernel
theorem dX11_liesFrom_28 : decode cX11_liesFrom 28 = .ok (.iconst 2, 1) := by decide +kernel
theorem dX11_liesFrom_29 : decode cX11_liesFrom 29 = .ok (.isub, 1) := by decide +kernel
theorem dX11_liesFrom_30 : decode cX11_liesFrom 30 = .ok (.iastore, 1) := by decide +kernel
theorem dX11_liesFrom_31 : decode cX11_liesFrom 31 = .ok (.iload_n 2, 1) := by decide +kernel
theorem dX11_liesFrom_32 : decode cX11_liesFrom 32 = .ok (.aload_n 0, 1) := by decide +kernel
theorem dX11_liesFrom_33 : decode cX11_liesFrom 33 = .ok (.aload_n 0, 1) := by decide +kernel
theorem dX11_liesFrom_34 : decode cX11_liesFrom 34 = .ok (.getfield 38, 3) := by decide +kernel
theorem dX11_liesFrom_37 : decode cX11_liesFrom 37 = .ok (.iconst 2, 1) := by decide +kernel
theorem dX11_liesFrom_38 : decode cX11_liesFrom 38 = .ok (.iload_n 3, 1) := by decide +kernel
theorem dX11_liesFrom_39 : decode cX11_liesFrom 39 = .ok (.imul, 1) := by decide +kernel
theorem dX11_liesFrom_40 : decode cX11_liesFrom 40 = .ok (.iaload, 1) := by decide +kernel
theorem dX11_liesFrom_41 : decode cX11_liesFrom 41 = .ok (.invokevirtual 216, 3) := by decide +kernel
theorem dX11_liesFrom_44 : decode cX11_liesFrom 44 = .ok (.aload_n 0, 1) := by decide +kernel
theorem dX11_liesFrom_45 : decode cX11_liesFrom 45 = .ok (.getfield 38, 3) := by decide +kernel
theorem dX11_liesFrom_48 : decode cX11_liesFrom 48 = .ok (.iconst 2, 1) := by decide +kernel
theorem dX11_liesFrom_49 : decode cX11_liesFrom 49 = .ok (.iload_n 3, 1) := by decide +kernel
theorem dX11_liesFrom_50 : decode cX11_liesFrom 50 = .ok (.imul, 1) := by decide +kernel
theorem dX11_liesFrom_51 : decode cX11_liesFrom 51 = .ok (.iconst 1, 1) := by decide +kernel
theorem dX11_liesFrom_52 : decode cX11_liesFrom 52 = .ok (.iadd, 1) := by decide +kernel
theorem dX11_liesFrom_53 : decode cX11_liesFrom 53 = .ok (.iaload, 1) := by decide +kernel
theorem dX11_liesFrom_54 : decode cX11_liesFrom 54 = .ok (.if_icmp .eq 9, 3) := by decide +kernel
theorem dX11_liesFrom_57 : decode cX11_liesFrom 57 = .ok (.iconst 1, 1) := by decide +kernel
theorem dX11_liesFrom_58 : decode cX11_liesFrom 58 = .ok (.iload_n 3, 1) := by decide +kernel
theorem dX11_liesFrom_59 : decode cX11_liesFrom 59 = .ok (.ishl, 1) := by decide +kernel
theorem dX11_liesFrom_60 : decode cX11_liesFrom 60 = .ok (.goto 4, 3) := by decide +kernel
theorem dX11_liesFrom_63 : decode cX11_liesFrom 63 = .ok (.iconst 0, 1) := by decide +kernel
theorem dX11_liesFrom_64 : decode cX11_liesFrom 64 = .ok (.ior, 1) := by decide +kernel
theorem dX11_liesFrom_65 : decode cX11_liesFrom 65 = .ok (.istore_n 2, 1) := by decide +kernel
theorem dX11_liesFrom_66 : decode cX11_liesFrom 66 = .ok (.iinc 3 1, 3) := by decide +kernel
theorem dX11_liesFrom_69 : decode cX11_liesFrom 69 = .ok (.goto (-65), 3) := by decide +kernel
theorem dX11_liesFrom_72 : decode cX11_liesFrom 72 = .ok (.iload_n 2, 1) := by decide +kernel
theorem dX11_liesFrom_73 : decode cX11_liesFrom 73 = .ok (.ireturn, 1) := by decide +kernel
theorem dX11_lies_0 : decode cX11_lies 0 = .ok (.aload_n 0, 1) := by decide +kernel
theorem dX11_lies_1 : decode cX11_lies 1 = .ok (.aload_n 0, 1) := by decide +kernel
theorem dX11_lies_2 : decode cX11_lies 2 = .ok (.iconst 0, 1) := by decide +kernel
theorem dX11_lies_3 : decode cX11_lies 3 = .ok (.invokevirtual 146, 3) := by decide +kernel
theorem dX11_lies_6 : decode cX11_lies 6 = .ok (.invokevirtual 246, 3) := by decide +kernel
theorem dX11_lies_9 : decode cX11_lies 9 = .ok (.ireturn, 1) := by decide +kernel
theorem dX11_where_0 : decode cX11_where 0 = .ok (.iconst 0, 1) := by decide +kernel
theorem dX11_where_1 : decode cX11_where 1 = .ok (.istore_n 1, 1) := by decide +kernel
theorem dX11_where_2 : decode cX11_where 2 = .ok (.iconst 0, 1) := by decide +kernel
theorem dX11_where_3 : decode cX11_where 3 = .ok (.istore_n 2, 1) := by decide +kernel
theorem dX11_where_4 : decode cX11_where 4 = .ok (.iload_n 2, 1) := by decide +kernel
theorem dX11_where_5 : decode cX11_where 5 = .ok (.aload_n 0, 1) := by decide +kernel
theorem dX11_where_6 : decode cX11_where 6 = .ok (.getfield 13, 3) := by decide +kernel
theorem dX11_where_9 : decode cX11_where 9 = .ok (.if_icmp .ge 27, 3) := by decide +kernel
theorem dX11_where_12 : decode cX11_where 12 = .ok (.iload_n 1, 1) := by decide +kernel
theorem dX11_where_13 : decode cX11_where 13 = .ok (.aload_n 0, 1) := by decide +kernel
theorem dX11_where_14 : decode cX11_where 14 = .ok (.iload_n 2, 1) := by decide +kernel
theorem dX11_where_15 : decode cX11_where 15 = .ok (.invokevirtual 246, 3) := by decide +kernel
theorem dX11_where_18 : decode cX11_where 18 = .ok (.ifCond .ne 9, 3) := by decide +kernel
theorem dX11_where_21 : decode cX11_where 21 = .ok (.iconst 1, 1) := by decide +kernel
theorem dX11_where_22 : decode cX11_where 22 = .ok (.iload_n 2, 1) := by decide +kernel
theorem dX11_where_23 : decode cX11_where 23 = .ok (.ishl, 1) := by decide +kernel
theorem dX11_where_24 : decode cX11_where 24 = .ok (.goto 4, 3) := by decide +kernel
theorem dX11_where_27 : decode cX11_where 27 = .ok (.iconst 0, 1) := by decide +kernel
theorem dX11_where_28 : decode cX11_where 28 = .ok (.ior, 1) := by decide +kernel
theorem dX11_where_29 : decode cX11_where 29 = .ok (.istore_n 1, 1) := by decide +kernel
theorem dX11_where_30 : decode cX11_where 30 = .ok (.iinc 2 1, 3) := by decide +kernel
theorem dX11_where_33 : decode cX11_where 33 = .ok (.goto (-29), 3) := by decide +kernel
theorem dX11_where_36 : decode cX11_where 36 = .ok (.iload_n 1, 1) := by decide +kernel
theorem dX11_where_37 : decode cX11_where 37 = .ok (.ireturn, 1) := by decide +kernel
theorem dX11_play_0 : decode cX11_play 0 = .ok (.iload_n 2, 1) := by decide +kernel
theorem dX11_play_1 : decode cX11_play 1 = .ok (.i2l, 1) := by decide +kernel
theorem dX11_play_2 : decode cX11_play 2 = .ok (.lconst 1, 1) := by decide +kernel
theorem dX11_play_3 : decode cX11_play 3 = .ok (.ldc2_w 210, 3) := by decide +kernel
theorem dX11_play_6 : decode cX11_play 6 = .ok (.invokestatic 57, 3) := by decide +kernel
theorem dX11_play_9 : decode cX11_play 9 = .ok (.ifCond .eq 13, 3) := by decide +kernel
theorem dX11_play_12 : decode cX11_play 12 = .ok (.iload_n 3, 1) := by decide +kernel
theorem dX11_play_13 : decode cX11_play 13 = .ok (.i2l, 1) := by decide +kernel
theorem dX11_play_14 : decode cX11_play 14 = .ok (.lconst 0, 1) := by decide +kernel
theorem dX11_play_15 : decode cX11_play 15 = .ok (.lconst 1, 1) := by decide +kernel
theorem dX11_play_16 : decode cX11_play 16 = .ok (.invokestatic 57, 3) := by decide +kernel
theorem dX11_play_19 : decode cX11_play 19 = .ok (.ifCond .ne 5, 3) := by decide +kernel
theorem dX11_play_22 : decode cX11_play 22 = .ok (.iconst (-1), 1) := by decide +kernel
theorem dX11_play_23 : decode cX11_play 23 = .ok (.ireturn, 1) := by decide +kernel
theorem dX11_play_24 : decode cX11_play 24 = .ok (.aload_n 0, 1) := by decide +kernel
theorem dX11_play_25 : decode cX11_play 25 = .ok (.iconst 0, 1) := by decide +kernel
theorem dX11_play_26 : decode cX11_play 26 = .ok (.sipush 188, 3) := by decide +kernel
theorem dX11_play_29 : decode cX11_play 29 = .ok (.invokevirtual 212, 3) := by decide +kernel
theorem dX11_play_32 : decode cX11_play 32 = .ok (.iload_n 1, 1) := by decide +kernel
theorem dX11_play_33 : decode cX11_play 33 = .ok (.istore 4, 2) := by decide +kernel
theorem dX11_play_35 : decode cX11_play 35 = .ok (.iconst 0, 1) := by decide +kernel
theorem dX11_play_36 : decode cX11_play 36 = .ok (.istore 5, 2) := by decide +kernel
theorem dX11_play_38 : decode cX11_play 38 = .ok (.iload 5, 2) := by decide +kernel
theorem dX11_play_40 : decode cX11_play 40 = .ok (.iload_n 2, 1) := by decide +kernel
theorem dX11_play_41 : decode cX11_play 41 = .ok (.if_icmp .ge 61, 3) := by decide +kernel
theorem dX11_play_44 : decode cX11_play 44 = .ok (.aload_n 0, 1) := by decide +kernel
theorem dX11_play_45 : decode cX11_play 45 = .ok (.sipush 188, 3) := by decide +kernel
theorem dX11_play_48 : decode cX11_play 48 = .ok (.invokevirtual 188, 3) := by decide +kernel
theorem dX11_play_51 : decode cX11_play 51 = .ok (.ifCond .ne 51, 3) := by decide +kernel
theorem dX11_play_54 : decode cX11_play 54 = .ok (.iload 4, 2) := by decide +kernel
theorem dX11_play_56 : decode cX11_play 56 = .ok (.ldc 249, 2) := by decide +kernel
theorem dX11_play_58 : decode cX11_play 58 = .ok (.imul, 1) := by decide +kernel
theorem dX11_play_59 : decode cX11_play 59 = .ok (.sipush 12345, 3) := by decide +kernel
theorem dX11_play_62 : decode cX11_play 62 = .ok (.iadd, 1) := by decide +kernel
theorem dX11_play_63 : decode cX11_play 63 = .ok (.istore 4, 2) := by decide +kernel
theorem dX11_play_65 : decode cX11_play 65 = .ok (.aload_n 0, 1) := by decide +kernel
theorem dX11_play_66 : decode cX11_play 66 = .ok (.iload 4, 2) := by decide +kernel
theorem dX11_play_68 : decode cX11_play 68 = .ok (.bipush 16, 2) := by decide +kernel
theorem dX11_play_70 : decode cX11_play 70 = .ok (.ishr, 1) := by decide +kernel
theorem dX11_play_71 : decode cX11_play 71 = .ok (.sipush 32767, 3) := by decide +kernel
theorem dX11_play_74 : decode cX11_play 74 = .ok (.iand, 1) := by decide +kernel
theorem dX11_play_75 : decode cX11_play 75 = .ok (.bipush 8, 2) := by decide +kernel
theorem dX11_play_77 : decode cX11_play 77 = .ok (.irem, 1) := by decide +kernel
theorem dX11_play_78 : decode cX11_play 78 = .ok (.aload_n 0, 1) := by decide +kernel
theorem dX11_play_79 : decode cX11_play 79 = .ok (.getfield 7, 3) := by decide +kernel
theorem dX11_play_82 : decode cX11_play 82 = .ok (.bipush 45, 2) := by decide +kernel
theorem dX11_play_84 : decode cX11_play 84 = .ok (.iaload, 1) := by decide +kernel
theorem dX11_play_85 : decode cX11_play 85 = .ok (.if_icmp .ge 7, 3) := by decide +kernel
theorem dX11_play_88 : decode cX11_play 88 = .ok (.iconst 1, 1) := by decide +kernel
theorem dX11_play_89 : decode cX11_play 89 = .ok (.goto 4, 3) := by decide +kernel
theorem dX11_play_92 : decode cX11_play 92 = .ok (.iconst 0, 1) := by decide +kernel
theorem dX11_play_93 : decode cX11_play 93 = .ok (.invokevirtual 206, 3) := by decide +kernel
theorem dX11_play_96 : decode cX11_play 96 = .ok (.iinc 5 1, 3) := by decide +kernel
theorem dX11_play_99 : decode cX11_play 99 = .ok (.goto (-61), 3) := by decide +kernel
theorem dX11_play_102 : decode cX11_play 102 = .ok (.iload_n 3, 1) := by decide +kernel
theorem dX11_play_103 : decode cX11_play 103 = .ok (.ifCond .ne 13, 3) := by decide +kernel
theorem dX11_play_106 : decode cX11_play 106 = .ok (.aload_n 0, 1) := by decide +kernel
theorem dX11_play_107 : decode cX11_play 107 = .ok (.sipush 188, 3) := by decide +kernel
theorem dX11_play_110 : decode cX11_play 110 = .ok (.invokevirtual 146, 3) := by decide +kernel
theorem dX11_play_113 : decode cX11_play 113 = .ok (.goto 5, 3) := by decide +kernel
theorem dX11_play_116 : decode cX11_play 116 = .ok (.iload 5, 2) := by decide +kernel
theorem dX11_play_118 : decode cX11_play 118 = .ok (.ireturn, 1) := by decide +kernel
theorem dX11_keep_0 : decode cX11_keep 0 = .ok (.iload_n 1, 1) := by decide +kernel
theorem dX11_keep_1 : decode cX11_keep 1 = .ok (.i2l, 1) := by decide +kernel
theorem dX11_keep_2 : decode cX11_keep 2 = .ok (.lconst 0, 1) := by decide +kernel
theorem dX11_keep_3 : decode cX11_keep 3 = .ok (.lconst 1, 1) := by decide +kernel
theorem dX11_keep_4 : decode cX11_keep 4 = .ok (.invokestatic 57, 3) := by decide +kernel
theorem dX11_keep_7 : decode cX11_keep 7 = .ok (.ifCond .ne 5, 3) := by decide +kernel
theorem dX11_keep_10 : decode cX11_keep 10 = .ok (.iconst (-1), 1) := by decide +kernel
theorem dX11_keep_11 : decode cX11_keep 11 = .ok (.ireturn, 1) := by decide +kernel
theorem dX11_keep_12 : decode cX11_keep 12 = .ok (.aload_n 0, 1) := by decide +kernel
theorem dX11_keep_13 : decode cX11_keep 13 = .ok (.iconst 0, 1) := by decide +kernel
theorem dX11_keep_14 : decode cX11_keep 14 = .ok (.bipush 47, 2) := by decide +kernel
theorem dX11_keep_16 : decode cX11_keep 16 = .ok (.iload_n 1, 1) := by decide +kernel
theorem dX11_keep_17 : decode cX11_keep 17 = .ok (.iconst 1, 1) := by decide +kernel
theorem dX11_keep_18 : decode cX11_keep 18 = .ok (.iadd, 1) := by decide +kernel
theorem dX11_keep_19 : decode cX11_keep 19 = .ok (.imul, 1) := by decide +kernel
theorem dX11_keep_20 : decode cX11_keep 20 = .ok (.invokevirtual 212, 3) := by decide +kernel
theorem dX11_keep_23 : decode cX11_keep 23 = .ok (.aload_n 0, 1) := by decide +kernel
theorem dX11_keep_24 : decode cX11_keep 24 = .ok (.getfield 41, 3) := by decide +kernel
theorem dX11_keep_27 : decode cX11_keep 27 = .ok (.iload_n 1, 1) := by decide +kernel
theorem dX11_keep_28 : decode cX11_keep 28 = .ok (.baload, 1) := by decide +kernel
theorem dX11_keep_29 : decode cX11_keep 29 = .ok (.ifCond .eq 7, 3) := by decide +kernel
theorem dX11_keep_32 : decode cX11_keep 32 = .ok (.iconst 1, 1) := by decide +kernel
theorem dX11_keep_33 : decode cX11_keep 33 = .ok (.goto 4, 3) := by decide +kernel
theorem dX11_keep_36 : decode cX11_keep 36 = .ok (.iconst 0, 1) := by decide +kernel
theorem dX11_keep_37 : decode cX11_keep 37 = .ok (.istore_n 2, 1) := by decide +kernel
theorem dX11_keep_38 : decode cX11_keep 38 = .ok (.aload_n 0, 1) := by decide +kernel
theorem dX11_keep_39 : decode cX11_keep 39 = .ok (.getfield 41, 3) := by decide +kernel
theorem dX11_keep_42 : decode cX11_keep 42 = .ok (.iload_n 1, 1) := by decide +kernel
theorem dX11_keep_43 : decode cX11_keep 43 = .ok (.iconst 1, 1) := by decide +kernel
theorem dX11_keep_44 : decode cX11_keep 44 = .ok (.bastore, 1) := by decide +kernel
theorem dX11_keep_45 : decode cX11_keep 45 = .ok (.iload_n 2, 1) := by decide +kernel
theorem dX11_keep_46 : decode cX11_keep 46 = .ok (.ireturn, 1) := by decide +kernel
theorem dX11_back_0 : decode cX11_back 0 = .ok (.iload_n 1, 1) := by decide +kernel
theorem dX11_back_1 : decode cX11_back 1 = .ok (.i2l, 1) := by decide +kernel
theorem dX11_back_2 : decode cX11_back 2 = .ok (.lconst 0, 1) := by decide +kernel
theorem dX11_back_3 : decode cX11_back 3 = .ok (.lconst 1, 1) := by decide +kernel
theorem dX11_back_4 : decode cX11_back 4 = .ok (.invokestatic 57, 3) := by decide +kernel
theorem dX11_back_7 : decode cX11_back 7 = .ok (.ifCond .ne 5, 3) := by decide +kernel
theorem dX11_back_10 : decode cX11_back 10 = .ok (.iconst (-1), 1) := by decide +kernel
theorem dX11_back_11 : decode cX11_back 11 = .ok (.ireturn, 1) := by decide +kernel
theorem dX11_back_12 : decode cX11_back 12 = .ok (.aload_n 0, 1) := by decide +kernel
theorem dX11_back_13 : decode cX11_back 13 = .ok (.getfield 41, 3) := by decide +kernel
theorem dX11_back_16 : decode cX11_back 16 = .ok (.iload_n 1, 1) := by decide +kernel
theorem dX11_back_17 : decode cX11_back 17 = .ok (.baload, 1) := by decide +kernel
theorem dX11_back_18 : decode cX11_back 18 = .ok (.ifCond .ne 6, 3) := by decide +kernel
theorem dX11_back_21 : decode cX11_back 21 = .ok (.bipush (-2), 2) := by decide +kernel
theorem dX11_back_23 : decode cX11_back 23 = .ok (.ireturn, 1) := by decide +kernel
theorem dX11_back_24 : decode cX11_back 24 = .ok (.aload_n 0, 1) := by decide +kernel
theorem dX11_back_25 : decode cX11_back 25 = .ok (.bipush 47, 2) := by decide +kernel
theorem dX11_back_27 : decode cX11_back 27 = .ok (.iload_n 1, 1) := by decide +kernel
theorem dX11_back_28 : decode cX11_back 28 = .ok (.iconst 1, 1) := by decide +kernel
theorem dX11_back_29 : decode cX11_back 29 = .ok (.iadd, 1) := by decide +kernel
theorem dX11_back_30 : decode cX11_back 30 = .ok (.imul, 1) := by decide +kernel
theorem dX11_back_31 : decode cX11_back 31 = .ok (.iconst 0, 1) := by decide +kernel
theorem dX11_back_32 : decode cX11_back 32 = .ok (.invokevirtual 212, 3) := by decide +kernel
theorem dX11_back_35 : decode cX11_back 35 = .ok (.aload_n 0, 1) := by decide +kernel
theorem dX11_back_36 : decode cX11_back 36 = .ok (.getfield 7, 3) := by decide +kernel
theorem dX11_back_39 : decode cX11_back 39 = .ok (.bipush 46, 2) := by decide +kernel
theorem dX11_back_41 : decode cX11_back 41 = .ok (.iaload, 1) := by decide +kernel
theorem dX11_back_42 : decode cX11_back 42 = .ok (.ireturn, 1) := by decide +kernel
theorem dX11_sheet_0 : decode cX11_sheet 0 = .ok (.iload_n 1, 1) := by decide +kernel
theorem dX11_sheet_1 : decode cX11_sheet 1 = .ok (.i2l, 1) := by decide +kernel
theorem dX11_sheet_2 : decode cX11_sheet 2 = .ok (.lconst 0, 1) := by decide +kernel
theorem dX11_sheet_3 : decode cX11_sheet 3 = .ok (.ldc2_w 250, 3) := by decide +kernel
theorem dX11_sheet_6 : decode cX11_sheet 6 = .ok (.invokestatic 57, 3) := by decide +kernel
theorem dX11_sheet_9 : decode cX11_sheet 9 = .ok (.ifCond .eq 21, 3) := by decide +kernel
theorem dX11_sheet_12 : decode cX11_sheet 12 = .ok (.iload_n 2, 1) := by decide +kernel
theorem dX11_sheet_13 : decode cX11_sheet 13 = .ok (.i2l, 1) := by decide +kernel
theorem dX11_sheet_14 : decode cX11_sheet 14 = .ok (.lconst 0, 1) := by decide +kernel
theorem dX11_sheet_15 : decode cX11_sheet 15 = .ok (.ldc2_w 149, 3) := by decide +kernel
theorem dX11_sheet_18 : decode cX11_sheet 18 = .ok (.invokestatic 57, 3) := by decide +kernel
theorem dX11_sheet_21 : decode cX11_sheet 21 = .ok (.ifCond .eq 9, 3) := by decide +kernel
theorem dX11_sheet_24 : decode cX11_sheet 24 = .ok (.iload_n 3, 1) := by decide +kernel
theorem dX11_sheet_25 : decode cX11_sheet 25 = .ok (.bipush 40, 2) := by decide +kernel
theorem dX11_sheet_27 : decode cX11_sheet 27 = .ok (.if_icmp .le 5, 3) := by decide +kernel
theorem dX11_sheet_30 : decode cX11_sheet 30 = .ok (.iconst (-1), 1) := by decide +kernel
theorem dX11_sheet_31 : decode cX11_sheet 31 = .ok (.ireturn, 1) := by decide +kernel
theorem dX11_sheet_32 : decode cX11_sheet 32 = .ok (.iload_n 3, 1) := by decide +kernel
theorem dX11_sheet_33 : decode cX11_sheet 33 = .ok (.ifCond .ge 6, 3) := by decide +kernel
theorem dX11_sheet_36 : decode cX11_sheet 36 = .ok (.bipush (-14), 2) := by decide +kernel
theorem dX11_sheet_38 : decode cX11_sheet 38 = .ok (.ireturn, 1) := by decide +kernel
theorem dX11_sheet_39 : decode cX11_sheet 39 = .ok (.aload_n 0, 1) := by decide +kernel
theorem dX11_sheet_40 : decode cX11_sheet 40 = .ok (.getfield 45, 3) := by decide +kernel
theorem dX11_sheet_43 : decode cX11_sheet 43 = .ok (.iload_n 1, 1) := by decide +kernel
theorem dX11_sheet_44 : decode cX11_sheet 44 = .ok (.iload_n 2, 1) := by decide +kernel
theorem dX11_sheet_45 : decode cX11_sheet 45 = .ok (.iastore, 1) := by decide +kernel
theorem dX11_sheet_46 : decode cX11_sheet 46 = .ok (.aload_n 0, 1) := by decide +kernel
theorem dX11_sheet_47 : decode cX11_sheet 47 = .ok (.getfield 48, 3) := by decide +kernel
theorem dX11_sheet_50 : decode cX11_sheet 50 = .ok (.iload_n 1, 1) := by decide +kernel
theorem dX11_sheet_51 : decode cX11_sheet 51 = .ok (.iload_n 3, 1) := by decide +kernel
theorem dX11_sheet_52 : decode cX11_sheet 52 = .ok (.iastore, 1) := by decide +kernel
theorem dX11_sheet_53 : decode cX11_sheet 53 = .ok (.iconst 0, 1) := by decide +kernel
theorem dX11_sheet_54 : decode cX11_sheet 54 = .ok (.istore 4, 2) := by decide +kernel
theorem dX11_sheet_56 : decode cX11_sheet 56 = .ok (.iload 4, 2) := by decide +kernel
theorem dX11_sheet_58 : decode cX11_sheet 58 = .ok (.bipush 40, 2) := by decide +kernel
theorem dX11_sheet_60 : decode cX11_sheet 60 = .ok (.if_icmp .ge 22, 3) := by decide +kernel
theorem dX11_sheet_63 : decode cX11_sheet 63 = .ok (.aload_n 0, 1) := by decide +kernel
theorem dX11_sheet_64 : decode cX11_sheet 64 = .ok (.getfield 51, 3) := by decide +kernel
theorem dX11_sheet_67 : decode cX11_sheet 67 = .ok (.bipush 40, 2) := by decide +kernel
theorem dX11_sheet_69 : decode cX11_sheet 69 = .ok (.iload_n 1, 1) := by decide +kernel
theorem dX11_sheet_70 : decode cX11_sheet 70 = .ok (.imul, 1) := by decide +kernel
theorem dX11_sheet_71 : decode cX11_sheet 71 = .ok (.iload 4, 2) := by decide +kernel
theorem dX11_sheet_73 : decode cX11_sheet 73 = .ok (.iadd, 1) := by decide +kernel
theorem dX11_sheet_74 : decode cX11_sheet 74 = .ok (.iconst 0, 1) := by decide +kernel
theorem dX11_sheet_75 : decode cX11_sheet 75 = .ok (.iastore, 1) := by decide +kernel
theorem dX11_sheet_76 : decode cX11_sheet 76 = .ok (.iinc 4 1, 3) := by decide +kernel
theorem dX11_sheet_79 : decode cX11_sheet 79 = .ok (.goto (-23), 3) := by decide +kernel
theorem dX11_sheet_82 : decode cX11_sheet 82 = .ok (.iconst 1, 1) := by decide +kernel
theorem dX11_sheet_83 : decode cX11_sheet 83 = .ok (.ireturn, 1) := by decide +kernel
theorem dX11_lay_0 : decode cX11_lay 0 = .ok (.iload_n 1, 1) := by decide +kernel
theorem dX11_lay_1 : decode cX11_lay 1 = .ok (.i2l, 1) := by decide +kernel
theorem dX11_lay_2 : decode cX11_lay 2 = .ok (.lconst 0, 1) := by decide +kernel
theorem dX11_lay_3 : decode cX11_lay 3 = .ok (.ldc2_w 250, 3) := by decide +kernel
theorem dX11_lay_6 : decode cX11_lay 6 = .ok (.invokestatic 57, 3) := by decide +kernel
theorem dX11_lay_9 : decode cX11_lay 9 = .ok (.ifCond .ne 5, 3) := by decide +kernel
theorem dX11_lay_12 : decode cX11_lay 12 = .ok (.iconst (-1), 1) := by decide +kernel
theorem dX11_lay_13 : decode cX11_lay 13 = .ok (.ireturn, 1) := by decide +kernel
theorem dX11_lay_14 : decode cX11_lay 14 = .ok (.aload_n 0, 1) := by decide +kernel
theorem dX11_lay_15 : decode cX11_lay 15 = .ok (.getfield 45, 3) := by decide +kernel
theorem dX11_lay_18 : decode cX11_lay 18 = .ok (.iload_n 1, 1) := by decide +kernel
theorem dX11_lay_19 : decode cX11_lay 19 = .ok (.iaload, 1) := by decide +kernel
theorem dX11_lay_20 : decode cX11_lay 20 = .ok (.bipush (-4), 2) := by decide +kernel
theorem dX11_lay_22 : decode cX11_lay 22 = .ok (.if_icmp .ne 6, 3) := by decide +kernel
theorem dX11_lay_25 : decode cX11_lay 25 = .ok (.bipush (-11), 2) := by decide +kernel
theorem dX11_lay_27 : decode cX11_lay 27 = .ok (.ireturn, 1) := by decide +kernel
theorem dX11_lay_28 : decode cX11_lay 28 = .ok (.iload_n 2, 1) := by decide +kernel
theorem dX11_lay_29 : decode cX11_lay 29 = .ok (.i2l, 1) := by decide +kernel
theorem dX11_lay_30 : decode cX11_lay 30 = .ok (.lconst 0, 1) := by decide +kernel
theorem dX11_lay_31 : decode cX11_lay 31 = .ok (.aload_n 0, 1) := by decide +kernel
theorem dX11_lay_32 : decode cX11_lay 32 = .ok (.getfield 48, 3) := by decide +kernel
theorem dX11_lay_35 : decode cX11_lay 35 = .ok (.iload_n 1, 1) := by decide +kernel
theorem dX11_lay_36 : decode cX11_lay 36 = .ok (.iaload, 1) := by decide +kernel
theorem dX11_lay_37 : decode cX11_lay 37 = .ok (.iconst 1, 1) := by decide +kernel
theorem dX11_lay_38 : decode cX11_lay 38 = .ok (.isub, 1) := by decide +kernel
theorem dX11_lay_39 : decode cX11_lay 39 = .ok (.i2l, 1) := by decide +kernel
theorem dX11_lay_40 : decode cX11_lay 40 = .ok (.invokestatic 57, 3) := by decide +kernel
theorem dX11_lay_43 : decode cX11_lay 43 = .ok (.ifCond .ne 6, 3) := by decide +kernel
theorem dX11_lay_46 : decode cX11_lay 46 = .ok (.bipush (-12), 2) := by decide +kernel
theorem dX11_lay_48 : decode cX11_lay 48 = .ok (.ireturn, 1) := by decide +kernel
theorem dX11_lay_49 : decode cX11_lay 49 = .ok (.aload_n 0, 1) := by decide +kernel
theorem dX11_lay_50 : decode cX11_lay 50 = .ok (.getfield 51, 3) := by decide +kernel
theorem dX11_lay_53 : decode cX11_lay 53 = .ok (.bipush 40, 2) := by decide +kernel
theorem dX11_lay_55 : decode cX11_lay 55 = .ok (.iload_n 1, 1) := by decide +kernel
theorem dX11_lay_56 : decode cX11_lay 56 = .ok (.imul, 1) := by decide +kernel
theorem dX11_lay_57 : decode cX11_lay 57 = .ok (.iload_n 2, 1) := by decide +kernel
theorem dX11_lay_58 : decode cX11_lay 58 = .ok (.iadd, 1) := by decide +kernel
theorem dX11_lay_59 : decode cX11_lay 59 = .ok (.aload_n 0, 1) := by decide +kernel
theorem dX11_lay_60 : decode cX11_lay 60 = .ok (.getfield 45, 3) := by decide +kernel
theorem dX11_lay_63 : decode cX11_lay 63 = .ok (.iload_n 1, 1) := by decide +kernel
theorem dX11_lay_64 : decode cX11_lay 64 = .ok (.iaload, 1) := by decide +kernel
theorem dX11_lay_65 : decode cX11_lay 65 = .ok (.ifCond .ne 13, 3) := by decide +kernel
theorem dX11_lay_68 : decode cX11_lay 68 = .ok (.iload_n 3, 1) := by decide +kernel
theorem dX11_lay_69 : decode cX11_lay 69 = .ok (.bipush 24, 2) := by decide +kernel
theorem dX11_lay_71 : decode cX11_lay 71 = .ok (.ishl, 1) := by decide +kernel
theorem dX11_lay_72 : decode cX11_lay 72 = .ok (.bipush 24, 2) := by decide +kernel
theorem dX11_lay_74 : decode cX11_lay 74 = .ok (.ishr, 1) := by decide +kernel
theorem dX11_lay_75 : decode cX11_lay 75 = .ok (.goto 24, 3) := by decide +kernel
theorem dX11_lay_78 : decode cX11_lay 78 = .ok (.aload_n 0, 1) := by decide +kernel
theorem dX11_lay_79 : decode cX11_lay 79 = .ok (.getfield 45, 3) := by decide +kernel
theorem dX11_lay_82 : decode cX11_lay 82 = .ok (.iload_n 1, 1) := by decide +kernel
theorem dX11_lay_83 : decode cX11_lay 83 = .ok (.iaload, 1) := by decide +kernel
theorem dX11_lay_84 : decode cX11_lay 84 = .ok (.iconst 1, 1) := by decide +kernel
theorem dX11_lay_85 : decode cX11_lay 85 = .ok (.if_icmp .ne 13, 3) := by decide +kernel
theorem dX11_lay_88 : decode cX11_lay 88 = .ok (.iload_n 3, 1) := by decide +kernel
theorem dX11_lay_89 : decode cX11_lay 89 = .ok (.bipush 16, 2) := by decide +kernel
theorem dX11_lay_91 : decode cX11_lay 91 = .ok (.ishl, 1) := by decide +kernel
theorem dX11_lay_92 : decode cX11_lay 92 = .ok (.bipush 16, 2) := by decide +kernel
theorem dX11_lay_94 : decode cX11_lay 94 = .ok (.ishr, 1) := by decide +kernel
theorem dX11_lay_95 : decode cX11_lay 95 = .ok (.goto 4, 3) := by decide +kernel
theorem dX11_lay_98 : decode cX11_lay 98 = .ok (.iload_n 3, 1) := by decide +kernel
theorem dX11_lay_99 : decode cX11_lay 99 = .ok (.iastore, 1) := by decide +kernel
theorem dX11_lay_100 : decode cX11_lay 100 = .ok (.iconst 1, 1) := by decide +kernel
theorem dX11_lay_101 : decode cX11_lay 101 = .ok (.ireturn, 1) := by decide +kernel
theorem dX11_read_0 : decode cX11_read 0 = .ok (.iload_n 1, 1) := by decide +kernel
theorem dX11_read_1 : decode cX11_read 1 = .ok (.i2l, 1) := by decide +kernel
theorem dX11_read_2 : decode cX11_read 2 = .ok (.lconst 0, 1) := by decide +kernel
theorem dX11_read_3 : decode cX11_read 3 = .ok (.ldc2_w 250, 3) := by decide +kernel
theorem dX11_read_6 : decode cX11_read 6 = .ok (.invokestatic 57, 3) := by decide +kernel
theorem dX11_read_9 : decode cX11_read 9 = .ok (.ifCond .eq 28, 3) := by decide +kernel
theorem dX11_read_12 : decode cX11_read 12 = .ok (.iload_n 2, 1) := by decide +kernel
theorem dX11_read_13 : decode cX11_read 13 = .ok (.i2l, 1) := by decide +kernel
theorem dX11_read_14 : decode cX11_read 14 = .ok (.lconst 0, 1) := by decide +kernel
theorem dX11_read_15 : decode cX11_read 15 = .ok (.ldc2_w 149, 3) := by decide +kernel
theorem dX11_read_18 : decode cX11_read 18 = .ok (.invokestatic 57, 3) := by decide +kernel
theorem dX11_read_21 : decode cX11_read 21 = .ok (.ifCond .eq 16, 3) := by decide +kernel
theorem dX11_read_24 : decode cX11_read 24 = .ok (.iload 4, 2) := by decide +kernel
theorem dX11_read_26 : decode cX11_read 26 = .ok (.i2l, 1) := by decide +kernel
theorem dX11_read_27 : decode cX11_read 27 = .ok (.lconst 0, 1) := by decide +kernel
theorem dX11_read_28 : decode cX11_read 28 = .ok (.ldc2_w 244, 3) := by decide +kernel
theorem dX11_read_31 : decode cX11_read 31 = .ok (.invokestatic 57, 3) := by decide +kernel
theorem dX11_read_34 : decode cX11_read 34 = .ok (.ifCond .ne 5, 3) := by decide +kernel
theorem dX11_read_37 : decode cX11_read 37 = .ok (.iconst (-1), 1) := by decide +kernel
theorem dX11_read_38 : decode cX11_read 38 = .ok (.ireturn, 1) := by decide +kernel
theorem dX11_read_39 : decode cX11_read 39 = .ok (.aload_n 0, 1) := by decide +kernel
theorem dX11_read_40 : decode cX11_read 40 = .ok (.iconst 0, 1) := by decide +kernel
theorem dX11_read_41 : decode cX11_read 41 = .ok (.sipush 141, 3) := by decide +kernel
theorem dX11_read_44 : decode cX11_read 44 = .ok (.invokevirtual 212, 3) := by decide +kernel
theorem dX11_read_47 : decode cX11_read 47 = .ok (.iconst 0, 1) := by decide +kernel
theorem dX11_read_48 : decode cX11_read 48 = .ok (.istore 5, 2) := by decide +kernel
theorem dX11_read_50 : decode cX11_read 50 = .ok (.iconst 0, 1) := by decide +kernel
theorem dX11_read_51 : decode cX11_read 51 = .ok (.istore 6, 2) := by decide +kernel
theorem dX11_read_53 : decode cX11_read 53 = .ok (.iconst 0, 1) := by decide +kernel
theorem dX11_read_54 : decode cX11_read 54 = .ok (.istore 7, 2) := by decide +kernel
theorem dX11_read_56 : decode cX11_read 56 = .ok (.iload 7, 2) := by decide +kernel
theorem dX11_read_58 : decode cX11_read 58 = .ok (.iconst 2, 1) := by decide +kernel
theorem dX11_read_59 : decode cX11_read 59 = .ok (.iload 4, 2) := by decide +kernel
theorem dX11_read_61 : decode cX11_read 61 = .ok (.imul, 1) := by decide +kernel
theorem dX11_read_62 : decode cX11_read 62 = .ok (.if_icmp .ge 137, 3) := by decide +kernel
theorem dX11_read_65 : decode cX11_read 65 = .ok (.iload 5, 2) := by decide +kernel
theorem dX11_read_67 : decode cX11_read 67 = .ok (.ifCond .ne 132, 3) := by decide +kernel
theorem dX11_read_70 : decode cX11_read 70 = .ok (.aload_n 0, 1) := by decide +kernel
theorem dX11_read_71 : decode cX11_read 71 = .ok (.getfield 45, 3) := by decide +kernel
theorem dX11_read_74 : decode cX11_read 74 = .ok (.iload_n 1, 1) := by decide +kernel
theorem dX11_read_75 : decode cX11_read 75 = .ok (.iaload, 1) := by decide +kernel
theorem dX11_read_76 : decode cX11_read 76 = .ok (.bipush (-4), 2) := by decide +kernel
theorem dX11_read_78 : decode cX11_read 78 = .ok (.if_icmp .ne 7, 3) := by decide +kernel
theorem dX11_read_81 : decode cX11_read 81 = .ok (.iconst 1, 1) := by decide +kernel
theorem dX11_read_82 : decode cX11_read 82 = .ok (.goto 44, 3) := by decide +kernel
theorem dX11_read_85 : decode cX11_read 85 = .ok (.aload_n 0, 1) := by decide +kernel
theorem dX11_read_86 : decode cX11_read 86 = .ok (.getfield 45, 3) := by decide +kernel
theorem dX11_read_89 : decode cX11_read 89 = .ok (.iload_n 1, 1) := by decide +kernel
theorem dX11_read_90 : decode cX11_read 90 = .ok (.iaload, 1) := by decide +kernel
theorem dX11_read_91 : decode cX11_read 91 = .ok (.iload_n 2, 1) := by decide +kernel
theorem dX11_read_92 : decode cX11_read 92 = .ok (.if_icmp .eq 7, 3) := by decide +kernel
theorem dX11_read_95 : decode cX11_read 95 = .ok (.iconst 3, 1) := by decide +kernel
theorem dX11_read_96 : decode cX11_read 96 = .ok (.goto 30, 3) := by decide +kernel
theorem dX11_read_99 : decode cX11_read 99 = .ok (.iload_n 3, 1) := by decide +kernel
theorem dX11_read_100 : decode cX11_read 100 = .ok (.i2l, 1) := by decide +kernel
theorem dX11_read_101 : decode cX11_read 101 = .ok (.iload 7, 2) := by decide +kernel
theorem dX11_read_103 : decode cX11_read 103 = .ok (.i2l, 1) := by decide +kernel
theorem dX11_read_104 : decode cX11_read 104 = .ok (.ladd, 1) := by decide +kernel
theorem dX11_read_105 : decode cX11_read 105 = .ok (.lconst 0, 1) := by decide +kernel
theorem dX11_read_106 : decode cX11_read 106 = .ok (.aload_n 0, 1) := by decide +kernel
theorem dX11_read_107 : decode cX11_read 107 = .ok (.getfield 48, 3) := by decide +kernel
theorem dX11_read_110 : decode cX11_read 110 = .ok (.iload_n 1, 1) := by decide +kernel
theorem dX11_read_111 : decode cX11_read 111 = .ok (.iaload, 1) := by decide +kernel
theorem dX11_read_112 : decode cX11_read 112 = .ok (.iconst 1, 1) := by decide +kernel
theorem dX11_read_113 : decode cX11_read 113 = .ok (.isub, 1) := by decide +kernel
theorem dX11_read_114 : decode cX11_read 114 = .ok (.i2l, 1) := by decide +kernel
theorem dX11_read_115 : decode cX11_read 115 = .ok (.invokestatic 57, 3) := by decide +kernel
theorem dX11_read_118 : decode cX11_read 118 = .ok (.ifCond .ne 7, 3) := by decide +kernel
theorem dX11_read_121 : decode cX11_read 121 = .ok (.iconst 2, 1) := by decide +kernel
theorem dX11_read_122 : decode cX11_read 122 = .ok (.goto 4, 3) := by decide +kernel
theorem dX11_read_125 : decode cX11_read 125 = .ok (.iconst 0, 1) := by decide +kernel
theorem dX11_read_126 : decode cX11_read 126 = .ok (.istore 5, 2) := by decide +kernel
theorem dX11_read_128 : decode cX11_read 128 = .ok (.iload 5, 2) := by decide +kernel
theorem dX11_read_130 : decode cX11_read 130 = .ok (.ifCond .ne 63, 3) := by decide +kernel
theorem dX11_read_133 : decode cX11_read 133 = .ok (.iload 7, 2) := by decide +kernel
theorem dX11_read_135 : decode cX11_read 135 = .ok (.iconst 2, 1) := by decide +kernel
theorem dX11_read_136 : decode cX11_read 136 = .ok (.irem, 1) := by decide +kernel
theorem dX11_read_137 : decode cX11_read 137 = .ok (.iconst 1, 1) := by decide +kernel
theorem dX11_read_138 : decode cX11_read 138 = .ok (.if_icmp .ne 55, 3) := by decide +kernel
theorem dX11_read_141 : decode cX11_read 141 = .ok (.bipush 40, 2) := by decide +kernel
theorem dX11_read_143 : decode cX11_read 143 = .ok (.iload_n 1, 1) := by decide +kernel
theorem dX11_read_144 : decode cX11_read 144 = .ok (.imul, 1) := by decide +kernel
theorem dX11_read_145 : decode cX11_read 145 = .ok (.iload_n 3, 1) := by decide +kernel
theorem dX11_read_146 : decode cX11_read 146 = .ok (.iadd, 1) := by decide +kernel
theorem dX11_read_147 : decode cX11_read 147 = .ok (.iload 7, 2) := by decide +kernel
theorem dX11_read_149 : decode cX11_read 149 = .ok (.iadd, 1) := by decide +kernel
theorem dX11_read_150 : decode cX11_read 150 = .ok (.istore 8, 2) := by decide +kernel
theorem dX11_read_152 : decode cX11_read 152 = .ok (.aload_n 0, 1) := by decide +kernel
theorem dX11_read_153 : decode cX11_read 153 = .ok (.aload_n 0, 1) := by decide +kernel
theorem dX11_read_154 : decode cX11_read 154 = .ok (.getfield 51, 3) := by decide +kernel
theorem dX11_read_157 : decode cX11_read 157 = .ok (.iload 8, 2) := by decide +kernel
theorem dX11_read_159 : decode cX11_read 159 = .ok (.iconst 1, 1) := by decide +kernel
theorem dX11_read_160 : decode cX11_read 160 = .ok (.isub, 1) := by decide +kernel
theorem dX11_read_161 : decode cX11_read 161 = .ok (.iaload, 1) := by decide +kernel
theorem dX11_read_162 : decode cX11_read 162 = .ok (.aload_n 0, 1) := by decide +kernel
theorem dX11_read_163 : decode cX11_read 163 = .ok (.getfield 51, 3) := by decide +kernel
theorem dX11_read_166 : decode cX11_read 166 = .ok (.iload 8, 2) := by decide +kernel
theorem dX11_read_168 : decode cX11_read 168 = .ok (.iaload, 1) := by decide +kernel
theorem dX11_read_169 : decode cX11_read 169 = .ok (.iconst 0, 1) := by decide +kernel
theorem dX11_read_170 : decode cX11_read 170 = .ok (.invokevirtual 202, 3) := by decide +kernel
theorem dX11_read_173 : decode cX11_read 173 = .ok (.ifCond .ge 17, 3) := by decide +kernel
theorem dX11_read_176 : decode cX11_read 176 = .ok (.aload_n 0, 1) := by decide +kernel
theorem dX11_read_177 : decode cX11_read 177 = .ok (.sipush 141, 3) := by decide +kernel
theorem dX11_read_180 : decode cX11_read 180 = .ok (.iconst 0, 1) := by decide +kernel
theorem dX11_read_181 : decode cX11_read 181 = .ok (.invokevirtual 212, 3) := by decide +kernel
theorem dX11_read_184 : decode cX11_read 184 = .ok (.bipush (-20), 2) := by decide +kernel
theorem dX11_read_186 : decode cX11_read 186 = .ok (.iload 6, 2) := by decide +kernel
theorem dX11_read_188 : decode cX11_read 188 = .ok (.isub, 1) := by decide +kernel
theorem dX11_read_189 : decode cX11_read 189 = .ok (.ireturn, 1) := by decide +kernel
theorem dX11_read_190 : decode cX11_read 190 = .ok (.iinc 6 1, 3) := by decide +kernel
theorem dX11_read_193 : decode cX11_read 193 = .ok (.iinc 7 1, 3) := by decide +kernel
theorem dX11_read_196 : decode cX11_read 196 = .ok (.goto (-140), 3) := by decide +kernel
theorem dX11_read_199 : decode cX11_read 199 = .ok (.aload_n 0, 1) := by decide +kernel
theorem dX11_read_200 : decode cX11_read 200 = .ok (.iload 5, 2) := by decide +kernel
theorem dX11_read_202 : decode cX11_read 202 = .ok (.putfield 252, 3) := by decide +kernel
theorem dX11_read_205 : decode cX11_read 205 = .ok (.iload 6, 2) := by decide +kernel
theorem dX11_read_207 : decode cX11_read 207 = .ok (.ireturn, 1) := by decide +kernel
theorem dX11_torn_0 : decode cX11_torn 0 = .ok (.aload_n 0, 1) := by decide +kernel
theorem dX11_torn_1 : decode cX11_torn 1 = .ok (.getfield 252, 3) := by decide +kernel
theorem dX11_torn_4 : decode cX11_torn 4 = .ok (.ireturn, 1) := by decide +kernel
theorem dX11_count_0 : decode cX11_count 0 = .ok (.iload_n 1, 1) := by decide +kernel
theorem dX11_count_1 : decode cX11_count 1 = .ok (.tableswitch 130 0 5 #[39, 44, 74, 79, 102, 116], 39) := by decide +kernel
theorem dX11_count_40 : decode cX11_count 40 = .ok (.aload_n 0, 1) := by decide +kernel
theorem dX11_count_41 : decode cX11_count 41 = .ok (.getfield 139, 3) := by decide +kernel
theorem dX11_count_44 : decode cX11_count 44 = .ok (.ireturn, 1) := by decide +kernel
theorem dX11_count_45 : decode cX11_count 45 = .ok (.aload_n 0, 1) := by decide +kernel
theorem dX11_count_46 : decode cX11_count 46 = .ok (.getfield 41, 3) := by decide +kernel
theorem dX11_count_49 : decode cX11_count 49 = .ok (.iconst 0, 1) := by decide +kernel
theorem dX11_count_50 : decode cX11_count 50 = .ok (.baload, 1) := by decide +kernel
theorem dX11_count_51 : decode cX11_count 51 = .ok (.ifCond .eq 7, 3) := by decide +kernel
theorem dX11_count_54 : decode cX11_count 54 = .ok (.iconst 1, 1) := by decide +kernel
theorem dX11_count_55 : decode cX11_count 55 = .ok (.goto 4, 3) := by decide +kernel
theorem dX11_count_58 : decode cX11_count 58 = .ok (.iconst 0, 1) := by decide +kernel
theorem dX11_count_59 : decode cX11_count 59 = .ok (.aload_n 0, 1) := by decide +kernel
theorem dX11_count_60 : decode cX11_count 60 = .ok (.getfield 41, 3) := by decide +kernel
theorem dX11_count_63 : decode cX11_count 63 = .ok (.iconst 1, 1) := by decide +kernel
theorem dX11_count_64 : decode cX11_count 64 = .ok (.baload, 1) := by decide +kernel
theorem dX11_count_65 : decode cX11_count 65 = .ok (.ifCond .eq 7, 3) := by decide +kernel
theorem dX11_count_68 : decode cX11_count 68 = .ok (.iconst 1, 1) := by decide +kernel
theorem dX11_count_69 : decode cX11_count 69 = .ok (.goto 4, 3) := by decide +kernel
theorem dX11_count_72 : decode cX11_count 72 = .ok (.iconst 0, 1) := by decide +kernel
theorem dX11_count_73 : decode cX11_count 73 = .ok (.iadd, 1) := by decide +kernel
theorem dX11_count_74 : decode cX11_count 74 = .ok (.ireturn, 1) := by decide +kernel
theorem dX11_count_75 : decode cX11_count 75 = .ok (.aload_n 0, 1) := by decide +kernel
theorem dX11_count_76 : decode cX11_count 76 = .ok (.getfield 54, 3) := by decide +kernel
theorem dX11_count_79 : decode cX11_count 79 = .ok (.ireturn, 1) := by decide +kernel
theorem dX11_count_80 : decode cX11_count 80 = .ok (.aload_n 0, 1) := by decide +kernel
theorem dX11_count_81 : decode cX11_count 81 = .ok (.getfield 45, 3) := by decide +kernel
theorem dX11_count_84 : decode cX11_count 84 = .ok (.iconst 0, 1) := by decide +kernel
theorem dX11_count_85 : decode cX11_count 85 = .ok (.iaload, 1) := by decide +kernel
theorem dX11_count_86 : decode cX11_count 86 = .ok (.bipush (-4), 2) := by decide +kernel
theorem dX11_count_88 : decode cX11_count 88 = .ok (.if_icmp .ne 8, 3) := by decide +kernel
theorem dX11_count_91 : decode cX11_count 91 = .ok (.bipush (-4), 2) := by decide +kernel
theorem dX11_count_93 : decode cX11_count 93 = .ok (.goto 9, 3) := by decide +kernel
theorem dX11_count_96 : decode cX11_count 96 = .ok (.aload_n 0, 1) := by decide +kernel
theorem dX11_count_97 : decode cX11_count 97 = .ok (.getfield 48, 3) := by decide +kernel
theorem dX11_count_100 : decode cX11_count 100 = .ok (.iconst 0, 1) := by decide +kernel
theorem dX11_count_101 : decode cX11_count 101 = .ok (.iaload, 1) := by decide +kernel
theorem dX11_count_102 : decode cX11_count 102 = .ok (.ireturn, 1) := by decide +kernel
theorem dX11_count_103 : decode cX11_count 103 = .ok (.aload_n 0, 1) := by decide +kernel
theorem dX11_count_104 : decode cX11_count 104 = .ok (.iconst 0, 1) := by decide +kernel
theorem dX11_count_105 : decode cX11_count 105 = .ok (.iconst 0, 1) := by decide +kernel
theorem dX11_count_106 : decode cX11_count 106 = .ok (.iconst 0, 1) := by decide +kernel
theorem dX11_count_107 : decode cX11_count 107 = .ok (.invokevirtual 156, 3) := by decide +kernel
theorem dX11_count_110 : decode cX11_count 110 = .ok (.aload_n 0, 1) := by decide +kernel
theorem dX11_count_111 : decode cX11_count 111 = .ok (.iconst 0, 1) := by decide +kernel
theorem dX11_count_112 : decode cX11_count 112 = .ok (.invokevirtual 170, 3) := by decide +kernel
theorem dX11_count_115 : decode cX11_count 115 = .ok (.iadd, 1) := by decide +kernel
theorem dX11_count_116 : decode cX11_count 116 = .ok (.ireturn, 1) := by decide +kernel
theorem dX11_count_117 : decode cX11_count 117 = .ok (.aload_n 0, 1) := by decide +kernel
theorem dX11_count_118 : decode cX11_count 118 = .ok (.iconst 0, 1) := by decide +kernel
theorem dX11_count_119 : decode cX11_count 119 = .ok (.iconst 1, 1) := by decide +kernel
theorem dX11_count_120 : decode cX11_count 120 = .ok (.iconst 0, 1) := by decide +kernel
theorem dX11_count_121 : decode cX11_count 121 = .ok (.invokevirtual 156, 3) := by decide +kernel
theorem dX11_count_124 : decode cX11_count 124 = .ok (.aload_n 0, 1) := by decide +kernel
theorem dX11_count_125 : decode cX11_count 125 = .ok (.iconst 1, 1) := by decide +kernel
theorem dX11_count_126 : decode cX11_count 126 = .ok (.invokevirtual 170, 3) := by decide +kernel
theorem dX11_count_129 : decode cX11_count 129 = .ok (.iadd, 1) := by decide +kernel
theorem dX11_count_130 : decode cX11_count 130 = .ok (.ireturn, 1) := by decide +kernel
theorem dX11_count_131 : decode cX11_count 131 = .ok (.iconst (-1), 1) := by decide +kernel
theorem dX11_count_132 : decode cX11_count 132 = .ok (.ireturn, 1) := by decide +kernel
