theorem dX11_init_0 : decode cX11_init 0 = .ok (.aload_n 0, 1) := by decide +kernel
theorem dX11_init_1 : decode cX11_init 1 = .ok (.invokespecial 1, 3) := by decide +kernel
theorem dX11_init_4 : decode cX11_init 4 = .ok (.aload_n 0, 1) := by decide +kernel
theorem dX11_init_5 : decode cX11_init 5 = .ok (.new 7, 3) := by decide +kernel
theorem dX11_init_8 : decode cX11_init 8 = .ok (.dup, 1) := by decide +kernel
theorem dX11_init_9 : decode cX11_init 9 = .ok (.invokespecial 9, 3) := by decide +kernel
theorem dX11_init_12 : decode cX11_init 12 = .ok (.putfield 10, 3) := by decide +kernel
theorem dX11_init_15 : decode cX11_init 15 = .ok (.aload_n 0, 1) := by decide +kernel
theorem dX11_init_16 : decode cX11_init 16 = .ok (.new 16, 3) := by decide +kernel
theorem dX11_init_19 : decode cX11_init 19 = .ok (.dup, 1) := by decide +kernel
theorem dX11_init_20 : decode cX11_init 20 = .ok (.invokespecial 18, 3) := by decide +kernel
theorem dX11_init_23 : decode cX11_init 23 = .ok (.putfield 19, 3) := by decide +kernel
theorem dX11_init_26 : decode cX11_init 26 = .ok (.aload_n 0, 1) := by decide +kernel
theorem dX11_init_27 : decode cX11_init 27 = .ok (.new 16, 3) := by decide +kernel
theorem dX11_init_30 : decode cX11_init 30 = .ok (.dup, 1) := by decide +kernel
theorem dX11_init_31 : decode cX11_init 31 = .ok (.invokespecial 18, 3) := by decide +kernel
theorem dX11_init_34 : decode cX11_init 34 = .ok (.putfield 23, 3) := by decide +kernel
theorem dX11_init_37 : decode cX11_init 37 = .ok (.aload_n 0, 1) := by decide +kernel
theorem dX11_init_38 : decode cX11_init 38 = .ok (.new 26, 3) := by decide +kernel
theorem dX11_init_41 : decode cX11_init 41 = .ok (.dup, 1) := by decide +kernel
theorem dX11_init_42 : decode cX11_init 42 = .ok (.invokespecial 28, 3) := by decide +kernel
theorem dX11_init_45 : decode cX11_init 45 = .ok (.putfield 29, 3) := by decide +kernel
theorem dX11_init_48 : decode cX11_init 48 = .ok (.aload_n 0, 1) := by decide +kernel
theorem dX11_init_49 : decode cX11_init 49 = .ok (.new 26, 3) := by decide +kernel
theorem dX11_init_52 : decode cX11_init 52 = .ok (.dup, 1) := by decide +kernel
theorem dX11_init_53 : decode cX11_init 53 = .ok (.invokespecial 28, 3) := by decide +kernel
theorem dX11_init_56 : decode cX11_init 56 = .ok (.putfield 33, 3) := by decide +kernel
theorem dX11_init_59 : decode cX11_init 59 = .ok (.aload_n 0, 1) := by decide +kernel
theorem dX11_init_60 : decode cX11_init 60 = .ok (.new 26, 3) := by decide +kernel
theorem dX11_init_63 : decode cX11_init 63 = .ok (.dup, 1) := by decide +kernel
theorem dX11_init_64 : decode cX11_init 64 = .ok (.invokespecial 28, 3) := by decide +kernel
theorem dX11_init_67 : decode cX11_init 67 = .ok (.putfield 36, 3) := by decide +kernel
theorem dX11_init_70 : decode cX11_init 70 = .ok (.aload_n 0, 1) := by decide +kernel
theorem dX11_init_71 : decode cX11_init 71 = .ok (.new 39, 3) := by decide +kernel
theorem dX11_init_74 : decode cX11_init 74 = .ok (.dup, 1) := by decide +kernel
theorem dX11_init_75 : decode cX11_init 75 = .ok (.invokespecial 41, 3) := by decide +kernel
theorem dX11_init_78 : decode cX11_init 78 = .ok (.putfield 42, 3) := by decide +kernel
theorem dX11_init_81 : decode cX11_init 81 = .ok (.aload_n 0, 1) := by decide +kernel
theorem dX11_init_82 : decode cX11_init 82 = .ok (.new 46, 3) := by decide +kernel
theorem dX11_init_85 : decode cX11_init 85 = .ok (.dup, 1) := by decide +kernel
theorem dX11_init_86 : decode cX11_init 86 = .ok (.invokespecial 48, 3) := by decide +kernel
theorem dX11_init_89 : decode cX11_init 89 = .ok (.putfield 49, 3) := by decide +kernel
theorem dX11_init_92 : decode cX11_init 92 = .ok (.aload_n 0, 1) := by decide +kernel
theorem dX11_init_93 : decode cX11_init 93 = .ok (.new 53, 3) := by decide +kernel
theorem dX11_init_96 : decode cX11_init 96 = .ok (.dup, 1) := by decide +kernel
theorem dX11_init_97 : decode cX11_init 97 = .ok (.invokespecial 55, 3) := by decide +kernel
theorem dX11_init_100 : decode cX11_init 100 = .ok (.putfield 56, 3) := by decide +kernel
theorem dX11_init_103 : decode cX11_init 103 = .ok (.aload_n 0, 1) := by decide +kernel
theorem dX11_init_104 : decode cX11_init 104 = .ok (.new 60, 3) := by decide +kernel
theorem dX11_init_107 : decode cX11_init 107 = .ok (.dup, 1) := by decide +kernel
theorem dX11_init_108 : decode cX11_init 108 = .ok (.invokespecial 62, 3) := by decide +kernel
theorem dX11_init_111 : decode cX11_init 111 = .ok (.putfield 63, 3) := by decide +kernel
theorem dX11_init_114 : decode cX11_init 114 = .ok (.aload_n 0, 1) := by decide +kernel
theorem dX11_init_115 : decode cX11_init 115 = .ok (.new 67, 3) := by decide +kernel
theorem dX11_init_118 : decode cX11_init 118 = .ok (.dup, 1) := by decide +kernel
theorem dX11_init_119 : decode cX11_init 119 = .ok (.invokespecial 69, 3) := by decide +kernel
theorem dX11_init_122 : decode cX11_init 122 = .ok (.putfield 70, 3) := by decide +kernel
theorem dX11_init_125 : decode cX11_init 125 = .ok (.aload_n 0, 1) := by decide +kernel
theorem dX11_init_126 : decode cX11_init 126 = .ok (.iconst (-1), 1) := by decide +kernel
theorem dX11_init_127 : decode cX11_init 127 = .ok (.putfield 74, 3) := by decide +kernel
theorem dX11_init_130 : decode cX11_init 130 = .ok (.aload_n 0, 1) := by decide +kernel
theorem dX11_init_131 : decode cX11_init 131 = .ok (.iconst 0, 1) := by decide +kernel
theorem dX11_init_132 : decode cX11_init 132 = .ok (.putfield 78, 3) := by decide +kernel
theorem dX11_init_135 : decode cX11_init 135 = .ok (.return_, 1) := by decide +kernel
theorem dX11_feed_0 : decode cX11_feed 0 = .ok (.aload_n 0, 1) := by decide +kernel
theorem dX11_feed_1 : decode cX11_feed 1 = .ok (.getfield 10, 3) := by decide +kernel
theorem dX11_feed_4 : decode cX11_feed 4 = .ok (.getfield 82, 3) := by decide +kernel
theorem dX11_feed_7 : decode cX11_feed 7 = .ok (.bipush 20, 2) := by decide +kernel
theorem dX11_feed_9 : decode cX11_feed 9 = .ok (.iadd, 1) := by decide +kernel
theorem dX11_feed_10 : decode cX11_feed 10 = .ok (.sipush 400, 3) := by decide +kernel
theorem dX11_feed_13 : decode cX11_feed 13 = .ok (.if_icmp .le 5, 3) := by decide +kernel
theorem dX11_feed_16 : decode cX11_feed 16 = .ok (.iconst (-1), 1) := by decide +kernel
theorem dX11_feed_17 : decode cX11_feed 17 = .ok (.ireturn, 1) := by decide +kernel
theorem dX11_feed_18 : decode cX11_feed 18 = .ok (.aload_n 0, 1) := by decide +kernel
theorem dX11_feed_19 : decode cX11_feed 19 = .ok (.getfield 10, 3) := by decide +kernel
theorem dX11_feed_22 : decode cX11_feed 22 = .ok (.iload_n 1, 1) := by decide +kernel
theorem dX11_feed_23 : decode cX11_feed 23 = .ok (.invokevirtual 85, 3) := by decide +kernel
theorem dX11_feed_26 : decode cX11_feed 26 = .ok (.aload_n 0, 1) := by decide +kernel
theorem dX11_feed_27 : decode cX11_feed 27 = .ok (.getfield 10, 3) := by decide +kernel
theorem dX11_feed_30 : decode cX11_feed 30 = .ok (.iload_n 2, 1) := by decide +kernel
theorem dX11_feed_31 : decode cX11_feed 31 = .ok (.invokevirtual 85, 3) := by decide +kernel
theorem dX11_feed_34 : decode cX11_feed 34 = .ok (.aload_n 0, 1) := by decide +kernel
theorem dX11_feed_35 : decode cX11_feed 35 = .ok (.getfield 10, 3) := by decide +kernel
theorem dX11_feed_38 : decode cX11_feed 38 = .ok (.iload_n 3, 1) := by decide +kernel
theorem dX11_feed_39 : decode cX11_feed 39 = .ok (.invokevirtual 85, 3) := by decide +kernel
theorem dX11_feed_42 : decode cX11_feed 42 = .ok (.aload_n 0, 1) := by decide +kernel
theorem dX11_feed_43 : decode cX11_feed 43 = .ok (.getfield 10, 3) := by decide +kernel
theorem dX11_feed_46 : decode cX11_feed 46 = .ok (.iload 4, 2) := by decide +kernel
theorem dX11_feed_48 : decode cX11_feed 48 = .ok (.invokevirtual 85, 3) := by decide +kernel
theorem dX11_feed_51 : decode cX11_feed 51 = .ok (.aload_n 0, 1) := by decide +kernel
theorem dX11_feed_52 : decode cX11_feed 52 = .ok (.getfield 10, 3) := by decide +kernel
theorem dX11_feed_55 : decode cX11_feed 55 = .ok (.iload 5, 2) := by decide +kernel
theorem dX11_feed_57 : decode cX11_feed 57 = .ok (.invokevirtual 85, 3) := by decide +kernel
theorem dX11_feed_60 : decode cX11_feed 60 = .ok (.aload_n 0, 1) := by decide +kernel
theorem dX11_feed_61 : decode cX11_feed 61 = .ok (.getfield 10, 3) := by decide +kernel
theorem dX11_feed_64 : decode cX11_feed 64 = .ok (.getfield 82, 3) := by decide +kernel
theorem dX11_feed_67 : decode cX11_feed 67 = .ok (.ireturn, 1) := by decide +kernel
theorem dX11_end_0 : decode cX11_end 0 = .ok (.iload_n 1, 1) := by decide +kernel
theorem dX11_end_1 : decode cX11_end 1 = .ok (.ifCond .lt 14, 3) := by decide +kernel
theorem dX11_end_4 : decode cX11_end 4 = .ok (.iload_n 1, 1) := by decide +kernel
theorem dX11_end_5 : decode cX11_end 5 = .ok (.aload_n 0, 1) := by decide +kernel
theorem dX11_end_6 : decode cX11_end 6 = .ok (.getfield 10, 3) := by decide +kernel
theorem dX11_end_9 : decode cX11_end 9 = .ok (.getfield 82, 3) := by decide +kernel
theorem dX11_end_12 : decode cX11_end 12 = .ok (.if_icmp .le 5, 3) := by decide +kernel
theorem dX11_end_15 : decode cX11_end 15 = .ok (.iconst 0, 1) := by decide +kernel
theorem dX11_end_16 : decode cX11_end 16 = .ok (.ireturn, 1) := by decide +kernel
theorem dX11_end_17 : decode cX11_end 17 = .ok (.aload_n 0, 1) := by decide +kernel
theorem dX11_end_18 : decode cX11_end 18 = .ok (.getfield 10, 3) := by decide +kernel
theorem dX11_end_21 : decode cX11_end 21 = .ok (.iload_n 1, 1) := by decide +kernel
theorem dX11_end_22 : decode cX11_end 22 = .ok (.putfield 82, 3) := by decide +kernel
theorem dX11_end_25 : decode cX11_end 25 = .ok (.iconst 1, 1) := by decide +kernel
theorem dX11_end_26 : decode cX11_end 26 = .ok (.ireturn, 1) := by decide +kernel
theorem dX11_court_0 : decode cX11_court 0 = .ok (.aload_n 0, 1) := by decide +kernel
theorem dX11_court_1 : decode cX11_court 1 = .ok (.getfield 33, 3) := by decide +kernel
theorem dX11_court_4 : decode cX11_court 4 = .ok (.aload_n 0, 1) := by decide +kernel
theorem dX11_court_5 : decode cX11_court 5 = .ok (.getfield 29, 3) := by decide +kernel
theorem dX11_court_8 : decode cX11_court 8 = .ok (.invokevirtual 89, 3) := by decide +kernel
theorem dX11_court_11 : decode cX11_court 11 = .ok (.aload_n 0, 1) := by decide +kernel
theorem dX11_court_12 : decode cX11_court 12 = .ok (.aload_n 0, 1) := by decide +kernel
theorem dX11_court_13 : decode cX11_court 13 = .ok (.getfield 10, 3) := by decide +kernel
theorem dX11_court_16 : decode cX11_court 16 = .ok (.aload_n 0, 1) := by decide +kernel
theorem dX11_court_17 : decode cX11_court 17 = .ok (.getfield 33, 3) := by decide +kernel
theorem dX11_court_20 : decode cX11_court 20 = .ok (.invokestatic 93, 3) := by decide +kernel
theorem dX11_court_23 : decode cX11_court 23 = .ok (.ifCond .eq 7, 3) := by decide +kernel
theorem dX11_court_26 : decode cX11_court 26 = .ok (.iconst (-1), 1) := by decide +kernel
theorem dX11_court_27 : decode cX11_court 27 = .ok (.goto 10, 3) := by decide +kernel
theorem dX11_court_30 : decode cX11_court 30 = .ok (.aload_n 0, 1) := by decide +kernel
theorem dX11_court_31 : decode cX11_court 31 = .ok (.getfield 10, 3) := by decide +kernel
theorem dX11_court_34 : decode cX11_court 34 = .ok (.getfield 99, 3) := by decide +kernel
theorem dX11_court_37 : decode cX11_court 37 = .ok (.putfield 74, 3) := by decide +kernel
theorem dX11_court_40 : decode cX11_court 40 = .ok (.aload_n 0, 1) := by decide +kernel
theorem dX11_court_41 : decode cX11_court 41 = .ok (.getfield 10, 3) := by decide +kernel
theorem dX11_court_44 : decode cX11_court 44 = .ok (.invokevirtual 102, 3) := by decide +kernel
theorem dX11_court_47 : decode cX11_court 47 = .ok (.pop, 1) := by decide +kernel
theorem dX11_court_48 : decode cX11_court 48 = .ok (.aload_n 0, 1) := by decide +kernel
theorem dX11_court_49 : decode cX11_court 49 = .ok (.getfield 74, 3) := by decide +kernel
theorem dX11_court_52 : decode cX11_court 52 = .ok (.iconst (-1), 1) := by decide +kernel
theorem dX11_court_53 : decode cX11_court 53 = .ok (.if_icmp .eq 13, 3) := by decide +kernel
theorem dX11_court_56 : decode cX11_court 56 = .ok (.new 106, 3) := by decide +kernel
theorem dX11_court_59 : decode cX11_court 59 = .ok (.dup, 1) := by decide +kernel
theorem dX11_court_60 : decode cX11_court 60 = .ok (.ldc 108, 2) := by decide +kernel
theorem dX11_court_62 : decode cX11_court 62 = .ok (.invokespecial 110, 3) := by decide +kernel
theorem dX11_court_65 : decode cX11_court 65 = .ok (.athrow, 1) := by decide +kernel
theorem dX11_court_66 : decode cX11_court 66 = .ok (.aload_n 0, 1) := by decide +kernel
theorem dX11_court_67 : decode cX11_court 67 = .ok (.getfield 29, 3) := by decide +kernel
theorem dX11_court_70 : decode cX11_court 70 = .ok (.getfield 113, 3) := by decide +kernel
theorem dX11_court_73 : decode cX11_court 73 = .ok (.bipush 12, 2) := by decide +kernel
theorem dX11_court_75 : decode cX11_court 75 = .ok (.if_icmp .lt 13, 3) := by decide +kernel
theorem dX11_court_78 : decode cX11_court 78 = .ok (.new 116, 3) := by decide +kernel
theorem dX11_court_81 : decode cX11_court 81 = .ok (.dup, 1) := by decide +kernel
theorem dX11_court_82 : decode cX11_court 82 = .ok (.ldc 118, 2) := by decide +kernel
theorem dX11_court_84 : decode cX11_court 84 = .ok (.invokespecial 120, 3) := by decide +kernel
theorem dX11_court_87 : decode cX11_court 87 = .ok (.athrow, 1) := by decide +kernel
theorem dX11_court_88 : decode cX11_court 88 = .ok (.aload_n 0, 1) := by decide +kernel
theorem dX11_court_89 : decode cX11_court 89 = .ok (.getfield 29, 3) := by decide +kernel
theorem dX11_court_92 : decode cX11_court 92 = .ok (.aload_n 0, 1) := by decide +kernel
theorem dX11_court_93 : decode cX11_court 93 = .ok (.getfield 33, 3) := by decide +kernel
theorem dX11_court_96 : decode cX11_court 96 = .ok (.invokevirtual 89, 3) := by decide +kernel
theorem dX11_court_99 : decode cX11_court 99 = .ok (.aload_n 0, 1) := by decide +kernel
theorem dX11_court_100 : decode cX11_court 100 = .ok (.getfield 29, 3) := by decide +kernel
theorem dX11_court_103 : decode cX11_court 103 = .ok (.dup, 1) := by decide +kernel
theorem dX11_court_104 : decode cX11_court 104 = .ok (.getfield 113, 3) := by decide +kernel
theorem dX11_court_107 : decode cX11_court 107 = .ok (.iconst 1, 1) := by decide +kernel
theorem dX11_court_108 : decode cX11_court 108 = .ok (.iadd, 1) := by decide +kernel
theorem dX11_court_109 : decode cX11_court 109 = .ok (.putfield 113, 3) := by decide +kernel
theorem dX11_court_112 : decode cX11_court 112 = .ok (.aload_n 0, 1) := by decide +kernel
theorem dX11_court_113 : decode cX11_court 113 = .ok (.getfield 42, 3) := by decide +kernel
theorem dX11_court_116 : decode cX11_court 116 = .ok (.invokevirtual 121, 3) := by decide +kernel
theorem dX11_court_119 : decode cX11_court 119 = .ok (.aload_n 0, 1) := by decide +kernel
theorem dX11_court_120 : decode cX11_court 120 = .ok (.getfield 29, 3) := by decide +kernel
theorem dX11_court_123 : decode cX11_court 123 = .ok (.getfield 113, 3) := by decide +kernel
theorem dX11_court_126 : decode cX11_court 126 = .ok (.ireturn, 1) := by decide +kernel
theorem dX11_law_0 : decode cX11_law 0 = .ok (.aload_n 0, 1) := by decide +kernel
theorem dX11_law_1 : decode cX11_law 1 = .ok (.aload_n 0, 1) := by decide +kernel
theorem dX11_law_2 : decode cX11_law 2 = .ok (.getfield 19, 3) := by decide +kernel
theorem dX11_law_5 : decode cX11_law 5 = .ok (.aload_n 0, 1) := by decide +kernel
theorem dX11_law_6 : decode cX11_law 6 = .ok (.getfield 10, 3) := by decide +kernel
theorem dX11_law_9 : decode cX11_law 9 = .ok (.invokevirtual 124, 3) := by decide +kernel
theorem dX11_law_12 : decode cX11_law 12 = .ok (.ifCond .eq 7, 3) := by decide +kernel
theorem dX11_law_15 : decode cX11_law 15 = .ok (.iconst (-1), 1) := by decide +kernel
theorem dX11_law_16 : decode cX11_law 16 = .ok (.goto 10, 3) := by decide +kernel
theorem dX11_law_19 : decode cX11_law 19 = .ok (.aload_n 0, 1) := by decide +kernel
theorem dX11_law_20 : decode cX11_law 20 = .ok (.getfield 10, 3) := by decide +kernel
theorem dX11_law_23 : decode cX11_law 23 = .ok (.getfield 99, 3) := by decide +kernel
theorem dX11_law_26 : decode cX11_law 26 = .ok (.putfield 74, 3) := by decide +kernel
theorem dX11_law_29 : decode cX11_law 29 = .ok (.aload_n 0, 1) := by decide +kernel
theorem dX11_law_30 : decode cX11_law 30 = .ok (.getfield 10, 3) := by decide +kernel
theorem dX11_law_33 : decode cX11_law 33 = .ok (.invokevirtual 102, 3) := by decide +kernel
theorem dX11_law_36 : decode cX11_law 36 = .ok (.pop, 1) := by decide +kernel
theorem dX11_law_37 : decode cX11_law 37 = .ok (.aload_n 0, 1) := by decide +kernel
theorem dX11_law_38 : decode cX11_law 38 = .ok (.getfield 74, 3) := by decide +kernel
theorem dX11_law_41 : decode cX11_law 41 = .ok (.iconst (-1), 1) := by decide +kernel
theorem dX11_law_42 : decode cX11_law 42 = .ok (.if_icmp .eq 13, 3) := by decide +kernel
theorem dX11_law_45 : decode cX11_law 45 = .ok (.new 106, 3) := by decide +kernel
theorem dX11_law_48 : decode cX11_law 48 = .ok (.dup, 1) := by decide +kernel
theorem dX11_law_49 : decode cX11_law 49 = .ok (.ldc 108, 2) := by decide +kernel
theorem dX11_law_51 : decode cX11_law 51 = .ok (.invokespecial 110, 3) := by decide +kernel
theorem dX11_law_54 : decode cX11_law 54 = .ok (.athrow, 1) := by decide +kernel
theorem dX11_law_55 : decode cX11_law 55 = .ok (.aload_n 0, 1) := by decide +kernel
theorem dX11_law_56 : decode cX11_law 56 = .ok (.getfield 49, 3) := by decide +kernel
theorem dX11_law_59 : decode cX11_law 59 = .ok (.getfield 127, 3) := by decide +kernel
theorem dX11_law_62 : decode cX11_law 62 = .ok (.aload_n 0, 1) := by decide +kernel
theorem dX11_law_63 : decode cX11_law 63 = .ok (.getfield 19, 3) := by decide +kernel
theorem dX11_law_66 : decode cX11_law 66 = .ok (.invokevirtual 130, 3) := by decide +kernel
theorem dX11_law_69 : decode cX11_law 69 = .ok (.aload_n 0, 1) := by decide +kernel
theorem dX11_law_70 : decode cX11_law 70 = .ok (.getfield 42, 3) := by decide +kernel
theorem dX11_law_73 : decode cX11_law 73 = .ok (.invokevirtual 121, 3) := by decide +kernel
theorem dX11_law_76 : decode cX11_law 76 = .ok (.aload_n 0, 1) := by decide +kernel
theorem dX11_law_77 : decode cX11_law 77 = .ok (.getfield 49, 3) := by decide +kernel
theorem dX11_law_80 : decode cX11_law 80 = .ok (.getfield 127, 3) := by decide +kernel
theorem dX11_law_83 : decode cX11_law 83 = .ok (.getfield 133, 3) := by decide +kernel
theorem dX11_law_86 : decode cX11_law 86 = .ok (.ireturn, 1) := by decide +kernel
theorem dX11_fault_0 : decode cX11_fault 0 = .ok (.aload_n 0, 1) := by decide +kernel
theorem dX11_fault_1 : decode cX11_fault 1 = .ok (.getfield 74, 3) := by decide +kernel
theorem dX11_fault_4 : decode cX11_fault 4 = .ok (.ireturn, 1) := by decide +kernel
theorem dX11_witness_0 : decode cX11_witness 0 = .ok (.aload_n 0, 1) := by decide +kernel
theorem dX11_witness_1 : decode cX11_witness 1 = .ok (.iload_n 1, 1) := by decide +kernel
theorem dX11_witness_2 : decode cX11_witness 2 = .ok (.invokevirtual 136, 3) := by decide +kernel
theorem dX11_witness_5 : decode cX11_witness 5 = .ok (.aload_n 0, 1) := by decide +kernel
theorem dX11_witness_6 : decode cX11_witness 6 = .ok (.getfield 29, 3) := by decide +kernel
theorem dX11_witness_9 : decode cX11_witness 9 = .ok (.getfield 139, 3) := by decide +kernel
theorem dX11_witness_12 : decode cX11_witness 12 = .ok (.astore_n 3, 1) := by decide +kernel
theorem dX11_witness_13 : decode cX11_witness 13 = .ok (.iload_n 2, 1) := by decide +kernel
theorem dX11_witness_14 : decode cX11_witness 14 = .ok (.tableswitch 119 0 8 #[50, 57, 64, 71, 78, 85, 98, 104, 113], 50) := by decide +kernel
theorem dX11_witness_64 : decode cX11_witness 64 = .ok (.aload_n 3, 1) := by decide +kernel
theorem dX11_witness_65 : decode cX11_witness 65 = .ok (.getfield 143, 3) := by decide +kernel
theorem dX11_witness_68 : decode cX11_witness 68 = .ok (.iload_n 1, 1) := by decide +kernel
theorem dX11_witness_69 : decode cX11_witness 69 = .ok (.iaload, 1) := by decide +kernel
theorem dX11_witness_70 : decode cX11_witness 70 = .ok (.ireturn, 1) := by decide +kernel
theorem dX11_witness_71 : decode cX11_witness 71 = .ok (.aload_n 3, 1) := by decide +kernel
theorem dX11_witness_72 : decode cX11_witness 72 = .ok (.getfield 149, 3) := by decide +kernel
theorem dX11_witness_75 : decode cX11_witness 75 = .ok (.iload_n 1, 1) := by decide +kernel
theorem dX11_witness_76 : decode cX11_witness 76 = .ok (.iaload, 1) := by decide +kernel
theorem dX11_witness_77 : decode cX11_witness 77 = .ok (.ireturn, 1) := by decide +kernel
theorem dX11_witness_78 : decode cX11_witness 78 = .ok (.aload_n 3, 1) := by decide +kernel
theorem dX11_witness_79 : decode cX11_witness 79 = .ok (.getfield 152, 3) := by decide +kernel
theorem dX11_witness_82 : decode cX11_witness 82 = .ok (.iload_n 1, 1) := by decide +kernel
theorem dX11_witness_83 : decode cX11_witness 83 = .ok (.iaload, 1) := by decide +kernel
theorem dX11_witness_84 : decode cX11_witness 84 = .ok (.ireturn, 1) := by decide +kernel
theorem dX11_witness_85 : decode cX11_witness 85 = .ok (.aload_n 3, 1) := by decide +kernel
theorem dX11_witness_86 : decode cX11_witness 86 = .ok (.getfield 155, 3) := by decide +kernel
theorem dX11_witness_89 : decode cX11_witness 89 = .ok (.iload_n 1, 1) := by decide +kernel
theorem dX11_witness_90 : decode cX11_witness 90 = .ok (.iaload, 1) := by decide +kernel
theorem dX11_witness_91 : decode cX11_witness 91 = .ok (.ireturn, 1) := by decide +kernel
theorem dX11_witness_92 : decode cX11_witness 92 = .ok (.aload_n 3, 1) := by decide +kernel
theorem dX11_witness_93 : decode cX11_witness 93 = .ok (.getfield 158, 3) := by decide +kernel
theorem dX11_witness_96 : decode cX11_witness 96 = .ok (.iload_n 1, 1) := by decide +kernel
theorem dX11_witness_97 : decode cX11_witness 97 = .ok (.iaload, 1) := by decide +kernel
theorem dX11_witness_98 : decode cX11_witness 98 = .ok (.ireturn, 1) := by decide +kernel
theorem dX11_witness_99 : decode cX11_witness 99 = .ok (.aload_n 0, 1) := by decide +kernel
theorem dX11_witness_100 : decode cX11_witness 100 = .ok (.getfield 49, 3) := by decide +kernel
theorem dX11_witness_103 : decode cX11_witness 103 = .ok (.aload_n 0, 1) := by decide +kernel
theorem dX11_witness_104 : decode cX11_witness 104 = .ok (.getfield 29, 3) := by decide +kernel
theorem dX11_witness_107 : decode cX11_witness 107 = .ok (.iload_n 1, 1) := by decide +kernel
theorem dX11_witness_108 : decode cX11_witness 108 = .ok (.invokevirtual 161, 3) := by decide +kernel
theorem dX11_witness_111 : decode cX11_witness 111 = .ok (.ireturn, 1) := by decide +kernel
theorem dX11_witness_112 : decode cX11_witness 112 = .ok (.aload_n 0, 1) := by decide +kernel
theorem dX11_witness_113 : decode cX11_witness 113 = .ok (.iload_n 1, 1) := by decide +kernel
theorem dX11_witness_114 : decode cX11_witness 114 = .ok (.invokevirtual 165, 3) := by decide +kernel
theorem dX11_witness_117 : decode cX11_witness 117 = .ok (.ireturn, 1) := by decide +kernel
theorem dX11_witness_118 : decode cX11_witness 118 = .ok (.aload_n 0, 1) := by decide +kernel
theorem dX11_witness_119 : decode cX11_witness 119 = .ok (.getfield 29, 3) := by decide +kernel
theorem dX11_witness_122 : decode cX11_witness 122 = .ok (.iload_n 1, 1) := by decide +kernel
theorem dX11_witness_123 : decode cX11_witness 123 = .ok (.invokevirtual 169, 3) := by decide +kernel
theorem dX11_witness_126 : decode cX11_witness 126 = .ok (.ireturn, 1) := by decide +kernel
theorem dX11_witness_127 : decode cX11_witness 127 = .ok (.aload_n 0, 1) := by decide +kernel
theorem dX11_witness_128 : decode cX11_witness 128 = .ok (.iload_n 1, 1) := by decide +kernel
theorem dX11_witness_129 : decode cX11_witness 129 = .ok (.invokevirtual 172, 3) := by decide +kernel
theorem dX11_witness_132 : decode cX11_witness 132 = .ok (.ireturn, 1) := by decide +kernel
theorem dX11_witness_133 : decode cX11_witness 133 = .ok (.new 175, 3) := by decide +kernel
theorem dX11_witness_136 : decode cX11_witness 136 = .ok (.dup, 1) := by decide +kernel
theorem dX11_witness_137 : decode cX11_witness 137 = .ok (.ldc 177, 2) := by decide +kernel
theorem dX11_witness_139 : decode cX11_witness 139 = .ok (.invokespecial 179, 3) := by decide +kernel
theorem dX11_witness_142 : decode cX11_witness 142 = .ok (.athrow, 1) := by decide +kernel
theorem dX11_thing_0 : decode cX11_thing 0 = .ok (.aload_n 0, 1) := by decide +kernel
theorem dX11_thing_1 : decode cX11_thing 1 = .ok (.iload_n 1, 1) := by decide +kernel
theorem dX11_thing_2 : decode cX11_thing 2 = .ok (.invokevirtual 180, 3) := by decide +kernel
theorem dX11_thing_5 : decode cX11_thing 5 = .ok (.iload_n 2, 1) := by decide +kernel
theorem dX11_thing_6 : decode cX11_thing 6 = .ok (.tableswitch 92 0 4 #[34, 44, 54, 66, 75], 34) := by decide +kernel
theorem dX11_thing_40 : decode cX11_thing 40 = .ok (.aload_n 0, 1) := by decide +kernel
theorem dX11_thing_41 : decode cX11_thing 41 = .ok (.getfield 29, 3) := by decide +kernel
theorem dX11_thing_44 : decode cX11_thing 44 = .ok (.getfield 183, 3) := by decide +kernel
theorem dX11_thing_47 : decode cX11_thing 47 = .ok (.iload_n 1, 1) := by decide +kernel
theorem dX11_thing_48 : decode cX11_thing 48 = .ok (.iaload, 1) := by decide +kernel
theorem dX11_thing_49 : decode cX11_thing 49 = .ok (.ireturn, 1) := by decide +kernel
theorem dX11_thing_50 : decode cX11_thing 50 = .ok (.aload_n 0, 1) := by decide +kernel
theorem dX11_thing_51 : decode cX11_thing 51 = .ok (.getfield 29, 3) := by decide +kernel
theorem dX11_thing_54 : decode cX11_thing 54 = .ok (.getfield 186, 3) := by decide +kernel
theorem dX11_thing_57 : decode cX11_thing 57 = .ok (.iload_n 1, 1) := by decide +kernel
theorem dX11_thing_58 : decode cX11_thing 58 = .ok (.iaload, 1) := by decide +kernel
theorem dX11_thing_59 : decode cX11_thing 59 = .ok (.ireturn, 1) := by decide +kernel
theorem dX11_thing_60 : decode cX11_thing 60 = .ok (.aload_n 0, 1) := by decide +kernel
theorem dX11_thing_61 : decode cX11_thing 61 = .ok (.getfield 29, 3) := by decide +kernel
theorem dX11_thing_64 : decode cX11_thing 64 = .ok (.getfield 189, 3) := by decide +kernel
theorem dX11_thing_67 : decode cX11_thing 67 = .ok (.iload_n 1, 1) := by decide +kernel
theorem dX11_thing_68 : decode cX11_thing 68 = .ok (.ishr, 1) := by decide +kernel
theorem dX11_thing_69 : decode cX11_thing 69 = .ok (.iconst 1, 1) := by decide +kernel
theorem dX11_thing_70 : decode cX11_thing 70 = .ok (.iand, 1) := by decide +kernel
theorem dX11_thing_71 : decode cX11_thing 71 = .ok (.ireturn, 1) := by decide +kernel
theorem dX11_thing_72 : decode cX11_thing 72 = .ok (.aload_n 0, 1) := by decide +kernel
theorem dX11_thing_73 : decode cX11_thing 73 = .ok (.getfield 29, 3) := by decide +kernel
theorem dX11_thing_76 : decode cX11_thing 76 = .ok (.iload_n 1, 1) := by decide +kernel
theorem dX11_thing_77 : decode cX11_thing 77 = .ok (.invokevirtual 192, 3) := by decide +kernel
theorem dX11_thing_80 : decode cX11_thing 80 = .ok (.ireturn, 1) := by decide +kernel
theorem dX11_thing_81 : decode cX11_thing 81 = .ok (.aload_n 0, 1) := by decide +kernel
theorem dX11_thing_82 : decode cX11_thing 82 = .ok (.getfield 56, 3) := by decide +kernel
theorem dX11_thing_85 : decode cX11_thing 85 = .ok (.aload_n 0, 1) := by decide +kernel
theorem dX11_thing_86 : decode cX11_thing 86 = .ok (.getfield 49, 3) := by decide +kernel
theorem dX11_thing_89 : decode cX11_thing 89 = .ok (.aload_n 0, 1) := by decide +kernel
theorem dX11_thing_90 : decode cX11_thing 90 = .ok (.getfield 29, 3) := by decide +kernel
theorem dX11_thing_93 : decode cX11_thing 93 = .ok (.iload_n 1, 1) := by decide +kernel
theorem dX11_thing_94 : decode cX11_thing 94 = .ok (.invokevirtual 195, 3) := by decide +kernel
theorem dX11_thing_97 : decode cX11_thing 97 = .ok (.ireturn, 1) := by decide +kernel
theorem dX11_thing_98 : decode cX11_thing 98 = .ok (.new 175, 3) := by decide +kernel
theorem dX11_thing_101 : decode cX11_thing 101 = .ok (.dup, 1) := by decide +kernel
theorem dX11_thing_102 : decode cX11_thing 102 = .ok (.ldc 199, 2) := by decide +kernel
theorem dX11_thing_104 : decode cX11_thing 104 = .ok (.invokespecial 179, 3) := by decide +kernel
theorem dX11_thing_107 : decode cX11_thing 107 = .ok (.athrow, 1) := by decide +kernel
theorem dX11_asks_0 : decode cX11_asks 0 = .ok (.aload_n 0, 1) := by decide +kernel
theorem dX11_asks_1 : decode cX11_asks 1 = .ok (.iload_n 1, 1) := by decide +kernel
theorem dX11_asks_2 : decode cX11_asks 2 = .ok (.invokevirtual 201, 3) := by decide +kernel
theorem dX11_asks_5 : decode cX11_asks 5 = .ok (.aload_n 0, 1) := by decide +kernel
theorem dX11_asks_6 : decode cX11_asks 6 = .ok (.getfield 29, 3) := by decide +kernel
theorem dX11_asks_9 : decode cX11_asks 9 = .ok (.getfield 204, 3) := by decide +kernel
theorem dX11_asks_12 : decode cX11_asks 12 = .ok (.iload_n 1, 1) := by decide +kernel
theorem dX11_asks_13 : decode cX11_asks 13 = .ok (.iaload, 1) := by decide +kernel
theorem dX11_asks_14 : decode cX11_asks 14 = .ok (.ireturn, 1) := by decide +kernel
theorem dX11_sharp_0 : decode cX11_sharp 0 = .ok (.aload_n 0, 1) := by decide +kernel
theorem dX11_sharp_1 : decode cX11_sharp 1 = .ok (.iload_n 1, 1) := by decide +kernel
theorem dX11_sharp_2 : decode cX11_sharp 2 = .ok (.invokevirtual 207, 3) := by decide +kernel
theorem dX11_sharp_5 : decode cX11_sharp 5 = .ok (.aload_n 0, 1) := by decide +kernel
theorem dX11_sharp_6 : decode cX11_sharp 6 = .ok (.getfield 29, 3) := by decide +kernel
theorem dX11_sharp_9 : decode cX11_sharp 9 = .ok (.getfield 210, 3) := by decide +kernel
theorem dX11_sharp_12 : decode cX11_sharp 12 = .ok (.iload_n 1, 1) := by decide +kernel
theorem dX11_sharp_13 : decode cX11_sharp 13 = .ok (.iaload, 1) := by decide +kernel
theorem dX11_sharp_14 : decode cX11_sharp 14 = .ok (.ireturn, 1) := by decide +kernel
theorem dX11_stands_0 : decode cX11_stands 0 = .ok (.aload_n 0, 1) := by decide +kernel
theorem dX11_stands_1 : decode cX11_stands 1 = .ok (.iload_n 1, 1) := by decide +kernel
theorem dX11_stands_2 : decode cX11_stands 2 = .ok (.invokevirtual 213, 3) := by decide +kernel
theorem dX11_stands_5 : decode cX11_stands 5 = .ok (.aload_n 0, 1) := by decide +kernel
theorem dX11_stands_6 : decode cX11_stands 6 = .ok (.getfield 29, 3) := by decide +kernel
theorem dX11_stands_9 : decode cX11_stands 9 = .ok (.getfield 139, 3) := by decide +kernel
theorem dX11_stands_12 : decode cX11_stands 12 = .ok (.getfield 216, 3) := by decide +kernel
theorem dX11_stands_15 : decode cX11_stands 15 = .ok (.iload_n 1, 1) := by decide +kernel
theorem dX11_stands_16 : decode cX11_stands 16 = .ok (.iaload, 1) := by decide +kernel
theorem dX11_stands_17 : decode cX11_stands 17 = .ok (.ireturn, 1) := by decide +kernel
theorem dX11_moments_0 : decode cX11_moments 0 = .ok (.iload_n 1, 1) := by decide +kernel
theorem dX11_moments_1 : decode cX11_moments 1 = .ok (.iconst 1, 1) := by decide +kernel
theorem dX11_moments_2 : decode cX11_moments 2 = .ok (.if_icmp .lt 9, 3) := by decide +kernel
theorem dX11_moments_5 : decode cX11_moments 5 = .ok (.iload_n 1, 1) := by decide +kernel
theorem dX11_moments_6 : decode cX11_moments 6 = .ok (.bipush 60, 2) := by decide +kernel
theorem dX11_moments_8 : decode cX11_moments 8 = .ok (.if_icmp .le 13, 3) := by decide +kernel
theorem dX11_moments_11 : decode cX11_moments 11 = .ok (.new 106, 3) := by decide +kernel
theorem dX11_moments_14 : decode cX11_moments 14 = .ok (.dup, 1) := by decide +kernel
theorem dX11_moments_15 : decode cX11_moments 15 = .ok (.ldc 219, 2) := by decide +kernel
theorem dX11_moments_17 : decode cX11_moments 17 = .ok (.invokespecial 110, 3) := by decide +kernel
theorem dX11_moments_20 : decode cX11_moments 20 = .ok (.athrow, 1) := by decide +kernel
theorem dX11_moments_21 : decode cX11_moments 21 = .ok (.aload_n 0, 1) := by decide +kernel
theorem dX11_moments_22 : decode cX11_moments 22 = .ok (.getfield 42, 3) := by decide +kernel
theorem dX11_moments_25 : decode cX11_moments 25 = .ok (.aload_n 0, 1) := by decide +kernel
theorem dX11_moments_26 : decode cX11_moments 26 = .ok (.getfield 29, 3) := by decide +kernel
theorem dX11_moments_29 : decode cX11_moments 29 = .ok (.invokevirtual 221, 3) := by decide +kernel
theorem dX11_moments_32 : decode cX11_moments 32 = .ok (.aload_n 0, 1) := by decide +kernel
theorem dX11_moments_33 : decode cX11_moments 33 = .ok (.getfield 49, 3) := by decide +kernel
theorem dX11_moments_36 : decode cX11_moments 36 = .ok (.aload_n 0, 1) := by decide +kernel
theorem dX11_moments_37 : decode cX11_moments 37 = .ok (.getfield 29, 3) := by decide +kernel
theorem dX11_moments_40 : decode cX11_moments 40 = .ok (.iload_n 1, 1) := by decide +kernel
theorem dX11_moments_41 : decode cX11_moments 41 = .ok (.invokevirtual 224, 3) := by decide +kernel
theorem dX11_moments_44 : decode cX11_moments 44 = .ok (.ireturn, 1) := by decide +kernel
theorem dX11_say_0 : decode cX11_say 0 = .ok (.aload_n 0, 1) := by decide +kernel
theorem dX11_say_1 : decode cX11_say 1 = .ok (.iload_n 1, 1) := by decide +kernel
theorem dX11_say_2 : decode cX11_say 2 = .ok (.invokevirtual 201, 3) := by decide +kernel
theorem dX11_say_5 : decode cX11_say 5 = .ok (.aload_n 0, 1) := by decide +kernel
theorem dX11_say_6 : decode cX11_say 6 = .ok (.getfield 42, 3) := by decide +kernel
theorem dX11_say_9 : decode cX11_say 9 = .ok (.aload_n 0, 1) := by decide +kernel
theorem dX11_say_10 : decode cX11_say 10 = .ok (.getfield 29, 3) := by decide +kernel
theorem dX11_say_13 : decode cX11_say 13 = .ok (.invokevirtual 221, 3) := by decide +kernel
theorem dX11_say_16 : decode cX11_say 16 = .ok (.aload_n 0, 1) := by decide +kernel
theorem dX11_say_17 : decode cX11_say 17 = .ok (.getfield 49, 3) := by decide +kernel
theorem dX11_say_20 : decode cX11_say 20 = .ok (.aload_n 0, 1) := by decide +kernel
theorem dX11_say_21 : decode cX11_say 21 = .ok (.getfield 29, 3) := by decide +kernel
theorem dX11_say_24 : decode cX11_say 24 = .ok (.iload_n 1, 1) := by decide +kernel
theorem dX11_say_25 : decode cX11_say 25 = .ok (.iconst 0, 1) := by decide +kernel
theorem dX11_say_26 : decode cX11_say 26 = .ok (.invokevirtual 227, 3) := by decide +kernel
theorem dX11_say_29 : decode cX11_say 29 = .ok (.ireturn, 1) := by decide +kernel
theorem dX11_change_0 : decode cX11_change 0 = .ok (.aload_n 0, 1) := by decide +kernel
theorem dX11_change_1 : decode cX11_change 1 = .ok (.iload_n 1, 1) := by decide +kernel
theorem dX11_change_2 : decode cX11_change 2 = .ok (.iload_n 2, 1) := by decide +kernel
theorem dX11_change_3 : decode cX11_change 3 = .ok (.invokevirtual 231, 3) := by decide +kernel
theorem dX11_change_6 : decode cX11_change 6 = .ok (.aload_n 0, 1) := by decide +kernel
theorem dX11_change_7 : decode cX11_change 7 = .ok (.getfield 42, 3) := by decide +kernel
theorem dX11_change_10 : decode cX11_change 10 = .ok (.aload_n 0, 1) := by decide +kernel
theorem dX11_change_11 : decode cX11_change 11 = .ok (.getfield 29, 3) := by decide +kernel
theorem dX11_change_14 : decode cX11_change 14 = .ok (.invokevirtual 221, 3) := by decide +kernel
theorem dX11_change_17 : decode cX11_change 17 = .ok (.aload_n 0, 1) := by decide +kernel
theorem dX11_change_18 : decode cX11_change 18 = .ok (.getfield 29, 3) := by decide +kernel
theorem dX11_change_21 : decode cX11_change 21 = .ok (.getfield 139, 3) := by decide +kernel
theorem dX11_change_24 : decode cX11_change 24 = .ok (.iload_n 1, 1) := by decide +kernel
theorem dX11_change_25 : decode cX11_change 25 = .ok (.iload_n 2, 1) := by decide +kernel
theorem dX11_change_26 : decode cX11_change 26 = .ok (.invokevirtual 235, 3) := by decide +kernel
theorem dX11_change_29 : decode cX11_change 29 = .ok (.aload_n 0, 1) := by decide +kernel
theorem dX11_change_30 : decode cX11_change 30 = .ok (.getfield 29, 3) := by decide +kernel
theorem dX11_change_33 : decode cX11_change 33 = .ok (.getfield 139, 3) := by decide +kernel
theorem dX11_change_36 : decode cX11_change 36 = .ok (.getfield 158, 3) := by decide +kernel
theorem dX11_change_39 : decode cX11_change 39 = .ok (.iload_n 1, 1) := by decide +kernel
theorem dX11_change_40 : decode cX11_change 40 = .ok (.iaload, 1) := by decide +kernel
theorem dX11_change_41 : decode cX11_change 41 = .ok (.ireturn, 1) := by decide +kernel
theorem dX11_drink_0 : decode cX11_drink 0 = .ok (.aload_n 0, 1) := by decide +kernel
theorem dX11_drink_1 : decode cX11_drink 1 = .ok (.iload_n 1, 1) := by decide +kernel
theorem dX11_drink_2 : decode cX11_drink 2 = .ok (.invokevirtual 136, 3) := by decide +kernel
theorem dX11_drink_5 : decode cX11_drink 5 = .ok (.iload_n 2, 1) := by decide +kernel
theorem dX11_drink_6 : decode cX11_drink 6 = .ok (.iconst 1, 1) := by decide +kernel
theorem dX11_drink_7 : decode cX11_drink 7 = .ok (.if_icmp .lt 9, 3) := by decide +kernel
theorem dX11_drink_10 : decode cX11_drink 10 = .ok (.iload_n 2, 1) := by decide +kernel
theorem dX11_drink_11 : decode cX11_drink 11 = .ok (.bipush 99, 2) := by decide +kernel
theorem dX11_drink_13 : decode cX11_drink 13 = .ok (.if_icmp .le 13, 3) := by decide +kernel
theorem dX11_drink_16 : decode cX11_drink 16 = .ok (.new 106, 3) := by decide +kernel
theorem dX11_drink_19 : decode cX11_drink 19 = .ok (.dup, 1) := by decide +kernel
theorem dX11_drink_20 : decode cX11_drink 20 = .ok (.ldc 238, 2) := by decide +kernel
theorem dX11_drink_22 : decode cX11_drink 22 = .ok (.invokespecial 110, 3) := by decide +kernel
theorem dX11_drink_25 : decode cX11_drink 25 = .ok (.athrow, 1) := by decide +kernel
theorem dX11_drink_26 : decode cX11_drink 26 = .ok (.aload_n 0, 1) := by decide +kernel
theorem dX11_drink_27 : decode cX11_drink 27 = .ok (.getfield 42, 3) := by decide +kernel
theorem dX11_drink_30 : decode cX11_drink 30 = .ok (.aload_n 0, 1) := by decide +kernel
theorem dX11_drink_31 : decode cX11_drink 31 = .ok (.getfield 29, 3) := by decide +kernel
theorem dX11_drink_34 : decode cX11_drink 34 = .ok (.invokevirtual 221, 3) := by decide +kernel
theorem dX11_drink_37 : decode cX11_drink 37 = .ok (.aload_n 0, 1) := by decide +kernel
theorem dX11_drink_38 : decode cX11_drink 38 = .ok (.getfield 29, 3) := by decide +kernel
theorem dX11_drink_41 : decode cX11_drink 41 = .ok (.getfield 139, 3) := by decide +kernel
theorem dX11_drink_44 : decode cX11_drink 44 = .ok (.getfield 152, 3) := by decide +kernel
theorem dX11_drink_47 : decode cX11_drink 47 = .ok (.iload_n 1, 1) := by decide +kernel
theorem dX11_drink_48 : decode cX11_drink 48 = .ok (.bipush 99, 2) := by decide +kernel
theorem dX11_drink_50 : decode cX11_drink 50 = .ok (.aload_n 0, 1) := by decide +kernel
theorem dX11_drink_51 : decode cX11_drink 51 = .ok (.getfield 29, 3) := by decide +kernel
theorem dX11_drink_54 : decode cX11_drink 54 = .ok (.getfield 139, 3) := by decide +kernel
theorem dX11_drink_57 : decode cX11_drink 57 = .ok (.getfield 152, 3) := by decide +kernel
theorem dX11_drink_60 : decode cX11_drink 60 = .ok (.iload_n 1, 1) := by decide +kernel
theorem dX11_drink_61 : decode cX11_drink 61 = .ok (.iaload, 1) := by decide +kernel
theorem dX11_drink_62 : decode cX11_drink 62 = .ok (.iload_n 2, 1) := by decide +kernel
theorem dX11_drink_63 : decode cX11_drink 63 = .ok (.iadd, 1) := by decide +kernel
theorem dX11_drink_64 : decode cX11_drink 64 = .ok (.invokestatic 240, 3) := by decide +kernel
theorem dX11_drink_67 : decode cX11_drink 67 = .ok (.iastore, 1) := by decide +kernel
theorem dX11_drink_68 : decode cX11_drink 68 = .ok (.aload_n 0, 1) := by decide +kernel
theorem dX11_drink_69 : decode cX11_drink 69 = .ok (.getfield 29, 3) := by decide +kernel
theorem dX11_drink_72 : decode cX11_drink 72 = .ok (.getfield 139, 3) := by decide +kernel
theorem dX11_drink_75 : decode cX11_drink 75 = .ok (.getfield 152, 3) := by decide +kernel
theorem dX11_drink_78 : decode cX11_drink 78 = .ok (.iload_n 1, 1) := by decide +kernel
theorem dX11_drink_79 : decode cX11_drink 79 = .ok (.iaload, 1) := by decide +kernel
theorem dX11_drink_80 : decode cX11_drink 80 = .ok (.ireturn, 1) := by decide +kernel
theorem dX11_heat_0 : decode cX11_heat 0 = .ok (.iload_n 1, 1) := by decide +kernel
theorem dX11_heat_1 : decode cX11_heat 1 = .ok (.ifCond .lt 9, 3) := by decide +kernel
theorem dX11_heat_4 : decode cX11_heat 4 = .ok (.iload_n 1, 1) := by decide +kernel
theorem dX11_heat_5 : decode cX11_heat 5 = .ok (.bipush 9, 2) := by decide +kernel
theorem dX11_heat_7 : decode cX11_heat 7 = .ok (.if_icmp .le 13, 3) := by decide +kernel
theorem dX11_heat_10 : decode cX11_heat 10 = .ok (.new 106, 3) := by decide +kernel
theorem dX11_heat_13 : decode cX11_heat 13 = .ok (.dup, 1) := by decide +kernel
theorem dX11_heat_14 : decode cX11_heat 14 = .ok (.ldc 246, 2) := by decide +kernel
theorem dX11_heat_16 : decode cX11_heat 16 = .ok (.invokespecial 110, 3) := by decide +kernel
theorem dX11_heat_19 : decode cX11_heat 19 = .ok (.athrow, 1) := by decide +kernel
theorem dX11_heat_20 : decode cX11_heat 20 = .ok (.aload_n 0, 1) := by decide +kernel
theorem dX11_heat_21 : decode cX11_heat 21 = .ok (.getfield 42, 3) := by decide +kernel
theorem dX11_heat_24 : decode cX11_heat 24 = .ok (.aload_n 0, 1) := by decide +kernel
theorem dX11_heat_25 : decode cX11_heat 25 = .ok (.getfield 29, 3) := by decide +kernel
theorem dX11_heat_28 : decode cX11_heat 28 = .ok (.invokevirtual 221, 3) := by decide +kernel
theorem dX11_heat_31 : decode cX11_heat 31 = .ok (.aload_n 0, 1) := by decide +kernel
theorem dX11_heat_32 : decode cX11_heat 32 = .ok (.getfield 29, 3) := by decide +kernel
theorem dX11_heat_35 : decode cX11_heat 35 = .ok (.getfield 248, 3) := by decide +kernel
theorem dX11_heat_38 : decode cX11_heat 38 = .ok (.istore_n 2, 1) := by decide +kernel
theorem dX11_heat_39 : decode cX11_heat 39 = .ok (.aload_n 0, 1) := by decide +kernel
theorem dX11_heat_40 : decode cX11_heat 40 = .ok (.getfield 29, 3) := by decide +kernel
theorem dX11_heat_43 : decode cX11_heat 43 = .ok (.iload_n 1, 1) := by decide +kernel
theorem dX11_heat_44 : decode cX11_heat 44 = .ok (.putfield 248, 3) := by decide +kernel
theorem dX11_heat_47 : decode cX11_heat 47 = .ok (.iload_n 2, 1) := by decide +kernel
theorem dX11_heat_48 : decode cX11_heat 48 = .ok (.ireturn, 1) := by decide +kernel
theorem dX11_tell_0 : decode cX11_tell 0 = .ok (.aload_n 0, 1) := by decide +kernel
theorem dX11_tell_1 : decode cX11_tell 1 = .ok (.iload_n 1, 1) := by decide +kernel
theorem dX11_tell_2 : decode cX11_tell 2 = .ok (.invokevirtual 180, 3) := by decide +kernel
theorem dX11_tell_5 : decode cX11_tell 5 = .ok (.aload_n 0, 1) := by decide +kernel
theorem dX11_tell_6 : decode cX11_tell 6 = .ok (.getfield 42, 3) := by decide +kernel
theorem dX11_tell_9 : decode cX11_tell 9 = .ok (.aload_n 0, 1) := by decide +kernel
theorem dX11_tell_10 : decode cX11_tell 10 = .ok (.getfield 29, 3) := by decide +kernel
theorem dX11_tell_13 : decode cX11_tell 13 = .ok (.invokevirtual 221, 3) := by decide +kernel
theorem dX11_tell_16 : decode cX11_tell 16 = .ok (.aload_n 0, 1) := by decide +kernel
theorem dX11_tell_17 : decode cX11_tell 17 = .ok (.getfield 29, 3) := by decide +kernel
theorem dX11_tell_20 : decode cX11_tell 20 = .ok (.getfield 189, 3) := by decide +kernel
theorem dX11_tell_23 : decode cX11_tell 23 = .ok (.istore_n 3, 1) := by decide +kernel
theorem dX11_tell_24 : decode cX11_tell 24 = .ok (.aload_n 0, 1) := by decide +kernel
theorem dX11_tell_25 : decode cX11_tell 25 = .ok (.getfield 29, 3) := by decide +kernel
theorem dX11_tell_28 : decode cX11_tell 28 = .ok (.iload_n 2, 1) := by decide +kernel
theorem dX11_tell_29 : decode cX11_tell 29 = .ok (.ifCond .eq 11, 3) := by decide +kernel
theorem dX11_tell_32 : decode cX11_tell 32 = .ok (.iload_n 3, 1) := by decide +kernel
theorem dX11_tell_33 : decode cX11_tell 33 = .ok (.iconst 1, 1) := by decide +kernel
theorem dX11_tell_34 : decode cX11_tell 34 = .ok (.iload_n 1, 1) := by decide +kernel
theorem dX11_tell_35 : decode cX11_tell 35 = .ok (.ishl, 1) := by decide +kernel
theorem dX11_tell_36 : decode cX11_tell 36 = .ok (.ior, 1) := by decide +kernel
theorem dX11_tell_37 : decode cX11_tell 37 = .ok (.goto 10, 3) := by decide +kernel
theorem dX11_tell_40 : decode cX11_tell 40 = .ok (.iload_n 3, 1) := by decide +kernel
theorem dX11_tell_41 : decode cX11_tell 41 = .ok (.iconst 1, 1) := by decide +kernel
theorem dX11_tell_42 : decode cX11_tell 42 = .ok (.iload_n 1, 1) := by decide +kernel
theorem dX11_tell_43 : decode cX11_tell 43 = .ok (.ishl, 1) := by decide +kernel
theorem dX11_tell_44 : decode cX11_tell 44 = .ok (.iconst (-1), 1) := by decide +kernel
theorem dX11_tell_45 : decode cX11_tell 45 = .ok (.ixor, 1) := by decide +kernel
theorem dX11_tell_46 : decode cX11_tell 46 = .ok (.iand, 1) := by decide +kernel
theorem dX11_tell_47 : decode cX11_tell 47 = .ok (.putfield 189, 3) := by decide +kernel
theorem dX11_tell_50 : decode cX11_tell 50 = .ok (.aload_n 0, 1) := by decide +kernel
theorem dX11_tell_51 : decode cX11_tell 51 = .ok (.getfield 29, 3) := by decide +kernel
theorem dX11_tell_54 : decode cX11_tell 54 = .ok (.getfield 189, 3) := by decide +kernel
theorem dX11_tell_57 : decode cX11_tell 57 = .ok (.iload_n 3, 1) := by decide +kernel
theorem dX11_tell_58 : decode cX11_tell 58 = .ok (.if_icmp .eq 7, 3) := by decide +kernel
theorem dX11_tell_61 : decode cX11_tell 61 = .ok (.iconst 1, 1) := by decide +kernel
theorem dX11_tell_62 : decode cX11_tell 62 = .ok (.goto 4, 3) := by decide +kernel
theorem dX11_tell_65 : decode cX11_tell 65 = .ok (.iconst 0, 1) := by decide +kernel
theorem dX11_tell_66 : decode cX11_tell 66 = .ok (.ireturn, 1) := by decide +kernel
theorem dX11_words_0 : decode cX11_words 0 = .ok (.aload_n 0, 1) := by decide +kernel
theorem dX11_words_1 : decode cX11_words 1 = .ok (.iload_n 1, 1) := by decide +kernel
theorem dX11_words_2 : decode cX11_words 2 = .ok (.invokevirtual 201, 3) := by decide +kernel
theorem dX11_words_5 : decode cX11_words 5 = .ok (.iload_n 2, 1) := by decide +kernel
theorem dX11_words_6 : decode cX11_words 6 = .ok (.aload_n 0, 1) := by decide +kernel
theorem dX11_words_7 : decode cX11_words 7 = .ok (.getfield 29, 3) := by decide +kernel
theorem dX11_words_10 : decode cX11_words 10 = .ok (.invokevirtual 251, 3) := by decide +kernel
theorem dX11_words_13 : decode cX11_words 13 = .ok (.iand, 1) := by decide +kernel
theorem dX11_words_14 : decode cX11_words 14 = .ok (.istore_n 3, 1) := by decide +kernel
theorem dX11_words_15 : decode cX11_words 15 = .ok (.iload_n 3, 1) := by decide +kernel
theorem dX11_words_16 : decode cX11_words 16 = .ok (.ifCond .ne 13, 3) := by decide +kernel
theorem dX11_words_19 : decode cX11_words 19 = .ok (.new 106, 3) := by decide +kernel
theorem dX11_words_22 : decode cX11_words 22 = .ok (.dup, 1) := by decide +kernel
theorem dX11_words_23 : decode cX11_words 23 = .ok (.ldc 254, 2) := by decide +kernel
theorem dX11_words_25 : decode cX11_words 25 = .ok (.invokespecial 110, 3) := by decide +kernel
theorem dX11_words_28 : decode cX11_words 28 = .ok (.athrow, 1) := by decide +kernel
theorem dX11_words_29 : decode cX11_words 29 = .ok (.aload_n 0, 1) := by decide +kernel
theorem dX11_words_30 : decode cX11_words 30 = .ok (.getfield 42, 3) := by decide +kernel
theorem dX11_words_33 : decode cX11_words 33 = .ok (.aload_n 0, 1) := by decide +kernel
theorem dX11_words_34 : decode cX11_words 34 = .ok (.getfield 29, 3) := by decide +kernel
theorem dX11_words_37 : decode cX11_words 37 = .ok (.invokevirtual 221, 3) := by decide +kernel
theorem dX11_words_40 : decode cX11_words 40 = .ok (.aload_n 0, 1) := by decide +kernel
theorem dX11_words_41 : decode cX11_words 41 = .ok (.getfield 29, 3) := by decide +kernel
theorem dX11_words_44 : decode cX11_words 44 = .ok (.getfield 204, 3) := by decide +kernel
theorem dX11_words_47 : decode cX11_words 47 = .ok (.iload_n 1, 1) := by decide +kernel
theorem dX11_words_48 : decode cX11_words 48 = .ok (.iaload, 1) := by decide +kernel
theorem dX11_words_49 : decode cX11_words 49 = .ok (.istore 4, 2) := by decide +kernel
theorem dX11_words_51 : decode cX11_words 51 = .ok (.aload_n 0, 1) := by decide +kernel
theorem dX11_words_52 : decode cX11_words 52 = .ok (.getfield 29, 3) := by decide +kernel
theorem dX11_words_55 : decode cX11_words 55 = .ok (.getfield 204, 3) := by decide +kernel
theorem dX11_words_58 : decode cX11_words 58 = .ok (.iload_n 1, 1) := by decide +kernel
theorem dX11_words_59 : decode cX11_words 59 = .ok (.iload_n 3, 1) := by decide +kernel
theorem dX11_words_60 : decode cX11_words 60 = .ok (.iastore, 1) := by decide +kernel
theorem dX11_words_61 : decode cX11_words 61 = .ok (.iload 4, 2) := by decide +kernel
theorem dX11_words_63 : decode cX11_words 63 = .ok (.ireturn, 1) := by decide +kernel
theorem dX11_powder_0 : decode cX11_powder 0 = .ok (.aload_n 0, 1) := by decide +kernel
theorem dX11_powder_1 : decode cX11_powder 1 = .ok (.iload_n 1, 1) := by decide +kernel
theorem dX11_powder_2 : decode cX11_powder 2 = .ok (.invokevirtual 136, 3) := by decide +kernel
theorem dX11_powder_5 : decode cX11_powder 5 = .ok (.aload_n 0, 1) := by decide +kernel
theorem dX11_powder_6 : decode cX11_powder 6 = .ok (.getfield 42, 3) := by decide +kernel
theorem dX11_powder_9 : decode cX11_powder 9 = .ok (.aload_n 0, 1) := by decide +kernel
theorem dX11_powder_10 : decode cX11_powder 10 = .ok (.getfield 29, 3) := by decide +kernel
theorem dX11_powder_13 : decode cX11_powder 13 = .ok (.invokevirtual 221, 3) := by decide +kernel
theorem dX11_powder_16 : decode cX11_powder 16 = .ok (.aload_n 0, 1) := by decide +kernel
theorem dX11_powder_17 : decode cX11_powder 17 = .ok (.getfield 29, 3) := by decide +kernel
theorem dX11_powder_20 : decode cX11_powder 20 = .ok (.getfield 139, 3) := by decide +kernel
theorem dX11_powder_23 : decode cX11_powder 23 = .ok (.getfield 155, 3) := by decide +kernel
theorem dX11_powder_26 : decode cX11_powder 26 = .ok (.iload_n 1, 1) := by decide +kernel
theorem dX11_powder_27 : decode cX11_powder 27 = .ok (.iaload, 1) := by decide +kernel
theorem dX11_powder_28 : decode cX11_powder 28 = .ok (.istore_n 2, 1) := by decide +kernel
theorem dX11_powder_29 : decode cX11_powder 29 = .ok (.aload_n 0, 1) := by decide +kernel
theorem dX11_powder_30 : decode cX11_powder 30 = .ok (.getfield 29, 3) := by decide +kernel
theorem dX11_powder_33 : decode cX11_powder 33 = .ok (.getfield 139, 3) := by decide +kernel
theorem dX11_powder_36 : decode cX11_powder 36 = .ok (.getfield 155, 3) := by decide +kernel
theorem dX11_powder_39 : decode cX11_powder 39 = .ok (.iload_n 1, 1) := by decide +kernel
theorem dX11_powder_40 : decode cX11_powder 40 = .ok (.iconst 0, 1) := by decide +kernel
theorem dX11_powder_41 : decode cX11_powder 41 = .ok (.iastore, 1) := by decide +kernel
theorem dX11_powder_42 : decode cX11_powder 42 = .ok (.iload_n 2, 1) := by decide +kernel
theorem dX11_powder_43 : decode cX11_powder 43 = .ok (.ireturn, 1) := by decide +kernel
theorem dX11_rises_0 : decode cX11_rises 0 = .ok (.aload_n 0, 1) := by decide +kernel
theorem dX11_rises_1 : decode cX11_rises 1 = .ok (.iload_n 1, 1) := by decide +kernel
theorem dX11_rises_2 : decode cX11_rises 2 = .ok (.invokevirtual 201, 3) := by decide +kernel
theorem dX11_rises_5 : decode cX11_rises 5 = .ok (.aload_n 0, 1) := by decide +kernel
theorem dX11_rises_6 : decode cX11_rises 6 = .ok (.iload_n 2, 1) := by decide +kernel
theorem dX11_rises_7 : decode cX11_rises 7 = .ok (.invokevirtual 136, 3) := by decide +kernel
theorem dX11_rises_10 : decode cX11_rises 10 = .ok (.aload_n 0, 1) := by decide +kernel
theorem dX11_rises_11 : decode cX11_rises 11 = .ok (.getfield 49, 3) := by decide +kernel
theorem dX11_rises_14 : decode cX11_rises 14 = .ok (.aload_n 0, 1) := by decide +kernel
theorem dX11_rises_15 : decode cX11_rises 15 = .ok (.getfield 29, 3) := by decide +kernel
theorem dX11_rises_18 : decode cX11_rises 18 = .ok (.iload_n 1, 1) := by decide +kernel
theorem dX11_rises_19 : decode cX11_rises 19 = .ok (.aload_n 0, 1) := by decide +kernel
theorem dX11_rises_20 : decode cX11_rises 20 = .ok (.getfield 29, 3) := by decide +kernel
theorem dX11_rises_23 : decode cX11_rises 23 = .ok (.getfield 189, 3) := by decide +kernel
theorem dX11_rises_26 : decode cX11_rises 26 = .ok (.invokevirtual 256, 3) := by decide +kernel
theorem dX11_rises_29 : decode cX11_rises 29 = .ok (.aload_n 0, 1) := by decide +kernel
theorem dX11_rises_30 : decode cX11_rises 30 = .ok (.getfield 49, 3) := by decide +kernel
theorem dX11_rises_33 : decode cX11_rises 33 = .ok (.getfield 260, 3) := by decide +kernel
theorem dX11_rises_36 : decode cX11_rises 36 = .ok (.iload_n 2, 1) := by decide +kernel
theorem dX11_rises_37 : decode cX11_rises 37 = .ok (.iaload, 1) := by decide +kernel
theorem dX11_rises_38 : decode cX11_rises 38 = .ok (.ireturn, 1) := by decide +kernel
theorem dX11_seen_0 : decode cX11_seen 0 = .ok (.aload_n 0, 1) := by decide +kernel
theorem dX11_seen_1 : decode cX11_seen 1 = .ok (.iload_n 1, 1) := by decide +kernel
theorem dX11_seen_2 : decode cX11_seen 2 = .ok (.invokevirtual 201, 3) := by decide +kernel
theorem dX11_seen_5 : decode cX11_seen 5 = .ok (.aload_n 0, 1) := by decide +kernel
theorem dX11_seen_6 : decode cX11_seen 6 = .ok (.iload_n 2, 1) := by decide +kernel
theorem dX11_seen_7 : decode cX11_seen 7 = .ok (.invokevirtual 207, 3) := by decide +kernel
theorem dX11_seen_10 : decode cX11_seen 10 = .ok (.aload_n 0, 1) := by decide +kernel
theorem dX11_seen_11 : decode cX11_seen 11 = .ok (.getfield 49, 3) := by decide +kernel
theorem dX11_seen_14 : decode cX11_seen 14 = .ok (.aload_n 0, 1) := by decide +kernel
theorem dX11_seen_15 : decode cX11_seen 15 = .ok (.getfield 29, 3) := by decide +kernel
theorem dX11_seen_18 : decode cX11_seen 18 = .ok (.iload_n 1, 1) := by decide +kernel
theorem dX11_seen_19 : decode cX11_seen 19 = .ok (.aload_n 0, 1) := by decide +kernel
theorem dX11_seen_20 : decode cX11_seen 20 = .ok (.getfield 29, 3) := by decide +kernel
theorem dX11_seen_23 : decode cX11_seen 23 = .ok (.getfield 189, 3) := by decide +kernel
theorem dX11_seen_26 : decode cX11_seen 26 = .ok (.invokevirtual 256, 3) := by decide +kernel
theorem dX11_seen_29 : decode cX11_seen 29 = .ok (.iconst 0, 1) := by decide +kernel
theorem dX11_seen_30 : decode cX11_seen 30 = .ok (.istore_n 3, 1) := by decide +kernel
theorem dX11_seen_31 : decode cX11_seen 31 = .ok (.iconst 0, 1) := by decide +kernel
theorem dX11_seen_32 : decode cX11_seen 32 = .ok (.istore 4, 2) := by decide +kernel
theorem dX11_seen_34 : decode cX11_seen 34 = .ok (.iload 4, 2) := by decide +kernel
theorem dX11_seen_36 : decode cX11_seen 36 = .ok (.aload_n 0, 1) := by decide +kernel
theorem dX11_seen_37 : decode cX11_seen 37 = .ok (.getfield 29, 3) := by decide +kernel
theorem dX11_seen_40 : decode cX11_seen 40 = .ok (.getfield 139, 3) := by decide +kernel
theorem dX11_seen_43 : decode cX11_seen 43 = .ok (.getfield 263, 3) := by decide +kernel
theorem dX11_seen_46 : decode cX11_seen 46 = .ok (.if_icmp .ge 33, 3) := by decide +kernel
theorem dX11_seen_49 : decode cX11_seen 49 = .ok (.aload_n 0, 1) := by decide +kernel
theorem dX11_seen_50 : decode cX11_seen 50 = .ok (.getfield 49, 3) := by decide +kernel
theorem dX11_seen_53 : decode cX11_seen 53 = .ok (.aload_n 0, 1) := by decide +kernel
theorem dX11_seen_54 : decode cX11_seen 54 = .ok (.getfield 29, 3) := by decide +kernel
theorem dX11_seen_57 : decode cX11_seen 57 = .ok (.iload_n 2, 1) := by decide +kernel
theorem dX11_seen_58 : decode cX11_seen 58 = .ok (.iload 4, 2) := by decide +kernel
theorem dX11_seen_60 : decode cX11_seen 60 = .ok (.invokevirtual 266, 3) := by decide +kernel
theorem dX11_seen_63 : decode cX11_seen 63 = .ok (.ifCond .eq 10, 3) := by decide +kernel
theorem dX11_seen_66 : decode cX11_seen 66 = .ok (.iload_n 3, 1) := by decide +kernel
theorem dX11_seen_67 : decode cX11_seen 67 = .ok (.iconst 1, 1) := by decide +kernel
theorem dX11_seen_68 : decode cX11_seen 68 = .ok (.iload 4, 2) := by decide +kernel
theorem dX11_seen_70 : decode cX11_seen 70 = .ok (.ishl, 1) := by decide +kernel
theorem dX11_seen_71 : decode cX11_seen 71 = .ok (.ior, 1) := by decide +kernel
theorem dX11_seen_72 : decode cX11_seen 72 = .ok (.istore_n 3, 1) := by decide +kernel
theorem dX11_seen_73 : decode cX11_seen 73 = .ok (.iinc 4 1, 3) := by decide +kernel
theorem dX11_seen_76 : decode cX11_seen 76 = .ok (.goto (-42), 3) := by decide +kernel
theorem dX11_seen_79 : decode cX11_seen 79 = .ok (.iload_n 3, 1) := by decide +kernel
theorem dX11_seen_80 : decode cX11_seen 80 = .ok (.ireturn, 1) := by decide +kernel
theorem dX11_gives_0 : decode cX11_gives 0 = .ok (.aload_n 0, 1) := by decide +kernel
theorem dX11_gives_1 : decode cX11_gives 1 = .ok (.iload_n 1, 1) := by decide +kernel
theorem dX11_gives_2 : decode cX11_gives 2 = .ok (.invokevirtual 201, 3) := by decide +kernel
theorem dX11_gives_5 : decode cX11_gives 5 = .ok (.aload_n 0, 1) := by decide +kernel
theorem dX11_gives_6 : decode cX11_gives 6 = .ok (.getfield 49, 3) := by decide +kernel
theorem dX11_gives_9 : decode cX11_gives 9 = .ok (.aload_n 0, 1) := by decide +kernel
theorem dX11_gives_10 : decode cX11_gives 10 = .ok (.getfield 29, 3) := by decide +kernel
theorem dX11_gives_13 : decode cX11_gives 13 = .ok (.iload_n 1, 1) := by decide +kernel
theorem dX11_gives_14 : decode cX11_gives 14 = .ok (.aload_n 0, 1) := by decide +kernel
theorem dX11_gives_15 : decode cX11_gives 15 = .ok (.getfield 29, 3) := by decide +kernel
theorem dX11_gives_18 : decode cX11_gives 18 = .ok (.getfield 189, 3) := by decide +kernel
theorem dX11_gives_21 : decode cX11_gives 21 = .ok (.invokevirtual 256, 3) := by decide +kernel
theorem dX11_gives_24 : decode cX11_gives 24 = .ok (.iconst 0, 1) := by decide +kernel
theorem dX11_gives_25 : decode cX11_gives 25 = .ok (.istore_n 2, 1) := by decide +kernel
theorem dX11_gives_26 : decode cX11_gives 26 = .ok (.iconst 0, 1) := by decide +kernel
theorem dX11_gives_27 : decode cX11_gives 27 = .ok (.istore_n 3, 1) := by decide +kernel
theorem dX11_gives_28 : decode cX11_gives 28 = .ok (.iload_n 3, 1) := by decide +kernel
theorem dX11_gives_29 : decode cX11_gives 29 = .ok (.aload_n 0, 1) := by decide +kernel
theorem dX11_gives_30 : decode cX11_gives 30 = .ok (.getfield 29, 3) := by decide +kernel
theorem dX11_gives_33 : decode cX11_gives 33 = .ok (.getfield 139, 3) := by decide +kernel
theorem dX11_gives_36 : decode cX11_gives 36 = .ok (.getfield 263, 3) := by decide +kernel
theorem dX11_gives_39 : decode cX11_gives 39 = .ok (.if_icmp .ge 26, 3) := by decide +kernel
theorem dX11_gives_42 : decode cX11_gives 42 = .ok (.aload_n 0, 1) := by decide +kernel
theorem dX11_gives_43 : decode cX11_gives 43 = .ok (.getfield 49, 3) := by decide +kernel
theorem dX11_gives_46 : decode cX11_gives 46 = .ok (.iload_n 3, 1) := by decide +kernel
theorem dX11_gives_47 : decode cX11_gives 47 = .ok (.invokevirtual 270, 3) := by decide +kernel
theorem dX11_gives_50 : decode cX11_gives 50 = .ok (.ifCond .eq 9, 3) := by decide +kernel
theorem dX11_gives_53 : decode cX11_gives 53 = .ok (.iload_n 2, 1) := by decide +kernel
theorem dX11_gives_54 : decode cX11_gives 54 = .ok (.iconst 1, 1) := by decide +kernel
theorem dX11_gives_55 : decode cX11_gives 55 = .ok (.iload_n 3, 1) := by decide +kernel
theorem dX11_gives_56 : decode cX11_gives 56 = .ok (.ishl, 1) := by decide +kernel
theorem dX11_gives_57 : decode cX11_gives 57 = .ok (.ior, 1) := by decide +kernel
theorem dX11_gives_58 : decode cX11_gives 58 = .ok (.istore_n 2, 1) := by decide +kernel
theorem dX11_gives_59 : decode cX11_gives 59 = .ok (.iinc 3 1, 3) := by decide +kernel
theorem dX11_gives_62 : decode cX11_gives 62 = .ok (.goto (-34), 3) := by decide +kernel
theorem dX11_gives_65 : decode cX11_gives 65 = .ok (.iload_n 2, 1) := by decide +kernel
theorem dX11_gives_66 : decode cX11_gives 66 = .ok (.ireturn, 1) := by decide +kernel
theorem dX11_writes_0 : decode cX11_writes 0 = .ok (.aload_n 0, 1) := by decide +kernel
theorem dX11_writes_1 : decode cX11_writes 1 = .ok (.iload_n 1, 1) := by decide +kernel
theorem dX11_writes_2 : decode cX11_writes 2 = .ok (.invokevirtual 207, 3) := by decide +kernel
theorem dX11_writes_5 : decode cX11_writes 5 = .ok (.aload_n 0, 1) := by decide +kernel
theorem dX11_writes_6 : decode cX11_writes 6 = .ok (.iload_n 2, 1) := by decide +kernel
theorem dX11_writes_7 : decode cX11_writes 7 = .ok (.invokevirtual 136, 3) := by decide +kernel
theorem dX11_writes_10 : decode cX11_writes 10 = .ok (.aload_n 0, 1) := by decide +kernel
theorem dX11_writes_11 : decode cX11_writes 11 = .ok (.getfield 29, 3) := by decide +kernel
theorem dX11_writes_14 : decode cX11_writes 14 = .ok (.getfield 210, 3) := by decide +kernel
theorem dX11_writes_17 : decode cX11_writes 17 = .ok (.iload_n 1, 1) := by decide +kernel
theorem dX11_writes_18 : decode cX11_writes 18 = .ok (.iaload, 1) := by decide +kernel
theorem dX11_writes_19 : decode cX11_writes 19 = .ok (.aload_n 0, 1) := by decide +kernel
theorem dX11_writes_20 : decode cX11_writes 20 = .ok (.getfield 29, 3) := by decide +kernel
theorem dX11_writes_23 : decode cX11_writes 23 = .ok (.getfield 139, 3) := by decide +kernel
theorem dX11_writes_26 : decode cX11_writes 26 = .ok (.getfield 155, 3) := by decide +kernel
theorem dX11_writes_29 : decode cX11_writes 29 = .ok (.iload_n 2, 1) := by decide +kernel
theorem dX11_writes_30 : decode cX11_writes 30 = .ok (.iaload, 1) := by decide +kernel
theorem dX11_writes_31 : decode cX11_writes 31 = .ok (.invokestatic 274, 3) := by decide +kernel
theorem dX11_writes_34 : decode cX11_writes 34 = .ok (.ireturn, 1) := by decide +kernel
theorem dX11_pale_0 : decode cX11_pale 0 = .ok (.aload_n 0, 1) := by decide +kernel
theorem dX11_pale_1 : decode cX11_pale 1 = .ok (.getfield 33, 3) := by decide +kernel
theorem dX11_pale_4 : decode cX11_pale 4 = .ok (.aload_n 0, 1) := by decide +kernel
theorem dX11_pale_5 : decode cX11_pale 5 = .ok (.getfield 29, 3) := by decide +kernel
theorem dX11_pale_8 : decode cX11_pale 8 = .ok (.invokevirtual 89, 3) := by decide +kernel
theorem dX11_pale_11 : decode cX11_pale 11 = .ok (.iconst 0, 1) := by decide +kernel
theorem dX11_pale_12 : decode cX11_pale 12 = .ok (.istore_n 1, 1) := by decide +kernel
theorem dX11_pale_13 : decode cX11_pale 13 = .ok (.iload_n 1, 1) := by decide +kernel
theorem dX11_pale_14 : decode cX11_pale 14 = .ok (.bipush 60, 2) := by decide +kernel
theorem dX11_pale_16 : decode cX11_pale 16 = .ok (.if_icmp .gt 35, 3) := by decide +kernel
theorem dX11_pale_19 : decode cX11_pale 19 = .ok (.aload_n 0, 1) := by decide +kernel
theorem dX11_pale_20 : decode cX11_pale 20 = .ok (.getfield 33, 3) := by decide +kernel
theorem dX11_pale_23 : decode cX11_pale 23 = .ok (.getfield 139, 3) := by decide +kernel
theorem dX11_pale_26 : decode cX11_pale 26 = .ok (.invokevirtual 277, 3) := by decide +kernel
theorem dX11_pale_29 : decode cX11_pale 29 = .ok (.ifCond .ne 5, 3) := by decide +kernel
theorem dX11_pale_32 : decode cX11_pale 32 = .ok (.iload_n 1, 1) := by decide +kernel
theorem dX11_pale_33 : decode cX11_pale 33 = .ok (.ireturn, 1) := by decide +kernel
theorem dX11_pale_34 : decode cX11_pale 34 = .ok (.aload_n 0, 1) := by decide +kernel
theorem dX11_pale_35 : decode cX11_pale 35 = .ok (.getfield 49, 3) := by decide +kernel
theorem dX11_pale_38 : decode cX11_pale 38 = .ok (.aload_n 0, 1) := by decide +kernel
theorem dX11_pale_39 : decode cX11_pale 39 = .ok (.getfield 33, 3) := by decide +kernel
theorem dX11_pale_42 : decode cX11_pale 42 = .ok (.invokevirtual 280, 3) := by decide +kernel
theorem dX11_pale_45 : decode cX11_pale 45 = .ok (.iinc 1 1, 3) := by decide +kernel
theorem dX11_pale_48 : decode cX11_pale 48 = .ok (.goto (-35), 3) := by decide +kernel
theorem dX11_pale_51 : decode cX11_pale 51 = .ok (.iconst (-1), 1) := by decide +kernel
theorem dX11_pale_52 : decode cX11_pale 52 = .ok (.ireturn, 1) := by decide +kernel
theorem dX11_reddest_0 : decode cX11_reddest 0 = .ok (.aload_n 0, 1) := by decide +kernel
theorem dX11_reddest_1 : decode cX11_reddest 1 = .ok (.getfield 29, 3) := by decide +kernel
theorem dX11_reddest_4 : decode cX11_reddest 4 = .ok (.getfield 139, 3) := by decide +kernel
theorem dX11_reddest_7 : decode cX11_reddest 7 = .ok (.getfield 155, 3) := by decide +kernel
theorem dX11_reddest_10 : decode cX11_reddest 10 = .ok (.astore_n 1, 1) := by decide +kernel
theorem dX11_reddest_11 : decode cX11_reddest 11 = .ok (.iconst (-1), 1) := by decide +kernel
theorem dX11_reddest_12 : decode cX11_reddest 12 = .ok (.istore_n 2, 1) := by decide +kernel
theorem dX11_reddest_13 : decode cX11_reddest 13 = .ok (.iconst 0, 1) := by decide +kernel
theorem dX11_reddest_14 : decode cX11_reddest 14 = .ok (.istore_n 3, 1) := by decide +kernel
theorem dX11_reddest_15 : decode cX11_reddest 15 = .ok (.iload_n 3, 1) := by decide +kernel
theorem dX11_reddest_16 : decode cX11_reddest 16 = .ok (.aload_n 0, 1) := by decide +kernel
theorem dX11_reddest_17 : decode cX11_reddest 17 = .ok (.getfield 29, 3) := by decide +kernel
theorem dX11_reddest_20 : decode cX11_reddest 20 = .ok (.getfield 139, 3) := by decide +kernel
theorem dX11_reddest_23 : decode cX11_reddest 23 = .ok (.getfield 263, 3) := by decide +kernel
theorem dX11_reddest_26 : decode cX11_reddest 26 = .ok (.if_icmp .ge 25, 3) := by decide +kernel
theorem dX11_reddest_29 : decode cX11_reddest 29 = .ok (.iload_n 2, 1) := by decide +kernel
theorem dX11_reddest_30 : decode cX11_reddest 30 = .ok (.iconst (-1), 1) := by decide +kernel
theorem dX11_reddest_31 : decode cX11_reddest 31 = .ok (.if_icmp .eq 12, 3) := by decide +kernel
theorem dX11_reddest_34 : decode cX11_reddest 34 = .ok (.aload_n 1, 1) := by decide +kernel
theorem dX11_reddest_35 : decode cX11_reddest 35 = .ok (.iload_n 3, 1) := by decide +kernel
theorem dX11_reddest_36 : decode cX11_reddest 36 = .ok (.iaload, 1) := by decide +kernel
theorem dX11_reddest_37 : decode cX11_reddest 37 = .ok (.aload_n 1, 1) := by decide +kernel
theorem dX11_reddest_38 : decode cX11_reddest 38 = .ok (.iload_n 2, 1) := by decide +kernel
theorem dX11_reddest_39 : decode cX11_reddest 39 = .ok (.iaload, 1) := by decide +kernel
theorem dX11_reddest_40 : decode cX11_reddest 40 = .ok (.if_icmp .le 5, 3) := by decide +kernel
theorem dX11_reddest_43 : decode cX11_reddest 43 = .ok (.iload_n 3, 1) := by decide +kernel
theorem dX11_reddest_44 : decode cX11_reddest 44 = .ok (.istore_n 2, 1) := by decide +kernel
theorem dX11_reddest_45 : decode cX11_reddest 45 = .ok (.iinc 3 1, 3) := by decide +kernel
theorem dX11_reddest_48 : decode cX11_reddest 48 = .ok (.goto (-33), 3) := by decide +kernel
theorem dX11_reddest_51 : decode cX11_reddest 51 = .ok (.iload_n 2, 1) := by decide +kernel
theorem dX11_reddest_52 : decode cX11_reddest 52 = .ok (.ireturn, 1) := by decide +kernel
theorem dX11_palest_0 : decode cX11_palest 0 = .ok (.aload_n 0, 1) := by decide +kernel
theorem dX11_palest_1 : decode cX11_palest 1 = .ok (.getfield 29, 3) := by decide +kernel
theorem dX11_palest_4 : decode cX11_palest 4 = .ok (.getfield 139, 3) := by decide +kernel
theorem dX11_palest_7 : decode cX11_palest 7 = .ok (.getfield 155, 3) := by decide +kernel
theorem dX11_palest_10 : decode cX11_palest 10 = .ok (.astore_n 1, 1) := by decide +kernel
theorem dX11_palest_11 : decode cX11_palest 11 = .ok (.iconst (-1), 1) := by decide +kernel
theorem dX11_palest_12 : decode cX11_palest 12 = .ok (.istore_n 2, 1) := by decide +kernel
theorem dX11_palest_13 : decode cX11_palest 13 = .ok (.iconst 0, 1) := by decide +kernel
theorem dX11_palest_14 : decode cX11_palest 14 = .ok (.istore_n 3, 1) := by decide +kernel
theorem dX11_palest_15 : decode cX11_palest 15 = .ok (.iload_n 3, 1) := by decide +kernel
theorem dX11_palest_16 : decode cX11_palest 16 = .ok (.aload_n 0, 1) := by decide +kernel
theorem dX11_palest_17 : decode cX11_palest 17 = .ok (.getfield 29, 3) := by decide +kernel
theorem dX11_palest_20 : decode cX11_palest 20 = .ok (.getfield 139, 3) := by decide +kernel
theorem dX11_palest_23 : decode cX11_palest 23 = .ok (.getfield 263, 3) := by decide +kernel
theorem dX11_palest_26 : decode cX11_palest 26 = .ok (.if_icmp .ge 25, 3) := by decide +kernel
theorem dX11_palest_29 : decode cX11_palest 29 = .ok (.iload_n 2, 1) := by decide +kernel
theorem dX11_palest_30 : decode cX11_palest 30 = .ok (.iconst (-1), 1) := by decide +kernel
theorem dX11_palest_31 : decode cX11_palest 31 = .ok (.if_icmp .eq 12, 3) := by decide +kernel
theorem dX11_palest_34 : decode cX11_palest 34 = .ok (.aload_n 1, 1) := by decide +kernel
theorem dX11_palest_35 : decode cX11_palest 35 = .ok (.iload_n 3, 1) := by decide +kernel
theorem dX11_palest_36 : decode cX11_palest 36 = .ok (.iaload, 1) := by decide +kernel
theorem dX11_palest_37 : decode cX11_palest 37 = .ok (.aload_n 1, 1) := by decide +kernel
theorem dX11_palest_38 : decode cX11_palest 38 = .ok (.iload_n 2, 1) := by decide +kernel
theorem dX11_palest_39 : decode cX11_palest 39 = .ok (.iaload, 1) := by decide +kernel
theorem dX11_palest_40 : decode cX11_palest 40 = .ok (.if_icmp .ge 5, 3) := by decide +kernel
theorem dX11_palest_43 : decode cX11_palest 43 = .ok (.iload_n 3, 1) := by decide +kernel
theorem dX11_palest_44 : decode cX11_palest 44 = .ok (.istore_n 2, 1) := by decide +kernel
theorem dX11_palest_45 : decode cX11_palest 45 = .ok (.iinc 3 1, 3) := by decide +kernel
theorem dX11_palest_48 : decode cX11_palest 48 = .ok (.goto (-33), 3) := by decide +kernel
theorem dX11_palest_51 : decode cX11_palest 51 = .ok (.iload_n 2, 1) := by decide +kernel
theorem dX11_palest_52 : decode cX11_palest 52 = .ok (.ireturn, 1) := by decide +kernel
theorem dX11_fits_0 : decode cX11_fits 0 = .ok (.aload_n 0, 1) := by decide +kernel
theorem dX11_fits_1 : decode cX11_fits 1 = .ok (.invokevirtual 283, 3) := by decide +kernel
theorem dX11_fits_4 : decode cX11_fits 4 = .ok (.invokestatic 287, 3) := by decide +kernel
theorem dX11_fits_7 : decode cX11_fits 7 = .ok (.ireturn, 1) := by decide +kernel
theorem dX11_sure_0 : decode cX11_sure 0 = .ok (.aload_n 0, 1) := by decide +kernel
theorem dX11_sure_1 : decode cX11_sure 1 = .ok (.invokevirtual 283, 3) := by decide +kernel
theorem dX11_sure_4 : decode cX11_sure 4 = .ok (.lstore_n 1, 1) := by decide +kernel
theorem dX11_sure_5 : decode cX11_sure 5 = .ok (.lload_n 1, 1) := by decide +kernel
theorem dX11_sure_6 : decode cX11_sure 6 = .ok (.lconst 0, 1) := by decide +kernel
theorem dX11_sure_7 : decode cX11_sure 7 = .ok (.lcmp, 1) := by decide +kernel
theorem dX11_sure_8 : decode cX11_sure 8 = .ok (.ifCond .ne 7, 3) := by decide +kernel
theorem dX11_sure_11 : decode cX11_sure 11 = .ok (.iconst 0, 1) := by decide +kernel
theorem dX11_sure_12 : decode cX11_sure 12 = .ok (.goto 10, 3) := by decide +kernel
theorem dX11_sure_15 : decode cX11_sure 15 = .ok (.aload_n 0, 1) := by decide +kernel
theorem dX11_sure_16 : decode cX11_sure 16 = .ok (.getfield 29, 3) := by decide +kernel
theorem dX11_sure_19 : decode cX11_sure 19 = .ok (.invokevirtual 251, 3) := by decide +kernel
theorem dX11_sure_22 : decode cX11_sure 22 = .ok (.istore_n 3, 1) := by decide +kernel
theorem dX11_sure_23 : decode cX11_sure 23 = .ok (.iconst 0, 1) := by decide +kernel
theorem dX11_sure_24 : decode cX11_sure 24 = .ok (.istore 4, 2) := by decide +kernel
theorem dX11_sure_26 : decode cX11_sure 26 = .ok (.iload 4, 2) := by decide +kernel
theorem dX11_sure_28 : decode cX11_sure 28 = .ok (.aload_n 0, 1) := by decide +kernel
theorem dX11_sure_29 : decode cX11_sure 29 = .ok (.getfield 29, 3) := by decide +kernel
theorem dX11_sure_32 : decode cX11_sure 32 = .ok (.invokevirtual 293, 3) := by decide +kernel
theorem dX11_sure_35 : decode cX11_sure 35 = .ok (.if_icmp .ge 25, 3) := by decide +kernel
theorem dX11_sure_38 : decode cX11_sure 38 = .ok (.lload_n 1, 1) := by decide +kernel
theorem dX11_sure_39 : decode cX11_sure 39 = .ok (.iload 4, 2) := by decide +kernel
theorem dX11_sure_41 : decode cX11_sure 41 = .ok (.lushr, 1) := by decide +kernel
theorem dX11_sure_42 : decode cX11_sure 42 = .ok (.lconst 1, 1) := by decide +kernel
theorem dX11_sure_43 : decode cX11_sure 43 = .ok (.land, 1) := by decide +kernel
theorem dX11_sure_44 : decode cX11_sure 44 = .ok (.lconst 0, 1) := by decide +kernel
theorem dX11_sure_45 : decode cX11_sure 45 = .ok (.lcmp, 1) := by decide +kernel
theorem dX11_sure_46 : decode cX11_sure 46 = .ok (.ifCond .eq 8, 3) := by decide +kernel
theorem dX11_sure_49 : decode cX11_sure 49 = .ok (.iload_n 3, 1) := by decide +kernel
theorem dX11_sure_50 : decode cX11_sure 50 = .ok (.iload 4, 2) := by decide +kernel
theorem dX11_sure_52 : decode cX11_sure 52 = .ok (.iand, 1) := by decide +kernel
theorem dX11_sure_53 : decode cX11_sure 53 = .ok (.istore_n 3, 1) := by decide +kernel
theorem dX11_sure_54 : decode cX11_sure 54 = .ok (.iinc 4 1, 3) := by decide +kernel
theorem dX11_sure_57 : decode cX11_sure 57 = .ok (.goto (-31), 3) := by decide +kernel
theorem dX11_sure_60 : decode cX11_sure 60 = .ok (.iload_n 3, 1) := by decide +kernel
theorem dX11_sure_61 : decode cX11_sure 61 = .ok (.ireturn, 1) := by decide +kernel
theorem dX11_never_0 : decode cX11_never 0 = .ok (.aload_n 0, 1) := by decide +kernel
theorem dX11_never_1 : decode cX11_never 1 = .ok (.invokevirtual 283, 3) := by decide +kernel
theorem dX11_never_4 : decode cX11_never 4 = .ok (.lstore_n 1, 1) := by decide +kernel
theorem dX11_never_5 : decode cX11_never 5 = .ok (.aload_n 0, 1) := by decide +kernel
theorem dX11_never_6 : decode cX11_never 6 = .ok (.getfield 29, 3) := by decide +kernel
theorem dX11_never_9 : decode cX11_never 9 = .ok (.invokevirtual 251, 3) := by decide +kernel
theorem dX11_never_12 : decode cX11_never 12 = .ok (.istore_n 3, 1) := by decide +kernel
theorem dX11_never_13 : decode cX11_never 13 = .ok (.iconst 0, 1) := by decide +kernel
theorem dX11_never_14 : decode cX11_never 14 = .ok (.istore 4, 2) := by decide +kernel
theorem dX11_never_16 : decode cX11_never 16 = .ok (.iload 4, 2) := by decide +kernel
theorem dX11_never_18 : decode cX11_never 18 = .ok (.aload_n 0, 1) := by decide +kernel
theorem dX11_never_19 : decode cX11_never 19 = .ok (.getfield 29, 3) := by decide +kernel
theorem dX11_never_22 : decode cX11_never 22 = .ok (.invokevirtual 293, 3) := by decide +kernel
theorem dX11_never_25 : decode cX11_never 25 = .ok (.if_icmp .ge 27, 3) := by decide +kernel
theorem dX11_never_28 : decode cX11_never 28 = .ok (.lload_n 1, 1) := by decide +kernel
theorem dX11_never_29 : decode cX11_never 29 = .ok (.iload 4, 2) := by decide +kernel
theorem dX11_never_31 : decode cX11_never 31 = .ok (.lushr, 1) := by decide +kernel
theorem dX11_never_32 : decode cX11_never 32 = .ok (.lconst 1, 1) := by decide +kernel
theorem dX11_never_33 : decode cX11_never 33 = .ok (.land, 1) := by decide +kernel
theorem dX11_never_34 : decode cX11_never 34 = .ok (.lconst 0, 1) := by decide +kernel
theorem dX11_never_35 : decode cX11_never 35 = .ok (.lcmp, 1) := by decide +kernel
theorem dX11_never_36 : decode cX11_never 36 = .ok (.ifCond .eq 10, 3) := by decide +kernel
theorem dX11_never_39 : decode cX11_never 39 = .ok (.iload_n 3, 1) := by decide +kernel
theorem dX11_never_40 : decode cX11_never 40 = .ok (.iload 4, 2) := by decide +kernel
theorem dX11_never_42 : decode cX11_never 42 = .ok (.iconst (-1), 1) := by decide +kernel
theorem dX11_never_43 : decode cX11_never 43 = .ok (.ixor, 1) := by decide +kernel
theorem dX11_never_44 : decode cX11_never 44 = .ok (.iand, 1) := by decide +kernel
theorem dX11_never_45 : decode cX11_never 45 = .ok (.istore_n 3, 1) := by decide +kernel
theorem dX11_never_46 : decode cX11_never 46 = .ok (.iinc 4 1, 3) := by decide +kernel
theorem dX11_never_49 : decode cX11_never 49 = .ok (.goto (-33), 3) := by decide +kernel
theorem dX11_never_52 : decode cX11_never 52 = .ok (.iload_n 3, 1) := by decide +kernel
theorem dX11_never_53 : decode cX11_never 53 = .ok (.ireturn, 1) := by decide +kernel
theorem dX11_next_0 : decode cX11_next 0 = .ok (.aload_n 0, 1) := by decide +kernel
theorem dX11_next_1 : decode cX11_next 1 = .ok (.invokevirtual 283, 3) := by decide +kernel
theorem dX11_next_4 : decode cX11_next 4 = .ok (.lstore_n 1, 1) := by decide +kernel
theorem dX11_next_5 : decode cX11_next 5 = .ok (.lload_n 1, 1) := by decide +kernel
theorem dX11_next_6 : decode cX11_next 6 = .ok (.invokestatic 287, 3) := by decide +kernel
theorem dX11_next_9 : decode cX11_next 9 = .ok (.iconst 2, 1) := by decide +kernel
theorem dX11_next_10 : decode cX11_next 10 = .ok (.if_icmp .ge 5, 3) := by decide +kernel
theorem dX11_next_13 : decode cX11_next 13 = .ok (.iconst (-1), 1) := by decide +kernel
theorem dX11_next_14 : decode cX11_next 14 = .ok (.ireturn, 1) := by decide +kernel
theorem dX11_next_15 : decode cX11_next 15 = .ok (.iconst (-1), 1) := by decide +kernel
theorem dX11_next_16 : decode cX11_next 16 = .ok (.istore_n 3, 1) := by decide +kernel
theorem dX11_next_17 : decode cX11_next 17 = .ok (.iconst 0, 1) := by decide +kernel
theorem dX11_next_18 : decode cX11_next 18 = .ok (.istore 4, 2) := by decide +kernel
theorem dX11_next_20 : decode cX11_next 20 = .ok (.iconst 0, 1) := by decide +kernel
theorem dX11_next_21 : decode cX11_next 21 = .ok (.istore 5, 2) := by decide +kernel
theorem dX11_next_23 : decode cX11_next 23 = .ok (.iload 5, 2) := by decide +kernel
theorem dX11_next_25 : decode cX11_next 25 = .ok (.aload_n 0, 1) := by decide +kernel
theorem dX11_next_26 : decode cX11_next 26 = .ok (.getfield 29, 3) := by decide +kernel
theorem dX11_next_29 : decode cX11_next 29 = .ok (.getfield 296, 3) := by decide +kernel
theorem dX11_next_32 : decode cX11_next 32 = .ok (.if_icmp .ge 48, 3) := by decide +kernel
theorem dX11_next_35 : decode cX11_next 35 = .ok (.aload_n 0, 1) := by decide +kernel
theorem dX11_next_36 : decode cX11_next 36 = .ok (.getfield 56, 3) := by decide +kernel
theorem dX11_next_39 : decode cX11_next 39 = .ok (.aload_n 0, 1) := by decide +kernel
theorem dX11_next_40 : decode cX11_next 40 = .ok (.getfield 49, 3) := by decide +kernel
theorem dX11_next_43 : decode cX11_next 43 = .ok (.aload_n 0, 1) := by decide +kernel
theorem dX11_next_44 : decode cX11_next 44 = .ok (.getfield 29, 3) := by decide +kernel
theorem dX11_next_47 : decode cX11_next 47 = .ok (.iload 5, 2) := by decide +kernel
theorem dX11_next_49 : decode cX11_next 49 = .ok (.lload_n 1, 1) := by decide +kernel
theorem dX11_next_50 : decode cX11_next 50 = .ok (.invokevirtual 299, 3) := by decide +kernel
theorem dX11_next_53 : decode cX11_next 53 = .ok (.istore 6, 2) := by decide +kernel
theorem dX11_next_55 : decode cX11_next 55 = .ok (.iload_n 3, 1) := by decide +kernel
theorem dX11_next_56 : decode cX11_next 56 = .ok (.iconst (-1), 1) := by decide +kernel
theorem dX11_next_57 : decode cX11_next 57 = .ok (.if_icmp .eq 10, 3) := by decide +kernel
theorem dX11_next_60 : decode cX11_next 60 = .ok (.iload 6, 2) := by decide +kernel
theorem dX11_next_62 : decode cX11_next 62 = .ok (.iload 4, 2) := by decide +kernel
theorem dX11_next_64 : decode cX11_next 64 = .ok (.if_icmp .ge 10, 3) := by decide +kernel
theorem dX11_next_67 : decode cX11_next 67 = .ok (.iload 5, 2) := by decide +kernel
theorem dX11_next_69 : decode cX11_next 69 = .ok (.istore_n 3, 1) := by decide +kernel
theorem dX11_next_70 : decode cX11_next 70 = .ok (.iload 6, 2) := by decide +kernel
theorem dX11_next_72 : decode cX11_next 72 = .ok (.istore 4, 2) := by decide +kernel
theorem dX11_next_74 : decode cX11_next 74 = .ok (.iinc 5 1, 3) := by decide +kernel
theorem dX11_next_77 : decode cX11_next 77 = .ok (.goto (-54), 3) := by decide +kernel
theorem dX11_next_80 : decode cX11_next 80 = .ok (.iload_n 3, 1) := by decide +kernel
theorem dX11_next_81 : decode cX11_next 81 = .ok (.ireturn, 1) := by decide +kernel
theorem dX11_dark_0 : decode cX11_dark 0 = .ok (.aload_n 0, 1) := by decide +kernel
theorem dX11_dark_1 : decode cX11_dark 1 = .ok (.getfield 56, 3) := by decide +kernel
theorem dX11_dark_4 : decode cX11_dark 4 = .ok (.aload_n 0, 1) := by decide +kernel
theorem dX11_dark_5 : decode cX11_dark 5 = .ok (.getfield 49, 3) := by decide +kernel
theorem dX11_dark_8 : decode cX11_dark 8 = .ok (.aload_n 0, 1) := by decide +kernel
theorem dX11_dark_9 : decode cX11_dark 9 = .ok (.getfield 29, 3) := by decide +kernel
theorem dX11_dark_12 : decode cX11_dark 12 = .ok (.invokevirtual 303, 3) := by decide +kernel
theorem dX11_dark_15 : decode cX11_dark 15 = .ok (.ireturn, 1) := by decide +kernel
theorem dX11_tells_0 : decode cX11_tells 0 = .ok (.aload_n 0, 1) := by decide +kernel
theorem dX11_tells_1 : decode cX11_tells 1 = .ok (.iload_n 1, 1) := by decide +kernel
theorem dX11_tells_2 : decode cX11_tells 2 = .ok (.invokevirtual 201, 3) := by decide +kernel
theorem dX11_tells_5 : decode cX11_tells 5 = .ok (.aload_n 0, 1) := by decide +kernel
theorem dX11_tells_6 : decode cX11_tells 6 = .ok (.getfield 56, 3) := by decide +kernel
theorem dX11_tells_9 : decode cX11_tells 9 = .ok (.aload_n 0, 1) := by decide +kernel
theorem dX11_tells_10 : decode cX11_tells 10 = .ok (.getfield 49, 3) := by decide +kernel
theorem dX11_tells_13 : decode cX11_tells 13 = .ok (.aload_n 0, 1) := by decide +kernel
theorem dX11_tells_14 : decode cX11_tells 14 = .ok (.getfield 29, 3) := by decide +kernel
theorem dX11_tells_17 : decode cX11_tells 17 = .ok (.iload_n 1, 1) := by decide +kernel
theorem dX11_tells_18 : decode cX11_tells 18 = .ok (.invokevirtual 307, 3) := by decide +kernel
theorem dX11_tells_21 : decode cX11_tells 21 = .ok (.ireturn, 1) := by decide +kernel
theorem dX11_shared_0 : decode cX11_shared 0 = .ok (.aload_n 0, 1) := by decide +kernel
theorem dX11_shared_1 : decode cX11_shared 1 = .ok (.iload_n 1, 1) := by decide +kernel
theorem dX11_shared_2 : decode cX11_shared 2 = .ok (.invokevirtual 201, 3) := by decide +kernel
theorem dX11_shared_5 : decode cX11_shared 5 = .ok (.aload_n 0, 1) := by decide +kernel
theorem dX11_shared_6 : decode cX11_shared 6 = .ok (.getfield 29, 3) := by decide +kernel
theorem dX11_shared_9 : decode cX11_shared 9 = .ok (.getfield 139, 3) := by decide +kernel
theorem dX11_shared_12 : decode cX11_shared 12 = .ok (.getfield 216, 3) := by decide +kernel
theorem dX11_shared_15 : decode cX11_shared 15 = .ok (.aload_n 0, 1) := by decide +kernel
theorem dX11_shared_16 : decode cX11_shared 16 = .ok (.getfield 29, 3) := by decide +kernel
theorem dX11_shared_19 : decode cX11_shared 19 = .ok (.getfield 139, 3) := by decide +kernel
theorem dX11_shared_22 : decode cX11_shared 22 = .ok (.getfield 263, 3) := by decide +kernel
theorem dX11_shared_25 : decode cX11_shared 25 = .ok (.aload_n 0, 1) := by decide +kernel
theorem dX11_shared_26 : decode cX11_shared 26 = .ok (.iload_n 1, 1) := by decide +kernel
theorem dX11_shared_27 : decode cX11_shared 27 = .ok (.invokevirtual 310, 3) := by decide +kernel
theorem dX11_shared_30 : decode cX11_shared 30 = .ok (.invokestatic 313, 3) := by decide +kernel
theorem dX11_shared_33 : decode cX11_shared 33 = .ok (.ireturn, 1) := by decide +kernel
theorem dX11_apart_0 : decode cX11_apart 0 = .ok (.aload_n 0, 1) := by decide +kernel
theorem dX11_apart_1 : decode cX11_apart 1 = .ok (.iload_n 1, 1) := by decide +kernel
theorem dX11_apart_2 : decode cX11_apart 2 = .ok (.invokevirtual 201, 3) := by decide +kernel
theorem dX11_apart_5 : decode cX11_apart 5 = .ok (.aload_n 0, 1) := by decide +kernel
theorem dX11_apart_6 : decode cX11_apart 6 = .ok (.getfield 63, 3) := by decide +kernel
theorem dX11_apart_9 : decode cX11_apart 9 = .ok (.aload_n 0, 1) := by decide +kernel
theorem dX11_apart_10 : decode cX11_apart 10 = .ok (.getfield 29, 3) := by decide +kernel
theorem dX11_apart_13 : decode cX11_apart 13 = .ok (.getfield 139, 3) := by decide +kernel
theorem dX11_apart_16 : decode cX11_apart 16 = .ok (.aload_n 0, 1) := by decide +kernel
theorem dX11_apart_17 : decode cX11_apart 17 = .ok (.iload_n 1, 1) := by decide +kernel
theorem dX11_apart_18 : decode cX11_apart 18 = .ok (.invokevirtual 310, 3) := by decide +kernel
theorem dX11_apart_21 : decode cX11_apart 21 = .ok (.invokevirtual 317, 3) := by decide +kernel
theorem dX11_apart_24 : decode cX11_apart 24 = .ok (.aload_n 0, 1) := by decide +kernel
theorem dX11_apart_25 : decode cX11_apart 25 = .ok (.getfield 63, 3) := by decide +kernel
theorem dX11_apart_28 : decode cX11_apart 28 = .ok (.getfield 321, 3) := by decide +kernel
theorem dX11_apart_31 : decode cX11_apart 31 = .ok (.ireturn, 1) := by decide +kernel
theorem dX11_row_0 : decode cX11_row 0 = .ok (.aload_n 0, 1) := by decide +kernel
theorem dX11_row_1 : decode cX11_row 1 = .ok (.iload_n 1, 1) := by decide +kernel
theorem dX11_row_2 : decode cX11_row 2 = .ok (.invokevirtual 201, 3) := by decide +kernel
theorem dX11_row_5 : decode cX11_row 5 = .ok (.aload_n 0, 1) := by decide +kernel
theorem dX11_row_6 : decode cX11_row 6 = .ok (.iload_n 2, 1) := by decide +kernel
theorem dX11_row_7 : decode cX11_row 7 = .ok (.invokevirtual 213, 3) := by decide +kernel
theorem dX11_row_10 : decode cX11_row 10 = .ok (.aload_n 0, 1) := by decide +kernel
theorem dX11_row_11 : decode cX11_row 11 = .ok (.getfield 63, 3) := by decide +kernel
theorem dX11_row_14 : decode cX11_row 14 = .ok (.aload_n 0, 1) := by decide +kernel
theorem dX11_row_15 : decode cX11_row 15 = .ok (.getfield 29, 3) := by decide +kernel
theorem dX11_row_18 : decode cX11_row 18 = .ok (.getfield 139, 3) := by decide +kernel
theorem dX11_row_21 : decode cX11_row 21 = .ok (.aload_n 0, 1) := by decide +kernel
theorem dX11_row_22 : decode cX11_row 22 = .ok (.iload_n 1, 1) := by decide +kernel
theorem dX11_row_23 : decode cX11_row 23 = .ok (.invokevirtual 310, 3) := by decide +kernel
theorem dX11_row_26 : decode cX11_row 26 = .ok (.invokevirtual 317, 3) := by decide +kernel
theorem dX11_row_29 : decode cX11_row 29 = .ok (.aload_n 0, 1) := by decide +kernel
theorem dX11_row_30 : decode cX11_row 30 = .ok (.getfield 63, 3) := by decide +kernel
theorem dX11_row_33 : decode cX11_row 33 = .ok (.getfield 324, 3) := by decide +kernel
theorem dX11_row_36 : decode cX11_row 36 = .ok (.iload_n 2, 1) := by decide +kernel
theorem dX11_row_37 : decode cX11_row 37 = .ok (.iaload, 1) := by decide +kernel
theorem dX11_row_38 : decode cX11_row 38 = .ok (.ireturn, 1) := by decide +kernel
theorem dX11_wrong_0 : decode cX11_wrong 0 = .ok (.aload_n 0, 1) := by decide +kernel
theorem dX11_wrong_1 : decode cX11_wrong 1 = .ok (.aload_n 0, 1) := by decide +kernel
theorem dX11_wrong_2 : decode cX11_wrong 2 = .ok (.getfield 10, 3) := by decide +kernel
theorem dX11_wrong_5 : decode cX11_wrong 5 = .ok (.invokevirtual 102, 3) := by decide +kernel
theorem dX11_wrong_8 : decode cX11_wrong 8 = .ok (.aload_n 0, 1) := by decide +kernel
theorem dX11_wrong_9 : decode cX11_wrong 9 = .ok (.getfield 29, 3) := by decide +kernel
theorem dX11_wrong_12 : decode cX11_wrong 12 = .ok (.getfield 327, 3) := by decide +kernel
theorem dX11_wrong_15 : decode cX11_wrong 15 = .ok (.aload_n 0, 1) := by decide +kernel
theorem dX11_wrong_16 : decode cX11_wrong 16 = .ok (.getfield 29, 3) := by decide +kernel
theorem dX11_wrong_19 : decode cX11_wrong 19 = .ok (.getfield 139, 3) := by decide +kernel
theorem dX11_wrong_22 : decode cX11_wrong 22 = .ok (.getfield 263, 3) := by decide +kernel
theorem dX11_wrong_25 : decode cX11_wrong 25 = .ok (.bipush 99, 2) := by decide +kernel
theorem dX11_wrong_27 : decode cX11_wrong 27 = .ok (.invokevirtual 330, 3) := by decide +kernel
theorem dX11_wrong_30 : decode cX11_wrong 30 = .ok (.istore_n 1, 1) := by decide +kernel
theorem dX11_wrong_31 : decode cX11_wrong 31 = .ok (.iconst 1, 1) := by decide +kernel
theorem dX11_wrong_32 : decode cX11_wrong 32 = .ok (.aload_n 0, 1) := by decide +kernel
theorem dX11_wrong_33 : decode cX11_wrong 33 = .ok (.getfield 29, 3) := by decide +kernel
theorem dX11_wrong_36 : decode cX11_wrong 36 = .ok (.getfield 327, 3) := by decide +kernel
theorem dX11_wrong_39 : decode cX11_wrong 39 = .ok (.ishl, 1) := by decide +kernel
theorem dX11_wrong_40 : decode cX11_wrong 40 = .ok (.iconst 1, 1) := by decide +kernel
theorem dX11_wrong_41 : decode cX11_wrong 41 = .ok (.isub, 1) := by decide +kernel
theorem dX11_wrong_42 : decode cX11_wrong 42 = .ok (.istore_n 2, 1) := by decide +kernel
theorem dX11_wrong_43 : decode cX11_wrong 43 = .ok (.iconst 0, 1) := by decide +kernel
theorem dX11_wrong_44 : decode cX11_wrong 44 = .ok (.istore_n 3, 1) := by decide +kernel
theorem dX11_wrong_45 : decode cX11_wrong 45 = .ok (.iload_n 3, 1) := by decide +kernel
theorem dX11_wrong_46 : decode cX11_wrong 46 = .ok (.iconst 1, 1) := by decide +kernel
theorem dX11_wrong_47 : decode cX11_wrong 47 = .ok (.aload_n 0, 1) := by decide +kernel
theorem dX11_wrong_48 : decode cX11_wrong 48 = .ok (.getfield 29, 3) := by decide +kernel
theorem dX11_wrong_51 : decode cX11_wrong 51 = .ok (.getfield 327, 3) := by decide +kernel
theorem dX11_wrong_54 : decode cX11_wrong 54 = .ok (.ishl, 1) := by decide +kernel
theorem dX11_wrong_55 : decode cX11_wrong 55 = .ok (.if_icmp .ge 31, 3) := by decide +kernel
theorem dX11_wrong_58 : decode cX11_wrong 58 = .ok (.iload_n 3, 1) := by decide +kernel
theorem dX11_wrong_59 : decode cX11_wrong 59 = .ok (.invokestatic 334, 3) := by decide +kernel
theorem dX11_wrong_62 : decode cX11_wrong 62 = .ok (.iload_n 2, 1) := by decide +kernel
theorem dX11_wrong_63 : decode cX11_wrong 63 = .ok (.invokestatic 334, 3) := by decide +kernel
theorem dX11_wrong_66 : decode cX11_wrong 66 = .ok (.if_icmp .ge 14, 3) := by decide +kernel
theorem dX11_wrong_69 : decode cX11_wrong 69 = .ok (.aload_n 0, 1) := by decide +kernel
theorem dX11_wrong_70 : decode cX11_wrong 70 = .ok (.iload_n 1, 1) := by decide +kernel
theorem dX11_wrong_71 : decode cX11_wrong 71 = .ok (.iload_n 3, 1) := by decide +kernel
theorem dX11_wrong_72 : decode cX11_wrong 72 = .ok (.invokevirtual 338, 3) := by decide +kernel
theorem dX11_wrong_75 : decode cX11_wrong 75 = .ok (.ifCond .eq 5, 3) := by decide +kernel
theorem dX11_wrong_78 : decode cX11_wrong 78 = .ok (.iload_n 3, 1) := by decide +kernel
theorem dX11_wrong_79 : decode cX11_wrong 79 = .ok (.istore_n 2, 1) := by decide +kernel
theorem dX11_wrong_80 : decode cX11_wrong 80 = .ok (.iinc 3 1, 3) := by decide +kernel
theorem dX11_wrong_83 : decode cX11_wrong 83 = .ok (.goto (-38), 3) := by decide +kernel
theorem dX11_wrong_86 : decode cX11_wrong 86 = .ok (.iload_n 2, 1) := by decide +kernel
theorem dX11_wrong_87 : decode cX11_wrong 87 = .ok (.ireturn, 1) := by decide +kernel
theorem dX11_shades_0 : decode cX11_shades 0 = .ok (.aload_n 0, 1) := by decide +kernel
theorem dX11_shades_1 : decode cX11_shades 1 = .ok (.getfield 10, 3) := by decide +kernel
theorem dX11_shades_4 : decode cX11_shades 4 = .ok (.invokevirtual 102, 3) := by decide +kernel
theorem dX11_shades_7 : decode cX11_shades 7 = .ok (.istore_n 2, 1) := by decide +kernel
theorem dX11_shades_8 : decode cX11_shades 8 = .ok (.aload_n 0, 1) := by decide +kernel
theorem dX11_shades_9 : decode cX11_shades 9 = .ok (.iload_n 1, 1) := by decide +kernel
theorem dX11_shades_10 : decode cX11_shades 10 = .ok (.invokevirtual 136, 3) := by decide +kernel
theorem dX11_shades_13 : decode cX11_shades 13 = .ok (.aload_n 0, 1) := by decide +kernel
theorem dX11_shades_14 : decode cX11_shades 14 = .ok (.aload_n 0, 1) := by decide +kernel
theorem dX11_shades_15 : decode cX11_shades 15 = .ok (.iload_n 2, 1) := by decide +kernel
theorem dX11_shades_16 : decode cX11_shades 16 = .ok (.aload_n 0, 1) := by decide +kernel
theorem dX11_shades_17 : decode cX11_shades 17 = .ok (.getfield 29, 3) := by decide +kernel
theorem dX11_shades_20 : decode cX11_shades 20 = .ok (.getfield 327, 3) := by decide +kernel
theorem dX11_shades_23 : decode cX11_shades 23 = .ok (.aload_n 0, 1) := by decide +kernel
theorem dX11_shades_24 : decode cX11_shades 24 = .ok (.getfield 29, 3) := by decide +kernel
theorem dX11_shades_27 : decode cX11_shades 27 = .ok (.getfield 139, 3) := by decide +kernel
theorem dX11_shades_30 : decode cX11_shades 30 = .ok (.getfield 263, 3) := by decide +kernel
theorem dX11_shades_33 : decode cX11_shades 33 = .ok (.bipush 99, 2) := by decide +kernel
theorem dX11_shades_35 : decode cX11_shades 35 = .ok (.invokevirtual 330, 3) := by decide +kernel
theorem dX11_shades_38 : decode cX11_shades 38 = .ok (.iload_n 1, 1) := by decide +kernel
theorem dX11_shades_39 : decode cX11_shades 39 = .ok (.iconst 0, 1) := by decide +kernel
theorem dX11_shades_40 : decode cX11_shades 40 = .ok (.invokevirtual 342, 3) := by decide +kernel
theorem dX11_shades_43 : decode cX11_shades 43 = .ok (.ireturn, 1) := by decide +kernel
theorem dX11_vinegar_0 : decode cX11_vinegar 0 = .ok (.aload_n 0, 1) := by decide +kernel
theorem dX11_vinegar_1 : decode cX11_vinegar 1 = .ok (.iload_n 1, 1) := by decide +kernel
theorem dX11_vinegar_2 : decode cX11_vinegar 2 = .ok (.invokevirtual 136, 3) := by decide +kernel
theorem dX11_vinegar_5 : decode cX11_vinegar 5 = .ok (.aload_n 0, 1) := by decide +kernel
theorem dX11_vinegar_6 : decode cX11_vinegar 6 = .ok (.iload_n 2, 1) := by decide +kernel
theorem dX11_vinegar_7 : decode cX11_vinegar 7 = .ok (.invokevirtual 201, 3) := by decide +kernel
theorem dX11_vinegar_10 : decode cX11_vinegar 10 = .ok (.aload_n 0, 1) := by decide +kernel
theorem dX11_vinegar_11 : decode cX11_vinegar 11 = .ok (.getfield 49, 3) := by decide +kernel
theorem dX11_vinegar_14 : decode cX11_vinegar 14 = .ok (.aload_n 0, 1) := by decide +kernel
theorem dX11_vinegar_15 : decode cX11_vinegar 15 = .ok (.getfield 29, 3) := by decide +kernel
theorem dX11_vinegar_18 : decode cX11_vinegar 18 = .ok (.iload_n 2, 1) := by decide +kernel
theorem dX11_vinegar_19 : decode cX11_vinegar 19 = .ok (.aload_n 0, 1) := by decide +kernel
theorem dX11_vinegar_20 : decode cX11_vinegar 20 = .ok (.getfield 29, 3) := by decide +kernel
theorem dX11_vinegar_23 : decode cX11_vinegar 23 = .ok (.getfield 189, 3) := by decide +kernel
theorem dX11_vinegar_26 : decode cX11_vinegar 26 = .ok (.invokevirtual 256, 3) := by decide +kernel
theorem dX11_vinegar_29 : decode cX11_vinegar 29 = .ok (.aload_n 0, 1) := by decide +kernel
theorem dX11_vinegar_30 : decode cX11_vinegar 30 = .ok (.getfield 49, 3) := by decide +kernel
theorem dX11_vinegar_33 : decode cX11_vinegar 33 = .ok (.getfield 260, 3) := by decide +kernel
theorem dX11_vinegar_36 : decode cX11_vinegar 36 = .ok (.iload_n 1, 1) := by decide +kernel
theorem dX11_vinegar_37 : decode cX11_vinegar 37 = .ok (.iaload, 1) := by decide +kernel
theorem dX11_vinegar_38 : decode cX11_vinegar 38 = .ok (.aload_n 0, 1) := by decide +kernel
theorem dX11_vinegar_39 : decode cX11_vinegar 39 = .ok (.getfield 49, 3) := by decide +kernel
theorem dX11_vinegar_42 : decode cX11_vinegar 42 = .ok (.getfield 346, 3) := by decide +kernel
theorem dX11_vinegar_45 : decode cX11_vinegar 45 = .ok (.iload_n 1, 1) := by decide +kernel
theorem dX11_vinegar_46 : decode cX11_vinegar 46 = .ok (.iaload, 1) := by decide +kernel
theorem dX11_vinegar_47 : decode cX11_vinegar 47 = .ok (.isub, 1) := by decide +kernel
theorem dX11_vinegar_48 : decode cX11_vinegar 48 = .ok (.istore_n 3, 1) := by decide +kernel
theorem dX11_vinegar_49 : decode cX11_vinegar 49 = .ok (.aload_n 0, 1) := by decide +kernel
theorem dX11_vinegar_50 : decode cX11_vinegar 50 = .ok (.getfield 33, 3) := by decide +kernel
theorem dX11_vinegar_53 : decode cX11_vinegar 53 = .ok (.aload_n 0, 1) := by decide +kernel
theorem dX11_vinegar_54 : decode cX11_vinegar 54 = .ok (.getfield 29, 3) := by decide +kernel
theorem dX11_vinegar_57 : decode cX11_vinegar 57 = .ok (.invokevirtual 89, 3) := by decide +kernel
theorem dX11_vinegar_60 : decode cX11_vinegar 60 = .ok (.iconst 0, 1) := by decide +kernel
theorem dX11_vinegar_61 : decode cX11_vinegar 61 = .ok (.istore 4, 2) := by decide +kernel
theorem dX11_vinegar_63 : decode cX11_vinegar 63 = .ok (.iload 4, 2) := by decide +kernel
theorem dX11_vinegar_65 : decode cX11_vinegar 65 = .ok (.bipush 99, 2) := by decide +kernel
theorem dX11_vinegar_67 : decode cX11_vinegar 67 = .ok (.if_icmp .gt 64, 3) := by decide +kernel
theorem dX11_vinegar_70 : decode cX11_vinegar 70 = .ok (.aload_n 0, 1) := by decide +kernel
theorem dX11_vinegar_71 : decode cX11_vinegar 71 = .ok (.getfield 33, 3) := by decide +kernel
theorem dX11_vinegar_74 : decode cX11_vinegar 74 = .ok (.getfield 139, 3) := by decide +kernel
theorem dX11_vinegar_77 : decode cX11_vinegar 77 = .ok (.getfield 152, 3) := by decide +kernel
theorem dX11_vinegar_80 : decode cX11_vinegar 80 = .ok (.iload_n 1, 1) := by decide +kernel
theorem dX11_vinegar_81 : decode cX11_vinegar 81 = .ok (.iload 4, 2) := by decide +kernel
theorem dX11_vinegar_83 : decode cX11_vinegar 83 = .ok (.iastore, 1) := by decide +kernel
theorem dX11_vinegar_84 : decode cX11_vinegar 84 = .ok (.aload_n 0, 1) := by decide +kernel
theorem dX11_vinegar_85 : decode cX11_vinegar 85 = .ok (.getfield 49, 3) := by decide +kernel
theorem dX11_vinegar_88 : decode cX11_vinegar 88 = .ok (.getfield 260, 3) := by decide +kernel
theorem dX11_vinegar_91 : decode cX11_vinegar 91 = .ok (.iload_n 1, 1) := by decide +kernel
theorem dX11_vinegar_92 : decode cX11_vinegar 92 = .ok (.iload_n 3, 1) := by decide +kernel
theorem dX11_vinegar_93 : decode cX11_vinegar 93 = .ok (.aload_n 0, 1) := by decide +kernel
theorem dX11_vinegar_94 : decode cX11_vinegar 94 = .ok (.getfield 49, 3) := by decide +kernel
theorem dX11_vinegar_97 : decode cX11_vinegar 97 = .ok (.aload_n 0, 1) := by decide +kernel
theorem dX11_vinegar_98 : decode cX11_vinegar 98 = .ok (.getfield 33, 3) := by decide +kernel
theorem dX11_vinegar_101 : decode cX11_vinegar 101 = .ok (.iload_n 1, 1) := by decide +kernel
theorem dX11_vinegar_102 : decode cX11_vinegar 102 = .ok (.invokevirtual 349, 3) := by decide +kernel
theorem dX11_vinegar_105 : decode cX11_vinegar 105 = .ok (.iadd, 1) := by decide +kernel
theorem dX11_vinegar_106 : decode cX11_vinegar 106 = .ok (.iastore, 1) := by decide +kernel
theorem dX11_vinegar_107 : decode cX11_vinegar 107 = .ok (.aload_n 0, 1) := by decide +kernel
theorem dX11_vinegar_108 : decode cX11_vinegar 108 = .ok (.getfield 49, 3) := by decide +kernel
theorem dX11_vinegar_111 : decode cX11_vinegar 111 = .ok (.aload_n 0, 1) := by decide +kernel
theorem dX11_vinegar_112 : decode cX11_vinegar 112 = .ok (.getfield 33, 3) := by decide +kernel
theorem dX11_vinegar_115 : decode cX11_vinegar 115 = .ok (.iload_n 1, 1) := by decide +kernel
theorem dX11_vinegar_116 : decode cX11_vinegar 116 = .ok (.invokevirtual 352, 3) := by decide +kernel
theorem dX11_vinegar_119 : decode cX11_vinegar 119 = .ok (.ifCond .ne 6, 3) := by decide +kernel
theorem dX11_vinegar_122 : decode cX11_vinegar 122 = .ok (.iload 4, 2) := by decide +kernel
theorem dX11_vinegar_124 : decode cX11_vinegar 124 = .ok (.ireturn, 1) := by decide +kernel
theorem dX11_vinegar_125 : decode cX11_vinegar 125 = .ok (.iinc 4 1, 3) := by decide +kernel
theorem dX11_vinegar_128 : decode cX11_vinegar 128 = .ok (.goto (-65), 3) := by decide +kernel
theorem dX11_vinegar_131 : decode cX11_vinegar 131 = .ok (.iconst (-1), 1) := by decide +kernel
theorem dX11_vinegar_132 : decode cX11_vinegar 132 = .ok (.ireturn, 1) := by decide +kernel
theorem dX11_betrays_0 : decode cX11_betrays 0 = .ok (.aload_n 0, 1) := by decide +kernel
theorem dX11_betrays_1 : decode cX11_betrays 1 = .ok (.iload_n 1, 1) := by decide +kernel
theorem dX11_betrays_2 : decode cX11_betrays 2 = .ok (.iload_n 2, 1) := by decide +kernel
theorem dX11_betrays_3 : decode cX11_betrays 3 = .ok (.invokevirtual 231, 3) := by decide +kernel
theorem dX11_betrays_6 : decode cX11_betrays 6 = .ok (.iconst 0, 1) := by decide +kernel
theorem dX11_betrays_7 : decode cX11_betrays 7 = .ok (.istore_n 3, 1) := by decide +kernel
theorem dX11_betrays_8 : decode cX11_betrays 8 = .ok (.iload_n 3, 1) := by decide +kernel
theorem dX11_betrays_9 : decode cX11_betrays 9 = .ok (.aload_n 0, 1) := by decide +kernel
theorem dX11_betrays_10 : decode cX11_betrays 10 = .ok (.getfield 29, 3) := by decide +kernel
theorem dX11_betrays_13 : decode cX11_betrays 13 = .ok (.getfield 296, 3) := by decide +kernel
theorem dX11_betrays_16 : decode cX11_betrays 16 = .ok (.if_icmp .ge 53, 3) := by decide +kernel
theorem dX11_betrays_19 : decode cX11_betrays 19 = .ok (.aload_n 0, 1) := by decide +kernel
theorem dX11_betrays_20 : decode cX11_betrays 20 = .ok (.getfield 49, 3) := by decide +kernel
theorem dX11_betrays_23 : decode cX11_betrays 23 = .ok (.aload_n 0, 1) := by decide +kernel
theorem dX11_betrays_24 : decode cX11_betrays 24 = .ok (.getfield 29, 3) := by decide +kernel
theorem dX11_betrays_27 : decode cX11_betrays 27 = .ok (.iload_n 3, 1) := by decide +kernel
theorem dX11_betrays_28 : decode cX11_betrays 28 = .ok (.aload_n 0, 1) := by decide +kernel
theorem dX11_betrays_29 : decode cX11_betrays 29 = .ok (.getfield 29, 3) := by decide +kernel
theorem dX11_betrays_32 : decode cX11_betrays 32 = .ok (.getfield 189, 3) := by decide +kernel
theorem dX11_betrays_35 : decode cX11_betrays 35 = .ok (.invokevirtual 256, 3) := by decide +kernel
theorem dX11_betrays_38 : decode cX11_betrays 38 = .ok (.aload_n 0, 1) := by decide +kernel
theorem dX11_betrays_39 : decode cX11_betrays 39 = .ok (.getfield 49, 3) := by decide +kernel
theorem dX11_betrays_42 : decode cX11_betrays 42 = .ok (.getfield 356, 3) := by decide +kernel
theorem dX11_betrays_45 : decode cX11_betrays 45 = .ok (.iload_n 1, 1) := by decide +kernel
theorem dX11_betrays_46 : decode cX11_betrays 46 = .ok (.iaload, 1) := by decide +kernel
theorem dX11_betrays_47 : decode cX11_betrays 47 = .ok (.ifCond .le 16, 3) := by decide +kernel
theorem dX11_betrays_50 : decode cX11_betrays 50 = .ok (.aload_n 0, 1) := by decide +kernel
theorem dX11_betrays_51 : decode cX11_betrays 51 = .ok (.getfield 49, 3) := by decide +kernel
theorem dX11_betrays_54 : decode cX11_betrays 54 = .ok (.iload_n 2, 1) := by decide +kernel
theorem dX11_betrays_55 : decode cX11_betrays 55 = .ok (.invokevirtual 270, 3) := by decide +kernel
theorem dX11_betrays_58 : decode cX11_betrays 58 = .ok (.ifCond .eq 5, 3) := by decide +kernel
theorem dX11_betrays_61 : decode cX11_betrays 61 = .ok (.iconst 1, 1) := by decide +kernel
theorem dX11_betrays_62 : decode cX11_betrays 62 = .ok (.ireturn, 1) := by decide +kernel
theorem dX11_betrays_63 : decode cX11_betrays 63 = .ok (.iinc 3 1, 3) := by decide +kernel
theorem dX11_betrays_66 : decode cX11_betrays 66 = .ok (.goto (-58), 3) := by decide +kernel
theorem dX11_betrays_69 : decode cX11_betrays 69 = .ok (.iconst 0, 1) := by decide +kernel
theorem dX11_betrays_70 : decode cX11_betrays 70 = .ok (.ireturn, 1) := by decide +kernel
theorem dX11_heats_0 : decode cX11_heats 0 = .ok (.aload_n 0, 1) := by decide +kernel
theorem dX11_heats_1 : decode cX11_heats 1 = .ok (.getfield 33, 3) := by decide +kernel
theorem dX11_heats_4 : decode cX11_heats 4 = .ok (.aload_n 0, 1) := by decide +kernel
theorem dX11_heats_5 : decode cX11_heats 5 = .ok (.getfield 29, 3) := by decide +kernel
theorem dX11_heats_8 : decode cX11_heats 8 = .ok (.invokevirtual 89, 3) := by decide +kernel
theorem dX11_heats_11 : decode cX11_heats 11 = .ok (.iconst 0, 1) := by decide +kernel
theorem dX11_heats_12 : decode cX11_heats 12 = .ok (.istore_n 1, 1) := by decide +kernel
theorem dX11_heats_13 : decode cX11_heats 13 = .ok (.iconst (-1), 1) := by decide +kernel
theorem dX11_heats_14 : decode cX11_heats 14 = .ok (.istore_n 2, 1) := by decide +kernel
theorem dX11_heats_15 : decode cX11_heats 15 = .ok (.iconst 0, 1) := by decide +kernel
theorem dX11_heats_16 : decode cX11_heats 16 = .ok (.istore_n 3, 1) := by decide +kernel
theorem dX11_heats_17 : decode cX11_heats 17 = .ok (.iload_n 3, 1) := by decide +kernel
theorem dX11_heats_18 : decode cX11_heats 18 = .ok (.bipush 9, 2) := by decide +kernel
theorem dX11_heats_20 : decode cX11_heats 20 = .ok (.if_icmp .gt 41, 3) := by decide +kernel
theorem dX11_heats_23 : decode cX11_heats 23 = .ok (.aload_n 0, 1) := by decide +kernel
theorem dX11_heats_24 : decode cX11_heats 24 = .ok (.getfield 33, 3) := by decide +kernel
theorem dX11_heats_27 : decode cX11_heats 27 = .ok (.iload_n 3, 1) := by decide +kernel
theorem dX11_heats_28 : decode cX11_heats 28 = .ok (.putfield 248, 3) := by decide +kernel
theorem dX11_heats_31 : decode cX11_heats 31 = .ok (.aload_n 0, 1) := by decide +kernel
theorem dX11_heats_32 : decode cX11_heats 32 = .ok (.getfield 49, 3) := by decide +kernel
theorem dX11_heats_35 : decode cX11_heats 35 = .ok (.aload_n 0, 1) := by decide +kernel
theorem dX11_heats_36 : decode cX11_heats 36 = .ok (.getfield 33, 3) := by decide +kernel
theorem dX11_heats_39 : decode cX11_heats 39 = .ok (.invokevirtual 357, 3) := by decide +kernel
theorem dX11_heats_42 : decode cX11_heats 42 = .ok (.istore 4, 2) := by decide +kernel
theorem dX11_heats_44 : decode cX11_heats 44 = .ok (.iload 4, 2) := by decide +kernel
theorem dX11_heats_46 : decode cX11_heats 46 = .ok (.iload_n 2, 1) := by decide +kernel
theorem dX11_heats_47 : decode cX11_heats 47 = .ok (.if_icmp .le 8, 3) := by decide +kernel
theorem dX11_heats_50 : decode cX11_heats 50 = .ok (.iload_n 3, 1) := by decide +kernel
theorem dX11_heats_51 : decode cX11_heats 51 = .ok (.istore_n 1, 1) := by decide +kernel
theorem dX11_heats_52 : decode cX11_heats 52 = .ok (.iload 4, 2) := by decide +kernel
theorem dX11_heats_54 : decode cX11_heats 54 = .ok (.istore_n 2, 1) := by decide +kernel
theorem dX11_heats_55 : decode cX11_heats 55 = .ok (.iinc 3 1, 3) := by decide +kernel
theorem dX11_heats_58 : decode cX11_heats 58 = .ok (.goto (-41), 3) := by decide +kernel
theorem dX11_heats_61 : decode cX11_heats 61 = .ok (.iload_n 1, 1) := by decide +kernel
theorem dX11_heats_62 : decode cX11_heats 62 = .ok (.ireturn, 1) := by decide +kernel
theorem dX11_couples_0 : decode cX11_couples 0 = .ok (.iload_n 1, 1) := by decide +kernel
theorem dX11_couples_1 : decode cX11_couples 1 = .ok (.iconst (-1), 1) := by decide +kernel
theorem dX11_couples_2 : decode cX11_couples 2 = .ok (.if_icmp .eq 8, 3) := by decide +kernel
theorem dX11_couples_5 : decode cX11_couples 5 = .ok (.aload_n 0, 1) := by decide +kernel
theorem dX11_couples_6 : decode cX11_couples 6 = .ok (.iload_n 1, 1) := by decide +kernel
theorem dX11_couples_7 : decode cX11_couples 7 = .ok (.invokevirtual 207, 3) := by decide +kernel
theorem dX11_couples_10 : decode cX11_couples 10 = .ok (.aload_n 0, 1) := by decide +kernel
theorem dX11_couples_11 : decode cX11_couples 11 = .ok (.getfield 70, 3) := by decide +kernel
theorem dX11_couples_14 : decode cX11_couples 14 = .ok (.aload_n 0, 1) := by decide +kernel
theorem dX11_couples_15 : decode cX11_couples 15 = .ok (.getfield 29, 3) := by decide +kernel
theorem dX11_couples_18 : decode cX11_couples 18 = .ok (.invokevirtual 361, 3) := by decide +kernel
theorem dX11_couples_21 : decode cX11_couples 21 = .ok (.iload_n 1, 1) := by decide +kernel
theorem dX11_couples_22 : decode cX11_couples 22 = .ok (.iconst (-1), 1) := by decide +kernel
theorem dX11_couples_23 : decode cX11_couples 23 = .ok (.if_icmp .ne 13, 3) := by decide +kernel
theorem dX11_couples_26 : decode cX11_couples 26 = .ok (.aload_n 0, 1) := by decide +kernel
theorem dX11_couples_27 : decode cX11_couples 27 = .ok (.getfield 70, 3) := by decide +kernel
theorem dX11_couples_30 : decode cX11_couples 30 = .ok (.getfield 363, 3) := by decide +kernel
theorem dX11_couples_33 : decode cX11_couples 33 = .ok (.goto 12, 3) := by decide +kernel
theorem dX11_couples_36 : decode cX11_couples 36 = .ok (.aload_n 0, 1) := by decide +kernel
theorem dX11_couples_37 : decode cX11_couples 37 = .ok (.getfield 70, 3) := by decide +kernel
theorem dX11_couples_40 : decode cX11_couples 40 = .ok (.getfield 366, 3) := by decide +kernel
theorem dX11_couples_43 : decode cX11_couples 43 = .ok (.iload_n 1, 1) := by decide +kernel
theorem dX11_couples_44 : decode cX11_couples 44 = .ok (.iaload, 1) := by decide +kernel
theorem dX11_couples_45 : decode cX11_couples 45 = .ok (.ireturn, 1) := by decide +kernel
theorem dX11_between_0 : decode cX11_between 0 = .ok (.aload_n 0, 1) := by decide +kernel
theorem dX11_between_1 : decode cX11_between 1 = .ok (.iload_n 1, 1) := by decide +kernel
theorem dX11_between_2 : decode cX11_between 2 = .ok (.iload_n 2, 1) := by decide +kernel
theorem dX11_between_3 : decode cX11_between 3 = .ok (.invokevirtual 231, 3) := by decide +kernel
theorem dX11_between_6 : decode cX11_between 6 = .ok (.aload_n 0, 1) := by decide +kernel
theorem dX11_between_7 : decode cX11_between 7 = .ok (.getfield 29, 3) := by decide +kernel
theorem dX11_between_10 : decode cX11_between 10 = .ok (.getfield 139, 3) := by decide +kernel
theorem dX11_between_13 : decode cX11_between 13 = .ok (.getfield 158, 3) := by decide +kernel
theorem dX11_between_16 : decode cX11_between 16 = .ok (.iload_n 1, 1) := by decide +kernel
theorem dX11_between_17 : decode cX11_between 17 = .ok (.iaload, 1) := by decide +kernel
theorem dX11_between_18 : decode cX11_between 18 = .ok (.aload_n 0, 1) := by decide +kernel
theorem dX11_between_19 : decode cX11_between 19 = .ok (.getfield 29, 3) := by decide +kernel
theorem dX11_between_22 : decode cX11_between 22 = .ok (.getfield 139, 3) := by decide +kernel
theorem dX11_between_25 : decode cX11_between 25 = .ok (.getfield 158, 3) := by decide +kernel
theorem dX11_between_28 : decode cX11_between 28 = .ok (.iload_n 2, 1) := by decide +kernel
theorem dX11_between_29 : decode cX11_between 29 = .ok (.iaload, 1) := by decide +kernel
theorem dX11_between_30 : decode cX11_between 30 = .ok (.invokestatic 240, 3) := by decide +kernel
theorem dX11_between_33 : decode cX11_between 33 = .ok (.istore_n 3, 1) := by decide +kernel
theorem dX11_between_34 : decode cX11_between 34 = .ok (.aload_n 0, 1) := by decide +kernel
theorem dX11_between_35 : decode cX11_between 35 = .ok (.getfield 29, 3) := by decide +kernel
theorem dX11_between_38 : decode cX11_between 38 = .ok (.getfield 139, 3) := by decide +kernel
theorem dX11_between_41 : decode cX11_between 41 = .ok (.getfield 158, 3) := by decide +kernel
theorem dX11_between_44 : decode cX11_between 44 = .ok (.iload_n 1, 1) := by decide +kernel
theorem dX11_between_45 : decode cX11_between 45 = .ok (.iaload, 1) := by decide +kernel
theorem dX11_between_46 : decode cX11_between 46 = .ok (.aload_n 0, 1) := by decide +kernel
theorem dX11_between_47 : decode cX11_between 47 = .ok (.getfield 29, 3) := by decide +kernel
theorem dX11_between_50 : decode cX11_between 50 = .ok (.getfield 139, 3) := by decide +kernel
theorem dX11_between_53 : decode cX11_between 53 = .ok (.getfield 158, 3) := by decide +kernel
theorem dX11_between_56 : decode cX11_between 56 = .ok (.iload_n 2, 1) := by decide +kernel
theorem dX11_between_57 : decode cX11_between 57 = .ok (.iaload, 1) := by decide +kernel
theorem dX11_between_58 : decode cX11_between 58 = .ok (.invokestatic 367, 3) := by decide +kernel
theorem dX11_between_61 : decode cX11_between 61 = .ok (.istore 4, 2) := by decide +kernel
theorem dX11_between_63 : decode cX11_between 63 = .ok (.iconst 0, 1) := by decide +kernel
theorem dX11_between_64 : decode cX11_between 64 = .ok (.istore 5, 2) := by decide +kernel
theorem dX11_between_66 : decode cX11_between 66 = .ok (.iload_n 3, 1) := by decide +kernel
theorem dX11_between_67 : decode cX11_between 67 = .ok (.iconst 1, 1) := by decide +kernel
theorem dX11_between_68 : decode cX11_between 68 = .ok (.iadd, 1) := by decide +kernel
theorem dX11_between_69 : decode cX11_between 69 = .ok (.istore 6, 2) := by decide +kernel
theorem dX11_between_71 : decode cX11_between 71 = .ok (.iload 6, 2) := by decide +kernel
theorem dX11_between_73 : decode cX11_between 73 = .ok (.iload 4, 2) := by decide +kernel
theorem dX11_between_75 : decode cX11_between 75 = .ok (.if_icmp .ge 29, 3) := by decide +kernel
theorem dX11_between_78 : decode cX11_between 78 = .ok (.iload 5, 2) := by decide +kernel
theorem dX11_between_80 : decode cX11_between 80 = .ok (.iconst 1, 1) := by decide +kernel
theorem dX11_between_81 : decode cX11_between 81 = .ok (.aload_n 0, 1) := by decide +kernel
theorem dX11_between_82 : decode cX11_between 82 = .ok (.getfield 29, 3) := by decide +kernel
theorem dX11_between_85 : decode cX11_between 85 = .ok (.getfield 139, 3) := by decide +kernel
theorem dX11_between_88 : decode cX11_between 88 = .ok (.getfield 216, 3) := by decide +kernel
theorem dX11_between_91 : decode cX11_between 91 = .ok (.iload 6, 2) := by decide +kernel
theorem dX11_between_93 : decode cX11_between 93 = .ok (.iaload, 1) := by decide +kernel
theorem dX11_between_94 : decode cX11_between 94 = .ok (.ishl, 1) := by decide +kernel
theorem dX11_between_95 : decode cX11_between 95 = .ok (.ior, 1) := by decide +kernel
theorem dX11_between_96 : decode cX11_between 96 = .ok (.istore 5, 2) := by decide +kernel
theorem dX11_between_98 : decode cX11_between 98 = .ok (.iinc 6 1, 3) := by decide +kernel
theorem dX11_between_101 : decode cX11_between 101 = .ok (.goto (-30), 3) := by decide +kernel
theorem dX11_between_104 : decode cX11_between 104 = .ok (.iload 5, 2) := by decide +kernel
theorem dX11_between_106 : decode cX11_between 106 = .ok (.ireturn, 1) := by decide +kernel
theorem dX11_alone_0 : decode cX11_alone 0 = .ok (.iconst 0, 1) := by decide +kernel
theorem dX11_alone_1 : decode cX11_alone 1 = .ok (.istore_n 1, 1) := by decide +kernel
theorem dX11_alone_2 : decode cX11_alone 2 = .ok (.iconst 0, 1) := by decide +kernel
theorem dX11_alone_3 : decode cX11_alone 3 = .ok (.istore_n 2, 1) := by decide +kernel
theorem dX11_alone_4 : decode cX11_alone 4 = .ok (.iload_n 2, 1) := by decide +kernel
theorem dX11_alone_5 : decode cX11_alone 5 = .ok (.aload_n 0, 1) := by decide +kernel
theorem dX11_alone_6 : decode cX11_alone 6 = .ok (.getfield 29, 3) := by decide +kernel
theorem dX11_alone_9 : decode cX11_alone 9 = .ok (.getfield 296, 3) := by decide +kernel
theorem dX11_alone_12 : decode cX11_alone 12 = .ok (.if_icmp .ge 37, 3) := by decide +kernel
theorem dX11_alone_15 : decode cX11_alone 15 = .ok (.aload_n 0, 1) := by decide +kernel
theorem dX11_alone_16 : decode cX11_alone 16 = .ok (.getfield 29, 3) := by decide +kernel
theorem dX11_alone_19 : decode cX11_alone 19 = .ok (.getfield 204, 3) := by decide +kernel
theorem dX11_alone_22 : decode cX11_alone 22 = .ok (.iload_n 2, 1) := by decide +kernel
theorem dX11_alone_23 : decode cX11_alone 23 = .ok (.iaload, 1) := by decide +kernel
theorem dX11_alone_24 : decode cX11_alone 24 = .ok (.invokestatic 334, 3) := by decide +kernel
theorem dX11_alone_27 : decode cX11_alone 27 = .ok (.iconst 1, 1) := by decide +kernel
theorem dX11_alone_28 : decode cX11_alone 28 = .ok (.if_icmp .ne 15, 3) := by decide +kernel
theorem dX11_alone_31 : decode cX11_alone 31 = .ok (.iload_n 1, 1) := by decide +kernel
theorem dX11_alone_32 : decode cX11_alone 32 = .ok (.aload_n 0, 1) := by decide +kernel
theorem dX11_alone_33 : decode cX11_alone 33 = .ok (.getfield 29, 3) := by decide +kernel
theorem dX11_alone_36 : decode cX11_alone 36 = .ok (.getfield 204, 3) := by decide +kernel
theorem dX11_alone_39 : decode cX11_alone 39 = .ok (.iload_n 2, 1) := by decide +kernel
theorem dX11_alone_40 : decode cX11_alone 40 = .ok (.iaload, 1) := by decide +kernel
theorem dX11_alone_41 : decode cX11_alone 41 = .ok (.ior, 1) := by decide +kernel
theorem dX11_alone_42 : decode cX11_alone 42 = .ok (.istore_n 1, 1) := by decide +kernel
theorem dX11_alone_43 : decode cX11_alone 43 = .ok (.iinc 2 1, 3) := by decide +kernel
theorem dX11_alone_46 : decode cX11_alone 46 = .ok (.goto (-42), 3) := by decide +kernel
theorem dX11_alone_49 : decode cX11_alone 49 = .ok (.iload_n 1, 1) := by decide +kernel
theorem dX11_alone_50 : decode cX11_alone 50 = .ok (.ireturn, 1) := by decide +kernel
theorem dX11_rests_0 : decode cX11_rests 0 = .ok (.aload_n 0, 1) := by decide +kernel
theorem dX11_rests_1 : decode cX11_rests 1 = .ok (.iload_n 1, 1) := by decide +kernel
theorem dX11_rests_2 : decode cX11_rests 2 = .ok (.invokevirtual 136, 3) := by decide +kernel
theorem dX11_rests_5 : decode cX11_rests 5 = .ok (.aload_n 0, 1) := by decide +kernel
theorem dX11_rests_6 : decode cX11_rests 6 = .ok (.iload_n 2, 1) := by decide +kernel
theorem dX11_rests_7 : decode cX11_rests 7 = .ok (.invokevirtual 201, 3) := by decide +kernel
theorem dX11_rests_10 : decode cX11_rests 10 = .ok (.aload_n 0, 1) := by decide +kernel
theorem dX11_rests_11 : decode cX11_rests 11 = .ok (.getfield 49, 3) := by decide +kernel
theorem dX11_rests_14 : decode cX11_rests 14 = .ok (.aload_n 0, 1) := by decide +kernel
theorem dX11_rests_15 : decode cX11_rests 15 = .ok (.getfield 29, 3) := by decide +kernel
theorem dX11_rests_18 : decode cX11_rests 18 = .ok (.iload_n 2, 1) := by decide +kernel
theorem dX11_rests_19 : decode cX11_rests 19 = .ok (.aload_n 0, 1) := by decide +kernel
theorem dX11_rests_20 : decode cX11_rests 20 = .ok (.getfield 29, 3) := by decide +kernel
theorem dX11_rests_23 : decode cX11_rests 23 = .ok (.getfield 189, 3) := by decide +kernel
theorem dX11_rests_26 : decode cX11_rests 26 = .ok (.invokevirtual 256, 3) := by decide +kernel
theorem dX11_rests_29 : decode cX11_rests 29 = .ok (.aload_n 0, 1) := by decide +kernel
theorem dX11_rests_30 : decode cX11_rests 30 = .ok (.getfield 29, 3) := by decide +kernel
theorem dX11_rests_33 : decode cX11_rests 33 = .ok (.getfield 139, 3) := by decide +kernel
theorem dX11_rests_36 : decode cX11_rests 36 = .ok (.getfield 149, 3) := by decide +kernel
theorem dX11_rests_39 : decode cX11_rests 39 = .ok (.iload_n 1, 1) := by decide +kernel
theorem dX11_rests_40 : decode cX11_rests 40 = .ok (.iaload, 1) := by decide +kernel
theorem dX11_rests_41 : decode cX11_rests 41 = .ok (.istore_n 3, 1) := by decide +kernel
theorem dX11_rests_42 : decode cX11_rests 42 = .ok (.aload_n 0, 1) := by decide +kernel
theorem dX11_rests_43 : decode cX11_rests 43 = .ok (.getfield 49, 3) := by decide +kernel
theorem dX11_rests_46 : decode cX11_rests 46 = .ok (.getfield 260, 3) := by decide +kernel
theorem dX11_rests_49 : decode cX11_rests 49 = .ok (.iload_n 1, 1) := by decide +kernel
theorem dX11_rests_50 : decode cX11_rests 50 = .ok (.iaload, 1) := by decide +kernel
theorem dX11_rests_51 : decode cX11_rests 51 = .ok (.istore 4, 2) := by decide +kernel
theorem dX11_rests_53 : decode cX11_rests 53 = .ok (.aload_n 0, 1) := by decide +kernel
theorem dX11_rests_54 : decode cX11_rests 54 = .ok (.getfield 49, 3) := by decide +kernel
theorem dX11_rests_57 : decode cX11_rests 57 = .ok (.getfield 356, 3) := by decide +kernel
theorem dX11_rests_60 : decode cX11_rests 60 = .ok (.iload_n 1, 1) := by decide +kernel
theorem dX11_rests_61 : decode cX11_rests 61 = .ok (.iaload, 1) := by decide +kernel
theorem dX11_rests_62 : decode cX11_rests 62 = .ok (.istore 5, 2) := by decide +kernel
theorem dX11_rests_64 : decode cX11_rests 64 = .ok (.iconst 0, 1) := by decide +kernel
theorem dX11_rests_65 : decode cX11_rests 65 = .ok (.istore 6, 2) := by decide +kernel
theorem dX11_rests_67 : decode cX11_rests 67 = .ok (.iconst 0, 1) := by decide +kernel
theorem dX11_rests_68 : decode cX11_rests 68 = .ok (.istore 7, 2) := by decide +kernel
theorem dX11_rests_70 : decode cX11_rests 70 = .ok (.iload 7, 2) := by decide +kernel
theorem dX11_rests_72 : decode cX11_rests 72 = .ok (.iconst 1, 1) := by decide +kernel
theorem dX11_rests_73 : decode cX11_rests 73 = .ok (.if_icmp .gt 110, 3) := by decide +kernel
theorem dX11_rests_76 : decode cX11_rests 76 = .ok (.iconst 0, 1) := by decide +kernel
theorem dX11_rests_77 : decode cX11_rests 77 = .ok (.istore 8, 2) := by decide +kernel
theorem dX11_rests_79 : decode cX11_rests 79 = .ok (.iload 8, 2) := by decide +kernel
theorem dX11_rests_81 : decode cX11_rests 81 = .ok (.iconst 1, 1) := by decide +kernel
theorem dX11_rests_82 : decode cX11_rests 82 = .ok (.if_icmp .gt 95, 3) := by decide +kernel
theorem dX11_rests_85 : decode cX11_rests 85 = .ok (.iload 7, 2) := by decide +kernel
theorem dX11_rests_87 : decode cX11_rests 87 = .ok (.iload 8, 2) := by decide +kernel
theorem dX11_rests_89 : decode cX11_rests 89 = .ok (.iload_n 3, 1) := by decide +kernel
theorem dX11_rests_90 : decode cX11_rests 90 = .ok (.iload 4, 2) := by decide +kernel
theorem dX11_rests_92 : decode cX11_rests 92 = .ok (.invokestatic 370, 3) := by decide +kernel
theorem dX11_rests_95 : decode cX11_rests 95 = .ok (.iconst 1, 1) := by decide +kernel
theorem dX11_rests_96 : decode cX11_rests 96 = .ok (.iload 7, 2) := by decide +kernel
theorem dX11_rests_98 : decode cX11_rests 98 = .ok (.isub, 1) := by decide +kernel
theorem dX11_rests_99 : decode cX11_rests 99 = .ok (.iload 8, 2) := by decide +kernel
theorem dX11_rests_101 : decode cX11_rests 101 = .ok (.iload_n 3, 1) := by decide +kernel
theorem dX11_rests_102 : decode cX11_rests 102 = .ok (.iload 4, 2) := by decide +kernel
theorem dX11_rests_104 : decode cX11_rests 104 = .ok (.invokestatic 370, 3) := by decide +kernel
theorem dX11_rests_107 : decode cX11_rests 107 = .ok (.if_icmp .lt 7, 3) := by decide +kernel
theorem dX11_rests_110 : decode cX11_rests 110 = .ok (.iconst 1, 1) := by decide +kernel
theorem dX11_rests_111 : decode cX11_rests 111 = .ok (.goto 4, 3) := by decide +kernel
theorem dX11_rests_114 : decode cX11_rests 114 = .ok (.iconst 0, 1) := by decide +kernel
theorem dX11_rests_115 : decode cX11_rests 115 = .ok (.istore 9, 2) := by decide +kernel
theorem dX11_rests_117 : decode cX11_rests 117 = .ok (.iload 7, 2) := by decide +kernel
theorem dX11_rests_119 : decode cX11_rests 119 = .ok (.iload 8, 2) := by decide +kernel
theorem dX11_rests_121 : decode cX11_rests 121 = .ok (.iload 5, 2) := by decide +kernel
theorem dX11_rests_123 : decode cX11_rests 123 = .ok (.invokestatic 373, 3) := by decide +kernel
theorem dX11_rests_126 : decode cX11_rests 126 = .ok (.iload 7, 2) := by decide +kernel
theorem dX11_rests_128 : decode cX11_rests 128 = .ok (.iconst 1, 1) := by decide +kernel
theorem dX11_rests_129 : decode cX11_rests 129 = .ok (.iload 8, 2) := by decide +kernel
theorem dX11_rests_131 : decode cX11_rests 131 = .ok (.isub, 1) := by decide +kernel
theorem dX11_rests_132 : decode cX11_rests 132 = .ok (.iload 5, 2) := by decide +kernel
theorem dX11_rests_134 : decode cX11_rests 134 = .ok (.invokestatic 373, 3) := by decide +kernel
theorem dX11_rests_137 : decode cX11_rests 137 = .ok (.if_icmp .lt 7, 3) := by decide +kernel
theorem dX11_rests_140 : decode cX11_rests 140 = .ok (.iconst 1, 1) := by decide +kernel
theorem dX11_rests_141 : decode cX11_rests 141 = .ok (.goto 4, 3) := by decide +kernel
theorem dX11_rests_144 : decode cX11_rests 144 = .ok (.iconst 0, 1) := by decide +kernel
theorem dX11_rests_145 : decode cX11_rests 145 = .ok (.istore 10, 2) := by decide +kernel
theorem dX11_rests_147 : decode cX11_rests 147 = .ok (.iload 9, 2) := by decide +kernel
theorem dX11_rests_149 : decode cX11_rests 149 = .ok (.ifCond .eq 22, 3) := by decide +kernel
theorem dX11_rests_152 : decode cX11_rests 152 = .ok (.iload 10, 2) := by decide +kernel
theorem dX11_rests_154 : decode cX11_rests 154 = .ok (.ifCond .eq 17, 3) := by decide +kernel
theorem dX11_rests_157 : decode cX11_rests 157 = .ok (.iload 6, 2) := by decide +kernel
theorem dX11_rests_159 : decode cX11_rests 159 = .ok (.iconst 1, 1) := by decide +kernel
theorem dX11_rests_160 : decode cX11_rests 160 = .ok (.iconst 2, 1) := by decide +kernel
theorem dX11_rests_161 : decode cX11_rests 161 = .ok (.iload 7, 2) := by decide +kernel
theorem dX11_rests_163 : decode cX11_rests 163 = .ok (.imul, 1) := by decide +kernel
theorem dX11_rests_164 : decode cX11_rests 164 = .ok (.iload 8, 2) := by decide +kernel
theorem dX11_rests_166 : decode cX11_rests 166 = .ok (.iadd, 1) := by decide +kernel
theorem dX11_rests_167 : decode cX11_rests 167 = .ok (.ishl, 1) := by decide +kernel
theorem dX11_rests_168 : decode cX11_rests 168 = .ok (.ior, 1) := by decide +kernel
theorem dX11_rests_169 : decode cX11_rests 169 = .ok (.istore 6, 2) := by decide +kernel
theorem dX11_rests_171 : decode cX11_rests 171 = .ok (.iinc 8 1, 3) := by decide +kernel
theorem dX11_rests_174 : decode cX11_rests 174 = .ok (.goto (-95), 3) := by decide +kernel
theorem dX11_rests_177 : decode cX11_rests 177 = .ok (.iinc 7 1, 3) := by decide +kernel
theorem dX11_rests_180 : decode cX11_rests 180 = .ok (.goto (-110), 3) := by decide +kernel
theorem dX11_rests_183 : decode cX11_rests 183 = .ok (.iload 6, 2) := by decide +kernel
theorem dX11_rests_185 : decode cX11_rests 185 = .ok (.ireturn, 1) := by decide +kernel
theorem dX11_odds_0 : decode cX11_odds 0 = .ok (.iload_n 1, 1) := by decide +kernel
theorem dX11_odds_1 : decode cX11_odds 1 = .ok (.ifCond .lt 17, 3) := by decide +kernel
theorem dX11_odds_4 : decode cX11_odds 4 = .ok (.iload_n 1, 1) := by decide +kernel
theorem dX11_odds_5 : decode cX11_odds 5 = .ok (.iconst 5, 1) := by decide +kernel
theorem dX11_odds_6 : decode cX11_odds 6 = .ok (.if_icmp .gt 12, 3) := by decide +kernel
theorem dX11_odds_9 : decode cX11_odds 9 = .ok (.iload_n 2, 1) := by decide +kernel
theorem dX11_odds_10 : decode cX11_odds 10 = .ok (.ifCond .lt 8, 3) := by decide +kernel
theorem dX11_odds_13 : decode cX11_odds 13 = .ok (.iload_n 2, 1) := by decide +kernel
theorem dX11_odds_14 : decode cX11_odds 14 = .ok (.iconst 5, 1) := by decide +kernel
theorem dX11_odds_15 : decode cX11_odds 15 = .ok (.if_icmp .le 13, 3) := by decide +kernel
theorem dX11_odds_18 : decode cX11_odds 18 = .ok (.new 106, 3) := by decide +kernel
theorem dX11_odds_21 : decode cX11_odds 21 = .ok (.dup, 1) := by decide +kernel
theorem dX11_odds_22 : decode cX11_odds 22 = .ok (.ldc 219, 2) := by decide +kernel
theorem dX11_odds_24 : decode cX11_odds 24 = .ok (.invokespecial 110, 3) := by decide +kernel
theorem dX11_odds_27 : decode cX11_odds 27 = .ok (.athrow, 1) := by decide +kernel
theorem dX11_odds_28 : decode cX11_odds 28 = .ok (.lconst 0, 1) := by decide +kernel
theorem dX11_odds_29 : decode cX11_odds 29 = .ok (.lstore_n 3, 1) := by decide +kernel
theorem dX11_odds_30 : decode cX11_odds 30 = .ok (.lconst 1, 1) := by decide +kernel
theorem dX11_odds_31 : decode cX11_odds 31 = .ok (.lstore 5, 2) := by decide +kernel
theorem dX11_odds_33 : decode cX11_odds 33 = .ok (.iconst 0, 1) := by decide +kernel
theorem dX11_odds_34 : decode cX11_odds 34 = .ok (.istore 7, 2) := by decide +kernel
theorem dX11_odds_36 : decode cX11_odds 36 = .ok (.iload 7, 2) := by decide +kernel
theorem dX11_odds_38 : decode cX11_odds 38 = .ok (.iload_n 1, 1) := by decide +kernel
theorem dX11_odds_39 : decode cX11_odds 39 = .ok (.if_icmp .ge 17, 3) := by decide +kernel
theorem dX11_odds_42 : decode cX11_odds 42 = .ok (.lload 5, 2) := by decide +kernel
theorem dX11_odds_44 : decode cX11_odds 44 = .ok (.ldc2_w 376, 3) := by decide +kernel
theorem dX11_odds_47 : decode cX11_odds 47 = .ok (.lmul, 1) := by decide +kernel
theorem dX11_odds_48 : decode cX11_odds 48 = .ok (.lstore 5, 2) := by decide +kernel
theorem dX11_odds_50 : decode cX11_odds 50 = .ok (.iinc 7 1, 3) := by decide +kernel
theorem dX11_odds_53 : decode cX11_odds 53 = .ok (.goto (-17), 3) := by decide +kernel
theorem dX11_odds_56 : decode cX11_odds 56 = .ok (.iload_n 2, 1) := by decide +kernel
theorem dX11_odds_57 : decode cX11_odds 57 = .ok (.istore 7, 2) := by decide +kernel
theorem dX11_odds_59 : decode cX11_odds 59 = .ok (.iload 7, 2) := by decide +kernel
theorem dX11_odds_61 : decode cX11_odds 61 = .ok (.iload_n 1, 1) := by decide +kernel
theorem dX11_odds_62 : decode cX11_odds 62 = .ok (.if_icmp .gt 19, 3) := by decide +kernel
theorem dX11_odds_65 : decode cX11_odds 65 = .ok (.lload_n 3, 1) := by decide +kernel
theorem dX11_odds_66 : decode cX11_odds 66 = .ok (.aload_n 0, 1) := by decide +kernel
theorem dX11_odds_67 : decode cX11_odds 67 = .ok (.iload_n 1, 1) := by decide +kernel
theorem dX11_odds_68 : decode cX11_odds 68 = .ok (.iload 7, 2) := by decide +kernel
theorem dX11_odds_70 : decode cX11_odds 70 = .ok (.invokevirtual 378, 3) := by decide +kernel
theorem dX11_odds_73 : decode cX11_odds 73 = .ok (.ladd, 1) := by decide +kernel
theorem dX11_odds_74 : decode cX11_odds 74 = .ok (.lstore_n 3, 1) := by decide +kernel
theorem dX11_odds_75 : decode cX11_odds 75 = .ok (.iinc 7 1, 3) := by decide +kernel
theorem dX11_odds_78 : decode cX11_odds 78 = .ok (.goto (-19), 3) := by decide +kernel
theorem dX11_odds_81 : decode cX11_odds 81 = .ok (.lload_n 3, 1) := by decide +kernel
theorem dX11_odds_82 : decode cX11_odds 82 = .ok (.ldc2_w 382, 3) := by decide +kernel
theorem dX11_odds_85 : decode cX11_odds 85 = .ok (.lmul, 1) := by decide +kernel
theorem dX11_odds_86 : decode cX11_odds 86 = .ok (.lload 5, 2) := by decide +kernel
theorem dX11_odds_88 : decode cX11_odds 88 = .ok (.ldiv, 1) := by decide +kernel
theorem dX11_odds_89 : decode cX11_odds 89 = .ok (.l2i, 1) := by decide +kernel
theorem dX11_odds_90 : decode cX11_odds 90 = .ok (.ireturn, 1) := by decide +kernel
theorem dX11_weightiest_0 : decode cX11_weightiest 0 = .ok (.iconst (-1), 1) := by decide +kernel
theorem dX11_weightiest_1 : decode cX11_weightiest 1 = .ok (.istore_n 1, 1) := by decide +kernel
theorem dX11_weightiest_2 : decode cX11_weightiest 2 = .ok (.iconst 0, 1) := by decide +kernel
theorem dX11_weightiest_3 : decode cX11_weightiest 3 = .ok (.istore_n 2, 1) := by decide +kernel
theorem dX11_weightiest_4 : decode cX11_weightiest 4 = .ok (.iload_n 2, 1) := by decide +kernel
theorem dX11_weightiest_5 : decode cX11_weightiest 5 = .ok (.aload_n 0, 1) := by decide +kernel
theorem dX11_weightiest_6 : decode cX11_weightiest 6 = .ok (.getfield 29, 3) := by decide +kernel
theorem dX11_weightiest_9 : decode cX11_weightiest 9 = .ok (.getfield 384, 3) := by decide +kernel
theorem dX11_weightiest_12 : decode cX11_weightiest 12 = .ok (.if_icmp .ge 37, 3) := by decide +kernel
theorem dX11_weightiest_15 : decode cX11_weightiest 15 = .ok (.iload_n 1, 1) := by decide +kernel
theorem dX11_weightiest_16 : decode cX11_weightiest 16 = .ok (.iconst (-1), 1) := by decide +kernel
theorem dX11_weightiest_17 : decode cX11_weightiest 17 = .ok (.if_icmp .eq 24, 3) := by decide +kernel
theorem dX11_weightiest_20 : decode cX11_weightiest 20 = .ok (.aload_n 0, 1) := by decide +kernel
theorem dX11_weightiest_21 : decode cX11_weightiest 21 = .ok (.getfield 29, 3) := by decide +kernel
theorem dX11_weightiest_24 : decode cX11_weightiest 24 = .ok (.getfield 183, 3) := by decide +kernel
theorem dX11_weightiest_27 : decode cX11_weightiest 27 = .ok (.iload_n 2, 1) := by decide +kernel
theorem dX11_weightiest_28 : decode cX11_weightiest 28 = .ok (.iaload, 1) := by decide +kernel
theorem dX11_weightiest_29 : decode cX11_weightiest 29 = .ok (.aload_n 0, 1) := by decide +kernel
theorem dX11_weightiest_30 : decode cX11_weightiest 30 = .ok (.getfield 29, 3) := by decide +kernel
theorem dX11_weightiest_33 : decode cX11_weightiest 33 = .ok (.getfield 183, 3) := by decide +kernel
theorem dX11_weightiest_36 : decode cX11_weightiest 36 = .ok (.iload_n 1, 1) := by decide +kernel
theorem dX11_weightiest_37 : decode cX11_weightiest 37 = .ok (.iaload, 1) := by decide +kernel
theorem dX11_weightiest_38 : decode cX11_weightiest 38 = .ok (.if_icmp .le 5, 3) := by decide +kernel
theorem dX11_weightiest_41 : decode cX11_weightiest 41 = .ok (.iload_n 2, 1) := by decide +kernel
theorem dX11_weightiest_42 : decode cX11_weightiest 42 = .ok (.istore_n 1, 1) := by decide +kernel
theorem dX11_weightiest_43 : decode cX11_weightiest 43 = .ok (.iinc 2 1, 3) := by decide +kernel
theorem dX11_weightiest_46 : decode cX11_weightiest 46 = .ok (.goto (-42), 3) := by decide +kernel
theorem dX11_weightiest_49 : decode cX11_weightiest 49 = .ok (.iload_n 1, 1) := by decide +kernel
theorem dX11_weightiest_50 : decode cX11_weightiest 50 = .ok (.ireturn, 1) := by decide +kernel
theorem dX11_twins_0 : decode cX11_twins 0 = .ok (.aload_n 0, 1) := by decide +kernel
theorem dX11_twins_1 : decode cX11_twins 1 = .ok (.getfield 29, 3) := by decide +kernel
theorem dX11_twins_4 : decode cX11_twins 4 = .ok (.getfield 139, 3) := by decide +kernel
theorem dX11_twins_7 : decode cX11_twins 7 = .ok (.astore_n 1, 1) := by decide +kernel
theorem dX11_twins_8 : decode cX11_twins 8 = .ok (.iconst 0, 1) := by decide +kernel
theorem dX11_twins_9 : decode cX11_twins 9 = .ok (.istore_n 2, 1) := by decide +kernel
theorem dX11_twins_10 : decode cX11_twins 10 = .ok (.iconst 0, 1) := by decide +kernel
theorem dX11_twins_11 : decode cX11_twins 11 = .ok (.istore_n 3, 1) := by decide +kernel
theorem dX11_twins_12 : decode cX11_twins 12 = .ok (.iload_n 3, 1) := by decide +kernel
theorem dX11_twins_13 : decode cX11_twins 13 = .ok (.aload_n 1, 1) := by decide +kernel
theorem dX11_twins_14 : decode cX11_twins 14 = .ok (.getfield 263, 3) := by decide +kernel
theorem dX11_twins_17 : decode cX11_twins 17 = .ok (.if_icmp .ge 64, 3) := by decide +kernel
theorem dX11_twins_20 : decode cX11_twins 20 = .ok (.iload_n 3, 1) := by decide +kernel
theorem dX11_twins_21 : decode cX11_twins 21 = .ok (.iconst 1, 1) := by decide +kernel
theorem dX11_twins_22 : decode cX11_twins 22 = .ok (.iadd, 1) := by decide +kernel
theorem dX11_twins_23 : decode cX11_twins 23 = .ok (.istore 4, 2) := by decide +kernel
theorem dX11_twins_25 : decode cX11_twins 25 = .ok (.iload 4, 2) := by decide +kernel
theorem dX11_twins_27 : decode cX11_twins 27 = .ok (.aload_n 1, 1) := by decide +kernel
theorem dX11_twins_28 : decode cX11_twins 28 = .ok (.getfield 263, 3) := by decide +kernel
theorem dX11_twins_31 : decode cX11_twins 31 = .ok (.if_icmp .ge 44, 3) := by decide +kernel
theorem dX11_twins_34 : decode cX11_twins 34 = .ok (.aload_n 1, 1) := by decide +kernel
theorem dX11_twins_35 : decode cX11_twins 35 = .ok (.getfield 143, 3) := by decide +kernel
theorem dX11_twins_38 : decode cX11_twins 38 = .ok (.iload_n 3, 1) := by decide +kernel
theorem dX11_twins_39 : decode cX11_twins 39 = .ok (.iaload, 1) := by decide +kernel
theorem dX11_twins_40 : decode cX11_twins 40 = .ok (.aload_n 1, 1) := by decide +kernel
theorem dX11_twins_41 : decode cX11_twins 41 = .ok (.getfield 143, 3) := by decide +kernel
theorem dX11_twins_44 : decode cX11_twins 44 = .ok (.iload 4, 2) := by decide +kernel
theorem dX11_twins_46 : decode cX11_twins 46 = .ok (.iaload, 1) := by decide +kernel
theorem dX11_twins_47 : decode cX11_twins 47 = .ok (.if_icmp .ne 22, 3) := by decide +kernel
theorem dX11_twins_50 : decode cX11_twins 50 = .ok (.aload_n 1, 1) := by decide +kernel
theorem dX11_twins_51 : decode cX11_twins 51 = .ok (.getfield 149, 3) := by decide +kernel
theorem dX11_twins_54 : decode cX11_twins 54 = .ok (.iload_n 3, 1) := by decide +kernel
theorem dX11_twins_55 : decode cX11_twins 55 = .ok (.iaload, 1) := by decide +kernel
theorem dX11_twins_56 : decode cX11_twins 56 = .ok (.aload_n 1, 1) := by decide +kernel
theorem dX11_twins_57 : decode cX11_twins 57 = .ok (.getfield 149, 3) := by decide +kernel
theorem dX11_twins_60 : decode cX11_twins 60 = .ok (.iload 4, 2) := by decide +kernel
theorem dX11_twins_62 : decode cX11_twins 62 = .ok (.iaload, 1) := by decide +kernel
theorem dX11_twins_63 : decode cX11_twins 63 = .ok (.if_icmp .ne 6, 3) := by decide +kernel
theorem dX11_twins_66 : decode cX11_twins 66 = .ok (.iinc 2 1, 3) := by decide +kernel
theorem dX11_twins_69 : decode cX11_twins 69 = .ok (.iinc 4 1, 3) := by decide +kernel
theorem dX11_twins_72 : decode cX11_twins 72 = .ok (.goto (-47), 3) := by decide +kernel
theorem dX11_twins_75 : decode cX11_twins 75 = .ok (.iinc 3 1, 3) := by decide +kernel
theorem dX11_twins_78 : decode cX11_twins 78 = .ok (.goto (-66), 3) := by decide +kernel
theorem dX11_twins_81 : decode cX11_twins 81 = .ok (.iload_n 2, 1) := by decide +kernel
theorem dX11_twins_82 : decode cX11_twins 82 = .ok (.ireturn, 1) := by decide +kernel
theorem dX11_blind_0 : decode cX11_blind 0 = .ok (.iconst 0, 1) := by decide +kernel
theorem dX11_blind_1 : decode cX11_blind 1 = .ok (.istore_n 1, 1) := by decide +kernel
theorem dX11_blind_2 : decode cX11_blind 2 = .ok (.iconst 0, 1) := by decide +kernel
theorem dX11_blind_3 : decode cX11_blind 3 = .ok (.istore_n 2, 1) := by decide +kernel
theorem dX11_blind_4 : decode cX11_blind 4 = .ok (.iload_n 2, 1) := by decide +kernel
theorem dX11_blind_5 : decode cX11_blind 5 = .ok (.aload_n 0, 1) := by decide +kernel
theorem dX11_blind_6 : decode cX11_blind 6 = .ok (.getfield 29, 3) := by decide +kernel
theorem dX11_blind_9 : decode cX11_blind 9 = .ok (.getfield 296, 3) := by decide +kernel
theorem dX11_blind_12 : decode cX11_blind 12 = .ok (.if_icmp .ge 42, 3) := by decide +kernel
theorem dX11_blind_15 : decode cX11_blind 15 = .ok (.aload_n 0, 1) := by decide +kernel
theorem dX11_blind_16 : decode cX11_blind 16 = .ok (.getfield 49, 3) := by decide +kernel
theorem dX11_blind_19 : decode cX11_blind 19 = .ok (.aload_n 0, 1) := by decide +kernel
theorem dX11_blind_20 : decode cX11_blind 20 = .ok (.getfield 29, 3) := by decide +kernel
theorem dX11_blind_23 : decode cX11_blind 23 = .ok (.iload_n 2, 1) := by decide +kernel
theorem dX11_blind_24 : decode cX11_blind 24 = .ok (.aload_n 0, 1) := by decide +kernel
theorem dX11_blind_25 : decode cX11_blind 25 = .ok (.getfield 29, 3) := by decide +kernel
theorem dX11_blind_28 : decode cX11_blind 28 = .ok (.getfield 189, 3) := by decide +kernel
theorem dX11_blind_31 : decode cX11_blind 31 = .ok (.invokevirtual 256, 3) := by decide +kernel
theorem dX11_blind_34 : decode cX11_blind 34 = .ok (.iload_n 1, 1) := by decide +kernel
theorem dX11_blind_35 : decode cX11_blind 35 = .ok (.aload_n 0, 1) := by decide +kernel
theorem dX11_blind_36 : decode cX11_blind 36 = .ok (.getfield 49, 3) := by decide +kernel
theorem dX11_blind_39 : decode cX11_blind 39 = .ok (.aload_n 0, 1) := by decide +kernel
theorem dX11_blind_40 : decode cX11_blind 40 = .ok (.getfield 29, 3) := by decide +kernel
theorem dX11_blind_43 : decode cX11_blind 43 = .ok (.invokevirtual 387, 3) := by decide +kernel
theorem dX11_blind_46 : decode cX11_blind 46 = .ok (.ior, 1) := by decide +kernel
theorem dX11_blind_47 : decode cX11_blind 47 = .ok (.istore_n 1, 1) := by decide +kernel
theorem dX11_blind_48 : decode cX11_blind 48 = .ok (.iinc 2 1, 3) := by decide +kernel
theorem dX11_blind_51 : decode cX11_blind 51 = .ok (.goto (-47), 3) := by decide +kernel
theorem dX11_blind_54 : decode cX11_blind 54 = .ok (.iconst 1, 1) := by decide +kernel
theorem dX11_blind_55 : decode cX11_blind 55 = .ok (.aload_n 0, 1) := by decide +kernel
theorem dX11_blind_56 : decode cX11_blind 56 = .ok (.getfield 29, 3) := by decide +kernel
theorem dX11_blind_59 : decode cX11_blind 59 = .ok (.getfield 327, 3) := by decide +kernel
theorem dX11_blind_62 : decode cX11_blind 62 = .ok (.ishl, 1) := by decide +kernel
theorem dX11_blind_63 : decode cX11_blind 63 = .ok (.iconst 1, 1) := by decide +kernel
theorem dX11_blind_64 : decode cX11_blind 64 = .ok (.isub, 1) := by decide +kernel
theorem dX11_blind_65 : decode cX11_blind 65 = .ok (.iload_n 1, 1) := by decide +kernel
theorem dX11_blind_66 : decode cX11_blind 66 = .ok (.iconst (-1), 1) := by decide +kernel
theorem dX11_blind_67 : decode cX11_blind 67 = .ok (.ixor, 1) := by decide +kernel
theorem dX11_blind_68 : decode cX11_blind 68 = .ok (.iand, 1) := by decide +kernel
theorem dX11_blind_69 : decode cX11_blind 69 = .ok (.ireturn, 1) := by decide +kernel
theorem dX11_so_0 : decode cX11_so 0 = .ok (.aload_n 0, 1) := by decide +kernel
theorem dX11_so_1 : decode cX11_so 1 = .ok (.getfield 29, 3) := by decide +kernel
theorem dX11_so_4 : decode cX11_so 4 = .ok (.getfield 189, 3) := by decide +kernel
theorem dX11_so_7 : decode cX11_so 7 = .ok (.ireturn, 1) := by decide +kernel
theorem dX11_ahead_0 : decode cX11_ahead 0 = .ok (.aload_n 0, 1) := by decide +kernel
theorem dX11_ahead_1 : decode cX11_ahead 1 = .ok (.iload_n 1, 1) := by decide +kernel
theorem dX11_ahead_2 : decode cX11_ahead 2 = .ok (.invokevirtual 136, 3) := by decide +kernel
theorem dX11_ahead_5 : decode cX11_ahead 5 = .ok (.aload_n 0, 1) := by decide +kernel
theorem dX11_ahead_6 : decode cX11_ahead 6 = .ok (.iload_n 2, 1) := by decide +kernel
theorem dX11_ahead_7 : decode cX11_ahead 7 = .ok (.invokevirtual 390, 3) := by decide +kernel
theorem dX11_ahead_10 : decode cX11_ahead 10 = .ok (.aload_n 0, 1) := by decide +kernel
theorem dX11_ahead_11 : decode cX11_ahead 11 = .ok (.getfield 33, 3) := by decide +kernel
theorem dX11_ahead_14 : decode cX11_ahead 14 = .ok (.aload_n 0, 1) := by decide +kernel
theorem dX11_ahead_15 : decode cX11_ahead 15 = .ok (.getfield 29, 3) := by decide +kernel
theorem dX11_ahead_18 : decode cX11_ahead 18 = .ok (.invokevirtual 89, 3) := by decide +kernel
theorem dX11_ahead_21 : decode cX11_ahead 21 = .ok (.iconst 0, 1) := by decide +kernel
theorem dX11_ahead_22 : decode cX11_ahead 22 = .ok (.istore_n 3, 1) := by decide +kernel
theorem dX11_ahead_23 : decode cX11_ahead 23 = .ok (.iload_n 3, 1) := by decide +kernel
theorem dX11_ahead_24 : decode cX11_ahead 24 = .ok (.iload_n 2, 1) := by decide +kernel
theorem dX11_ahead_25 : decode cX11_ahead 25 = .ok (.if_icmp .ge 20, 3) := by decide +kernel
theorem dX11_ahead_28 : decode cX11_ahead 28 = .ok (.aload_n 0, 1) := by decide +kernel
theorem dX11_ahead_29 : decode cX11_ahead 29 = .ok (.getfield 49, 3) := by decide +kernel
theorem dX11_ahead_32 : decode cX11_ahead 32 = .ok (.aload_n 0, 1) := by decide +kernel
theorem dX11_ahead_33 : decode cX11_ahead 33 = .ok (.getfield 33, 3) := by decide +kernel
theorem dX11_ahead_36 : decode cX11_ahead 36 = .ok (.invokevirtual 280, 3) := by decide +kernel
theorem dX11_ahead_39 : decode cX11_ahead 39 = .ok (.iinc 3 1, 3) := by decide +kernel
theorem dX11_ahead_42 : decode cX11_ahead 42 = .ok (.goto (-19), 3) := by decide +kernel
theorem dX11_ahead_45 : decode cX11_ahead 45 = .ok (.aload_n 0, 1) := by decide +kernel
theorem dX11_ahead_46 : decode cX11_ahead 46 = .ok (.getfield 33, 3) := by decide +kernel
theorem dX11_ahead_49 : decode cX11_ahead 49 = .ok (.getfield 139, 3) := by decide +kernel
theorem dX11_ahead_52 : decode cX11_ahead 52 = .ok (.getfield 155, 3) := by decide +kernel
theorem dX11_ahead_55 : decode cX11_ahead 55 = .ok (.iload_n 1, 1) := by decide +kernel
theorem dX11_ahead_56 : decode cX11_ahead 56 = .ok (.iaload, 1) := by decide +kernel
theorem dX11_ahead_57 : decode cX11_ahead 57 = .ok (.ireturn, 1) := by decide +kernel
theorem dX11_trial_0 : decode cX11_trial 0 = .ok (.aload_n 0, 1) := by decide +kernel
theorem dX11_trial_1 : decode cX11_trial 1 = .ok (.iload_n 1, 1) := by decide +kernel
theorem dX11_trial_2 : decode cX11_trial 2 = .ok (.invokevirtual 390, 3) := by decide +kernel
theorem dX11_trial_5 : decode cX11_trial 5 = .ok (.aload_n 0, 1) := by decide +kernel
theorem dX11_trial_6 : decode cX11_trial 6 = .ok (.getfield 33, 3) := by decide +kernel
theorem dX11_trial_9 : decode cX11_trial 9 = .ok (.aload_n 0, 1) := by decide +kernel
theorem dX11_trial_10 : decode cX11_trial 10 = .ok (.getfield 29, 3) := by decide +kernel
theorem dX11_trial_13 : decode cX11_trial 13 = .ok (.invokevirtual 89, 3) := by decide +kernel
theorem dX11_trial_16 : decode cX11_trial 16 = .ok (.aload_n 0, 1) := by decide +kernel
theorem dX11_trial_17 : decode cX11_trial 17 = .ok (.getfield 49, 3) := by decide +kernel
theorem dX11_trial_20 : decode cX11_trial 20 = .ok (.aload_n 0, 1) := by decide +kernel
theorem dX11_trial_21 : decode cX11_trial 21 = .ok (.getfield 33, 3) := by decide +kernel
theorem dX11_trial_24 : decode cX11_trial 24 = .ok (.iload_n 1, 1) := by decide +kernel
theorem dX11_trial_25 : decode cX11_trial 25 = .ok (.invokevirtual 224, 3) := by decide +kernel
theorem dX11_trial_28 : decode cX11_trial 28 = .ok (.pop, 1) := by decide +kernel
theorem dX11_trial_29 : decode cX11_trial 29 = .ok (.iload_n 2, 1) := by decide +kernel
theorem dX11_trial_30 : decode cX11_trial 30 = .ok (.ifCond .eq 16, 3) := by decide +kernel
theorem dX11_trial_33 : decode cX11_trial 33 = .ok (.aload_n 0, 1) := by decide +kernel
theorem dX11_trial_34 : decode cX11_trial 34 = .ok (.getfield 33, 3) := by decide +kernel
theorem dX11_trial_37 : decode cX11_trial 37 = .ok (.getfield 139, 3) := by decide +kernel
theorem dX11_trial_40 : decode cX11_trial 40 = .ok (.invokevirtual 277, 3) := by decide +kernel
theorem dX11_trial_43 : decode cX11_trial 43 = .ok (.goto 13, 3) := by decide +kernel
theorem dX11_trial_46 : decode cX11_trial 46 = .ok (.aload_n 0, 1) := by decide +kernel
theorem dX11_trial_47 : decode cX11_trial 47 = .ok (.getfield 33, 3) := by decide +kernel
theorem dX11_trial_50 : decode cX11_trial 50 = .ok (.getfield 139, 3) := by decide +kernel
theorem dX11_trial_53 : decode cX11_trial 53 = .ok (.invokevirtual 393, 3) := by decide +kernel
theorem dX11_trial_56 : decode cX11_trial 56 = .ok (.ireturn, 1) := by decide +kernel
theorem dX11_span_0 : decode cX11_span 0 = .ok (.aload_n 0, 1) := by decide +kernel
theorem dX11_span_1 : decode cX11_span 1 = .ok (.iload_n 1, 1) := by decide +kernel
theorem dX11_span_2 : decode cX11_span 2 = .ok (.invokevirtual 390, 3) := by decide +kernel
theorem dX11_span_5 : decode cX11_span 5 = .ok (.aload_n 0, 1) := by decide +kernel
theorem dX11_span_6 : decode cX11_span 6 = .ok (.getfield 29, 3) := by decide +kernel
theorem dX11_span_9 : decode cX11_span 9 = .ok (.getfield 139, 3) := by decide +kernel
theorem dX11_span_12 : decode cX11_span 12 = .ok (.getfield 263, 3) := by decide +kernel
theorem dX11_span_15 : decode cX11_span 15 = .ok (.ifCond .ne 5, 3) := by decide +kernel
theorem dX11_span_18 : decode cX11_span 18 = .ok (.iconst 0, 1) := by decide +kernel
theorem dX11_span_19 : decode cX11_span 19 = .ok (.ireturn, 1) := by decide +kernel
theorem dX11_span_20 : decode cX11_span 20 = .ok (.iload_n 2, 1) := by decide +kernel
theorem dX11_span_21 : decode cX11_span 21 = .ok (.ifCond .eq 7, 3) := by decide +kernel
theorem dX11_span_24 : decode cX11_span 24 = .ok (.iconst 0, 1) := by decide +kernel
theorem dX11_span_25 : decode cX11_span 25 = .ok (.goto 5, 3) := by decide +kernel
theorem dX11_span_28 : decode cX11_span 28 = .ok (.bipush 99, 2) := by decide +kernel
theorem dX11_span_30 : decode cX11_span 30 = .ok (.istore_n 3, 1) := by decide +kernel
theorem dX11_span_31 : decode cX11_span 31 = .ok (.iconst 1, 1) := by decide +kernel
theorem dX11_span_32 : decode cX11_span 32 = .ok (.istore 4, 2) := by decide +kernel
theorem dX11_span_34 : decode cX11_span 34 = .ok (.iload 4, 2) := by decide +kernel
theorem dX11_span_36 : decode cX11_span 36 = .ok (.bipush 6, 2) := by decide +kernel
theorem dX11_span_38 : decode cX11_span 38 = .ok (.if_icmp .gt 101, 3) := by decide +kernel
theorem dX11_span_41 : decode cX11_span 41 = .ok (.aload_n 0, 1) := by decide +kernel
theorem dX11_span_42 : decode cX11_span 42 = .ok (.getfield 33, 3) := by decide +kernel
theorem dX11_span_45 : decode cX11_span 45 = .ok (.aload_n 0, 1) := by decide +kernel
theorem dX11_span_46 : decode cX11_span 46 = .ok (.getfield 29, 3) := by decide +kernel
theorem dX11_span_49 : decode cX11_span 49 = .ok (.invokevirtual 89, 3) := by decide +kernel
theorem dX11_span_52 : decode cX11_span 52 = .ok (.aload_n 0, 1) := by decide +kernel
theorem dX11_span_53 : decode cX11_span 53 = .ok (.getfield 33, 3) := by decide +kernel
theorem dX11_span_56 : decode cX11_span 56 = .ok (.iload 4, 2) := by decide +kernel
theorem dX11_span_58 : decode cX11_span 58 = .ok (.putfield 396, 3) := by decide +kernel
theorem dX11_span_61 : decode cX11_span 61 = .ok (.aload_n 0, 1) := by decide +kernel
theorem dX11_span_62 : decode cX11_span 62 = .ok (.getfield 49, 3) := by decide +kernel
theorem dX11_span_65 : decode cX11_span 65 = .ok (.aload_n 0, 1) := by decide +kernel
theorem dX11_span_66 : decode cX11_span 66 = .ok (.getfield 33, 3) := by decide +kernel
theorem dX11_span_69 : decode cX11_span 69 = .ok (.iload_n 1, 1) := by decide +kernel
theorem dX11_span_70 : decode cX11_span 70 = .ok (.invokevirtual 224, 3) := by decide +kernel
theorem dX11_span_73 : decode cX11_span 73 = .ok (.pop, 1) := by decide +kernel
theorem dX11_span_74 : decode cX11_span 74 = .ok (.iconst 0, 1) := by decide +kernel
theorem dX11_span_75 : decode cX11_span 75 = .ok (.istore 5, 2) := by decide +kernel
theorem dX11_span_77 : decode cX11_span 77 = .ok (.iload 5, 2) := by decide +kernel
theorem dX11_span_79 : decode cX11_span 79 = .ok (.aload_n 0, 1) := by decide +kernel
theorem dX11_span_80 : decode cX11_span 80 = .ok (.getfield 29, 3) := by decide +kernel
theorem dX11_span_83 : decode cX11_span 83 = .ok (.getfield 139, 3) := by decide +kernel
theorem dX11_span_86 : decode cX11_span 86 = .ok (.getfield 263, 3) := by decide +kernel
theorem dX11_span_89 : decode cX11_span 89 = .ok (.if_icmp .ge 44, 3) := by decide +kernel
theorem dX11_span_92 : decode cX11_span 92 = .ok (.aload_n 0, 1) := by decide +kernel
theorem dX11_span_93 : decode cX11_span 93 = .ok (.getfield 33, 3) := by decide +kernel
theorem dX11_span_96 : decode cX11_span 96 = .ok (.getfield 139, 3) := by decide +kernel
theorem dX11_span_99 : decode cX11_span 99 = .ok (.getfield 155, 3) := by decide +kernel
theorem dX11_span_102 : decode cX11_span 102 = .ok (.iload 5, 2) := by decide +kernel
theorem dX11_span_104 : decode cX11_span 104 = .ok (.iaload, 1) := by decide +kernel
theorem dX11_span_105 : decode cX11_span 105 = .ok (.istore 6, 2) := by decide +kernel
theorem dX11_span_107 : decode cX11_span 107 = .ok (.iload_n 2, 1) := by decide +kernel
theorem dX11_span_108 : decode cX11_span 108 = .ok (.ifCond .eq 12, 3) := by decide +kernel
theorem dX11_span_111 : decode cX11_span 111 = .ok (.iload_n 3, 1) := by decide +kernel
theorem dX11_span_112 : decode cX11_span 112 = .ok (.iload 6, 2) := by decide +kernel
theorem dX11_span_114 : decode cX11_span 114 = .ok (.invokestatic 367, 3) := by decide +kernel
theorem dX11_span_117 : decode cX11_span 117 = .ok (.goto 9, 3) := by decide +kernel
theorem dX11_span_120 : decode cX11_span 120 = .ok (.iload_n 3, 1) := by decide +kernel
theorem dX11_span_121 : decode cX11_span 121 = .ok (.iload 6, 2) := by decide +kernel
theorem dX11_span_123 : decode cX11_span 123 = .ok (.invokestatic 240, 3) := by decide +kernel
theorem dX11_span_126 : decode cX11_span 126 = .ok (.istore_n 3, 1) := by decide +kernel
theorem dX11_span_127 : decode cX11_span 127 = .ok (.iinc 5 1, 3) := by decide +kernel
theorem dX11_span_130 : decode cX11_span 130 = .ok (.goto (-53), 3) := by decide +kernel
theorem dX11_span_133 : decode cX11_span 133 = .ok (.iinc 4 1, 3) := by decide +kernel
theorem dX11_span_136 : decode cX11_span 136 = .ok (.goto (-102), 3) := by decide +kernel
theorem dX11_span_139 : decode cX11_span 139 = .ok (.iload_n 3, 1) := by decide +kernel
theorem dX11_span_140 : decode cX11_span 140 = .ok (.ireturn, 1) := by decide +kernel
theorem dX11_led_0 : decode cX11_led 0 = .ok (.aload_n 0, 1) := by decide +kernel
theorem dX11_led_1 : decode cX11_led 1 = .ok (.iload_n 1, 1) := by decide +kernel
theorem dX11_led_2 : decode cX11_led 2 = .ok (.invokevirtual 136, 3) := by decide +kernel
theorem dX11_led_5 : decode cX11_led 5 = .ok (.aload_n 0, 1) := by decide +kernel
theorem dX11_led_6 : decode cX11_led 6 = .ok (.getfield 29, 3) := by decide +kernel
theorem dX11_led_9 : decode cX11_led 9 = .ok (.getfield 399, 3) := by decide +kernel
theorem dX11_led_12 : decode cX11_led 12 = .ok (.astore_n 3, 1) := by decide +kernel
theorem dX11_led_13 : decode cX11_led 13 = .ok (.iconst 0, 1) := by decide +kernel
theorem dX11_led_14 : decode cX11_led 14 = .ok (.istore 4, 2) := by decide +kernel
theorem dX11_led_16 : decode cX11_led 16 = .ok (.iconst (-1), 1) := by decide +kernel
theorem dX11_led_17 : decode cX11_led 17 = .ok (.istore 5, 2) := by decide +kernel
theorem dX11_led_19 : decode cX11_led 19 = .ok (.iconst 0, 1) := by decide +kernel
theorem dX11_led_20 : decode cX11_led 20 = .ok (.istore 6, 2) := by decide +kernel
theorem dX11_led_22 : decode cX11_led 22 = .ok (.iload 6, 2) := by decide +kernel
theorem dX11_led_24 : decode cX11_led 24 = .ok (.aload_n 3, 1) := by decide +kernel
theorem dX11_led_25 : decode cX11_led 25 = .ok (.getfield 403, 3) := by decide +kernel
theorem dX11_led_28 : decode cX11_led 28 = .ok (.if_icmp .ge 42, 3) := by decide +kernel
theorem dX11_led_31 : decode cX11_led 31 = .ok (.aload_n 3, 1) := by decide +kernel
theorem dX11_led_32 : decode cX11_led 32 = .ok (.iload 6, 2) := by decide +kernel
theorem dX11_led_34 : decode cX11_led 34 = .ok (.iconst 1, 1) := by decide +kernel
theorem dX11_led_35 : decode cX11_led 35 = .ok (.invokevirtual 406, 3) := by decide +kernel
theorem dX11_led_38 : decode cX11_led 38 = .ok (.iload_n 1, 1) := by decide +kernel
theorem dX11_led_39 : decode cX11_led 39 = .ok (.if_icmp .ne 25, 3) := by decide +kernel
theorem dX11_led_42 : decode cX11_led 42 = .ok (.iload 4, 2) := by decide +kernel
theorem dX11_led_44 : decode cX11_led 44 = .ok (.ifCond .ne 13, 3) := by decide +kernel
theorem dX11_led_47 : decode cX11_led 47 = .ok (.aload_n 3, 1) := by decide +kernel
theorem dX11_led_48 : decode cX11_led 48 = .ok (.iload 6, 2) := by decide +kernel
theorem dX11_led_50 : decode cX11_led 50 = .ok (.iconst 0, 1) := by decide +kernel
theorem dX11_led_51 : decode cX11_led 51 = .ok (.invokevirtual 406, 3) := by decide +kernel
theorem dX11_led_54 : decode cX11_led 54 = .ok (.goto 5, 3) := by decide +kernel
theorem dX11_led_57 : decode cX11_led 57 = .ok (.iload 5, 2) := by decide +kernel
theorem dX11_led_59 : decode cX11_led 59 = .ok (.istore 5, 2) := by decide +kernel
theorem dX11_led_61 : decode cX11_led 61 = .ok (.iinc 4 1, 3) := by decide +kernel
theorem dX11_led_64 : decode cX11_led 64 = .ok (.iinc 6 1, 3) := by decide +kernel
theorem dX11_led_67 : decode cX11_led 67 = .ok (.goto (-45), 3) := by decide +kernel
theorem dX11_led_70 : decode cX11_led 70 = .ok (.iload_n 2, 1) := by decide +kernel
theorem dX11_led_71 : decode cX11_led 71 = .ok (.ifCond .eq 8, 3) := by decide +kernel
theorem dX11_led_74 : decode cX11_led 74 = .ok (.iload 5, 2) := by decide +kernel
theorem dX11_led_76 : decode cX11_led 76 = .ok (.goto 5, 3) := by decide +kernel
theorem dX11_led_79 : decode cX11_led 79 = .ok (.iload 4, 2) := by decide +kernel
theorem dX11_led_81 : decode cX11_led 81 = .ok (.ireturn, 1) := by decide +kernel
theorem dX11_log_0 : decode cX11_log 0 = .ok (.iload_n 2, 1) := by decide +kernel
theorem dX11_log_1 : decode cX11_log 1 = .ok (.ifCond .lt 8, 3) := by decide +kernel
theorem dX11_log_4 : decode cX11_log 4 = .ok (.iload_n 2, 1) := by decide +kernel
theorem dX11_log_5 : decode cX11_log 5 = .ok (.iconst 4, 1) := by decide +kernel
theorem dX11_log_6 : decode cX11_log 6 = .ok (.if_icmp .le 14, 3) := by decide +kernel
theorem dX11_log_9 : decode cX11_log 9 = .ok (.new 175, 3) := by decide +kernel
theorem dX11_log_12 : decode cX11_log 12 = .ok (.dup, 1) := by decide +kernel
theorem dX11_log_13 : decode cX11_log 13 = .ok (.ldc_w 408, 3) := by decide +kernel
theorem dX11_log_16 : decode cX11_log 16 = .ok (.invokespecial 179, 3) := by decide +kernel
theorem dX11_log_19 : decode cX11_log 19 = .ok (.athrow, 1) := by decide +kernel
theorem dX11_log_20 : decode cX11_log 20 = .ok (.iload_n 1, 1) := by decide +kernel
theorem dX11_log_21 : decode cX11_log 21 = .ok (.ifCond .lt 17, 3) := by decide +kernel
theorem dX11_log_24 : decode cX11_log 24 = .ok (.iload_n 1, 1) := by decide +kernel
theorem dX11_log_25 : decode cX11_log 25 = .ok (.aload_n 0, 1) := by decide +kernel
theorem dX11_log_26 : decode cX11_log 26 = .ok (.getfield 29, 3) := by decide +kernel
theorem dX11_log_29 : decode cX11_log 29 = .ok (.getfield 399, 3) := by decide +kernel
theorem dX11_log_32 : decode cX11_log 32 = .ok (.getfield 403, 3) := by decide +kernel
theorem dX11_log_35 : decode cX11_log 35 = .ok (.if_icmp .lt 6, 3) := by decide +kernel
theorem dX11_log_38 : decode cX11_log 38 = .ok (.bipush (-2), 2) := by decide +kernel
theorem dX11_log_40 : decode cX11_log 40 = .ok (.ireturn, 1) := by decide +kernel
theorem dX11_log_41 : decode cX11_log 41 = .ok (.aload_n 0, 1) := by decide +kernel
theorem dX11_log_42 : decode cX11_log 42 = .ok (.getfield 29, 3) := by decide +kernel
theorem dX11_log_45 : decode cX11_log 45 = .ok (.getfield 399, 3) := by decide +kernel
theorem dX11_log_48 : decode cX11_log 48 = .ok (.iload_n 1, 1) := by decide +kernel
theorem dX11_log_49 : decode cX11_log 49 = .ok (.iload_n 2, 1) := by decide +kernel
theorem dX11_log_50 : decode cX11_log 50 = .ok (.invokevirtual 406, 3) := by decide +kernel
theorem dX11_log_53 : decode cX11_log 53 = .ok (.ireturn, 1) := by decide +kernel
theorem dX11_seed_0 : decode cX11_seed 0 = .ok (.aload_n 0, 1) := by decide +kernel
theorem dX11_seed_1 : decode cX11_seed 1 = .ok (.getfield 29, 3) := by decide +kernel
theorem dX11_seed_4 : decode cX11_seed 4 = .ok (.getfield 396, 3) := by decide +kernel
theorem dX11_seed_7 : decode cX11_seed 7 = .ok (.istore_n 2, 1) := by decide +kernel
theorem dX11_seed_8 : decode cX11_seed 8 = .ok (.aload_n 0, 1) := by decide +kernel
theorem dX11_seed_9 : decode cX11_seed 9 = .ok (.getfield 29, 3) := by decide +kernel
theorem dX11_seed_12 : decode cX11_seed 12 = .ok (.iload_n 1, 1) := by decide +kernel
theorem dX11_seed_13 : decode cX11_seed 13 = .ok (.putfield 396, 3) := by decide +kernel
theorem dX11_seed_16 : decode cX11_seed 16 = .ok (.iload_n 2, 1) := by decide +kernel
theorem dX11_seed_17 : decode cX11_seed 17 = .ok (.ireturn, 1) := by decide +kernel
theorem dX11_undo_0 : decode cX11_undo 0 = .ok (.aload_n 0, 1) := by decide +kernel
theorem dX11_undo_1 : decode cX11_undo 1 = .ok (.getfield 42, 3) := by decide +kernel
theorem dX11_undo_4 : decode cX11_undo 4 = .ok (.aload_n 0, 1) := by decide +kernel
theorem dX11_undo_5 : decode cX11_undo 5 = .ok (.getfield 29, 3) := by decide +kernel
theorem dX11_undo_8 : decode cX11_undo 8 = .ok (.invokevirtual 410, 3) := by decide +kernel
theorem dX11_undo_11 : decode cX11_undo 11 = .ok (.ireturn, 1) := by decide +kernel
theorem dX11_image_0 : decode cX11_image 0 = .ok (.aload_n 0, 1) := by decide +kernel
theorem dX11_image_1 : decode cX11_image 1 = .ok (.getfield 36, 3) := by decide +kernel
theorem dX11_image_4 : decode cX11_image 4 = .ok (.aload_n 0, 1) := by decide +kernel
theorem dX11_image_5 : decode cX11_image 5 = .ok (.getfield 29, 3) := by decide +kernel
theorem dX11_image_8 : decode cX11_image 8 = .ok (.invokevirtual 89, 3) := by decide +kernel
theorem dX11_image_11 : decode cX11_image 11 = .ok (.aload_n 0, 1) := by decide +kernel
theorem dX11_image_12 : decode cX11_image 12 = .ok (.getfield 23, 3) := by decide +kernel
theorem dX11_image_15 : decode cX11_image 15 = .ok (.aload_n 0, 1) := by decide +kernel
theorem dX11_image_16 : decode cX11_image 16 = .ok (.getfield 49, 3) := by decide +kernel
theorem dX11_image_19 : decode cX11_image 19 = .ok (.getfield 127, 3) := by decide +kernel
theorem dX11_image_22 : decode cX11_image 22 = .ok (.invokevirtual 130, 3) := by decide +kernel
theorem dX11_image_25 : decode cX11_image 25 = .ok (.aload_n 0, 1) := by decide +kernel
theorem dX11_image_26 : decode cX11_image 26 = .ok (.iconst 1, 1) := by decide +kernel
theorem dX11_image_27 : decode cX11_image 27 = .ok (.putfield 78, 3) := by decide +kernel
theorem dX11_image_30 : decode cX11_image 30 = .ok (.return_, 1) := by decide +kernel
theorem dX11_back_0 : decode cX11_back 0 = .ok (.aload_n 0, 1) := by decide +kernel
theorem dX11_back_1 : decode cX11_back 1 = .ok (.getfield 78, 3) := by decide +kernel
theorem dX11_back_4 : decode cX11_back 4 = .ok (.ifCond .ne 5, 3) := by decide +kernel
theorem dX11_back_7 : decode cX11_back 7 = .ok (.iconst 0, 1) := by decide +kernel
theorem dX11_back_8 : decode cX11_back 8 = .ok (.ireturn, 1) := by decide +kernel
theorem dX11_back_9 : decode cX11_back 9 = .ok (.aload_n 0, 1) := by decide +kernel
theorem dX11_back_10 : decode cX11_back 10 = .ok (.getfield 29, 3) := by decide +kernel
theorem dX11_back_13 : decode cX11_back 13 = .ok (.aload_n 0, 1) := by decide +kernel
theorem dX11_back_14 : decode cX11_back 14 = .ok (.getfield 36, 3) := by decide +kernel
theorem dX11_back_17 : decode cX11_back 17 = .ok (.invokevirtual 89, 3) := by decide +kernel
theorem dX11_back_20 : decode cX11_back 20 = .ok (.aload_n 0, 1) := by decide +kernel
theorem dX11_back_21 : decode cX11_back 21 = .ok (.getfield 49, 3) := by decide +kernel
theorem dX11_back_24 : decode cX11_back 24 = .ok (.getfield 127, 3) := by decide +kernel
theorem dX11_back_27 : decode cX11_back 27 = .ok (.aload_n 0, 1) := by decide +kernel
theorem dX11_back_28 : decode cX11_back 28 = .ok (.getfield 23, 3) := by decide +kernel
theorem dX11_back_31 : decode cX11_back 31 = .ok (.invokevirtual 130, 3) := by decide +kernel
theorem dX11_back_34 : decode cX11_back 34 = .ok (.aload_n 0, 1) := by decide +kernel
theorem dX11_back_35 : decode cX11_back 35 = .ok (.getfield 42, 3) := by decide +kernel
theorem dX11_back_38 : decode cX11_back 38 = .ok (.invokevirtual 121, 3) := by decide +kernel
theorem dX11_back_41 : decode cX11_back 41 = .ok (.iconst 1, 1) := by decide +kernel
theorem dX11_back_42 : decode cX11_back 42 = .ok (.ireturn, 1) := by decide +kernel
theorem dX11_count_0 : decode cX11_count 0 = .ok (.iload_n 1, 1) := by decide +kernel
theorem dX11_count_1 : decode cX11_count 1 = .ok (.tableswitch 159 0 10 #[59, 70, 78, 86, 94, 102, 113, 121, 129, 140, 151], 59) := by decide +kernel
theorem dX11_count_60 : decode cX11_count 60 = .ok (.aload_n 0, 1) := by decide +kernel
theorem dX11_count_61 : decode cX11_count 61 = .ok (.getfield 29, 3) := by decide +kernel
theorem dX11_count_64 : decode cX11_count 64 = .ok (.getfield 139, 3) := by decide +kernel
theorem dX11_count_67 : decode cX11_count 67 = .ok (.getfield 263, 3) := by decide +kernel
theorem dX11_count_70 : decode cX11_count 70 = .ok (.ireturn, 1) := by decide +kernel
theorem dX11_count_71 : decode cX11_count 71 = .ok (.aload_n 0, 1) := by decide +kernel
theorem dX11_count_72 : decode cX11_count 72 = .ok (.getfield 29, 3) := by decide +kernel
theorem dX11_count_75 : decode cX11_count 75 = .ok (.getfield 384, 3) := by decide +kernel
theorem dX11_count_78 : decode cX11_count 78 = .ok (.ireturn, 1) := by decide +kernel
theorem dX11_count_79 : decode cX11_count 79 = .ok (.aload_n 0, 1) := by decide +kernel
theorem dX11_count_80 : decode cX11_count 80 = .ok (.getfield 29, 3) := by decide +kernel
theorem dX11_count_83 : decode cX11_count 83 = .ok (.getfield 296, 3) := by decide +kernel
theorem dX11_count_86 : decode cX11_count 86 = .ok (.ireturn, 1) := by decide +kernel
theorem dX11_count_87 : decode cX11_count 87 = .ok (.aload_n 0, 1) := by decide +kernel
theorem dX11_count_88 : decode cX11_count 88 = .ok (.getfield 29, 3) := by decide +kernel
theorem dX11_count_91 : decode cX11_count 91 = .ok (.getfield 327, 3) := by decide +kernel
theorem dX11_count_94 : decode cX11_count 94 = .ok (.ireturn, 1) := by decide +kernel
theorem dX11_count_95 : decode cX11_count 95 = .ok (.aload_n 0, 1) := by decide +kernel
theorem dX11_count_96 : decode cX11_count 96 = .ok (.getfield 29, 3) := by decide +kernel
theorem dX11_count_99 : decode cX11_count 99 = .ok (.getfield 113, 3) := by decide +kernel
theorem dX11_count_102 : decode cX11_count 102 = .ok (.ireturn, 1) := by decide +kernel
theorem dX11_count_103 : decode cX11_count 103 = .ok (.aload_n 0, 1) := by decide +kernel
theorem dX11_count_104 : decode cX11_count 104 = .ok (.getfield 49, 3) := by decide +kernel
theorem dX11_count_107 : decode cX11_count 107 = .ok (.getfield 127, 3) := by decide +kernel
theorem dX11_count_110 : decode cX11_count 110 = .ok (.getfield 133, 3) := by decide +kernel
theorem dX11_count_113 : decode cX11_count 113 = .ok (.ireturn, 1) := by decide +kernel
theorem dX11_count_114 : decode cX11_count 114 = .ok (.aload_n 0, 1) := by decide +kernel
theorem dX11_count_115 : decode cX11_count 115 = .ok (.getfield 29, 3) := by decide +kernel
theorem dX11_count_118 : decode cX11_count 118 = .ok (.getfield 414, 3) := by decide +kernel
theorem dX11_count_121 : decode cX11_count 121 = .ok (.ireturn, 1) := by decide +kernel
theorem dX11_count_122 : decode cX11_count 122 = .ok (.aload_n 0, 1) := by decide +kernel
theorem dX11_count_123 : decode cX11_count 123 = .ok (.getfield 29, 3) := by decide +kernel
theorem dX11_count_126 : decode cX11_count 126 = .ok (.getfield 248, 3) := by decide +kernel
theorem dX11_count_129 : decode cX11_count 129 = .ok (.ireturn, 1) := by decide +kernel
theorem dX11_count_130 : decode cX11_count 130 = .ok (.aload_n 0, 1) := by decide +kernel
theorem dX11_count_131 : decode cX11_count 131 = .ok (.getfield 29, 3) := by decide +kernel
theorem dX11_count_134 : decode cX11_count 134 = .ok (.getfield 139, 3) := by decide +kernel
theorem dX11_count_137 : decode cX11_count 137 = .ok (.invokevirtual 277, 3) := by decide +kernel
theorem dX11_count_140 : decode cX11_count 140 = .ok (.ireturn, 1) := by decide +kernel
theorem dX11_count_141 : decode cX11_count 141 = .ok (.aload_n 0, 1) := by decide +kernel
theorem dX11_count_142 : decode cX11_count 142 = .ok (.getfield 29, 3) := by decide +kernel
theorem dX11_count_145 : decode cX11_count 145 = .ok (.getfield 399, 3) := by decide +kernel
theorem dX11_count_148 : decode cX11_count 148 = .ok (.getfield 403, 3) := by decide +kernel
theorem dX11_count_151 : decode cX11_count 151 = .ok (.ireturn, 1) := by decide +kernel
theorem dX11_count_152 : decode cX11_count 152 = .ok (.aload_n 0, 1) := by decide +kernel
theorem dX11_count_153 : decode cX11_count 153 = .ok (.getfield 42, 3) := by decide +kernel
theorem dX11_count_156 : decode cX11_count 156 = .ok (.getfield 417, 3) := by decide +kernel
theorem dX11_count_159 : decode cX11_count 159 = .ok (.ireturn, 1) := by decide +kernel
theorem dX11_count_160 : decode cX11_count 160 = .ok (.iconst (-1), 1) := by decide +kernel
theorem dX11_count_161 : decode cX11_count 161 = .ok (.ireturn, 1) := by decide +kernel
theorem dX11_needWitness_0 : decode cX11_needWitness 0 = .ok (.iload_n 1, 1) := by decide +kernel
theorem dX11_needWitness_1 : decode cX11_needWitness 1 = .ok (.ifCond .lt 17, 3) := by decide +kernel
theorem dX11_needWitness_4 : decode cX11_needWitness 4 = .ok (.iload_n 1, 1) := by decide +kernel
theorem dX11_needWitness_5 : decode cX11_needWitness 5 = .ok (.aload_n 0, 1) := by decide +kernel
theorem dX11_needWitness_6 : decode cX11_needWitness 6 = .ok (.getfield 29, 3) := by decide +kernel
theorem dX11_needWitness_9 : decode cX11_needWitness 9 = .ok (.getfield 139, 3) := by decide +kernel
theorem dX11_needWitness_12 : decode cX11_needWitness 12 = .ok (.getfield 263, 3) := by decide +kernel
theorem dX11_needWitness_15 : decode cX11_needWitness 15 = .ok (.if_icmp .lt 14, 3) := by decide +kernel
theorem dX11_needWitness_18 : decode cX11_needWitness 18 = .ok (.new 418, 3) := by decide +kernel
theorem dX11_needWitness_21 : decode cX11_needWitness 21 = .ok (.dup, 1) := by decide +kernel
theorem dX11_needWitness_22 : decode cX11_needWitness 22 = .ok (.ldc_w 420, 3) := by decide +kernel
theorem dX11_needWitness_25 : decode cX11_needWitness 25 = .ok (.invokespecial 422, 3) := by decide +kernel
theorem dX11_needWitness_28 : decode cX11_needWitness 28 = .ok (.athrow, 1) := by decide +kernel
theorem dX11_needWitness_29 : decode cX11_needWitness 29 = .ok (.return_, 1) := by decide +kernel
theorem dX11_needTwo_0 : decode cX11_needTwo 0 = .ok (.aload_n 0, 1) := by decide +kernel
theorem dX11_needTwo_1 : decode cX11_needTwo 1 = .ok (.iload_n 1, 1) := by decide +kernel
theorem dX11_needTwo_2 : decode cX11_needTwo 2 = .ok (.invokevirtual 136, 3) := by decide +kernel
theorem dX11_needTwo_5 : decode cX11_needTwo 5 = .ok (.aload_n 0, 1) := by decide +kernel
theorem dX11_needTwo_6 : decode cX11_needTwo 6 = .ok (.iload_n 2, 1) := by decide +kernel
theorem dX11_needTwo_7 : decode cX11_needTwo 7 = .ok (.invokevirtual 136, 3) := by decide +kernel
theorem dX11_needTwo_10 : decode cX11_needTwo 10 = .ok (.iload_n 1, 1) := by decide +kernel
theorem dX11_needTwo_11 : decode cX11_needTwo 11 = .ok (.iload_n 2, 1) := by decide +kernel
theorem dX11_needTwo_12 : decode cX11_needTwo 12 = .ok (.if_icmp .ne 14, 3) := by decide +kernel
theorem dX11_needTwo_15 : decode cX11_needTwo 15 = .ok (.new 106, 3) := by decide +kernel
theorem dX11_needTwo_18 : decode cX11_needTwo 18 = .ok (.dup, 1) := by decide +kernel
theorem dX11_needTwo_19 : decode cX11_needTwo 19 = .ok (.ldc_w 423, 3) := by decide +kernel
theorem dX11_needTwo_22 : decode cX11_needTwo 22 = .ok (.invokespecial 110, 3) := by decide +kernel
theorem dX11_needTwo_25 : decode cX11_needTwo 25 = .ok (.athrow, 1) := by decide +kernel
theorem dX11_needTwo_26 : decode cX11_needTwo 26 = .ok (.return_, 1) := by decide +kernel
theorem dX11_needThing_0 : decode cX11_needThing 0 = .ok (.iload_n 1, 1) := by decide +kernel
theorem dX11_needThing_1 : decode cX11_needThing 1 = .ok (.ifCond .lt 14, 3) := by decide +kernel
theorem dX11_needThing_4 : decode cX11_needThing 4 = .ok (.iload_n 1, 1) := by decide +kernel
theorem dX11_needThing_5 : decode cX11_needThing 5 = .ok (.aload_n 0, 1) := by decide +kernel
theorem dX11_needThing_6 : decode cX11_needThing 6 = .ok (.getfield 29, 3) := by decide +kernel
theorem dX11_needThing_9 : decode cX11_needThing 9 = .ok (.getfield 384, 3) := by decide +kernel
theorem dX11_needThing_12 : decode cX11_needThing 12 = .ok (.if_icmp .lt 14, 3) := by decide +kernel
theorem dX11_needThing_15 : decode cX11_needThing 15 = .ok (.new 418, 3) := by decide +kernel
theorem dX11_needThing_18 : decode cX11_needThing 18 = .ok (.dup, 1) := by decide +kernel
theorem dX11_needThing_19 : decode cX11_needThing 19 = .ok (.ldc_w 425, 3) := by decide +kernel
theorem dX11_needThing_22 : decode cX11_needThing 22 = .ok (.invokespecial 422, 3) := by decide +kernel
theorem dX11_needThing_25 : decode cX11_needThing 25 = .ok (.athrow, 1) := by decide +kernel
theorem dX11_needThing_26 : decode cX11_needThing 26 = .ok (.return_, 1) := by decide +kernel
theorem dX11_needQuestion_0 : decode cX11_needQuestion 0 = .ok (.iload_n 1, 1) := by decide +kernel
theorem dX11_needQuestion_1 : decode cX11_needQuestion 1 = .ok (.ifCond .lt 14, 3) := by decide +kernel
theorem dX11_needQuestion_4 : decode cX11_needQuestion 4 = .ok (.iload_n 1, 1) := by decide +kernel
theorem dX11_needQuestion_5 : decode cX11_needQuestion 5 = .ok (.aload_n 0, 1) := by decide +kernel
theorem dX11_needQuestion_6 : decode cX11_needQuestion 6 = .ok (.getfield 29, 3) := by decide +kernel
theorem dX11_needQuestion_9 : decode cX11_needQuestion 9 = .ok (.getfield 296, 3) := by decide +kernel
theorem dX11_needQuestion_12 : decode cX11_needQuestion 12 = .ok (.if_icmp .lt 14, 3) := by decide +kernel
theorem dX11_needQuestion_15 : decode cX11_needQuestion 15 = .ok (.new 418, 3) := by decide +kernel
theorem dX11_needQuestion_18 : decode cX11_needQuestion 18 = .ok (.dup, 1) := by decide +kernel
theorem dX11_needQuestion_19 : decode cX11_needQuestion 19 = .ok (.ldc_w 427, 3) := by decide +kernel
theorem dX11_needQuestion_22 : decode cX11_needQuestion 22 = .ok (.invokespecial 422, 3) := by decide +kernel
theorem dX11_needQuestion_25 : decode cX11_needQuestion 25 = .ok (.athrow, 1) := by decide +kernel
theorem dX11_needQuestion_26 : decode cX11_needQuestion 26 = .ok (.return_, 1) := by decide +kernel
theorem dX11_needWoman_0 : decode cX11_needWoman 0 = .ok (.iload_n 1, 1) := by decide +kernel
theorem dX11_needWoman_1 : decode cX11_needWoman 1 = .ok (.ifCond .lt 14, 3) := by decide +kernel
theorem dX11_needWoman_4 : decode cX11_needWoman 4 = .ok (.iload_n 1, 1) := by decide +kernel
theorem dX11_needWoman_5 : decode cX11_needWoman 5 = .ok (.aload_n 0, 1) := by decide +kernel
theorem dX11_needWoman_6 : decode cX11_needWoman 6 = .ok (.getfield 29, 3) := by decide +kernel
theorem dX11_needWoman_9 : decode cX11_needWoman 9 = .ok (.getfield 327, 3) := by decide +kernel
theorem dX11_needWoman_12 : decode cX11_needWoman 12 = .ok (.if_icmp .lt 14, 3) := by decide +kernel
theorem dX11_needWoman_15 : decode cX11_needWoman 15 = .ok (.new 418, 3) := by decide +kernel
theorem dX11_needWoman_18 : decode cX11_needWoman 18 = .ok (.dup, 1) := by decide +kernel
theorem dX11_needWoman_19 : decode cX11_needWoman 19 = .ok (.ldc_w 429, 3) := by decide +kernel
theorem dX11_needWoman_22 : decode cX11_needWoman 22 = .ok (.invokespecial 422, 3) := by decide +kernel
theorem dX11_needWoman_25 : decode cX11_needWoman 25 = .ok (.athrow, 1) := by decide +kernel
theorem dX11_needWoman_26 : decode cX11_needWoman 26 = .ok (.return_, 1) := by decide +kernel
theorem dX11_needPlace_0 : decode cX11_needPlace 0 = .ok (.iload_n 1, 1) := by decide +kernel
theorem dX11_needPlace_1 : decode cX11_needPlace 1 = .ok (.ifCond .lt 17, 3) := by decide +kernel
theorem dX11_needPlace_4 : decode cX11_needPlace 4 = .ok (.iload_n 1, 1) := by decide +kernel
theorem dX11_needPlace_5 : decode cX11_needPlace 5 = .ok (.aload_n 0, 1) := by decide +kernel
theorem dX11_needPlace_6 : decode cX11_needPlace 6 = .ok (.getfield 29, 3) := by decide +kernel
theorem dX11_needPlace_9 : decode cX11_needPlace 9 = .ok (.getfield 139, 3) := by decide +kernel
theorem dX11_needPlace_12 : decode cX11_needPlace 12 = .ok (.getfield 263, 3) := by decide +kernel
theorem dX11_needPlace_15 : decode cX11_needPlace 15 = .ok (.if_icmp .lt 14, 3) := by decide +kernel
theorem dX11_needPlace_18 : decode cX11_needPlace 18 = .ok (.new 418, 3) := by decide +kernel
theorem dX11_needPlace_21 : decode cX11_needPlace 21 = .ok (.dup, 1) := by decide +kernel
theorem dX11_needPlace_22 : decode cX11_needPlace 22 = .ok (.ldc_w 431, 3) := by decide +kernel
theorem dX11_needPlace_25 : decode cX11_needPlace 25 = .ok (.invokespecial 422, 3) := by decide +kernel
theorem dX11_needPlace_28 : decode cX11_needPlace 28 = .ok (.athrow, 1) := by decide +kernel
theorem dX11_needPlace_29 : decode cX11_needPlace 29 = .ok (.return_, 1) := by decide +kernel
theorem dX11_needAhead_0 : decode cX11_needAhead 0 = .ok (.iload_n 1, 1) := by decide +kernel
theorem dX11_needAhead_1 : decode cX11_needAhead 1 = .ok (.ifCond .lt 9, 3) := by decide +kernel
theorem dX11_needAhead_4 : decode cX11_needAhead 4 = .ok (.iload_n 1, 1) := by decide +kernel
theorem dX11_needAhead_5 : decode cX11_needAhead 5 = .ok (.bipush 60, 2) := by decide +kernel
theorem dX11_needAhead_7 : decode cX11_needAhead 7 = .ok (.if_icmp .le 13, 3) := by decide +kernel
theorem dX11_needAhead_10 : decode cX11_needAhead 10 = .ok (.new 106, 3) := by decide +kernel
theorem dX11_needAhead_13 : decode cX11_needAhead 13 = .ok (.dup, 1) := by decide +kernel
theorem dX11_needAhead_14 : decode cX11_needAhead 14 = .ok (.ldc 219, 2) := by decide +kernel
theorem dX11_needAhead_16 : decode cX11_needAhead 16 = .ok (.invokespecial 110, 3) := by decide +kernel
theorem dX11_needAhead_19 : decode cX11_needAhead 19 = .ok (.athrow, 1) := by decide +kernel
theorem dX11_needAhead_20 : decode cX11_needAhead 20 = .ok (.return_, 1) := by decide +kernel
theorem dX11_needRows_0 : decode cX11_needRows 0 = .ok (.iload_n 1, 1) := by decide +kernel
theorem dX11_needRows_1 : decode cX11_needRows 1 = .ok (.iconst 3, 1) := by decide +kernel
theorem dX11_needRows_2 : decode cX11_needRows 2 = .ok (.idiv, 1) := by decide +kernel
theorem dX11_needRows_3 : decode cX11_needRows 3 = .ok (.istore 5, 2) := by decide +kernel
theorem dX11_needRows_5 : decode cX11_needRows 5 = .ok (.iload_n 1, 1) := by decide +kernel
theorem dX11_needRows_6 : decode cX11_needRows 6 = .ok (.iconst 3, 1) := by decide +kernel
theorem dX11_needRows_7 : decode cX11_needRows 7 = .ok (.irem, 1) := by decide +kernel
theorem dX11_needRows_8 : decode cX11_needRows 8 = .ok (.ifCond .ne 13, 3) := by decide +kernel
theorem dX11_needRows_11 : decode cX11_needRows 11 = .ok (.iload_n 1, 1) := by decide +kernel
theorem dX11_needRows_12 : decode cX11_needRows 12 = .ok (.bipush 45, 2) := by decide +kernel
theorem dX11_needRows_14 : decode cX11_needRows 14 = .ok (.if_icmp .gt 7, 3) := by decide +kernel
theorem dX11_needRows_17 : decode cX11_needRows 17 = .ok (.iconst 1, 1) := by decide +kernel
theorem dX11_needRows_18 : decode cX11_needRows 18 = .ok (.goto 4, 3) := by decide +kernel
theorem dX11_needRows_21 : decode cX11_needRows 21 = .ok (.iconst 0, 1) := by decide +kernel
theorem dX11_needRows_22 : decode cX11_needRows 22 = .ok (.istore 6, 2) := by decide +kernel
theorem dX11_needRows_24 : decode cX11_needRows 24 = .ok (.iconst 0, 1) := by decide +kernel
theorem dX11_needRows_25 : decode cX11_needRows 25 = .ok (.istore 7, 2) := by decide +kernel
theorem dX11_needRows_27 : decode cX11_needRows 27 = .ok (.iload 7, 2) := by decide +kernel
theorem dX11_needRows_29 : decode cX11_needRows 29 = .ok (.iload 5, 2) := by decide +kernel
theorem dX11_needRows_31 : decode cX11_needRows 31 = .ok (.if_icmp .ge 64, 3) := by decide +kernel
theorem dX11_needRows_34 : decode cX11_needRows 34 = .ok (.iload 6, 2) := by decide +kernel
theorem dX11_needRows_36 : decode cX11_needRows 36 = .ok (.ifCond .eq 59, 3) := by decide +kernel
theorem dX11_needRows_39 : decode cX11_needRows 39 = .ok (.aload_n 0, 1) := by decide +kernel
theorem dX11_needRows_40 : decode cX11_needRows 40 = .ok (.getfield 10, 3) := by decide +kernel
theorem dX11_needRows_43 : decode cX11_needRows 43 = .ok (.iload 7, 2) := by decide +kernel
theorem dX11_needRows_45 : decode cX11_needRows 45 = .ok (.iconst 0, 1) := by decide +kernel
theorem dX11_needRows_46 : decode cX11_needRows 46 = .ok (.invokevirtual 433, 3) := by decide +kernel
theorem dX11_needRows_49 : decode cX11_needRows 49 = .ok (.iload_n 2, 1) := by decide +kernel
theorem dX11_needRows_50 : decode cX11_needRows 50 = .ok (.if_icmp .ge 36, 3) := by decide +kernel
theorem dX11_needRows_53 : decode cX11_needRows 53 = .ok (.aload_n 0, 1) := by decide +kernel
theorem dX11_needRows_54 : decode cX11_needRows 54 = .ok (.getfield 10, 3) := by decide +kernel
theorem dX11_needRows_57 : decode cX11_needRows 57 = .ok (.iload 7, 2) := by decide +kernel
theorem dX11_needRows_59 : decode cX11_needRows 59 = .ok (.iconst 1, 1) := by decide +kernel
theorem dX11_needRows_60 : decode cX11_needRows 60 = .ok (.invokevirtual 433, 3) := by decide +kernel
theorem dX11_needRows_63 : decode cX11_needRows 63 = .ok (.iload_n 3, 1) := by decide +kernel
theorem dX11_needRows_64 : decode cX11_needRows 64 = .ok (.if_icmp .ge 22, 3) := by decide +kernel
theorem dX11_needRows_67 : decode cX11_needRows 67 = .ok (.aload_n 0, 1) := by decide +kernel
theorem dX11_needRows_68 : decode cX11_needRows 68 = .ok (.getfield 10, 3) := by decide +kernel
theorem dX11_needRows_71 : decode cX11_needRows 71 = .ok (.iload 7, 2) := by decide +kernel
theorem dX11_needRows_73 : decode cX11_needRows 73 = .ok (.iconst 2, 1) := by decide +kernel
theorem dX11_needRows_74 : decode cX11_needRows 74 = .ok (.invokevirtual 433, 3) := by decide +kernel
theorem dX11_needRows_77 : decode cX11_needRows 77 = .ok (.iload 4, 2) := by decide +kernel
theorem dX11_needRows_79 : decode cX11_needRows 79 = .ok (.if_icmp .gt 7, 3) := by decide +kernel
theorem dX11_needRows_82 : decode cX11_needRows 82 = .ok (.iconst 1, 1) := by decide +kernel
theorem dX11_needRows_83 : decode cX11_needRows 83 = .ok (.goto 4, 3) := by decide +kernel
theorem dX11_needRows_86 : decode cX11_needRows 86 = .ok (.iconst 0, 1) := by decide +kernel
theorem dX11_needRows_87 : decode cX11_needRows 87 = .ok (.istore 6, 2) := by decide +kernel
theorem dX11_needRows_89 : decode cX11_needRows 89 = .ok (.iinc 7 1, 3) := by decide +kernel
theorem dX11_needRows_92 : decode cX11_needRows 92 = .ok (.goto (-65), 3) := by decide +kernel
theorem dX11_needRows_95 : decode cX11_needRows 95 = .ok (.iload 6, 2) := by decide +kernel
theorem dX11_needRows_97 : decode cX11_needRows 97 = .ok (.ifCond .ne 14, 3) := by decide +kernel
theorem dX11_needRows_100 : decode cX11_needRows 100 = .ok (.new 106, 3) := by decide +kernel
theorem dX11_needRows_103 : decode cX11_needRows 103 = .ok (.dup, 1) := by decide +kernel
theorem dX11_needRows_104 : decode cX11_needRows 104 = .ok (.ldc_w 436, 3) := by decide +kernel
theorem dX11_needRows_107 : decode cX11_needRows 107 = .ok (.invokespecial 110, 3) := by decide +kernel
theorem dX11_needRows_110 : decode cX11_needRows 110 = .ok (.athrow, 1) := by decide +kernel
theorem dX11_needRows_111 : decode cX11_needRows 111 = .ok (.iload 5, 2) := by decide +kernel
theorem dX11_needRows_113 : decode cX11_needRows 113 = .ok (.ireturn, 1) := by decide +kernel
theorem dX11_fittingWorlds_0 : decode cX11_fittingWorlds 0 = .ok (.aload_n 0, 1) := by decide +kernel
theorem dX11_fittingWorlds_1 : decode cX11_fittingWorlds 1 = .ok (.aload_n 0, 1) := by decide +kernel
theorem dX11_fittingWorlds_2 : decode cX11_fittingWorlds 2 = .ok (.getfield 10, 3) := by decide +kernel
theorem dX11_fittingWorlds_5 : decode cX11_fittingWorlds 5 = .ok (.invokevirtual 102, 3) := by decide +kernel
theorem dX11_fittingWorlds_8 : decode cX11_fittingWorlds 8 = .ok (.aload_n 0, 1) := by decide +kernel
theorem dX11_fittingWorlds_9 : decode cX11_fittingWorlds 9 = .ok (.getfield 29, 3) := by decide +kernel
theorem dX11_fittingWorlds_12 : decode cX11_fittingWorlds 12 = .ok (.getfield 296, 3) := by decide +kernel
theorem dX11_fittingWorlds_15 : decode cX11_fittingWorlds 15 = .ok (.aload_n 0, 1) := by decide +kernel
theorem dX11_fittingWorlds_16 : decode cX11_fittingWorlds 16 = .ok (.getfield 29, 3) := by decide +kernel
theorem dX11_fittingWorlds_19 : decode cX11_fittingWorlds 19 = .ok (.getfield 139, 3) := by decide +kernel
theorem dX11_fittingWorlds_22 : decode cX11_fittingWorlds 22 = .ok (.getfield 263, 3) := by decide +kernel
theorem dX11_fittingWorlds_25 : decode cX11_fittingWorlds 25 = .ok (.sipush 255, 3) := by decide +kernel
theorem dX11_fittingWorlds_28 : decode cX11_fittingWorlds 28 = .ok (.invokevirtual 330, 3) := by decide +kernel
theorem dX11_fittingWorlds_31 : decode cX11_fittingWorlds 31 = .ok (.istore_n 1, 1) := by decide +kernel
theorem dX11_fittingWorlds_32 : decode cX11_fittingWorlds 32 = .ok (.aload_n 0, 1) := by decide +kernel
theorem dX11_fittingWorlds_33 : decode cX11_fittingWorlds 33 = .ok (.getfield 56, 3) := by decide +kernel
theorem dX11_fittingWorlds_36 : decode cX11_fittingWorlds 36 = .ok (.aload_n 0, 1) := by decide +kernel
theorem dX11_fittingWorlds_37 : decode cX11_fittingWorlds 37 = .ok (.getfield 49, 3) := by decide +kernel
theorem dX11_fittingWorlds_40 : decode cX11_fittingWorlds 40 = .ok (.aload_n 0, 1) := by decide +kernel
theorem dX11_fittingWorlds_41 : decode cX11_fittingWorlds 41 = .ok (.getfield 29, 3) := by decide +kernel
theorem dX11_fittingWorlds_44 : decode cX11_fittingWorlds 44 = .ok (.aload_n 0, 1) := by decide +kernel
theorem dX11_fittingWorlds_45 : decode cX11_fittingWorlds 45 = .ok (.getfield 10, 3) := by decide +kernel
theorem dX11_fittingWorlds_48 : decode cX11_fittingWorlds 48 = .ok (.iload_n 1, 1) := by decide +kernel
theorem dX11_fittingWorlds_49 : decode cX11_fittingWorlds 49 = .ok (.invokevirtual 438, 3) := by decide +kernel
theorem dX11_fittingWorlds_52 : decode cX11_fittingWorlds 52 = .ok (.lreturn, 1) := by decide +kernel
theorem dX11_shareOf_0 : decode cX11_shareOf 0 = .ok (.aload_n 0, 1) := by decide +kernel
theorem dX11_shareOf_1 : decode cX11_shareOf 1 = .ok (.getfield 29, 3) := by decide +kernel
theorem dX11_shareOf_4 : decode cX11_shareOf 4 = .ok (.getfield 139, 3) := by decide +kernel
theorem dX11_shareOf_7 : decode cX11_shareOf 7 = .ok (.invokevirtual 277, 3) := by decide +kernel
theorem dX11_shareOf_10 : decode cX11_shareOf 10 = .ok (.istore_n 2, 1) := by decide +kernel
theorem dX11_shareOf_11 : decode cX11_shareOf 11 = .ok (.iload_n 2, 1) := by decide +kernel
theorem dX11_shareOf_12 : decode cX11_shareOf 12 = .ok (.ifCond .ne 7, 3) := by decide +kernel
theorem dX11_shareOf_15 : decode cX11_shareOf 15 = .ok (.iconst 0, 1) := by decide +kernel
theorem dX11_shareOf_16 : decode cX11_shareOf 16 = .ok (.goto 20, 3) := by decide +kernel
theorem dX11_shareOf_19 : decode cX11_shareOf 19 = .ok (.aload_n 0, 1) := by decide +kernel
theorem dX11_shareOf_20 : decode cX11_shareOf 20 = .ok (.getfield 29, 3) := by decide +kernel
theorem dX11_shareOf_23 : decode cX11_shareOf 23 = .ok (.getfield 139, 3) := by decide +kernel
theorem dX11_shareOf_26 : decode cX11_shareOf 26 = .ok (.getfield 155, 3) := by decide +kernel
theorem dX11_shareOf_29 : decode cX11_shareOf 29 = .ok (.iload_n 1, 1) := by decide +kernel
theorem dX11_shareOf_30 : decode cX11_shareOf 30 = .ok (.iaload, 1) := by decide +kernel
theorem dX11_shareOf_31 : decode cX11_shareOf 31 = .ok (.bipush 100, 2) := by decide +kernel
theorem dX11_shareOf_33 : decode cX11_shareOf 33 = .ok (.imul, 1) := by decide +kernel
theorem dX11_shareOf_34 : decode cX11_shareOf 34 = .ok (.iload_n 2, 1) := by decide +kernel
theorem dX11_shareOf_35 : decode cX11_shareOf 35 = .ok (.idiv, 1) := by decide +kernel
theorem dX11_shareOf_36 : decode cX11_shareOf 36 = .ok (.ireturn, 1) := by decide +kernel
theorem dX11_foundOut_0 : decode cX11_foundOut 0 = .ok (.iconst 0, 1) := by decide +kernel
theorem dX11_foundOut_1 : decode cX11_foundOut 1 = .ok (.istore_n 2, 1) := by decide +kernel
theorem dX11_foundOut_2 : decode cX11_foundOut 2 = .ok (.iconst 0, 1) := by decide +kernel
theorem dX11_foundOut_3 : decode cX11_foundOut 3 = .ok (.istore_n 3, 1) := by decide +kernel
theorem dX11_foundOut_4 : decode cX11_foundOut 4 = .ok (.iload_n 3, 1) := by decide +kernel
theorem dX11_foundOut_5 : decode cX11_foundOut 5 = .ok (.aload_n 0, 1) := by decide +kernel
theorem dX11_foundOut_6 : decode cX11_foundOut 6 = .ok (.getfield 29, 3) := by decide +kernel
theorem dX11_foundOut_9 : decode cX11_foundOut 9 = .ok (.getfield 296, 3) := by decide +kernel
theorem dX11_foundOut_12 : decode cX11_foundOut 12 = .ok (.if_icmp .ge 49, 3) := by decide +kernel
theorem dX11_foundOut_15 : decode cX11_foundOut 15 = .ok (.aload_n 0, 1) := by decide +kernel
theorem dX11_foundOut_16 : decode cX11_foundOut 16 = .ok (.getfield 49, 3) := by decide +kernel
theorem dX11_foundOut_19 : decode cX11_foundOut 19 = .ok (.aload_n 0, 1) := by decide +kernel
theorem dX11_foundOut_20 : decode cX11_foundOut 20 = .ok (.getfield 29, 3) := by decide +kernel
theorem dX11_foundOut_23 : decode cX11_foundOut 23 = .ok (.iload_n 3, 1) := by decide +kernel
theorem dX11_foundOut_24 : decode cX11_foundOut 24 = .ok (.aload_n 0, 1) := by decide +kernel
theorem dX11_foundOut_25 : decode cX11_foundOut 25 = .ok (.getfield 29, 3) := by decide +kernel
theorem dX11_foundOut_28 : decode cX11_foundOut 28 = .ok (.getfield 189, 3) := by decide +kernel
theorem dX11_foundOut_31 : decode cX11_foundOut 31 = .ok (.invokevirtual 256, 3) := by decide +kernel
theorem dX11_foundOut_34 : decode cX11_foundOut 34 = .ok (.aload_n 0, 1) := by decide +kernel
theorem dX11_foundOut_35 : decode cX11_foundOut 35 = .ok (.getfield 49, 3) := by decide +kernel
theorem dX11_foundOut_38 : decode cX11_foundOut 38 = .ok (.aload_n 0, 1) := by decide +kernel
theorem dX11_foundOut_39 : decode cX11_foundOut 39 = .ok (.getfield 29, 3) := by decide +kernel
theorem dX11_foundOut_42 : decode cX11_foundOut 42 = .ok (.iload_n 1, 1) := by decide +kernel
theorem dX11_foundOut_43 : decode cX11_foundOut 43 = .ok (.invokevirtual 352, 3) := by decide +kernel
theorem dX11_foundOut_46 : decode cX11_foundOut 46 = .ok (.ifCond .eq 9, 3) := by decide +kernel
theorem dX11_foundOut_49 : decode cX11_foundOut 49 = .ok (.iload_n 2, 1) := by decide +kernel
theorem dX11_foundOut_50 : decode cX11_foundOut 50 = .ok (.iconst 1, 1) := by decide +kernel
theorem dX11_foundOut_51 : decode cX11_foundOut 51 = .ok (.iload_n 3, 1) := by decide +kernel
theorem dX11_foundOut_52 : decode cX11_foundOut 52 = .ok (.ishl, 1) := by decide +kernel
theorem dX11_foundOut_53 : decode cX11_foundOut 53 = .ok (.ior, 1) := by decide +kernel
theorem dX11_foundOut_54 : decode cX11_foundOut 54 = .ok (.istore_n 2, 1) := by decide +kernel
theorem dX11_foundOut_55 : decode cX11_foundOut 55 = .ok (.iinc 3 1, 3) := by decide +kernel
theorem dX11_foundOut_58 : decode cX11_foundOut 58 = .ok (.goto (-54), 3) := by decide +kernel
theorem dX11_foundOut_61 : decode cX11_foundOut 61 = .ok (.iload_n 2, 1) := by decide +kernel
theorem dX11_foundOut_62 : decode cX11_foundOut 62 = .ok (.ireturn, 1) := by decide +kernel
theorem dX11_touchedBy_0 : decode cX11_touchedBy 0 = .ok (.iconst 0, 1) := by decide +kernel
theorem dX11_touchedBy_1 : decode cX11_touchedBy 1 = .ok (.istore_n 2, 1) := by decide +kernel
theorem dX11_touchedBy_2 : decode cX11_touchedBy 2 = .ok (.iconst 0, 1) := by decide +kernel
theorem dX11_touchedBy_3 : decode cX11_touchedBy 3 = .ok (.istore_n 3, 1) := by decide +kernel
theorem dX11_touchedBy_4 : decode cX11_touchedBy 4 = .ok (.iload_n 3, 1) := by decide +kernel
theorem dX11_touchedBy_5 : decode cX11_touchedBy 5 = .ok (.aload_n 0, 1) := by decide +kernel
theorem dX11_touchedBy_6 : decode cX11_touchedBy 6 = .ok (.getfield 29, 3) := by decide +kernel
theorem dX11_touchedBy_9 : decode cX11_touchedBy 9 = .ok (.getfield 139, 3) := by decide +kernel
theorem dX11_touchedBy_12 : decode cX11_touchedBy 12 = .ok (.getfield 263, 3) := by decide +kernel
theorem dX11_touchedBy_15 : decode cX11_touchedBy 15 = .ok (.if_icmp .ge 34, 3) := by decide +kernel
theorem dX11_touchedBy_18 : decode cX11_touchedBy 18 = .ok (.aload_n 0, 1) := by decide +kernel
theorem dX11_touchedBy_19 : decode cX11_touchedBy 19 = .ok (.getfield 29, 3) := by decide +kernel
theorem dX11_touchedBy_22 : decode cX11_touchedBy 22 = .ok (.iload_n 1, 1) := by decide +kernel
theorem dX11_touchedBy_23 : decode cX11_touchedBy 23 = .ok (.iload_n 3, 1) := by decide +kernel
theorem dX11_touchedBy_24 : decode cX11_touchedBy 24 = .ok (.aload_n 0, 1) := by decide +kernel
theorem dX11_touchedBy_25 : decode cX11_touchedBy 25 = .ok (.getfield 29, 3) := by decide +kernel
theorem dX11_touchedBy_28 : decode cX11_touchedBy 28 = .ok (.getfield 189, 3) := by decide +kernel
theorem dX11_touchedBy_31 : decode cX11_touchedBy 31 = .ok (.invokevirtual 442, 3) := by decide +kernel
theorem dX11_touchedBy_34 : decode cX11_touchedBy 34 = .ok (.ifCond .le 9, 3) := by decide +kernel
theorem dX11_touchedBy_37 : decode cX11_touchedBy 37 = .ok (.iload_n 2, 1) := by decide +kernel
theorem dX11_touchedBy_38 : decode cX11_touchedBy 38 = .ok (.iconst 1, 1) := by decide +kernel
theorem dX11_touchedBy_39 : decode cX11_touchedBy 39 = .ok (.iload_n 3, 1) := by decide +kernel
theorem dX11_touchedBy_40 : decode cX11_touchedBy 40 = .ok (.ishl, 1) := by decide +kernel
theorem dX11_touchedBy_41 : decode cX11_touchedBy 41 = .ok (.ior, 1) := by decide +kernel
theorem dX11_touchedBy_42 : decode cX11_touchedBy 42 = .ok (.istore_n 2, 1) := by decide +kernel
theorem dX11_touchedBy_43 : decode cX11_touchedBy 43 = .ok (.iinc 3 1, 3) := by decide +kernel
theorem dX11_touchedBy_46 : decode cX11_touchedBy 46 = .ok (.goto (-42), 3) := by decide +kernel
theorem dX11_touchedBy_49 : decode cX11_touchedBy 49 = .ok (.iload_n 2, 1) := by decide +kernel
theorem dX11_touchedBy_50 : decode cX11_touchedBy 50 = .ok (.ireturn, 1) := by decide +kernel
theorem dX11_allMayBe_0 : decode cX11_allMayBe 0 = .ok (.iconst 0, 1) := by decide +kernel
theorem dX11_allMayBe_1 : decode cX11_allMayBe 1 = .ok (.istore_n 3, 1) := by decide +kernel
theorem dX11_allMayBe_2 : decode cX11_allMayBe 2 = .ok (.iload_n 3, 1) := by decide +kernel
theorem dX11_allMayBe_3 : decode cX11_allMayBe 3 = .ok (.aload_n 0, 1) := by decide +kernel
theorem dX11_allMayBe_4 : decode cX11_allMayBe 4 = .ok (.getfield 29, 3) := by decide +kernel
theorem dX11_allMayBe_7 : decode cX11_allMayBe 7 = .ok (.getfield 139, 3) := by decide +kernel
theorem dX11_allMayBe_10 : decode cX11_allMayBe 10 = .ok (.getfield 263, 3) := by decide +kernel
theorem dX11_allMayBe_13 : decode cX11_allMayBe 13 = .ok (.if_icmp .ge 21, 3) := by decide +kernel
theorem dX11_allMayBe_16 : decode cX11_allMayBe 16 = .ok (.aload_n 0, 1) := by decide +kernel
theorem dX11_allMayBe_17 : decode cX11_allMayBe 17 = .ok (.iload_n 1, 1) := by decide +kernel
theorem dX11_allMayBe_18 : decode cX11_allMayBe 18 = .ok (.iload_n 3, 1) := by decide +kernel
theorem dX11_allMayBe_19 : decode cX11_allMayBe 19 = .ok (.iload_n 2, 1) := by decide +kernel
theorem dX11_allMayBe_20 : decode cX11_allMayBe 20 = .ok (.invokevirtual 342, 3) := by decide +kernel
theorem dX11_allMayBe_23 : decode cX11_allMayBe 23 = .ok (.ifCond .ne 5, 3) := by decide +kernel
theorem dX11_allMayBe_26 : decode cX11_allMayBe 26 = .ok (.iconst 0, 1) := by decide +kernel
theorem dX11_allMayBe_27 : decode cX11_allMayBe 27 = .ok (.ireturn, 1) := by decide +kernel
theorem dX11_allMayBe_28 : decode cX11_allMayBe 28 = .ok (.iinc 3 1, 3) := by decide +kernel
theorem dX11_allMayBe_31 : decode cX11_allMayBe 31 = .ok (.goto (-29), 3) := by decide +kernel
theorem dX11_allMayBe_34 : decode cX11_allMayBe 34 = .ok (.iconst 1, 1) := by decide +kernel
theorem dX11_allMayBe_35 : decode cX11_allMayBe 35 = .ok (.ireturn, 1) := by decide +kernel
theorem dX11_shadesLeft_0 : decode cX11_shadesLeft 0 = .ok (.iconst 0, 1) := by decide +kernel
theorem dX11_shadesLeft_1 : decode cX11_shadesLeft 1 = .ok (.istore 4, 2) := by decide +kernel
theorem dX11_shadesLeft_3 : decode cX11_shadesLeft 3 = .ok (.bipush 99, 2) := by decide +kernel
theorem dX11_shadesLeft_5 : decode cX11_shadesLeft 5 = .ok (.istore 5, 2) := by decide +kernel
theorem dX11_shadesLeft_7 : decode cX11_shadesLeft 7 = .ok (.iconst 0, 1) := by decide +kernel
theorem dX11_shadesLeft_8 : decode cX11_shadesLeft 8 = .ok (.istore 6, 2) := by decide +kernel
theorem dX11_shadesLeft_10 : decode cX11_shadesLeft 10 = .ok (.iload 6, 2) := by decide +kernel
theorem dX11_shadesLeft_12 : decode cX11_shadesLeft 12 = .ok (.iload_n 1, 1) := by decide +kernel
theorem dX11_shadesLeft_13 : decode cX11_shadesLeft 13 = .ok (.if_icmp .ge 108, 3) := by decide +kernel
theorem dX11_shadesLeft_16 : decode cX11_shadesLeft 16 = .ok (.aload_n 0, 1) := by decide +kernel
theorem dX11_shadesLeft_17 : decode cX11_shadesLeft 17 = .ok (.getfield 10, 3) := by decide +kernel
theorem dX11_shadesLeft_20 : decode cX11_shadesLeft 20 = .ok (.iload 6, 2) := by decide +kernel
theorem dX11_shadesLeft_22 : decode cX11_shadesLeft 22 = .ok (.iconst 0, 1) := by decide +kernel
theorem dX11_shadesLeft_23 : decode cX11_shadesLeft 23 = .ok (.invokevirtual 433, 3) := by decide +kernel
theorem dX11_shadesLeft_26 : decode cX11_shadesLeft 26 = .ok (.istore 7, 2) := by decide +kernel
theorem dX11_shadesLeft_28 : decode cX11_shadesLeft 28 = .ok (.aload_n 0, 1) := by decide +kernel
theorem dX11_shadesLeft_29 : decode cX11_shadesLeft 29 = .ok (.getfield 10, 3) := by decide +kernel
theorem dX11_shadesLeft_32 : decode cX11_shadesLeft 32 = .ok (.iload 6, 2) := by decide +kernel
theorem dX11_shadesLeft_34 : decode cX11_shadesLeft 34 = .ok (.iconst 1, 1) := by decide +kernel
theorem dX11_shadesLeft_35 : decode cX11_shadesLeft 35 = .ok (.invokevirtual 433, 3) := by decide +kernel
theorem dX11_shadesLeft_38 : decode cX11_shadesLeft 38 = .ok (.iload_n 2, 1) := by decide +kernel
theorem dX11_shadesLeft_39 : decode cX11_shadesLeft 39 = .ok (.if_icmp .ne 76, 3) := by decide +kernel
theorem dX11_shadesLeft_42 : decode cX11_shadesLeft 42 = .ok (.iload_n 3, 1) := by decide +kernel
theorem dX11_shadesLeft_43 : decode cX11_shadesLeft 43 = .ok (.iload 7, 2) := by decide +kernel
theorem dX11_shadesLeft_45 : decode cX11_shadesLeft 45 = .ok (.ishr, 1) := by decide +kernel
theorem dX11_shadesLeft_46 : decode cX11_shadesLeft 46 = .ok (.iconst 1, 1) := by decide +kernel
theorem dX11_shadesLeft_47 : decode cX11_shadesLeft 47 = .ok (.iand, 1) := by decide +kernel
theorem dX11_shadesLeft_48 : decode cX11_shadesLeft 48 = .ok (.ifCond .eq 6, 3) := by decide +kernel
theorem dX11_shadesLeft_51 : decode cX11_shadesLeft 51 = .ok (.goto 64, 3) := by decide +kernel
theorem dX11_shadesLeft_54 : decode cX11_shadesLeft 54 = .ok (.aload_n 0, 1) := by decide +kernel
theorem dX11_shadesLeft_55 : decode cX11_shadesLeft 55 = .ok (.getfield 29, 3) := by decide +kernel
theorem dX11_shadesLeft_58 : decode cX11_shadesLeft 58 = .ok (.getfield 210, 3) := by decide +kernel
theorem dX11_shadesLeft_61 : decode cX11_shadesLeft 61 = .ok (.iload 7, 2) := by decide +kernel
theorem dX11_shadesLeft_63 : decode cX11_shadesLeft 63 = .ok (.iaload, 1) := by decide +kernel
theorem dX11_shadesLeft_64 : decode cX11_shadesLeft 64 = .ok (.istore 8, 2) := by decide +kernel
theorem dX11_shadesLeft_66 : decode cX11_shadesLeft 66 = .ok (.aload_n 0, 1) := by decide +kernel
theorem dX11_shadesLeft_67 : decode cX11_shadesLeft 67 = .ok (.getfield 10, 3) := by decide +kernel
theorem dX11_shadesLeft_70 : decode cX11_shadesLeft 70 = .ok (.iload 6, 2) := by decide +kernel
theorem dX11_shadesLeft_72 : decode cX11_shadesLeft 72 = .ok (.iconst 2, 1) := by decide +kernel
theorem dX11_shadesLeft_73 : decode cX11_shadesLeft 73 = .ok (.invokevirtual 433, 3) := by decide +kernel
theorem dX11_shadesLeft_76 : decode cX11_shadesLeft 76 = .ok (.istore 9, 2) := by decide +kernel
theorem dX11_shadesLeft_78 : decode cX11_shadesLeft 78 = .ok (.iload 8, 2) := by decide +kernel
theorem dX11_shadesLeft_80 : decode cX11_shadesLeft 80 = .ok (.iload 9, 2) := by decide +kernel
theorem dX11_shadesLeft_82 : decode cX11_shadesLeft 82 = .ok (.invokestatic 274, 3) := by decide +kernel
theorem dX11_shadesLeft_85 : decode cX11_shadesLeft 85 = .ok (.iload 9, 2) := by decide +kernel
theorem dX11_shadesLeft_87 : decode cX11_shadesLeft 87 = .ok (.if_icmp .eq 5, 3) := by decide +kernel
theorem dX11_shadesLeft_90 : decode cX11_shadesLeft 90 = .ok (.iconst 0, 1) := by decide +kernel
theorem dX11_shadesLeft_91 : decode cX11_shadesLeft 91 = .ok (.ireturn, 1) := by decide +kernel
theorem dX11_shadesLeft_92 : decode cX11_shadesLeft 92 = .ok (.iload 4, 2) := by decide +kernel
theorem dX11_shadesLeft_94 : decode cX11_shadesLeft 94 = .ok (.iload 9, 2) := by decide +kernel
theorem dX11_shadesLeft_96 : decode cX11_shadesLeft 96 = .ok (.invokestatic 367, 3) := by decide +kernel
theorem dX11_shadesLeft_99 : decode cX11_shadesLeft 99 = .ok (.istore 4, 2) := by decide +kernel
theorem dX11_shadesLeft_101 : decode cX11_shadesLeft 101 = .ok (.iload 5, 2) := by decide +kernel
theorem dX11_shadesLeft_103 : decode cX11_shadesLeft 103 = .ok (.iload 9, 2) := by decide +kernel
theorem dX11_shadesLeft_105 : decode cX11_shadesLeft 105 = .ok (.iload 8, 2) := by decide +kernel
theorem dX11_shadesLeft_107 : decode cX11_shadesLeft 107 = .ok (.iadd, 1) := by decide +kernel
theorem dX11_shadesLeft_108 : decode cX11_shadesLeft 108 = .ok (.iconst 1, 1) := by decide +kernel
theorem dX11_shadesLeft_109 : decode cX11_shadesLeft 109 = .ok (.isub, 1) := by decide +kernel
theorem dX11_shadesLeft_110 : decode cX11_shadesLeft 110 = .ok (.invokestatic 240, 3) := by decide +kernel
theorem dX11_shadesLeft_113 : decode cX11_shadesLeft 113 = .ok (.istore 5, 2) := by decide +kernel
theorem dX11_shadesLeft_115 : decode cX11_shadesLeft 115 = .ok (.iinc 6 1, 3) := by decide +kernel
theorem dX11_shadesLeft_118 : decode cX11_shadesLeft 118 = .ok (.goto (-108), 3) := by decide +kernel
theorem dX11_shadesLeft_121 : decode cX11_shadesLeft 121 = .ok (.iconst 0, 1) := by decide +kernel
theorem dX11_shadesLeft_122 : decode cX11_shadesLeft 122 = .ok (.iload 5, 2) := by decide +kernel
theorem dX11_shadesLeft_124 : decode cX11_shadesLeft 124 = .ok (.iload 4, 2) := by decide +kernel
theorem dX11_shadesLeft_126 : decode cX11_shadesLeft 126 = .ok (.isub, 1) := by decide +kernel
theorem dX11_shadesLeft_127 : decode cX11_shadesLeft 127 = .ok (.iconst 1, 1) := by decide +kernel
theorem dX11_shadesLeft_128 : decode cX11_shadesLeft 128 = .ok (.iadd, 1) := by decide +kernel
theorem dX11_shadesLeft_129 : decode cX11_shadesLeft 129 = .ok (.invokestatic 367, 3) := by decide +kernel
theorem dX11_shadesLeft_132 : decode cX11_shadesLeft 132 = .ok (.ireturn, 1) := by decide +kernel
theorem dX11_witnessHas_0 : decode cX11_witnessHas 0 = .ok (.iload_n 1, 1) := by decide +kernel
theorem dX11_witnessHas_1 : decode cX11_witnessHas 1 = .ok (.iconst 1, 1) := by decide +kernel
theorem dX11_witnessHas_2 : decode cX11_witnessHas 2 = .ok (.if_icmp .ne 7, 3) := by decide +kernel
theorem dX11_witnessHas_5 : decode cX11_witnessHas 5 = .ok (.iconst 1, 1) := by decide +kernel
theorem dX11_witnessHas_6 : decode cX11_witnessHas 6 = .ok (.iload_n 0, 1) := by decide +kernel
theorem dX11_witnessHas_7 : decode cX11_witnessHas 7 = .ok (.isub, 1) := by decide +kernel
theorem dX11_witnessHas_8 : decode cX11_witnessHas 8 = .ok (.ireturn, 1) := by decide +kernel
theorem dX11_witnessHas_9 : decode cX11_witnessHas 9 = .ok (.iload_n 0, 1) := by decide +kernel
theorem dX11_witnessHas_10 : decode cX11_witnessHas 10 = .ok (.iconst 1, 1) := by decide +kernel
theorem dX11_witnessHas_11 : decode cX11_witnessHas 11 = .ok (.if_icmp .ne 10, 3) := by decide +kernel
theorem dX11_witnessHas_14 : decode cX11_witnessHas 14 = .ok (.iload_n 3, 1) := by decide +kernel
theorem dX11_witnessHas_15 : decode cX11_witnessHas 15 = .ok (.iconst 5, 1) := by decide +kernel
theorem dX11_witnessHas_16 : decode cX11_witnessHas 16 = .ok (.idiv, 1) := by decide +kernel
theorem dX11_witnessHas_17 : decode cX11_witnessHas 17 = .ok (.ineg, 1) := by decide +kernel
theorem dX11_witnessHas_18 : decode cX11_witnessHas 18 = .ok (.goto 5, 3) := by decide +kernel
theorem dX11_witnessHas_21 : decode cX11_witnessHas 21 = .ok (.iload_n 2, 1) := by decide +kernel
theorem dX11_witnessHas_22 : decode cX11_witnessHas 22 = .ok (.ineg, 1) := by decide +kernel
theorem dX11_witnessHas_23 : decode cX11_witnessHas 23 = .ok (.ireturn, 1) := by decide +kernel
theorem dX11_courtHas_0 : decode cX11_courtHas 0 = .ok (.iload_n 0, 1) := by decide +kernel
theorem dX11_courtHas_1 : decode cX11_courtHas 1 = .ok (.ifCond .ne 14, 3) := by decide +kernel
theorem dX11_courtHas_4 : decode cX11_courtHas 4 = .ok (.iload_n 1, 1) := by decide +kernel
theorem dX11_courtHas_5 : decode cX11_courtHas 5 = .ok (.iconst 1, 1) := by decide +kernel
theorem dX11_courtHas_6 : decode cX11_courtHas 6 = .ok (.if_icmp .ne 7, 3) := by decide +kernel
theorem dX11_courtHas_9 : decode cX11_courtHas 9 = .ok (.iconst 2, 1) := by decide +kernel
theorem dX11_courtHas_10 : decode cX11_courtHas 10 = .ok (.goto 4, 3) := by decide +kernel
theorem dX11_courtHas_13 : decode cX11_courtHas 13 = .ok (.iconst 4, 1) := by decide +kernel
theorem dX11_courtHas_14 : decode cX11_courtHas 14 = .ok (.ireturn, 1) := by decide +kernel
theorem dX11_courtHas_15 : decode cX11_courtHas 15 = .ok (.iload_n 1, 1) := by decide +kernel
theorem dX11_courtHas_16 : decode cX11_courtHas 16 = .ok (.iconst 1, 1) := by decide +kernel
theorem dX11_courtHas_17 : decode cX11_courtHas 17 = .ok (.if_icmp .ne 7, 3) := by decide +kernel
theorem dX11_courtHas_20 : decode cX11_courtHas 20 = .ok (.iconst 0, 1) := by decide +kernel
theorem dX11_courtHas_21 : decode cX11_courtHas 21 = .ok (.goto 6, 3) := by decide +kernel
theorem dX11_courtHas_24 : decode cX11_courtHas 24 = .ok (.iload_n 2, 1) := by decide +kernel
theorem dX11_courtHas_25 : decode cX11_courtHas 25 = .ok (.iconst 2, 1) := by decide +kernel
theorem dX11_courtHas_26 : decode cX11_courtHas 26 = .ok (.isub, 1) := by decide +kernel
theorem dX11_courtHas_27 : decode cX11_courtHas 27 = .ok (.ireturn, 1) := by decide +kernel
theorem dX11_waysOf_0 : decode cX11_waysOf 0 = .ok (.lconst 1, 1) := by decide +kernel
theorem dX11_waysOf_1 : decode cX11_waysOf 1 = .ok (.lstore_n 3, 1) := by decide +kernel
theorem dX11_waysOf_2 : decode cX11_waysOf 2 = .ok (.iconst 0, 1) := by decide +kernel
theorem dX11_waysOf_3 : decode cX11_waysOf 3 = .ok (.istore 5, 2) := by decide +kernel
theorem dX11_waysOf_5 : decode cX11_waysOf 5 = .ok (.iload 5, 2) := by decide +kernel
theorem dX11_waysOf_7 : decode cX11_waysOf 7 = .ok (.iload_n 2, 1) := by decide +kernel
theorem dX11_waysOf_8 : decode cX11_waysOf 8 = .ok (.if_icmp .ge 23, 3) := by decide +kernel
theorem dX11_waysOf_11 : decode cX11_waysOf 11 = .ok (.lload_n 3, 1) := by decide +kernel
theorem dX11_waysOf_12 : decode cX11_waysOf 12 = .ok (.iload_n 1, 1) := by decide +kernel
theorem dX11_waysOf_13 : decode cX11_waysOf 13 = .ok (.iload 5, 2) := by decide +kernel
theorem dX11_waysOf_15 : decode cX11_waysOf 15 = .ok (.isub, 1) := by decide +kernel
theorem dX11_waysOf_16 : decode cX11_waysOf 16 = .ok (.i2l, 1) := by decide +kernel
theorem dX11_waysOf_17 : decode cX11_waysOf 17 = .ok (.lmul, 1) := by decide +kernel
theorem dX11_waysOf_18 : decode cX11_waysOf 18 = .ok (.iload 5, 2) := by decide +kernel
theorem dX11_waysOf_20 : decode cX11_waysOf 20 = .ok (.iconst 1, 1) := by decide +kernel
theorem dX11_waysOf_21 : decode cX11_waysOf 21 = .ok (.iadd, 1) := by decide +kernel
theorem dX11_waysOf_22 : decode cX11_waysOf 22 = .ok (.i2l, 1) := by decide +kernel
theorem dX11_waysOf_23 : decode cX11_waysOf 23 = .ok (.ldiv, 1) := by decide +kernel
theorem dX11_waysOf_24 : decode cX11_waysOf 24 = .ok (.lstore_n 3, 1) := by decide +kernel
theorem dX11_waysOf_25 : decode cX11_waysOf 25 = .ok (.iinc 5 1, 3) := by decide +kernel
theorem dX11_waysOf_28 : decode cX11_waysOf 28 = .ok (.goto (-23), 3) := by decide +kernel
theorem dX11_waysOf_31 : decode cX11_waysOf 31 = .ok (.iconst 0, 1) := by decide +kernel
theorem dX11_waysOf_32 : decode cX11_waysOf 32 = .ok (.istore 5, 2) := by decide +kernel
theorem dX11_waysOf_34 : decode cX11_waysOf 34 = .ok (.iload 5, 2) := by decide +kernel
theorem dX11_waysOf_36 : decode cX11_waysOf 36 = .ok (.iload_n 1, 1) := by decide +kernel
theorem dX11_waysOf_37 : decode cX11_waysOf 37 = .ok (.if_icmp .ge 40, 3) := by decide +kernel
theorem dX11_waysOf_40 : decode cX11_waysOf 40 = .ok (.lload_n 3, 1) := by decide +kernel
theorem dX11_waysOf_41 : decode cX11_waysOf 41 = .ok (.iload 5, 2) := by decide +kernel
theorem dX11_waysOf_43 : decode cX11_waysOf 43 = .ok (.iload_n 2, 1) := by decide +kernel
theorem dX11_waysOf_44 : decode cX11_waysOf 44 = .ok (.if_icmp .ge 14, 3) := by decide +kernel
theorem dX11_waysOf_47 : decode cX11_waysOf 47 = .ok (.aload_n 0, 1) := by decide +kernel
theorem dX11_waysOf_48 : decode cX11_waysOf 48 = .ok (.getfield 29, 3) := by decide +kernel
theorem dX11_waysOf_51 : decode cX11_waysOf 51 = .ok (.getfield 445, 3) := by decide +kernel
theorem dX11_waysOf_54 : decode cX11_waysOf 54 = .ok (.i2l, 1) := by decide +kernel
theorem dX11_waysOf_55 : decode cX11_waysOf 55 = .ok (.goto 14, 3) := by decide +kernel
theorem dX11_waysOf_58 : decode cX11_waysOf 58 = .ok (.bipush 100, 2) := by decide +kernel
theorem dX11_waysOf_60 : decode cX11_waysOf 60 = .ok (.aload_n 0, 1) := by decide +kernel
theorem dX11_waysOf_61 : decode cX11_waysOf 61 = .ok (.getfield 29, 3) := by decide +kernel
theorem dX11_waysOf_64 : decode cX11_waysOf 64 = .ok (.getfield 445, 3) := by decide +kernel
theorem dX11_waysOf_67 : decode cX11_waysOf 67 = .ok (.isub, 1) := by decide +kernel
theorem dX11_waysOf_68 : decode cX11_waysOf 68 = .ok (.i2l, 1) := by decide +kernel
theorem dX11_waysOf_69 : decode cX11_waysOf 69 = .ok (.lmul, 1) := by decide +kernel
theorem dX11_waysOf_70 : decode cX11_waysOf 70 = .ok (.lstore_n 3, 1) := by decide +kernel
theorem dX11_waysOf_71 : decode cX11_waysOf 71 = .ok (.iinc 5 1, 3) := by decide +kernel
theorem dX11_waysOf_74 : decode cX11_waysOf 74 = .ok (.goto (-40), 3) := by decide +kernel
theorem dX11_waysOf_77 : decode cX11_waysOf 77 = .ok (.lload_n 3, 1) := by decide +kernel
theorem dX11_waysOf_78 : decode cX11_waysOf 78 = .ok (.lreturn, 1) := by decide +kernel
theorem dX11_readBy_0 : decode cX11_readBy 0 = .ok (.iload_n 0, 1) := by decide +kernel
theorem dX11_readBy_1 : decode cX11_readBy 1 = .ok (.iconst 1, 1) := by decide +kernel
theorem dX11_readBy_2 : decode cX11_readBy 2 = .ok (.if_icmp .ge 7, 3) := by decide +kernel
theorem dX11_readBy_5 : decode cX11_readBy 5 = .ok (.iconst 0, 1) := by decide +kernel
theorem dX11_readBy_6 : decode cX11_readBy 6 = .ok (.goto 8, 3) := by decide +kernel
theorem dX11_readBy_9 : decode cX11_readBy 9 = .ok (.iload_n 1, 1) := by decide +kernel
theorem dX11_readBy_10 : decode cX11_readBy 10 = .ok (.iload_n 0, 1) := by decide +kernel
theorem dX11_readBy_11 : decode cX11_readBy 11 = .ok (.idiv, 1) := by decide +kernel
theorem dX11_readBy_12 : decode cX11_readBy 12 = .ok (.iload_n 0, 1) := by decide +kernel
theorem dX11_readBy_13 : decode cX11_readBy 13 = .ok (.imul, 1) := by decide +kernel
theorem dX11_readBy_14 : decode cX11_readBy 14 = .ok (.ireturn, 1) := by decide +kernel
