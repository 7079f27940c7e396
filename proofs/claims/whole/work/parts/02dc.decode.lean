theorem dX12_thrown_0 : decode cX12_thrown 0 = .ok (.aload_n 0, 1) := by decide +kernel
theorem dX12_thrown_1 : decode cX12_thrown 1 = .ok (.getfield 3, 3) := by decide +kernel
theorem dX12_thrown_4 : decode cX12_thrown 4 = .ok (.ireturn, 1) := by decide +kernel
theorem dX12_throwsIf_0 : decode cX12_throwsIf 0 = .ok (.iload_n 1, 1) := by decide +kernel
theorem dX12_throwsIf_1 : decode cX12_throwsIf 1 = .ok (.ifCond .eq 8, 3) := by decide +kernel
theorem dX12_throwsIf_4 : decode cX12_throwsIf 4 = .ok (.aload_n 0, 1) := by decide +kernel
theorem dX12_throwsIf_5 : decode cX12_throwsIf 5 = .ok (.iload_n 2, 1) := by decide +kernel
theorem dX12_throwsIf_6 : decode cX12_throwsIf 6 = .ok (.putfield 3, 3) := by decide +kernel
theorem dX12_throwsIf_9 : decode cX12_throwsIf 9 = .ok (.iload_n 1, 1) := by decide +kernel
theorem dX12_throwsIf_10 : decode cX12_throwsIf 10 = .ok (.ireturn, 1) := by decide +kernel
theorem dX12_in_0 : decode cX12_in 0 = .ok (.iload_n 0, 1) := by decide +kernel
theorem dX12_in_1 : decode cX12_in 1 = .ok (.iload_n 1, 1) := by decide +kernel
theorem dX12_in_2 : decode cX12_in 2 = .ok (.if_icmp .lt 12, 3) := by decide +kernel
theorem dX12_in_5 : decode cX12_in 5 = .ok (.iload_n 0, 1) := by decide +kernel
theorem dX12_in_6 : decode cX12_in 6 = .ok (.iload_n 2, 1) := by decide +kernel
theorem dX12_in_7 : decode cX12_in 7 = .ok (.if_icmp .gt 7, 3) := by decide +kernel
theorem dX12_in_10 : decode cX12_in 10 = .ok (.iconst 1, 1) := by decide +kernel
theorem dX12_in_11 : decode cX12_in 11 = .ok (.goto 4, 3) := by decide +kernel
theorem dX12_in_14 : decode cX12_in 14 = .ok (.iconst 0, 1) := by decide +kernel
theorem dX12_in_15 : decode cX12_in 15 = .ok (.ireturn, 1) := by decide +kernel
theorem dX12_has_0 : decode cX12_has 0 = .ok (.iload_n 0, 1) := by decide +kernel
theorem dX12_has_1 : decode cX12_has 1 = .ok (.iload_n 1, 1) := by decide +kernel
theorem dX12_has_2 : decode cX12_has 2 = .ok (.ishr, 1) := by decide +kernel
theorem dX12_has_3 : decode cX12_has 3 = .ok (.iconst 1, 1) := by decide +kernel
theorem dX12_has_4 : decode cX12_has 4 = .ok (.iand, 1) := by decide +kernel
theorem dX12_has_5 : decode cX12_has 5 = .ok (.iconst 1, 1) := by decide +kernel
theorem dX12_has_6 : decode cX12_has 6 = .ok (.if_icmp .ne 7, 3) := by decide +kernel
theorem dX12_has_9 : decode cX12_has 9 = .ok (.iconst 1, 1) := by decide +kernel
theorem dX12_has_10 : decode cX12_has 10 = .ok (.goto 4, 3) := by decide +kernel
theorem dX12_has_13 : decode cX12_has 13 = .ok (.iconst 0, 1) := by decide +kernel
theorem dX12_has_14 : decode cX12_has 14 = .ok (.ireturn, 1) := by decide +kernel
theorem dX12_init_0 : decode cX12_init 0 = .ok (.aload_n 0, 1) := by decide +kernel
theorem dX12_init_1 : decode cX12_init 1 = .ok (.invokespecial 7, 3) := by decide +kernel
theorem dX12_init_4 : decode cX12_init 4 = .ok (.aload_n 0, 1) := by decide +kernel
theorem dX12_init_5 : decode cX12_init 5 = .ok (.sipush 2070, 3) := by decide +kernel
theorem dX12_init_8 : decode cX12_init 8 = .ok (.newarray .int, 2) := by decide +kernel
theorem dX12_init_10 : decode cX12_init 10 = .ok (.putfield 13, 3) := by decide +kernel
theorem dX12_init_13 : decode cX12_init 13 = .ok (.aload_n 0, 1) := by decide +kernel
theorem dX12_init_14 : decode cX12_init 14 = .ok (.sipush 1221, 3) := by decide +kernel
theorem dX12_init_17 : decode cX12_init 17 = .ok (.newarray .int, 2) := by decide +kernel
theorem dX12_init_19 : decode cX12_init 19 = .ok (.putfield 17, 3) := by decide +kernel
theorem dX12_init_22 : decode cX12_init 22 = .ok (.aload_n 0, 1) := by decide +kernel
theorem dX12_init_23 : decode cX12_init 23 = .ok (.sipush 1221, 3) := by decide +kernel
theorem dX12_init_26 : decode cX12_init 26 = .ok (.newarray .int, 2) := by decide +kernel
theorem dX12_init_28 : decode cX12_init 28 = .ok (.putfield 20, 3) := by decide +kernel
theorem dX12_init_31 : decode cX12_init 31 = .ok (.aload_n 0, 1) := by decide +kernel
theorem dX12_init_32 : decode cX12_init 32 = .ok (.sipush 372, 3) := by decide +kernel
theorem dX12_init_35 : decode cX12_init 35 = .ok (.newarray .int, 2) := by decide +kernel
theorem dX12_init_37 : decode cX12_init 37 = .ok (.putfield 23, 3) := by decide +kernel
theorem dX12_init_40 : decode cX12_init 40 = .ok (.aload_n 0, 1) := by decide +kernel
theorem dX12_init_41 : decode cX12_init 41 = .ok (.sipush 4464, 3) := by decide +kernel
theorem dX12_init_44 : decode cX12_init 44 = .ok (.newarray .int, 2) := by decide +kernel
theorem dX12_init_46 : decode cX12_init 46 = .ok (.putfield 26, 3) := by decide +kernel
theorem dX12_init_49 : decode cX12_init 49 = .ok (.aload_n 0, 1) := by decide +kernel
theorem dX12_init_50 : decode cX12_init 50 = .ok (.sipush 400, 3) := by decide +kernel
theorem dX12_init_53 : decode cX12_init 53 = .ok (.newarray .byte, 2) := by decide +kernel
theorem dX12_init_55 : decode cX12_init 55 = .ok (.putfield 29, 3) := by decide +kernel
theorem dX12_init_58 : decode cX12_init 58 = .ok (.aload_n 0, 1) := by decide +kernel
theorem dX12_init_59 : decode cX12_init 59 = .ok (.iconst (-1), 1) := by decide +kernel
theorem dX12_init_60 : decode cX12_init 60 = .ok (.putfield 33, 3) := by decide +kernel
theorem dX12_init_63 : decode cX12_init 63 = .ok (.aload_n 0, 1) := by decide +kernel
theorem dX12_init_64 : decode cX12_init 64 = .ok (.iconst 5, 1) := by decide +kernel
theorem dX12_init_65 : decode cX12_init 65 = .ok (.newarray .int, 2) := by decide +kernel
theorem dX12_init_67 : decode cX12_init 67 = .ok (.putfield 36, 3) := by decide +kernel
theorem dX12_init_70 : decode cX12_init 70 = .ok (.aload_n 0, 1) := by decide +kernel
theorem dX12_init_71 : decode cX12_init 71 = .ok (.sipush 400, 3) := by decide +kernel
theorem dX12_init_74 : decode cX12_init 74 = .ok (.newarray .int, 2) := by decide +kernel
theorem dX12_init_76 : decode cX12_init 76 = .ok (.putfield 39, 3) := by decide +kernel
theorem dX12_init_79 : decode cX12_init 79 = .ok (.aload_n 0, 1) := by decide +kernel
theorem dX12_init_80 : decode cX12_init 80 = .ok (.iconst 5, 1) := by decide +kernel
theorem dX12_init_81 : decode cX12_init 81 = .ok (.newarray .int, 2) := by decide +kernel
theorem dX12_init_83 : decode cX12_init 83 = .ok (.putfield 42, 3) := by decide +kernel
theorem dX12_init_86 : decode cX12_init 86 = .ok (.aload_n 0, 1) := by decide +kernel
theorem dX12_init_87 : decode cX12_init 87 = .ok (.iconst 5, 1) := by decide +kernel
theorem dX12_init_88 : decode cX12_init 88 = .ok (.newarray .int, 2) := by decide +kernel
theorem dX12_init_90 : decode cX12_init 90 = .ok (.putfield 45, 3) := by decide +kernel
theorem dX12_init_93 : decode cX12_init 93 = .ok (.aload_n 0, 1) := by decide +kernel
theorem dX12_init_94 : decode cX12_init 94 = .ok (.sipush 2560, 3) := by decide +kernel
theorem dX12_init_97 : decode cX12_init 97 = .ok (.newarray .int, 2) := by decide +kernel
theorem dX12_init_99 : decode cX12_init 99 = .ok (.putfield 48, 3) := by decide +kernel
theorem dX12_init_102 : decode cX12_init 102 = .ok (.aload_n 0, 1) := by decide +kernel
theorem dX12_init_103 : decode cX12_init 103 = .ok (.bipush 64, 2) := by decide +kernel
theorem dX12_init_105 : decode cX12_init 105 = .ok (.newarray .boolean, 2) := by decide +kernel
theorem dX12_init_107 : decode cX12_init 107 = .ok (.putfield 51, 3) := by decide +kernel
theorem dX12_init_110 : decode cX12_init 110 = .ok (.aload_n 0, 1) := by decide +kernel
theorem dX12_init_111 : decode cX12_init 111 = .ok (.sipush 256, 3) := by decide +kernel
theorem dX12_init_114 : decode cX12_init 114 = .ok (.newarray .boolean, 2) := by decide +kernel
theorem dX12_init_116 : decode cX12_init 116 = .ok (.putfield 55, 3) := by decide +kernel
theorem dX12_init_119 : decode cX12_init 119 = .ok (.aload_n 0, 1) := by decide +kernel
theorem dX12_init_120 : decode cX12_init 120 = .ok (.iconst 5, 1) := by decide +kernel
theorem dX12_init_121 : decode cX12_init 121 = .ok (.newarray .int, 2) := by decide +kernel
theorem dX12_init_123 : decode cX12_init 123 = .ok (.putfield 58, 3) := by decide +kernel
theorem dX12_init_126 : decode cX12_init 126 = .ok (.aload_n 0, 1) := by decide +kernel
theorem dX12_init_127 : decode cX12_init 127 = .ok (.iconst 5, 1) := by decide +kernel
theorem dX12_init_128 : decode cX12_init 128 = .ok (.newarray .int, 2) := by decide +kernel
theorem dX12_init_130 : decode cX12_init 130 = .ok (.putfield 61, 3) := by decide +kernel
theorem dX12_init_133 : decode cX12_init 133 = .ok (.aload_n 0, 1) := by decide +kernel
theorem dX12_init_134 : decode cX12_init 134 = .ok (.bipush 16, 2) := by decide +kernel
theorem dX12_init_136 : decode cX12_init 136 = .ok (.newarray .int, 2) := by decide +kernel
theorem dX12_init_138 : decode cX12_init 138 = .ok (.putfield 64, 3) := by decide +kernel
theorem dX12_init_141 : decode cX12_init 141 = .ok (.aload_n 0, 1) := by decide +kernel
theorem dX12_init_142 : decode cX12_init 142 = .ok (.bipush 6, 2) := by decide +kernel
theorem dX12_init_144 : decode cX12_init 144 = .ok (.newarray .long, 2) := by decide +kernel
theorem dX12_init_146 : decode cX12_init 146 = .ok (.putfield 67, 3) := by decide +kernel
theorem dX12_init_149 : decode cX12_init 149 = .ok (.aload_n 0, 1) := by decide +kernel
theorem dX12_init_150 : decode cX12_init 150 = .ok (.getfield 13, 3) := by decide +kernel
theorem dX12_init_153 : decode cX12_init 153 = .ok (.bipush 11, 2) := by decide +kernel
theorem dX12_init_155 : decode cX12_init 155 = .ok (.iconst 1, 1) := by decide +kernel
theorem dX12_init_156 : decode cX12_init 156 = .ok (.iastore, 1) := by decide +kernel
theorem dX12_init_157 : decode cX12_init 157 = .ok (.aload_n 0, 1) := by decide +kernel
theorem dX12_init_158 : decode cX12_init 158 = .ok (.getfield 13, 3) := by decide +kernel
theorem dX12_init_161 : decode cX12_init 161 = .ok (.bipush 7, 2) := by decide +kernel
theorem dX12_init_163 : decode cX12_init 163 = .ok (.iconst 3, 1) := by decide +kernel
theorem dX12_init_164 : decode cX12_init 164 = .ok (.iastore, 1) := by decide +kernel
theorem dX12_init_165 : decode cX12_init 165 = .ok (.return_, 1) := by decide +kernel
theorem dX12_image_0 : decode cX12_image 0 = .ok (.aload_n 0, 1) := by decide +kernel
theorem dX12_image_1 : decode cX12_image 1 = .ok (.iconst 0, 1) := by decide +kernel
theorem dX12_image_2 : decode cX12_image 2 = .ok (.putfield 3, 3) := by decide +kernel
theorem dX12_image_5 : decode cX12_image 5 = .ok (.iconst 0, 1) := by decide +kernel
theorem dX12_image_6 : decode cX12_image 6 = .ok (.istore_n 1, 1) := by decide +kernel
theorem dX12_image_7 : decode cX12_image 7 = .ok (.iload_n 1, 1) := by decide +kernel
theorem dX12_image_8 : decode cX12_image 8 = .ok (.sipush 1221, 3) := by decide +kernel
theorem dX12_image_11 : decode cX12_image 11 = .ok (.if_icmp .ge 21, 3) := by decide +kernel
theorem dX12_image_14 : decode cX12_image 14 = .ok (.aload_n 0, 1) := by decide +kernel
theorem dX12_image_15 : decode cX12_image 15 = .ok (.getfield 17, 3) := by decide +kernel
theorem dX12_image_18 : decode cX12_image 18 = .ok (.iload_n 1, 1) := by decide +kernel
theorem dX12_image_19 : decode cX12_image 19 = .ok (.aload_n 0, 1) := by decide +kernel
theorem dX12_image_20 : decode cX12_image 20 = .ok (.getfield 13, 3) := by decide +kernel
theorem dX12_image_23 : decode cX12_image 23 = .ok (.iload_n 1, 1) := by decide +kernel
theorem dX12_image_24 : decode cX12_image 24 = .ok (.iaload, 1) := by decide +kernel
theorem dX12_image_25 : decode cX12_image 25 = .ok (.iastore, 1) := by decide +kernel
theorem dX12_image_26 : decode cX12_image 26 = .ok (.iinc 1 1, 3) := by decide +kernel
theorem dX12_image_29 : decode cX12_image 29 = .ok (.goto (-22), 3) := by decide +kernel
theorem dX12_image_32 : decode cX12_image 32 = .ok (.aload_n 0, 1) := by decide +kernel
theorem dX12_image_33 : decode cX12_image 33 = .ok (.iconst 1, 1) := by decide +kernel
theorem dX12_image_34 : decode cX12_image 34 = .ok (.putfield 71, 3) := by decide +kernel
theorem dX12_image_37 : decode cX12_image 37 = .ok (.return_, 1) := by decide +kernel
theorem dX12_back_0 : decode cX12_back 0 = .ok (.aload_n 0, 1) := by decide +kernel
theorem dX12_back_1 : decode cX12_back 1 = .ok (.iconst 0, 1) := by decide +kernel
theorem dX12_back_2 : decode cX12_back 2 = .ok (.putfield 3, 3) := by decide +kernel
theorem dX12_back_5 : decode cX12_back 5 = .ok (.aload_n 0, 1) := by decide +kernel
theorem dX12_back_6 : decode cX12_back 6 = .ok (.getfield 71, 3) := by decide +kernel
theorem dX12_back_9 : decode cX12_back 9 = .ok (.ifCond .ne 5, 3) := by decide +kernel
theorem dX12_back_12 : decode cX12_back 12 = .ok (.iconst 0, 1) := by decide +kernel
theorem dX12_back_13 : decode cX12_back 13 = .ok (.ireturn, 1) := by decide +kernel
theorem dX12_back_14 : decode cX12_back 14 = .ok (.iconst 0, 1) := by decide +kernel
theorem dX12_back_15 : decode cX12_back 15 = .ok (.istore_n 1, 1) := by decide +kernel
theorem dX12_back_16 : decode cX12_back 16 = .ok (.iload_n 1, 1) := by decide +kernel
theorem dX12_back_17 : decode cX12_back 17 = .ok (.sipush 1221, 3) := by decide +kernel
theorem dX12_back_20 : decode cX12_back 20 = .ok (.if_icmp .ge 21, 3) := by decide +kernel
theorem dX12_back_23 : decode cX12_back 23 = .ok (.aload_n 0, 1) := by decide +kernel
theorem dX12_back_24 : decode cX12_back 24 = .ok (.getfield 13, 3) := by decide +kernel
theorem dX12_back_27 : decode cX12_back 27 = .ok (.iload_n 1, 1) := by decide +kernel
theorem dX12_back_28 : decode cX12_back 28 = .ok (.aload_n 0, 1) := by decide +kernel
theorem dX12_back_29 : decode cX12_back 29 = .ok (.getfield 17, 3) := by decide +kernel
theorem dX12_back_32 : decode cX12_back 32 = .ok (.iload_n 1, 1) := by decide +kernel
theorem dX12_back_33 : decode cX12_back 33 = .ok (.iaload, 1) := by decide +kernel
theorem dX12_back_34 : decode cX12_back 34 = .ok (.iastore, 1) := by decide +kernel
theorem dX12_back_35 : decode cX12_back 35 = .ok (.iinc 1 1, 3) := by decide +kernel
theorem dX12_back_38 : decode cX12_back 38 = .ok (.goto (-22), 3) := by decide +kernel
theorem dX12_back_41 : decode cX12_back 41 = .ok (.aload_n 0, 1) := by decide +kernel
theorem dX12_back_42 : decode cX12_back 42 = .ok (.iconst 0, 1) := by decide +kernel
theorem dX12_back_43 : decode cX12_back 43 = .ok (.putfield 75, 3) := by decide +kernel
theorem dX12_back_46 : decode cX12_back 46 = .ok (.iconst 1, 1) := by decide +kernel
theorem dX12_back_47 : decode cX12_back 47 = .ok (.ireturn, 1) := by decide +kernel
theorem dX12_remembers_0 : decode cX12_remembers 0 = .ok (.aload_n 0, 1) := by decide +kernel
theorem dX12_remembers_1 : decode cX12_remembers 1 = .ok (.getfield 75, 3) := by decide +kernel
theorem dX12_remembers_4 : decode cX12_remembers 4 = .ok (.bipush 12, 2) := by decide +kernel
theorem dX12_remembers_6 : decode cX12_remembers 6 = .ok (.if_icmp .ne 37, 3) := by decide +kernel
theorem dX12_remembers_9 : decode cX12_remembers 9 = .ok (.iconst 0, 1) := by decide +kernel
theorem dX12_remembers_10 : decode cX12_remembers 10 = .ok (.istore_n 1, 1) := by decide +kernel
theorem dX12_remembers_11 : decode cX12_remembers 11 = .ok (.iload_n 1, 1) := by decide +kernel
theorem dX12_remembers_12 : decode cX12_remembers 12 = .ok (.sipush 4092, 3) := by decide +kernel
theorem dX12_remembers_15 : decode cX12_remembers 15 = .ok (.if_icmp .ge 25, 3) := by decide +kernel
theorem dX12_remembers_18 : decode cX12_remembers 18 = .ok (.aload_n 0, 1) := by decide +kernel
theorem dX12_remembers_19 : decode cX12_remembers 19 = .ok (.getfield 26, 3) := by decide +kernel
theorem dX12_remembers_22 : decode cX12_remembers 22 = .ok (.iload_n 1, 1) := by decide +kernel
theorem dX12_remembers_23 : decode cX12_remembers 23 = .ok (.aload_n 0, 1) := by decide +kernel
theorem dX12_remembers_24 : decode cX12_remembers 24 = .ok (.getfield 26, 3) := by decide +kernel
theorem dX12_remembers_27 : decode cX12_remembers 27 = .ok (.iload_n 1, 1) := by decide +kernel
theorem dX12_remembers_28 : decode cX12_remembers 28 = .ok (.sipush 372, 3) := by decide +kernel
theorem dX12_remembers_31 : decode cX12_remembers 31 = .ok (.iadd, 1) := by decide +kernel
theorem dX12_remembers_32 : decode cX12_remembers 32 = .ok (.iaload, 1) := by decide +kernel
theorem dX12_remembers_33 : decode cX12_remembers 33 = .ok (.iastore, 1) := by decide +kernel
theorem dX12_remembers_34 : decode cX12_remembers 34 = .ok (.iinc 1 1, 3) := by decide +kernel
theorem dX12_remembers_37 : decode cX12_remembers 37 = .ok (.goto (-26), 3) := by decide +kernel
theorem dX12_remembers_40 : decode cX12_remembers 40 = .ok (.goto 13, 3) := by decide +kernel
theorem dX12_remembers_43 : decode cX12_remembers 43 = .ok (.aload_n 0, 1) := by decide +kernel
theorem dX12_remembers_44 : decode cX12_remembers 44 = .ok (.dup, 1) := by decide +kernel
theorem dX12_remembers_45 : decode cX12_remembers 45 = .ok (.getfield 75, 3) := by decide +kernel
theorem dX12_remembers_48 : decode cX12_remembers 48 = .ok (.iconst 1, 1) := by decide +kernel
theorem dX12_remembers_49 : decode cX12_remembers 49 = .ok (.iadd, 1) := by decide +kernel
theorem dX12_remembers_50 : decode cX12_remembers 50 = .ok (.putfield 75, 3) := by decide +kernel
theorem dX12_remembers_53 : decode cX12_remembers 53 = .ok (.iconst 0, 1) := by decide +kernel
theorem dX12_remembers_54 : decode cX12_remembers 54 = .ok (.istore_n 1, 1) := by decide +kernel
theorem dX12_remembers_55 : decode cX12_remembers 55 = .ok (.iload_n 1, 1) := by decide +kernel
theorem dX12_remembers_56 : decode cX12_remembers 56 = .ok (.sipush 372, 3) := by decide +kernel
theorem dX12_remembers_59 : decode cX12_remembers 59 = .ok (.if_icmp .ge 32, 3) := by decide +kernel
theorem dX12_remembers_62 : decode cX12_remembers 62 = .ok (.aload_n 0, 1) := by decide +kernel
theorem dX12_remembers_63 : decode cX12_remembers 63 = .ok (.getfield 26, 3) := by decide +kernel
theorem dX12_remembers_66 : decode cX12_remembers 66 = .ok (.sipush 372, 3) := by decide +kernel
theorem dX12_remembers_69 : decode cX12_remembers 69 = .ok (.aload_n 0, 1) := by decide +kernel
theorem dX12_remembers_70 : decode cX12_remembers 70 = .ok (.getfield 75, 3) := by decide +kernel
theorem dX12_remembers_73 : decode cX12_remembers 73 = .ok (.iconst 1, 1) := by decide +kernel
theorem dX12_remembers_74 : decode cX12_remembers 74 = .ok (.isub, 1) := by decide +kernel
theorem dX12_remembers_75 : decode cX12_remembers 75 = .ok (.imul, 1) := by decide +kernel
theorem dX12_remembers_76 : decode cX12_remembers 76 = .ok (.iload_n 1, 1) := by decide +kernel
theorem dX12_remembers_77 : decode cX12_remembers 77 = .ok (.iadd, 1) := by decide +kernel
theorem dX12_remembers_78 : decode cX12_remembers 78 = .ok (.aload_n 0, 1) := by decide +kernel
theorem dX12_remembers_79 : decode cX12_remembers 79 = .ok (.getfield 13, 3) := by decide +kernel
theorem dX12_remembers_82 : decode cX12_remembers 82 = .ok (.iload_n 1, 1) := by decide +kernel
theorem dX12_remembers_83 : decode cX12_remembers 83 = .ok (.iaload, 1) := by decide +kernel
theorem dX12_remembers_84 : decode cX12_remembers 84 = .ok (.iastore, 1) := by decide +kernel
theorem dX12_remembers_85 : decode cX12_remembers 85 = .ok (.iinc 1 1, 3) := by decide +kernel
theorem dX12_remembers_88 : decode cX12_remembers 88 = .ok (.goto (-33), 3) := by decide +kernel
theorem dX12_remembers_91 : decode cX12_remembers 91 = .ok (.return_, 1) := by decide +kernel
theorem dX12_undo_0 : decode cX12_undo 0 = .ok (.aload_n 0, 1) := by decide +kernel
theorem dX12_undo_1 : decode cX12_undo 1 = .ok (.iconst 0, 1) := by decide +kernel
theorem dX12_undo_2 : decode cX12_undo 2 = .ok (.putfield 3, 3) := by decide +kernel
theorem dX12_undo_5 : decode cX12_undo 5 = .ok (.aload_n 0, 1) := by decide +kernel
theorem dX12_undo_6 : decode cX12_undo 6 = .ok (.getfield 75, 3) := by decide +kernel
theorem dX12_undo_9 : decode cX12_undo 9 = .ok (.ifCond .ne 5, 3) := by decide +kernel
theorem dX12_undo_12 : decode cX12_undo 12 = .ok (.iconst 0, 1) := by decide +kernel
theorem dX12_undo_13 : decode cX12_undo 13 = .ok (.ireturn, 1) := by decide +kernel
theorem dX12_undo_14 : decode cX12_undo 14 = .ok (.aload_n 0, 1) := by decide +kernel
theorem dX12_undo_15 : decode cX12_undo 15 = .ok (.dup, 1) := by decide +kernel
theorem dX12_undo_16 : decode cX12_undo 16 = .ok (.getfield 75, 3) := by decide +kernel
theorem dX12_undo_19 : decode cX12_undo 19 = .ok (.iconst 1, 1) := by decide +kernel
theorem dX12_undo_20 : decode cX12_undo 20 = .ok (.isub, 1) := by decide +kernel
theorem dX12_undo_21 : decode cX12_undo 21 = .ok (.putfield 75, 3) := by decide +kernel
theorem dX12_undo_24 : decode cX12_undo 24 = .ok (.iconst 0, 1) := by decide +kernel
theorem dX12_undo_25 : decode cX12_undo 25 = .ok (.istore_n 1, 1) := by decide +kernel
theorem dX12_undo_26 : decode cX12_undo 26 = .ok (.iload_n 1, 1) := by decide +kernel
theorem dX12_undo_27 : decode cX12_undo 27 = .ok (.sipush 372, 3) := by decide +kernel
theorem dX12_undo_30 : decode cX12_undo 30 = .ok (.if_icmp .ge 30, 3) := by decide +kernel
theorem dX12_undo_33 : decode cX12_undo 33 = .ok (.aload_n 0, 1) := by decide +kernel
theorem dX12_undo_34 : decode cX12_undo 34 = .ok (.getfield 13, 3) := by decide +kernel
theorem dX12_undo_37 : decode cX12_undo 37 = .ok (.iload_n 1, 1) := by decide +kernel
theorem dX12_undo_38 : decode cX12_undo 38 = .ok (.aload_n 0, 1) := by decide +kernel
theorem dX12_undo_39 : decode cX12_undo 39 = .ok (.getfield 26, 3) := by decide +kernel
theorem dX12_undo_42 : decode cX12_undo 42 = .ok (.sipush 372, 3) := by decide +kernel
theorem dX12_undo_45 : decode cX12_undo 45 = .ok (.aload_n 0, 1) := by decide +kernel
theorem dX12_undo_46 : decode cX12_undo 46 = .ok (.getfield 75, 3) := by decide +kernel
theorem dX12_undo_49 : decode cX12_undo 49 = .ok (.imul, 1) := by decide +kernel
theorem dX12_undo_50 : decode cX12_undo 50 = .ok (.iload_n 1, 1) := by decide +kernel
theorem dX12_undo_51 : decode cX12_undo 51 = .ok (.iadd, 1) := by decide +kernel
theorem dX12_undo_52 : decode cX12_undo 52 = .ok (.iaload, 1) := by decide +kernel
theorem dX12_undo_53 : decode cX12_undo 53 = .ok (.iastore, 1) := by decide +kernel
theorem dX12_undo_54 : decode cX12_undo 54 = .ok (.iinc 1 1, 3) := by decide +kernel
theorem dX12_undo_57 : decode cX12_undo 57 = .ok (.goto (-31), 3) := by decide +kernel
theorem dX12_undo_60 : decode cX12_undo 60 = .ok (.iconst 1, 1) := by decide +kernel
theorem dX12_undo_61 : decode cX12_undo 61 = .ok (.ireturn, 1) := by decide +kernel
theorem dX12_keepsAll_0 : decode cX12_keepsAll 0 = .ok (.iconst 0, 1) := by decide +kernel
theorem dX12_keepsAll_1 : decode cX12_keepsAll 1 = .ok (.istore_n 1, 1) := by decide +kernel
theorem dX12_keepsAll_2 : decode cX12_keepsAll 2 = .ok (.iload_n 1, 1) := by decide +kernel
theorem dX12_keepsAll_3 : decode cX12_keepsAll 3 = .ok (.sipush 372, 3) := by decide +kernel
theorem dX12_keepsAll_6 : decode cX12_keepsAll 6 = .ok (.if_icmp .ge 21, 3) := by decide +kernel
theorem dX12_keepsAll_9 : decode cX12_keepsAll 9 = .ok (.aload_n 0, 1) := by decide +kernel
theorem dX12_keepsAll_10 : decode cX12_keepsAll 10 = .ok (.getfield 23, 3) := by decide +kernel
theorem dX12_keepsAll_13 : decode cX12_keepsAll 13 = .ok (.iload_n 1, 1) := by decide +kernel
theorem dX12_keepsAll_14 : decode cX12_keepsAll 14 = .ok (.aload_n 0, 1) := by decide +kernel
theorem dX12_keepsAll_15 : decode cX12_keepsAll 15 = .ok (.getfield 13, 3) := by decide +kernel
theorem dX12_keepsAll_18 : decode cX12_keepsAll 18 = .ok (.iload_n 1, 1) := by decide +kernel
theorem dX12_keepsAll_19 : decode cX12_keepsAll 19 = .ok (.iaload, 1) := by decide +kernel
theorem dX12_keepsAll_20 : decode cX12_keepsAll 20 = .ok (.iastore, 1) := by decide +kernel
theorem dX12_keepsAll_21 : decode cX12_keepsAll 21 = .ok (.iinc 1 1, 3) := by decide +kernel
theorem dX12_keepsAll_24 : decode cX12_keepsAll 24 = .ok (.goto (-22), 3) := by decide +kernel
theorem dX12_keepsAll_27 : decode cX12_keepsAll 27 = .ok (.return_, 1) := by decide +kernel
theorem dX12_bringsBack_0 : decode cX12_bringsBack 0 = .ok (.iconst 0, 1) := by decide +kernel
theorem dX12_bringsBack_1 : decode cX12_bringsBack 1 = .ok (.istore_n 1, 1) := by decide +kernel
theorem dX12_bringsBack_2 : decode cX12_bringsBack 2 = .ok (.iload_n 1, 1) := by decide +kernel
theorem dX12_bringsBack_3 : decode cX12_bringsBack 3 = .ok (.sipush 372, 3) := by decide +kernel
theorem dX12_bringsBack_6 : decode cX12_bringsBack 6 = .ok (.if_icmp .ge 21, 3) := by decide +kernel
theorem dX12_bringsBack_9 : decode cX12_bringsBack 9 = .ok (.aload_n 0, 1) := by decide +kernel
theorem dX12_bringsBack_10 : decode cX12_bringsBack 10 = .ok (.getfield 13, 3) := by decide +kernel
theorem dX12_bringsBack_13 : decode cX12_bringsBack 13 = .ok (.iload_n 1, 1) := by decide +kernel
theorem dX12_bringsBack_14 : decode cX12_bringsBack 14 = .ok (.aload_n 0, 1) := by decide +kernel
theorem dX12_bringsBack_15 : decode cX12_bringsBack 15 = .ok (.getfield 23, 3) := by decide +kernel
theorem dX12_bringsBack_18 : decode cX12_bringsBack 18 = .ok (.iload_n 1, 1) := by decide +kernel
theorem dX12_bringsBack_19 : decode cX12_bringsBack 19 = .ok (.iaload, 1) := by decide +kernel
theorem dX12_bringsBack_20 : decode cX12_bringsBack 20 = .ok (.iastore, 1) := by decide +kernel
theorem dX12_bringsBack_21 : decode cX12_bringsBack 21 = .ok (.iinc 1 1, 3) := by decide +kernel
theorem dX12_bringsBack_24 : decode cX12_bringsBack 24 = .ok (.goto (-22), 3) := by decide +kernel
theorem dX12_bringsBack_27 : decode cX12_bringsBack 27 = .ok (.return_, 1) := by decide +kernel
theorem dX12_witnesses_0 : decode cX12_witnesses 0 = .ok (.aload_n 0, 1) := by decide +kernel
theorem dX12_witnesses_1 : decode cX12_witnesses 1 = .ok (.getfield 13, 3) := by decide +kernel
theorem dX12_witnesses_4 : decode cX12_witnesses 4 = .ok (.iconst 0, 1) := by decide +kernel
theorem dX12_witnesses_5 : decode cX12_witnesses 5 = .ok (.iaload, 1) := by decide +kernel
theorem dX12_witnesses_6 : decode cX12_witnesses 6 = .ok (.ireturn, 1) := by decide +kernel
theorem dX12_things_0 : decode cX12_things 0 = .ok (.aload_n 0, 1) := by decide +kernel
theorem dX12_things_1 : decode cX12_things 1 = .ok (.getfield 13, 3) := by decide +kernel
theorem dX12_things_4 : decode cX12_things 4 = .ok (.iconst 1, 1) := by decide +kernel
theorem dX12_things_5 : decode cX12_things 5 = .ok (.iaload, 1) := by decide +kernel
theorem dX12_things_6 : decode cX12_things 6 = .ok (.ireturn, 1) := by decide +kernel
theorem dX12_questions_0 : decode cX12_questions 0 = .ok (.aload_n 0, 1) := by decide +kernel
theorem dX12_questions_1 : decode cX12_questions 1 = .ok (.getfield 13, 3) := by decide +kernel
theorem dX12_questions_4 : decode cX12_questions 4 = .ok (.iconst 2, 1) := by decide +kernel
theorem dX12_questions_5 : decode cX12_questions 5 = .ok (.iaload, 1) := by decide +kernel
theorem dX12_questions_6 : decode cX12_questions 6 = .ok (.ireturn, 1) := by decide +kernel
theorem dX12_women_0 : decode cX12_women 0 = .ok (.aload_n 0, 1) := by decide +kernel
theorem dX12_women_1 : decode cX12_women 1 = .ok (.getfield 13, 3) := by decide +kernel
theorem dX12_women_4 : decode cX12_women 4 = .ok (.iconst 3, 1) := by decide +kernel
theorem dX12_women_5 : decode cX12_women 5 = .ok (.iaload, 1) := by decide +kernel
theorem dX12_women_6 : decode cX12_women 6 = .ok (.ireturn, 1) := by decide +kernel
theorem dX12_at_0 : decode cX12_at 0 = .ok (.bipush 29, 2) := by decide +kernel
theorem dX12_at_2 : decode cX12_at 2 = .ok (.iconst 5, 1) := by decide +kernel
theorem dX12_at_3 : decode cX12_at 3 = .ok (.iload_n 0, 1) := by decide +kernel
theorem dX12_at_4 : decode cX12_at 4 = .ok (.imul, 1) := by decide +kernel
theorem dX12_at_5 : decode cX12_at 5 = .ok (.iadd, 1) := by decide +kernel
theorem dX12_at_6 : decode cX12_at 6 = .ok (.iload_n 1, 1) := by decide +kernel
theorem dX12_at_7 : decode cX12_at 7 = .ok (.iadd, 1) := by decide +kernel
theorem dX12_at_8 : decode cX12_at 8 = .ok (.ireturn, 1) := by decide +kernel
theorem dX12_of_0 : decode cX12_of 0 = .ok (.aload_n 0, 1) := by decide +kernel
theorem dX12_of_1 : decode cX12_of 1 = .ok (.getfield 13, 3) := by decide +kernel
theorem dX12_of_4 : decode cX12_of 4 = .ok (.iload_n 1, 1) := by decide +kernel
theorem dX12_of_5 : decode cX12_of 5 = .ok (.iload_n 2, 1) := by decide +kernel
theorem dX12_of_6 : decode cX12_of 6 = .ok (.invokestatic 78, 3) := by decide +kernel
theorem dX12_of_9 : decode cX12_of 9 = .ok (.iaload, 1) := by decide +kernel
theorem dX12_of_10 : decode cX12_of 10 = .ok (.ireturn, 1) := by decide +kernel
theorem dX12_thingAt_0 : decode cX12_thingAt 0 = .ok (.bipush 54, 2) := by decide +kernel
theorem dX12_thingAt_2 : decode cX12_thingAt 2 = .ok (.iconst 3, 1) := by decide +kernel
theorem dX12_thingAt_3 : decode cX12_thingAt 3 = .ok (.iload_n 0, 1) := by decide +kernel
theorem dX12_thingAt_4 : decode cX12_thingAt 4 = .ok (.imul, 1) := by decide +kernel
theorem dX12_thingAt_5 : decode cX12_thingAt 5 = .ok (.iadd, 1) := by decide +kernel
theorem dX12_thingAt_6 : decode cX12_thingAt 6 = .ok (.iload_n 1, 1) := by decide +kernel
theorem dX12_thingAt_7 : decode cX12_thingAt 7 = .ok (.iadd, 1) := by decide +kernel
theorem dX12_thingAt_8 : decode cX12_thingAt 8 = .ok (.ireturn, 1) := by decide +kernel
theorem dX12_ofThing_0 : decode cX12_ofThing 0 = .ok (.aload_n 0, 1) := by decide +kernel
theorem dX12_ofThing_1 : decode cX12_ofThing 1 = .ok (.getfield 13, 3) := by decide +kernel
theorem dX12_ofThing_4 : decode cX12_ofThing 4 = .ok (.iload_n 1, 1) := by decide +kernel
theorem dX12_ofThing_5 : decode cX12_ofThing 5 = .ok (.iload_n 2, 1) := by decide +kernel
theorem dX12_ofThing_6 : decode cX12_ofThing 6 = .ok (.invokestatic 82, 3) := by decide +kernel
theorem dX12_ofThing_9 : decode cX12_ofThing 9 = .ok (.iaload, 1) := by decide +kernel
theorem dX12_ofThing_10 : decode cX12_ofThing 10 = .ok (.ireturn, 1) := by decide +kernel
theorem dX12_allThings_0 : decode cX12_allThings 0 = .ok (.iconst 1, 1) := by decide +kernel
theorem dX12_allThings_1 : decode cX12_allThings 1 = .ok (.aload_n 0, 1) := by decide +kernel
theorem dX12_allThings_2 : decode cX12_allThings 2 = .ok (.invokevirtual 85, 3) := by decide +kernel
theorem dX12_allThings_5 : decode cX12_allThings 5 = .ok (.ishl, 1) := by decide +kernel
theorem dX12_allThings_6 : decode cX12_allThings 6 = .ok (.iconst 1, 1) := by decide +kernel
theorem dX12_allThings_7 : decode cX12_allThings 7 = .ok (.isub, 1) := by decide +kernel
theorem dX12_allThings_8 : decode cX12_allThings 8 = .ok (.ireturn, 1) := by decide +kernel
theorem dX12_whatIsSo_0 : decode cX12_whatIsSo 0 = .ok (.iconst 0, 1) := by decide +kernel
theorem dX12_whatIsSo_1 : decode cX12_whatIsSo 1 = .ok (.istore_n 1, 1) := by decide +kernel
theorem dX12_whatIsSo_2 : decode cX12_whatIsSo 2 = .ok (.iconst 0, 1) := by decide +kernel
theorem dX12_whatIsSo_3 : decode cX12_whatIsSo 3 = .ok (.istore_n 2, 1) := by decide +kernel
theorem dX12_whatIsSo_4 : decode cX12_whatIsSo 4 = .ok (.iload_n 2, 1) := by decide +kernel
theorem dX12_whatIsSo_5 : decode cX12_whatIsSo 5 = .ok (.aload_n 0, 1) := by decide +kernel
theorem dX12_whatIsSo_6 : decode cX12_whatIsSo 6 = .ok (.invokevirtual 85, 3) := by decide +kernel
theorem dX12_whatIsSo_9 : decode cX12_whatIsSo 9 = .ok (.if_icmp .ge 20, 3) := by decide +kernel
theorem dX12_whatIsSo_12 : decode cX12_whatIsSo 12 = .ok (.iload_n 1, 1) := by decide +kernel
theorem dX12_whatIsSo_13 : decode cX12_whatIsSo 13 = .ok (.aload_n 0, 1) := by decide +kernel
theorem dX12_whatIsSo_14 : decode cX12_whatIsSo 14 = .ok (.iload_n 2, 1) := by decide +kernel
theorem dX12_whatIsSo_15 : decode cX12_whatIsSo 15 = .ok (.iconst 2, 1) := by decide +kernel
theorem dX12_whatIsSo_16 : decode cX12_whatIsSo 16 = .ok (.invokevirtual 89, 3) := by decide +kernel
theorem dX12_whatIsSo_19 : decode cX12_whatIsSo 19 = .ok (.iload_n 2, 1) := by decide +kernel
theorem dX12_whatIsSo_20 : decode cX12_whatIsSo 20 = .ok (.ishl, 1) := by decide +kernel
theorem dX12_whatIsSo_21 : decode cX12_whatIsSo 21 = .ok (.ior, 1) := by decide +kernel
theorem dX12_whatIsSo_22 : decode cX12_whatIsSo 22 = .ok (.istore_n 1, 1) := by decide +kernel
theorem dX12_whatIsSo_23 : decode cX12_whatIsSo 23 = .ok (.iinc 2 1, 3) := by decide +kernel
theorem dX12_whatIsSo_26 : decode cX12_whatIsSo 26 = .ok (.goto (-22), 3) := by decide +kernel
theorem dX12_whatIsSo_29 : decode cX12_whatIsSo 29 = .ok (.iload_n 1, 1) := by decide +kernel
theorem dX12_whatIsSo_30 : decode cX12_whatIsSo 30 = .ok (.ireturn, 1) := by decide +kernel
theorem dX12_noWitness_0 : decode cX12_noWitness 0 = .ok (.iload_n 1, 1) := by decide +kernel
theorem dX12_noWitness_1 : decode cX12_noWitness 1 = .ok (.iconst 0, 1) := by decide +kernel
theorem dX12_noWitness_2 : decode cX12_noWitness 2 = .ok (.aload_n 0, 1) := by decide +kernel
theorem dX12_noWitness_3 : decode cX12_noWitness 3 = .ok (.invokevirtual 92, 3) := by decide +kernel
theorem dX12_noWitness_6 : decode cX12_noWitness 6 = .ok (.iconst 1, 1) := by decide +kernel
theorem dX12_noWitness_7 : decode cX12_noWitness 7 = .ok (.isub, 1) := by decide +kernel
theorem dX12_noWitness_8 : decode cX12_noWitness 8 = .ok (.invokestatic 95, 3) := by decide +kernel
theorem dX12_noWitness_11 : decode cX12_noWitness 11 = .ok (.ifCond .ne 7, 3) := by decide +kernel
theorem dX12_noWitness_14 : decode cX12_noWitness 14 = .ok (.iconst 1, 1) := by decide +kernel
theorem dX12_noWitness_15 : decode cX12_noWitness 15 = .ok (.goto 4, 3) := by decide +kernel
theorem dX12_noWitness_18 : decode cX12_noWitness 18 = .ok (.iconst 0, 1) := by decide +kernel
theorem dX12_noWitness_19 : decode cX12_noWitness 19 = .ok (.ireturn, 1) := by decide +kernel
theorem dX12_noThing_0 : decode cX12_noThing 0 = .ok (.iload_n 1, 1) := by decide +kernel
theorem dX12_noThing_1 : decode cX12_noThing 1 = .ok (.iconst 0, 1) := by decide +kernel
theorem dX12_noThing_2 : decode cX12_noThing 2 = .ok (.aload_n 0, 1) := by decide +kernel
theorem dX12_noThing_3 : decode cX12_noThing 3 = .ok (.invokevirtual 85, 3) := by decide +kernel
theorem dX12_noThing_6 : decode cX12_noThing 6 = .ok (.iconst 1, 1) := by decide +kernel
theorem dX12_noThing_7 : decode cX12_noThing 7 = .ok (.isub, 1) := by decide +kernel
theorem dX12_noThing_8 : decode cX12_noThing 8 = .ok (.invokestatic 95, 3) := by decide +kernel
theorem dX12_noThing_11 : decode cX12_noThing 11 = .ok (.ifCond .ne 7, 3) := by decide +kernel
theorem dX12_noThing_14 : decode cX12_noThing 14 = .ok (.iconst 1, 1) := by decide +kernel
theorem dX12_noThing_15 : decode cX12_noThing 15 = .ok (.goto 4, 3) := by decide +kernel
theorem dX12_noThing_18 : decode cX12_noThing 18 = .ok (.iconst 0, 1) := by decide +kernel
theorem dX12_noThing_19 : decode cX12_noThing 19 = .ok (.ireturn, 1) := by decide +kernel
theorem dX12_noQuestion_0 : decode cX12_noQuestion 0 = .ok (.iload_n 1, 1) := by decide +kernel
theorem dX12_noQuestion_1 : decode cX12_noQuestion 1 = .ok (.iconst 0, 1) := by decide +kernel
theorem dX12_noQuestion_2 : decode cX12_noQuestion 2 = .ok (.aload_n 0, 1) := by decide +kernel
theorem dX12_noQuestion_3 : decode cX12_noQuestion 3 = .ok (.invokevirtual 99, 3) := by decide +kernel
theorem dX12_noQuestion_6 : decode cX12_noQuestion 6 = .ok (.iconst 1, 1) := by decide +kernel
theorem dX12_noQuestion_7 : decode cX12_noQuestion 7 = .ok (.isub, 1) := by decide +kernel
theorem dX12_noQuestion_8 : decode cX12_noQuestion 8 = .ok (.invokestatic 95, 3) := by decide +kernel
theorem dX12_noQuestion_11 : decode cX12_noQuestion 11 = .ok (.ifCond .ne 7, 3) := by decide +kernel
theorem dX12_noQuestion_14 : decode cX12_noQuestion 14 = .ok (.iconst 1, 1) := by decide +kernel
theorem dX12_noQuestion_15 : decode cX12_noQuestion 15 = .ok (.goto 4, 3) := by decide +kernel
theorem dX12_noQuestion_18 : decode cX12_noQuestion 18 = .ok (.iconst 0, 1) := by decide +kernel
theorem dX12_noQuestion_19 : decode cX12_noQuestion 19 = .ok (.ireturn, 1) := by decide +kernel
theorem dX12_noWoman_0 : decode cX12_noWoman 0 = .ok (.iload_n 1, 1) := by decide +kernel
theorem dX12_noWoman_1 : decode cX12_noWoman 1 = .ok (.iconst 0, 1) := by decide +kernel
theorem dX12_noWoman_2 : decode cX12_noWoman 2 = .ok (.aload_n 0, 1) := by decide +kernel
theorem dX12_noWoman_3 : decode cX12_noWoman 3 = .ok (.invokevirtual 102, 3) := by decide +kernel
theorem dX12_noWoman_6 : decode cX12_noWoman 6 = .ok (.iconst 1, 1) := by decide +kernel
theorem dX12_noWoman_7 : decode cX12_noWoman 7 = .ok (.isub, 1) := by decide +kernel
theorem dX12_noWoman_8 : decode cX12_noWoman 8 = .ok (.invokestatic 95, 3) := by decide +kernel
theorem dX12_noWoman_11 : decode cX12_noWoman 11 = .ok (.ifCond .ne 7, 3) := by decide +kernel
theorem dX12_noWoman_14 : decode cX12_noWoman 14 = .ok (.iconst 1, 1) := by decide +kernel
theorem dX12_noWoman_15 : decode cX12_noWoman 15 = .ok (.goto 4, 3) := by decide +kernel
theorem dX12_noWoman_18 : decode cX12_noWoman 18 = .ok (.iconst 0, 1) := by decide +kernel
theorem dX12_noWoman_19 : decode cX12_noWoman 19 = .ok (.ireturn, 1) := by decide +kernel
theorem dX12_drawn_0 : decode cX12_drawn 0 = .ok (.aload_n 0, 1) := by decide +kernel
theorem dX12_drawn_1 : decode cX12_drawn 1 = .ok (.getfield 13, 3) := by decide +kernel
theorem dX12_drawn_4 : decode cX12_drawn 4 = .ok (.bipush 11, 2) := by decide +kernel
theorem dX12_drawn_6 : decode cX12_drawn 6 = .ok (.ldc 105, 2) := by decide +kernel
theorem dX12_drawn_8 : decode cX12_drawn 8 = .ok (.aload_n 0, 1) := by decide +kernel
theorem dX12_drawn_9 : decode cX12_drawn 9 = .ok (.getfield 13, 3) := by decide +kernel
theorem dX12_drawn_12 : decode cX12_drawn 12 = .ok (.bipush 11, 2) := by decide +kernel
theorem dX12_drawn_14 : decode cX12_drawn 14 = .ok (.iaload, 1) := by decide +kernel
theorem dX12_drawn_15 : decode cX12_drawn 15 = .ok (.imul, 1) := by decide +kernel
theorem dX12_drawn_16 : decode cX12_drawn 16 = .ok (.sipush 12345, 3) := by decide +kernel
theorem dX12_drawn_19 : decode cX12_drawn 19 = .ok (.iadd, 1) := by decide +kernel
theorem dX12_drawn_20 : decode cX12_drawn 20 = .ok (.iastore, 1) := by decide +kernel
theorem dX12_drawn_21 : decode cX12_drawn 21 = .ok (.aload_n 0, 1) := by decide +kernel
theorem dX12_drawn_22 : decode cX12_drawn 22 = .ok (.getfield 13, 3) := by decide +kernel
theorem dX12_drawn_25 : decode cX12_drawn 25 = .ok (.bipush 11, 2) := by decide +kernel
theorem dX12_drawn_27 : decode cX12_drawn 27 = .ok (.iaload, 1) := by decide +kernel
theorem dX12_drawn_28 : decode cX12_drawn 28 = .ok (.bipush 16, 2) := by decide +kernel
theorem dX12_drawn_30 : decode cX12_drawn 30 = .ok (.ishr, 1) := by decide +kernel
theorem dX12_drawn_31 : decode cX12_drawn 31 = .ok (.sipush 32767, 3) := by decide +kernel
theorem dX12_drawn_34 : decode cX12_drawn 34 = .ok (.iand, 1) := by decide +kernel
theorem dX12_drawn_35 : decode cX12_drawn 35 = .ok (.iload_n 1, 1) := by decide +kernel
theorem dX12_drawn_36 : decode cX12_drawn 36 = .ok (.irem, 1) := by decide +kernel
theorem dX12_drawn_37 : decode cX12_drawn 37 = .ok (.ireturn, 1) := by decide +kernel
theorem dX12_feed_0 : decode cX12_feed 0 = .ok (.aload_n 0, 1) := by decide +kernel
theorem dX12_feed_1 : decode cX12_feed 1 = .ok (.iconst 0, 1) := by decide +kernel
theorem dX12_feed_2 : decode cX12_feed 2 = .ok (.putfield 3, 3) := by decide +kernel
theorem dX12_feed_5 : decode cX12_feed 5 = .ok (.aload_n 0, 1) := by decide +kernel
theorem dX12_feed_6 : decode cX12_feed 6 = .ok (.getfield 106, 3) := by decide +kernel
theorem dX12_feed_9 : decode cX12_feed 9 = .ok (.bipush 20, 2) := by decide +kernel
theorem dX12_feed_11 : decode cX12_feed 11 = .ok (.iadd, 1) := by decide +kernel
theorem dX12_feed_12 : decode cX12_feed 12 = .ok (.sipush 400, 3) := by decide +kernel
theorem dX12_feed_15 : decode cX12_feed 15 = .ok (.if_icmp .le 5, 3) := by decide +kernel
theorem dX12_feed_18 : decode cX12_feed 18 = .ok (.iconst (-1), 1) := by decide +kernel
theorem dX12_feed_19 : decode cX12_feed 19 = .ok (.ireturn, 1) := by decide +kernel
theorem dX12_feed_20 : decode cX12_feed 20 = .ok (.aload_n 0, 1) := by decide +kernel
theorem dX12_feed_21 : decode cX12_feed 21 = .ok (.getfield 36, 3) := by decide +kernel
theorem dX12_feed_24 : decode cX12_feed 24 = .ok (.iconst 0, 1) := by decide +kernel
theorem dX12_feed_25 : decode cX12_feed 25 = .ok (.iload_n 1, 1) := by decide +kernel
theorem dX12_feed_26 : decode cX12_feed 26 = .ok (.iastore, 1) := by decide +kernel
theorem dX12_feed_27 : decode cX12_feed 27 = .ok (.aload_n 0, 1) := by decide +kernel
theorem dX12_feed_28 : decode cX12_feed 28 = .ok (.getfield 36, 3) := by decide +kernel
theorem dX12_feed_31 : decode cX12_feed 31 = .ok (.iconst 1, 1) := by decide +kernel
theorem dX12_feed_32 : decode cX12_feed 32 = .ok (.iload_n 2, 1) := by decide +kernel
theorem dX12_feed_33 : decode cX12_feed 33 = .ok (.iastore, 1) := by decide +kernel
theorem dX12_feed_34 : decode cX12_feed 34 = .ok (.aload_n 0, 1) := by decide +kernel
theorem dX12_feed_35 : decode cX12_feed 35 = .ok (.getfield 36, 3) := by decide +kernel
theorem dX12_feed_38 : decode cX12_feed 38 = .ok (.iconst 2, 1) := by decide +kernel
theorem dX12_feed_39 : decode cX12_feed 39 = .ok (.iload_n 3, 1) := by decide +kernel
theorem dX12_feed_40 : decode cX12_feed 40 = .ok (.iastore, 1) := by decide +kernel
theorem dX12_feed_41 : decode cX12_feed 41 = .ok (.aload_n 0, 1) := by decide +kernel
theorem dX12_feed_42 : decode cX12_feed 42 = .ok (.getfield 36, 3) := by decide +kernel
theorem dX12_feed_45 : decode cX12_feed 45 = .ok (.iconst 3, 1) := by decide +kernel
theorem dX12_feed_46 : decode cX12_feed 46 = .ok (.iload 4, 2) := by decide +kernel
theorem dX12_feed_48 : decode cX12_feed 48 = .ok (.iastore, 1) := by decide +kernel
theorem dX12_feed_49 : decode cX12_feed 49 = .ok (.aload_n 0, 1) := by decide +kernel
theorem dX12_feed_50 : decode cX12_feed 50 = .ok (.getfield 36, 3) := by decide +kernel
theorem dX12_feed_53 : decode cX12_feed 53 = .ok (.iconst 4, 1) := by decide +kernel
theorem dX12_feed_54 : decode cX12_feed 54 = .ok (.iload 5, 2) := by decide +kernel
theorem dX12_feed_56 : decode cX12_feed 56 = .ok (.iastore, 1) := by decide +kernel
theorem dX12_feed_57 : decode cX12_feed 57 = .ok (.iconst 0, 1) := by decide +kernel
theorem dX12_feed_58 : decode cX12_feed 58 = .ok (.istore 6, 2) := by decide +kernel
theorem dX12_feed_60 : decode cX12_feed 60 = .ok (.iload 6, 2) := by decide +kernel
theorem dX12_feed_62 : decode cX12_feed 62 = .ok (.bipush 20, 2) := by decide +kernel
theorem dX12_feed_64 : decode cX12_feed 64 = .ok (.if_icmp .ge 42, 3) := by decide +kernel
theorem dX12_feed_67 : decode cX12_feed 67 = .ok (.aload_n 0, 1) := by decide +kernel
theorem dX12_feed_68 : decode cX12_feed 68 = .ok (.getfield 29, 3) := by decide +kernel
theorem dX12_feed_71 : decode cX12_feed 71 = .ok (.aload_n 0, 1) := by decide +kernel
theorem dX12_feed_72 : decode cX12_feed 72 = .ok (.getfield 106, 3) := by decide +kernel
theorem dX12_feed_75 : decode cX12_feed 75 = .ok (.iload 6, 2) := by decide +kernel
theorem dX12_feed_77 : decode cX12_feed 77 = .ok (.iadd, 1) := by decide +kernel
theorem dX12_feed_78 : decode cX12_feed 78 = .ok (.aload_n 0, 1) := by decide +kernel
theorem dX12_feed_79 : decode cX12_feed 79 = .ok (.getfield 36, 3) := by decide +kernel
theorem dX12_feed_82 : decode cX12_feed 82 = .ok (.iload 6, 2) := by decide +kernel
theorem dX12_feed_84 : decode cX12_feed 84 = .ok (.iconst 4, 1) := by decide +kernel
theorem dX12_feed_85 : decode cX12_feed 85 = .ok (.idiv, 1) := by decide +kernel
theorem dX12_feed_86 : decode cX12_feed 86 = .ok (.iaload, 1) := by decide +kernel
theorem dX12_feed_87 : decode cX12_feed 87 = .ok (.bipush 24, 2) := by decide +kernel
theorem dX12_feed_89 : decode cX12_feed 89 = .ok (.bipush 8, 2) := by decide +kernel
theorem dX12_feed_91 : decode cX12_feed 91 = .ok (.iload 6, 2) := by decide +kernel
theorem dX12_feed_93 : decode cX12_feed 93 = .ok (.iconst 4, 1) := by decide +kernel
theorem dX12_feed_94 : decode cX12_feed 94 = .ok (.irem, 1) := by decide +kernel
theorem dX12_feed_95 : decode cX12_feed 95 = .ok (.imul, 1) := by decide +kernel
theorem dX12_feed_96 : decode cX12_feed 96 = .ok (.isub, 1) := by decide +kernel
theorem dX12_feed_97 : decode cX12_feed 97 = .ok (.ishr, 1) := by decide +kernel
theorem dX12_feed_98 : decode cX12_feed 98 = .ok (.i2b, 1) := by decide +kernel
theorem dX12_feed_99 : decode cX12_feed 99 = .ok (.bastore, 1) := by decide +kernel
theorem dX12_feed_100 : decode cX12_feed 100 = .ok (.iinc 6 1, 3) := by decide +kernel
theorem dX12_feed_103 : decode cX12_feed 103 = .ok (.goto (-43), 3) := by decide +kernel
theorem dX12_feed_106 : decode cX12_feed 106 = .ok (.aload_n 0, 1) := by decide +kernel
theorem dX12_feed_107 : decode cX12_feed 107 = .ok (.dup, 1) := by decide +kernel
theorem dX12_feed_108 : decode cX12_feed 108 = .ok (.getfield 106, 3) := by decide +kernel
theorem dX12_feed_111 : decode cX12_feed 111 = .ok (.bipush 20, 2) := by decide +kernel
theorem dX12_feed_113 : decode cX12_feed 113 = .ok (.iadd, 1) := by decide +kernel
theorem dX12_feed_114 : decode cX12_feed 114 = .ok (.putfield 106, 3) := by decide +kernel
theorem dX12_feed_117 : decode cX12_feed 117 = .ok (.aload_n 0, 1) := by decide +kernel
theorem dX12_feed_118 : decode cX12_feed 118 = .ok (.getfield 106, 3) := by decide +kernel
theorem dX12_feed_121 : decode cX12_feed 121 = .ok (.ireturn, 1) := by decide +kernel
theorem dX12_end_0 : decode cX12_end 0 = .ok (.aload_n 0, 1) := by decide +kernel
theorem dX12_end_1 : decode cX12_end 1 = .ok (.iconst 0, 1) := by decide +kernel
theorem dX12_end_2 : decode cX12_end 2 = .ok (.putfield 3, 3) := by decide +kernel
theorem dX12_end_5 : decode cX12_end 5 = .ok (.iload_n 1, 1) := by decide +kernel
theorem dX12_end_6 : decode cX12_end 6 = .ok (.ifCond .lt 11, 3) := by decide +kernel
theorem dX12_end_9 : decode cX12_end 9 = .ok (.iload_n 1, 1) := by decide +kernel
theorem dX12_end_10 : decode cX12_end 10 = .ok (.aload_n 0, 1) := by decide +kernel
theorem dX12_end_11 : decode cX12_end 11 = .ok (.getfield 106, 3) := by decide +kernel
theorem dX12_end_14 : decode cX12_end 14 = .ok (.if_icmp .le 5, 3) := by decide +kernel
theorem dX12_end_17 : decode cX12_end 17 = .ok (.iconst 0, 1) := by decide +kernel
theorem dX12_end_18 : decode cX12_end 18 = .ok (.ireturn, 1) := by decide +kernel
theorem dX12_end_19 : decode cX12_end 19 = .ok (.aload_n 0, 1) := by decide +kernel
theorem dX12_end_20 : decode cX12_end 20 = .ok (.iload_n 1, 1) := by decide +kernel
theorem dX12_end_21 : decode cX12_end 21 = .ok (.putfield 106, 3) := by decide +kernel
theorem dX12_end_24 : decode cX12_end 24 = .ok (.iconst 1, 1) := by decide +kernel
theorem dX12_end_25 : decode cX12_end 25 = .ok (.ireturn, 1) := by decide +kernel
theorem dX12_isAt_0 : decode cX12_isAt 0 = .ok (.aload_n 0, 1) := by decide +kernel
theorem dX12_isAt_1 : decode cX12_isAt 1 = .ok (.getfield 109, 3) := by decide +kernel
theorem dX12_isAt_4 : decode cX12_isAt 4 = .ok (.aload_n 0, 1) := by decide +kernel
theorem dX12_isAt_5 : decode cX12_isAt 5 = .ok (.getfield 112, 3) := by decide +kernel
theorem dX12_isAt_8 : decode cX12_isAt 8 = .ok (.if_icmp .ge 33, 3) := by decide +kernel
theorem dX12_isAt_11 : decode cX12_isAt 11 = .ok (.aload_n 0, 1) := by decide +kernel
theorem dX12_isAt_12 : decode cX12_isAt 12 = .ok (.getfield 29, 3) := by decide +kernel
theorem dX12_isAt_15 : decode cX12_isAt 15 = .ok (.aload_n 0, 1) := by decide +kernel
theorem dX12_isAt_16 : decode cX12_isAt 16 = .ok (.getfield 109, 3) := by decide +kernel
theorem dX12_isAt_19 : decode cX12_isAt 19 = .ok (.baload, 1) := by decide +kernel
theorem dX12_isAt_20 : decode cX12_isAt 20 = .ok (.iload_n 1, 1) := by decide +kernel
theorem dX12_isAt_21 : decode cX12_isAt 21 = .ok (.if_icmp .lt 20, 3) := by decide +kernel
theorem dX12_isAt_24 : decode cX12_isAt 24 = .ok (.aload_n 0, 1) := by decide +kernel
theorem dX12_isAt_25 : decode cX12_isAt 25 = .ok (.getfield 29, 3) := by decide +kernel
theorem dX12_isAt_28 : decode cX12_isAt 28 = .ok (.aload_n 0, 1) := by decide +kernel
theorem dX12_isAt_29 : decode cX12_isAt 29 = .ok (.getfield 109, 3) := by decide +kernel
theorem dX12_isAt_32 : decode cX12_isAt 32 = .ok (.baload, 1) := by decide +kernel
theorem dX12_isAt_33 : decode cX12_isAt 33 = .ok (.iload_n 2, 1) := by decide +kernel
theorem dX12_isAt_34 : decode cX12_isAt 34 = .ok (.if_icmp .gt 7, 3) := by decide +kernel
theorem dX12_isAt_37 : decode cX12_isAt 37 = .ok (.iconst 1, 1) := by decide +kernel
theorem dX12_isAt_38 : decode cX12_isAt 38 = .ok (.goto 4, 3) := by decide +kernel
theorem dX12_isAt_41 : decode cX12_isAt 41 = .ok (.iconst 0, 1) := by decide +kernel
theorem dX12_isAt_42 : decode cX12_isAt 42 = .ok (.ireturn, 1) := by decide +kernel
theorem dX12_blanks_0 : decode cX12_blanks 0 = .ok (.aload_n 0, 1) := by decide +kernel
theorem dX12_blanks_1 : decode cX12_blanks 1 = .ok (.bipush 32, 2) := by decide +kernel
theorem dX12_blanks_3 : decode cX12_blanks 3 = .ok (.bipush 32, 2) := by decide +kernel
theorem dX12_blanks_5 : decode cX12_blanks 5 = .ok (.invokevirtual 115, 3) := by decide +kernel
theorem dX12_blanks_8 : decode cX12_blanks 8 = .ok (.ifCond .eq 16, 3) := by decide +kernel
theorem dX12_blanks_11 : decode cX12_blanks 11 = .ok (.aload_n 0, 1) := by decide +kernel
theorem dX12_blanks_12 : decode cX12_blanks 12 = .ok (.dup, 1) := by decide +kernel
theorem dX12_blanks_13 : decode cX12_blanks 13 = .ok (.getfield 109, 3) := by decide +kernel
theorem dX12_blanks_16 : decode cX12_blanks 16 = .ok (.iconst 1, 1) := by decide +kernel
theorem dX12_blanks_17 : decode cX12_blanks 17 = .ok (.iadd, 1) := by decide +kernel
theorem dX12_blanks_18 : decode cX12_blanks 18 = .ok (.putfield 109, 3) := by decide +kernel
theorem dX12_blanks_21 : decode cX12_blanks 21 = .ok (.goto (-21), 3) := by decide +kernel
theorem dX12_blanks_24 : decode cX12_blanks 24 = .ok (.aload_n 0, 1) := by decide +kernel
theorem dX12_blanks_25 : decode cX12_blanks 25 = .ok (.aload_n 0, 1) := by decide +kernel
theorem dX12_blanks_26 : decode cX12_blanks 26 = .ok (.getfield 109, 3) := by decide +kernel
theorem dX12_blanks_29 : decode cX12_blanks 29 = .ok (.putfield 119, 3) := by decide +kernel
theorem dX12_blanks_32 : decode cX12_blanks 32 = .ok (.return_, 1) := by decide +kernel
theorem dX12_letters_0 : decode cX12_letters 0 = .ok (.aload_n 0, 1) := by decide +kernel
theorem dX12_letters_1 : decode cX12_letters 1 = .ok (.invokevirtual 122, 3) := by decide +kernel
theorem dX12_letters_4 : decode cX12_letters 4 = .ok (.aload_n 0, 1) := by decide +kernel
theorem dX12_letters_5 : decode cX12_letters 5 = .ok (.bipush 97, 2) := by decide +kernel
theorem dX12_letters_7 : decode cX12_letters 7 = .ok (.bipush 122, 2) := by decide +kernel
theorem dX12_letters_9 : decode cX12_letters 9 = .ok (.invokevirtual 115, 3) := by decide +kernel
theorem dX12_letters_12 : decode cX12_letters 12 = .ok (.ifCond .eq 16, 3) := by decide +kernel
theorem dX12_letters_15 : decode cX12_letters 15 = .ok (.aload_n 0, 1) := by decide +kernel
theorem dX12_letters_16 : decode cX12_letters 16 = .ok (.dup, 1) := by decide +kernel
theorem dX12_letters_17 : decode cX12_letters 17 = .ok (.getfield 109, 3) := by decide +kernel
theorem dX12_letters_20 : decode cX12_letters 20 = .ok (.iconst 1, 1) := by decide +kernel
theorem dX12_letters_21 : decode cX12_letters 21 = .ok (.iadd, 1) := by decide +kernel
theorem dX12_letters_22 : decode cX12_letters 22 = .ok (.putfield 109, 3) := by decide +kernel
theorem dX12_letters_25 : decode cX12_letters 25 = .ok (.goto (-21), 3) := by decide +kernel
theorem dX12_letters_28 : decode cX12_letters 28 = .ok (.return_, 1) := by decide +kernel
theorem dX12_isWord_0 : decode cX12_isWord 0 = .ok (.aload_n 0, 1) := by decide +kernel
theorem dX12_isWord_1 : decode cX12_isWord 1 = .ok (.getfield 109, 3) := by decide +kernel
theorem dX12_isWord_4 : decode cX12_isWord 4 = .ok (.aload_n 0, 1) := by decide +kernel
theorem dX12_isWord_5 : decode cX12_isWord 5 = .ok (.getfield 119, 3) := by decide +kernel
theorem dX12_isWord_8 : decode cX12_isWord 8 = .ok (.isub, 1) := by decide +kernel
theorem dX12_isWord_9 : decode cX12_isWord 9 = .ok (.aload_n 1, 1) := by decide +kernel
theorem dX12_isWord_10 : decode cX12_isWord 10 = .ok (.invokevirtual 125, 3) := by decide +kernel
theorem dX12_isWord_13 : decode cX12_isWord 13 = .ok (.if_icmp .ne 7, 3) := by decide +kernel
theorem dX12_isWord_16 : decode cX12_isWord 16 = .ok (.iconst 1, 1) := by decide +kernel
theorem dX12_isWord_17 : decode cX12_isWord 17 = .ok (.goto 4, 3) := by decide +kernel
theorem dX12_isWord_20 : decode cX12_isWord 20 = .ok (.iconst 0, 1) := by decide +kernel
theorem dX12_isWord_21 : decode cX12_isWord 21 = .ok (.istore_n 2, 1) := by decide +kernel
theorem dX12_isWord_22 : decode cX12_isWord 22 = .ok (.iconst 0, 1) := by decide +kernel
theorem dX12_isWord_23 : decode cX12_isWord 23 = .ok (.istore_n 3, 1) := by decide +kernel
theorem dX12_isWord_24 : decode cX12_isWord 24 = .ok (.iload_n 2, 1) := by decide +kernel
theorem dX12_isWord_25 : decode cX12_isWord 25 = .ok (.ifCond .eq 42, 3) := by decide +kernel
theorem dX12_isWord_28 : decode cX12_isWord 28 = .ok (.iload_n 3, 1) := by decide +kernel
theorem dX12_isWord_29 : decode cX12_isWord 29 = .ok (.aload_n 1, 1) := by decide +kernel
theorem dX12_isWord_30 : decode cX12_isWord 30 = .ok (.invokevirtual 125, 3) := by decide +kernel
theorem dX12_isWord_33 : decode cX12_isWord 33 = .ok (.if_icmp .ge 34, 3) := by decide +kernel
theorem dX12_isWord_36 : decode cX12_isWord 36 = .ok (.aload_n 0, 1) := by decide +kernel
theorem dX12_isWord_37 : decode cX12_isWord 37 = .ok (.getfield 29, 3) := by decide +kernel
theorem dX12_isWord_40 : decode cX12_isWord 40 = .ok (.aload_n 0, 1) := by decide +kernel
theorem dX12_isWord_41 : decode cX12_isWord 41 = .ok (.getfield 119, 3) := by decide +kernel
theorem dX12_isWord_44 : decode cX12_isWord 44 = .ok (.iload_n 3, 1) := by decide +kernel
theorem dX12_isWord_45 : decode cX12_isWord 45 = .ok (.iadd, 1) := by decide +kernel
theorem dX12_isWord_46 : decode cX12_isWord 46 = .ok (.baload, 1) := by decide +kernel
theorem dX12_isWord_47 : decode cX12_isWord 47 = .ok (.aload_n 1, 1) := by decide +kernel
theorem dX12_isWord_48 : decode cX12_isWord 48 = .ok (.iload_n 3, 1) := by decide +kernel
theorem dX12_isWord_49 : decode cX12_isWord 49 = .ok (.invokevirtual 130, 3) := by decide +kernel
theorem dX12_isWord_52 : decode cX12_isWord 52 = .ok (.if_icmp .ne 7, 3) := by decide +kernel
theorem dX12_isWord_55 : decode cX12_isWord 55 = .ok (.iconst 1, 1) := by decide +kernel
theorem dX12_isWord_56 : decode cX12_isWord 56 = .ok (.goto 4, 3) := by decide +kernel
theorem dX12_isWord_59 : decode cX12_isWord 59 = .ok (.iconst 0, 1) := by decide +kernel
theorem dX12_isWord_60 : decode cX12_isWord 60 = .ok (.istore_n 2, 1) := by decide +kernel
theorem dX12_isWord_61 : decode cX12_isWord 61 = .ok (.iinc 3 1, 3) := by decide +kernel
theorem dX12_isWord_64 : decode cX12_isWord 64 = .ok (.goto (-40), 3) := by decide +kernel
theorem dX12_isWord_67 : decode cX12_isWord 67 = .ok (.iload_n 2, 1) := by decide +kernel
theorem dX12_isWord_68 : decode cX12_isWord 68 = .ok (.ireturn, 1) := by decide +kernel
theorem dX12_passes_0 : decode cX12_passes 0 = .ok (.aload_n 0, 1) := by decide +kernel
theorem dX12_passes_1 : decode cX12_passes 1 = .ok (.invokevirtual 134, 3) := by decide +kernel
theorem dX12_passes_4 : decode cX12_passes 4 = .ok (.aload_n 0, 1) := by decide +kernel
theorem dX12_passes_5 : decode cX12_passes 5 = .ok (.aload_n 1, 1) := by decide +kernel
theorem dX12_passes_6 : decode cX12_passes 6 = .ok (.invokevirtual 137, 3) := by decide +kernel
theorem dX12_passes_9 : decode cX12_passes 9 = .ok (.ifCond .eq 5, 3) := by decide +kernel
theorem dX12_passes_12 : decode cX12_passes 12 = .ok (.iconst 1, 1) := by decide +kernel
theorem dX12_passes_13 : decode cX12_passes 13 = .ok (.ireturn, 1) := by decide +kernel
theorem dX12_passes_14 : decode cX12_passes 14 = .ok (.aload_n 0, 1) := by decide +kernel
theorem dX12_passes_15 : decode cX12_passes 15 = .ok (.aload_n 0, 1) := by decide +kernel
theorem dX12_passes_16 : decode cX12_passes 16 = .ok (.getfield 119, 3) := by decide +kernel
theorem dX12_passes_19 : decode cX12_passes 19 = .ok (.putfield 109, 3) := by decide +kernel
theorem dX12_passes_22 : decode cX12_passes 22 = .ok (.iconst 0, 1) := by decide +kernel
theorem dX12_passes_23 : decode cX12_passes 23 = .ok (.ireturn, 1) := by decide +kernel
theorem dX12_sign_0 : decode cX12_sign 0 = .ok (.aload_n 0, 1) := by decide +kernel
theorem dX12_sign_1 : decode cX12_sign 1 = .ok (.invokevirtual 122, 3) := by decide +kernel
theorem dX12_sign_4 : decode cX12_sign 4 = .ok (.aload_n 0, 1) := by decide +kernel
theorem dX12_sign_5 : decode cX12_sign 5 = .ok (.iload_n 1, 1) := by decide +kernel
theorem dX12_sign_6 : decode cX12_sign 6 = .ok (.iload_n 1, 1) := by decide +kernel
theorem dX12_sign_7 : decode cX12_sign 7 = .ok (.invokevirtual 115, 3) := by decide +kernel
theorem dX12_sign_10 : decode cX12_sign 10 = .ok (.ifCond .ne 5, 3) := by decide +kernel
theorem dX12_sign_13 : decode cX12_sign 13 = .ok (.iconst 0, 1) := by decide +kernel
theorem dX12_sign_14 : decode cX12_sign 14 = .ok (.ireturn, 1) := by decide +kernel
theorem dX12_sign_15 : decode cX12_sign 15 = .ok (.aload_n 0, 1) := by decide +kernel
theorem dX12_sign_16 : decode cX12_sign 16 = .ok (.dup, 1) := by decide +kernel
theorem dX12_sign_17 : decode cX12_sign 17 = .ok (.getfield 109, 3) := by decide +kernel
theorem dX12_sign_20 : decode cX12_sign 20 = .ok (.iconst 1, 1) := by decide +kernel
theorem dX12_sign_21 : decode cX12_sign 21 = .ok (.iadd, 1) := by decide +kernel
theorem dX12_sign_22 : decode cX12_sign 22 = .ok (.putfield 109, 3) := by decide +kernel
theorem dX12_sign_25 : decode cX12_sign 25 = .ok (.iconst 1, 1) := by decide +kernel
theorem dX12_sign_26 : decode cX12_sign 26 = .ok (.ireturn, 1) := by decide +kernel
theorem dX12_number_0 : decode cX12_number 0 = .ok (.aload_n 0, 1) := by decide +kernel
theorem dX12_number_1 : decode cX12_number 1 = .ok (.invokevirtual 122, 3) := by decide +kernel
theorem dX12_number_4 : decode cX12_number 4 = .ok (.iconst 0, 1) := by decide +kernel
theorem dX12_number_5 : decode cX12_number 5 = .ok (.istore_n 3, 1) := by decide +kernel
theorem dX12_number_6 : decode cX12_number 6 = .ok (.aload_n 0, 1) := by decide +kernel
theorem dX12_number_7 : decode cX12_number 7 = .ok (.bipush 48, 2) := by decide +kernel
theorem dX12_number_9 : decode cX12_number 9 = .ok (.bipush 57, 2) := by decide +kernel
theorem dX12_number_11 : decode cX12_number 11 = .ok (.invokevirtual 115, 3) := by decide +kernel
theorem dX12_number_14 : decode cX12_number 14 = .ok (.ifCond .eq 51, 3) := by decide +kernel
theorem dX12_number_17 : decode cX12_number 17 = .ok (.aload_n 0, 1) := by decide +kernel
theorem dX12_number_18 : decode cX12_number 18 = .ok (.getfield 109, 3) := by decide +kernel
theorem dX12_number_21 : decode cX12_number 21 = .ok (.aload_n 0, 1) := by decide +kernel
theorem dX12_number_22 : decode cX12_number 22 = .ok (.getfield 119, 3) := by decide +kernel
theorem dX12_number_25 : decode cX12_number 25 = .ok (.isub, 1) := by decide +kernel
theorem dX12_number_26 : decode cX12_number 26 = .ok (.iconst 3, 1) := by decide +kernel
theorem dX12_number_27 : decode cX12_number 27 = .ok (.if_icmp .ge 23, 3) := by decide +kernel
theorem dX12_number_30 : decode cX12_number 30 = .ok (.bipush 10, 2) := by decide +kernel
theorem dX12_number_32 : decode cX12_number 32 = .ok (.iload_n 3, 1) := by decide +kernel
theorem dX12_number_33 : decode cX12_number 33 = .ok (.imul, 1) := by decide +kernel
theorem dX12_number_34 : decode cX12_number 34 = .ok (.aload_n 0, 1) := by decide +kernel
theorem dX12_number_35 : decode cX12_number 35 = .ok (.getfield 29, 3) := by decide +kernel
theorem dX12_number_38 : decode cX12_number 38 = .ok (.aload_n 0, 1) := by decide +kernel
theorem dX12_number_39 : decode cX12_number 39 = .ok (.getfield 109, 3) := by decide +kernel
theorem dX12_number_42 : decode cX12_number 42 = .ok (.baload, 1) := by decide +kernel
theorem dX12_number_43 : decode cX12_number 43 = .ok (.iadd, 1) := by decide +kernel
theorem dX12_number_44 : decode cX12_number 44 = .ok (.bipush 48, 2) := by decide +kernel
theorem dX12_number_46 : decode cX12_number 46 = .ok (.isub, 1) := by decide +kernel
theorem dX12_number_47 : decode cX12_number 47 = .ok (.goto 4, 3) := by decide +kernel
theorem dX12_number_50 : decode cX12_number 50 = .ok (.iload_n 3, 1) := by decide +kernel
theorem dX12_number_51 : decode cX12_number 51 = .ok (.istore_n 3, 1) := by decide +kernel
theorem dX12_number_52 : decode cX12_number 52 = .ok (.aload_n 0, 1) := by decide +kernel
theorem dX12_number_53 : decode cX12_number 53 = .ok (.dup, 1) := by decide +kernel
theorem dX12_number_54 : decode cX12_number 54 = .ok (.getfield 109, 3) := by decide +kernel
theorem dX12_number_57 : decode cX12_number 57 = .ok (.iconst 1, 1) := by decide +kernel
theorem dX12_number_58 : decode cX12_number 58 = .ok (.iadd, 1) := by decide +kernel
theorem dX12_number_59 : decode cX12_number 59 = .ok (.putfield 109, 3) := by decide +kernel
theorem dX12_number_62 : decode cX12_number 62 = .ok (.goto (-56), 3) := by decide +kernel
theorem dX12_number_65 : decode cX12_number 65 = .ok (.aload_n 0, 1) := by decide +kernel
theorem dX12_number_66 : decode cX12_number 66 = .ok (.getfield 109, 3) := by decide +kernel
theorem dX12_number_69 : decode cX12_number 69 = .ok (.aload_n 0, 1) := by decide +kernel
theorem dX12_number_70 : decode cX12_number 70 = .ok (.getfield 119, 3) := by decide +kernel
theorem dX12_number_73 : decode cX12_number 73 = .ok (.if_icmp .eq 26, 3) := by decide +kernel
theorem dX12_number_76 : decode cX12_number 76 = .ok (.aload_n 0, 1) := by decide +kernel
theorem dX12_number_77 : decode cX12_number 77 = .ok (.getfield 109, 3) := by decide +kernel
theorem dX12_number_80 : decode cX12_number 80 = .ok (.aload_n 0, 1) := by decide +kernel
theorem dX12_number_81 : decode cX12_number 81 = .ok (.getfield 119, 3) := by decide +kernel
theorem dX12_number_84 : decode cX12_number 84 = .ok (.isub, 1) := by decide +kernel
theorem dX12_number_85 : decode cX12_number 85 = .ok (.iconst 3, 1) := by decide +kernel
theorem dX12_number_86 : decode cX12_number 86 = .ok (.if_icmp .gt 13, 3) := by decide +kernel
theorem dX12_number_89 : decode cX12_number 89 = .ok (.iload_n 3, 1) := by decide +kernel
theorem dX12_number_90 : decode cX12_number 90 = .ok (.iload_n 1, 1) := by decide +kernel
theorem dX12_number_91 : decode cX12_number 91 = .ok (.if_icmp .lt 8, 3) := by decide +kernel
theorem dX12_number_94 : decode cX12_number 94 = .ok (.iload_n 3, 1) := by decide +kernel
theorem dX12_number_95 : decode cX12_number 95 = .ok (.iload_n 2, 1) := by decide +kernel
theorem dX12_number_96 : decode cX12_number 96 = .ok (.if_icmp .le 7, 3) := by decide +kernel
theorem dX12_number_99 : decode cX12_number 99 = .ok (.iconst (-1), 1) := by decide +kernel
theorem dX12_number_100 : decode cX12_number 100 = .ok (.goto 4, 3) := by decide +kernel
theorem dX12_number_103 : decode cX12_number 103 = .ok (.iload_n 3, 1) := by decide +kernel
theorem dX12_number_104 : decode cX12_number 104 = .ok (.ireturn, 1) := by decide +kernel
theorem dX12_behind_0 : decode cX12_behind 0 = .ok (.aload_n 0, 1) := by decide +kernel
theorem dX12_behind_1 : decode cX12_behind 1 = .ok (.invokevirtual 134, 3) := by decide +kernel
theorem dX12_behind_4 : decode cX12_behind 4 = .ok (.aload_n 0, 1) := by decide +kernel
theorem dX12_behind_5 : decode cX12_behind 5 = .ok (.aload_n 1, 1) := by decide +kernel
theorem dX12_behind_6 : decode cX12_behind 6 = .ok (.invokevirtual 137, 3) := by decide +kernel
theorem dX12_behind_9 : decode cX12_behind 9 = .ok (.ifCond .eq 12, 3) := by decide +kernel
theorem dX12_behind_12 : decode cX12_behind 12 = .ok (.aload_n 0, 1) := by decide +kernel
theorem dX12_behind_13 : decode cX12_behind 13 = .ok (.iload_n 2, 1) := by decide +kernel
theorem dX12_behind_14 : decode cX12_behind 14 = .ok (.iload_n 3, 1) := by decide +kernel
theorem dX12_behind_15 : decode cX12_behind 15 = .ok (.invokevirtual 141, 3) := by decide +kernel
theorem dX12_behind_18 : decode cX12_behind 18 = .ok (.goto 4, 3) := by decide +kernel
theorem dX12_behind_21 : decode cX12_behind 21 = .ok (.iconst (-1), 1) := by decide +kernel
theorem dX12_behind_22 : decode cX12_behind 22 = .ok (.ireturn, 1) := by decide +kernel
theorem dX12_told_0 : decode cX12_told 0 = .ok (.aload_n 0, 1) := by decide +kernel
theorem dX12_told_1 : decode cX12_told 1 = .ok (.aload_n 1, 1) := by decide +kernel
theorem dX12_told_2 : decode cX12_told 2 = .ok (.invokevirtual 144, 3) := by decide +kernel
theorem dX12_told_5 : decode cX12_told 5 = .ok (.ifCond .eq 13, 3) := by decide +kernel
theorem dX12_told_8 : decode cX12_told 8 = .ok (.aload_n 0, 1) := by decide +kernel
theorem dX12_told_9 : decode cX12_told 9 = .ok (.iconst 0, 1) := by decide +kernel
theorem dX12_told_10 : decode cX12_told 10 = .ok (.bipush 99, 2) := by decide +kernel
theorem dX12_told_12 : decode cX12_told 12 = .ok (.invokevirtual 141, 3) := by decide +kernel
theorem dX12_told_15 : decode cX12_told 15 = .ok (.goto 4, 3) := by decide +kernel
theorem dX12_told_18 : decode cX12_told 18 = .ok (.iconst 0, 1) := by decide +kernel
theorem dX12_told_19 : decode cX12_told 19 = .ok (.ireturn, 1) := by decide +kernel
theorem dX12_fault_0 : decode cX12_fault 0 = .ok (.aload_n 0, 1) := by decide +kernel
theorem dX12_fault_1 : decode cX12_fault 1 = .ok (.iconst 0, 1) := by decide +kernel
theorem dX12_fault_2 : decode cX12_fault 2 = .ok (.putfield 3, 3) := by decide +kernel
theorem dX12_fault_5 : decode cX12_fault 5 = .ok (.aload_n 0, 1) := by decide +kernel
theorem dX12_fault_6 : decode cX12_fault 6 = .ok (.getfield 33, 3) := by decide +kernel
theorem dX12_fault_9 : decode cX12_fault 9 = .ok (.ireturn, 1) := by decide +kernel
theorem dX12_uses_0 : decode cX12_uses 0 = .ok (.aload_n 0, 1) := by decide +kernel
theorem dX12_uses_1 : decode cX12_uses 1 = .ok (.iconst 0, 1) := by decide +kernel
theorem dX12_uses_2 : decode cX12_uses 2 = .ok (.putfield 3, 3) := by decide +kernel
theorem dX12_uses_5 : decode cX12_uses 5 = .ok (.aload_n 0, 1) := by decide +kernel
theorem dX12_uses_6 : decode cX12_uses 6 = .ok (.aload_n 0, 1) := by decide +kernel
theorem dX12_uses_7 : decode cX12_uses 7 = .ok (.getfield 106, 3) := by decide +kernel
theorem dX12_uses_10 : decode cX12_uses 10 = .ok (.putfield 112, 3) := by decide +kernel
theorem dX12_uses_13 : decode cX12_uses 13 = .ok (.aload_n 0, 1) := by decide +kernel
theorem dX12_uses_14 : decode cX12_uses 14 = .ok (.iconst 0, 1) := by decide +kernel
theorem dX12_uses_15 : decode cX12_uses 15 = .ok (.putfield 106, 3) := by decide +kernel
theorem dX12_uses_18 : decode cX12_uses 18 = .ok (.aload_n 0, 1) := by decide +kernel
theorem dX12_uses_19 : decode cX12_uses 19 = .ok (.iconst 0, 1) := by decide +kernel
theorem dX12_uses_20 : decode cX12_uses 20 = .ok (.putfield 109, 3) := by decide +kernel
theorem dX12_uses_23 : decode cX12_uses 23 = .ok (.return_, 1) := by decide +kernel
theorem dX12_readNumber_0 : decode cX12_readNumber 0 = .ok (.aload_n 0, 1) := by decide +kernel
theorem dX12_readNumber_1 : decode cX12_readNumber 1 = .ok (.iload_n 2, 1) := by decide +kernel
theorem dX12_readNumber_2 : decode cX12_readNumber 2 = .ok (.iload_n 3, 1) := by decide +kernel
theorem dX12_readNumber_3 : decode cX12_readNumber 3 = .ok (.invokevirtual 141, 3) := by decide +kernel
theorem dX12_readNumber_6 : decode cX12_readNumber 6 = .ok (.istore 4, 2) := by decide +kernel
theorem dX12_readNumber_8 : decode cX12_readNumber 8 = .ok (.aload_n 0, 1) := by decide +kernel
theorem dX12_readNumber_9 : decode cX12_readNumber 9 = .ok (.getfield 13, 3) := by decide +kernel
theorem dX12_readNumber_12 : decode cX12_readNumber 12 = .ok (.iload_n 1, 1) := by decide +kernel
theorem dX12_readNumber_13 : decode cX12_readNumber 13 = .ok (.iload 4, 2) := by decide +kernel
theorem dX12_readNumber_15 : decode cX12_readNumber 15 = .ok (.ifCond .ge 12, 3) := by decide +kernel
theorem dX12_readNumber_18 : decode cX12_readNumber 18 = .ok (.aload_n 0, 1) := by decide +kernel
theorem dX12_readNumber_19 : decode cX12_readNumber 19 = .ok (.getfield 13, 3) := by decide +kernel
theorem dX12_readNumber_22 : decode cX12_readNumber 22 = .ok (.iload_n 1, 1) := by decide +kernel
theorem dX12_readNumber_23 : decode cX12_readNumber 23 = .ok (.iaload, 1) := by decide +kernel
theorem dX12_readNumber_24 : decode cX12_readNumber 24 = .ok (.goto 5, 3) := by decide +kernel
theorem dX12_readNumber_27 : decode cX12_readNumber 27 = .ok (.iload 4, 2) := by decide +kernel
theorem dX12_readNumber_29 : decode cX12_readNumber 29 = .ok (.iastore, 1) := by decide +kernel
theorem dX12_readNumber_30 : decode cX12_readNumber 30 = .ok (.iload 4, 2) := by decide +kernel
theorem dX12_readNumber_32 : decode cX12_readNumber 32 = .ok (.ifCond .lt 7, 3) := by decide +kernel
theorem dX12_readNumber_35 : decode cX12_readNumber 35 = .ok (.iconst 1, 1) := by decide +kernel
theorem dX12_readNumber_36 : decode cX12_readNumber 36 = .ok (.goto 4, 3) := by decide +kernel
theorem dX12_readNumber_39 : decode cX12_readNumber 39 = .ok (.iconst 0, 1) := by decide +kernel
theorem dX12_readNumber_40 : decode cX12_readNumber 40 = .ok (.ireturn, 1) := by decide +kernel
theorem dX12_lettersTold_0 : decode cX12_lettersTold 0 = .ok (.aload_n 0, 1) := by decide +kernel
theorem dX12_lettersTold_1 : decode cX12_lettersTold 1 = .ok (.invokevirtual 134, 3) := by decide +kernel
theorem dX12_lettersTold_4 : decode cX12_lettersTold 4 = .ok (.iconst 0, 1) := by decide +kernel
theorem dX12_lettersTold_5 : decode cX12_lettersTold 5 = .ok (.istore_n 2, 1) := by decide +kernel
theorem dX12_lettersTold_6 : decode cX12_lettersTold 6 = .ok (.aload_n 0, 1) := by decide +kernel
theorem dX12_lettersTold_7 : decode cX12_lettersTold 7 = .ok (.getfield 109, 3) := by decide +kernel
theorem dX12_lettersTold_10 : decode cX12_lettersTold 10 = .ok (.aload_n 0, 1) := by decide +kernel
theorem dX12_lettersTold_11 : decode cX12_lettersTold 11 = .ok (.getfield 119, 3) := by decide +kernel
theorem dX12_lettersTold_14 : decode cX12_lettersTold 14 = .ok (.if_icmp .le 7, 3) := by decide +kernel
theorem dX12_lettersTold_17 : decode cX12_lettersTold 17 = .ok (.iconst 1, 1) := by decide +kernel
theorem dX12_lettersTold_18 : decode cX12_lettersTold 18 = .ok (.goto 4, 3) := by decide +kernel
theorem dX12_lettersTold_21 : decode cX12_lettersTold 21 = .ok (.iconst 0, 1) := by decide +kernel
theorem dX12_lettersTold_22 : decode cX12_lettersTold 22 = .ok (.istore_n 3, 1) := by decide +kernel
theorem dX12_lettersTold_23 : decode cX12_lettersTold 23 = .ok (.aload_n 0, 1) := by decide +kernel
theorem dX12_lettersTold_24 : decode cX12_lettersTold 24 = .ok (.getfield 119, 3) := by decide +kernel
theorem dX12_lettersTold_27 : decode cX12_lettersTold 27 = .ok (.istore 4, 2) := by decide +kernel
theorem dX12_lettersTold_29 : decode cX12_lettersTold 29 = .ok (.iload 4, 2) := by decide +kernel
theorem dX12_lettersTold_31 : decode cX12_lettersTold 31 = .ok (.aload_n 0, 1) := by decide +kernel
theorem dX12_lettersTold_32 : decode cX12_lettersTold 32 = .ok (.getfield 109, 3) := by decide +kernel
theorem dX12_lettersTold_35 : decode cX12_lettersTold 35 = .ok (.if_icmp .ge 61, 3) := by decide +kernel
theorem dX12_lettersTold_38 : decode cX12_lettersTold 38 = .ok (.iload_n 3, 1) := by decide +kernel
theorem dX12_lettersTold_39 : decode cX12_lettersTold 39 = .ok (.ifCond .eq 57, 3) := by decide +kernel
theorem dX12_lettersTold_42 : decode cX12_lettersTold 42 = .ok (.aload_n 0, 1) := by decide +kernel
theorem dX12_lettersTold_43 : decode cX12_lettersTold 43 = .ok (.getfield 29, 3) := by decide +kernel
theorem dX12_lettersTold_46 : decode cX12_lettersTold 46 = .ok (.iload 4, 2) := by decide +kernel
theorem dX12_lettersTold_48 : decode cX12_lettersTold 48 = .ok (.baload, 1) := by decide +kernel
theorem dX12_lettersTold_49 : decode cX12_lettersTold 49 = .ok (.bipush 97, 2) := by decide +kernel
theorem dX12_lettersTold_51 : decode cX12_lettersTold 51 = .ok (.isub, 1) := by decide +kernel
theorem dX12_lettersTold_52 : decode cX12_lettersTold 52 = .ok (.istore 5, 2) := by decide +kernel
theorem dX12_lettersTold_54 : decode cX12_lettersTold 54 = .ok (.iload 5, 2) := by decide +kernel
theorem dX12_lettersTold_56 : decode cX12_lettersTold 56 = .ok (.iload_n 1, 1) := by decide +kernel
theorem dX12_lettersTold_57 : decode cX12_lettersTold 57 = .ok (.if_icmp .ge 16, 3) := by decide +kernel
theorem dX12_lettersTold_60 : decode cX12_lettersTold 60 = .ok (.iload_n 2, 1) := by decide +kernel
theorem dX12_lettersTold_61 : decode cX12_lettersTold 61 = .ok (.iload 5, 2) := by decide +kernel
theorem dX12_lettersTold_63 : decode cX12_lettersTold 63 = .ok (.invokestatic 147, 3) := by decide +kernel
theorem dX12_lettersTold_66 : decode cX12_lettersTold 66 = .ok (.ifCond .ne 7, 3) := by decide +kernel
theorem dX12_lettersTold_69 : decode cX12_lettersTold 69 = .ok (.iconst 1, 1) := by decide +kernel
theorem dX12_lettersTold_70 : decode cX12_lettersTold 70 = .ok (.goto 4, 3) := by decide +kernel
theorem dX12_lettersTold_73 : decode cX12_lettersTold 73 = .ok (.iconst 0, 1) := by decide +kernel
theorem dX12_lettersTold_74 : decode cX12_lettersTold 74 = .ok (.istore_n 3, 1) := by decide +kernel
theorem dX12_lettersTold_75 : decode cX12_lettersTold 75 = .ok (.iload_n 2, 1) := by decide +kernel
theorem dX12_lettersTold_76 : decode cX12_lettersTold 76 = .ok (.iload_n 3, 1) := by decide +kernel
theorem dX12_lettersTold_77 : decode cX12_lettersTold 77 = .ok (.ifCond .eq 10, 3) := by decide +kernel
theorem dX12_lettersTold_80 : decode cX12_lettersTold 80 = .ok (.iconst 1, 1) := by decide +kernel
theorem dX12_lettersTold_81 : decode cX12_lettersTold 81 = .ok (.iload 5, 2) := by decide +kernel
theorem dX12_lettersTold_83 : decode cX12_lettersTold 83 = .ok (.ishl, 1) := by decide +kernel
theorem dX12_lettersTold_84 : decode cX12_lettersTold 84 = .ok (.goto 4, 3) := by decide +kernel
theorem dX12_lettersTold_87 : decode cX12_lettersTold 87 = .ok (.iconst 0, 1) := by decide +kernel
theorem dX12_lettersTold_88 : decode cX12_lettersTold 88 = .ok (.ior, 1) := by decide +kernel
theorem dX12_lettersTold_89 : decode cX12_lettersTold 89 = .ok (.istore_n 2, 1) := by decide +kernel
theorem dX12_lettersTold_90 : decode cX12_lettersTold 90 = .ok (.iinc 4 1, 3) := by decide +kernel
theorem dX12_lettersTold_93 : decode cX12_lettersTold 93 = .ok (.goto (-64), 3) := by decide +kernel
theorem dX12_lettersTold_96 : decode cX12_lettersTold 96 = .ok (.iload_n 3, 1) := by decide +kernel
theorem dX12_lettersTold_97 : decode cX12_lettersTold 97 = .ok (.ifCond .eq 7, 3) := by decide +kernel
theorem dX12_lettersTold_100 : decode cX12_lettersTold 100 = .ok (.iload_n 2, 1) := by decide +kernel
theorem dX12_lettersTold_101 : decode cX12_lettersTold 101 = .ok (.goto 4, 3) := by decide +kernel
theorem dX12_lettersTold_104 : decode cX12_lettersTold 104 = .ok (.iconst 0, 1) := by decide +kernel
theorem dX12_lettersTold_105 : decode cX12_lettersTold 105 = .ok (.ireturn, 1) := by decide +kernel
theorem dX12_readWitness_0 : decode cX12_readWitness 0 = .ok (.aload_n 0, 1) := by decide +kernel
theorem dX12_readWitness_1 : decode cX12_readWitness 1 = .ok (.invokevirtual 92, 3) := by decide +kernel
theorem dX12_readWitness_4 : decode cX12_readWitness 4 = .ok (.istore_n 1, 1) := by decide +kernel
theorem dX12_readWitness_5 : decode cX12_readWitness 5 = .ok (.iload_n 1, 1) := by decide +kernel
theorem dX12_readWitness_6 : decode cX12_readWitness 6 = .ok (.iconst 5, 1) := by decide +kernel
theorem dX12_readWitness_7 : decode cX12_readWitness 7 = .ok (.if_icmp .ne 5, 3) := by decide +kernel
theorem dX12_readWitness_10 : decode cX12_readWitness 10 = .ok (.iconst 0, 1) := by decide +kernel
theorem dX12_readWitness_11 : decode cX12_readWitness 11 = .ok (.ireturn, 1) := by decide +kernel
theorem dX12_readWitness_12 : decode cX12_readWitness 12 = .ok (.aload_n 0, 1) := by decide +kernel
theorem dX12_readWitness_13 : decode cX12_readWitness 13 = .ok (.ldc 150, 2) := by decide +kernel
theorem dX12_readWitness_15 : decode cX12_readWitness 15 = .ok (.iconst 0, 1) := by decide +kernel
theorem dX12_readWitness_16 : decode cX12_readWitness 16 = .ok (.bipush 9, 2) := by decide +kernel
theorem dX12_readWitness_18 : decode cX12_readWitness 18 = .ok (.invokevirtual 152, 3) := by decide +kernel
theorem dX12_readWitness_21 : decode cX12_readWitness 21 = .ok (.istore_n 2, 1) := by decide +kernel
theorem dX12_readWitness_22 : decode cX12_readWitness 22 = .ok (.iload_n 2, 1) := by decide +kernel
theorem dX12_readWitness_23 : decode cX12_readWitness 23 = .ok (.ifCond .ge 7, 3) := by decide +kernel
theorem dX12_readWitness_26 : decode cX12_readWitness 26 = .ok (.iconst (-1), 1) := by decide +kernel
theorem dX12_readWitness_27 : decode cX12_readWitness 27 = .ok (.goto 12, 3) := by decide +kernel
theorem dX12_readWitness_30 : decode cX12_readWitness 30 = .ok (.aload_n 0, 1) := by decide +kernel
theorem dX12_readWitness_31 : decode cX12_readWitness 31 = .ok (.ldc 156, 2) := by decide +kernel
theorem dX12_readWitness_33 : decode cX12_readWitness 33 = .ok (.iconst 0, 1) := by decide +kernel
theorem dX12_readWitness_34 : decode cX12_readWitness 34 = .ok (.bipush 9, 2) := by decide +kernel
theorem dX12_readWitness_36 : decode cX12_readWitness 36 = .ok (.invokevirtual 152, 3) := by decide +kernel
theorem dX12_readWitness_39 : decode cX12_readWitness 39 = .ok (.istore_n 3, 1) := by decide +kernel
theorem dX12_readWitness_40 : decode cX12_readWitness 40 = .ok (.iload_n 3, 1) := by decide +kernel
theorem dX12_readWitness_41 : decode cX12_readWitness 41 = .ok (.ifCond .ge 5, 3) := by decide +kernel
theorem dX12_readWitness_44 : decode cX12_readWitness 44 = .ok (.iconst 0, 1) := by decide +kernel
theorem dX12_readWitness_45 : decode cX12_readWitness 45 = .ok (.ireturn, 1) := by decide +kernel
theorem dX12_readWitness_46 : decode cX12_readWitness 46 = .ok (.aload_n 0, 1) := by decide +kernel
theorem dX12_readWitness_47 : decode cX12_readWitness 47 = .ok (.ldc 158, 2) := by decide +kernel
theorem dX12_readWitness_49 : decode cX12_readWitness 49 = .ok (.invokevirtual 160, 3) := by decide +kernel
theorem dX12_readWitness_52 : decode cX12_readWitness 52 = .ok (.istore 4, 2) := by decide +kernel
theorem dX12_readWitness_54 : decode cX12_readWitness 54 = .ok (.iload 4, 2) := by decide +kernel
theorem dX12_readWitness_56 : decode cX12_readWitness 56 = .ok (.ifCond .ge 7, 3) := by decide +kernel
theorem dX12_readWitness_59 : decode cX12_readWitness 59 = .ok (.iconst (-1), 1) := by decide +kernel
theorem dX12_readWitness_60 : decode cX12_readWitness 60 = .ok (.goto 9, 3) := by decide +kernel
theorem dX12_readWitness_63 : decode cX12_readWitness 63 = .ok (.aload_n 0, 1) := by decide +kernel
theorem dX12_readWitness_64 : decode cX12_readWitness 64 = .ok (.ldc 164, 2) := by decide +kernel
theorem dX12_readWitness_66 : decode cX12_readWitness 66 = .ok (.invokevirtual 160, 3) := by decide +kernel
theorem dX12_readWitness_69 : decode cX12_readWitness 69 = .ok (.istore 5, 2) := by decide +kernel
theorem dX12_readWitness_71 : decode cX12_readWitness 71 = .ok (.iload 5, 2) := by decide +kernel
theorem dX12_readWitness_73 : decode cX12_readWitness 73 = .ok (.ifCond .ge 5, 3) := by decide +kernel
theorem dX12_readWitness_76 : decode cX12_readWitness 76 = .ok (.iconst 0, 1) := by decide +kernel
theorem dX12_readWitness_77 : decode cX12_readWitness 77 = .ok (.ireturn, 1) := by decide +kernel
theorem dX12_readWitness_78 : decode cX12_readWitness 78 = .ok (.aload_n 0, 1) := by decide +kernel
theorem dX12_readWitness_79 : decode cX12_readWitness 79 = .ok (.getfield 13, 3) := by decide +kernel
theorem dX12_readWitness_82 : decode cX12_readWitness 82 = .ok (.iload_n 1, 1) := by decide +kernel
theorem dX12_readWitness_83 : decode cX12_readWitness 83 = .ok (.iconst 0, 1) := by decide +kernel
theorem dX12_readWitness_84 : decode cX12_readWitness 84 = .ok (.invokestatic 78, 3) := by decide +kernel
theorem dX12_readWitness_87 : decode cX12_readWitness 87 = .ok (.iload_n 2, 1) := by decide +kernel
theorem dX12_readWitness_88 : decode cX12_readWitness 88 = .ok (.iastore, 1) := by decide +kernel
theorem dX12_readWitness_89 : decode cX12_readWitness 89 = .ok (.aload_n 0, 1) := by decide +kernel
theorem dX12_readWitness_90 : decode cX12_readWitness 90 = .ok (.getfield 13, 3) := by decide +kernel
theorem dX12_readWitness_93 : decode cX12_readWitness 93 = .ok (.iload_n 1, 1) := by decide +kernel
theorem dX12_readWitness_94 : decode cX12_readWitness 94 = .ok (.iconst 1, 1) := by decide +kernel
theorem dX12_readWitness_95 : decode cX12_readWitness 95 = .ok (.invokestatic 78, 3) := by decide +kernel
theorem dX12_readWitness_98 : decode cX12_readWitness 98 = .ok (.iload_n 3, 1) := by decide +kernel
theorem dX12_readWitness_99 : decode cX12_readWitness 99 = .ok (.iastore, 1) := by decide +kernel
theorem dX12_readWitness_100 : decode cX12_readWitness 100 = .ok (.aload_n 0, 1) := by decide +kernel
theorem dX12_readWitness_101 : decode cX12_readWitness 101 = .ok (.getfield 13, 3) := by decide +kernel
theorem dX12_readWitness_104 : decode cX12_readWitness 104 = .ok (.iload_n 1, 1) := by decide +kernel
theorem dX12_readWitness_105 : decode cX12_readWitness 105 = .ok (.iconst 2, 1) := by decide +kernel
theorem dX12_readWitness_106 : decode cX12_readWitness 106 = .ok (.invokestatic 78, 3) := by decide +kernel
theorem dX12_readWitness_109 : decode cX12_readWitness 109 = .ok (.iload 4, 2) := by decide +kernel
theorem dX12_readWitness_111 : decode cX12_readWitness 111 = .ok (.iastore, 1) := by decide +kernel
theorem dX12_readWitness_112 : decode cX12_readWitness 112 = .ok (.aload_n 0, 1) := by decide +kernel
theorem dX12_readWitness_113 : decode cX12_readWitness 113 = .ok (.getfield 13, 3) := by decide +kernel
theorem dX12_readWitness_116 : decode cX12_readWitness 116 = .ok (.iload_n 1, 1) := by decide +kernel
theorem dX12_readWitness_117 : decode cX12_readWitness 117 = .ok (.iconst 3, 1) := by decide +kernel
theorem dX12_readWitness_118 : decode cX12_readWitness 118 = .ok (.invokestatic 78, 3) := by decide +kernel
theorem dX12_readWitness_121 : decode cX12_readWitness 121 = .ok (.iload 5, 2) := by decide +kernel
theorem dX12_readWitness_123 : decode cX12_readWitness 123 = .ok (.iastore, 1) := by decide +kernel
theorem dX12_readWitness_124 : decode cX12_readWitness 124 = .ok (.aload_n 0, 1) := by decide +kernel
theorem dX12_readWitness_125 : decode cX12_readWitness 125 = .ok (.getfield 13, 3) := by decide +kernel
theorem dX12_readWitness_128 : decode cX12_readWitness 128 = .ok (.iload_n 1, 1) := by decide +kernel
theorem dX12_readWitness_129 : decode cX12_readWitness 129 = .ok (.iconst 4, 1) := by decide +kernel
theorem dX12_readWitness_130 : decode cX12_readWitness 130 = .ok (.invokestatic 78, 3) := by decide +kernel
theorem dX12_readWitness_133 : decode cX12_readWitness 133 = .ok (.iload_n 1, 1) := by decide +kernel
theorem dX12_readWitness_134 : decode cX12_readWitness 134 = .ok (.iastore, 1) := by decide +kernel
theorem dX12_readWitness_135 : decode cX12_readWitness 135 = .ok (.aload_n 0, 1) := by decide +kernel
theorem dX12_readWitness_136 : decode cX12_readWitness 136 = .ok (.getfield 13, 3) := by decide +kernel
theorem dX12_readWitness_139 : decode cX12_readWitness 139 = .ok (.bipush 24, 2) := by decide +kernel
theorem dX12_readWitness_141 : decode cX12_readWitness 141 = .ok (.iload_n 1, 1) := by decide +kernel
theorem dX12_readWitness_142 : decode cX12_readWitness 142 = .ok (.iadd, 1) := by decide +kernel
theorem dX12_readWitness_143 : decode cX12_readWitness 143 = .ok (.iload_n 1, 1) := by decide +kernel
theorem dX12_readWitness_144 : decode cX12_readWitness 144 = .ok (.iastore, 1) := by decide +kernel
theorem dX12_readWitness_145 : decode cX12_readWitness 145 = .ok (.aload_n 0, 1) := by decide +kernel
theorem dX12_readWitness_146 : decode cX12_readWitness 146 = .ok (.getfield 13, 3) := by decide +kernel
theorem dX12_readWitness_149 : decode cX12_readWitness 149 = .ok (.iconst 0, 1) := by decide +kernel
theorem dX12_readWitness_150 : decode cX12_readWitness 150 = .ok (.dup2, 1) := by decide +kernel
theorem dX12_readWitness_151 : decode cX12_readWitness 151 = .ok (.iaload, 1) := by decide +kernel
theorem dX12_readWitness_152 : decode cX12_readWitness 152 = .ok (.iconst 1, 1) := by decide +kernel
theorem dX12_readWitness_153 : decode cX12_readWitness 153 = .ok (.iadd, 1) := by decide +kernel
theorem dX12_readWitness_154 : decode cX12_readWitness 154 = .ok (.iastore, 1) := by decide +kernel
theorem dX12_readWitness_155 : decode cX12_readWitness 155 = .ok (.iconst 1, 1) := by decide +kernel
theorem dX12_readWitness_156 : decode cX12_readWitness 156 = .ok (.ireturn, 1) := by decide +kernel
theorem dX12_readThing_0 : decode cX12_readThing 0 = .ok (.aload_n 0, 1) := by decide +kernel
theorem dX12_readThing_1 : decode cX12_readThing 1 = .ok (.invokevirtual 85, 3) := by decide +kernel
theorem dX12_readThing_4 : decode cX12_readThing 4 = .ok (.istore_n 1, 1) := by decide +kernel
theorem dX12_readThing_5 : decode cX12_readThing 5 = .ok (.iload_n 1, 1) := by decide +kernel
theorem dX12_readThing_6 : decode cX12_readThing 6 = .ok (.bipush 6, 2) := by decide +kernel
theorem dX12_readThing_8 : decode cX12_readThing 8 = .ok (.if_icmp .ne 5, 3) := by decide +kernel
theorem dX12_readThing_11 : decode cX12_readThing 11 = .ok (.iconst 0, 1) := by decide +kernel
theorem dX12_readThing_12 : decode cX12_readThing 12 = .ok (.ireturn, 1) := by decide +kernel
theorem dX12_readThing_13 : decode cX12_readThing 13 = .ok (.aload_n 0, 1) := by decide +kernel
theorem dX12_readThing_14 : decode cX12_readThing 14 = .ok (.ldc 166, 2) := by decide +kernel
theorem dX12_readThing_16 : decode cX12_readThing 16 = .ok (.iconst 1, 1) := by decide +kernel
theorem dX12_readThing_17 : decode cX12_readThing 17 = .ok (.bipush 9, 2) := by decide +kernel
theorem dX12_readThing_19 : decode cX12_readThing 19 = .ok (.invokevirtual 152, 3) := by decide +kernel
theorem dX12_readThing_22 : decode cX12_readThing 22 = .ok (.istore_n 2, 1) := by decide +kernel
theorem dX12_readThing_23 : decode cX12_readThing 23 = .ok (.iload_n 2, 1) := by decide +kernel
theorem dX12_readThing_24 : decode cX12_readThing 24 = .ok (.ifCond .ge 5, 3) := by decide +kernel
theorem dX12_readThing_27 : decode cX12_readThing 27 = .ok (.iconst 0, 1) := by decide +kernel
theorem dX12_readThing_28 : decode cX12_readThing 28 = .ok (.ireturn, 1) := by decide +kernel
theorem dX12_readThing_29 : decode cX12_readThing 29 = .ok (.aload_n 0, 1) := by decide +kernel
theorem dX12_readThing_30 : decode cX12_readThing 30 = .ok (.ldc 168, 2) := by decide +kernel
theorem dX12_readThing_32 : decode cX12_readThing 32 = .ok (.invokevirtual 144, 3) := by decide +kernel
theorem dX12_readThing_35 : decode cX12_readThing 35 = .ok (.istore_n 3, 1) := by decide +kernel
theorem dX12_readThing_36 : decode cX12_readThing 36 = .ok (.iload_n 3, 1) := by decide +kernel
theorem dX12_readThing_37 : decode cX12_readThing 37 = .ok (.ifCond .eq 14, 3) := by decide +kernel
theorem dX12_readThing_40 : decode cX12_readThing 40 = .ok (.aload_n 0, 1) := by decide +kernel
theorem dX12_readThing_41 : decode cX12_readThing 41 = .ok (.aload_n 0, 1) := by decide +kernel
theorem dX12_readThing_42 : decode cX12_readThing 42 = .ok (.invokevirtual 92, 3) := by decide +kernel
theorem dX12_readThing_45 : decode cX12_readThing 45 = .ok (.invokevirtual 170, 3) := by decide +kernel
theorem dX12_readThing_48 : decode cX12_readThing 48 = .ok (.goto 4, 3) := by decide +kernel
theorem dX12_readThing_51 : decode cX12_readThing 51 = .ok (.iconst 0, 1) := by decide +kernel
theorem dX12_readThing_52 : decode cX12_readThing 52 = .ok (.istore 4, 2) := by decide +kernel
theorem dX12_readThing_54 : decode cX12_readThing 54 = .ok (.iload_n 3, 1) := by decide +kernel
theorem dX12_readThing_55 : decode cX12_readThing 55 = .ok (.ifCond .eq 10, 3) := by decide +kernel
theorem dX12_readThing_58 : decode cX12_readThing 58 = .ok (.iload 4, 2) := by decide +kernel
theorem dX12_readThing_60 : decode cX12_readThing 60 = .ok (.ifCond .ne 5, 3) := by decide +kernel
theorem dX12_readThing_63 : decode cX12_readThing 63 = .ok (.iconst 0, 1) := by decide +kernel
theorem dX12_readThing_64 : decode cX12_readThing 64 = .ok (.ireturn, 1) := by decide +kernel
theorem dX12_readThing_65 : decode cX12_readThing 65 = .ok (.aload_n 0, 1) := by decide +kernel
theorem dX12_readThing_66 : decode cX12_readThing 66 = .ok (.getfield 13, 3) := by decide +kernel
theorem dX12_readThing_69 : decode cX12_readThing 69 = .ok (.iload_n 1, 1) := by decide +kernel
theorem dX12_readThing_70 : decode cX12_readThing 70 = .ok (.iconst 0, 1) := by decide +kernel
theorem dX12_readThing_71 : decode cX12_readThing 71 = .ok (.invokestatic 82, 3) := by decide +kernel
theorem dX12_readThing_74 : decode cX12_readThing 74 = .ok (.iload_n 2, 1) := by decide +kernel
theorem dX12_readThing_75 : decode cX12_readThing 75 = .ok (.iastore, 1) := by decide +kernel
theorem dX12_readThing_76 : decode cX12_readThing 76 = .ok (.aload_n 0, 1) := by decide +kernel
theorem dX12_readThing_77 : decode cX12_readThing 77 = .ok (.getfield 13, 3) := by decide +kernel
theorem dX12_readThing_80 : decode cX12_readThing 80 = .ok (.iload_n 1, 1) := by decide +kernel
theorem dX12_readThing_81 : decode cX12_readThing 81 = .ok (.iconst 1, 1) := by decide +kernel
theorem dX12_readThing_82 : decode cX12_readThing 82 = .ok (.invokestatic 82, 3) := by decide +kernel
theorem dX12_readThing_85 : decode cX12_readThing 85 = .ok (.iload 4, 2) := by decide +kernel
theorem dX12_readThing_87 : decode cX12_readThing 87 = .ok (.iastore, 1) := by decide +kernel
theorem dX12_readThing_88 : decode cX12_readThing 88 = .ok (.aload_n 0, 1) := by decide +kernel
theorem dX12_readThing_89 : decode cX12_readThing 89 = .ok (.getfield 13, 3) := by decide +kernel
theorem dX12_readThing_92 : decode cX12_readThing 92 = .ok (.iload_n 1, 1) := by decide +kernel
theorem dX12_readThing_93 : decode cX12_readThing 93 = .ok (.iconst 2, 1) := by decide +kernel
theorem dX12_readThing_94 : decode cX12_readThing 94 = .ok (.invokestatic 82, 3) := by decide +kernel
theorem dX12_readThing_97 : decode cX12_readThing 97 = .ok (.aload_n 0, 1) := by decide +kernel
theorem dX12_readThing_98 : decode cX12_readThing 98 = .ok (.ldc 174, 2) := by decide +kernel
theorem dX12_readThing_100 : decode cX12_readThing 100 = .ok (.invokevirtual 144, 3) := by decide +kernel
theorem dX12_readThing_103 : decode cX12_readThing 103 = .ok (.ifCond .eq 7, 3) := by decide +kernel
theorem dX12_readThing_106 : decode cX12_readThing 106 = .ok (.iconst 1, 1) := by decide +kernel
theorem dX12_readThing_107 : decode cX12_readThing 107 = .ok (.goto 4, 3) := by decide +kernel
theorem dX12_readThing_110 : decode cX12_readThing 110 = .ok (.iconst 0, 1) := by decide +kernel
theorem dX12_readThing_111 : decode cX12_readThing 111 = .ok (.iastore, 1) := by decide +kernel
theorem dX12_readThing_112 : decode cX12_readThing 112 = .ok (.aload_n 0, 1) := by decide +kernel
theorem dX12_readThing_113 : decode cX12_readThing 113 = .ok (.getfield 13, 3) := by decide +kernel
theorem dX12_readThing_116 : decode cX12_readThing 116 = .ok (.iconst 1, 1) := by decide +kernel
theorem dX12_readThing_117 : decode cX12_readThing 117 = .ok (.dup2, 1) := by decide +kernel
theorem dX12_readThing_118 : decode cX12_readThing 118 = .ok (.iaload, 1) := by decide +kernel
theorem dX12_readThing_119 : decode cX12_readThing 119 = .ok (.iconst 1, 1) := by decide +kernel
theorem dX12_readThing_120 : decode cX12_readThing 120 = .ok (.iadd, 1) := by decide +kernel
theorem dX12_readThing_121 : decode cX12_readThing 121 = .ok (.iastore, 1) := by decide +kernel
theorem dX12_readThing_122 : decode cX12_readThing 122 = .ok (.iconst 1, 1) := by decide +kernel
theorem dX12_readThing_123 : decode cX12_readThing 123 = .ok (.ireturn, 1) := by decide +kernel
theorem dX12_readAsk_0 : decode cX12_readAsk 0 = .ok (.aload_n 0, 1) := by decide +kernel
theorem dX12_readAsk_1 : decode cX12_readAsk 1 = .ok (.invokevirtual 99, 3) := by decide +kernel
theorem dX12_readAsk_4 : decode cX12_readAsk 4 = .ok (.bipush 8, 2) := by decide +kernel
theorem dX12_readAsk_6 : decode cX12_readAsk 6 = .ok (.if_icmp .ne 5, 3) := by decide +kernel
theorem dX12_readAsk_9 : decode cX12_readAsk 9 = .ok (.iconst 0, 1) := by decide +kernel
theorem dX12_readAsk_10 : decode cX12_readAsk 10 = .ok (.ireturn, 1) := by decide +kernel
theorem dX12_readAsk_11 : decode cX12_readAsk 11 = .ok (.aload_n 0, 1) := by decide +kernel
theorem dX12_readAsk_12 : decode cX12_readAsk 12 = .ok (.aload_n 0, 1) := by decide +kernel
theorem dX12_readAsk_13 : decode cX12_readAsk 13 = .ok (.invokevirtual 85, 3) := by decide +kernel
theorem dX12_readAsk_16 : decode cX12_readAsk 16 = .ok (.invokevirtual 170, 3) := by decide +kernel
theorem dX12_readAsk_19 : decode cX12_readAsk 19 = .ok (.istore_n 1, 1) := by decide +kernel
theorem dX12_readAsk_20 : decode cX12_readAsk 20 = .ok (.iload_n 1, 1) := by decide +kernel
theorem dX12_readAsk_21 : decode cX12_readAsk 21 = .ok (.ifCond .ne 5, 3) := by decide +kernel
theorem dX12_readAsk_24 : decode cX12_readAsk 24 = .ok (.iconst 0, 1) := by decide +kernel
theorem dX12_readAsk_25 : decode cX12_readAsk 25 = .ok (.ireturn, 1) := by decide +kernel
theorem dX12_readAsk_26 : decode cX12_readAsk 26 = .ok (.aload_n 0, 1) := by decide +kernel
theorem dX12_readAsk_27 : decode cX12_readAsk 27 = .ok (.getfield 13, 3) := by decide +kernel
theorem dX12_readAsk_30 : decode cX12_readAsk 30 = .ok (.bipush 12, 2) := by decide +kernel
theorem dX12_readAsk_32 : decode cX12_readAsk 32 = .ok (.aload_n 0, 1) := by decide +kernel
theorem dX12_readAsk_33 : decode cX12_readAsk 33 = .ok (.invokevirtual 99, 3) := by decide +kernel
theorem dX12_readAsk_36 : decode cX12_readAsk 36 = .ok (.iadd, 1) := by decide +kernel
theorem dX12_readAsk_37 : decode cX12_readAsk 37 = .ok (.iload_n 1, 1) := by decide +kernel
theorem dX12_readAsk_38 : decode cX12_readAsk 38 = .ok (.iastore, 1) := by decide +kernel
theorem dX12_readAsk_39 : decode cX12_readAsk 39 = .ok (.aload_n 0, 1) := by decide +kernel
theorem dX12_readAsk_40 : decode cX12_readAsk 40 = .ok (.getfield 13, 3) := by decide +kernel
theorem dX12_readAsk_43 : decode cX12_readAsk 43 = .ok (.iconst 2, 1) := by decide +kernel
theorem dX12_readAsk_44 : decode cX12_readAsk 44 = .ok (.dup2, 1) := by decide +kernel
theorem dX12_readAsk_45 : decode cX12_readAsk 45 = .ok (.iaload, 1) := by decide +kernel
theorem dX12_readAsk_46 : decode cX12_readAsk 46 = .ok (.iconst 1, 1) := by decide +kernel
theorem dX12_readAsk_47 : decode cX12_readAsk 47 = .ok (.iadd, 1) := by decide +kernel
theorem dX12_readAsk_48 : decode cX12_readAsk 48 = .ok (.iastore, 1) := by decide +kernel
theorem dX12_readAsk_49 : decode cX12_readAsk 49 = .ok (.iconst 1, 1) := by decide +kernel
theorem dX12_readAsk_50 : decode cX12_readAsk 50 = .ok (.ireturn, 1) := by decide +kernel
theorem dX12_readWoman_0 : decode cX12_readWoman 0 = .ok (.aload_n 0, 1) := by decide +kernel
theorem dX12_readWoman_1 : decode cX12_readWoman 1 = .ok (.invokevirtual 102, 3) := by decide +kernel
theorem dX12_readWoman_4 : decode cX12_readWoman 4 = .ok (.iconst 4, 1) := by decide +kernel
theorem dX12_readWoman_5 : decode cX12_readWoman 5 = .ok (.if_icmp .ne 5, 3) := by decide +kernel
theorem dX12_readWoman_8 : decode cX12_readWoman 8 = .ok (.iconst 0, 1) := by decide +kernel
theorem dX12_readWoman_9 : decode cX12_readWoman 9 = .ok (.ireturn, 1) := by decide +kernel
theorem dX12_readWoman_10 : decode cX12_readWoman 10 = .ok (.aload_n 0, 1) := by decide +kernel
theorem dX12_readWoman_11 : decode cX12_readWoman 11 = .ok (.ldc 176, 2) := by decide +kernel
theorem dX12_readWoman_13 : decode cX12_readWoman 13 = .ok (.iconst 1, 1) := by decide +kernel
theorem dX12_readWoman_14 : decode cX12_readWoman 14 = .ok (.bipush 20, 2) := by decide +kernel
theorem dX12_readWoman_16 : decode cX12_readWoman 16 = .ok (.invokevirtual 152, 3) := by decide +kernel
theorem dX12_readWoman_19 : decode cX12_readWoman 19 = .ok (.istore_n 1, 1) := by decide +kernel
theorem dX12_readWoman_20 : decode cX12_readWoman 20 = .ok (.iload_n 1, 1) := by decide +kernel
theorem dX12_readWoman_21 : decode cX12_readWoman 21 = .ok (.ifCond .ge 5, 3) := by decide +kernel
theorem dX12_readWoman_24 : decode cX12_readWoman 24 = .ok (.iconst 0, 1) := by decide +kernel
theorem dX12_readWoman_25 : decode cX12_readWoman 25 = .ok (.ireturn, 1) := by decide +kernel
theorem dX12_readWoman_26 : decode cX12_readWoman 26 = .ok (.aload_n 0, 1) := by decide +kernel
theorem dX12_readWoman_27 : decode cX12_readWoman 27 = .ok (.getfield 13, 3) := by decide +kernel
theorem dX12_readWoman_30 : decode cX12_readWoman 30 = .ok (.bipush 20, 2) := by decide +kernel
theorem dX12_readWoman_32 : decode cX12_readWoman 32 = .ok (.aload_n 0, 1) := by decide +kernel
theorem dX12_readWoman_33 : decode cX12_readWoman 33 = .ok (.invokevirtual 102, 3) := by decide +kernel
theorem dX12_readWoman_36 : decode cX12_readWoman 36 = .ok (.iadd, 1) := by decide +kernel
theorem dX12_readWoman_37 : decode cX12_readWoman 37 = .ok (.iload_n 1, 1) := by decide +kernel
theorem dX12_readWoman_38 : decode cX12_readWoman 38 = .ok (.iastore, 1) := by decide +kernel
theorem dX12_readWoman_39 : decode cX12_readWoman 39 = .ok (.aload_n 0, 1) := by decide +kernel
theorem dX12_readWoman_40 : decode cX12_readWoman 40 = .ok (.getfield 13, 3) := by decide +kernel
theorem dX12_readWoman_43 : decode cX12_readWoman 43 = .ok (.iconst 3, 1) := by decide +kernel
theorem dX12_readWoman_44 : decode cX12_readWoman 44 = .ok (.dup2, 1) := by decide +kernel
theorem dX12_readWoman_45 : decode cX12_readWoman 45 = .ok (.iaload, 1) := by decide +kernel
theorem dX12_readWoman_46 : decode cX12_readWoman 46 = .ok (.iconst 1, 1) := by decide +kernel
theorem dX12_readWoman_47 : decode cX12_readWoman 47 = .ok (.iadd, 1) := by decide +kernel
theorem dX12_readWoman_48 : decode cX12_readWoman 48 = .ok (.iastore, 1) := by decide +kernel
theorem dX12_readWoman_49 : decode cX12_readWoman 49 = .ok (.iconst 1, 1) := by decide +kernel
theorem dX12_readWoman_50 : decode cX12_readWoman 50 = .ok (.ireturn, 1) := by decide +kernel
theorem dX12_readCourtLine_0 : decode cX12_readCourtLine 0 = .ok (.aload_n 0, 1) := by decide +kernel
theorem dX12_readCourtLine_1 : decode cX12_readCourtLine 1 = .ok (.ldc 178, 2) := by decide +kernel
theorem dX12_readCourtLine_3 : decode cX12_readCourtLine 3 = .ok (.invokevirtual 137, 3) := by decide +kernel
theorem dX12_readCourtLine_6 : decode cX12_readCourtLine 6 = .ok (.ifCond .eq 8, 3) := by decide +kernel
theorem dX12_readCourtLine_9 : decode cX12_readCourtLine 9 = .ok (.aload_n 0, 1) := by decide +kernel
theorem dX12_readCourtLine_10 : decode cX12_readCourtLine 10 = .ok (.invokevirtual 180, 3) := by decide +kernel
theorem dX12_readCourtLine_13 : decode cX12_readCourtLine 13 = .ok (.ireturn, 1) := by decide +kernel
theorem dX12_readCourtLine_14 : decode cX12_readCourtLine 14 = .ok (.aload_n 0, 1) := by decide +kernel
theorem dX12_readCourtLine_15 : decode cX12_readCourtLine 15 = .ok (.ldc 184, 2) := by decide +kernel
theorem dX12_readCourtLine_17 : decode cX12_readCourtLine 17 = .ok (.invokevirtual 137, 3) := by decide +kernel
theorem dX12_readCourtLine_20 : decode cX12_readCourtLine 20 = .ok (.ifCond .eq 8, 3) := by decide +kernel
theorem dX12_readCourtLine_23 : decode cX12_readCourtLine 23 = .ok (.aload_n 0, 1) := by decide +kernel
theorem dX12_readCourtLine_24 : decode cX12_readCourtLine 24 = .ok (.invokevirtual 186, 3) := by decide +kernel
theorem dX12_readCourtLine_27 : decode cX12_readCourtLine 27 = .ok (.ireturn, 1) := by decide +kernel
theorem dX12_readCourtLine_28 : decode cX12_readCourtLine 28 = .ok (.aload_n 0, 1) := by decide +kernel
theorem dX12_readCourtLine_29 : decode cX12_readCourtLine 29 = .ok (.ldc 189, 2) := by decide +kernel
theorem dX12_readCourtLine_31 : decode cX12_readCourtLine 31 = .ok (.invokevirtual 137, 3) := by decide +kernel
theorem dX12_readCourtLine_34 : decode cX12_readCourtLine 34 = .ok (.ifCond .eq 8, 3) := by decide +kernel
theorem dX12_readCourtLine_37 : decode cX12_readCourtLine 37 = .ok (.aload_n 0, 1) := by decide +kernel
theorem dX12_readCourtLine_38 : decode cX12_readCourtLine 38 = .ok (.invokevirtual 191, 3) := by decide +kernel
theorem dX12_readCourtLine_41 : decode cX12_readCourtLine 41 = .ok (.ireturn, 1) := by decide +kernel
theorem dX12_readCourtLine_42 : decode cX12_readCourtLine 42 = .ok (.aload_n 0, 1) := by decide +kernel
theorem dX12_readCourtLine_43 : decode cX12_readCourtLine 43 = .ok (.ldc 194, 2) := by decide +kernel
theorem dX12_readCourtLine_45 : decode cX12_readCourtLine 45 = .ok (.invokevirtual 137, 3) := by decide +kernel
theorem dX12_readCourtLine_48 : decode cX12_readCourtLine 48 = .ok (.ifCond .eq 8, 3) := by decide +kernel
theorem dX12_readCourtLine_51 : decode cX12_readCourtLine 51 = .ok (.aload_n 0, 1) := by decide +kernel
theorem dX12_readCourtLine_52 : decode cX12_readCourtLine 52 = .ok (.invokevirtual 196, 3) := by decide +kernel
theorem dX12_readCourtLine_55 : decode cX12_readCourtLine 55 = .ok (.ireturn, 1) := by decide +kernel
theorem dX12_readCourtLine_56 : decode cX12_readCourtLine 56 = .ok (.aload_n 0, 1) := by decide +kernel
theorem dX12_readCourtLine_57 : decode cX12_readCourtLine 57 = .ok (.ldc 199, 2) := by decide +kernel
theorem dX12_readCourtLine_59 : decode cX12_readCourtLine 59 = .ok (.invokevirtual 137, 3) := by decide +kernel
theorem dX12_readCourtLine_62 : decode cX12_readCourtLine 62 = .ok (.ifCond .eq 13, 3) := by decide +kernel
theorem dX12_readCourtLine_65 : decode cX12_readCourtLine 65 = .ok (.aload_n 0, 1) := by decide +kernel
theorem dX12_readCourtLine_66 : decode cX12_readCourtLine 66 = .ok (.bipush 7, 2) := by decide +kernel
theorem dX12_readCourtLine_68 : decode cX12_readCourtLine 68 = .ok (.iconst 0, 1) := by decide +kernel
theorem dX12_readCourtLine_69 : decode cX12_readCourtLine 69 = .ok (.bipush 9, 2) := by decide +kernel
theorem dX12_readCourtLine_71 : decode cX12_readCourtLine 71 = .ok (.invokevirtual 201, 3) := by decide +kernel
theorem dX12_readCourtLine_74 : decode cX12_readCourtLine 74 = .ok (.ireturn, 1) := by decide +kernel
theorem dX12_readCourtLine_75 : decode cX12_readCourtLine 75 = .ok (.aload_n 0, 1) := by decide +kernel
theorem dX12_readCourtLine_76 : decode cX12_readCourtLine 76 = .ok (.ldc 204, 2) := by decide +kernel
theorem dX12_readCourtLine_78 : decode cX12_readCourtLine 78 = .ok (.invokevirtual 137, 3) := by decide +kernel
theorem dX12_readCourtLine_81 : decode cX12_readCourtLine 81 = .ok (.ifCond .eq 13, 3) := by decide +kernel
theorem dX12_readCourtLine_84 : decode cX12_readCourtLine 84 = .ok (.aload_n 0, 1) := by decide +kernel
theorem dX12_readCourtLine_85 : decode cX12_readCourtLine 85 = .ok (.bipush 8, 2) := by decide +kernel
theorem dX12_readCourtLine_87 : decode cX12_readCourtLine 87 = .ok (.iconst 0, 1) := by decide +kernel
theorem dX12_readCourtLine_88 : decode cX12_readCourtLine 88 = .ok (.bipush 100, 2) := by decide +kernel
theorem dX12_readCourtLine_90 : decode cX12_readCourtLine 90 = .ok (.invokevirtual 201, 3) := by decide +kernel
theorem dX12_readCourtLine_93 : decode cX12_readCourtLine 93 = .ok (.ireturn, 1) := by decide +kernel
theorem dX12_readCourtLine_94 : decode cX12_readCourtLine 94 = .ok (.aload_n 0, 1) := by decide +kernel
theorem dX12_readCourtLine_95 : decode cX12_readCourtLine 95 = .ok (.ldc 206, 2) := by decide +kernel
theorem dX12_readCourtLine_97 : decode cX12_readCourtLine 97 = .ok (.invokevirtual 137, 3) := by decide +kernel
theorem dX12_readCourtLine_100 : decode cX12_readCourtLine 100 = .ok (.ifCond .eq 13, 3) := by decide +kernel
theorem dX12_readCourtLine_103 : decode cX12_readCourtLine 103 = .ok (.aload_n 0, 1) := by decide +kernel
theorem dX12_readCourtLine_104 : decode cX12_readCourtLine 104 = .ok (.bipush 9, 2) := by decide +kernel
theorem dX12_readCourtLine_106 : decode cX12_readCourtLine 106 = .ok (.iconst 0, 1) := by decide +kernel
theorem dX12_readCourtLine_107 : decode cX12_readCourtLine 107 = .ok (.bipush 100, 2) := by decide +kernel
theorem dX12_readCourtLine_109 : decode cX12_readCourtLine 109 = .ok (.invokevirtual 201, 3) := by decide +kernel
theorem dX12_readCourtLine_112 : decode cX12_readCourtLine 112 = .ok (.ireturn, 1) := by decide +kernel
theorem dX12_readCourtLine_113 : decode cX12_readCourtLine 113 = .ok (.aload_n 0, 1) := by decide +kernel
theorem dX12_readCourtLine_114 : decode cX12_readCourtLine 114 = .ok (.ldc 208, 2) := by decide +kernel
theorem dX12_readCourtLine_116 : decode cX12_readCourtLine 116 = .ok (.invokevirtual 137, 3) := by decide +kernel
theorem dX12_readCourtLine_119 : decode cX12_readCourtLine 119 = .ok (.ifCond .eq 20, 3) := by decide +kernel
theorem dX12_readCourtLine_122 : decode cX12_readCourtLine 122 = .ok (.aload_n 0, 1) := by decide +kernel
theorem dX12_readCourtLine_123 : decode cX12_readCourtLine 123 = .ok (.bipush 6, 2) := by decide +kernel
theorem dX12_readCourtLine_125 : decode cX12_readCourtLine 125 = .ok (.iconst 0, 1) := by decide +kernel
theorem dX12_readCourtLine_126 : decode cX12_readCourtLine 126 = .ok (.sipush 999, 3) := by decide +kernel
theorem dX12_readCourtLine_129 : decode cX12_readCourtLine 129 = .ok (.invokevirtual 201, 3) := by decide +kernel
theorem dX12_readCourtLine_132 : decode cX12_readCourtLine 132 = .ok (.ifCond .eq 7, 3) := by decide +kernel
theorem dX12_readCourtLine_135 : decode cX12_readCourtLine 135 = .ok (.iconst 1, 1) := by decide +kernel
theorem dX12_readCourtLine_136 : decode cX12_readCourtLine 136 = .ok (.goto 4, 3) := by decide +kernel
theorem dX12_readCourtLine_139 : decode cX12_readCourtLine 139 = .ok (.iconst 0, 1) := by decide +kernel
theorem dX12_readCourtLine_140 : decode cX12_readCourtLine 140 = .ok (.ireturn, 1) := by decide +kernel
theorem dX12_emits_0 : decode cX12_emits 0 = .ok (.aload_n 0, 1) := by decide +kernel
theorem dX12_emits_1 : decode cX12_emits 1 = .ok (.getfield 13, 3) := by decide +kernel
theorem dX12_emits_4 : decode cX12_emits 4 = .ok (.sipush 1270, 3) := by decide +kernel
theorem dX12_emits_7 : decode cX12_emits 7 = .ok (.iconst 2, 1) := by decide +kernel
theorem dX12_emits_8 : decode cX12_emits 8 = .ok (.aload_n 0, 1) := by decide +kernel
theorem dX12_emits_9 : decode cX12_emits 9 = .ok (.getfield 210, 3) := by decide +kernel
theorem dX12_emits_12 : decode cX12_emits 12 = .ok (.imul, 1) := by decide +kernel
theorem dX12_emits_13 : decode cX12_emits 13 = .ok (.iadd, 1) := by decide +kernel
theorem dX12_emits_14 : decode cX12_emits 14 = .ok (.iload_n 1, 1) := by decide +kernel
theorem dX12_emits_15 : decode cX12_emits 15 = .ok (.iastore, 1) := by decide +kernel
theorem dX12_emits_16 : decode cX12_emits 16 = .ok (.aload_n 0, 1) := by decide +kernel
theorem dX12_emits_17 : decode cX12_emits 17 = .ok (.getfield 13, 3) := by decide +kernel
theorem dX12_emits_20 : decode cX12_emits 20 = .ok (.sipush 1270, 3) := by decide +kernel
theorem dX12_emits_23 : decode cX12_emits 23 = .ok (.iconst 2, 1) := by decide +kernel
theorem dX12_emits_24 : decode cX12_emits 24 = .ok (.aload_n 0, 1) := by decide +kernel
theorem dX12_emits_25 : decode cX12_emits 25 = .ok (.getfield 210, 3) := by decide +kernel
theorem dX12_emits_28 : decode cX12_emits 28 = .ok (.imul, 1) := by decide +kernel
theorem dX12_emits_29 : decode cX12_emits 29 = .ok (.iadd, 1) := by decide +kernel
theorem dX12_emits_30 : decode cX12_emits 30 = .ok (.iconst 1, 1) := by decide +kernel
theorem dX12_emits_31 : decode cX12_emits 31 = .ok (.iadd, 1) := by decide +kernel
theorem dX12_emits_32 : decode cX12_emits 32 = .ok (.iload_n 2, 1) := by decide +kernel
theorem dX12_emits_33 : decode cX12_emits 33 = .ok (.iastore, 1) := by decide +kernel
theorem dX12_emits_34 : decode cX12_emits 34 = .ok (.aload_n 0, 1) := by decide +kernel
theorem dX12_emits_35 : decode cX12_emits 35 = .ok (.dup, 1) := by decide +kernel
theorem dX12_emits_36 : decode cX12_emits 36 = .ok (.getfield 210, 3) := by decide +kernel
theorem dX12_emits_39 : decode cX12_emits 39 = .ok (.iconst 1, 1) := by decide +kernel
theorem dX12_emits_40 : decode cX12_emits 40 = .ok (.iadd, 1) := by decide +kernel
theorem dX12_emits_41 : decode cX12_emits 41 = .ok (.putfield 210, 3) := by decide +kernel
theorem dX12_emits_44 : decode cX12_emits 44 = .ok (.return_, 1) := by decide +kernel
theorem dX12_wordOfPart_0 : decode cX12_wordOfPart 0 = .ok (.aload_n 0, 1) := by decide +kernel
theorem dX12_wordOfPart_1 : decode cX12_wordOfPart 1 = .ok (.ldc 178, 2) := by decide +kernel
theorem dX12_wordOfPart_3 : decode cX12_wordOfPart 3 = .ok (.invokevirtual 137, 3) := by decide +kernel
theorem dX12_wordOfPart_6 : decode cX12_wordOfPart 6 = .ok (.ifCond .eq 5, 3) := by decide +kernel
theorem dX12_wordOfPart_9 : decode cX12_wordOfPart 9 = .ok (.iconst 0, 1) := by decide +kernel
theorem dX12_wordOfPart_10 : decode cX12_wordOfPart 10 = .ok (.ireturn, 1) := by decide +kernel
theorem dX12_wordOfPart_11 : decode cX12_wordOfPart 11 = .ok (.aload_n 0, 1) := by decide +kernel
theorem dX12_wordOfPart_12 : decode cX12_wordOfPart 12 = .ok (.ldc 150, 2) := by decide +kernel
theorem dX12_wordOfPart_14 : decode cX12_wordOfPart 14 = .ok (.invokevirtual 137, 3) := by decide +kernel
theorem dX12_wordOfPart_17 : decode cX12_wordOfPart 17 = .ok (.ifCond .eq 5, 3) := by decide +kernel
theorem dX12_wordOfPart_20 : decode cX12_wordOfPart 20 = .ok (.iconst 1, 1) := by decide +kernel
theorem dX12_wordOfPart_21 : decode cX12_wordOfPart 21 = .ok (.ireturn, 1) := by decide +kernel
theorem dX12_wordOfPart_22 : decode cX12_wordOfPart 22 = .ok (.aload_n 0, 1) := by decide +kernel
theorem dX12_wordOfPart_23 : decode cX12_wordOfPart 23 = .ok (.ldc 156, 2) := by decide +kernel
theorem dX12_wordOfPart_25 : decode cX12_wordOfPart 25 = .ok (.invokevirtual 137, 3) := by decide +kernel
theorem dX12_wordOfPart_28 : decode cX12_wordOfPart 28 = .ok (.ifCond .eq 5, 3) := by decide +kernel
theorem dX12_wordOfPart_31 : decode cX12_wordOfPart 31 = .ok (.iconst 2, 1) := by decide +kernel
theorem dX12_wordOfPart_32 : decode cX12_wordOfPart 32 = .ok (.ireturn, 1) := by decide +kernel
theorem dX12_wordOfPart_33 : decode cX12_wordOfPart 33 = .ok (.aload_n 0, 1) := by decide +kernel
theorem dX12_wordOfPart_34 : decode cX12_wordOfPart 34 = .ok (.ldc 158, 2) := by decide +kernel
theorem dX12_wordOfPart_36 : decode cX12_wordOfPart 36 = .ok (.invokevirtual 137, 3) := by decide +kernel
theorem dX12_wordOfPart_39 : decode cX12_wordOfPart 39 = .ok (.ifCond .eq 5, 3) := by decide +kernel
theorem dX12_wordOfPart_42 : decode cX12_wordOfPart 42 = .ok (.iconst 3, 1) := by decide +kernel
theorem dX12_wordOfPart_43 : decode cX12_wordOfPart 43 = .ok (.ireturn, 1) := by decide +kernel
theorem dX12_wordOfPart_44 : decode cX12_wordOfPart 44 = .ok (.aload_n 0, 1) := by decide +kernel
theorem dX12_wordOfPart_45 : decode cX12_wordOfPart 45 = .ok (.ldc 164, 2) := by decide +kernel
theorem dX12_wordOfPart_47 : decode cX12_wordOfPart 47 = .ok (.invokevirtual 137, 3) := by decide +kernel
theorem dX12_wordOfPart_50 : decode cX12_wordOfPart 50 = .ok (.ifCond .eq 5, 3) := by decide +kernel
theorem dX12_wordOfPart_53 : decode cX12_wordOfPart 53 = .ok (.iconst 4, 1) := by decide +kernel
theorem dX12_wordOfPart_54 : decode cX12_wordOfPart 54 = .ok (.ireturn, 1) := by decide +kernel
theorem dX12_wordOfPart_55 : decode cX12_wordOfPart 55 = .ok (.aload_n 0, 1) := by decide +kernel
theorem dX12_wordOfPart_56 : decode cX12_wordOfPart 56 = .ok (.ldc 199, 2) := by decide +kernel
theorem dX12_wordOfPart_58 : decode cX12_wordOfPart 58 = .ok (.invokevirtual 137, 3) := by decide +kernel
theorem dX12_wordOfPart_61 : decode cX12_wordOfPart 61 = .ok (.ifCond .eq 5, 3) := by decide +kernel
theorem dX12_wordOfPart_64 : decode cX12_wordOfPart 64 = .ok (.iconst 5, 1) := by decide +kernel
theorem dX12_wordOfPart_65 : decode cX12_wordOfPart 65 = .ok (.ireturn, 1) := by decide +kernel
theorem dX12_wordOfPart_66 : decode cX12_wordOfPart 66 = .ok (.aload_n 0, 1) := by decide +kernel
theorem dX12_wordOfPart_67 : decode cX12_wordOfPart 67 = .ok (.ldc 166, 2) := by decide +kernel
theorem dX12_wordOfPart_69 : decode cX12_wordOfPart 69 = .ok (.invokevirtual 137, 3) := by decide +kernel
theorem dX12_wordOfPart_72 : decode cX12_wordOfPart 72 = .ok (.ifCond .eq 6, 3) := by decide +kernel
theorem dX12_wordOfPart_75 : decode cX12_wordOfPart 75 = .ok (.bipush 6, 2) := by decide +kernel
theorem dX12_wordOfPart_77 : decode cX12_wordOfPart 77 = .ok (.ireturn, 1) := by decide +kernel
theorem dX12_wordOfPart_78 : decode cX12_wordOfPart 78 = .ok (.aload_n 0, 1) := by decide +kernel
theorem dX12_wordOfPart_79 : decode cX12_wordOfPart 79 = .ok (.ldc 213, 2) := by decide +kernel
theorem dX12_wordOfPart_81 : decode cX12_wordOfPart 81 = .ok (.invokevirtual 137, 3) := by decide +kernel
theorem dX12_wordOfPart_84 : decode cX12_wordOfPart 84 = .ok (.ifCond .eq 8, 3) := by decide +kernel
theorem dX12_wordOfPart_87 : decode cX12_wordOfPart 87 = .ok (.bipush 7, 2) := by decide +kernel
theorem dX12_wordOfPart_89 : decode cX12_wordOfPart 89 = .ok (.goto 4, 3) := by decide +kernel
theorem dX12_wordOfPart_92 : decode cX12_wordOfPart 92 = .ok (.iconst (-1), 1) := by decide +kernel
theorem dX12_wordOfPart_93 : decode cX12_wordOfPart 93 = .ok (.ireturn, 1) := by decide +kernel
theorem dX12_readPart_0 : decode cX12_readPart 0 = .ok (.aload_n 0, 1) := by decide +kernel
theorem dX12_readPart_1 : decode cX12_readPart 1 = .ok (.invokevirtual 134, 3) := by decide +kernel
theorem dX12_readPart_4 : decode cX12_readPart 4 = .ok (.aload_n 0, 1) := by decide +kernel
theorem dX12_readPart_5 : decode cX12_readPart 5 = .ok (.getfield 109, 3) := by decide +kernel
theorem dX12_readPart_8 : decode cX12_readPart 8 = .ok (.aload_n 0, 1) := by decide +kernel
theorem dX12_readPart_9 : decode cX12_readPart 9 = .ok (.getfield 119, 3) := by decide +kernel
theorem dX12_readPart_12 : decode cX12_readPart 12 = .ok (.if_icmp .ne 7, 3) := by decide +kernel
theorem dX12_readPart_15 : decode cX12_readPart 15 = .ok (.iconst 1, 1) := by decide +kernel
theorem dX12_readPart_16 : decode cX12_readPart 16 = .ok (.goto 4, 3) := by decide +kernel
theorem dX12_readPart_19 : decode cX12_readPart 19 = .ok (.iconst 0, 1) := by decide +kernel
theorem dX12_readPart_20 : decode cX12_readPart 20 = .ok (.istore_n 1, 1) := by decide +kernel
theorem dX12_readPart_21 : decode cX12_readPart 21 = .ok (.iload_n 1, 1) := by decide +kernel
theorem dX12_readPart_22 : decode cX12_readPart 22 = .ok (.ifCond .eq 14, 3) := by decide +kernel
theorem dX12_readPart_25 : decode cX12_readPart 25 = .ok (.aload_n 0, 1) := by decide +kernel
theorem dX12_readPart_26 : decode cX12_readPart 26 = .ok (.iconst 0, 1) := by decide +kernel
theorem dX12_readPart_27 : decode cX12_readPart 27 = .ok (.sipush 999, 3) := by decide +kernel
theorem dX12_readPart_30 : decode cX12_readPart 30 = .ok (.invokevirtual 141, 3) := by decide +kernel
theorem dX12_readPart_33 : decode cX12_readPart 33 = .ok (.goto 7, 3) := by decide +kernel
theorem dX12_readPart_36 : decode cX12_readPart 36 = .ok (.aload_n 0, 1) := by decide +kernel
theorem dX12_readPart_37 : decode cX12_readPart 37 = .ok (.invokevirtual 215, 3) := by decide +kernel
theorem dX12_readPart_40 : decode cX12_readPart 40 = .ok (.istore_n 2, 1) := by decide +kernel
theorem dX12_readPart_41 : decode cX12_readPart 41 = .ok (.aload_n 0, 1) := by decide +kernel
theorem dX12_readPart_42 : decode cX12_readPart 42 = .ok (.iload_n 1, 1) := by decide +kernel
theorem dX12_readPart_43 : decode cX12_readPart 43 = .ok (.ifCond .eq 8, 3) := by decide +kernel
theorem dX12_readPart_46 : decode cX12_readPart 46 = .ok (.bipush 11, 2) := by decide +kernel
theorem dX12_readPart_48 : decode cX12_readPart 48 = .ok (.goto 4, 3) := by decide +kernel
theorem dX12_readPart_51 : decode cX12_readPart 51 = .ok (.iload_n 2, 1) := by decide +kernel
theorem dX12_readPart_52 : decode cX12_readPart 52 = .ok (.iload_n 1, 1) := by decide +kernel
theorem dX12_readPart_53 : decode cX12_readPart 53 = .ok (.ifCond .eq 7, 3) := by decide +kernel
theorem dX12_readPart_56 : decode cX12_readPart 56 = .ok (.iload_n 2, 1) := by decide +kernel
theorem dX12_readPart_57 : decode cX12_readPart 57 = .ok (.goto 4, 3) := by decide +kernel
theorem dX12_readPart_60 : decode cX12_readPart 60 = .ok (.iconst 0, 1) := by decide +kernel
theorem dX12_readPart_61 : decode cX12_readPart 61 = .ok (.invokevirtual 218, 3) := by decide +kernel
theorem dX12_readPart_64 : decode cX12_readPart 64 = .ok (.iload_n 2, 1) := by decide +kernel
theorem dX12_readPart_65 : decode cX12_readPart 65 = .ok (.ifCond .lt 7, 3) := by decide +kernel
theorem dX12_readPart_68 : decode cX12_readPart 68 = .ok (.iconst 1, 1) := by decide +kernel
theorem dX12_readPart_69 : decode cX12_readPart 69 = .ok (.goto 4, 3) := by decide +kernel
theorem dX12_readPart_72 : decode cX12_readPart 72 = .ok (.iconst 0, 1) := by decide +kernel
theorem dX12_readPart_73 : decode cX12_readPart 73 = .ok (.ireturn, 1) := by decide +kernel
theorem dX12_readSum_0 : decode cX12_readSum 0 = .ok (.aload_n 0, 1) := by decide +kernel
theorem dX12_readSum_1 : decode cX12_readSum 1 = .ok (.invokevirtual 222, 3) := by decide +kernel
theorem dX12_readSum_4 : decode cX12_readSum 4 = .ok (.ifCond .ne 5, 3) := by decide +kernel
theorem dX12_readSum_7 : decode cX12_readSum 7 = .ok (.iconst 0, 1) := by decide +kernel
theorem dX12_readSum_8 : decode cX12_readSum 8 = .ok (.ireturn, 1) := by decide +kernel
theorem dX12_readSum_9 : decode cX12_readSum 9 = .ok (.aload_n 0, 1) := by decide +kernel
theorem dX12_readSum_10 : decode cX12_readSum 10 = .ok (.bipush 43, 2) := by decide +kernel
theorem dX12_readSum_12 : decode cX12_readSum 12 = .ok (.invokevirtual 225, 3) := by decide +kernel
theorem dX12_readSum_15 : decode cX12_readSum 15 = .ok (.ifCond .eq 22, 3) := by decide +kernel
theorem dX12_readSum_18 : decode cX12_readSum 18 = .ok (.aload_n 0, 1) := by decide +kernel
theorem dX12_readSum_19 : decode cX12_readSum 19 = .ok (.invokevirtual 222, 3) := by decide +kernel
theorem dX12_readSum_22 : decode cX12_readSum 22 = .ok (.ifCond .ne 5, 3) := by decide +kernel
theorem dX12_readSum_25 : decode cX12_readSum 25 = .ok (.iconst 0, 1) := by decide +kernel
theorem dX12_readSum_26 : decode cX12_readSum 26 = .ok (.ireturn, 1) := by decide +kernel
theorem dX12_readSum_27 : decode cX12_readSum 27 = .ok (.aload_n 0, 1) := by decide +kernel
theorem dX12_readSum_28 : decode cX12_readSum 28 = .ok (.bipush 12, 2) := by decide +kernel
theorem dX12_readSum_30 : decode cX12_readSum 30 = .ok (.iconst 0, 1) := by decide +kernel
theorem dX12_readSum_31 : decode cX12_readSum 31 = .ok (.invokevirtual 218, 3) := by decide +kernel
theorem dX12_readSum_34 : decode cX12_readSum 34 = .ok (.goto (-25), 3) := by decide +kernel
theorem dX12_readSum_37 : decode cX12_readSum 37 = .ok (.iconst 1, 1) := by decide +kernel
theorem dX12_readSum_38 : decode cX12_readSum 38 = .ok (.ireturn, 1) := by decide +kernel
theorem dX12_readTag_0 : decode cX12_readTag 0 = .ok (.aload_n 0, 1) := by decide +kernel
theorem dX12_readTag_1 : decode cX12_readTag 1 = .ok (.invokevirtual 134, 3) := by decide +kernel
theorem dX12_readTag_4 : decode cX12_readTag 4 = .ok (.aload_n 0, 1) := by decide +kernel
theorem dX12_readTag_5 : decode cX12_readTag 5 = .ok (.ldc 229, 2) := by decide +kernel
theorem dX12_readTag_7 : decode cX12_readTag 7 = .ok (.invokevirtual 137, 3) := by decide +kernel
theorem dX12_readTag_10 : decode cX12_readTag 10 = .ok (.ifCond .eq 8, 3) := by decide +kernel
theorem dX12_readTag_13 : decode cX12_readTag 13 = .ok (.bipush 8, 2) := by decide +kernel
theorem dX12_readTag_15 : decode cX12_readTag 15 = .ok (.goto 32, 3) := by decide +kernel
theorem dX12_readTag_18 : decode cX12_readTag 18 = .ok (.aload_n 0, 1) := by decide +kernel
theorem dX12_readTag_19 : decode cX12_readTag 19 = .ok (.ldc 231, 2) := by decide +kernel
theorem dX12_readTag_21 : decode cX12_readTag 21 = .ok (.invokevirtual 137, 3) := by decide +kernel
theorem dX12_readTag_24 : decode cX12_readTag 24 = .ok (.ifCond .eq 8, 3) := by decide +kernel
theorem dX12_readTag_27 : decode cX12_readTag 27 = .ok (.bipush 9, 2) := by decide +kernel
theorem dX12_readTag_29 : decode cX12_readTag 29 = .ok (.goto 18, 3) := by decide +kernel
theorem dX12_readTag_32 : decode cX12_readTag 32 = .ok (.aload_n 0, 1) := by decide +kernel
theorem dX12_readTag_33 : decode cX12_readTag 33 = .ok (.ldc 233, 2) := by decide +kernel
theorem dX12_readTag_35 : decode cX12_readTag 35 = .ok (.invokevirtual 137, 3) := by decide +kernel
theorem dX12_readTag_38 : decode cX12_readTag 38 = .ok (.ifCond .eq 8, 3) := by decide +kernel
theorem dX12_readTag_41 : decode cX12_readTag 41 = .ok (.bipush 10, 2) := by decide +kernel
theorem dX12_readTag_43 : decode cX12_readTag 43 = .ok (.goto 4, 3) := by decide +kernel
theorem dX12_readTag_46 : decode cX12_readTag 46 = .ok (.iconst (-1), 1) := by decide +kernel
theorem dX12_readTag_47 : decode cX12_readTag 47 = .ok (.istore_n 1, 1) := by decide +kernel
theorem dX12_readTag_48 : decode cX12_readTag 48 = .ok (.iload_n 1, 1) := by decide +kernel
theorem dX12_readTag_49 : decode cX12_readTag 49 = .ok (.ifCond .lt 12, 3) := by decide +kernel
theorem dX12_readTag_52 : decode cX12_readTag 52 = .ok (.aload_n 0, 1) := by decide +kernel
theorem dX12_readTag_53 : decode cX12_readTag 53 = .ok (.iload_n 1, 1) := by decide +kernel
theorem dX12_readTag_54 : decode cX12_readTag 54 = .ok (.iconst 0, 1) := by decide +kernel
theorem dX12_readTag_55 : decode cX12_readTag 55 = .ok (.invokevirtual 218, 3) := by decide +kernel
theorem dX12_readTag_58 : decode cX12_readTag 58 = .ok (.goto 11, 3) := by decide +kernel
theorem dX12_readTag_61 : decode cX12_readTag 61 = .ok (.aload_n 0, 1) := by decide +kernel
theorem dX12_readTag_62 : decode cX12_readTag 62 = .ok (.aload_n 0, 1) := by decide +kernel
theorem dX12_readTag_63 : decode cX12_readTag 63 = .ok (.getfield 119, 3) := by decide +kernel
theorem dX12_readTag_66 : decode cX12_readTag 66 = .ok (.putfield 109, 3) := by decide +kernel
theorem dX12_readTag_69 : decode cX12_readTag 69 = .ok (.iload_n 1, 1) := by decide +kernel
theorem dX12_readTag_70 : decode cX12_readTag 70 = .ok (.ifCond .lt 7, 3) := by decide +kernel
theorem dX12_readTag_73 : decode cX12_readTag 73 = .ok (.iconst 1, 1) := by decide +kernel
theorem dX12_readTag_74 : decode cX12_readTag 74 = .ok (.goto 4, 3) := by decide +kernel
theorem dX12_readTag_77 : decode cX12_readTag 77 = .ok (.iconst 0, 1) := by decide +kernel
theorem dX12_readTag_78 : decode cX12_readTag 78 = .ok (.ireturn, 1) := by decide +kernel
theorem dX12_readAtom_0 : decode cX12_readAtom 0 = .ok (.aload_n 0, 1) := by decide +kernel
theorem dX12_readAtom_1 : decode cX12_readAtom 1 = .ok (.bipush 40, 2) := by decide +kernel
theorem dX12_readAtom_3 : decode cX12_readAtom 3 = .ok (.invokevirtual 225, 3) := by decide +kernel
theorem dX12_readAtom_6 : decode cX12_readAtom 6 = .ok (.ifCond .eq 50, 3) := by decide +kernel
theorem dX12_readAtom_9 : decode cX12_readAtom 9 = .ok (.aload_n 0, 1) := by decide +kernel
theorem dX12_readAtom_10 : decode cX12_readAtom 10 = .ok (.getfield 235, 3) := by decide +kernel
theorem dX12_readAtom_13 : decode cX12_readAtom 13 = .ok (.bipush 6, 2) := by decide +kernel
theorem dX12_readAtom_15 : decode cX12_readAtom 15 = .ok (.if_icmp .ne 5, 3) := by decide +kernel
theorem dX12_readAtom_18 : decode cX12_readAtom 18 = .ok (.iconst 0, 1) := by decide +kernel
theorem dX12_readAtom_19 : decode cX12_readAtom 19 = .ok (.ireturn, 1) := by decide +kernel
theorem dX12_readAtom_20 : decode cX12_readAtom 20 = .ok (.aload_n 0, 1) := by decide +kernel
theorem dX12_readAtom_21 : decode cX12_readAtom 21 = .ok (.dup, 1) := by decide +kernel
theorem dX12_readAtom_22 : decode cX12_readAtom 22 = .ok (.getfield 235, 3) := by decide +kernel
theorem dX12_readAtom_25 : decode cX12_readAtom 25 = .ok (.iconst 1, 1) := by decide +kernel
theorem dX12_readAtom_26 : decode cX12_readAtom 26 = .ok (.iadd, 1) := by decide +kernel
theorem dX12_readAtom_27 : decode cX12_readAtom 27 = .ok (.putfield 235, 3) := by decide +kernel
theorem dX12_readAtom_30 : decode cX12_readAtom 30 = .ok (.aload_n 0, 1) := by decide +kernel
theorem dX12_readAtom_31 : decode cX12_readAtom 31 = .ok (.invokevirtual 238, 3) := by decide +kernel
theorem dX12_readAtom_34 : decode cX12_readAtom 34 = .ok (.ifCond .ne 5, 3) := by decide +kernel
theorem dX12_readAtom_37 : decode cX12_readAtom 37 = .ok (.iconst 0, 1) := by decide +kernel
theorem dX12_readAtom_38 : decode cX12_readAtom 38 = .ok (.ireturn, 1) := by decide +kernel
theorem dX12_readAtom_39 : decode cX12_readAtom 39 = .ok (.aload_n 0, 1) := by decide +kernel
theorem dX12_readAtom_40 : decode cX12_readAtom 40 = .ok (.dup, 1) := by decide +kernel
theorem dX12_readAtom_41 : decode cX12_readAtom 41 = .ok (.getfield 235, 3) := by decide +kernel
theorem dX12_readAtom_44 : decode cX12_readAtom 44 = .ok (.iconst 1, 1) := by decide +kernel
theorem dX12_readAtom_45 : decode cX12_readAtom 45 = .ok (.isub, 1) := by decide +kernel
theorem dX12_readAtom_46 : decode cX12_readAtom 46 = .ok (.putfield 235, 3) := by decide +kernel
theorem dX12_readAtom_49 : decode cX12_readAtom 49 = .ok (.aload_n 0, 1) := by decide +kernel
theorem dX12_readAtom_50 : decode cX12_readAtom 50 = .ok (.bipush 41, 2) := by decide +kernel
theorem dX12_readAtom_52 : decode cX12_readAtom 52 = .ok (.invokevirtual 225, 3) := by decide +kernel
theorem dX12_readAtom_55 : decode cX12_readAtom 55 = .ok (.ireturn, 1) := by decide +kernel
theorem dX12_readAtom_56 : decode cX12_readAtom 56 = .ok (.aload_n 0, 1) := by decide +kernel
theorem dX12_readAtom_57 : decode cX12_readAtom 57 = .ok (.ldc 241, 2) := by decide +kernel
theorem dX12_readAtom_59 : decode cX12_readAtom 59 = .ok (.invokevirtual 144, 3) := by decide +kernel
theorem dX12_readAtom_62 : decode cX12_readAtom 62 = .ok (.ifCond .eq 52, 3) := by decide +kernel
theorem dX12_readAtom_65 : decode cX12_readAtom 65 = .ok (.aload_n 0, 1) := by decide +kernel
theorem dX12_readAtom_66 : decode cX12_readAtom 66 = .ok (.getfield 235, 3) := by decide +kernel
theorem dX12_readAtom_69 : decode cX12_readAtom 69 = .ok (.bipush 6, 2) := by decide +kernel
theorem dX12_readAtom_71 : decode cX12_readAtom 71 = .ok (.if_icmp .ne 5, 3) := by decide +kernel
theorem dX12_readAtom_74 : decode cX12_readAtom 74 = .ok (.iconst 0, 1) := by decide +kernel
theorem dX12_readAtom_75 : decode cX12_readAtom 75 = .ok (.ireturn, 1) := by decide +kernel
theorem dX12_readAtom_76 : decode cX12_readAtom 76 = .ok (.aload_n 0, 1) := by decide +kernel
theorem dX12_readAtom_77 : decode cX12_readAtom 77 = .ok (.dup, 1) := by decide +kernel
theorem dX12_readAtom_78 : decode cX12_readAtom 78 = .ok (.getfield 235, 3) := by decide +kernel
theorem dX12_readAtom_81 : decode cX12_readAtom 81 = .ok (.iconst 1, 1) := by decide +kernel
theorem dX12_readAtom_82 : decode cX12_readAtom 82 = .ok (.iadd, 1) := by decide +kernel
theorem dX12_readAtom_83 : decode cX12_readAtom 83 = .ok (.putfield 235, 3) := by decide +kernel
theorem dX12_readAtom_86 : decode cX12_readAtom 86 = .ok (.aload_n 0, 1) := by decide +kernel
theorem dX12_readAtom_87 : decode cX12_readAtom 87 = .ok (.invokevirtual 243, 3) := by decide +kernel
theorem dX12_readAtom_90 : decode cX12_readAtom 90 = .ok (.ifCond .ne 5, 3) := by decide +kernel
theorem dX12_readAtom_93 : decode cX12_readAtom 93 = .ok (.iconst 0, 1) := by decide +kernel
theorem dX12_readAtom_94 : decode cX12_readAtom 94 = .ok (.ireturn, 1) := by decide +kernel
theorem dX12_readAtom_95 : decode cX12_readAtom 95 = .ok (.aload_n 0, 1) := by decide +kernel
theorem dX12_readAtom_96 : decode cX12_readAtom 96 = .ok (.dup, 1) := by decide +kernel
theorem dX12_readAtom_97 : decode cX12_readAtom 97 = .ok (.getfield 235, 3) := by decide +kernel
theorem dX12_readAtom_100 : decode cX12_readAtom 100 = .ok (.iconst 1, 1) := by decide +kernel
theorem dX12_readAtom_101 : decode cX12_readAtom 101 = .ok (.isub, 1) := by decide +kernel
theorem dX12_readAtom_102 : decode cX12_readAtom 102 = .ok (.putfield 235, 3) := by decide +kernel
theorem dX12_readAtom_105 : decode cX12_readAtom 105 = .ok (.aload_n 0, 1) := by decide +kernel
theorem dX12_readAtom_106 : decode cX12_readAtom 106 = .ok (.bipush 15, 2) := by decide +kernel
theorem dX12_readAtom_108 : decode cX12_readAtom 108 = .ok (.iconst 0, 1) := by decide +kernel
theorem dX12_readAtom_109 : decode cX12_readAtom 109 = .ok (.invokevirtual 218, 3) := by decide +kernel
theorem dX12_readAtom_112 : decode cX12_readAtom 112 = .ok (.iconst 1, 1) := by decide +kernel
theorem dX12_readAtom_113 : decode cX12_readAtom 113 = .ok (.ireturn, 1) := by decide +kernel
theorem dX12_readAtom_114 : decode cX12_readAtom 114 = .ok (.aload_n 0, 1) := by decide +kernel
theorem dX12_readAtom_115 : decode cX12_readAtom 115 = .ok (.invokevirtual 246, 3) := by decide +kernel
theorem dX12_readAtom_118 : decode cX12_readAtom 118 = .ok (.ifCond .eq 5, 3) := by decide +kernel
theorem dX12_readAtom_121 : decode cX12_readAtom 121 = .ok (.iconst 1, 1) := by decide +kernel
theorem dX12_readAtom_122 : decode cX12_readAtom 122 = .ok (.ireturn, 1) := by decide +kernel
theorem dX12_readAtom_123 : decode cX12_readAtom 123 = .ok (.aload_n 0, 1) := by decide +kernel
theorem dX12_readAtom_124 : decode cX12_readAtom 124 = .ok (.invokevirtual 249, 3) := by decide +kernel
theorem dX12_readAtom_127 : decode cX12_readAtom 127 = .ok (.ifCond .ne 5, 3) := by decide +kernel
theorem dX12_readAtom_130 : decode cX12_readAtom 130 = .ok (.iconst 0, 1) := by decide +kernel
theorem dX12_readAtom_131 : decode cX12_readAtom 131 = .ok (.ireturn, 1) := by decide +kernel
theorem dX12_readAtom_132 : decode cX12_readAtom 132 = .ok (.aload_n 0, 1) := by decide +kernel
theorem dX12_readAtom_133 : decode cX12_readAtom 133 = .ok (.bipush 60, 2) := by decide +kernel
theorem dX12_readAtom_135 : decode cX12_readAtom 135 = .ok (.invokevirtual 225, 3) := by decide +kernel
theorem dX12_readAtom_138 : decode cX12_readAtom 138 = .ok (.istore_n 1, 1) := by decide +kernel
theorem dX12_readAtom_139 : decode cX12_readAtom 139 = .ok (.iload_n 1, 1) := by decide +kernel
theorem dX12_readAtom_140 : decode cX12_readAtom 140 = .ok (.ifCond .ne 12, 3) := by decide +kernel
theorem dX12_readAtom_143 : decode cX12_readAtom 143 = .ok (.aload_n 0, 1) := by decide +kernel
theorem dX12_readAtom_144 : decode cX12_readAtom 144 = .ok (.bipush 62, 2) := by decide +kernel
theorem dX12_readAtom_146 : decode cX12_readAtom 146 = .ok (.invokevirtual 225, 3) := by decide +kernel
theorem dX12_readAtom_149 : decode cX12_readAtom 149 = .ok (.ifCond .eq 10, 3) := by decide +kernel
theorem dX12_readAtom_152 : decode cX12_readAtom 152 = .ok (.aload_n 0, 1) := by decide +kernel
theorem dX12_readAtom_153 : decode cX12_readAtom 153 = .ok (.invokevirtual 249, 3) := by decide +kernel
theorem dX12_readAtom_156 : decode cX12_readAtom 156 = .ok (.ifCond .ne 5, 3) := by decide +kernel
theorem dX12_readAtom_159 : decode cX12_readAtom 159 = .ok (.iconst 0, 1) := by decide +kernel
theorem dX12_readAtom_160 : decode cX12_readAtom 160 = .ok (.ireturn, 1) := by decide +kernel
theorem dX12_readAtom_161 : decode cX12_readAtom 161 = .ok (.aload_n 0, 1) := by decide +kernel
theorem dX12_readAtom_162 : decode cX12_readAtom 162 = .ok (.iload_n 1, 1) := by decide +kernel
theorem dX12_readAtom_163 : decode cX12_readAtom 163 = .ok (.ifCond .eq 8, 3) := by decide +kernel
theorem dX12_readAtom_166 : decode cX12_readAtom 166 = .ok (.bipush 13, 2) := by decide +kernel
theorem dX12_readAtom_168 : decode cX12_readAtom 168 = .ok (.goto 5, 3) := by decide +kernel
theorem dX12_readAtom_171 : decode cX12_readAtom 171 = .ok (.bipush 14, 2) := by decide +kernel
theorem dX12_readAtom_173 : decode cX12_readAtom 173 = .ok (.iconst 0, 1) := by decide +kernel
theorem dX12_readAtom_174 : decode cX12_readAtom 174 = .ok (.invokevirtual 218, 3) := by decide +kernel
theorem dX12_readAtom_177 : decode cX12_readAtom 177 = .ok (.iconst 1, 1) := by decide +kernel
theorem dX12_readAtom_178 : decode cX12_readAtom 178 = .ok (.ireturn, 1) := by decide +kernel
theorem dX12_readAllOf_0 : decode cX12_readAllOf 0 = .ok (.aload_n 0, 1) := by decide +kernel
theorem dX12_readAllOf_1 : decode cX12_readAllOf 1 = .ok (.invokevirtual 243, 3) := by decide +kernel
theorem dX12_readAllOf_4 : decode cX12_readAllOf 4 = .ok (.ifCond .ne 5, 3) := by decide +kernel
theorem dX12_readAllOf_7 : decode cX12_readAllOf 7 = .ok (.iconst 0, 1) := by decide +kernel
theorem dX12_readAllOf_8 : decode cX12_readAllOf 8 = .ok (.ireturn, 1) := by decide +kernel
theorem dX12_readAllOf_9 : decode cX12_readAllOf 9 = .ok (.aload_n 0, 1) := by decide +kernel
theorem dX12_readAllOf_10 : decode cX12_readAllOf 10 = .ok (.ldc 252, 2) := by decide +kernel
theorem dX12_readAllOf_12 : decode cX12_readAllOf 12 = .ok (.invokevirtual 144, 3) := by decide +kernel
theorem dX12_readAllOf_15 : decode cX12_readAllOf 15 = .ok (.ifCond .eq 22, 3) := by decide +kernel
theorem dX12_readAllOf_18 : decode cX12_readAllOf 18 = .ok (.aload_n 0, 1) := by decide +kernel
theorem dX12_readAllOf_19 : decode cX12_readAllOf 19 = .ok (.invokevirtual 243, 3) := by decide +kernel
theorem dX12_readAllOf_22 : decode cX12_readAllOf 22 = .ok (.ifCond .ne 5, 3) := by decide +kernel
theorem dX12_readAllOf_25 : decode cX12_readAllOf 25 = .ok (.iconst 0, 1) := by decide +kernel
theorem dX12_readAllOf_26 : decode cX12_readAllOf 26 = .ok (.ireturn, 1) := by decide +kernel
theorem dX12_readAllOf_27 : decode cX12_readAllOf 27 = .ok (.aload_n 0, 1) := by decide +kernel
theorem dX12_readAllOf_28 : decode cX12_readAllOf 28 = .ok (.bipush 16, 2) := by decide +kernel
theorem dX12_readAllOf_30 : decode cX12_readAllOf 30 = .ok (.iconst 0, 1) := by decide +kernel
theorem dX12_readAllOf_31 : decode cX12_readAllOf 31 = .ok (.invokevirtual 218, 3) := by decide +kernel
theorem dX12_readAllOf_34 : decode cX12_readAllOf 34 = .ok (.goto (-25), 3) := by decide +kernel
theorem dX12_readAllOf_37 : decode cX12_readAllOf 37 = .ok (.iconst 1, 1) := by decide +kernel
theorem dX12_readAllOf_38 : decode cX12_readAllOf 38 = .ok (.ireturn, 1) := by decide +kernel
theorem dX12_readCond_0 : decode cX12_readCond 0 = .ok (.aload_n 0, 1) := by decide +kernel
theorem dX12_readCond_1 : decode cX12_readCond 1 = .ok (.invokevirtual 254, 3) := by decide +kernel
theorem dX12_readCond_4 : decode cX12_readCond 4 = .ok (.ifCond .ne 5, 3) := by decide +kernel
theorem dX12_readCond_7 : decode cX12_readCond 7 = .ok (.iconst 0, 1) := by decide +kernel
theorem dX12_readCond_8 : decode cX12_readCond 8 = .ok (.ireturn, 1) := by decide +kernel
theorem dX12_readCond_9 : decode cX12_readCond 9 = .ok (.aload_n 0, 1) := by decide +kernel
theorem dX12_readCond_10 : decode cX12_readCond 10 = .ok (.ldc_w 257, 3) := by decide +kernel
theorem dX12_readCond_13 : decode cX12_readCond 13 = .ok (.invokevirtual 144, 3) := by decide +kernel
theorem dX12_readCond_16 : decode cX12_readCond 16 = .ok (.ifCond .eq 22, 3) := by decide +kernel
theorem dX12_readCond_19 : decode cX12_readCond 19 = .ok (.aload_n 0, 1) := by decide +kernel
theorem dX12_readCond_20 : decode cX12_readCond 20 = .ok (.invokevirtual 254, 3) := by decide +kernel
theorem dX12_readCond_23 : decode cX12_readCond 23 = .ok (.ifCond .ne 5, 3) := by decide +kernel
theorem dX12_readCond_26 : decode cX12_readCond 26 = .ok (.iconst 0, 1) := by decide +kernel
theorem dX12_readCond_27 : decode cX12_readCond 27 = .ok (.ireturn, 1) := by decide +kernel
theorem dX12_readCond_28 : decode cX12_readCond 28 = .ok (.aload_n 0, 1) := by decide +kernel
theorem dX12_readCond_29 : decode cX12_readCond 29 = .ok (.bipush 17, 2) := by decide +kernel
theorem dX12_readCond_31 : decode cX12_readCond 31 = .ok (.iconst 0, 1) := by decide +kernel
theorem dX12_readCond_32 : decode cX12_readCond 32 = .ok (.invokevirtual 218, 3) := by decide +kernel
theorem dX12_readCond_35 : decode cX12_readCond 35 = .ok (.goto (-26), 3) := by decide +kernel
theorem dX12_readCond_38 : decode cX12_readCond 38 = .ok (.iconst 1, 1) := by decide +kernel
theorem dX12_readCond_39 : decode cX12_readCond 39 = .ok (.ireturn, 1) := by decide +kernel
theorem dX12_readLawLine_0 : decode cX12_readLawLine 0 = .ok (.sipush 1222, 3) := by decide +kernel
theorem dX12_readLawLine_3 : decode cX12_readLawLine 3 = .ok (.iconst 4, 1) := by decide +kernel
theorem dX12_readLawLine_4 : decode cX12_readLawLine 4 = .ok (.iload_n 1, 1) := by decide +kernel
theorem dX12_readLawLine_5 : decode cX12_readLawLine 5 = .ok (.imul, 1) := by decide +kernel
theorem dX12_readLawLine_6 : decode cX12_readLawLine 6 = .ok (.iadd, 1) := by decide +kernel
theorem dX12_readLawLine_7 : decode cX12_readLawLine 7 = .ok (.istore_n 2, 1) := by decide +kernel
theorem dX12_readLawLine_8 : decode cX12_readLawLine 8 = .ok (.aload_n 0, 1) := by decide +kernel
theorem dX12_readLawLine_9 : decode cX12_readLawLine 9 = .ok (.getfield 13, 3) := by decide +kernel
theorem dX12_readLawLine_12 : decode cX12_readLawLine 12 = .ok (.iload_n 2, 1) := by decide +kernel
theorem dX12_readLawLine_13 : decode cX12_readLawLine 13 = .ok (.aload_n 0, 1) := by decide +kernel
theorem dX12_readLawLine_14 : decode cX12_readLawLine 14 = .ok (.ldc_w 259, 3) := by decide +kernel
theorem dX12_readLawLine_17 : decode cX12_readLawLine 17 = .ok (.invokevirtual 137, 3) := by decide +kernel
theorem dX12_readLawLine_20 : decode cX12_readLawLine 20 = .ok (.ifCond .eq 7, 3) := by decide +kernel
theorem dX12_readLawLine_23 : decode cX12_readLawLine 23 = .ok (.iconst 0, 1) := by decide +kernel
theorem dX12_readLawLine_24 : decode cX12_readLawLine 24 = .ok (.goto 32, 3) := by decide +kernel
theorem dX12_readLawLine_27 : decode cX12_readLawLine 27 = .ok (.aload_n 0, 1) := by decide +kernel
theorem dX12_readLawLine_28 : decode cX12_readLawLine 28 = .ok (.ldc_w 260, 3) := by decide +kernel
theorem dX12_readLawLine_31 : decode cX12_readLawLine 31 = .ok (.invokevirtual 137, 3) := by decide +kernel
theorem dX12_readLawLine_34 : decode cX12_readLawLine 34 = .ok (.ifCond .eq 7, 3) := by decide +kernel
theorem dX12_readLawLine_37 : decode cX12_readLawLine 37 = .ok (.iconst 1, 1) := by decide +kernel
theorem dX12_readLawLine_38 : decode cX12_readLawLine 38 = .ok (.goto 18, 3) := by decide +kernel
theorem dX12_readLawLine_41 : decode cX12_readLawLine 41 = .ok (.aload_n 0, 1) := by decide +kernel
theorem dX12_readLawLine_42 : decode cX12_readLawLine 42 = .ok (.ldc_w 261, 3) := by decide +kernel
theorem dX12_readLawLine_45 : decode cX12_readLawLine 45 = .ok (.invokevirtual 137, 3) := by decide +kernel
theorem dX12_readLawLine_48 : decode cX12_readLawLine 48 = .ok (.ifCond .eq 7, 3) := by decide +kernel
theorem dX12_readLawLine_51 : decode cX12_readLawLine 51 = .ok (.iconst 2, 1) := by decide +kernel
theorem dX12_readLawLine_52 : decode cX12_readLawLine 52 = .ok (.goto 4, 3) := by decide +kernel
theorem dX12_readLawLine_55 : decode cX12_readLawLine 55 = .ok (.iconst (-1), 1) := by decide +kernel
theorem dX12_readLawLine_56 : decode cX12_readLawLine 56 = .ok (.iastore, 1) := by decide +kernel
theorem dX12_readLawLine_57 : decode cX12_readLawLine 57 = .ok (.aload_n 0, 1) := by decide +kernel
theorem dX12_readLawLine_58 : decode cX12_readLawLine 58 = .ok (.getfield 13, 3) := by decide +kernel
theorem dX12_readLawLine_61 : decode cX12_readLawLine 61 = .ok (.iload_n 2, 1) := by decide +kernel
theorem dX12_readLawLine_62 : decode cX12_readLawLine 62 = .ok (.iaload, 1) := by decide +kernel
theorem dX12_readLawLine_63 : decode cX12_readLawLine 63 = .ok (.ifCond .ge 5, 3) := by decide +kernel
theorem dX12_readLawLine_66 : decode cX12_readLawLine 66 = .ok (.iconst 0, 1) := by decide +kernel
theorem dX12_readLawLine_67 : decode cX12_readLawLine 67 = .ok (.ireturn, 1) := by decide +kernel
theorem dX12_readLawLine_68 : decode cX12_readLawLine 68 = .ok (.aload_n 0, 1) := by decide +kernel
theorem dX12_readLawLine_69 : decode cX12_readLawLine 69 = .ok (.getfield 13, 3) := by decide +kernel
theorem dX12_readLawLine_72 : decode cX12_readLawLine 72 = .ok (.iload_n 2, 1) := by decide +kernel
theorem dX12_readLawLine_73 : decode cX12_readLawLine 73 = .ok (.iconst 1, 1) := by decide +kernel
theorem dX12_readLawLine_74 : decode cX12_readLawLine 74 = .ok (.iadd, 1) := by decide +kernel
theorem dX12_readLawLine_75 : decode cX12_readLawLine 75 = .ok (.aload_n 0, 1) := by decide +kernel
theorem dX12_readLawLine_76 : decode cX12_readLawLine 76 = .ok (.iconst 0, 1) := by decide +kernel
theorem dX12_readLawLine_77 : decode cX12_readLawLine 77 = .ok (.bipush 99, 2) := by decide +kernel
theorem dX12_readLawLine_79 : decode cX12_readLawLine 79 = .ok (.invokevirtual 141, 3) := by decide +kernel
theorem dX12_readLawLine_82 : decode cX12_readLawLine 82 = .ok (.iastore, 1) := by decide +kernel
theorem dX12_readLawLine_83 : decode cX12_readLawLine 83 = .ok (.aload_n 0, 1) := by decide +kernel
theorem dX12_readLawLine_84 : decode cX12_readLawLine 84 = .ok (.getfield 13, 3) := by decide +kernel
theorem dX12_readLawLine_87 : decode cX12_readLawLine 87 = .ok (.iload_n 2, 1) := by decide +kernel
theorem dX12_readLawLine_88 : decode cX12_readLawLine 88 = .ok (.iconst 1, 1) := by decide +kernel
theorem dX12_readLawLine_89 : decode cX12_readLawLine 89 = .ok (.iadd, 1) := by decide +kernel
theorem dX12_readLawLine_90 : decode cX12_readLawLine 90 = .ok (.iaload, 1) := by decide +kernel
theorem dX12_readLawLine_91 : decode cX12_readLawLine 91 = .ok (.ifCond .ge 5, 3) := by decide +kernel
theorem dX12_readLawLine_94 : decode cX12_readLawLine 94 = .ok (.iconst 0, 1) := by decide +kernel
theorem dX12_readLawLine_95 : decode cX12_readLawLine 95 = .ok (.ireturn, 1) := by decide +kernel
theorem dX12_readLawLine_96 : decode cX12_readLawLine 96 = .ok (.aload_n 0, 1) := by decide +kernel
theorem dX12_readLawLine_97 : decode cX12_readLawLine 97 = .ok (.getfield 13, 3) := by decide +kernel
theorem dX12_readLawLine_100 : decode cX12_readLawLine 100 = .ok (.iload_n 2, 1) := by decide +kernel
theorem dX12_readLawLine_101 : decode cX12_readLawLine 101 = .ok (.iconst 2, 1) := by decide +kernel
theorem dX12_readLawLine_102 : decode cX12_readLawLine 102 = .ok (.iadd, 1) := by decide +kernel
theorem dX12_readLawLine_103 : decode cX12_readLawLine 103 = .ok (.aload_n 0, 1) := by decide +kernel
theorem dX12_readLawLine_104 : decode cX12_readLawLine 104 = .ok (.getfield 210, 3) := by decide +kernel
theorem dX12_readLawLine_107 : decode cX12_readLawLine 107 = .ok (.iastore, 1) := by decide +kernel
theorem dX12_readLawLine_108 : decode cX12_readLawLine 108 = .ok (.aload_n 0, 1) := by decide +kernel
theorem dX12_readLawLine_109 : decode cX12_readLawLine 109 = .ok (.iconst 0, 1) := by decide +kernel
theorem dX12_readLawLine_110 : decode cX12_readLawLine 110 = .ok (.putfield 235, 3) := by decide +kernel
theorem dX12_readLawLine_113 : decode cX12_readLawLine 113 = .ok (.aload_n 0, 1) := by decide +kernel
theorem dX12_readLawLine_114 : decode cX12_readLawLine 114 = .ok (.ldc_w 263, 3) := by decide +kernel
theorem dX12_readLawLine_117 : decode cX12_readLawLine 117 = .ok (.invokevirtual 144, 3) := by decide +kernel
theorem dX12_readLawLine_120 : decode cX12_readLawLine 120 = .ok (.ifCond .eq 12, 3) := by decide +kernel
theorem dX12_readLawLine_123 : decode cX12_readLawLine 123 = .ok (.aload_n 0, 1) := by decide +kernel
theorem dX12_readLawLine_124 : decode cX12_readLawLine 124 = .ok (.invokevirtual 238, 3) := by decide +kernel
theorem dX12_readLawLine_127 : decode cX12_readLawLine 127 = .ok (.ifCond .ne 5, 3) := by decide +kernel
theorem dX12_readLawLine_130 : decode cX12_readLawLine 130 = .ok (.iconst 0, 1) := by decide +kernel
theorem dX12_readLawLine_131 : decode cX12_readLawLine 131 = .ok (.ireturn, 1) := by decide +kernel
theorem dX12_readLawLine_132 : decode cX12_readLawLine 132 = .ok (.aload_n 0, 1) := by decide +kernel
theorem dX12_readLawLine_133 : decode cX12_readLawLine 133 = .ok (.getfield 13, 3) := by decide +kernel
theorem dX12_readLawLine_136 : decode cX12_readLawLine 136 = .ok (.iload_n 2, 1) := by decide +kernel
theorem dX12_readLawLine_137 : decode cX12_readLawLine 137 = .ok (.iconst 3, 1) := by decide +kernel
theorem dX12_readLawLine_138 : decode cX12_readLawLine 138 = .ok (.iadd, 1) := by decide +kernel
theorem dX12_readLawLine_139 : decode cX12_readLawLine 139 = .ok (.aload_n 0, 1) := by decide +kernel
theorem dX12_readLawLine_140 : decode cX12_readLawLine 140 = .ok (.getfield 210, 3) := by decide +kernel
theorem dX12_readLawLine_143 : decode cX12_readLawLine 143 = .ok (.iastore, 1) := by decide +kernel
theorem dX12_readLawLine_144 : decode cX12_readLawLine 144 = .ok (.iconst 1, 1) := by decide +kernel
theorem dX12_readLawLine_145 : decode cX12_readLawLine 145 = .ok (.ireturn, 1) := by decide +kernel
theorem dX12_readLine_0 : decode cX12_readLine 0 = .ok (.aload_n 0, 1) := by decide +kernel
theorem dX12_readLine_1 : decode cX12_readLine 1 = .ok (.invokevirtual 134, 3) := by decide +kernel
theorem dX12_readLine_4 : decode cX12_readLine 4 = .ok (.iload_n 2, 1) := by decide +kernel
theorem dX12_readLine_5 : decode cX12_readLine 5 = .ok (.iload_n 1, 1) := by decide +kernel
theorem dX12_readLine_6 : decode cX12_readLine 6 = .ok (.ifCond .eq 8, 3) := by decide +kernel
theorem dX12_readLine_9 : decode cX12_readLine 9 = .ok (.bipush 14, 2) := by decide +kernel
theorem dX12_readLine_11 : decode cX12_readLine 11 = .ok (.goto 5, 3) := by decide +kernel
theorem dX12_readLine_14 : decode cX12_readLine 14 = .ok (.bipush 12, 2) := by decide +kernel
theorem dX12_readLine_16 : decode cX12_readLine 16 = .ok (.if_icmp .ge 29, 3) := by decide +kernel
theorem dX12_readLine_19 : decode cX12_readLine 19 = .ok (.iload_n 1, 1) := by decide +kernel
theorem dX12_readLine_20 : decode cX12_readLine 20 = .ok (.ifCond .eq 13, 3) := by decide +kernel
theorem dX12_readLine_23 : decode cX12_readLine 23 = .ok (.aload_n 0, 1) := by decide +kernel
theorem dX12_readLine_24 : decode cX12_readLine 24 = .ok (.invokevirtual 265, 3) := by decide +kernel
theorem dX12_readLine_27 : decode cX12_readLine 27 = .ok (.ifCond .eq 18, 3) := by decide +kernel
theorem dX12_readLine_30 : decode cX12_readLine 30 = .ok (.goto 11, 3) := by decide +kernel
theorem dX12_readLine_33 : decode cX12_readLine 33 = .ok (.aload_n 0, 1) := by decide +kernel
theorem dX12_readLine_34 : decode cX12_readLine 34 = .ok (.iload_n 2, 1) := by decide +kernel
theorem dX12_readLine_35 : decode cX12_readLine 35 = .ok (.invokevirtual 268, 3) := by decide +kernel
theorem dX12_readLine_38 : decode cX12_readLine 38 = .ok (.ifCond .eq 7, 3) := by decide +kernel
theorem dX12_readLine_41 : decode cX12_readLine 41 = .ok (.iconst 1, 1) := by decide +kernel
theorem dX12_readLine_42 : decode cX12_readLine 42 = .ok (.goto 4, 3) := by decide +kernel
theorem dX12_readLine_45 : decode cX12_readLine 45 = .ok (.iconst 0, 1) := by decide +kernel
theorem dX12_readLine_46 : decode cX12_readLine 46 = .ok (.ireturn, 1) := by decide +kernel
theorem dX12_readAll_0 : decode cX12_readAll 0 = .ok (.aload_n 0, 1) := by decide +kernel
theorem dX12_readAll_1 : decode cX12_readAll 1 = .ok (.invokevirtual 271, 3) := by decide +kernel
theorem dX12_readAll_4 : decode cX12_readAll 4 = .ok (.aload_n 0, 1) := by decide +kernel
theorem dX12_readAll_5 : decode cX12_readAll 5 = .ok (.iconst 0, 1) := by decide +kernel
theorem dX12_readAll_6 : decode cX12_readAll 6 = .ok (.putfield 210, 3) := by decide +kernel
theorem dX12_readAll_9 : decode cX12_readAll 9 = .ok (.aload_n 0, 1) := by decide +kernel
theorem dX12_readAll_10 : decode cX12_readAll 10 = .ok (.invokevirtual 122, 3) := by decide +kernel
theorem dX12_readAll_13 : decode cX12_readAll 13 = .ok (.aload_n 0, 1) := by decide +kernel
theorem dX12_readAll_14 : decode cX12_readAll 14 = .ok (.getfield 109, 3) := by decide +kernel
theorem dX12_readAll_17 : decode cX12_readAll 17 = .ok (.aload_n 0, 1) := by decide +kernel
theorem dX12_readAll_18 : decode cX12_readAll 18 = .ok (.getfield 112, 3) := by decide +kernel
theorem dX12_readAll_21 : decode cX12_readAll 21 = .ok (.if_icmp .ne 5, 3) := by decide +kernel
theorem dX12_readAll_24 : decode cX12_readAll 24 = .ok (.iconst 0, 1) := by decide +kernel
theorem dX12_readAll_25 : decode cX12_readAll 25 = .ok (.ireturn, 1) := by decide +kernel
theorem dX12_readAll_26 : decode cX12_readAll 26 = .ok (.iconst 0, 1) := by decide +kernel
theorem dX12_readAll_27 : decode cX12_readAll 27 = .ok (.istore_n 2, 1) := by decide +kernel
theorem dX12_readAll_28 : decode cX12_readAll 28 = .ok (.aload_n 0, 1) := by decide +kernel
theorem dX12_readAll_29 : decode cX12_readAll 29 = .ok (.iload_n 1, 1) := by decide +kernel
theorem dX12_readAll_30 : decode cX12_readAll 30 = .ok (.iload_n 2, 1) := by decide +kernel
theorem dX12_readAll_31 : decode cX12_readAll 31 = .ok (.invokevirtual 274, 3) := by decide +kernel
theorem dX12_readAll_34 : decode cX12_readAll 34 = .ok (.ifCond .ne 5, 3) := by decide +kernel
theorem dX12_readAll_37 : decode cX12_readAll 37 = .ok (.iconst (-1), 1) := by decide +kernel
theorem dX12_readAll_38 : decode cX12_readAll 38 = .ok (.ireturn, 1) := by decide +kernel
theorem dX12_readAll_39 : decode cX12_readAll 39 = .ok (.aload_n 0, 1) := by decide +kernel
theorem dX12_readAll_40 : decode cX12_readAll 40 = .ok (.invokevirtual 122, 3) := by decide +kernel
theorem dX12_readAll_43 : decode cX12_readAll 43 = .ok (.aload_n 0, 1) := by decide +kernel
theorem dX12_readAll_44 : decode cX12_readAll 44 = .ok (.getfield 109, 3) := by decide +kernel
theorem dX12_readAll_47 : decode cX12_readAll 47 = .ok (.aload_n 0, 1) := by decide +kernel
theorem dX12_readAll_48 : decode cX12_readAll 48 = .ok (.getfield 112, 3) := by decide +kernel
theorem dX12_readAll_51 : decode cX12_readAll 51 = .ok (.if_icmp .ne 7, 3) := by decide +kernel
theorem dX12_readAll_54 : decode cX12_readAll 54 = .ok (.iload_n 2, 1) := by decide +kernel
theorem dX12_readAll_55 : decode cX12_readAll 55 = .ok (.iconst 1, 1) := by decide +kernel
theorem dX12_readAll_56 : decode cX12_readAll 56 = .ok (.iadd, 1) := by decide +kernel
theorem dX12_readAll_57 : decode cX12_readAll 57 = .ok (.ireturn, 1) := by decide +kernel
theorem dX12_readAll_58 : decode cX12_readAll 58 = .ok (.aload_n 0, 1) := by decide +kernel
theorem dX12_readAll_59 : decode cX12_readAll 59 = .ok (.bipush 59, 2) := by decide +kernel
theorem dX12_readAll_61 : decode cX12_readAll 61 = .ok (.bipush 59, 2) := by decide +kernel
theorem dX12_readAll_63 : decode cX12_readAll 63 = .ok (.invokevirtual 115, 3) := by decide +kernel
theorem dX12_readAll_66 : decode cX12_readAll 66 = .ok (.ifCond .ne 5, 3) := by decide +kernel
theorem dX12_readAll_69 : decode cX12_readAll 69 = .ok (.iconst (-1), 1) := by decide +kernel
theorem dX12_readAll_70 : decode cX12_readAll 70 = .ok (.ireturn, 1) := by decide +kernel
theorem dX12_readAll_71 : decode cX12_readAll 71 = .ok (.aload_n 0, 1) := by decide +kernel
theorem dX12_readAll_72 : decode cX12_readAll 72 = .ok (.dup, 1) := by decide +kernel
theorem dX12_readAll_73 : decode cX12_readAll 73 = .ok (.getfield 109, 3) := by decide +kernel
theorem dX12_readAll_76 : decode cX12_readAll 76 = .ok (.iconst 1, 1) := by decide +kernel
theorem dX12_readAll_77 : decode cX12_readAll 77 = .ok (.iadd, 1) := by decide +kernel
theorem dX12_readAll_78 : decode cX12_readAll 78 = .ok (.putfield 109, 3) := by decide +kernel
theorem dX12_readAll_81 : decode cX12_readAll 81 = .ok (.iinc 2 1, 3) := by decide +kernel
theorem dX12_readAll_84 : decode cX12_readAll 84 = .ok (.goto (-56), 3) := by decide +kernel
theorem dX12_court_0 : decode cX12_court 0 = .ok (.iconst 0, 1) := by decide +kernel
theorem dX12_court_1 : decode cX12_court 1 = .ok (.istore_n 1, 1) := by decide +kernel
theorem dX12_court_2 : decode cX12_court 2 = .ok (.iload_n 1, 1) := by decide +kernel
theorem dX12_court_3 : decode cX12_court 3 = .ok (.sipush 1221, 3) := by decide +kernel
theorem dX12_court_6 : decode cX12_court 6 = .ok (.if_icmp .ge 21, 3) := by decide +kernel
theorem dX12_court_9 : decode cX12_court 9 = .ok (.aload_n 0, 1) := by decide +kernel
theorem dX12_court_10 : decode cX12_court 10 = .ok (.getfield 20, 3) := by decide +kernel
theorem dX12_court_13 : decode cX12_court 13 = .ok (.iload_n 1, 1) := by decide +kernel
theorem dX12_court_14 : decode cX12_court 14 = .ok (.aload_n 0, 1) := by decide +kernel
theorem dX12_court_15 : decode cX12_court 15 = .ok (.getfield 13, 3) := by decide +kernel
theorem dX12_court_18 : decode cX12_court 18 = .ok (.iload_n 1, 1) := by decide +kernel
theorem dX12_court_19 : decode cX12_court 19 = .ok (.iaload, 1) := by decide +kernel
theorem dX12_court_20 : decode cX12_court 20 = .ok (.iastore, 1) := by decide +kernel
theorem dX12_court_21 : decode cX12_court 21 = .ok (.iinc 1 1, 3) := by decide +kernel
theorem dX12_court_24 : decode cX12_court 24 = .ok (.goto (-22), 3) := by decide +kernel
theorem dX12_court_27 : decode cX12_court 27 = .ok (.aload_n 0, 1) := by decide +kernel
theorem dX12_court_28 : decode cX12_court 28 = .ok (.iconst 1, 1) := by decide +kernel
theorem dX12_court_29 : decode cX12_court 29 = .ok (.invokevirtual 278, 3) := by decide +kernel
theorem dX12_court_32 : decode cX12_court 32 = .ok (.istore_n 1, 1) := by decide +kernel
theorem dX12_court_33 : decode cX12_court 33 = .ok (.aload_n 0, 1) := by decide +kernel
theorem dX12_court_34 : decode cX12_court 34 = .ok (.iload_n 1, 1) := by decide +kernel
theorem dX12_court_35 : decode cX12_court 35 = .ok (.ifCond .ge 10, 3) := by decide +kernel
theorem dX12_court_38 : decode cX12_court 38 = .ok (.aload_n 0, 1) := by decide +kernel
theorem dX12_court_39 : decode cX12_court 39 = .ok (.getfield 119, 3) := by decide +kernel
theorem dX12_court_42 : decode cX12_court 42 = .ok (.goto 4, 3) := by decide +kernel
theorem dX12_court_45 : decode cX12_court 45 = .ok (.iconst (-1), 1) := by decide +kernel
theorem dX12_court_46 : decode cX12_court 46 = .ok (.putfield 33, 3) := by decide +kernel
theorem dX12_court_49 : decode cX12_court 49 = .ok (.aload_n 0, 1) := by decide +kernel
theorem dX12_court_50 : decode cX12_court 50 = .ok (.iload_n 1, 1) := by decide +kernel
theorem dX12_court_51 : decode cX12_court 51 = .ok (.ifCond .ge 7, 3) := by decide +kernel
theorem dX12_court_54 : decode cX12_court 54 = .ok (.iconst 1, 1) := by decide +kernel
theorem dX12_court_55 : decode cX12_court 55 = .ok (.goto 4, 3) := by decide +kernel
theorem dX12_court_58 : decode cX12_court 58 = .ok (.iconst 0, 1) := by decide +kernel
theorem dX12_court_59 : decode cX12_court 59 = .ok (.iconst 1, 1) := by decide +kernel
theorem dX12_court_60 : decode cX12_court 60 = .ok (.invokevirtual 282, 3) := by decide +kernel
theorem dX12_court_63 : decode cX12_court 63 = .ok (.ifCond .ne 27, 3) := by decide +kernel
theorem dX12_court_66 : decode cX12_court 66 = .ok (.aload_n 0, 1) := by decide +kernel
theorem dX12_court_67 : decode cX12_court 67 = .ok (.aload_n 0, 1) := by decide +kernel
theorem dX12_court_68 : decode cX12_court 68 = .ok (.getfield 13, 3) := by decide +kernel
theorem dX12_court_71 : decode cX12_court 71 = .ok (.iconst 4, 1) := by decide +kernel
theorem dX12_court_72 : decode cX12_court 72 = .ok (.iaload, 1) := by decide +kernel
theorem dX12_court_73 : decode cX12_court 73 = .ok (.bipush 12, 2) := by decide +kernel
theorem dX12_court_75 : decode cX12_court 75 = .ok (.if_icmp .ne 7, 3) := by decide +kernel
theorem dX12_court_78 : decode cX12_court 78 = .ok (.iconst 1, 1) := by decide +kernel
theorem dX12_court_79 : decode cX12_court 79 = .ok (.goto 4, 3) := by decide +kernel
theorem dX12_court_82 : decode cX12_court 82 = .ok (.iconst 0, 1) := by decide +kernel
theorem dX12_court_83 : decode cX12_court 83 = .ok (.iconst 2, 1) := by decide +kernel
theorem dX12_court_84 : decode cX12_court 84 = .ok (.invokevirtual 282, 3) := by decide +kernel
theorem dX12_court_87 : decode cX12_court 87 = .ok (.ifCond .eq 32, 3) := by decide +kernel
theorem dX12_court_90 : decode cX12_court 90 = .ok (.iconst 0, 1) := by decide +kernel
theorem dX12_court_91 : decode cX12_court 91 = .ok (.istore_n 2, 1) := by decide +kernel
theorem dX12_court_92 : decode cX12_court 92 = .ok (.iload_n 2, 1) := by decide +kernel
theorem dX12_court_93 : decode cX12_court 93 = .ok (.sipush 1221, 3) := by decide +kernel
theorem dX12_court_96 : decode cX12_court 96 = .ok (.if_icmp .ge 21, 3) := by decide +kernel
theorem dX12_court_99 : decode cX12_court 99 = .ok (.aload_n 0, 1) := by decide +kernel
theorem dX12_court_100 : decode cX12_court 100 = .ok (.getfield 13, 3) := by decide +kernel
theorem dX12_court_103 : decode cX12_court 103 = .ok (.iload_n 2, 1) := by decide +kernel
theorem dX12_court_104 : decode cX12_court 104 = .ok (.aload_n 0, 1) := by decide +kernel
theorem dX12_court_105 : decode cX12_court 105 = .ok (.getfield 20, 3) := by decide +kernel
theorem dX12_court_108 : decode cX12_court 108 = .ok (.iload_n 2, 1) := by decide +kernel
theorem dX12_court_109 : decode cX12_court 109 = .ok (.iaload, 1) := by decide +kernel
theorem dX12_court_110 : decode cX12_court 110 = .ok (.iastore, 1) := by decide +kernel
theorem dX12_court_111 : decode cX12_court 111 = .ok (.iinc 2 1, 3) := by decide +kernel
theorem dX12_court_114 : decode cX12_court 114 = .ok (.goto (-22), 3) := by decide +kernel
theorem dX12_court_117 : decode cX12_court 117 = .ok (.iconst 0, 1) := by decide +kernel
theorem dX12_court_118 : decode cX12_court 118 = .ok (.ireturn, 1) := by decide +kernel
theorem dX12_court_119 : decode cX12_court 119 = .ok (.aload_n 0, 1) := by decide +kernel
theorem dX12_court_120 : decode cX12_court 120 = .ok (.getfield 13, 3) := by decide +kernel
theorem dX12_court_123 : decode cX12_court 123 = .ok (.iconst 4, 1) := by decide +kernel
theorem dX12_court_124 : decode cX12_court 124 = .ok (.dup2, 1) := by decide +kernel
theorem dX12_court_125 : decode cX12_court 125 = .ok (.iaload, 1) := by decide +kernel
theorem dX12_court_126 : decode cX12_court 126 = .ok (.iconst 1, 1) := by decide +kernel
theorem dX12_court_127 : decode cX12_court 127 = .ok (.iadd, 1) := by decide +kernel
theorem dX12_court_128 : decode cX12_court 128 = .ok (.iastore, 1) := by decide +kernel
theorem dX12_court_129 : decode cX12_court 129 = .ok (.aload_n 0, 1) := by decide +kernel
theorem dX12_court_130 : decode cX12_court 130 = .ok (.iconst 0, 1) := by decide +kernel
theorem dX12_court_131 : decode cX12_court 131 = .ok (.putfield 75, 3) := by decide +kernel
theorem dX12_court_134 : decode cX12_court 134 = .ok (.aload_n 0, 1) := by decide +kernel
theorem dX12_court_135 : decode cX12_court 135 = .ok (.getfield 13, 3) := by decide +kernel
theorem dX12_court_138 : decode cX12_court 138 = .ok (.iconst 4, 1) := by decide +kernel
theorem dX12_court_139 : decode cX12_court 139 = .ok (.iaload, 1) := by decide +kernel
theorem dX12_court_140 : decode cX12_court 140 = .ok (.ireturn, 1) := by decide +kernel
theorem dX12_law_0 : decode cX12_law 0 = .ok (.aload_n 0, 1) := by decide +kernel
theorem dX12_law_1 : decode cX12_law 1 = .ok (.iconst 0, 1) := by decide +kernel
theorem dX12_law_2 : decode cX12_law 2 = .ok (.invokevirtual 278, 3) := by decide +kernel
theorem dX12_law_5 : decode cX12_law 5 = .ok (.istore_n 1, 1) := by decide +kernel
theorem dX12_law_6 : decode cX12_law 6 = .ok (.aload_n 0, 1) := by decide +kernel
theorem dX12_law_7 : decode cX12_law 7 = .ok (.iload_n 1, 1) := by decide +kernel
theorem dX12_law_8 : decode cX12_law 8 = .ok (.ifCond .ge 10, 3) := by decide +kernel
theorem dX12_law_11 : decode cX12_law 11 = .ok (.aload_n 0, 1) := by decide +kernel
theorem dX12_law_12 : decode cX12_law 12 = .ok (.getfield 119, 3) := by decide +kernel
theorem dX12_law_15 : decode cX12_law 15 = .ok (.goto 4, 3) := by decide +kernel
theorem dX12_law_18 : decode cX12_law 18 = .ok (.iconst (-1), 1) := by decide +kernel
theorem dX12_law_19 : decode cX12_law 19 = .ok (.putfield 33, 3) := by decide +kernel
theorem dX12_law_22 : decode cX12_law 22 = .ok (.aload_n 0, 1) := by decide +kernel
theorem dX12_law_23 : decode cX12_law 23 = .ok (.iload_n 1, 1) := by decide +kernel
theorem dX12_law_24 : decode cX12_law 24 = .ok (.ifCond .ge 7, 3) := by decide +kernel
theorem dX12_law_27 : decode cX12_law 27 = .ok (.iconst 1, 1) := by decide +kernel
theorem dX12_law_28 : decode cX12_law 28 = .ok (.goto 4, 3) := by decide +kernel
theorem dX12_law_31 : decode cX12_law 31 = .ok (.iconst 0, 1) := by decide +kernel
theorem dX12_law_32 : decode cX12_law 32 = .ok (.iconst 1, 1) := by decide +kernel
theorem dX12_law_33 : decode cX12_law 33 = .ok (.invokevirtual 282, 3) := by decide +kernel
theorem dX12_law_36 : decode cX12_law 36 = .ok (.ifCond .eq 5, 3) := by decide +kernel
theorem dX12_law_39 : decode cX12_law 39 = .ok (.iconst 0, 1) := by decide +kernel
theorem dX12_law_40 : decode cX12_law 40 = .ok (.ireturn, 1) := by decide +kernel
theorem dX12_law_41 : decode cX12_law 41 = .ok (.aload_n 0, 1) := by decide +kernel
theorem dX12_law_42 : decode cX12_law 42 = .ok (.getfield 13, 3) := by decide +kernel
theorem dX12_law_45 : decode cX12_law 45 = .ok (.sipush 1221, 3) := by decide +kernel
theorem dX12_law_48 : decode cX12_law 48 = .ok (.iload_n 1, 1) := by decide +kernel
theorem dX12_law_49 : decode cX12_law 49 = .ok (.iastore, 1) := by decide +kernel
theorem dX12_law_50 : decode cX12_law 50 = .ok (.iconst 0, 1) := by decide +kernel
theorem dX12_law_51 : decode cX12_law 51 = .ok (.istore_n 2, 1) := by decide +kernel
theorem dX12_law_52 : decode cX12_law 52 = .ok (.iload_n 2, 1) := by decide +kernel
theorem dX12_law_53 : decode cX12_law 53 = .ok (.sipush 849, 3) := by decide +kernel
theorem dX12_law_56 : decode cX12_law 56 = .ok (.if_icmp .ge 29, 3) := by decide +kernel
theorem dX12_law_59 : decode cX12_law 59 = .ok (.aload_n 0, 1) := by decide +kernel
theorem dX12_law_60 : decode cX12_law 60 = .ok (.getfield 13, 3) := by decide +kernel
theorem dX12_law_63 : decode cX12_law 63 = .ok (.sipush 372, 3) := by decide +kernel
theorem dX12_law_66 : decode cX12_law 66 = .ok (.iload_n 2, 1) := by decide +kernel
theorem dX12_law_67 : decode cX12_law 67 = .ok (.iadd, 1) := by decide +kernel
theorem dX12_law_68 : decode cX12_law 68 = .ok (.aload_n 0, 1) := by decide +kernel
theorem dX12_law_69 : decode cX12_law 69 = .ok (.getfield 13, 3) := by decide +kernel
theorem dX12_law_72 : decode cX12_law 72 = .ok (.sipush 1221, 3) := by decide +kernel
theorem dX12_law_75 : decode cX12_law 75 = .ok (.iload_n 2, 1) := by decide +kernel
theorem dX12_law_76 : decode cX12_law 76 = .ok (.iadd, 1) := by decide +kernel
theorem dX12_law_77 : decode cX12_law 77 = .ok (.iaload, 1) := by decide +kernel
theorem dX12_law_78 : decode cX12_law 78 = .ok (.iastore, 1) := by decide +kernel
theorem dX12_law_79 : decode cX12_law 79 = .ok (.iinc 2 1, 3) := by decide +kernel
theorem dX12_law_82 : decode cX12_law 82 = .ok (.goto (-30), 3) := by decide +kernel
theorem dX12_law_85 : decode cX12_law 85 = .ok (.aload_n 0, 1) := by decide +kernel
theorem dX12_law_86 : decode cX12_law 86 = .ok (.getfield 13, 3) := by decide +kernel
theorem dX12_law_89 : decode cX12_law 89 = .ok (.iconst 5, 1) := by decide +kernel
theorem dX12_law_90 : decode cX12_law 90 = .ok (.iconst 1, 1) := by decide +kernel
theorem dX12_law_91 : decode cX12_law 91 = .ok (.iastore, 1) := by decide +kernel
theorem dX12_law_92 : decode cX12_law 92 = .ok (.aload_n 0, 1) := by decide +kernel
theorem dX12_law_93 : decode cX12_law 93 = .ok (.iconst 0, 1) := by decide +kernel
theorem dX12_law_94 : decode cX12_law 94 = .ok (.putfield 75, 3) := by decide +kernel
theorem dX12_law_97 : decode cX12_law 97 = .ok (.iload_n 1, 1) := by decide +kernel
theorem dX12_law_98 : decode cX12_law 98 = .ok (.ireturn, 1) := by decide +kernel
theorem dX12_weightOn_0 : decode cX12_weightOn 0 = .ok (.iconst 0, 1) := by decide +kernel
theorem dX12_weightOn_1 : decode cX12_weightOn 1 = .ok (.istore_n 3, 1) := by decide +kernel
theorem dX12_weightOn_2 : decode cX12_weightOn 2 = .ok (.iconst 0, 1) := by decide +kernel
theorem dX12_weightOn_3 : decode cX12_weightOn 3 = .ok (.istore 4, 2) := by decide +kernel
theorem dX12_weightOn_5 : decode cX12_weightOn 5 = .ok (.iload 4, 2) := by decide +kernel
theorem dX12_weightOn_7 : decode cX12_weightOn 7 = .ok (.aload_n 0, 1) := by decide +kernel
theorem dX12_weightOn_8 : decode cX12_weightOn 8 = .ok (.invokevirtual 85, 3) := by decide +kernel
theorem dX12_weightOn_11 : decode cX12_weightOn 11 = .ok (.if_icmp .ge 46, 3) := by decide +kernel
theorem dX12_weightOn_14 : decode cX12_weightOn 14 = .ok (.iload_n 3, 1) := by decide +kernel
theorem dX12_weightOn_15 : decode cX12_weightOn 15 = .ok (.iload_n 2, 1) := by decide +kernel
theorem dX12_weightOn_16 : decode cX12_weightOn 16 = .ok (.iload 4, 2) := by decide +kernel
theorem dX12_weightOn_18 : decode cX12_weightOn 18 = .ok (.invokestatic 147, 3) := by decide +kernel
theorem dX12_weightOn_21 : decode cX12_weightOn 21 = .ok (.ifCond .eq 27, 3) := by decide +kernel
theorem dX12_weightOn_24 : decode cX12_weightOn 24 = .ok (.aload_n 0, 1) := by decide +kernel
theorem dX12_weightOn_25 : decode cX12_weightOn 25 = .ok (.iload 4, 2) := by decide +kernel
theorem dX12_weightOn_27 : decode cX12_weightOn 27 = .ok (.iconst 1, 1) := by decide +kernel
theorem dX12_weightOn_28 : decode cX12_weightOn 28 = .ok (.invokevirtual 89, 3) := by decide +kernel
theorem dX12_weightOn_31 : decode cX12_weightOn 31 = .ok (.iload_n 1, 1) := by decide +kernel
theorem dX12_weightOn_32 : decode cX12_weightOn 32 = .ok (.invokestatic 147, 3) := by decide +kernel
theorem dX12_weightOn_35 : decode cX12_weightOn 35 = .ok (.ifCond .eq 13, 3) := by decide +kernel
theorem dX12_weightOn_38 : decode cX12_weightOn 38 = .ok (.aload_n 0, 1) := by decide +kernel
theorem dX12_weightOn_39 : decode cX12_weightOn 39 = .ok (.iload 4, 2) := by decide +kernel
theorem dX12_weightOn_41 : decode cX12_weightOn 41 = .ok (.iconst 0, 1) := by decide +kernel
theorem dX12_weightOn_42 : decode cX12_weightOn 42 = .ok (.invokevirtual 89, 3) := by decide +kernel
theorem dX12_weightOn_45 : decode cX12_weightOn 45 = .ok (.goto 4, 3) := by decide +kernel
theorem dX12_weightOn_48 : decode cX12_weightOn 48 = .ok (.iconst 0, 1) := by decide +kernel
theorem dX12_weightOn_49 : decode cX12_weightOn 49 = .ok (.iadd, 1) := by decide +kernel
theorem dX12_weightOn_50 : decode cX12_weightOn 50 = .ok (.istore_n 3, 1) := by decide +kernel
theorem dX12_weightOn_51 : decode cX12_weightOn 51 = .ok (.iinc 4 1, 3) := by decide +kernel
theorem dX12_weightOn_54 : decode cX12_weightOn 54 = .ok (.goto (-49), 3) := by decide +kernel
theorem dX12_weightOn_57 : decode cX12_weightOn 57 = .ok (.iload_n 3, 1) := by decide +kernel
theorem dX12_weightOn_58 : decode cX12_weightOn 58 = .ok (.ireturn, 1) := by decide +kernel
theorem dX12_isEdge_0 : decode cX12_isEdge 0 = .ok (.aload_n 0, 1) := by decide +kernel
theorem dX12_isEdge_1 : decode cX12_isEdge 1 = .ok (.iload_n 1, 1) := by decide +kernel
theorem dX12_isEdge_2 : decode cX12_isEdge 2 = .ok (.iconst 4, 1) := by decide +kernel
theorem dX12_isEdge_3 : decode cX12_isEdge 3 = .ok (.invokevirtual 285, 3) := by decide +kernel
theorem dX12_isEdge_6 : decode cX12_isEdge 6 = .ok (.ifCond .eq 18, 3) := by decide +kernel
theorem dX12_isEdge_9 : decode cX12_isEdge 9 = .ok (.aload_n 0, 1) := by decide +kernel
theorem dX12_isEdge_10 : decode cX12_isEdge 10 = .ok (.iload_n 1, 1) := by decide +kernel
theorem dX12_isEdge_11 : decode cX12_isEdge 11 = .ok (.iconst 4, 1) := by decide +kernel
theorem dX12_isEdge_12 : decode cX12_isEdge 12 = .ok (.invokevirtual 285, 3) := by decide +kernel
theorem dX12_isEdge_15 : decode cX12_isEdge 15 = .ok (.aload_n 0, 1) := by decide +kernel
theorem dX12_isEdge_16 : decode cX12_isEdge 16 = .ok (.invokevirtual 92, 3) := by decide +kernel
theorem dX12_isEdge_19 : decode cX12_isEdge 19 = .ok (.iconst 1, 1) := by decide +kernel
theorem dX12_isEdge_20 : decode cX12_isEdge 20 = .ok (.isub, 1) := by decide +kernel
theorem dX12_isEdge_21 : decode cX12_isEdge 21 = .ok (.if_icmp .ne 7, 3) := by decide +kernel
theorem dX12_isEdge_24 : decode cX12_isEdge 24 = .ok (.iconst 1, 1) := by decide +kernel
theorem dX12_isEdge_25 : decode cX12_isEdge 25 = .ok (.goto 4, 3) := by decide +kernel
theorem dX12_isEdge_28 : decode cX12_isEdge 28 = .ok (.iconst 0, 1) := by decide +kernel
theorem dX12_isEdge_29 : decode cX12_isEdge 29 = .ok (.ireturn, 1) := by decide +kernel
theorem dX12_factOf_0 : decode cX12_factOf 0 = .ok (.iload_n 1, 1) := by decide +kernel
theorem dX12_factOf_1 : decode cX12_factOf 1 = .ok (.tableswitch 159 0 10 #[59, 61, 68, 75, 82, 89, 97, 105, 112, 128, 145], 59) := by decide +kernel
theorem dX12_factOf_60 : decode cX12_factOf 60 = .ok (.iload_n 3, 1) := by decide +kernel
theorem dX12_factOf_61 : decode cX12_factOf 61 = .ok (.ireturn, 1) := by decide +kernel
theorem dX12_factOf_62 : decode cX12_factOf 62 = .ok (.aload_n 0, 1) := by decide +kernel
theorem dX12_factOf_63 : decode cX12_factOf 63 = .ok (.iload_n 3, 1) := by decide +kernel
theorem dX12_factOf_64 : decode cX12_factOf 64 = .ok (.iconst 0, 1) := by decide +kernel
theorem dX12_factOf_65 : decode cX12_factOf 65 = .ok (.invokevirtual 285, 3) := by decide +kernel
theorem dX12_factOf_68 : decode cX12_factOf 68 = .ok (.ireturn, 1) := by decide +kernel
theorem dX12_factOf_69 : decode cX12_factOf 69 = .ok (.aload_n 0, 1) := by decide +kernel
theorem dX12_factOf_70 : decode cX12_factOf 70 = .ok (.iload_n 3, 1) := by decide +kernel
theorem dX12_factOf_71 : decode cX12_factOf 71 = .ok (.iconst 1, 1) := by decide +kernel
theorem dX12_factOf_72 : decode cX12_factOf 72 = .ok (.invokevirtual 285, 3) := by decide +kernel
theorem dX12_factOf_75 : decode cX12_factOf 75 = .ok (.ireturn, 1) := by decide +kernel
theorem dX12_factOf_76 : decode cX12_factOf 76 = .ok (.aload_n 0, 1) := by decide +kernel
theorem dX12_factOf_77 : decode cX12_factOf 77 = .ok (.iload_n 3, 1) := by decide +kernel
theorem dX12_factOf_78 : decode cX12_factOf 78 = .ok (.iconst 2, 1) := by decide +kernel
theorem dX12_factOf_79 : decode cX12_factOf 79 = .ok (.invokevirtual 285, 3) := by decide +kernel
theorem dX12_factOf_82 : decode cX12_factOf 82 = .ok (.ireturn, 1) := by decide +kernel
theorem dX12_factOf_83 : decode cX12_factOf 83 = .ok (.aload_n 0, 1) := by decide +kernel
theorem dX12_factOf_84 : decode cX12_factOf 84 = .ok (.iload_n 3, 1) := by decide +kernel
theorem dX12_factOf_85 : decode cX12_factOf 85 = .ok (.iconst 3, 1) := by decide +kernel
theorem dX12_factOf_86 : decode cX12_factOf 86 = .ok (.invokevirtual 285, 3) := by decide +kernel
theorem dX12_factOf_89 : decode cX12_factOf 89 = .ok (.ireturn, 1) := by decide +kernel
theorem dX12_factOf_90 : decode cX12_factOf 90 = .ok (.aload_n 0, 1) := by decide +kernel
theorem dX12_factOf_91 : decode cX12_factOf 91 = .ok (.getfield 13, 3) := by decide +kernel
theorem dX12_factOf_94 : decode cX12_factOf 94 = .ok (.bipush 7, 2) := by decide +kernel
theorem dX12_factOf_96 : decode cX12_factOf 96 = .ok (.iaload, 1) := by decide +kernel
theorem dX12_factOf_97 : decode cX12_factOf 97 = .ok (.ireturn, 1) := by decide +kernel
theorem dX12_factOf_98 : decode cX12_factOf 98 = .ok (.aload_n 0, 1) := by decide +kernel
theorem dX12_factOf_99 : decode cX12_factOf 99 = .ok (.iload_n 3, 1) := by decide +kernel
theorem dX12_factOf_100 : decode cX12_factOf 100 = .ok (.iload 4, 2) := by decide +kernel
theorem dX12_factOf_102 : decode cX12_factOf 102 = .ok (.invokevirtual 288, 3) := by decide +kernel
theorem dX12_factOf_105 : decode cX12_factOf 105 = .ok (.ireturn, 1) := by decide +kernel
theorem dX12_factOf_106 : decode cX12_factOf 106 = .ok (.aload_n 0, 1) := by decide +kernel
theorem dX12_factOf_107 : decode cX12_factOf 107 = .ok (.iload_n 3, 1) := by decide +kernel
theorem dX12_factOf_108 : decode cX12_factOf 108 = .ok (.iconst 4, 1) := by decide +kernel
theorem dX12_factOf_109 : decode cX12_factOf 109 = .ok (.invokevirtual 285, 3) := by decide +kernel
theorem dX12_factOf_112 : decode cX12_factOf 112 = .ok (.ireturn, 1) := by decide +kernel
theorem dX12_factOf_113 : decode cX12_factOf 113 = .ok (.aload_n 0, 1) := by decide +kernel
theorem dX12_factOf_114 : decode cX12_factOf 114 = .ok (.iload_n 3, 1) := by decide +kernel
theorem dX12_factOf_115 : decode cX12_factOf 115 = .ok (.iload 4, 2) := by decide +kernel
theorem dX12_factOf_117 : decode cX12_factOf 117 = .ok (.invokevirtual 288, 3) := by decide +kernel
theorem dX12_factOf_120 : decode cX12_factOf 120 = .ok (.ifCond .le 7, 3) := by decide +kernel
theorem dX12_factOf_123 : decode cX12_factOf 123 = .ok (.iconst 1, 1) := by decide +kernel
theorem dX12_factOf_124 : decode cX12_factOf 124 = .ok (.goto 4, 3) := by decide +kernel
theorem dX12_factOf_127 : decode cX12_factOf 127 = .ok (.iconst 0, 1) := by decide +kernel
theorem dX12_factOf_128 : decode cX12_factOf 128 = .ok (.ireturn, 1) := by decide +kernel
theorem dX12_factOf_129 : decode cX12_factOf 129 = .ok (.aload_n 0, 1) := by decide +kernel
theorem dX12_factOf_130 : decode cX12_factOf 130 = .ok (.iload_n 3, 1) := by decide +kernel
theorem dX12_factOf_131 : decode cX12_factOf 131 = .ok (.iconst 3, 1) := by decide +kernel
theorem dX12_factOf_132 : decode cX12_factOf 132 = .ok (.invokevirtual 285, 3) := by decide +kernel
theorem dX12_factOf_135 : decode cX12_factOf 135 = .ok (.bipush 50, 2) := by decide +kernel
theorem dX12_factOf_137 : decode cX12_factOf 137 = .ok (.if_icmp .lt 7, 3) := by decide +kernel
theorem dX12_factOf_140 : decode cX12_factOf 140 = .ok (.iconst 1, 1) := by decide +kernel
theorem dX12_factOf_141 : decode cX12_factOf 141 = .ok (.goto 4, 3) := by decide +kernel
theorem dX12_factOf_144 : decode cX12_factOf 144 = .ok (.iconst 0, 1) := by decide +kernel
theorem dX12_factOf_145 : decode cX12_factOf 145 = .ok (.ireturn, 1) := by decide +kernel
theorem dX12_factOf_146 : decode cX12_factOf 146 = .ok (.aload_n 0, 1) := by decide +kernel
theorem dX12_factOf_147 : decode cX12_factOf 147 = .ok (.iload_n 3, 1) := by decide +kernel
theorem dX12_factOf_148 : decode cX12_factOf 148 = .ok (.invokevirtual 291, 3) := by decide +kernel
theorem dX12_factOf_151 : decode cX12_factOf 151 = .ok (.ifCond .eq 7, 3) := by decide +kernel
theorem dX12_factOf_154 : decode cX12_factOf 154 = .ok (.iconst 1, 1) := by decide +kernel
theorem dX12_factOf_155 : decode cX12_factOf 155 = .ok (.goto 4, 3) := by decide +kernel
theorem dX12_factOf_158 : decode cX12_factOf 158 = .ok (.iconst 0, 1) := by decide +kernel
theorem dX12_factOf_159 : decode cX12_factOf 159 = .ok (.ireturn, 1) := by decide +kernel
theorem dX12_factOf_160 : decode cX12_factOf 160 = .ok (.iload_n 2, 1) := by decide +kernel
theorem dX12_factOf_161 : decode cX12_factOf 161 = .ok (.ireturn, 1) := by decide +kernel
theorem dX12_holdsLine_0 : decode cX12_holdsLine 0 = .ok (.iconst 0, 1) := by decide +kernel
theorem dX12_holdsLine_1 : decode cX12_holdsLine 1 = .ok (.istore 4, 2) := by decide +kernel
theorem dX12_holdsLine_3 : decode cX12_holdsLine 3 = .ok (.sipush 373, 3) := by decide +kernel
theorem dX12_holdsLine_6 : decode cX12_holdsLine 6 = .ok (.iconst 4, 1) := by decide +kernel
theorem dX12_holdsLine_7 : decode cX12_holdsLine 7 = .ok (.iload_n 1, 1) := by decide +kernel
theorem dX12_holdsLine_8 : decode cX12_holdsLine 8 = .ok (.imul, 1) := by decide +kernel
theorem dX12_holdsLine_9 : decode cX12_holdsLine 9 = .ok (.iadd, 1) := by decide +kernel
theorem dX12_holdsLine_10 : decode cX12_holdsLine 10 = .ok (.istore 5, 2) := by decide +kernel
theorem dX12_holdsLine_12 : decode cX12_holdsLine 12 = .ok (.aload_n 0, 1) := by decide +kernel
theorem dX12_holdsLine_13 : decode cX12_holdsLine 13 = .ok (.getfield 13, 3) := by decide +kernel
theorem dX12_holdsLine_16 : decode cX12_holdsLine 16 = .ok (.iload 5, 2) := by decide +kernel
theorem dX12_holdsLine_18 : decode cX12_holdsLine 18 = .ok (.iconst 2, 1) := by decide +kernel
theorem dX12_holdsLine_19 : decode cX12_holdsLine 19 = .ok (.iadd, 1) := by decide +kernel
theorem dX12_holdsLine_20 : decode cX12_holdsLine 20 = .ok (.iaload, 1) := by decide +kernel
theorem dX12_holdsLine_21 : decode cX12_holdsLine 21 = .ok (.istore 6, 2) := by decide +kernel
theorem dX12_holdsLine_23 : decode cX12_holdsLine 23 = .ok (.iload 6, 2) := by decide +kernel
theorem dX12_holdsLine_25 : decode cX12_holdsLine 25 = .ok (.aload_n 0, 1) := by decide +kernel
theorem dX12_holdsLine_26 : decode cX12_holdsLine 26 = .ok (.getfield 13, 3) := by decide +kernel
theorem dX12_holdsLine_29 : decode cX12_holdsLine 29 = .ok (.iload 5, 2) := by decide +kernel
theorem dX12_holdsLine_31 : decode cX12_holdsLine 31 = .ok (.iconst 3, 1) := by decide +kernel
theorem dX12_holdsLine_32 : decode cX12_holdsLine 32 = .ok (.iadd, 1) := by decide +kernel
theorem dX12_holdsLine_33 : decode cX12_holdsLine 33 = .ok (.iaload, 1) := by decide +kernel
theorem dX12_holdsLine_34 : decode cX12_holdsLine 34 = .ok (.if_icmp .ge 237, 3) := by decide +kernel
theorem dX12_holdsLine_37 : decode cX12_holdsLine 37 = .ok (.aload_n 0, 1) := by decide +kernel
theorem dX12_holdsLine_38 : decode cX12_holdsLine 38 = .ok (.getfield 13, 3) := by decide +kernel
theorem dX12_holdsLine_41 : decode cX12_holdsLine 41 = .ok (.sipush 421, 3) := by decide +kernel
theorem dX12_holdsLine_44 : decode cX12_holdsLine 44 = .ok (.iconst 2, 1) := by decide +kernel
theorem dX12_holdsLine_45 : decode cX12_holdsLine 45 = .ok (.iload 6, 2) := by decide +kernel
theorem dX12_holdsLine_47 : decode cX12_holdsLine 47 = .ok (.imul, 1) := by decide +kernel
theorem dX12_holdsLine_48 : decode cX12_holdsLine 48 = .ok (.iadd, 1) := by decide +kernel
theorem dX12_holdsLine_49 : decode cX12_holdsLine 49 = .ok (.iaload, 1) := by decide +kernel
theorem dX12_holdsLine_50 : decode cX12_holdsLine 50 = .ok (.istore 7, 2) := by decide +kernel
theorem dX12_holdsLine_52 : decode cX12_holdsLine 52 = .ok (.iload 7, 2) := by decide +kernel
theorem dX12_holdsLine_54 : decode cX12_holdsLine 54 = .ok (.bipush 11, 2) := by decide +kernel
theorem dX12_holdsLine_56 : decode cX12_holdsLine 56 = .ok (.if_icmp .gt 39, 3) := by decide +kernel
theorem dX12_holdsLine_59 : decode cX12_holdsLine 59 = .ok (.aload_n 0, 1) := by decide +kernel
theorem dX12_holdsLine_60 : decode cX12_holdsLine 60 = .ok (.getfield 39, 3) := by decide +kernel
theorem dX12_holdsLine_63 : decode cX12_holdsLine 63 = .ok (.iload 4, 2) := by decide +kernel
theorem dX12_holdsLine_65 : decode cX12_holdsLine 65 = .ok (.aload_n 0, 1) := by decide +kernel
theorem dX12_holdsLine_66 : decode cX12_holdsLine 66 = .ok (.iload 7, 2) := by decide +kernel
theorem dX12_holdsLine_68 : decode cX12_holdsLine 68 = .ok (.aload_n 0, 1) := by decide +kernel
theorem dX12_holdsLine_69 : decode cX12_holdsLine 69 = .ok (.getfield 13, 3) := by decide +kernel
theorem dX12_holdsLine_72 : decode cX12_holdsLine 72 = .ok (.sipush 421, 3) := by decide +kernel
theorem dX12_holdsLine_75 : decode cX12_holdsLine 75 = .ok (.iconst 2, 1) := by decide +kernel
theorem dX12_holdsLine_76 : decode cX12_holdsLine 76 = .ok (.iload 6, 2) := by decide +kernel
theorem dX12_holdsLine_78 : decode cX12_holdsLine 78 = .ok (.imul, 1) := by decide +kernel
theorem dX12_holdsLine_79 : decode cX12_holdsLine 79 = .ok (.iadd, 1) := by decide +kernel
theorem dX12_holdsLine_80 : decode cX12_holdsLine 80 = .ok (.iconst 1, 1) := by decide +kernel
theorem dX12_holdsLine_81 : decode cX12_holdsLine 81 = .ok (.iadd, 1) := by decide +kernel
theorem dX12_holdsLine_82 : decode cX12_holdsLine 82 = .ok (.iaload, 1) := by decide +kernel
theorem dX12_holdsLine_83 : decode cX12_holdsLine 83 = .ok (.iload_n 2, 1) := by decide +kernel
theorem dX12_holdsLine_84 : decode cX12_holdsLine 84 = .ok (.iload_n 3, 1) := by decide +kernel
theorem dX12_holdsLine_85 : decode cX12_holdsLine 85 = .ok (.invokevirtual 294, 3) := by decide +kernel
theorem dX12_holdsLine_88 : decode cX12_holdsLine 88 = .ok (.iastore, 1) := by decide +kernel
theorem dX12_holdsLine_89 : decode cX12_holdsLine 89 = .ok (.iinc 4 1, 3) := by decide +kernel
theorem dX12_holdsLine_92 : decode cX12_holdsLine 92 = .ok (.goto 173, 3) := by decide +kernel
theorem dX12_holdsLine_95 : decode cX12_holdsLine 95 = .ok (.iload 7, 2) := by decide +kernel
theorem dX12_holdsLine_97 : decode cX12_holdsLine 97 = .ok (.bipush 15, 2) := by decide +kernel
theorem dX12_holdsLine_99 : decode cX12_holdsLine 99 = .ok (.if_icmp .ne 26, 3) := by decide +kernel
theorem dX12_holdsLine_102 : decode cX12_holdsLine 102 = .ok (.aload_n 0, 1) := by decide +kernel
theorem dX12_holdsLine_103 : decode cX12_holdsLine 103 = .ok (.getfield 39, 3) := by decide +kernel
theorem dX12_holdsLine_106 : decode cX12_holdsLine 106 = .ok (.iload 4, 2) := by decide +kernel
theorem dX12_holdsLine_108 : decode cX12_holdsLine 108 = .ok (.iconst 1, 1) := by decide +kernel
theorem dX12_holdsLine_109 : decode cX12_holdsLine 109 = .ok (.isub, 1) := by decide +kernel
theorem dX12_holdsLine_110 : decode cX12_holdsLine 110 = .ok (.iconst 1, 1) := by decide +kernel
theorem dX12_holdsLine_111 : decode cX12_holdsLine 111 = .ok (.aload_n 0, 1) := by decide +kernel
theorem dX12_holdsLine_112 : decode cX12_holdsLine 112 = .ok (.getfield 39, 3) := by decide +kernel
theorem dX12_holdsLine_115 : decode cX12_holdsLine 115 = .ok (.iload 4, 2) := by decide +kernel
theorem dX12_holdsLine_117 : decode cX12_holdsLine 117 = .ok (.iconst 1, 1) := by decide +kernel
theorem dX12_holdsLine_118 : decode cX12_holdsLine 118 = .ok (.isub, 1) := by decide +kernel
theorem dX12_holdsLine_119 : decode cX12_holdsLine 119 = .ok (.iaload, 1) := by decide +kernel
theorem dX12_holdsLine_120 : decode cX12_holdsLine 120 = .ok (.isub, 1) := by decide +kernel
theorem dX12_holdsLine_121 : decode cX12_holdsLine 121 = .ok (.iastore, 1) := by decide +kernel
theorem dX12_holdsLine_122 : decode cX12_holdsLine 122 = .ok (.goto 143, 3) := by decide +kernel
theorem dX12_holdsLine_125 : decode cX12_holdsLine 125 = .ok (.iinc 4 (-1), 3) := by decide +kernel
theorem dX12_holdsLine_128 : decode cX12_holdsLine 128 = .ok (.aload_n 0, 1) := by decide +kernel
theorem dX12_holdsLine_129 : decode cX12_holdsLine 129 = .ok (.getfield 39, 3) := by decide +kernel
theorem dX12_holdsLine_132 : decode cX12_holdsLine 132 = .ok (.iload 4, 2) := by decide +kernel
theorem dX12_holdsLine_134 : decode cX12_holdsLine 134 = .ok (.iconst 1, 1) := by decide +kernel
theorem dX12_holdsLine_135 : decode cX12_holdsLine 135 = .ok (.isub, 1) := by decide +kernel
theorem dX12_holdsLine_136 : decode cX12_holdsLine 136 = .ok (.iaload, 1) := by decide +kernel
theorem dX12_holdsLine_137 : decode cX12_holdsLine 137 = .ok (.istore 8, 2) := by decide +kernel
theorem dX12_holdsLine_139 : decode cX12_holdsLine 139 = .ok (.aload_n 0, 1) := by decide +kernel
theorem dX12_holdsLine_140 : decode cX12_holdsLine 140 = .ok (.getfield 39, 3) := by decide +kernel
theorem dX12_holdsLine_143 : decode cX12_holdsLine 143 = .ok (.iload 4, 2) := by decide +kernel
theorem dX12_holdsLine_145 : decode cX12_holdsLine 145 = .ok (.iaload, 1) := by decide +kernel
theorem dX12_holdsLine_146 : decode cX12_holdsLine 146 = .ok (.istore 9, 2) := by decide +kernel
theorem dX12_holdsLine_148 : decode cX12_holdsLine 148 = .ok (.iload 7, 2) := by decide +kernel
theorem dX12_holdsLine_150 : decode cX12_holdsLine 150 = .ok (.bipush 13, 2) := by decide +kernel
theorem dX12_holdsLine_152 : decode cX12_holdsLine 152 = .ok (.if_icmp .ne 18, 3) := by decide +kernel
theorem dX12_holdsLine_155 : decode cX12_holdsLine 155 = .ok (.iload 8, 2) := by decide +kernel
theorem dX12_holdsLine_157 : decode cX12_holdsLine 157 = .ok (.iload 9, 2) := by decide +kernel
theorem dX12_holdsLine_159 : decode cX12_holdsLine 159 = .ok (.if_icmp .ge 7, 3) := by decide +kernel
theorem dX12_holdsLine_162 : decode cX12_holdsLine 162 = .ok (.iconst 1, 1) := by decide +kernel
theorem dX12_holdsLine_163 : decode cX12_holdsLine 163 = .ok (.goto 66, 3) := by decide +kernel
theorem dX12_holdsLine_166 : decode cX12_holdsLine 166 = .ok (.iconst 0, 1) := by decide +kernel
theorem dX12_holdsLine_167 : decode cX12_holdsLine 167 = .ok (.goto 62, 3) := by decide +kernel
theorem dX12_holdsLine_170 : decode cX12_holdsLine 170 = .ok (.iload 7, 2) := by decide +kernel
theorem dX12_holdsLine_172 : decode cX12_holdsLine 172 = .ok (.bipush 14, 2) := by decide +kernel
theorem dX12_holdsLine_174 : decode cX12_holdsLine 174 = .ok (.if_icmp .ne 18, 3) := by decide +kernel
theorem dX12_holdsLine_177 : decode cX12_holdsLine 177 = .ok (.iload 8, 2) := by decide +kernel
theorem dX12_holdsLine_179 : decode cX12_holdsLine 179 = .ok (.iload 9, 2) := by decide +kernel
theorem dX12_holdsLine_181 : decode cX12_holdsLine 181 = .ok (.if_icmp .le 7, 3) := by decide +kernel
theorem dX12_holdsLine_184 : decode cX12_holdsLine 184 = .ok (.iconst 1, 1) := by decide +kernel
theorem dX12_holdsLine_185 : decode cX12_holdsLine 185 = .ok (.goto 44, 3) := by decide +kernel
theorem dX12_holdsLine_188 : decode cX12_holdsLine 188 = .ok (.iconst 0, 1) := by decide +kernel
theorem dX12_holdsLine_189 : decode cX12_holdsLine 189 = .ok (.goto 40, 3) := by decide +kernel
theorem dX12_holdsLine_192 : decode cX12_holdsLine 192 = .ok (.iload 7, 2) := by decide +kernel
theorem dX12_holdsLine_194 : decode cX12_holdsLine 194 = .ok (.bipush 16, 2) := by decide +kernel
theorem dX12_holdsLine_196 : decode cX12_holdsLine 196 = .ok (.if_icmp .ne 20, 3) := by decide +kernel
theorem dX12_holdsLine_199 : decode cX12_holdsLine 199 = .ok (.iload 8, 2) := by decide +kernel
theorem dX12_holdsLine_201 : decode cX12_holdsLine 201 = .ok (.iload 9, 2) := by decide +kernel
theorem dX12_holdsLine_203 : decode cX12_holdsLine 203 = .ok (.iadd, 1) := by decide +kernel
theorem dX12_holdsLine_204 : decode cX12_holdsLine 204 = .ok (.iconst 2, 1) := by decide +kernel
theorem dX12_holdsLine_205 : decode cX12_holdsLine 205 = .ok (.if_icmp .ne 7, 3) := by decide +kernel
theorem dX12_holdsLine_208 : decode cX12_holdsLine 208 = .ok (.iconst 1, 1) := by decide +kernel
theorem dX12_holdsLine_209 : decode cX12_holdsLine 209 = .ok (.goto 20, 3) := by decide +kernel
theorem dX12_holdsLine_212 : decode cX12_holdsLine 212 = .ok (.iconst 0, 1) := by decide +kernel
theorem dX12_holdsLine_213 : decode cX12_holdsLine 213 = .ok (.goto 16, 3) := by decide +kernel
theorem dX12_holdsLine_216 : decode cX12_holdsLine 216 = .ok (.iload 8, 2) := by decide +kernel
theorem dX12_holdsLine_218 : decode cX12_holdsLine 218 = .ok (.iload 9, 2) := by decide +kernel
theorem dX12_holdsLine_220 : decode cX12_holdsLine 220 = .ok (.iadd, 1) := by decide +kernel
theorem dX12_holdsLine_221 : decode cX12_holdsLine 221 = .ok (.ifCond .le 7, 3) := by decide +kernel
theorem dX12_holdsLine_224 : decode cX12_holdsLine 224 = .ok (.iconst 1, 1) := by decide +kernel
theorem dX12_holdsLine_225 : decode cX12_holdsLine 225 = .ok (.goto 4, 3) := by decide +kernel
theorem dX12_holdsLine_228 : decode cX12_holdsLine 228 = .ok (.iconst 0, 1) := by decide +kernel
theorem dX12_holdsLine_229 : decode cX12_holdsLine 229 = .ok (.istore 10, 2) := by decide +kernel
theorem dX12_holdsLine_231 : decode cX12_holdsLine 231 = .ok (.aload_n 0, 1) := by decide +kernel
theorem dX12_holdsLine_232 : decode cX12_holdsLine 232 = .ok (.getfield 39, 3) := by decide +kernel
theorem dX12_holdsLine_235 : decode cX12_holdsLine 235 = .ok (.iload 4, 2) := by decide +kernel
theorem dX12_holdsLine_237 : decode cX12_holdsLine 237 = .ok (.iconst 1, 1) := by decide +kernel
theorem dX12_holdsLine_238 : decode cX12_holdsLine 238 = .ok (.isub, 1) := by decide +kernel
theorem dX12_holdsLine_239 : decode cX12_holdsLine 239 = .ok (.iload 7, 2) := by decide +kernel
theorem dX12_holdsLine_241 : decode cX12_holdsLine 241 = .ok (.bipush 12, 2) := by decide +kernel
theorem dX12_holdsLine_243 : decode cX12_holdsLine 243 = .ok (.if_icmp .ne 11, 3) := by decide +kernel
theorem dX12_holdsLine_246 : decode cX12_holdsLine 246 = .ok (.iload 8, 2) := by decide +kernel
theorem dX12_holdsLine_248 : decode cX12_holdsLine 248 = .ok (.iload 9, 2) := by decide +kernel
theorem dX12_holdsLine_250 : decode cX12_holdsLine 250 = .ok (.iadd, 1) := by decide +kernel
theorem dX12_holdsLine_251 : decode cX12_holdsLine 251 = .ok (.goto 13, 3) := by decide +kernel
theorem dX12_holdsLine_254 : decode cX12_holdsLine 254 = .ok (.iload 10, 2) := by decide +kernel
theorem dX12_holdsLine_256 : decode cX12_holdsLine 256 = .ok (.ifCond .eq 7, 3) := by decide +kernel
theorem dX12_holdsLine_259 : decode cX12_holdsLine 259 = .ok (.iconst 1, 1) := by decide +kernel
theorem dX12_holdsLine_260 : decode cX12_holdsLine 260 = .ok (.goto 4, 3) := by decide +kernel
theorem dX12_holdsLine_263 : decode cX12_holdsLine 263 = .ok (.iconst 0, 1) := by decide +kernel
theorem dX12_holdsLine_264 : decode cX12_holdsLine 264 = .ok (.iastore, 1) := by decide +kernel
theorem dX12_holdsLine_265 : decode cX12_holdsLine 265 = .ok (.iinc 6 1, 3) := by decide +kernel
theorem dX12_holdsLine_268 : decode cX12_holdsLine 268 = .ok (.goto (-245), 3) := by decide +kernel
theorem dX12_holdsLine_271 : decode cX12_holdsLine 271 = .ok (.iload 4, 2) := by decide +kernel
theorem dX12_holdsLine_273 : decode cX12_holdsLine 273 = .ok (.ifCond .eq 13, 3) := by decide +kernel
theorem dX12_holdsLine_276 : decode cX12_holdsLine 276 = .ok (.aload_n 0, 1) := by decide +kernel
theorem dX12_holdsLine_277 : decode cX12_holdsLine 277 = .ok (.getfield 39, 3) := by decide +kernel
theorem dX12_holdsLine_280 : decode cX12_holdsLine 280 = .ok (.iconst 0, 1) := by decide +kernel
theorem dX12_holdsLine_281 : decode cX12_holdsLine 281 = .ok (.iaload, 1) := by decide +kernel
theorem dX12_holdsLine_282 : decode cX12_holdsLine 282 = .ok (.iconst 1, 1) := by decide +kernel
theorem dX12_holdsLine_283 : decode cX12_holdsLine 283 = .ok (.if_icmp .ne 7, 3) := by decide +kernel
theorem dX12_holdsLine_286 : decode cX12_holdsLine 286 = .ok (.iconst 1, 1) := by decide +kernel
theorem dX12_holdsLine_287 : decode cX12_holdsLine 287 = .ok (.goto 4, 3) := by decide +kernel
theorem dX12_holdsLine_290 : decode cX12_holdsLine 290 = .ok (.iconst 0, 1) := by decide +kernel
theorem dX12_holdsLine_291 : decode cX12_holdsLine 291 = .ok (.ireturn, 1) := by decide +kernel
theorem dX12_sumOf_0 : decode cX12_sumOf 0 = .ok (.iconst 0, 1) := by decide +kernel
theorem dX12_sumOf_1 : decode cX12_sumOf 1 = .ok (.istore 4, 2) := by decide +kernel
theorem dX12_sumOf_3 : decode cX12_sumOf 3 = .ok (.iconst 0, 1) := by decide +kernel
theorem dX12_sumOf_4 : decode cX12_sumOf 4 = .ok (.istore 5, 2) := by decide +kernel
theorem dX12_sumOf_6 : decode cX12_sumOf 6 = .ok (.aload_n 0, 1) := by decide +kernel
theorem dX12_sumOf_7 : decode cX12_sumOf 7 = .ok (.getfield 13, 3) := by decide +kernel
theorem dX12_sumOf_10 : decode cX12_sumOf 10 = .ok (.iconst 5, 1) := by decide +kernel
theorem dX12_sumOf_11 : decode cX12_sumOf 11 = .ok (.iaload, 1) := by decide +kernel
theorem dX12_sumOf_12 : decode cX12_sumOf 12 = .ok (.iconst 1, 1) := by decide +kernel
theorem dX12_sumOf_13 : decode cX12_sumOf 13 = .ok (.if_icmp .ne 70, 3) := by decide +kernel
theorem dX12_sumOf_16 : decode cX12_sumOf 16 = .ok (.iload 5, 2) := by decide +kernel
theorem dX12_sumOf_18 : decode cX12_sumOf 18 = .ok (.aload_n 0, 1) := by decide +kernel
theorem dX12_sumOf_19 : decode cX12_sumOf 19 = .ok (.getfield 13, 3) := by decide +kernel
theorem dX12_sumOf_22 : decode cX12_sumOf 22 = .ok (.sipush 372, 3) := by decide +kernel
theorem dX12_sumOf_25 : decode cX12_sumOf 25 = .ok (.iaload, 1) := by decide +kernel
theorem dX12_sumOf_26 : decode cX12_sumOf 26 = .ok (.if_icmp .ge 57, 3) := by decide +kernel
theorem dX12_sumOf_29 : decode cX12_sumOf 29 = .ok (.aload_n 0, 1) := by decide +kernel
theorem dX12_sumOf_30 : decode cX12_sumOf 30 = .ok (.getfield 13, 3) := by decide +kernel
theorem dX12_sumOf_33 : decode cX12_sumOf 33 = .ok (.sipush 373, 3) := by decide +kernel
theorem dX12_sumOf_36 : decode cX12_sumOf 36 = .ok (.iconst 4, 1) := by decide +kernel
theorem dX12_sumOf_37 : decode cX12_sumOf 37 = .ok (.iload 5, 2) := by decide +kernel
theorem dX12_sumOf_39 : decode cX12_sumOf 39 = .ok (.imul, 1) := by decide +kernel
theorem dX12_sumOf_40 : decode cX12_sumOf 40 = .ok (.iadd, 1) := by decide +kernel
theorem dX12_sumOf_41 : decode cX12_sumOf 41 = .ok (.iaload, 1) := by decide +kernel
theorem dX12_sumOf_42 : decode cX12_sumOf 42 = .ok (.iload_n 1, 1) := by decide +kernel
theorem dX12_sumOf_43 : decode cX12_sumOf 43 = .ok (.if_icmp .ne 34, 3) := by decide +kernel
theorem dX12_sumOf_46 : decode cX12_sumOf 46 = .ok (.aload_n 0, 1) := by decide +kernel
theorem dX12_sumOf_47 : decode cX12_sumOf 47 = .ok (.iload 5, 2) := by decide +kernel
theorem dX12_sumOf_49 : decode cX12_sumOf 49 = .ok (.iload_n 2, 1) := by decide +kernel
theorem dX12_sumOf_50 : decode cX12_sumOf 50 = .ok (.iload_n 3, 1) := by decide +kernel
theorem dX12_sumOf_51 : decode cX12_sumOf 51 = .ok (.invokevirtual 298, 3) := by decide +kernel
theorem dX12_sumOf_54 : decode cX12_sumOf 54 = .ok (.ifCond .eq 23, 3) := by decide +kernel
theorem dX12_sumOf_57 : decode cX12_sumOf 57 = .ok (.iload 4, 2) := by decide +kernel
theorem dX12_sumOf_59 : decode cX12_sumOf 59 = .ok (.aload_n 0, 1) := by decide +kernel
theorem dX12_sumOf_60 : decode cX12_sumOf 60 = .ok (.getfield 13, 3) := by decide +kernel
theorem dX12_sumOf_63 : decode cX12_sumOf 63 = .ok (.sipush 373, 3) := by decide +kernel
theorem dX12_sumOf_66 : decode cX12_sumOf 66 = .ok (.iconst 4, 1) := by decide +kernel
theorem dX12_sumOf_67 : decode cX12_sumOf 67 = .ok (.iload 5, 2) := by decide +kernel
theorem dX12_sumOf_69 : decode cX12_sumOf 69 = .ok (.imul, 1) := by decide +kernel
theorem dX12_sumOf_70 : decode cX12_sumOf 70 = .ok (.iadd, 1) := by decide +kernel
theorem dX12_sumOf_71 : decode cX12_sumOf 71 = .ok (.iconst 1, 1) := by decide +kernel
theorem dX12_sumOf_72 : decode cX12_sumOf 72 = .ok (.iadd, 1) := by decide +kernel
theorem dX12_sumOf_73 : decode cX12_sumOf 73 = .ok (.iaload, 1) := by decide +kernel
theorem dX12_sumOf_74 : decode cX12_sumOf 74 = .ok (.iadd, 1) := by decide +kernel
theorem dX12_sumOf_75 : decode cX12_sumOf 75 = .ok (.istore 4, 2) := by decide +kernel
theorem dX12_sumOf_77 : decode cX12_sumOf 77 = .ok (.iinc 5 1, 3) := by decide +kernel
theorem dX12_sumOf_80 : decode cX12_sumOf 80 = .ok (.goto (-74), 3) := by decide +kernel
theorem dX12_sumOf_83 : decode cX12_sumOf 83 = .ok (.iload 4, 2) := by decide +kernel
theorem dX12_sumOf_85 : decode cX12_sumOf 85 = .ok (.ireturn, 1) := by decide +kernel
theorem dX12_ownOf_0 : decode cX12_ownOf 0 = .ok (.aload_n 0, 1) := by decide +kernel
theorem dX12_ownOf_1 : decode cX12_ownOf 1 = .ok (.iload_n 1, 1) := by decide +kernel
theorem dX12_ownOf_2 : decode cX12_ownOf 2 = .ok (.iload_n 2, 1) := by decide +kernel
theorem dX12_ownOf_3 : decode cX12_ownOf 3 = .ok (.invokevirtual 288, 3) := by decide +kernel
theorem dX12_ownOf_6 : decode cX12_ownOf 6 = .ok (.istore_n 3, 1) := by decide +kernel
theorem dX12_ownOf_7 : decode cX12_ownOf 7 = .ok (.iload_n 3, 1) := by decide +kernel
theorem dX12_ownOf_8 : decode cX12_ownOf 8 = .ok (.ifCond .ne 7, 3) := by decide +kernel
theorem dX12_ownOf_11 : decode cX12_ownOf 11 = .ok (.iconst 0, 1) := by decide +kernel
theorem dX12_ownOf_12 : decode cX12_ownOf 12 = .ok (.goto 37, 3) := by decide +kernel
theorem dX12_ownOf_15 : decode cX12_ownOf 15 = .ok (.iconst 0, 1) := by decide +kernel
theorem dX12_ownOf_16 : decode cX12_ownOf 16 = .ok (.iload_n 3, 1) := by decide +kernel
theorem dX12_ownOf_17 : decode cX12_ownOf 17 = .ok (.aload_n 0, 1) := by decide +kernel
theorem dX12_ownOf_18 : decode cX12_ownOf 18 = .ok (.iload_n 1, 1) := by decide +kernel
theorem dX12_ownOf_19 : decode cX12_ownOf 19 = .ok (.iconst 0, 1) := by decide +kernel
theorem dX12_ownOf_20 : decode cX12_ownOf 20 = .ok (.invokevirtual 285, 3) := by decide +kernel
theorem dX12_ownOf_23 : decode cX12_ownOf 23 = .ok (.imul, 1) := by decide +kernel
theorem dX12_ownOf_24 : decode cX12_ownOf 24 = .ok (.aload_n 0, 1) := by decide +kernel
theorem dX12_ownOf_25 : decode cX12_ownOf 25 = .ok (.iload_n 1, 1) := by decide +kernel
theorem dX12_ownOf_26 : decode cX12_ownOf 26 = .ok (.iconst 1, 1) := by decide +kernel
theorem dX12_ownOf_27 : decode cX12_ownOf 27 = .ok (.invokevirtual 285, 3) := by decide +kernel
theorem dX12_ownOf_30 : decode cX12_ownOf 30 = .ok (.iadd, 1) := by decide +kernel
theorem dX12_ownOf_31 : decode cX12_ownOf 31 = .ok (.aload_n 0, 1) := by decide +kernel
theorem dX12_ownOf_32 : decode cX12_ownOf 32 = .ok (.iconst 0, 1) := by decide +kernel
theorem dX12_ownOf_33 : decode cX12_ownOf 33 = .ok (.iload_n 1, 1) := by decide +kernel
theorem dX12_ownOf_34 : decode cX12_ownOf 34 = .ok (.iload_n 2, 1) := by decide +kernel
theorem dX12_ownOf_35 : decode cX12_ownOf 35 = .ok (.invokevirtual 301, 3) := by decide +kernel
theorem dX12_ownOf_38 : decode cX12_ownOf 38 = .ok (.iadd, 1) := by decide +kernel
theorem dX12_ownOf_39 : decode cX12_ownOf 39 = .ok (.aload_n 0, 1) := by decide +kernel
theorem dX12_ownOf_40 : decode cX12_ownOf 40 = .ok (.iload_n 1, 1) := by decide +kernel
theorem dX12_ownOf_41 : decode cX12_ownOf 41 = .ok (.iconst 2, 1) := by decide +kernel
theorem dX12_ownOf_42 : decode cX12_ownOf 42 = .ok (.invokevirtual 285, 3) := by decide +kernel
theorem dX12_ownOf_45 : decode cX12_ownOf 45 = .ok (.isub, 1) := by decide +kernel
theorem dX12_ownOf_46 : decode cX12_ownOf 46 = .ok (.invokestatic 305, 3) := by decide +kernel
theorem dX12_ownOf_49 : decode cX12_ownOf 49 = .ok (.ireturn, 1) := by decide +kernel
theorem dX12_fallsBy_0 : decode cX12_fallsBy 0 = .ok (.bipush 10, 2) := by decide +kernel
theorem dX12_fallsBy_2 : decode cX12_fallsBy 2 = .ok (.aload_n 0, 1) := by decide +kernel
theorem dX12_fallsBy_3 : decode cX12_fallsBy 3 = .ok (.getfield 13, 3) := by decide +kernel
theorem dX12_fallsBy_6 : decode cX12_fallsBy 6 = .ok (.bipush 7, 2) := by decide +kernel
theorem dX12_fallsBy_8 : decode cX12_fallsBy 8 = .ok (.iaload, 1) := by decide +kernel
theorem dX12_fallsBy_9 : decode cX12_fallsBy 9 = .ok (.isub, 1) := by decide +kernel
theorem dX12_fallsBy_10 : decode cX12_fallsBy 10 = .ok (.aload_n 0, 1) := by decide +kernel
theorem dX12_fallsBy_11 : decode cX12_fallsBy 11 = .ok (.iconst 1, 1) := by decide +kernel
theorem dX12_fallsBy_12 : decode cX12_fallsBy 12 = .ok (.iload_n 1, 1) := by decide +kernel
theorem dX12_fallsBy_13 : decode cX12_fallsBy 13 = .ok (.iconst 0, 1) := by decide +kernel
theorem dX12_fallsBy_14 : decode cX12_fallsBy 14 = .ok (.invokevirtual 301, 3) := by decide +kernel
theorem dX12_fallsBy_17 : decode cX12_fallsBy 17 = .ok (.iadd, 1) := by decide +kernel
theorem dX12_fallsBy_18 : decode cX12_fallsBy 18 = .ok (.ireturn, 1) := by decide +kernel
theorem dX12_passesOn_0 : decode cX12_passesOn 0 = .ok (.aload_n 0, 1) := by decide +kernel
theorem dX12_passesOn_1 : decode cX12_passesOn 1 = .ok (.getfield 13, 3) := by decide +kernel
theorem dX12_passesOn_4 : decode cX12_passesOn 4 = .ok (.iconst 5, 1) := by decide +kernel
theorem dX12_passesOn_5 : decode cX12_passesOn 5 = .ok (.iaload, 1) := by decide +kernel
theorem dX12_passesOn_6 : decode cX12_passesOn 6 = .ok (.ifCond .ne 8, 3) := by decide +kernel
theorem dX12_passesOn_9 : decode cX12_passesOn 9 = .ok (.bipush 50, 2) := by decide +kernel
theorem dX12_passesOn_11 : decode cX12_passesOn 11 = .ok (.goto 15, 3) := by decide +kernel
theorem dX12_passesOn_14 : decode cX12_passesOn 14 = .ok (.bipush 99, 2) := by decide +kernel
theorem dX12_passesOn_16 : decode cX12_passesOn 16 = .ok (.aload_n 0, 1) := by decide +kernel
theorem dX12_passesOn_17 : decode cX12_passesOn 17 = .ok (.iconst 2, 1) := by decide +kernel
theorem dX12_passesOn_18 : decode cX12_passesOn 18 = .ok (.iload_n 1, 1) := by decide +kernel
theorem dX12_passesOn_19 : decode cX12_passesOn 19 = .ok (.iload_n 2, 1) := by decide +kernel
theorem dX12_passesOn_20 : decode cX12_passesOn 20 = .ok (.invokevirtual 301, 3) := by decide +kernel
theorem dX12_passesOn_23 : decode cX12_passesOn 23 = .ok (.invokestatic 310, 3) := by decide +kernel
theorem dX12_passesOn_26 : decode cX12_passesOn 26 = .ok (.ireturn, 1) := by decide +kernel
theorem dX12_lays_0 : decode cX12_lays 0 = .ok (.iconst 0, 1) := by decide +kernel
theorem dX12_lays_1 : decode cX12_lays 1 = .ok (.istore_n 2, 1) := by decide +kernel
theorem dX12_lays_2 : decode cX12_lays 2 = .ok (.iload_n 2, 1) := by decide +kernel
theorem dX12_lays_3 : decode cX12_lays 3 = .ok (.aload_n 0, 1) := by decide +kernel
theorem dX12_lays_4 : decode cX12_lays 4 = .ok (.invokevirtual 92, 3) := by decide +kernel
theorem dX12_lays_7 : decode cX12_lays 7 = .ok (.if_icmp .ge 21, 3) := by decide +kernel
theorem dX12_lays_10 : decode cX12_lays 10 = .ok (.aload_n 0, 1) := by decide +kernel
theorem dX12_lays_11 : decode cX12_lays 11 = .ok (.getfield 42, 3) := by decide +kernel
theorem dX12_lays_14 : decode cX12_lays 14 = .ok (.iload_n 2, 1) := by decide +kernel
theorem dX12_lays_15 : decode cX12_lays 15 = .ok (.aload_n 0, 1) := by decide +kernel
theorem dX12_lays_16 : decode cX12_lays 16 = .ok (.iload_n 2, 1) := by decide +kernel
theorem dX12_lays_17 : decode cX12_lays 17 = .ok (.iload_n 1, 1) := by decide +kernel
theorem dX12_lays_18 : decode cX12_lays 18 = .ok (.invokevirtual 313, 3) := by decide +kernel
theorem dX12_lays_21 : decode cX12_lays 21 = .ok (.iastore, 1) := by decide +kernel
theorem dX12_lays_22 : decode cX12_lays 22 = .ok (.iinc 2 1, 3) := by decide +kernel
theorem dX12_lays_25 : decode cX12_lays 25 = .ok (.goto (-23), 3) := by decide +kernel
theorem dX12_lays_28 : decode cX12_lays 28 = .ok (.iconst 0, 1) := by decide +kernel
theorem dX12_lays_29 : decode cX12_lays 29 = .ok (.istore_n 2, 1) := by decide +kernel
theorem dX12_lays_30 : decode cX12_lays 30 = .ok (.iload_n 2, 1) := by decide +kernel
theorem dX12_lays_31 : decode cX12_lays 31 = .ok (.aload_n 0, 1) := by decide +kernel
theorem dX12_lays_32 : decode cX12_lays 32 = .ok (.invokevirtual 92, 3) := by decide +kernel
theorem dX12_lays_35 : decode cX12_lays 35 = .ok (.if_icmp .ge 97, 3) := by decide +kernel
theorem dX12_lays_38 : decode cX12_lays 38 = .ok (.aload_n 0, 1) := by decide +kernel
theorem dX12_lays_39 : decode cX12_lays 39 = .ok (.iload_n 2, 1) := by decide +kernel
theorem dX12_lays_40 : decode cX12_lays 40 = .ok (.iload_n 1, 1) := by decide +kernel
theorem dX12_lays_41 : decode cX12_lays 41 = .ok (.invokevirtual 313, 3) := by decide +kernel
theorem dX12_lays_44 : decode cX12_lays 44 = .ok (.istore_n 3, 1) := by decide +kernel
theorem dX12_lays_45 : decode cX12_lays 45 = .ok (.iload_n 3, 1) := by decide +kernel
theorem dX12_lays_46 : decode cX12_lays 46 = .ok (.aload_n 0, 1) := by decide +kernel
theorem dX12_lays_47 : decode cX12_lays 47 = .ok (.iload_n 2, 1) := by decide +kernel
theorem dX12_lays_48 : decode cX12_lays 48 = .ok (.iload_n 1, 1) := by decide +kernel
theorem dX12_lays_49 : decode cX12_lays 49 = .ok (.invokevirtual 316, 3) := by decide +kernel
theorem dX12_lays_52 : decode cX12_lays 52 = .ok (.imul, 1) := by decide +kernel
theorem dX12_lays_53 : decode cX12_lays 53 = .ok (.bipush 100, 2) := by decide +kernel
theorem dX12_lays_55 : decode cX12_lays 55 = .ok (.idiv, 1) := by decide +kernel
theorem dX12_lays_56 : decode cX12_lays 56 = .ok (.istore 4, 2) := by decide +kernel
theorem dX12_lays_58 : decode cX12_lays 58 = .ok (.aload_n 0, 1) := by decide +kernel
theorem dX12_lays_59 : decode cX12_lays 59 = .ok (.iload_n 2, 1) := by decide +kernel
theorem dX12_lays_60 : decode cX12_lays 60 = .ok (.iconst 4, 1) := by decide +kernel
theorem dX12_lays_61 : decode cX12_lays 61 = .ok (.invokevirtual 285, 3) := by decide +kernel
theorem dX12_lays_64 : decode cX12_lays 64 = .ok (.istore 5, 2) := by decide +kernel
theorem dX12_lays_66 : decode cX12_lays 66 = .ok (.iload 5, 2) := by decide +kernel
theorem dX12_lays_68 : decode cX12_lays 68 = .ok (.ifCond .le 25, 3) := by decide +kernel
theorem dX12_lays_71 : decode cX12_lays 71 = .ok (.aload_n 0, 1) := by decide +kernel
theorem dX12_lays_72 : decode cX12_lays 72 = .ok (.getfield 42, 3) := by decide +kernel
theorem dX12_lays_75 : decode cX12_lays 75 = .ok (.aload_n 0, 1) := by decide +kernel
theorem dX12_lays_76 : decode cX12_lays 76 = .ok (.getfield 13, 3) := by decide +kernel
theorem dX12_lays_79 : decode cX12_lays 79 = .ok (.bipush 24, 2) := by decide +kernel
theorem dX12_lays_81 : decode cX12_lays 81 = .ok (.iload 5, 2) := by decide +kernel
theorem dX12_lays_83 : decode cX12_lays 83 = .ok (.iadd, 1) := by decide +kernel
theorem dX12_lays_84 : decode cX12_lays 84 = .ok (.iconst 1, 1) := by decide +kernel
theorem dX12_lays_85 : decode cX12_lays 85 = .ok (.isub, 1) := by decide +kernel
theorem dX12_lays_86 : decode cX12_lays 86 = .ok (.iaload, 1) := by decide +kernel
theorem dX12_lays_87 : decode cX12_lays 87 = .ok (.dup2, 1) := by decide +kernel
theorem dX12_lays_88 : decode cX12_lays 88 = .ok (.iaload, 1) := by decide +kernel
theorem dX12_lays_89 : decode cX12_lays 89 = .ok (.iload 4, 2) := by decide +kernel
theorem dX12_lays_91 : decode cX12_lays 91 = .ok (.iadd, 1) := by decide +kernel
theorem dX12_lays_92 : decode cX12_lays 92 = .ok (.iastore, 1) := by decide +kernel
theorem dX12_lays_93 : decode cX12_lays 93 = .ok (.iload 5, 2) := by decide +kernel
theorem dX12_lays_95 : decode cX12_lays 95 = .ok (.aload_n 0, 1) := by decide +kernel
theorem dX12_lays_96 : decode cX12_lays 96 = .ok (.invokevirtual 92, 3) := by decide +kernel
theorem dX12_lays_99 : decode cX12_lays 99 = .ok (.iconst 1, 1) := by decide +kernel
theorem dX12_lays_100 : decode cX12_lays 100 = .ok (.isub, 1) := by decide +kernel
theorem dX12_lays_101 : decode cX12_lays 101 = .ok (.if_icmp .ge 25, 3) := by decide +kernel
theorem dX12_lays_104 : decode cX12_lays 104 = .ok (.aload_n 0, 1) := by decide +kernel
theorem dX12_lays_105 : decode cX12_lays 105 = .ok (.getfield 42, 3) := by decide +kernel
theorem dX12_lays_108 : decode cX12_lays 108 = .ok (.aload_n 0, 1) := by decide +kernel
theorem dX12_lays_109 : decode cX12_lays 109 = .ok (.getfield 13, 3) := by decide +kernel
theorem dX12_lays_112 : decode cX12_lays 112 = .ok (.bipush 24, 2) := by decide +kernel
theorem dX12_lays_114 : decode cX12_lays 114 = .ok (.iload 5, 2) := by decide +kernel
theorem dX12_lays_116 : decode cX12_lays 116 = .ok (.iadd, 1) := by decide +kernel
theorem dX12_lays_117 : decode cX12_lays 117 = .ok (.iconst 1, 1) := by decide +kernel
theorem dX12_lays_118 : decode cX12_lays 118 = .ok (.iadd, 1) := by decide +kernel
theorem dX12_lays_119 : decode cX12_lays 119 = .ok (.iaload, 1) := by decide +kernel
theorem dX12_lays_120 : decode cX12_lays 120 = .ok (.dup2, 1) := by decide +kernel
theorem dX12_lays_121 : decode cX12_lays 121 = .ok (.iaload, 1) := by decide +kernel
theorem dX12_lays_122 : decode cX12_lays 122 = .ok (.iload 4, 2) := by decide +kernel
theorem dX12_lays_124 : decode cX12_lays 124 = .ok (.iadd, 1) := by decide +kernel
theorem dX12_lays_125 : decode cX12_lays 125 = .ok (.iastore, 1) := by decide +kernel
theorem dX12_lays_126 : decode cX12_lays 126 = .ok (.iinc 2 1, 3) := by decide +kernel
theorem dX12_lays_129 : decode cX12_lays 129 = .ok (.goto (-99), 3) := by decide +kernel
theorem dX12_lays_132 : decode cX12_lays 132 = .ok (.return_, 1) := by decide +kernel
theorem dX12_saidBy_0 : decode cX12_saidBy 0 = .ok (.aload_n 0, 1) := by decide +kernel
theorem dX12_saidBy_1 : decode cX12_saidBy 1 = .ok (.getfield 13, 3) := by decide +kernel
theorem dX12_saidBy_4 : decode cX12_saidBy 4 = .ok (.bipush 12, 2) := by decide +kernel
theorem dX12_saidBy_6 : decode cX12_saidBy 6 = .ok (.iload_n 1, 1) := by decide +kernel
theorem dX12_saidBy_7 : decode cX12_saidBy 7 = .ok (.iadd, 1) := by decide +kernel
theorem dX12_saidBy_8 : decode cX12_saidBy 8 = .ok (.iaload, 1) := by decide +kernel
theorem dX12_saidBy_9 : decode cX12_saidBy 9 = .ok (.aload_n 0, 1) := by decide +kernel
theorem dX12_saidBy_10 : decode cX12_saidBy 10 = .ok (.invokevirtual 319, 3) := by decide +kernel
theorem dX12_saidBy_13 : decode cX12_saidBy 13 = .ok (.iand, 1) := by decide +kernel
theorem dX12_saidBy_14 : decode cX12_saidBy 14 = .ok (.ireturn, 1) := by decide +kernel
theorem dX12_risesBy_0 : decode cX12_risesBy 0 = .ok (.aload_n 0, 1) := by decide +kernel
theorem dX12_risesBy_1 : decode cX12_risesBy 1 = .ok (.aload_n 0, 1) := by decide +kernel
theorem dX12_risesBy_2 : decode cX12_risesBy 2 = .ok (.iload_n 1, 1) := by decide +kernel
theorem dX12_risesBy_3 : decode cX12_risesBy 3 = .ok (.invokevirtual 322, 3) := by decide +kernel
theorem dX12_risesBy_6 : decode cX12_risesBy 6 = .ok (.invokevirtual 325, 3) := by decide +kernel
theorem dX12_risesBy_9 : decode cX12_risesBy 9 = .ok (.aload_n 0, 1) := by decide +kernel
theorem dX12_risesBy_10 : decode cX12_risesBy 10 = .ok (.getfield 42, 3) := by decide +kernel
theorem dX12_risesBy_13 : decode cX12_risesBy 13 = .ok (.iload_n 2, 1) := by decide +kernel
theorem dX12_risesBy_14 : decode cX12_risesBy 14 = .ok (.iaload, 1) := by decide +kernel
theorem dX12_risesBy_15 : decode cX12_risesBy 15 = .ok (.ireturn, 1) := by decide +kernel
theorem dX12_isTold_0 : decode cX12_isTold 0 = .ok (.sipush 299, 3) := by decide +kernel
theorem dX12_isTold_3 : decode cX12_isTold 3 = .ok (.istore 5, 2) := by decide +kernel
theorem dX12_isTold_5 : decode cX12_isTold 5 = .ok (.iload 5, 2) := by decide +kernel
theorem dX12_isTold_7 : decode cX12_isTold 7 = .ok (.iconst 5, 1) := by decide +kernel
theorem dX12_isTold_8 : decode cX12_isTold 8 = .ok (.if_icmp .lt 31, 3) := by decide +kernel
theorem dX12_isTold_11 : decode cX12_isTold 11 = .ok (.aload_n 0, 1) := by decide +kernel
theorem dX12_isTold_12 : decode cX12_isTold 12 = .ok (.getfield 13, 3) := by decide +kernel
theorem dX12_isTold_15 : decode cX12_isTold 15 = .ok (.bipush 72, 2) := by decide +kernel
theorem dX12_isTold_17 : decode cX12_isTold 17 = .ok (.iload 5, 2) := by decide +kernel
theorem dX12_isTold_19 : decode cX12_isTold 19 = .ok (.iadd, 1) := by decide +kernel
theorem dX12_isTold_20 : decode cX12_isTold 20 = .ok (.aload_n 0, 1) := by decide +kernel
theorem dX12_isTold_21 : decode cX12_isTold 21 = .ok (.getfield 13, 3) := by decide +kernel
theorem dX12_isTold_24 : decode cX12_isTold 24 = .ok (.bipush 72, 2) := by decide +kernel
theorem dX12_isTold_26 : decode cX12_isTold 26 = .ok (.iload 5, 2) := by decide +kernel
theorem dX12_isTold_28 : decode cX12_isTold 28 = .ok (.iadd, 1) := by decide +kernel
theorem dX12_isTold_29 : decode cX12_isTold 29 = .ok (.iconst 5, 1) := by decide +kernel
theorem dX12_isTold_30 : decode cX12_isTold 30 = .ok (.isub, 1) := by decide +kernel
theorem dX12_isTold_31 : decode cX12_isTold 31 = .ok (.iaload, 1) := by decide +kernel
theorem dX12_isTold_32 : decode cX12_isTold 32 = .ok (.iastore, 1) := by decide +kernel
theorem dX12_isTold_33 : decode cX12_isTold 33 = .ok (.iinc 5 (-1), 3) := by decide +kernel
theorem dX12_isTold_36 : decode cX12_isTold 36 = .ok (.goto (-31), 3) := by decide +kernel
theorem dX12_isTold_39 : decode cX12_isTold 39 = .ok (.aload_n 0, 1) := by decide +kernel
theorem dX12_isTold_40 : decode cX12_isTold 40 = .ok (.getfield 13, 3) := by decide +kernel
theorem dX12_isTold_43 : decode cX12_isTold 43 = .ok (.bipush 72, 2) := by decide +kernel
theorem dX12_isTold_45 : decode cX12_isTold 45 = .ok (.aload_n 0, 1) := by decide +kernel
theorem dX12_isTold_46 : decode cX12_isTold 46 = .ok (.getfield 13, 3) := by decide +kernel
theorem dX12_isTold_49 : decode cX12_isTold 49 = .ok (.bipush 6, 2) := by decide +kernel
theorem dX12_isTold_51 : decode cX12_isTold 51 = .ok (.iaload, 1) := by decide +kernel
theorem dX12_isTold_52 : decode cX12_isTold 52 = .ok (.iastore, 1) := by decide +kernel
theorem dX12_isTold_53 : decode cX12_isTold 53 = .ok (.aload_n 0, 1) := by decide +kernel
theorem dX12_isTold_54 : decode cX12_isTold 54 = .ok (.getfield 13, 3) := by decide +kernel
theorem dX12_isTold_57 : decode cX12_isTold 57 = .ok (.bipush 73, 2) := by decide +kernel
theorem dX12_isTold_59 : decode cX12_isTold 59 = .ok (.iload_n 1, 1) := by decide +kernel
theorem dX12_isTold_60 : decode cX12_isTold 60 = .ok (.iastore, 1) := by decide +kernel
theorem dX12_isTold_61 : decode cX12_isTold 61 = .ok (.aload_n 0, 1) := by decide +kernel
theorem dX12_isTold_62 : decode cX12_isTold 62 = .ok (.getfield 13, 3) := by decide +kernel
theorem dX12_isTold_65 : decode cX12_isTold 65 = .ok (.bipush 74, 2) := by decide +kernel
theorem dX12_isTold_67 : decode cX12_isTold 67 = .ok (.iload_n 2, 1) := by decide +kernel
theorem dX12_isTold_68 : decode cX12_isTold 68 = .ok (.iastore, 1) := by decide +kernel
theorem dX12_isTold_69 : decode cX12_isTold 69 = .ok (.aload_n 0, 1) := by decide +kernel
theorem dX12_isTold_70 : decode cX12_isTold 70 = .ok (.getfield 13, 3) := by decide +kernel
theorem dX12_isTold_73 : decode cX12_isTold 73 = .ok (.bipush 75, 2) := by decide +kernel
theorem dX12_isTold_75 : decode cX12_isTold 75 = .ok (.iload_n 3, 1) := by decide +kernel
theorem dX12_isTold_76 : decode cX12_isTold 76 = .ok (.iastore, 1) := by decide +kernel
theorem dX12_isTold_77 : decode cX12_isTold 77 = .ok (.aload_n 0, 1) := by decide +kernel
theorem dX12_isTold_78 : decode cX12_isTold 78 = .ok (.getfield 13, 3) := by decide +kernel
theorem dX12_isTold_81 : decode cX12_isTold 81 = .ok (.bipush 76, 2) := by decide +kernel
theorem dX12_isTold_83 : decode cX12_isTold 83 = .ok (.iload 4, 2) := by decide +kernel
theorem dX12_isTold_85 : decode cX12_isTold 85 = .ok (.iastore, 1) := by decide +kernel
theorem dX12_isTold_86 : decode cX12_isTold 86 = .ok (.aload_n 0, 1) := by decide +kernel
theorem dX12_isTold_87 : decode cX12_isTold 87 = .ok (.getfield 13, 3) := by decide +kernel
theorem dX12_isTold_90 : decode cX12_isTold 90 = .ok (.bipush 10, 2) := by decide +kernel
theorem dX12_isTold_92 : decode cX12_isTold 92 = .ok (.bipush 60, 2) := by decide +kernel
theorem dX12_isTold_94 : decode cX12_isTold 94 = .ok (.aload_n 0, 1) := by decide +kernel
theorem dX12_isTold_95 : decode cX12_isTold 95 = .ok (.getfield 13, 3) := by decide +kernel
theorem dX12_isTold_98 : decode cX12_isTold 98 = .ok (.bipush 10, 2) := by decide +kernel
theorem dX12_isTold_100 : decode cX12_isTold 100 = .ok (.iaload, 1) := by decide +kernel
theorem dX12_isTold_101 : decode cX12_isTold 101 = .ok (.iconst 1, 1) := by decide +kernel
theorem dX12_isTold_102 : decode cX12_isTold 102 = .ok (.iadd, 1) := by decide +kernel
theorem dX12_isTold_103 : decode cX12_isTold 103 = .ok (.invokestatic 310, 3) := by decide +kernel
theorem dX12_isTold_106 : decode cX12_isTold 106 = .ok (.iastore, 1) := by decide +kernel
theorem dX12_isTold_107 : decode cX12_isTold 107 = .ok (.return_, 1) := by decide +kernel
theorem dX12_isSaid_0 : decode cX12_isSaid 0 = .ok (.aload_n 0, 1) := by decide +kernel
theorem dX12_isSaid_1 : decode cX12_isSaid 1 = .ok (.aload_n 0, 1) := by decide +kernel
theorem dX12_isSaid_2 : decode cX12_isSaid 2 = .ok (.iload_n 1, 1) := by decide +kernel
theorem dX12_isSaid_3 : decode cX12_isSaid 3 = .ok (.invokevirtual 322, 3) := by decide +kernel
theorem dX12_isSaid_6 : decode cX12_isSaid 6 = .ok (.invokevirtual 325, 3) := by decide +kernel
theorem dX12_isSaid_9 : decode cX12_isSaid 9 = .ok (.iconst 0, 1) := by decide +kernel
theorem dX12_isSaid_10 : decode cX12_isSaid 10 = .ok (.istore_n 3, 1) := by decide +kernel
theorem dX12_isSaid_11 : decode cX12_isSaid 11 = .ok (.iconst 0, 1) := by decide +kernel
theorem dX12_isSaid_12 : decode cX12_isSaid 12 = .ok (.istore 4, 2) := by decide +kernel
theorem dX12_isSaid_14 : decode cX12_isSaid 14 = .ok (.iload 4, 2) := by decide +kernel
theorem dX12_isSaid_16 : decode cX12_isSaid 16 = .ok (.aload_n 0, 1) := by decide +kernel
theorem dX12_isSaid_17 : decode cX12_isSaid 17 = .ok (.invokevirtual 92, 3) := by decide +kernel
theorem dX12_isSaid_20 : decode cX12_isSaid 20 = .ok (.if_icmp .ge 75, 3) := by decide +kernel
theorem dX12_isSaid_23 : decode cX12_isSaid 23 = .ok (.aload_n 0, 1) := by decide +kernel
theorem dX12_isSaid_24 : decode cX12_isSaid 24 = .ok (.getfield 42, 3) := by decide +kernel
theorem dX12_isSaid_27 : decode cX12_isSaid 27 = .ok (.iload 4, 2) := by decide +kernel
theorem dX12_isSaid_29 : decode cX12_isSaid 29 = .ok (.iaload, 1) := by decide +kernel
theorem dX12_isSaid_30 : decode cX12_isSaid 30 = .ok (.ifCond .ne 6, 3) := by decide +kernel
theorem dX12_isSaid_33 : decode cX12_isSaid 33 = .ok (.goto 56, 3) := by decide +kernel
theorem dX12_isSaid_36 : decode cX12_isSaid 36 = .ok (.iload_n 3, 1) := by decide +kernel
theorem dX12_isSaid_37 : decode cX12_isSaid 37 = .ok (.iconst 1, 1) := by decide +kernel
theorem dX12_isSaid_38 : decode cX12_isSaid 38 = .ok (.iload 4, 2) := by decide +kernel
theorem dX12_isSaid_40 : decode cX12_isSaid 40 = .ok (.ishl, 1) := by decide +kernel
theorem dX12_isSaid_41 : decode cX12_isSaid 41 = .ok (.ior, 1) := by decide +kernel
theorem dX12_isSaid_42 : decode cX12_isSaid 42 = .ok (.istore_n 3, 1) := by decide +kernel
theorem dX12_isSaid_43 : decode cX12_isSaid 43 = .ok (.aload_n 0, 1) := by decide +kernel
theorem dX12_isSaid_44 : decode cX12_isSaid 44 = .ok (.getfield 13, 3) := by decide +kernel
theorem dX12_isSaid_47 : decode cX12_isSaid 47 = .ok (.iload 4, 2) := by decide +kernel
theorem dX12_isSaid_49 : decode cX12_isSaid 49 = .ok (.iconst 3, 1) := by decide +kernel
theorem dX12_isSaid_50 : decode cX12_isSaid 50 = .ok (.invokestatic 78, 3) := by decide +kernel
theorem dX12_isSaid_53 : decode cX12_isSaid 53 = .ok (.bipush 99, 2) := by decide +kernel
theorem dX12_isSaid_55 : decode cX12_isSaid 55 = .ok (.aload_n 0, 1) := by decide +kernel
theorem dX12_isSaid_56 : decode cX12_isSaid 56 = .ok (.iload 4, 2) := by decide +kernel
theorem dX12_isSaid_58 : decode cX12_isSaid 58 = .ok (.iconst 3, 1) := by decide +kernel
theorem dX12_isSaid_59 : decode cX12_isSaid 59 = .ok (.invokevirtual 285, 3) := by decide +kernel
theorem dX12_isSaid_62 : decode cX12_isSaid 62 = .ok (.aload_n 0, 1) := by decide +kernel
theorem dX12_isSaid_63 : decode cX12_isSaid 63 = .ok (.getfield 42, 3) := by decide +kernel
theorem dX12_isSaid_66 : decode cX12_isSaid 66 = .ok (.iload 4, 2) := by decide +kernel
theorem dX12_isSaid_68 : decode cX12_isSaid 68 = .ok (.iaload, 1) := by decide +kernel
theorem dX12_isSaid_69 : decode cX12_isSaid 69 = .ok (.iadd, 1) := by decide +kernel
theorem dX12_isSaid_70 : decode cX12_isSaid 70 = .ok (.invokestatic 310, 3) := by decide +kernel
theorem dX12_isSaid_73 : decode cX12_isSaid 73 = .ok (.iastore, 1) := by decide +kernel
theorem dX12_isSaid_74 : decode cX12_isSaid 74 = .ok (.aload_n 0, 1) := by decide +kernel
theorem dX12_isSaid_75 : decode cX12_isSaid 75 = .ok (.iload 4, 2) := by decide +kernel
theorem dX12_isSaid_77 : decode cX12_isSaid 77 = .ok (.iload_n 2, 1) := by decide +kernel
theorem dX12_isSaid_78 : decode cX12_isSaid 78 = .ok (.iload_n 1, 1) := by decide +kernel
theorem dX12_isSaid_79 : decode cX12_isSaid 79 = .ok (.aload_n 0, 1) := by decide +kernel
theorem dX12_isSaid_80 : decode cX12_isSaid 80 = .ok (.getfield 42, 3) := by decide +kernel
theorem dX12_isSaid_83 : decode cX12_isSaid 83 = .ok (.iload 4, 2) := by decide +kernel
theorem dX12_isSaid_85 : decode cX12_isSaid 85 = .ok (.iaload, 1) := by decide +kernel
theorem dX12_isSaid_86 : decode cX12_isSaid 86 = .ok (.invokevirtual 329, 3) := by decide +kernel
theorem dX12_isSaid_89 : decode cX12_isSaid 89 = .ok (.iinc 4 1, 3) := by decide +kernel
theorem dX12_isSaid_92 : decode cX12_isSaid 92 = .ok (.goto (-78), 3) := by decide +kernel
theorem dX12_isSaid_95 : decode cX12_isSaid 95 = .ok (.iload_n 3, 1) := by decide +kernel
theorem dX12_isSaid_96 : decode cX12_isSaid 96 = .ok (.ireturn, 1) := by decide +kernel
theorem dX12_allFall_0 : decode cX12_allFall 0 = .ok (.iconst 0, 1) := by decide +kernel
theorem dX12_allFall_1 : decode cX12_allFall 1 = .ok (.istore_n 1, 1) := by decide +kernel
theorem dX12_allFall_2 : decode cX12_allFall 2 = .ok (.iload_n 1, 1) := by decide +kernel
theorem dX12_allFall_3 : decode cX12_allFall 3 = .ok (.aload_n 0, 1) := by decide +kernel
theorem dX12_allFall_4 : decode cX12_allFall 4 = .ok (.invokevirtual 92, 3) := by decide +kernel
theorem dX12_allFall_7 : decode cX12_allFall 7 = .ok (.if_icmp .ge 20, 3) := by decide +kernel
theorem dX12_allFall_10 : decode cX12_allFall 10 = .ok (.aload_n 0, 1) := by decide +kernel
theorem dX12_allFall_11 : decode cX12_allFall 11 = .ok (.getfield 45, 3) := by decide +kernel
theorem dX12_allFall_14 : decode cX12_allFall 14 = .ok (.iload_n 1, 1) := by decide +kernel
theorem dX12_allFall_15 : decode cX12_allFall 15 = .ok (.aload_n 0, 1) := by decide +kernel
theorem dX12_allFall_16 : decode cX12_allFall 16 = .ok (.iload_n 1, 1) := by decide +kernel
theorem dX12_allFall_17 : decode cX12_allFall 17 = .ok (.invokevirtual 333, 3) := by decide +kernel
theorem dX12_allFall_20 : decode cX12_allFall 20 = .ok (.iastore, 1) := by decide +kernel
theorem dX12_allFall_21 : decode cX12_allFall 21 = .ok (.iinc 1 1, 3) := by decide +kernel
theorem dX12_allFall_24 : decode cX12_allFall 24 = .ok (.goto (-22), 3) := by decide +kernel
theorem dX12_allFall_27 : decode cX12_allFall 27 = .ok (.iconst 0, 1) := by decide +kernel
theorem dX12_allFall_28 : decode cX12_allFall 28 = .ok (.istore_n 1, 1) := by decide +kernel
theorem dX12_allFall_29 : decode cX12_allFall 29 = .ok (.iload_n 1, 1) := by decide +kernel
theorem dX12_allFall_30 : decode cX12_allFall 30 = .ok (.aload_n 0, 1) := by decide +kernel
theorem dX12_allFall_31 : decode cX12_allFall 31 = .ok (.invokevirtual 92, 3) := by decide +kernel
theorem dX12_allFall_34 : decode cX12_allFall 34 = .ok (.if_icmp .ge 36, 3) := by decide +kernel
theorem dX12_allFall_37 : decode cX12_allFall 37 = .ok (.aload_n 0, 1) := by decide +kernel
theorem dX12_allFall_38 : decode cX12_allFall 38 = .ok (.getfield 13, 3) := by decide +kernel
theorem dX12_allFall_41 : decode cX12_allFall 41 = .ok (.iload_n 1, 1) := by decide +kernel
theorem dX12_allFall_42 : decode cX12_allFall 42 = .ok (.iconst 3, 1) := by decide +kernel
theorem dX12_allFall_43 : decode cX12_allFall 43 = .ok (.invokestatic 78, 3) := by decide +kernel
theorem dX12_allFall_46 : decode cX12_allFall 46 = .ok (.iconst 0, 1) := by decide +kernel
theorem dX12_allFall_47 : decode cX12_allFall 47 = .ok (.aload_n 0, 1) := by decide +kernel
theorem dX12_allFall_48 : decode cX12_allFall 48 = .ok (.iload_n 1, 1) := by decide +kernel
theorem dX12_allFall_49 : decode cX12_allFall 49 = .ok (.iconst 3, 1) := by decide +kernel
theorem dX12_allFall_50 : decode cX12_allFall 50 = .ok (.invokevirtual 285, 3) := by decide +kernel
theorem dX12_allFall_53 : decode cX12_allFall 53 = .ok (.aload_n 0, 1) := by decide +kernel
theorem dX12_allFall_54 : decode cX12_allFall 54 = .ok (.getfield 45, 3) := by decide +kernel
theorem dX12_allFall_57 : decode cX12_allFall 57 = .ok (.iload_n 1, 1) := by decide +kernel
theorem dX12_allFall_58 : decode cX12_allFall 58 = .ok (.iaload, 1) := by decide +kernel
theorem dX12_allFall_59 : decode cX12_allFall 59 = .ok (.isub, 1) := by decide +kernel
theorem dX12_allFall_60 : decode cX12_allFall 60 = .ok (.invokestatic 305, 3) := by decide +kernel
theorem dX12_allFall_63 : decode cX12_allFall 63 = .ok (.iastore, 1) := by decide +kernel
theorem dX12_allFall_64 : decode cX12_allFall 64 = .ok (.iinc 1 1, 3) := by decide +kernel
theorem dX12_allFall_67 : decode cX12_allFall 67 = .ok (.goto (-38), 3) := by decide +kernel
theorem dX12_allFall_70 : decode cX12_allFall 70 = .ok (.return_, 1) := by decide +kernel
theorem dX12_blushes_0 : decode cX12_blushes 0 = .ok (.aload_n 0, 1) := by decide +kernel
theorem dX12_blushes_1 : decode cX12_blushes 1 = .ok (.bipush 100, 2) := by decide +kernel
theorem dX12_blushes_3 : decode cX12_blushes 3 = .ok (.invokevirtual 336, 3) := by decide +kernel
theorem dX12_blushes_6 : decode cX12_blushes 6 = .ok (.aload_n 0, 1) := by decide +kernel
theorem dX12_blushes_7 : decode cX12_blushes 7 = .ok (.getfield 13, 3) := by decide +kernel
theorem dX12_blushes_10 : decode cX12_blushes 10 = .ok (.bipush 8, 2) := by decide +kernel
theorem dX12_blushes_12 : decode cX12_blushes 12 = .ok (.iaload, 1) := by decide +kernel
theorem dX12_blushes_13 : decode cX12_blushes 13 = .ok (.if_icmp .lt 4, 3) := by decide +kernel
theorem dX12_blushes_16 : decode cX12_blushes 16 = .ok (.return_, 1) := by decide +kernel
theorem dX12_blushes_17 : decode cX12_blushes 17 = .ok (.aload_n 0, 1) := by decide +kernel
theorem dX12_blushes_18 : decode cX12_blushes 18 = .ok (.getfield 13, 3) := by decide +kernel
theorem dX12_blushes_21 : decode cX12_blushes 21 = .ok (.iload_n 1, 1) := by decide +kernel
theorem dX12_blushes_22 : decode cX12_blushes 22 = .ok (.iconst 3, 1) := by decide +kernel
theorem dX12_blushes_23 : decode cX12_blushes 23 = .ok (.invokestatic 78, 3) := by decide +kernel
theorem dX12_blushes_26 : decode cX12_blushes 26 = .ok (.bipush 99, 2) := by decide +kernel
theorem dX12_blushes_28 : decode cX12_blushes 28 = .ok (.aload_n 0, 1) := by decide +kernel
theorem dX12_blushes_29 : decode cX12_blushes 29 = .ok (.iload_n 1, 1) := by decide +kernel
theorem dX12_blushes_30 : decode cX12_blushes 30 = .ok (.iconst 3, 1) := by decide +kernel
theorem dX12_blushes_31 : decode cX12_blushes 31 = .ok (.invokevirtual 285, 3) := by decide +kernel
theorem dX12_blushes_34 : decode cX12_blushes 34 = .ok (.bipush 20, 2) := by decide +kernel
theorem dX12_blushes_36 : decode cX12_blushes 36 = .ok (.iadd, 1) := by decide +kernel
theorem dX12_blushes_37 : decode cX12_blushes 37 = .ok (.invokestatic 310, 3) := by decide +kernel
theorem dX12_blushes_40 : decode cX12_blushes 40 = .ok (.iastore, 1) := by decide +kernel
theorem dX12_blushes_41 : decode cX12_blushes 41 = .ok (.aload_n 0, 1) := by decide +kernel
theorem dX12_blushes_42 : decode cX12_blushes 42 = .ok (.iload_n 1, 1) := by decide +kernel
theorem dX12_blushes_43 : decode cX12_blushes 43 = .ok (.iconst 2, 1) := by decide +kernel
theorem dX12_blushes_44 : decode cX12_blushes 44 = .ok (.iconst (-1), 1) := by decide +kernel
theorem dX12_blushes_45 : decode cX12_blushes 45 = .ok (.bipush 20, 2) := by decide +kernel
theorem dX12_blushes_47 : decode cX12_blushes 47 = .ok (.invokevirtual 329, 3) := by decide +kernel
theorem dX12_blushes_50 : decode cX12_blushes 50 = .ok (.return_, 1) := by decide +kernel
theorem dX12_oneMoment_0 : decode cX12_oneMoment 0 = .ok (.aload_n 0, 1) := by decide +kernel
theorem dX12_oneMoment_1 : decode cX12_oneMoment 1 = .ok (.invokevirtual 339, 3) := by decide +kernel
theorem dX12_oneMoment_4 : decode cX12_oneMoment 4 = .ok (.iload_n 1, 1) := by decide +kernel
theorem dX12_oneMoment_5 : decode cX12_oneMoment 5 = .ok (.ifCond .ne 30, 3) := by decide +kernel
theorem dX12_oneMoment_8 : decode cX12_oneMoment 8 = .ok (.aload_n 0, 1) := by decide +kernel
theorem dX12_oneMoment_9 : decode cX12_oneMoment 9 = .ok (.bipush 100, 2) := by decide +kernel
theorem dX12_oneMoment_11 : decode cX12_oneMoment 11 = .ok (.invokevirtual 336, 3) := by decide +kernel
theorem dX12_oneMoment_14 : decode cX12_oneMoment 14 = .ok (.aload_n 0, 1) := by decide +kernel
theorem dX12_oneMoment_15 : decode cX12_oneMoment 15 = .ok (.getfield 13, 3) := by decide +kernel
theorem dX12_oneMoment_18 : decode cX12_oneMoment 18 = .ok (.bipush 9, 2) := by decide +kernel
theorem dX12_oneMoment_20 : decode cX12_oneMoment 20 = .ok (.iaload, 1) := by decide +kernel
theorem dX12_oneMoment_21 : decode cX12_oneMoment 21 = .ok (.if_icmp .ge 14, 3) := by decide +kernel
theorem dX12_oneMoment_24 : decode cX12_oneMoment 24 = .ok (.aload_n 0, 1) := by decide +kernel
theorem dX12_oneMoment_25 : decode cX12_oneMoment 25 = .ok (.invokevirtual 99, 3) := by decide +kernel
theorem dX12_oneMoment_28 : decode cX12_oneMoment 28 = .ok (.ifCond .le 7, 3) := by decide +kernel
theorem dX12_oneMoment_31 : decode cX12_oneMoment 31 = .ok (.iconst 1, 1) := by decide +kernel
theorem dX12_oneMoment_32 : decode cX12_oneMoment 32 = .ok (.goto 4, 3) := by decide +kernel
theorem dX12_oneMoment_35 : decode cX12_oneMoment 35 = .ok (.iconst 0, 1) := by decide +kernel
theorem dX12_oneMoment_36 : decode cX12_oneMoment 36 = .ok (.istore_n 2, 1) := by decide +kernel
theorem dX12_oneMoment_37 : decode cX12_oneMoment 37 = .ok (.iload_n 2, 1) := by decide +kernel
theorem dX12_oneMoment_38 : decode cX12_oneMoment 38 = .ok (.ifCond .eq 17, 3) := by decide +kernel
theorem dX12_oneMoment_41 : decode cX12_oneMoment 41 = .ok (.aload_n 0, 1) := by decide +kernel
theorem dX12_oneMoment_42 : decode cX12_oneMoment 42 = .ok (.aload_n 0, 1) := by decide +kernel
theorem dX12_oneMoment_43 : decode cX12_oneMoment 43 = .ok (.aload_n 0, 1) := by decide +kernel
theorem dX12_oneMoment_44 : decode cX12_oneMoment 44 = .ok (.invokevirtual 99, 3) := by decide +kernel
theorem dX12_oneMoment_47 : decode cX12_oneMoment 47 = .ok (.invokevirtual 336, 3) := by decide +kernel
theorem dX12_oneMoment_50 : decode cX12_oneMoment 50 = .ok (.iconst 1, 1) := by decide +kernel
theorem dX12_oneMoment_51 : decode cX12_oneMoment 51 = .ok (.invokevirtual 342, 3) := by decide +kernel
theorem dX12_oneMoment_54 : decode cX12_oneMoment 54 = .ok (.pop, 1) := by decide +kernel
theorem dX12_oneMoment_55 : decode cX12_oneMoment 55 = .ok (.iconst 0, 1) := by decide +kernel
theorem dX12_oneMoment_56 : decode cX12_oneMoment 56 = .ok (.istore_n 3, 1) := by decide +kernel
theorem dX12_oneMoment_57 : decode cX12_oneMoment 57 = .ok (.iload_n 3, 1) := by decide +kernel
theorem dX12_oneMoment_58 : decode cX12_oneMoment 58 = .ok (.aload_n 0, 1) := by decide +kernel
theorem dX12_oneMoment_59 : decode cX12_oneMoment 59 = .ok (.invokevirtual 92, 3) := by decide +kernel
theorem dX12_oneMoment_62 : decode cX12_oneMoment 62 = .ok (.if_icmp .ge 18, 3) := by decide +kernel
theorem dX12_oneMoment_65 : decode cX12_oneMoment 65 = .ok (.iload_n 1, 1) := by decide +kernel
theorem dX12_oneMoment_66 : decode cX12_oneMoment 66 = .ok (.ifCond .ne 14, 3) := by decide +kernel
theorem dX12_oneMoment_69 : decode cX12_oneMoment 69 = .ok (.aload_n 0, 1) := by decide +kernel
theorem dX12_oneMoment_70 : decode cX12_oneMoment 70 = .ok (.iload_n 3, 1) := by decide +kernel
theorem dX12_oneMoment_71 : decode cX12_oneMoment 71 = .ok (.invokevirtual 345, 3) := by decide +kernel
theorem dX12_oneMoment_74 : decode cX12_oneMoment 74 = .ok (.iinc 3 1, 3) := by decide +kernel
theorem dX12_oneMoment_77 : decode cX12_oneMoment 77 = .ok (.goto (-20), 3) := by decide +kernel
theorem dX12_oneMoment_80 : decode cX12_oneMoment 80 = .ok (.aload_n 0, 1) := by decide +kernel
theorem dX12_oneMoment_81 : decode cX12_oneMoment 81 = .ok (.getfield 13, 3) := by decide +kernel
theorem dX12_oneMoment_84 : decode cX12_oneMoment 84 = .ok (.bipush 6, 2) := by decide +kernel
theorem dX12_oneMoment_86 : decode cX12_oneMoment 86 = .ok (.sipush 9999, 3) := by decide +kernel
theorem dX12_oneMoment_89 : decode cX12_oneMoment 89 = .ok (.aload_n 0, 1) := by decide +kernel
theorem dX12_oneMoment_90 : decode cX12_oneMoment 90 = .ok (.getfield 13, 3) := by decide +kernel
theorem dX12_oneMoment_93 : decode cX12_oneMoment 93 = .ok (.bipush 6, 2) := by decide +kernel
theorem dX12_oneMoment_95 : decode cX12_oneMoment 95 = .ok (.iaload, 1) := by decide +kernel
theorem dX12_oneMoment_96 : decode cX12_oneMoment 96 = .ok (.iconst 1, 1) := by decide +kernel
theorem dX12_oneMoment_97 : decode cX12_oneMoment 97 = .ok (.iadd, 1) := by decide +kernel
theorem dX12_oneMoment_98 : decode cX12_oneMoment 98 = .ok (.invokestatic 310, 3) := by decide +kernel
theorem dX12_oneMoment_101 : decode cX12_oneMoment 101 = .ok (.iastore, 1) := by decide +kernel
theorem dX12_oneMoment_102 : decode cX12_oneMoment 102 = .ok (.iload_n 2, 1) := by decide +kernel
theorem dX12_oneMoment_103 : decode cX12_oneMoment 103 = .ok (.ifCond .eq 7, 3) := by decide +kernel
theorem dX12_oneMoment_106 : decode cX12_oneMoment 106 = .ok (.iconst 1, 1) := by decide +kernel
theorem dX12_oneMoment_107 : decode cX12_oneMoment 107 = .ok (.goto 4, 3) := by decide +kernel
theorem dX12_oneMoment_110 : decode cX12_oneMoment 110 = .ok (.iconst 0, 1) := by decide +kernel
theorem dX12_oneMoment_111 : decode cX12_oneMoment 111 = .ok (.ireturn, 1) := by decide +kernel
theorem dX12_goesOn_0 : decode cX12_goesOn 0 = .ok (.iconst 0, 1) := by decide +kernel
theorem dX12_goesOn_1 : decode cX12_goesOn 1 = .ok (.istore_n 3, 1) := by decide +kernel
theorem dX12_goesOn_2 : decode cX12_goesOn 2 = .ok (.iconst 0, 1) := by decide +kernel
theorem dX12_goesOn_3 : decode cX12_goesOn 3 = .ok (.istore 4, 2) := by decide +kernel
theorem dX12_goesOn_5 : decode cX12_goesOn 5 = .ok (.iload 4, 2) := by decide +kernel
theorem dX12_goesOn_7 : decode cX12_goesOn 7 = .ok (.iload_n 1, 1) := by decide +kernel
theorem dX12_goesOn_8 : decode cX12_goesOn 8 = .ok (.if_icmp .ge 17, 3) := by decide +kernel
theorem dX12_goesOn_11 : decode cX12_goesOn 11 = .ok (.iload_n 3, 1) := by decide +kernel
theorem dX12_goesOn_12 : decode cX12_goesOn 12 = .ok (.aload_n 0, 1) := by decide +kernel
theorem dX12_goesOn_13 : decode cX12_goesOn 13 = .ok (.iload_n 2, 1) := by decide +kernel
theorem dX12_goesOn_14 : decode cX12_goesOn 14 = .ok (.invokevirtual 348, 3) := by decide +kernel
theorem dX12_goesOn_17 : decode cX12_goesOn 17 = .ok (.iadd, 1) := by decide +kernel
theorem dX12_goesOn_18 : decode cX12_goesOn 18 = .ok (.istore_n 3, 1) := by decide +kernel
theorem dX12_goesOn_19 : decode cX12_goesOn 19 = .ok (.iinc 4 1, 3) := by decide +kernel
theorem dX12_goesOn_22 : decode cX12_goesOn 22 = .ok (.goto (-17), 3) := by decide +kernel
theorem dX12_goesOn_25 : decode cX12_goesOn 25 = .ok (.iload_n 3, 1) := by decide +kernel
theorem dX12_goesOn_26 : decode cX12_goesOn 26 = .ok (.ireturn, 1) := by decide +kernel
theorem dX12_moments_0 : decode cX12_moments 0 = .ok (.aload_n 0, 1) := by decide +kernel
theorem dX12_moments_1 : decode cX12_moments 1 = .ok (.iconst 0, 1) := by decide +kernel
theorem dX12_moments_2 : decode cX12_moments 2 = .ok (.putfield 3, 3) := by decide +kernel
theorem dX12_moments_5 : decode cX12_moments 5 = .ok (.aload_n 0, 1) := by decide +kernel
theorem dX12_moments_6 : decode cX12_moments 6 = .ok (.iload_n 1, 1) := by decide +kernel
theorem dX12_moments_7 : decode cX12_moments 7 = .ok (.iconst 1, 1) := by decide +kernel
theorem dX12_moments_8 : decode cX12_moments 8 = .ok (.bipush 60, 2) := by decide +kernel
theorem dX12_moments_10 : decode cX12_moments 10 = .ok (.invokestatic 95, 3) := by decide +kernel
theorem dX12_moments_13 : decode cX12_moments 13 = .ok (.ifCond .ne 7, 3) := by decide +kernel
theorem dX12_moments_16 : decode cX12_moments 16 = .ok (.iconst 1, 1) := by decide +kernel
theorem dX12_moments_17 : decode cX12_moments 17 = .ok (.goto 4, 3) := by decide +kernel
theorem dX12_moments_20 : decode cX12_moments 20 = .ok (.iconst 0, 1) := by decide +kernel
theorem dX12_moments_21 : decode cX12_moments 21 = .ok (.iconst 1, 1) := by decide +kernel
theorem dX12_moments_22 : decode cX12_moments 22 = .ok (.invokevirtual 282, 3) := by decide +kernel
theorem dX12_moments_25 : decode cX12_moments 25 = .ok (.ifCond .eq 5, 3) := by decide +kernel
theorem dX12_moments_28 : decode cX12_moments 28 = .ok (.iconst 0, 1) := by decide +kernel
theorem dX12_moments_29 : decode cX12_moments 29 = .ok (.ireturn, 1) := by decide +kernel
theorem dX12_moments_30 : decode cX12_moments 30 = .ok (.aload_n 0, 1) := by decide +kernel
theorem dX12_moments_31 : decode cX12_moments 31 = .ok (.invokevirtual 351, 3) := by decide +kernel
theorem dX12_moments_34 : decode cX12_moments 34 = .ok (.aload_n 0, 1) := by decide +kernel
theorem dX12_moments_35 : decode cX12_moments 35 = .ok (.iload_n 1, 1) := by decide +kernel
theorem dX12_moments_36 : decode cX12_moments 36 = .ok (.iconst 0, 1) := by decide +kernel
theorem dX12_moments_37 : decode cX12_moments 37 = .ok (.invokevirtual 354, 3) := by decide +kernel
theorem dX12_moments_40 : decode cX12_moments 40 = .ok (.ireturn, 1) := by decide +kernel
theorem dX12_shadesOfAll_0 : decode cX12_shadesOfAll 0 = .ok (.iconst 0, 1) := by decide +kernel
theorem dX12_shadesOfAll_1 : decode cX12_shadesOfAll 1 = .ok (.istore_n 1, 1) := by decide +kernel
theorem dX12_shadesOfAll_2 : decode cX12_shadesOfAll 2 = .ok (.iconst 0, 1) := by decide +kernel
theorem dX12_shadesOfAll_3 : decode cX12_shadesOfAll 3 = .ok (.istore_n 2, 1) := by decide +kernel
theorem dX12_shadesOfAll_4 : decode cX12_shadesOfAll 4 = .ok (.iload_n 2, 1) := by decide +kernel
theorem dX12_shadesOfAll_5 : decode cX12_shadesOfAll 5 = .ok (.aload_n 0, 1) := by decide +kernel
theorem dX12_shadesOfAll_6 : decode cX12_shadesOfAll 6 = .ok (.invokevirtual 92, 3) := by decide +kernel
theorem dX12_shadesOfAll_9 : decode cX12_shadesOfAll 9 = .ok (.if_icmp .ge 18, 3) := by decide +kernel
theorem dX12_shadesOfAll_12 : decode cX12_shadesOfAll 12 = .ok (.iload_n 1, 1) := by decide +kernel
theorem dX12_shadesOfAll_13 : decode cX12_shadesOfAll 13 = .ok (.aload_n 0, 1) := by decide +kernel
theorem dX12_shadesOfAll_14 : decode cX12_shadesOfAll 14 = .ok (.iload_n 2, 1) := by decide +kernel
theorem dX12_shadesOfAll_15 : decode cX12_shadesOfAll 15 = .ok (.iconst 3, 1) := by decide +kernel
theorem dX12_shadesOfAll_16 : decode cX12_shadesOfAll 16 = .ok (.invokevirtual 285, 3) := by decide +kernel
theorem dX12_shadesOfAll_19 : decode cX12_shadesOfAll 19 = .ok (.iadd, 1) := by decide +kernel
theorem dX12_shadesOfAll_20 : decode cX12_shadesOfAll 20 = .ok (.istore_n 1, 1) := by decide +kernel
theorem dX12_shadesOfAll_21 : decode cX12_shadesOfAll 21 = .ok (.iinc 2 1, 3) := by decide +kernel
theorem dX12_shadesOfAll_24 : decode cX12_shadesOfAll 24 = .ok (.goto (-20), 3) := by decide +kernel
theorem dX12_shadesOfAll_27 : decode cX12_shadesOfAll 27 = .ok (.iload_n 1, 1) := by decide +kernel
theorem dX12_shadesOfAll_28 : decode cX12_shadesOfAll 28 = .ok (.ireturn, 1) := by decide +kernel
theorem dX12_touchedOf_0 : decode cX12_touchedOf 0 = .ok (.iconst 0, 1) := by decide +kernel
theorem dX12_touchedOf_1 : decode cX12_touchedOf 1 = .ok (.istore_n 2, 1) := by decide +kernel
theorem dX12_touchedOf_2 : decode cX12_touchedOf 2 = .ok (.iconst 0, 1) := by decide +kernel
theorem dX12_touchedOf_3 : decode cX12_touchedOf 3 = .ok (.istore_n 3, 1) := by decide +kernel
theorem dX12_touchedOf_4 : decode cX12_touchedOf 4 = .ok (.iload_n 3, 1) := by decide +kernel
theorem dX12_touchedOf_5 : decode cX12_touchedOf 5 = .ok (.aload_n 0, 1) := by decide +kernel
theorem dX12_touchedOf_6 : decode cX12_touchedOf 6 = .ok (.invokevirtual 85, 3) := by decide +kernel
theorem dX12_touchedOf_9 : decode cX12_touchedOf 9 = .ok (.if_icmp .ge 32, 3) := by decide +kernel
theorem dX12_touchedOf_12 : decode cX12_touchedOf 12 = .ok (.iload_n 2, 1) := by decide +kernel
theorem dX12_touchedOf_13 : decode cX12_touchedOf 13 = .ok (.aload_n 0, 1) := by decide +kernel
theorem dX12_touchedOf_14 : decode cX12_touchedOf 14 = .ok (.iload_n 3, 1) := by decide +kernel
theorem dX12_touchedOf_15 : decode cX12_touchedOf 15 = .ok (.iconst 1, 1) := by decide +kernel
theorem dX12_touchedOf_16 : decode cX12_touchedOf 16 = .ok (.invokevirtual 89, 3) := by decide +kernel
theorem dX12_touchedOf_19 : decode cX12_touchedOf 19 = .ok (.iload_n 1, 1) := by decide +kernel
theorem dX12_touchedOf_20 : decode cX12_touchedOf 20 = .ok (.invokestatic 147, 3) := by decide +kernel
theorem dX12_touchedOf_23 : decode cX12_touchedOf 23 = .ok (.ifCond .eq 9, 3) := by decide +kernel
theorem dX12_touchedOf_26 : decode cX12_touchedOf 26 = .ok (.iconst 1, 1) := by decide +kernel
theorem dX12_touchedOf_27 : decode cX12_touchedOf 27 = .ok (.iload_n 3, 1) := by decide +kernel
theorem dX12_touchedOf_28 : decode cX12_touchedOf 28 = .ok (.ishl, 1) := by decide +kernel
theorem dX12_touchedOf_29 : decode cX12_touchedOf 29 = .ok (.goto 4, 3) := by decide +kernel
theorem dX12_touchedOf_32 : decode cX12_touchedOf 32 = .ok (.iconst 0, 1) := by decide +kernel
theorem dX12_touchedOf_33 : decode cX12_touchedOf 33 = .ok (.ior, 1) := by decide +kernel
theorem dX12_touchedOf_34 : decode cX12_touchedOf 34 = .ok (.istore_n 2, 1) := by decide +kernel
theorem dX12_touchedOf_35 : decode cX12_touchedOf 35 = .ok (.iinc 3 1, 3) := by decide +kernel
theorem dX12_touchedOf_38 : decode cX12_touchedOf 38 = .ok (.goto (-34), 3) := by decide +kernel
theorem dX12_touchedOf_41 : decode cX12_touchedOf 41 = .ok (.iload_n 2, 1) := by decide +kernel
theorem dX12_touchedOf_42 : decode cX12_touchedOf 42 = .ok (.ireturn, 1) := by decide +kernel
theorem dX12_readBy_0 : decode cX12_readBy 0 = .ok (.iload_n 2, 1) := by decide +kernel
theorem dX12_readBy_1 : decode cX12_readBy 1 = .ok (.aload_n 0, 1) := by decide +kernel
theorem dX12_readBy_2 : decode cX12_readBy 2 = .ok (.getfield 13, 3) := by decide +kernel
theorem dX12_readBy_5 : decode cX12_readBy 5 = .ok (.bipush 20, 2) := by decide +kernel
theorem dX12_readBy_7 : decode cX12_readBy 7 = .ok (.iload_n 1, 1) := by decide +kernel
theorem dX12_readBy_8 : decode cX12_readBy 8 = .ok (.iadd, 1) := by decide +kernel
theorem dX12_readBy_9 : decode cX12_readBy 9 = .ok (.iaload, 1) := by decide +kernel
theorem dX12_readBy_10 : decode cX12_readBy 10 = .ok (.idiv, 1) := by decide +kernel
theorem dX12_readBy_11 : decode cX12_readBy 11 = .ok (.aload_n 0, 1) := by decide +kernel
theorem dX12_readBy_12 : decode cX12_readBy 12 = .ok (.getfield 13, 3) := by decide +kernel
theorem dX12_readBy_15 : decode cX12_readBy 15 = .ok (.bipush 20, 2) := by decide +kernel
theorem dX12_readBy_17 : decode cX12_readBy 17 = .ok (.iload_n 1, 1) := by decide +kernel
theorem dX12_readBy_18 : decode cX12_readBy 18 = .ok (.iadd, 1) := by decide +kernel
theorem dX12_readBy_19 : decode cX12_readBy 19 = .ok (.iaload, 1) := by decide +kernel
theorem dX12_readBy_20 : decode cX12_readBy 20 = .ok (.imul, 1) := by decide +kernel
theorem dX12_readBy_21 : decode cX12_readBy 21 = .ok (.ireturn, 1) := by decide +kernel
theorem dX12_wouldSee_0 : decode cX12_wouldSee 0 = .ok (.aload_n 0, 1) := by decide +kernel
theorem dX12_wouldSee_1 : decode cX12_wouldSee 1 = .ok (.iload_n 1, 1) := by decide +kernel
theorem dX12_wouldSee_2 : decode cX12_wouldSee 2 = .ok (.bipush 99, 2) := by decide +kernel
theorem dX12_wouldSee_4 : decode cX12_wouldSee 4 = .ok (.aload_n 0, 1) := by decide +kernel
theorem dX12_wouldSee_5 : decode cX12_wouldSee 5 = .ok (.iload_n 2, 1) := by decide +kernel
theorem dX12_wouldSee_6 : decode cX12_wouldSee 6 = .ok (.iconst 3, 1) := by decide +kernel
theorem dX12_wouldSee_7 : decode cX12_wouldSee 7 = .ok (.invokevirtual 285, 3) := by decide +kernel
theorem dX12_wouldSee_10 : decode cX12_wouldSee 10 = .ok (.iload_n 3, 1) := by decide +kernel
theorem dX12_wouldSee_11 : decode cX12_wouldSee 11 = .ok (.iadd, 1) := by decide +kernel
theorem dX12_wouldSee_12 : decode cX12_wouldSee 12 = .ok (.invokestatic 310, 3) := by decide +kernel
theorem dX12_wouldSee_15 : decode cX12_wouldSee 15 = .ok (.invokevirtual 358, 3) := by decide +kernel
theorem dX12_wouldSee_18 : decode cX12_wouldSee 18 = .ok (.aload_n 0, 1) := by decide +kernel
theorem dX12_wouldSee_19 : decode cX12_wouldSee 19 = .ok (.iload_n 1, 1) := by decide +kernel
theorem dX12_wouldSee_20 : decode cX12_wouldSee 20 = .ok (.aload_n 0, 1) := by decide +kernel
theorem dX12_wouldSee_21 : decode cX12_wouldSee 21 = .ok (.iload_n 2, 1) := by decide +kernel
theorem dX12_wouldSee_22 : decode cX12_wouldSee 22 = .ok (.iconst 3, 1) := by decide +kernel
theorem dX12_wouldSee_23 : decode cX12_wouldSee 23 = .ok (.invokevirtual 285, 3) := by decide +kernel
theorem dX12_wouldSee_26 : decode cX12_wouldSee 26 = .ok (.invokevirtual 358, 3) := by decide +kernel
theorem dX12_wouldSee_29 : decode cX12_wouldSee 29 = .ok (.if_icmp .le 7, 3) := by decide +kernel
theorem dX12_wouldSee_32 : decode cX12_wouldSee 32 = .ok (.iconst 1, 1) := by decide +kernel
theorem dX12_wouldSee_33 : decode cX12_wouldSee 33 = .ok (.goto 4, 3) := by decide +kernel
theorem dX12_wouldSee_36 : decode cX12_wouldSee 36 = .ok (.iconst 0, 1) := by decide +kernel
theorem dX12_wouldSee_37 : decode cX12_wouldSee 37 = .ok (.ireturn, 1) := by decide +kernel
theorem dX12_someSees_0 : decode cX12_someSees 0 = .ok (.iconst 0, 1) := by decide +kernel
theorem dX12_someSees_1 : decode cX12_someSees 1 = .ok (.istore_n 3, 1) := by decide +kernel
theorem dX12_someSees_2 : decode cX12_someSees 2 = .ok (.iconst 0, 1) := by decide +kernel
theorem dX12_someSees_3 : decode cX12_someSees 3 = .ok (.istore 4, 2) := by decide +kernel
theorem dX12_someSees_5 : decode cX12_someSees 5 = .ok (.iload 4, 2) := by decide +kernel
theorem dX12_someSees_7 : decode cX12_someSees 7 = .ok (.aload_n 0, 1) := by decide +kernel
theorem dX12_someSees_8 : decode cX12_someSees 8 = .ok (.invokevirtual 102, 3) := by decide +kernel
theorem dX12_someSees_11 : decode cX12_someSees 11 = .ok (.if_icmp .ge 30, 3) := by decide +kernel
theorem dX12_someSees_14 : decode cX12_someSees 14 = .ok (.iload_n 3, 1) := by decide +kernel
theorem dX12_someSees_15 : decode cX12_someSees 15 = .ok (.ifCond .ne 14, 3) := by decide +kernel
theorem dX12_someSees_18 : decode cX12_someSees 18 = .ok (.aload_n 0, 1) := by decide +kernel
theorem dX12_someSees_19 : decode cX12_someSees 19 = .ok (.iload 4, 2) := by decide +kernel
theorem dX12_someSees_21 : decode cX12_someSees 21 = .ok (.iload_n 1, 1) := by decide +kernel
theorem dX12_someSees_22 : decode cX12_someSees 22 = .ok (.iload_n 2, 1) := by decide +kernel
theorem dX12_someSees_23 : decode cX12_someSees 23 = .ok (.invokevirtual 361, 3) := by decide +kernel
theorem dX12_someSees_26 : decode cX12_someSees 26 = .ok (.ifCond .eq 7, 3) := by decide +kernel
theorem dX12_someSees_29 : decode cX12_someSees 29 = .ok (.iconst 1, 1) := by decide +kernel
theorem dX12_someSees_30 : decode cX12_someSees 30 = .ok (.goto 4, 3) := by decide +kernel
theorem dX12_someSees_33 : decode cX12_someSees 33 = .ok (.iconst 0, 1) := by decide +kernel
theorem dX12_someSees_34 : decode cX12_someSees 34 = .ok (.istore_n 3, 1) := by decide +kernel
theorem dX12_someSees_35 : decode cX12_someSees 35 = .ok (.iinc 4 1, 3) := by decide +kernel
theorem dX12_someSees_38 : decode cX12_someSees 38 = .ok (.goto (-33), 3) := by decide +kernel
theorem dX12_someSees_41 : decode cX12_someSees 41 = .ok (.iload_n 3, 1) := by decide +kernel
theorem dX12_someSees_42 : decode cX12_someSees 42 = .ok (.ireturn, 1) := by decide +kernel
theorem dX12_foundOut_0 : decode cX12_foundOut 0 = .ok (.iconst 0, 1) := by decide +kernel
theorem dX12_foundOut_1 : decode cX12_foundOut 1 = .ok (.istore_n 2, 1) := by decide +kernel
theorem dX12_foundOut_2 : decode cX12_foundOut 2 = .ok (.iconst 0, 1) := by decide +kernel
theorem dX12_foundOut_3 : decode cX12_foundOut 3 = .ok (.istore_n 3, 1) := by decide +kernel
theorem dX12_foundOut_4 : decode cX12_foundOut 4 = .ok (.iload_n 3, 1) := by decide +kernel
theorem dX12_foundOut_5 : decode cX12_foundOut 5 = .ok (.aload_n 0, 1) := by decide +kernel
theorem dX12_foundOut_6 : decode cX12_foundOut 6 = .ok (.invokevirtual 99, 3) := by decide +kernel
theorem dX12_foundOut_9 : decode cX12_foundOut 9 = .ok (.if_icmp .ge 33, 3) := by decide +kernel
theorem dX12_foundOut_12 : decode cX12_foundOut 12 = .ok (.iload_n 2, 1) := by decide +kernel
theorem dX12_foundOut_13 : decode cX12_foundOut 13 = .ok (.aload_n 0, 1) := by decide +kernel
theorem dX12_foundOut_14 : decode cX12_foundOut 14 = .ok (.iload_n 1, 1) := by decide +kernel
theorem dX12_foundOut_15 : decode cX12_foundOut 15 = .ok (.aload_n 0, 1) := by decide +kernel
theorem dX12_foundOut_16 : decode cX12_foundOut 16 = .ok (.iload_n 3, 1) := by decide +kernel
theorem dX12_foundOut_17 : decode cX12_foundOut 17 = .ok (.iload_n 1, 1) := by decide +kernel
theorem dX12_foundOut_18 : decode cX12_foundOut 18 = .ok (.invokevirtual 364, 3) := by decide +kernel
theorem dX12_foundOut_21 : decode cX12_foundOut 21 = .ok (.invokevirtual 367, 3) := by decide +kernel
theorem dX12_foundOut_24 : decode cX12_foundOut 24 = .ok (.ifCond .eq 9, 3) := by decide +kernel
theorem dX12_foundOut_27 : decode cX12_foundOut 27 = .ok (.iconst 1, 1) := by decide +kernel
theorem dX12_foundOut_28 : decode cX12_foundOut 28 = .ok (.iload_n 3, 1) := by decide +kernel
theorem dX12_foundOut_29 : decode cX12_foundOut 29 = .ok (.ishl, 1) := by decide +kernel
theorem dX12_foundOut_30 : decode cX12_foundOut 30 = .ok (.goto 4, 3) := by decide +kernel
theorem dX12_foundOut_33 : decode cX12_foundOut 33 = .ok (.iconst 0, 1) := by decide +kernel
theorem dX12_foundOut_34 : decode cX12_foundOut 34 = .ok (.ior, 1) := by decide +kernel
theorem dX12_foundOut_35 : decode cX12_foundOut 35 = .ok (.istore_n 2, 1) := by decide +kernel
theorem dX12_foundOut_36 : decode cX12_foundOut 36 = .ok (.iinc 3 1, 3) := by decide +kernel
theorem dX12_foundOut_39 : decode cX12_foundOut 39 = .ok (.goto (-35), 3) := by decide +kernel
theorem dX12_foundOut_42 : decode cX12_foundOut 42 = .ok (.iload_n 2, 1) := by decide +kernel
theorem dX12_foundOut_43 : decode cX12_foundOut 43 = .ok (.ireturn, 1) := by decide +kernel
theorem dX12_witness_0 : decode cX12_witness 0 = .ok (.aload_n 0, 1) := by decide +kernel
theorem dX12_witness_1 : decode cX12_witness 1 = .ok (.iconst 0, 1) := by decide +kernel
theorem dX12_witness_2 : decode cX12_witness 2 = .ok (.putfield 3, 3) := by decide +kernel
theorem dX12_witness_5 : decode cX12_witness 5 = .ok (.aload_n 0, 1) := by decide +kernel
theorem dX12_witness_6 : decode cX12_witness 6 = .ok (.aload_n 0, 1) := by decide +kernel
theorem dX12_witness_7 : decode cX12_witness 7 = .ok (.iload_n 1, 1) := by decide +kernel
theorem dX12_witness_8 : decode cX12_witness 8 = .ok (.invokevirtual 370, 3) := by decide +kernel
theorem dX12_witness_11 : decode cX12_witness 11 = .ok (.iconst 1, 1) := by decide +kernel
theorem dX12_witness_12 : decode cX12_witness 12 = .ok (.invokevirtual 282, 3) := by decide +kernel
theorem dX12_witness_15 : decode cX12_witness 15 = .ok (.ifCond .ne 26, 3) := by decide +kernel
theorem dX12_witness_18 : decode cX12_witness 18 = .ok (.aload_n 0, 1) := by decide +kernel
theorem dX12_witness_19 : decode cX12_witness 19 = .ok (.iload_n 2, 1) := by decide +kernel
theorem dX12_witness_20 : decode cX12_witness 20 = .ok (.iconst 0, 1) := by decide +kernel
theorem dX12_witness_21 : decode cX12_witness 21 = .ok (.bipush 8, 2) := by decide +kernel
theorem dX12_witness_23 : decode cX12_witness 23 = .ok (.invokestatic 95, 3) := by decide +kernel
theorem dX12_witness_26 : decode cX12_witness 26 = .ok (.ifCond .ne 7, 3) := by decide +kernel
theorem dX12_witness_29 : decode cX12_witness 29 = .ok (.iconst 1, 1) := by decide +kernel
theorem dX12_witness_30 : decode cX12_witness 30 = .ok (.goto 4, 3) := by decide +kernel
theorem dX12_witness_33 : decode cX12_witness 33 = .ok (.iconst 0, 1) := by decide +kernel
theorem dX12_witness_34 : decode cX12_witness 34 = .ok (.iconst 2, 1) := by decide +kernel
theorem dX12_witness_35 : decode cX12_witness 35 = .ok (.invokevirtual 282, 3) := by decide +kernel
theorem dX12_witness_38 : decode cX12_witness 38 = .ok (.ifCond .eq 5, 3) := by decide +kernel
theorem dX12_witness_41 : decode cX12_witness 41 = .ok (.iconst 0, 1) := by decide +kernel
theorem dX12_witness_42 : decode cX12_witness 42 = .ok (.ireturn, 1) := by decide +kernel
theorem dX12_witness_43 : decode cX12_witness 43 = .ok (.iload_n 2, 1) := by decide +kernel
theorem dX12_witness_44 : decode cX12_witness 44 = .ok (.tableswitch 76 5 8 #[32, 38, 64, 70], 32) := by decide +kernel
theorem dX12_witness_76 : decode cX12_witness 76 = .ok (.aload_n 0, 1) := by decide +kernel
theorem dX12_witness_77 : decode cX12_witness 77 = .ok (.iload_n 1, 1) := by decide +kernel
theorem dX12_witness_78 : decode cX12_witness 78 = .ok (.invokevirtual 333, 3) := by decide +kernel
theorem dX12_witness_81 : decode cX12_witness 81 = .ok (.ireturn, 1) := by decide +kernel
theorem dX12_witness_82 : decode cX12_witness 82 = .ok (.aload_n 0, 1) := by decide +kernel
theorem dX12_witness_83 : decode cX12_witness 83 = .ok (.invokevirtual 373, 3) := by decide +kernel
theorem dX12_witness_86 : decode cX12_witness 86 = .ok (.ifCond .ne 7, 3) := by decide +kernel
theorem dX12_witness_89 : decode cX12_witness 89 = .ok (.iconst 0, 1) := by decide +kernel
theorem dX12_witness_90 : decode cX12_witness 90 = .ok (.goto 17, 3) := by decide +kernel
theorem dX12_witness_93 : decode cX12_witness 93 = .ok (.bipush 100, 2) := by decide +kernel
theorem dX12_witness_95 : decode cX12_witness 95 = .ok (.aload_n 0, 1) := by decide +kernel
theorem dX12_witness_96 : decode cX12_witness 96 = .ok (.iload_n 1, 1) := by decide +kernel
theorem dX12_witness_97 : decode cX12_witness 97 = .ok (.iconst 3, 1) := by decide +kernel
theorem dX12_witness_98 : decode cX12_witness 98 = .ok (.invokevirtual 285, 3) := by decide +kernel
theorem dX12_witness_101 : decode cX12_witness 101 = .ok (.imul, 1) := by decide +kernel
theorem dX12_witness_102 : decode cX12_witness 102 = .ok (.aload_n 0, 1) := by decide +kernel
theorem dX12_witness_103 : decode cX12_witness 103 = .ok (.invokevirtual 373, 3) := by decide +kernel
theorem dX12_witness_106 : decode cX12_witness 106 = .ok (.idiv, 1) := by decide +kernel
theorem dX12_witness_107 : decode cX12_witness 107 = .ok (.ireturn, 1) := by decide +kernel
theorem dX12_witness_108 : decode cX12_witness 108 = .ok (.aload_n 0, 1) := by decide +kernel
theorem dX12_witness_109 : decode cX12_witness 109 = .ok (.iload_n 1, 1) := by decide +kernel
theorem dX12_witness_110 : decode cX12_witness 110 = .ok (.invokevirtual 376, 3) := by decide +kernel
theorem dX12_witness_113 : decode cX12_witness 113 = .ok (.ireturn, 1) := by decide +kernel
theorem dX12_witness_114 : decode cX12_witness 114 = .ok (.aload_n 0, 1) := by decide +kernel
theorem dX12_witness_115 : decode cX12_witness 115 = .ok (.iload_n 1, 1) := by decide +kernel
theorem dX12_witness_116 : decode cX12_witness 116 = .ok (.invokevirtual 379, 3) := by decide +kernel
theorem dX12_witness_119 : decode cX12_witness 119 = .ok (.ireturn, 1) := by decide +kernel
theorem dX12_witness_120 : decode cX12_witness 120 = .ok (.aload_n 0, 1) := by decide +kernel
theorem dX12_witness_121 : decode cX12_witness 121 = .ok (.iload_n 1, 1) := by decide +kernel
theorem dX12_witness_122 : decode cX12_witness 122 = .ok (.iload_n 2, 1) := by decide +kernel
theorem dX12_witness_123 : decode cX12_witness 123 = .ok (.invokevirtual 285, 3) := by decide +kernel
theorem dX12_witness_126 : decode cX12_witness 126 = .ok (.ireturn, 1) := by decide +kernel
theorem dX12_saying_0 : decode cX12_saying 0 = .ok (.iconst 0, 1) := by decide +kernel
theorem dX12_saying_1 : decode cX12_saying 1 = .ok (.istore_n 2, 1) := by decide +kernel
theorem dX12_saying_2 : decode cX12_saying 2 = .ok (.iconst 0, 1) := by decide +kernel
theorem dX12_saying_3 : decode cX12_saying 3 = .ok (.istore_n 3, 1) := by decide +kernel
theorem dX12_saying_4 : decode cX12_saying 4 = .ok (.iload_n 3, 1) := by decide +kernel
theorem dX12_saying_5 : decode cX12_saying 5 = .ok (.aload_n 0, 1) := by decide +kernel
theorem dX12_saying_6 : decode cX12_saying 6 = .ok (.invokevirtual 99, 3) := by decide +kernel
theorem dX12_saying_9 : decode cX12_saying 9 = .ok (.if_icmp .ge 35, 3) := by decide +kernel
theorem dX12_saying_12 : decode cX12_saying 12 = .ok (.iload_n 2, 1) := by decide +kernel
theorem dX12_saying_13 : decode cX12_saying 13 = .ok (.aload_n 0, 1) := by decide +kernel
theorem dX12_saying_14 : decode cX12_saying 14 = .ok (.getfield 13, 3) := by decide +kernel
theorem dX12_saying_17 : decode cX12_saying 17 = .ok (.bipush 12, 2) := by decide +kernel
theorem dX12_saying_19 : decode cX12_saying 19 = .ok (.iload_n 3, 1) := by decide +kernel
theorem dX12_saying_20 : decode cX12_saying 20 = .ok (.iadd, 1) := by decide +kernel
theorem dX12_saying_21 : decode cX12_saying 21 = .ok (.iaload, 1) := by decide +kernel
theorem dX12_saying_22 : decode cX12_saying 22 = .ok (.iload_n 1, 1) := by decide +kernel
theorem dX12_saying_23 : decode cX12_saying 23 = .ok (.invokestatic 147, 3) := by decide +kernel
theorem dX12_saying_26 : decode cX12_saying 26 = .ok (.ifCond .eq 9, 3) := by decide +kernel
theorem dX12_saying_29 : decode cX12_saying 29 = .ok (.iconst 1, 1) := by decide +kernel
theorem dX12_saying_30 : decode cX12_saying 30 = .ok (.iload_n 3, 1) := by decide +kernel
theorem dX12_saying_31 : decode cX12_saying 31 = .ok (.ishl, 1) := by decide +kernel
theorem dX12_saying_32 : decode cX12_saying 32 = .ok (.goto 4, 3) := by decide +kernel
theorem dX12_saying_35 : decode cX12_saying 35 = .ok (.iconst 0, 1) := by decide +kernel
theorem dX12_saying_36 : decode cX12_saying 36 = .ok (.ior, 1) := by decide +kernel
theorem dX12_saying_37 : decode cX12_saying 37 = .ok (.istore_n 2, 1) := by decide +kernel
theorem dX12_saying_38 : decode cX12_saying 38 = .ok (.iinc 3 1, 3) := by decide +kernel
theorem dX12_saying_41 : decode cX12_saying 41 = .ok (.goto (-37), 3) := by decide +kernel
theorem dX12_saying_44 : decode cX12_saying 44 = .ok (.iload_n 2, 1) := by decide +kernel
theorem dX12_saying_45 : decode cX12_saying 45 = .ok (.ireturn, 1) := by decide +kernel
theorem dX12_thing_0 : decode cX12_thing 0 = .ok (.aload_n 0, 1) := by decide +kernel
theorem dX12_thing_1 : decode cX12_thing 1 = .ok (.iconst 0, 1) := by decide +kernel
theorem dX12_thing_2 : decode cX12_thing 2 = .ok (.putfield 3, 3) := by decide +kernel
theorem dX12_thing_5 : decode cX12_thing 5 = .ok (.aload_n 0, 1) := by decide +kernel
theorem dX12_thing_6 : decode cX12_thing 6 = .ok (.aload_n 0, 1) := by decide +kernel
theorem dX12_thing_7 : decode cX12_thing 7 = .ok (.iload_n 1, 1) := by decide +kernel
theorem dX12_thing_8 : decode cX12_thing 8 = .ok (.invokevirtual 382, 3) := by decide +kernel
theorem dX12_thing_11 : decode cX12_thing 11 = .ok (.iconst 1, 1) := by decide +kernel
theorem dX12_thing_12 : decode cX12_thing 12 = .ok (.invokevirtual 282, 3) := by decide +kernel
theorem dX12_thing_15 : decode cX12_thing 15 = .ok (.ifCond .ne 25, 3) := by decide +kernel
theorem dX12_thing_18 : decode cX12_thing 18 = .ok (.aload_n 0, 1) := by decide +kernel
theorem dX12_thing_19 : decode cX12_thing 19 = .ok (.iload_n 2, 1) := by decide +kernel
theorem dX12_thing_20 : decode cX12_thing 20 = .ok (.iconst 0, 1) := by decide +kernel
theorem dX12_thing_21 : decode cX12_thing 21 = .ok (.iconst 4, 1) := by decide +kernel
theorem dX12_thing_22 : decode cX12_thing 22 = .ok (.invokestatic 95, 3) := by decide +kernel
theorem dX12_thing_25 : decode cX12_thing 25 = .ok (.ifCond .ne 7, 3) := by decide +kernel
theorem dX12_thing_28 : decode cX12_thing 28 = .ok (.iconst 1, 1) := by decide +kernel
theorem dX12_thing_29 : decode cX12_thing 29 = .ok (.goto 4, 3) := by decide +kernel
theorem dX12_thing_32 : decode cX12_thing 32 = .ok (.iconst 0, 1) := by decide +kernel
theorem dX12_thing_33 : decode cX12_thing 33 = .ok (.iconst 2, 1) := by decide +kernel
theorem dX12_thing_34 : decode cX12_thing 34 = .ok (.invokevirtual 282, 3) := by decide +kernel
theorem dX12_thing_37 : decode cX12_thing 37 = .ok (.ifCond .eq 5, 3) := by decide +kernel
theorem dX12_thing_40 : decode cX12_thing 40 = .ok (.iconst 0, 1) := by decide +kernel
theorem dX12_thing_41 : decode cX12_thing 41 = .ok (.ireturn, 1) := by decide +kernel
theorem dX12_thing_42 : decode cX12_thing 42 = .ok (.iload_n 2, 1) := by decide +kernel
theorem dX12_thing_43 : decode cX12_thing 43 = .ok (.iconst 3, 1) := by decide +kernel
theorem dX12_thing_44 : decode cX12_thing 44 = .ok (.if_icmp .ne 11, 3) := by decide +kernel
theorem dX12_thing_47 : decode cX12_thing 47 = .ok (.aload_n 0, 1) := by decide +kernel
theorem dX12_thing_48 : decode cX12_thing 48 = .ok (.iload_n 1, 1) := by decide +kernel
theorem dX12_thing_49 : decode cX12_thing 49 = .ok (.invokevirtual 385, 3) := by decide +kernel
theorem dX12_thing_52 : decode cX12_thing 52 = .ok (.goto 22, 3) := by decide +kernel
theorem dX12_thing_55 : decode cX12_thing 55 = .ok (.iload_n 2, 1) := by decide +kernel
theorem dX12_thing_56 : decode cX12_thing 56 = .ok (.iconst 4, 1) := by decide +kernel
theorem dX12_thing_57 : decode cX12_thing 57 = .ok (.if_icmp .ne 11, 3) := by decide +kernel
theorem dX12_thing_60 : decode cX12_thing 60 = .ok (.aload_n 0, 1) := by decide +kernel
theorem dX12_thing_61 : decode cX12_thing 61 = .ok (.iload_n 1, 1) := by decide +kernel
theorem dX12_thing_62 : decode cX12_thing 62 = .ok (.invokevirtual 388, 3) := by decide +kernel
theorem dX12_thing_65 : decode cX12_thing 65 = .ok (.goto 9, 3) := by decide +kernel
theorem dX12_thing_68 : decode cX12_thing 68 = .ok (.aload_n 0, 1) := by decide +kernel
theorem dX12_thing_69 : decode cX12_thing 69 = .ok (.iload_n 1, 1) := by decide +kernel
theorem dX12_thing_70 : decode cX12_thing 70 = .ok (.iload_n 2, 1) := by decide +kernel
theorem dX12_thing_71 : decode cX12_thing 71 = .ok (.invokevirtual 89, 3) := by decide +kernel
theorem dX12_thing_74 : decode cX12_thing 74 = .ok (.ireturn, 1) := by decide +kernel
theorem dX12_asks_0 : decode cX12_asks 0 = .ok (.aload_n 0, 1) := by decide +kernel
theorem dX12_asks_1 : decode cX12_asks 1 = .ok (.iconst 0, 1) := by decide +kernel
theorem dX12_asks_2 : decode cX12_asks 2 = .ok (.putfield 3, 3) := by decide +kernel
theorem dX12_asks_5 : decode cX12_asks 5 = .ok (.aload_n 0, 1) := by decide +kernel
theorem dX12_asks_6 : decode cX12_asks 6 = .ok (.aload_n 0, 1) := by decide +kernel
theorem dX12_asks_7 : decode cX12_asks 7 = .ok (.iload_n 1, 1) := by decide +kernel
theorem dX12_asks_8 : decode cX12_asks 8 = .ok (.invokevirtual 391, 3) := by decide +kernel
theorem dX12_asks_11 : decode cX12_asks 11 = .ok (.iconst 1, 1) := by decide +kernel
theorem dX12_asks_12 : decode cX12_asks 12 = .ok (.invokevirtual 282, 3) := by decide +kernel
theorem dX12_asks_15 : decode cX12_asks 15 = .ok (.ifCond .eq 7, 3) := by decide +kernel
theorem dX12_asks_18 : decode cX12_asks 18 = .ok (.iconst 0, 1) := by decide +kernel
theorem dX12_asks_19 : decode cX12_asks 19 = .ok (.goto 12, 3) := by decide +kernel
theorem dX12_asks_22 : decode cX12_asks 22 = .ok (.aload_n 0, 1) := by decide +kernel
theorem dX12_asks_23 : decode cX12_asks 23 = .ok (.getfield 13, 3) := by decide +kernel
theorem dX12_asks_26 : decode cX12_asks 26 = .ok (.bipush 12, 2) := by decide +kernel
theorem dX12_asks_28 : decode cX12_asks 28 = .ok (.iload_n 1, 1) := by decide +kernel
theorem dX12_asks_29 : decode cX12_asks 29 = .ok (.iadd, 1) := by decide +kernel
theorem dX12_asks_30 : decode cX12_asks 30 = .ok (.iaload, 1) := by decide +kernel
theorem dX12_asks_31 : decode cX12_asks 31 = .ok (.ireturn, 1) := by decide +kernel
theorem dX12_sharp_0 : decode cX12_sharp 0 = .ok (.aload_n 0, 1) := by decide +kernel
theorem dX12_sharp_1 : decode cX12_sharp 1 = .ok (.iconst 0, 1) := by decide +kernel
theorem dX12_sharp_2 : decode cX12_sharp 2 = .ok (.putfield 3, 3) := by decide +kernel
theorem dX12_sharp_5 : decode cX12_sharp 5 = .ok (.aload_n 0, 1) := by decide +kernel
theorem dX12_sharp_6 : decode cX12_sharp 6 = .ok (.aload_n 0, 1) := by decide +kernel
theorem dX12_sharp_7 : decode cX12_sharp 7 = .ok (.iload_n 1, 1) := by decide +kernel
theorem dX12_sharp_8 : decode cX12_sharp 8 = .ok (.invokevirtual 394, 3) := by decide +kernel
theorem dX12_sharp_11 : decode cX12_sharp 11 = .ok (.iconst 1, 1) := by decide +kernel
theorem dX12_sharp_12 : decode cX12_sharp 12 = .ok (.invokevirtual 282, 3) := by decide +kernel
theorem dX12_sharp_15 : decode cX12_sharp 15 = .ok (.ifCond .eq 7, 3) := by decide +kernel
theorem dX12_sharp_18 : decode cX12_sharp 18 = .ok (.iconst 0, 1) := by decide +kernel
theorem dX12_sharp_19 : decode cX12_sharp 19 = .ok (.goto 12, 3) := by decide +kernel
theorem dX12_sharp_22 : decode cX12_sharp 22 = .ok (.aload_n 0, 1) := by decide +kernel
theorem dX12_sharp_23 : decode cX12_sharp 23 = .ok (.getfield 13, 3) := by decide +kernel
theorem dX12_sharp_26 : decode cX12_sharp 26 = .ok (.bipush 20, 2) := by decide +kernel
theorem dX12_sharp_28 : decode cX12_sharp 28 = .ok (.iload_n 1, 1) := by decide +kernel
theorem dX12_sharp_29 : decode cX12_sharp 29 = .ok (.iadd, 1) := by decide +kernel
theorem dX12_sharp_30 : decode cX12_sharp 30 = .ok (.iaload, 1) := by decide +kernel
theorem dX12_sharp_31 : decode cX12_sharp 31 = .ok (.ireturn, 1) := by decide +kernel
theorem dX12_stands_0 : decode cX12_stands 0 = .ok (.aload_n 0, 1) := by decide +kernel
theorem dX12_stands_1 : decode cX12_stands 1 = .ok (.iconst 0, 1) := by decide +kernel
theorem dX12_stands_2 : decode cX12_stands 2 = .ok (.putfield 3, 3) := by decide +kernel
theorem dX12_stands_5 : decode cX12_stands 5 = .ok (.aload_n 0, 1) := by decide +kernel
theorem dX12_stands_6 : decode cX12_stands 6 = .ok (.aload_n 0, 1) := by decide +kernel
theorem dX12_stands_7 : decode cX12_stands 7 = .ok (.iload_n 1, 1) := by decide +kernel
theorem dX12_stands_8 : decode cX12_stands 8 = .ok (.invokevirtual 370, 3) := by decide +kernel
theorem dX12_stands_11 : decode cX12_stands 11 = .ok (.iconst 1, 1) := by decide +kernel
theorem dX12_stands_12 : decode cX12_stands 12 = .ok (.invokevirtual 282, 3) := by decide +kernel
theorem dX12_stands_15 : decode cX12_stands 15 = .ok (.ifCond .eq 7, 3) := by decide +kernel
theorem dX12_stands_18 : decode cX12_stands 18 = .ok (.iconst 0, 1) := by decide +kernel
theorem dX12_stands_19 : decode cX12_stands 19 = .ok (.goto 12, 3) := by decide +kernel
theorem dX12_stands_22 : decode cX12_stands 22 = .ok (.aload_n 0, 1) := by decide +kernel
theorem dX12_stands_23 : decode cX12_stands 23 = .ok (.getfield 13, 3) := by decide +kernel
theorem dX12_stands_26 : decode cX12_stands 26 = .ok (.bipush 24, 2) := by decide +kernel
theorem dX12_stands_28 : decode cX12_stands 28 = .ok (.iload_n 1, 1) := by decide +kernel
theorem dX12_stands_29 : decode cX12_stands 29 = .ok (.iadd, 1) := by decide +kernel
theorem dX12_stands_30 : decode cX12_stands 30 = .ok (.iaload, 1) := by decide +kernel
theorem dX12_stands_31 : decode cX12_stands 31 = .ok (.ireturn, 1) := by decide +kernel
theorem dX12_say_0 : decode cX12_say 0 = .ok (.aload_n 0, 1) := by decide +kernel
theorem dX12_say_1 : decode cX12_say 1 = .ok (.iconst 0, 1) := by decide +kernel
theorem dX12_say_2 : decode cX12_say 2 = .ok (.putfield 3, 3) := by decide +kernel
theorem dX12_say_5 : decode cX12_say 5 = .ok (.aload_n 0, 1) := by decide +kernel
theorem dX12_say_6 : decode cX12_say 6 = .ok (.aload_n 0, 1) := by decide +kernel
theorem dX12_say_7 : decode cX12_say 7 = .ok (.iload_n 1, 1) := by decide +kernel
theorem dX12_say_8 : decode cX12_say 8 = .ok (.invokevirtual 391, 3) := by decide +kernel
theorem dX12_say_11 : decode cX12_say 11 = .ok (.iconst 1, 1) := by decide +kernel
theorem dX12_say_12 : decode cX12_say 12 = .ok (.invokevirtual 282, 3) := by decide +kernel
theorem dX12_say_15 : decode cX12_say 15 = .ok (.ifCond .eq 5, 3) := by decide +kernel
theorem dX12_say_18 : decode cX12_say 18 = .ok (.iconst 0, 1) := by decide +kernel
theorem dX12_say_19 : decode cX12_say 19 = .ok (.ireturn, 1) := by decide +kernel
theorem dX12_say_20 : decode cX12_say 20 = .ok (.aload_n 0, 1) := by decide +kernel
theorem dX12_say_21 : decode cX12_say 21 = .ok (.invokevirtual 351, 3) := by decide +kernel
theorem dX12_say_24 : decode cX12_say 24 = .ok (.aload_n 0, 1) := by decide +kernel
theorem dX12_say_25 : decode cX12_say 25 = .ok (.iload_n 1, 1) := by decide +kernel
theorem dX12_say_26 : decode cX12_say 26 = .ok (.iconst 0, 1) := by decide +kernel
theorem dX12_say_27 : decode cX12_say 27 = .ok (.invokevirtual 342, 3) := by decide +kernel
theorem dX12_say_30 : decode cX12_say 30 = .ok (.ireturn, 1) := by decide +kernel
theorem dX12_noTwo_0 : decode cX12_noTwo 0 = .ok (.aload_n 0, 1) := by decide +kernel
theorem dX12_noTwo_1 : decode cX12_noTwo 1 = .ok (.iconst 0, 1) := by decide +kernel
theorem dX12_noTwo_2 : decode cX12_noTwo 2 = .ok (.putfield 3, 3) := by decide +kernel
theorem dX12_noTwo_5 : decode cX12_noTwo 5 = .ok (.aload_n 0, 1) := by decide +kernel
theorem dX12_noTwo_6 : decode cX12_noTwo 6 = .ok (.aload_n 0, 1) := by decide +kernel
theorem dX12_noTwo_7 : decode cX12_noTwo 7 = .ok (.iload_n 1, 1) := by decide +kernel
theorem dX12_noTwo_8 : decode cX12_noTwo 8 = .ok (.invokevirtual 370, 3) := by decide +kernel
theorem dX12_noTwo_11 : decode cX12_noTwo 11 = .ok (.ifCond .ne 11, 3) := by decide +kernel
theorem dX12_noTwo_14 : decode cX12_noTwo 14 = .ok (.aload_n 0, 1) := by decide +kernel
theorem dX12_noTwo_15 : decode cX12_noTwo 15 = .ok (.iload_n 2, 1) := by decide +kernel
theorem dX12_noTwo_16 : decode cX12_noTwo 16 = .ok (.invokevirtual 370, 3) := by decide +kernel
theorem dX12_noTwo_19 : decode cX12_noTwo 19 = .ok (.ifCond .eq 7, 3) := by decide +kernel
theorem dX12_noTwo_22 : decode cX12_noTwo 22 = .ok (.iconst 1, 1) := by decide +kernel
theorem dX12_noTwo_23 : decode cX12_noTwo 23 = .ok (.goto 4, 3) := by decide +kernel
theorem dX12_noTwo_26 : decode cX12_noTwo 26 = .ok (.iconst 0, 1) := by decide +kernel
theorem dX12_noTwo_27 : decode cX12_noTwo 27 = .ok (.iconst 1, 1) := by decide +kernel
theorem dX12_noTwo_28 : decode cX12_noTwo 28 = .ok (.invokevirtual 282, 3) := by decide +kernel
theorem dX12_noTwo_31 : decode cX12_noTwo 31 = .ok (.ifCond .ne 21, 3) := by decide +kernel
theorem dX12_noTwo_34 : decode cX12_noTwo 34 = .ok (.aload_n 0, 1) := by decide +kernel
theorem dX12_noTwo_35 : decode cX12_noTwo 35 = .ok (.iload_n 1, 1) := by decide +kernel
theorem dX12_noTwo_36 : decode cX12_noTwo 36 = .ok (.iload_n 2, 1) := by decide +kernel
theorem dX12_noTwo_37 : decode cX12_noTwo 37 = .ok (.if_icmp .ne 7, 3) := by decide +kernel
theorem dX12_noTwo_40 : decode cX12_noTwo 40 = .ok (.iconst 1, 1) := by decide +kernel
theorem dX12_noTwo_41 : decode cX12_noTwo 41 = .ok (.goto 4, 3) := by decide +kernel
theorem dX12_noTwo_44 : decode cX12_noTwo 44 = .ok (.iconst 0, 1) := by decide +kernel
theorem dX12_noTwo_45 : decode cX12_noTwo 45 = .ok (.iconst 2, 1) := by decide +kernel
theorem dX12_noTwo_46 : decode cX12_noTwo 46 = .ok (.invokevirtual 282, 3) := by decide +kernel
theorem dX12_noTwo_49 : decode cX12_noTwo 49 = .ok (.ifCond .eq 7, 3) := by decide +kernel
theorem dX12_noTwo_52 : decode cX12_noTwo 52 = .ok (.iconst 1, 1) := by decide +kernel
theorem dX12_noTwo_53 : decode cX12_noTwo 53 = .ok (.goto 4, 3) := by decide +kernel
theorem dX12_noTwo_56 : decode cX12_noTwo 56 = .ok (.iconst 0, 1) := by decide +kernel
theorem dX12_noTwo_57 : decode cX12_noTwo 57 = .ok (.ireturn, 1) := by decide +kernel
theorem dX12_change_0 : decode cX12_change 0 = .ok (.aload_n 0, 1) := by decide +kernel
theorem dX12_change_1 : decode cX12_change 1 = .ok (.iload_n 1, 1) := by decide +kernel
theorem dX12_change_2 : decode cX12_change 2 = .ok (.iload_n 2, 1) := by decide +kernel
theorem dX12_change_3 : decode cX12_change 3 = .ok (.invokevirtual 397, 3) := by decide +kernel
theorem dX12_change_6 : decode cX12_change 6 = .ok (.ifCond .eq 5, 3) := by decide +kernel
theorem dX12_change_9 : decode cX12_change 9 = .ok (.iconst 0, 1) := by decide +kernel
theorem dX12_change_10 : decode cX12_change 10 = .ok (.ireturn, 1) := by decide +kernel
theorem dX12_change_11 : decode cX12_change 11 = .ok (.aload_n 0, 1) := by decide +kernel
theorem dX12_change_12 : decode cX12_change 12 = .ok (.invokevirtual 351, 3) := by decide +kernel
theorem dX12_change_15 : decode cX12_change 15 = .ok (.aload_n 0, 1) := by decide +kernel
theorem dX12_change_16 : decode cX12_change 16 = .ok (.iload_n 1, 1) := by decide +kernel
theorem dX12_change_17 : decode cX12_change 17 = .ok (.iconst 4, 1) := by decide +kernel
theorem dX12_change_18 : decode cX12_change 18 = .ok (.invokevirtual 285, 3) := by decide +kernel
theorem dX12_change_21 : decode cX12_change 21 = .ok (.istore_n 3, 1) := by decide +kernel
theorem dX12_change_22 : decode cX12_change 22 = .ok (.aload_n 0, 1) := by decide +kernel
theorem dX12_change_23 : decode cX12_change 23 = .ok (.getfield 13, 3) := by decide +kernel
theorem dX12_change_26 : decode cX12_change 26 = .ok (.iload_n 1, 1) := by decide +kernel
theorem dX12_change_27 : decode cX12_change 27 = .ok (.iconst 4, 1) := by decide +kernel
theorem dX12_change_28 : decode cX12_change 28 = .ok (.invokestatic 78, 3) := by decide +kernel
theorem dX12_change_31 : decode cX12_change 31 = .ok (.aload_n 0, 1) := by decide +kernel
theorem dX12_change_32 : decode cX12_change 32 = .ok (.iload_n 2, 1) := by decide +kernel
theorem dX12_change_33 : decode cX12_change 33 = .ok (.iconst 4, 1) := by decide +kernel
theorem dX12_change_34 : decode cX12_change 34 = .ok (.invokevirtual 285, 3) := by decide +kernel
theorem dX12_change_37 : decode cX12_change 37 = .ok (.iastore, 1) := by decide +kernel
theorem dX12_change_38 : decode cX12_change 38 = .ok (.aload_n 0, 1) := by decide +kernel
theorem dX12_change_39 : decode cX12_change 39 = .ok (.getfield 13, 3) := by decide +kernel
theorem dX12_change_42 : decode cX12_change 42 = .ok (.iload_n 2, 1) := by decide +kernel
theorem dX12_change_43 : decode cX12_change 43 = .ok (.iconst 4, 1) := by decide +kernel
theorem dX12_change_44 : decode cX12_change 44 = .ok (.invokestatic 78, 3) := by decide +kernel
theorem dX12_change_47 : decode cX12_change 47 = .ok (.iload_n 3, 1) := by decide +kernel
theorem dX12_change_48 : decode cX12_change 48 = .ok (.iastore, 1) := by decide +kernel
theorem dX12_change_49 : decode cX12_change 49 = .ok (.aload_n 0, 1) := by decide +kernel
theorem dX12_change_50 : decode cX12_change 50 = .ok (.getfield 13, 3) := by decide +kernel
theorem dX12_change_53 : decode cX12_change 53 = .ok (.bipush 24, 2) := by decide +kernel
theorem dX12_change_55 : decode cX12_change 55 = .ok (.aload_n 0, 1) := by decide +kernel
theorem dX12_change_56 : decode cX12_change 56 = .ok (.iload_n 1, 1) := by decide +kernel
theorem dX12_change_57 : decode cX12_change 57 = .ok (.iconst 4, 1) := by decide +kernel
theorem dX12_change_58 : decode cX12_change 58 = .ok (.invokevirtual 285, 3) := by decide +kernel
theorem dX12_change_61 : decode cX12_change 61 = .ok (.iadd, 1) := by decide +kernel
theorem dX12_change_62 : decode cX12_change 62 = .ok (.iload_n 1, 1) := by decide +kernel
theorem dX12_change_63 : decode cX12_change 63 = .ok (.iastore, 1) := by decide +kernel
theorem dX12_change_64 : decode cX12_change 64 = .ok (.aload_n 0, 1) := by decide +kernel
theorem dX12_change_65 : decode cX12_change 65 = .ok (.getfield 13, 3) := by decide +kernel
theorem dX12_change_68 : decode cX12_change 68 = .ok (.bipush 24, 2) := by decide +kernel
theorem dX12_change_70 : decode cX12_change 70 = .ok (.iload_n 3, 1) := by decide +kernel
theorem dX12_change_71 : decode cX12_change 71 = .ok (.iadd, 1) := by decide +kernel
theorem dX12_change_72 : decode cX12_change 72 = .ok (.iload_n 2, 1) := by decide +kernel
theorem dX12_change_73 : decode cX12_change 73 = .ok (.iastore, 1) := by decide +kernel
theorem dX12_change_74 : decode cX12_change 74 = .ok (.aload_n 0, 1) := by decide +kernel
theorem dX12_change_75 : decode cX12_change 75 = .ok (.iload_n 1, 1) := by decide +kernel
theorem dX12_change_76 : decode cX12_change 76 = .ok (.iconst 4, 1) := by decide +kernel
theorem dX12_change_77 : decode cX12_change 77 = .ok (.invokevirtual 285, 3) := by decide +kernel
theorem dX12_change_80 : decode cX12_change 80 = .ok (.ireturn, 1) := by decide +kernel
theorem dX12_isNow_0 : decode cX12_isNow 0 = .ok (.aload_n 0, 1) := by decide +kernel
theorem dX12_isNow_1 : decode cX12_isNow 1 = .ok (.invokevirtual 351, 3) := by decide +kernel
theorem dX12_isNow_4 : decode cX12_isNow 4 = .ok (.aload_n 0, 1) := by decide +kernel
theorem dX12_isNow_5 : decode cX12_isNow 5 = .ok (.getfield 13, 3) := by decide +kernel
theorem dX12_isNow_8 : decode cX12_isNow 8 = .ok (.iload_n 1, 1) := by decide +kernel
theorem dX12_isNow_9 : decode cX12_isNow 9 = .ok (.iaload, 1) := by decide +kernel
theorem dX12_isNow_10 : decode cX12_isNow 10 = .ok (.istore_n 3, 1) := by decide +kernel
theorem dX12_isNow_11 : decode cX12_isNow 11 = .ok (.aload_n 0, 1) := by decide +kernel
theorem dX12_isNow_12 : decode cX12_isNow 12 = .ok (.getfield 13, 3) := by decide +kernel
theorem dX12_isNow_15 : decode cX12_isNow 15 = .ok (.iload_n 1, 1) := by decide +kernel
theorem dX12_isNow_16 : decode cX12_isNow 16 = .ok (.iload_n 2, 1) := by decide +kernel
theorem dX12_isNow_17 : decode cX12_isNow 17 = .ok (.iastore, 1) := by decide +kernel
theorem dX12_isNow_18 : decode cX12_isNow 18 = .ok (.iload_n 3, 1) := by decide +kernel
theorem dX12_isNow_19 : decode cX12_isNow 19 = .ok (.ireturn, 1) := by decide +kernel
theorem dX12_drink_0 : decode cX12_drink 0 = .ok (.aload_n 0, 1) := by decide +kernel
theorem dX12_drink_1 : decode cX12_drink 1 = .ok (.iconst 0, 1) := by decide +kernel
theorem dX12_drink_2 : decode cX12_drink 2 = .ok (.putfield 3, 3) := by decide +kernel
theorem dX12_drink_5 : decode cX12_drink 5 = .ok (.aload_n 0, 1) := by decide +kernel
theorem dX12_drink_6 : decode cX12_drink 6 = .ok (.aload_n 0, 1) := by decide +kernel
theorem dX12_drink_7 : decode cX12_drink 7 = .ok (.iload_n 1, 1) := by decide +kernel
theorem dX12_drink_8 : decode cX12_drink 8 = .ok (.invokevirtual 370, 3) := by decide +kernel
theorem dX12_drink_11 : decode cX12_drink 11 = .ok (.iconst 1, 1) := by decide +kernel
theorem dX12_drink_12 : decode cX12_drink 12 = .ok (.invokevirtual 282, 3) := by decide +kernel
theorem dX12_drink_15 : decode cX12_drink 15 = .ok (.ifCond .ne 26, 3) := by decide +kernel
theorem dX12_drink_18 : decode cX12_drink 18 = .ok (.aload_n 0, 1) := by decide +kernel
theorem dX12_drink_19 : decode cX12_drink 19 = .ok (.iload_n 2, 1) := by decide +kernel
theorem dX12_drink_20 : decode cX12_drink 20 = .ok (.iconst 1, 1) := by decide +kernel
theorem dX12_drink_21 : decode cX12_drink 21 = .ok (.bipush 99, 2) := by decide +kernel
theorem dX12_drink_23 : decode cX12_drink 23 = .ok (.invokestatic 95, 3) := by decide +kernel
theorem dX12_drink_26 : decode cX12_drink 26 = .ok (.ifCond .ne 7, 3) := by decide +kernel
theorem dX12_drink_29 : decode cX12_drink 29 = .ok (.iconst 1, 1) := by decide +kernel
theorem dX12_drink_30 : decode cX12_drink 30 = .ok (.goto 4, 3) := by decide +kernel
theorem dX12_drink_33 : decode cX12_drink 33 = .ok (.iconst 0, 1) := by decide +kernel
theorem dX12_drink_34 : decode cX12_drink 34 = .ok (.iconst 2, 1) := by decide +kernel
theorem dX12_drink_35 : decode cX12_drink 35 = .ok (.invokevirtual 282, 3) := by decide +kernel
theorem dX12_drink_38 : decode cX12_drink 38 = .ok (.ifCond .eq 5, 3) := by decide +kernel
theorem dX12_drink_41 : decode cX12_drink 41 = .ok (.iconst 0, 1) := by decide +kernel
theorem dX12_drink_42 : decode cX12_drink 42 = .ok (.ireturn, 1) := by decide +kernel
theorem dX12_drink_43 : decode cX12_drink 43 = .ok (.aload_n 0, 1) := by decide +kernel
theorem dX12_drink_44 : decode cX12_drink 44 = .ok (.iload_n 1, 1) := by decide +kernel
theorem dX12_drink_45 : decode cX12_drink 45 = .ok (.iconst 2, 1) := by decide +kernel
theorem dX12_drink_46 : decode cX12_drink 46 = .ok (.invokestatic 78, 3) := by decide +kernel
theorem dX12_drink_49 : decode cX12_drink 49 = .ok (.bipush 99, 2) := by decide +kernel
theorem dX12_drink_51 : decode cX12_drink 51 = .ok (.aload_n 0, 1) := by decide +kernel
theorem dX12_drink_52 : decode cX12_drink 52 = .ok (.iload_n 1, 1) := by decide +kernel
theorem dX12_drink_53 : decode cX12_drink 53 = .ok (.iconst 2, 1) := by decide +kernel
theorem dX12_drink_54 : decode cX12_drink 54 = .ok (.invokevirtual 285, 3) := by decide +kernel
theorem dX12_drink_57 : decode cX12_drink 57 = .ok (.iload_n 2, 1) := by decide +kernel
theorem dX12_drink_58 : decode cX12_drink 58 = .ok (.iadd, 1) := by decide +kernel
theorem dX12_drink_59 : decode cX12_drink 59 = .ok (.invokestatic 310, 3) := by decide +kernel
theorem dX12_drink_62 : decode cX12_drink 62 = .ok (.invokevirtual 400, 3) := by decide +kernel
theorem dX12_drink_65 : decode cX12_drink 65 = .ok (.pop, 1) := by decide +kernel
theorem dX12_drink_66 : decode cX12_drink 66 = .ok (.aload_n 0, 1) := by decide +kernel
theorem dX12_drink_67 : decode cX12_drink 67 = .ok (.iload_n 1, 1) := by decide +kernel
theorem dX12_drink_68 : decode cX12_drink 68 = .ok (.iconst 2, 1) := by decide +kernel
theorem dX12_drink_69 : decode cX12_drink 69 = .ok (.invokevirtual 285, 3) := by decide +kernel
theorem dX12_drink_72 : decode cX12_drink 72 = .ok (.ireturn, 1) := by decide +kernel
theorem dX12_heat_0 : decode cX12_heat 0 = .ok (.aload_n 0, 1) := by decide +kernel
theorem dX12_heat_1 : decode cX12_heat 1 = .ok (.iconst 0, 1) := by decide +kernel
theorem dX12_heat_2 : decode cX12_heat 2 = .ok (.putfield 3, 3) := by decide +kernel
theorem dX12_heat_5 : decode cX12_heat 5 = .ok (.aload_n 0, 1) := by decide +kernel
theorem dX12_heat_6 : decode cX12_heat 6 = .ok (.iload_n 1, 1) := by decide +kernel
theorem dX12_heat_7 : decode cX12_heat 7 = .ok (.iconst 0, 1) := by decide +kernel
theorem dX12_heat_8 : decode cX12_heat 8 = .ok (.bipush 9, 2) := by decide +kernel
theorem dX12_heat_10 : decode cX12_heat 10 = .ok (.invokestatic 95, 3) := by decide +kernel
theorem dX12_heat_13 : decode cX12_heat 13 = .ok (.ifCond .ne 7, 3) := by decide +kernel
theorem dX12_heat_16 : decode cX12_heat 16 = .ok (.iconst 1, 1) := by decide +kernel
theorem dX12_heat_17 : decode cX12_heat 17 = .ok (.goto 4, 3) := by decide +kernel
theorem dX12_heat_20 : decode cX12_heat 20 = .ok (.iconst 0, 1) := by decide +kernel
theorem dX12_heat_21 : decode cX12_heat 21 = .ok (.iconst 1, 1) := by decide +kernel
theorem dX12_heat_22 : decode cX12_heat 22 = .ok (.invokevirtual 282, 3) := by decide +kernel
theorem dX12_heat_25 : decode cX12_heat 25 = .ok (.ifCond .eq 7, 3) := by decide +kernel
theorem dX12_heat_28 : decode cX12_heat 28 = .ok (.iconst 0, 1) := by decide +kernel
theorem dX12_heat_29 : decode cX12_heat 29 = .ok (.goto 10, 3) := by decide +kernel
theorem dX12_heat_32 : decode cX12_heat 32 = .ok (.aload_n 0, 1) := by decide +kernel
theorem dX12_heat_33 : decode cX12_heat 33 = .ok (.bipush 7, 2) := by decide +kernel
theorem dX12_heat_35 : decode cX12_heat 35 = .ok (.iload_n 1, 1) := by decide +kernel
theorem dX12_heat_36 : decode cX12_heat 36 = .ok (.invokevirtual 400, 3) := by decide +kernel
theorem dX12_heat_39 : decode cX12_heat 39 = .ok (.ireturn, 1) := by decide +kernel
theorem dX12_tell_0 : decode cX12_tell 0 = .ok (.aload_n 0, 1) := by decide +kernel
theorem dX12_tell_1 : decode cX12_tell 1 = .ok (.iconst 0, 1) := by decide +kernel
theorem dX12_tell_2 : decode cX12_tell 2 = .ok (.putfield 3, 3) := by decide +kernel
theorem dX12_tell_5 : decode cX12_tell 5 = .ok (.aload_n 0, 1) := by decide +kernel
theorem dX12_tell_6 : decode cX12_tell 6 = .ok (.aload_n 0, 1) := by decide +kernel
theorem dX12_tell_7 : decode cX12_tell 7 = .ok (.iload_n 1, 1) := by decide +kernel
theorem dX12_tell_8 : decode cX12_tell 8 = .ok (.invokevirtual 382, 3) := by decide +kernel
theorem dX12_tell_11 : decode cX12_tell 11 = .ok (.iconst 1, 1) := by decide +kernel
theorem dX12_tell_12 : decode cX12_tell 12 = .ok (.invokevirtual 282, 3) := by decide +kernel
theorem dX12_tell_15 : decode cX12_tell 15 = .ok (.ifCond .ne 37, 3) := by decide +kernel
theorem dX12_tell_18 : decode cX12_tell 18 = .ok (.aload_n 0, 1) := by decide +kernel
theorem dX12_tell_19 : decode cX12_tell 19 = .ok (.iload_n 1, 1) := by decide +kernel
theorem dX12_tell_20 : decode cX12_tell 20 = .ok (.iconst 2, 1) := by decide +kernel
theorem dX12_tell_21 : decode cX12_tell 21 = .ok (.invokestatic 82, 3) := by decide +kernel
theorem dX12_tell_24 : decode cX12_tell 24 = .ok (.iload_n 2, 1) := by decide +kernel
theorem dX12_tell_25 : decode cX12_tell 25 = .ok (.ifCond .eq 7, 3) := by decide +kernel
theorem dX12_tell_28 : decode cX12_tell 28 = .ok (.iconst 1, 1) := by decide +kernel
theorem dX12_tell_29 : decode cX12_tell 29 = .ok (.goto 4, 3) := by decide +kernel
theorem dX12_tell_32 : decode cX12_tell 32 = .ok (.iconst 0, 1) := by decide +kernel
theorem dX12_tell_33 : decode cX12_tell 33 = .ok (.invokevirtual 400, 3) := by decide +kernel
theorem dX12_tell_36 : decode cX12_tell 36 = .ok (.iload_n 2, 1) := by decide +kernel
theorem dX12_tell_37 : decode cX12_tell 37 = .ok (.ifCond .eq 7, 3) := by decide +kernel
theorem dX12_tell_40 : decode cX12_tell 40 = .ok (.iconst 1, 1) := by decide +kernel
theorem dX12_tell_41 : decode cX12_tell 41 = .ok (.goto 4, 3) := by decide +kernel
theorem dX12_tell_44 : decode cX12_tell 44 = .ok (.iconst 0, 1) := by decide +kernel
theorem dX12_tell_45 : decode cX12_tell 45 = .ok (.if_icmp .eq 7, 3) := by decide +kernel
theorem dX12_tell_48 : decode cX12_tell 48 = .ok (.iconst 1, 1) := by decide +kernel
theorem dX12_tell_49 : decode cX12_tell 49 = .ok (.goto 4, 3) := by decide +kernel
theorem dX12_tell_52 : decode cX12_tell 52 = .ok (.iconst 0, 1) := by decide +kernel
theorem dX12_tell_53 : decode cX12_tell 53 = .ok (.ireturn, 1) := by decide +kernel
theorem dX12_words_0 : decode cX12_words 0 = .ok (.aload_n 0, 1) := by decide +kernel
theorem dX12_words_1 : decode cX12_words 1 = .ok (.iconst 0, 1) := by decide +kernel
theorem dX12_words_2 : decode cX12_words 2 = .ok (.putfield 3, 3) := by decide +kernel
theorem dX12_words_5 : decode cX12_words 5 = .ok (.aload_n 0, 1) := by decide +kernel
theorem dX12_words_6 : decode cX12_words 6 = .ok (.aload_n 0, 1) := by decide +kernel
theorem dX12_words_7 : decode cX12_words 7 = .ok (.iload_n 1, 1) := by decide +kernel
theorem dX12_words_8 : decode cX12_words 8 = .ok (.invokevirtual 391, 3) := by decide +kernel
theorem dX12_words_11 : decode cX12_words 11 = .ok (.iconst 1, 1) := by decide +kernel
theorem dX12_words_12 : decode cX12_words 12 = .ok (.invokevirtual 282, 3) := by decide +kernel
theorem dX12_words_15 : decode cX12_words 15 = .ok (.ifCond .ne 25, 3) := by decide +kernel
theorem dX12_words_18 : decode cX12_words 18 = .ok (.aload_n 0, 1) := by decide +kernel
theorem dX12_words_19 : decode cX12_words 19 = .ok (.iload_n 2, 1) := by decide +kernel
theorem dX12_words_20 : decode cX12_words 20 = .ok (.aload_n 0, 1) := by decide +kernel
theorem dX12_words_21 : decode cX12_words 21 = .ok (.invokevirtual 403, 3) := by decide +kernel
theorem dX12_words_24 : decode cX12_words 24 = .ok (.iand, 1) := by decide +kernel
theorem dX12_words_25 : decode cX12_words 25 = .ok (.ifCond .ne 7, 3) := by decide +kernel
theorem dX12_words_28 : decode cX12_words 28 = .ok (.iconst 1, 1) := by decide +kernel
theorem dX12_words_29 : decode cX12_words 29 = .ok (.goto 4, 3) := by decide +kernel
theorem dX12_words_32 : decode cX12_words 32 = .ok (.iconst 0, 1) := by decide +kernel
theorem dX12_words_33 : decode cX12_words 33 = .ok (.iconst 2, 1) := by decide +kernel
theorem dX12_words_34 : decode cX12_words 34 = .ok (.invokevirtual 282, 3) := by decide +kernel
theorem dX12_words_37 : decode cX12_words 37 = .ok (.ifCond .eq 7, 3) := by decide +kernel
theorem dX12_words_40 : decode cX12_words 40 = .ok (.iconst 0, 1) := by decide +kernel
theorem dX12_words_41 : decode cX12_words 41 = .ok (.goto 17, 3) := by decide +kernel
theorem dX12_words_44 : decode cX12_words 44 = .ok (.aload_n 0, 1) := by decide +kernel
theorem dX12_words_45 : decode cX12_words 45 = .ok (.bipush 12, 2) := by decide +kernel
theorem dX12_words_47 : decode cX12_words 47 = .ok (.iload_n 1, 1) := by decide +kernel
theorem dX12_words_48 : decode cX12_words 48 = .ok (.iadd, 1) := by decide +kernel
theorem dX12_words_49 : decode cX12_words 49 = .ok (.iload_n 2, 1) := by decide +kernel
theorem dX12_words_50 : decode cX12_words 50 = .ok (.aload_n 0, 1) := by decide +kernel
theorem dX12_words_51 : decode cX12_words 51 = .ok (.invokevirtual 403, 3) := by decide +kernel
theorem dX12_words_54 : decode cX12_words 54 = .ok (.iand, 1) := by decide +kernel
theorem dX12_words_55 : decode cX12_words 55 = .ok (.invokevirtual 400, 3) := by decide +kernel
theorem dX12_words_58 : decode cX12_words 58 = .ok (.ireturn, 1) := by decide +kernel
theorem dX12_powder_0 : decode cX12_powder 0 = .ok (.aload_n 0, 1) := by decide +kernel
theorem dX12_powder_1 : decode cX12_powder 1 = .ok (.iconst 0, 1) := by decide +kernel
theorem dX12_powder_2 : decode cX12_powder 2 = .ok (.putfield 3, 3) := by decide +kernel
theorem dX12_powder_5 : decode cX12_powder 5 = .ok (.aload_n 0, 1) := by decide +kernel
theorem dX12_powder_6 : decode cX12_powder 6 = .ok (.aload_n 0, 1) := by decide +kernel
theorem dX12_powder_7 : decode cX12_powder 7 = .ok (.iload_n 1, 1) := by decide +kernel
theorem dX12_powder_8 : decode cX12_powder 8 = .ok (.invokevirtual 370, 3) := by decide +kernel
theorem dX12_powder_11 : decode cX12_powder 11 = .ok (.iconst 1, 1) := by decide +kernel
theorem dX12_powder_12 : decode cX12_powder 12 = .ok (.invokevirtual 282, 3) := by decide +kernel
theorem dX12_powder_15 : decode cX12_powder 15 = .ok (.ifCond .eq 7, 3) := by decide +kernel
theorem dX12_powder_18 : decode cX12_powder 18 = .ok (.iconst 0, 1) := by decide +kernel
theorem dX12_powder_19 : decode cX12_powder 19 = .ok (.goto 13, 3) := by decide +kernel
theorem dX12_powder_22 : decode cX12_powder 22 = .ok (.aload_n 0, 1) := by decide +kernel
theorem dX12_powder_23 : decode cX12_powder 23 = .ok (.iload_n 1, 1) := by decide +kernel
theorem dX12_powder_24 : decode cX12_powder 24 = .ok (.iconst 3, 1) := by decide +kernel
theorem dX12_powder_25 : decode cX12_powder 25 = .ok (.invokestatic 78, 3) := by decide +kernel
theorem dX12_powder_28 : decode cX12_powder 28 = .ok (.iconst 0, 1) := by decide +kernel
theorem dX12_powder_29 : decode cX12_powder 29 = .ok (.invokevirtual 400, 3) := by decide +kernel
theorem dX12_powder_32 : decode cX12_powder 32 = .ok (.ireturn, 1) := by decide +kernel
theorem dX12_rises_0 : decode cX12_rises 0 = .ok (.aload_n 0, 1) := by decide +kernel
theorem dX12_rises_1 : decode cX12_rises 1 = .ok (.iconst 0, 1) := by decide +kernel
theorem dX12_rises_2 : decode cX12_rises 2 = .ok (.putfield 3, 3) := by decide +kernel
theorem dX12_rises_5 : decode cX12_rises 5 = .ok (.aload_n 0, 1) := by decide +kernel
theorem dX12_rises_6 : decode cX12_rises 6 = .ok (.aload_n 0, 1) := by decide +kernel
theorem dX12_rises_7 : decode cX12_rises 7 = .ok (.iload_n 1, 1) := by decide +kernel
theorem dX12_rises_8 : decode cX12_rises 8 = .ok (.invokevirtual 391, 3) := by decide +kernel
theorem dX12_rises_11 : decode cX12_rises 11 = .ok (.ifCond .ne 11, 3) := by decide +kernel
theorem dX12_rises_14 : decode cX12_rises 14 = .ok (.aload_n 0, 1) := by decide +kernel
theorem dX12_rises_15 : decode cX12_rises 15 = .ok (.iload_n 2, 1) := by decide +kernel
theorem dX12_rises_16 : decode cX12_rises 16 = .ok (.invokevirtual 370, 3) := by decide +kernel
theorem dX12_rises_19 : decode cX12_rises 19 = .ok (.ifCond .eq 7, 3) := by decide +kernel
theorem dX12_rises_22 : decode cX12_rises 22 = .ok (.iconst 1, 1) := by decide +kernel
theorem dX12_rises_23 : decode cX12_rises 23 = .ok (.goto 4, 3) := by decide +kernel
theorem dX12_rises_26 : decode cX12_rises 26 = .ok (.iconst 0, 1) := by decide +kernel
theorem dX12_rises_27 : decode cX12_rises 27 = .ok (.iconst 1, 1) := by decide +kernel
theorem dX12_rises_28 : decode cX12_rises 28 = .ok (.invokevirtual 282, 3) := by decide +kernel
theorem dX12_rises_31 : decode cX12_rises 31 = .ok (.ifCond .eq 7, 3) := by decide +kernel
theorem dX12_rises_34 : decode cX12_rises 34 = .ok (.iconst 0, 1) := by decide +kernel
theorem dX12_rises_35 : decode cX12_rises 35 = .ok (.goto 9, 3) := by decide +kernel
theorem dX12_rises_38 : decode cX12_rises 38 = .ok (.aload_n 0, 1) := by decide +kernel
theorem dX12_rises_39 : decode cX12_rises 39 = .ok (.iload_n 1, 1) := by decide +kernel
theorem dX12_rises_40 : decode cX12_rises 40 = .ok (.iload_n 2, 1) := by decide +kernel
theorem dX12_rises_41 : decode cX12_rises 41 = .ok (.invokevirtual 364, 3) := by decide +kernel
theorem dX12_rises_44 : decode cX12_rises 44 = .ok (.ireturn, 1) := by decide +kernel
theorem dX12_seenBy_0 : decode cX12_seenBy 0 = .ok (.aload_n 0, 1) := by decide +kernel
theorem dX12_seenBy_1 : decode cX12_seenBy 1 = .ok (.aload_n 0, 1) := by decide +kernel
theorem dX12_seenBy_2 : decode cX12_seenBy 2 = .ok (.iload_n 1, 1) := by decide +kernel
theorem dX12_seenBy_3 : decode cX12_seenBy 3 = .ok (.invokevirtual 322, 3) := by decide +kernel
theorem dX12_seenBy_6 : decode cX12_seenBy 6 = .ok (.invokevirtual 325, 3) := by decide +kernel
theorem dX12_seenBy_9 : decode cX12_seenBy 9 = .ok (.iconst 0, 1) := by decide +kernel
theorem dX12_seenBy_10 : decode cX12_seenBy 10 = .ok (.istore_n 3, 1) := by decide +kernel
theorem dX12_seenBy_11 : decode cX12_seenBy 11 = .ok (.iconst 0, 1) := by decide +kernel
theorem dX12_seenBy_12 : decode cX12_seenBy 12 = .ok (.istore 4, 2) := by decide +kernel
theorem dX12_seenBy_14 : decode cX12_seenBy 14 = .ok (.iload 4, 2) := by decide +kernel
theorem dX12_seenBy_16 : decode cX12_seenBy 16 = .ok (.aload_n 0, 1) := by decide +kernel
theorem dX12_seenBy_17 : decode cX12_seenBy 17 = .ok (.invokevirtual 92, 3) := by decide +kernel
theorem dX12_seenBy_20 : decode cX12_seenBy 20 = .ok (.if_icmp .ge 37, 3) := by decide +kernel
theorem dX12_seenBy_23 : decode cX12_seenBy 23 = .ok (.iload_n 3, 1) := by decide +kernel
theorem dX12_seenBy_24 : decode cX12_seenBy 24 = .ok (.aload_n 0, 1) := by decide +kernel
theorem dX12_seenBy_25 : decode cX12_seenBy 25 = .ok (.iload_n 2, 1) := by decide +kernel
theorem dX12_seenBy_26 : decode cX12_seenBy 26 = .ok (.iload 4, 2) := by decide +kernel
theorem dX12_seenBy_28 : decode cX12_seenBy 28 = .ok (.aload_n 0, 1) := by decide +kernel
theorem dX12_seenBy_29 : decode cX12_seenBy 29 = .ok (.getfield 42, 3) := by decide +kernel
theorem dX12_seenBy_32 : decode cX12_seenBy 32 = .ok (.iload 4, 2) := by decide +kernel
theorem dX12_seenBy_34 : decode cX12_seenBy 34 = .ok (.iaload, 1) := by decide +kernel
theorem dX12_seenBy_35 : decode cX12_seenBy 35 = .ok (.invokevirtual 361, 3) := by decide +kernel
theorem dX12_seenBy_38 : decode cX12_seenBy 38 = .ok (.ifCond .eq 10, 3) := by decide +kernel
theorem dX12_seenBy_41 : decode cX12_seenBy 41 = .ok (.iconst 1, 1) := by decide +kernel
theorem dX12_seenBy_42 : decode cX12_seenBy 42 = .ok (.iload 4, 2) := by decide +kernel
theorem dX12_seenBy_44 : decode cX12_seenBy 44 = .ok (.ishl, 1) := by decide +kernel
theorem dX12_seenBy_45 : decode cX12_seenBy 45 = .ok (.goto 4, 3) := by decide +kernel
theorem dX12_seenBy_48 : decode cX12_seenBy 48 = .ok (.iconst 0, 1) := by decide +kernel
theorem dX12_seenBy_49 : decode cX12_seenBy 49 = .ok (.ior, 1) := by decide +kernel
theorem dX12_seenBy_50 : decode cX12_seenBy 50 = .ok (.istore_n 3, 1) := by decide +kernel
theorem dX12_seenBy_51 : decode cX12_seenBy 51 = .ok (.iinc 4 1, 3) := by decide +kernel
theorem dX12_seenBy_54 : decode cX12_seenBy 54 = .ok (.goto (-40), 3) := by decide +kernel
theorem dX12_seenBy_57 : decode cX12_seenBy 57 = .ok (.iload_n 3, 1) := by decide +kernel
theorem dX12_seenBy_58 : decode cX12_seenBy 58 = .ok (.ireturn, 1) := by decide +kernel
theorem dX12_seen_0 : decode cX12_seen 0 = .ok (.aload_n 0, 1) := by decide +kernel
theorem dX12_seen_1 : decode cX12_seen 1 = .ok (.iconst 0, 1) := by decide +kernel
theorem dX12_seen_2 : decode cX12_seen 2 = .ok (.putfield 3, 3) := by decide +kernel
theorem dX12_seen_5 : decode cX12_seen 5 = .ok (.aload_n 0, 1) := by decide +kernel
theorem dX12_seen_6 : decode cX12_seen 6 = .ok (.aload_n 0, 1) := by decide +kernel
theorem dX12_seen_7 : decode cX12_seen 7 = .ok (.iload_n 1, 1) := by decide +kernel
theorem dX12_seen_8 : decode cX12_seen 8 = .ok (.invokevirtual 391, 3) := by decide +kernel
theorem dX12_seen_11 : decode cX12_seen 11 = .ok (.ifCond .ne 11, 3) := by decide +kernel
theorem dX12_seen_14 : decode cX12_seen 14 = .ok (.aload_n 0, 1) := by decide +kernel
theorem dX12_seen_15 : decode cX12_seen 15 = .ok (.iload_n 2, 1) := by decide +kernel
theorem dX12_seen_16 : decode cX12_seen 16 = .ok (.invokevirtual 394, 3) := by decide +kernel
theorem dX12_seen_19 : decode cX12_seen 19 = .ok (.ifCond .eq 7, 3) := by decide +kernel
theorem dX12_seen_22 : decode cX12_seen 22 = .ok (.iconst 1, 1) := by decide +kernel
theorem dX12_seen_23 : decode cX12_seen 23 = .ok (.goto 4, 3) := by decide +kernel
theorem dX12_seen_26 : decode cX12_seen 26 = .ok (.iconst 0, 1) := by decide +kernel
theorem dX12_seen_27 : decode cX12_seen 27 = .ok (.iconst 1, 1) := by decide +kernel
theorem dX12_seen_28 : decode cX12_seen 28 = .ok (.invokevirtual 282, 3) := by decide +kernel
theorem dX12_seen_31 : decode cX12_seen 31 = .ok (.ifCond .eq 7, 3) := by decide +kernel
theorem dX12_seen_34 : decode cX12_seen 34 = .ok (.iconst 0, 1) := by decide +kernel
theorem dX12_seen_35 : decode cX12_seen 35 = .ok (.goto 9, 3) := by decide +kernel
theorem dX12_seen_38 : decode cX12_seen 38 = .ok (.aload_n 0, 1) := by decide +kernel
theorem dX12_seen_39 : decode cX12_seen 39 = .ok (.iload_n 1, 1) := by decide +kernel
theorem dX12_seen_40 : decode cX12_seen 40 = .ok (.iload_n 2, 1) := by decide +kernel
theorem dX12_seen_41 : decode cX12_seen 41 = .ok (.invokevirtual 406, 3) := by decide +kernel
theorem dX12_seen_44 : decode cX12_seen 44 = .ok (.ireturn, 1) := by decide +kernel
theorem dX12_givenAway_0 : decode cX12_givenAway 0 = .ok (.aload_n 0, 1) := by decide +kernel
theorem dX12_givenAway_1 : decode cX12_givenAway 1 = .ok (.aload_n 0, 1) := by decide +kernel
theorem dX12_givenAway_2 : decode cX12_givenAway 2 = .ok (.iload_n 1, 1) := by decide +kernel
theorem dX12_givenAway_3 : decode cX12_givenAway 3 = .ok (.invokevirtual 322, 3) := by decide +kernel
theorem dX12_givenAway_6 : decode cX12_givenAway 6 = .ok (.invokevirtual 325, 3) := by decide +kernel
theorem dX12_givenAway_9 : decode cX12_givenAway 9 = .ok (.iconst 0, 1) := by decide +kernel
theorem dX12_givenAway_10 : decode cX12_givenAway 10 = .ok (.istore_n 2, 1) := by decide +kernel
theorem dX12_givenAway_11 : decode cX12_givenAway 11 = .ok (.iconst 0, 1) := by decide +kernel
theorem dX12_givenAway_12 : decode cX12_givenAway 12 = .ok (.istore_n 3, 1) := by decide +kernel
theorem dX12_givenAway_13 : decode cX12_givenAway 13 = .ok (.iload_n 3, 1) := by decide +kernel
theorem dX12_givenAway_14 : decode cX12_givenAway 14 = .ok (.aload_n 0, 1) := by decide +kernel
theorem dX12_givenAway_15 : decode cX12_givenAway 15 = .ok (.invokevirtual 92, 3) := by decide +kernel
theorem dX12_givenAway_18 : decode cX12_givenAway 18 = .ok (.if_icmp .ge 41, 3) := by decide +kernel
theorem dX12_givenAway_21 : decode cX12_givenAway 21 = .ok (.iload_n 2, 1) := by decide +kernel
theorem dX12_givenAway_22 : decode cX12_givenAway 22 = .ok (.aload_n 0, 1) := by decide +kernel
theorem dX12_givenAway_23 : decode cX12_givenAway 23 = .ok (.getfield 42, 3) := by decide +kernel
theorem dX12_givenAway_26 : decode cX12_givenAway 26 = .ok (.iload_n 3, 1) := by decide +kernel
theorem dX12_givenAway_27 : decode cX12_givenAway 27 = .ok (.iaload, 1) := by decide +kernel
theorem dX12_givenAway_28 : decode cX12_givenAway 28 = .ok (.ifCond .le 22, 3) := by decide +kernel
theorem dX12_givenAway_31 : decode cX12_givenAway 31 = .ok (.aload_n 0, 1) := by decide +kernel
theorem dX12_givenAway_32 : decode cX12_givenAway 32 = .ok (.iload_n 3, 1) := by decide +kernel
theorem dX12_givenAway_33 : decode cX12_givenAway 33 = .ok (.aload_n 0, 1) := by decide +kernel
theorem dX12_givenAway_34 : decode cX12_givenAway 34 = .ok (.iload_n 1, 1) := by decide +kernel
theorem dX12_givenAway_35 : decode cX12_givenAway 35 = .ok (.invokevirtual 322, 3) := by decide +kernel
theorem dX12_givenAway_38 : decode cX12_givenAway 38 = .ok (.invokevirtual 288, 3) := by decide +kernel
theorem dX12_givenAway_41 : decode cX12_givenAway 41 = .ok (.ifCond .ne 9, 3) := by decide +kernel
theorem dX12_givenAway_44 : decode cX12_givenAway 44 = .ok (.iconst 1, 1) := by decide +kernel
theorem dX12_givenAway_45 : decode cX12_givenAway 45 = .ok (.iload_n 3, 1) := by decide +kernel
theorem dX12_givenAway_46 : decode cX12_givenAway 46 = .ok (.ishl, 1) := by decide +kernel
theorem dX12_givenAway_47 : decode cX12_givenAway 47 = .ok (.goto 4, 3) := by decide +kernel
theorem dX12_givenAway_50 : decode cX12_givenAway 50 = .ok (.iconst 0, 1) := by decide +kernel
theorem dX12_givenAway_51 : decode cX12_givenAway 51 = .ok (.ior, 1) := by decide +kernel
theorem dX12_givenAway_52 : decode cX12_givenAway 52 = .ok (.istore_n 2, 1) := by decide +kernel
theorem dX12_givenAway_53 : decode cX12_givenAway 53 = .ok (.iinc 3 1, 3) := by decide +kernel
theorem dX12_givenAway_56 : decode cX12_givenAway 56 = .ok (.goto (-43), 3) := by decide +kernel
theorem dX12_givenAway_59 : decode cX12_givenAway 59 = .ok (.iload_n 2, 1) := by decide +kernel
theorem dX12_givenAway_60 : decode cX12_givenAway 60 = .ok (.ireturn, 1) := by decide +kernel
theorem dX12_gives_0 : decode cX12_gives 0 = .ok (.aload_n 0, 1) := by decide +kernel
theorem dX12_gives_1 : decode cX12_gives 1 = .ok (.iconst 0, 1) := by decide +kernel
theorem dX12_gives_2 : decode cX12_gives 2 = .ok (.putfield 3, 3) := by decide +kernel
theorem dX12_gives_5 : decode cX12_gives 5 = .ok (.aload_n 0, 1) := by decide +kernel
theorem dX12_gives_6 : decode cX12_gives 6 = .ok (.aload_n 0, 1) := by decide +kernel
theorem dX12_gives_7 : decode cX12_gives 7 = .ok (.iload_n 1, 1) := by decide +kernel
theorem dX12_gives_8 : decode cX12_gives 8 = .ok (.invokevirtual 391, 3) := by decide +kernel
theorem dX12_gives_11 : decode cX12_gives 11 = .ok (.iconst 1, 1) := by decide +kernel
theorem dX12_gives_12 : decode cX12_gives 12 = .ok (.invokevirtual 282, 3) := by decide +kernel
theorem dX12_gives_15 : decode cX12_gives 15 = .ok (.ifCond .eq 7, 3) := by decide +kernel
theorem dX12_gives_18 : decode cX12_gives 18 = .ok (.iconst 0, 1) := by decide +kernel
theorem dX12_gives_19 : decode cX12_gives 19 = .ok (.goto 8, 3) := by decide +kernel
theorem dX12_gives_22 : decode cX12_gives 22 = .ok (.aload_n 0, 1) := by decide +kernel
theorem dX12_gives_23 : decode cX12_gives 23 = .ok (.iload_n 1, 1) := by decide +kernel
theorem dX12_gives_24 : decode cX12_gives 24 = .ok (.invokevirtual 409, 3) := by decide +kernel
theorem dX12_gives_27 : decode cX12_gives 27 = .ok (.ireturn, 1) := by decide +kernel
theorem dX12_writes_0 : decode cX12_writes 0 = .ok (.aload_n 0, 1) := by decide +kernel
theorem dX12_writes_1 : decode cX12_writes 1 = .ok (.iconst 0, 1) := by decide +kernel
theorem dX12_writes_2 : decode cX12_writes 2 = .ok (.putfield 3, 3) := by decide +kernel
theorem dX12_writes_5 : decode cX12_writes 5 = .ok (.aload_n 0, 1) := by decide +kernel
theorem dX12_writes_6 : decode cX12_writes 6 = .ok (.aload_n 0, 1) := by decide +kernel
theorem dX12_writes_7 : decode cX12_writes 7 = .ok (.iload_n 1, 1) := by decide +kernel
theorem dX12_writes_8 : decode cX12_writes 8 = .ok (.invokevirtual 394, 3) := by decide +kernel
theorem dX12_writes_11 : decode cX12_writes 11 = .ok (.ifCond .ne 11, 3) := by decide +kernel
theorem dX12_writes_14 : decode cX12_writes 14 = .ok (.aload_n 0, 1) := by decide +kernel
theorem dX12_writes_15 : decode cX12_writes 15 = .ok (.iload_n 2, 1) := by decide +kernel
theorem dX12_writes_16 : decode cX12_writes 16 = .ok (.invokevirtual 370, 3) := by decide +kernel
theorem dX12_writes_19 : decode cX12_writes 19 = .ok (.ifCond .eq 7, 3) := by decide +kernel
theorem dX12_writes_22 : decode cX12_writes 22 = .ok (.iconst 1, 1) := by decide +kernel
theorem dX12_writes_23 : decode cX12_writes 23 = .ok (.goto 4, 3) := by decide +kernel
theorem dX12_writes_26 : decode cX12_writes 26 = .ok (.iconst 0, 1) := by decide +kernel
theorem dX12_writes_27 : decode cX12_writes 27 = .ok (.iconst 1, 1) := by decide +kernel
theorem dX12_writes_28 : decode cX12_writes 28 = .ok (.invokevirtual 282, 3) := by decide +kernel
theorem dX12_writes_31 : decode cX12_writes 31 = .ok (.ifCond .eq 7, 3) := by decide +kernel
theorem dX12_writes_34 : decode cX12_writes 34 = .ok (.iconst 0, 1) := by decide +kernel
theorem dX12_writes_35 : decode cX12_writes 35 = .ok (.goto 14, 3) := by decide +kernel
theorem dX12_writes_38 : decode cX12_writes 38 = .ok (.aload_n 0, 1) := by decide +kernel
theorem dX12_writes_39 : decode cX12_writes 39 = .ok (.iload_n 1, 1) := by decide +kernel
theorem dX12_writes_40 : decode cX12_writes 40 = .ok (.aload_n 0, 1) := by decide +kernel
theorem dX12_writes_41 : decode cX12_writes 41 = .ok (.iload_n 2, 1) := by decide +kernel
theorem dX12_writes_42 : decode cX12_writes 42 = .ok (.iconst 3, 1) := by decide +kernel
theorem dX12_writes_43 : decode cX12_writes 43 = .ok (.invokevirtual 285, 3) := by decide +kernel
theorem dX12_writes_46 : decode cX12_writes 46 = .ok (.invokevirtual 358, 3) := by decide +kernel
theorem dX12_writes_49 : decode cX12_writes 49 = .ok (.ireturn, 1) := by decide +kernel
theorem dX12_pale_0 : decode cX12_pale 0 = .ok (.aload_n 0, 1) := by decide +kernel
theorem dX12_pale_1 : decode cX12_pale 1 = .ok (.iconst 0, 1) := by decide +kernel
theorem dX12_pale_2 : decode cX12_pale 2 = .ok (.putfield 3, 3) := by decide +kernel
theorem dX12_pale_5 : decode cX12_pale 5 = .ok (.iconst (-1), 1) := by decide +kernel
theorem dX12_pale_6 : decode cX12_pale 6 = .ok (.istore_n 1, 1) := by decide +kernel
theorem dX12_pale_7 : decode cX12_pale 7 = .ok (.aload_n 0, 1) := by decide +kernel
theorem dX12_pale_8 : decode cX12_pale 8 = .ok (.invokevirtual 412, 3) := by decide +kernel
theorem dX12_pale_11 : decode cX12_pale 11 = .ok (.iconst 0, 1) := by decide +kernel
theorem dX12_pale_12 : decode cX12_pale 12 = .ok (.istore_n 2, 1) := by decide +kernel
theorem dX12_pale_13 : decode cX12_pale 13 = .ok (.iload_n 2, 1) := by decide +kernel
theorem dX12_pale_14 : decode cX12_pale 14 = .ok (.bipush 60, 2) := by decide +kernel
theorem dX12_pale_16 : decode cX12_pale 16 = .ok (.if_icmp .gt 33, 3) := by decide +kernel
theorem dX12_pale_19 : decode cX12_pale 19 = .ok (.iload_n 1, 1) := by decide +kernel
theorem dX12_pale_20 : decode cX12_pale 20 = .ok (.iconst (-1), 1) := by decide +kernel
theorem dX12_pale_21 : decode cX12_pale 21 = .ok (.if_icmp .ne 28, 3) := by decide +kernel
theorem dX12_pale_24 : decode cX12_pale 24 = .ok (.aload_n 0, 1) := by decide +kernel
theorem dX12_pale_25 : decode cX12_pale 25 = .ok (.invokevirtual 373, 3) := by decide +kernel
theorem dX12_pale_28 : decode cX12_pale 28 = .ok (.ifCond .ne 7, 3) := by decide +kernel
theorem dX12_pale_31 : decode cX12_pale 31 = .ok (.iload_n 2, 1) := by decide +kernel
theorem dX12_pale_32 : decode cX12_pale 32 = .ok (.goto 4, 3) := by decide +kernel
theorem dX12_pale_35 : decode cX12_pale 35 = .ok (.iconst (-1), 1) := by decide +kernel
theorem dX12_pale_36 : decode cX12_pale 36 = .ok (.istore_n 1, 1) := by decide +kernel
theorem dX12_pale_37 : decode cX12_pale 37 = .ok (.aload_n 0, 1) := by decide +kernel
theorem dX12_pale_38 : decode cX12_pale 38 = .ok (.iconst 1, 1) := by decide +kernel
theorem dX12_pale_39 : decode cX12_pale 39 = .ok (.invokevirtual 348, 3) := by decide +kernel
theorem dX12_pale_42 : decode cX12_pale 42 = .ok (.pop, 1) := by decide +kernel
theorem dX12_pale_43 : decode cX12_pale 43 = .ok (.iinc 2 1, 3) := by decide +kernel
theorem dX12_pale_46 : decode cX12_pale 46 = .ok (.goto (-33), 3) := by decide +kernel
theorem dX12_pale_49 : decode cX12_pale 49 = .ok (.aload_n 0, 1) := by decide +kernel
theorem dX12_pale_50 : decode cX12_pale 50 = .ok (.invokevirtual 415, 3) := by decide +kernel
theorem dX12_pale_53 : decode cX12_pale 53 = .ok (.iload_n 1, 1) := by decide +kernel
theorem dX12_pale_54 : decode cX12_pale 54 = .ok (.ireturn, 1) := by decide +kernel
theorem dX12_reddest_0 : decode cX12_reddest 0 = .ok (.aload_n 0, 1) := by decide +kernel
theorem dX12_reddest_1 : decode cX12_reddest 1 = .ok (.iconst 0, 1) := by decide +kernel
theorem dX12_reddest_2 : decode cX12_reddest 2 = .ok (.putfield 3, 3) := by decide +kernel
theorem dX12_reddest_5 : decode cX12_reddest 5 = .ok (.iconst (-1), 1) := by decide +kernel
theorem dX12_reddest_6 : decode cX12_reddest 6 = .ok (.istore_n 1, 1) := by decide +kernel
theorem dX12_reddest_7 : decode cX12_reddest 7 = .ok (.iconst 0, 1) := by decide +kernel
theorem dX12_reddest_8 : decode cX12_reddest 8 = .ok (.istore_n 2, 1) := by decide +kernel
theorem dX12_reddest_9 : decode cX12_reddest 9 = .ok (.iload_n 2, 1) := by decide +kernel
theorem dX12_reddest_10 : decode cX12_reddest 10 = .ok (.aload_n 0, 1) := by decide +kernel
theorem dX12_reddest_11 : decode cX12_reddest 11 = .ok (.invokevirtual 92, 3) := by decide +kernel
theorem dX12_reddest_14 : decode cX12_reddest 14 = .ok (.if_icmp .ge 31, 3) := by decide +kernel
theorem dX12_reddest_17 : decode cX12_reddest 17 = .ok (.iload_n 1, 1) := by decide +kernel
theorem dX12_reddest_18 : decode cX12_reddest 18 = .ok (.iconst (-1), 1) := by decide +kernel
theorem dX12_reddest_19 : decode cX12_reddest 19 = .ok (.if_icmp .eq 18, 3) := by decide +kernel
theorem dX12_reddest_22 : decode cX12_reddest 22 = .ok (.aload_n 0, 1) := by decide +kernel
theorem dX12_reddest_23 : decode cX12_reddest 23 = .ok (.iload_n 2, 1) := by decide +kernel
theorem dX12_reddest_24 : decode cX12_reddest 24 = .ok (.iconst 3, 1) := by decide +kernel
theorem dX12_reddest_25 : decode cX12_reddest 25 = .ok (.invokevirtual 285, 3) := by decide +kernel
theorem dX12_reddest_28 : decode cX12_reddest 28 = .ok (.aload_n 0, 1) := by decide +kernel
theorem dX12_reddest_29 : decode cX12_reddest 29 = .ok (.iload_n 1, 1) := by decide +kernel
theorem dX12_reddest_30 : decode cX12_reddest 30 = .ok (.iconst 3, 1) := by decide +kernel
theorem dX12_reddest_31 : decode cX12_reddest 31 = .ok (.invokevirtual 285, 3) := by decide +kernel
theorem dX12_reddest_34 : decode cX12_reddest 34 = .ok (.if_icmp .le 5, 3) := by decide +kernel
theorem dX12_reddest_37 : decode cX12_reddest 37 = .ok (.iload_n 2, 1) := by decide +kernel
theorem dX12_reddest_38 : decode cX12_reddest 38 = .ok (.istore_n 1, 1) := by decide +kernel
theorem dX12_reddest_39 : decode cX12_reddest 39 = .ok (.iinc 2 1, 3) := by decide +kernel
theorem dX12_reddest_42 : decode cX12_reddest 42 = .ok (.goto (-33), 3) := by decide +kernel
theorem dX12_reddest_45 : decode cX12_reddest 45 = .ok (.iload_n 1, 1) := by decide +kernel
theorem dX12_reddest_46 : decode cX12_reddest 46 = .ok (.ireturn, 1) := by decide +kernel
theorem dX12_palest_0 : decode cX12_palest 0 = .ok (.aload_n 0, 1) := by decide +kernel
theorem dX12_palest_1 : decode cX12_palest 1 = .ok (.iconst 0, 1) := by decide +kernel
theorem dX12_palest_2 : decode cX12_palest 2 = .ok (.putfield 3, 3) := by decide +kernel
theorem dX12_palest_5 : decode cX12_palest 5 = .ok (.iconst (-1), 1) := by decide +kernel
theorem dX12_palest_6 : decode cX12_palest 6 = .ok (.istore_n 1, 1) := by decide +kernel
theorem dX12_palest_7 : decode cX12_palest 7 = .ok (.iconst 0, 1) := by decide +kernel
theorem dX12_palest_8 : decode cX12_palest 8 = .ok (.istore_n 2, 1) := by decide +kernel
theorem dX12_palest_9 : decode cX12_palest 9 = .ok (.iload_n 2, 1) := by decide +kernel
theorem dX12_palest_10 : decode cX12_palest 10 = .ok (.aload_n 0, 1) := by decide +kernel
theorem dX12_palest_11 : decode cX12_palest 11 = .ok (.invokevirtual 92, 3) := by decide +kernel
theorem dX12_palest_14 : decode cX12_palest 14 = .ok (.if_icmp .ge 31, 3) := by decide +kernel
theorem dX12_palest_17 : decode cX12_palest 17 = .ok (.iload_n 1, 1) := by decide +kernel
theorem dX12_palest_18 : decode cX12_palest 18 = .ok (.iconst (-1), 1) := by decide +kernel
theorem dX12_palest_19 : decode cX12_palest 19 = .ok (.if_icmp .eq 18, 3) := by decide +kernel
theorem dX12_palest_22 : decode cX12_palest 22 = .ok (.aload_n 0, 1) := by decide +kernel
theorem dX12_palest_23 : decode cX12_palest 23 = .ok (.iload_n 2, 1) := by decide +kernel
theorem dX12_palest_24 : decode cX12_palest 24 = .ok (.iconst 3, 1) := by decide +kernel
theorem dX12_palest_25 : decode cX12_palest 25 = .ok (.invokevirtual 285, 3) := by decide +kernel
theorem dX12_palest_28 : decode cX12_palest 28 = .ok (.aload_n 0, 1) := by decide +kernel
theorem dX12_palest_29 : decode cX12_palest 29 = .ok (.iload_n 1, 1) := by decide +kernel
theorem dX12_palest_30 : decode cX12_palest 30 = .ok (.iconst 3, 1) := by decide +kernel
theorem dX12_palest_31 : decode cX12_palest 31 = .ok (.invokevirtual 285, 3) := by decide +kernel
theorem dX12_palest_34 : decode cX12_palest 34 = .ok (.if_icmp .ge 5, 3) := by decide +kernel
theorem dX12_palest_37 : decode cX12_palest 37 = .ok (.iload_n 2, 1) := by decide +kernel
theorem dX12_palest_38 : decode cX12_palest 38 = .ok (.istore_n 1, 1) := by decide +kernel
theorem dX12_palest_39 : decode cX12_palest 39 = .ok (.iinc 2 1, 3) := by decide +kernel
theorem dX12_palest_42 : decode cX12_palest 42 = .ok (.goto (-33), 3) := by decide +kernel
theorem dX12_palest_45 : decode cX12_palest 45 = .ok (.iload_n 1, 1) := by decide +kernel
theorem dX12_palest_46 : decode cX12_palest 46 = .ok (.ireturn, 1) := by decide +kernel
theorem dX12_risenAt_0 : decode cX12_risenAt 0 = .ok (.iconst 5, 1) := by decide +kernel
theorem dX12_risenAt_1 : decode cX12_risenAt 1 = .ok (.iload_n 0, 1) := by decide +kernel
theorem dX12_risenAt_2 : decode cX12_risenAt 2 = .ok (.bipush 6, 2) := by decide +kernel
theorem dX12_risenAt_4 : decode cX12_risenAt 4 = .ok (.ishl, 1) := by decide +kernel
theorem dX12_risenAt_5 : decode cX12_risenAt 5 = .ok (.iload_n 1, 1) := by decide +kernel
theorem dX12_risenAt_6 : decode cX12_risenAt 6 = .ok (.iadd, 1) := by decide +kernel
theorem dX12_risenAt_7 : decode cX12_risenAt 7 = .ok (.imul, 1) := by decide +kernel
theorem dX12_risenAt_8 : decode cX12_risenAt 8 = .ok (.iload_n 2, 1) := by decide +kernel
theorem dX12_risenAt_9 : decode cX12_risenAt 9 = .ok (.iadd, 1) := by decide +kernel
theorem dX12_risenAt_10 : decode cX12_risenAt 10 = .ok (.ireturn, 1) := by decide +kernel
theorem dX12_laysWorlds_0 : decode cX12_laysWorlds 0 = .ok (.iconst 0, 1) := by decide +kernel
theorem dX12_laysWorlds_1 : decode cX12_laysWorlds 1 = .ok (.istore_n 1, 1) := by decide +kernel
theorem dX12_laysWorlds_2 : decode cX12_laysWorlds 2 = .ok (.iload_n 1, 1) := by decide +kernel
theorem dX12_laysWorlds_3 : decode cX12_laysWorlds 3 = .ok (.aload_n 0, 1) := by decide +kernel
theorem dX12_laysWorlds_4 : decode cX12_laysWorlds 4 = .ok (.invokevirtual 99, 3) := by decide +kernel
theorem dX12_laysWorlds_7 : decode cX12_laysWorlds 7 = .ok (.if_icmp .ge 82, 3) := by decide +kernel
theorem dX12_laysWorlds_10 : decode cX12_laysWorlds 10 = .ok (.iconst 0, 1) := by decide +kernel
theorem dX12_laysWorlds_11 : decode cX12_laysWorlds 11 = .ok (.istore_n 2, 1) := by decide +kernel
theorem dX12_laysWorlds_12 : decode cX12_laysWorlds 12 = .ok (.iload_n 2, 1) := by decide +kernel
theorem dX12_laysWorlds_13 : decode cX12_laysWorlds 13 = .ok (.aload_n 0, 1) := by decide +kernel
theorem dX12_laysWorlds_14 : decode cX12_laysWorlds 14 = .ok (.invokevirtual 403, 3) := by decide +kernel
theorem dX12_laysWorlds_17 : decode cX12_laysWorlds 17 = .ok (.if_icmp .gt 66, 3) := by decide +kernel
theorem dX12_laysWorlds_20 : decode cX12_laysWorlds 20 = .ok (.aload_n 0, 1) := by decide +kernel
theorem dX12_laysWorlds_21 : decode cX12_laysWorlds 21 = .ok (.aload_n 0, 1) := by decide +kernel
theorem dX12_laysWorlds_22 : decode cX12_laysWorlds 22 = .ok (.getfield 13, 3) := by decide +kernel
theorem dX12_laysWorlds_25 : decode cX12_laysWorlds 25 = .ok (.bipush 12, 2) := by decide +kernel
theorem dX12_laysWorlds_27 : decode cX12_laysWorlds 27 = .ok (.iload_n 1, 1) := by decide +kernel
theorem dX12_laysWorlds_28 : decode cX12_laysWorlds 28 = .ok (.iadd, 1) := by decide +kernel
theorem dX12_laysWorlds_29 : decode cX12_laysWorlds 29 = .ok (.iaload, 1) := by decide +kernel
theorem dX12_laysWorlds_30 : decode cX12_laysWorlds 30 = .ok (.iload_n 2, 1) := by decide +kernel
theorem dX12_laysWorlds_31 : decode cX12_laysWorlds 31 = .ok (.iand, 1) := by decide +kernel
theorem dX12_laysWorlds_32 : decode cX12_laysWorlds 32 = .ok (.invokevirtual 325, 3) := by decide +kernel
theorem dX12_laysWorlds_35 : decode cX12_laysWorlds 35 = .ok (.iconst 0, 1) := by decide +kernel
theorem dX12_laysWorlds_36 : decode cX12_laysWorlds 36 = .ok (.istore_n 3, 1) := by decide +kernel
theorem dX12_laysWorlds_37 : decode cX12_laysWorlds 37 = .ok (.iload_n 3, 1) := by decide +kernel
theorem dX12_laysWorlds_38 : decode cX12_laysWorlds 38 = .ok (.iconst 5, 1) := by decide +kernel
theorem dX12_laysWorlds_39 : decode cX12_laysWorlds 39 = .ok (.if_icmp .ge 38, 3) := by decide +kernel
theorem dX12_laysWorlds_42 : decode cX12_laysWorlds 42 = .ok (.aload_n 0, 1) := by decide +kernel
theorem dX12_laysWorlds_43 : decode cX12_laysWorlds 43 = .ok (.getfield 48, 3) := by decide +kernel
theorem dX12_laysWorlds_46 : decode cX12_laysWorlds 46 = .ok (.iload_n 1, 1) := by decide +kernel
theorem dX12_laysWorlds_47 : decode cX12_laysWorlds 47 = .ok (.iload_n 2, 1) := by decide +kernel
theorem dX12_laysWorlds_48 : decode cX12_laysWorlds 48 = .ok (.iload_n 3, 1) := by decide +kernel
theorem dX12_laysWorlds_49 : decode cX12_laysWorlds 49 = .ok (.invokestatic 418, 3) := by decide +kernel
theorem dX12_laysWorlds_52 : decode cX12_laysWorlds 52 = .ok (.iload_n 3, 1) := by decide +kernel
theorem dX12_laysWorlds_53 : decode cX12_laysWorlds 53 = .ok (.aload_n 0, 1) := by decide +kernel
theorem dX12_laysWorlds_54 : decode cX12_laysWorlds 54 = .ok (.invokevirtual 92, 3) := by decide +kernel
theorem dX12_laysWorlds_57 : decode cX12_laysWorlds 57 = .ok (.if_icmp .ge 12, 3) := by decide +kernel
theorem dX12_laysWorlds_60 : decode cX12_laysWorlds 60 = .ok (.aload_n 0, 1) := by decide +kernel
theorem dX12_laysWorlds_61 : decode cX12_laysWorlds 61 = .ok (.getfield 42, 3) := by decide +kernel
theorem dX12_laysWorlds_64 : decode cX12_laysWorlds 64 = .ok (.iload_n 3, 1) := by decide +kernel
theorem dX12_laysWorlds_65 : decode cX12_laysWorlds 65 = .ok (.iaload, 1) := by decide +kernel
theorem dX12_laysWorlds_66 : decode cX12_laysWorlds 66 = .ok (.goto 4, 3) := by decide +kernel
theorem dX12_laysWorlds_69 : decode cX12_laysWorlds 69 = .ok (.iconst 0, 1) := by decide +kernel
theorem dX12_laysWorlds_70 : decode cX12_laysWorlds 70 = .ok (.iastore, 1) := by decide +kernel
theorem dX12_laysWorlds_71 : decode cX12_laysWorlds 71 = .ok (.iinc 3 1, 3) := by decide +kernel
theorem dX12_laysWorlds_74 : decode cX12_laysWorlds 74 = .ok (.goto (-37), 3) := by decide +kernel
theorem dX12_laysWorlds_77 : decode cX12_laysWorlds 77 = .ok (.iinc 2 1, 3) := by decide +kernel
theorem dX12_laysWorlds_80 : decode cX12_laysWorlds 80 = .ok (.goto (-68), 3) := by decide +kernel
theorem dX12_laysWorlds_83 : decode cX12_laysWorlds 83 = .ok (.iinc 1 1, 3) := by decide +kernel
theorem dX12_laysWorlds_86 : decode cX12_laysWorlds 86 = .ok (.goto (-84), 3) := by decide +kernel
theorem dX12_laysWorlds_89 : decode cX12_laysWorlds 89 = .ok (.return_, 1) := by decide +kernel
theorem dX12_alikeBy_0 : decode cX12_alikeBy 0 = .ok (.iconst 1, 1) := by decide +kernel
theorem dX12_alikeBy_1 : decode cX12_alikeBy 1 = .ok (.istore 4, 2) := by decide +kernel
theorem dX12_alikeBy_3 : decode cX12_alikeBy 3 = .ok (.iconst 0, 1) := by decide +kernel
theorem dX12_alikeBy_4 : decode cX12_alikeBy 4 = .ok (.istore 5, 2) := by decide +kernel
theorem dX12_alikeBy_6 : decode cX12_alikeBy 6 = .ok (.iload 5, 2) := by decide +kernel
theorem dX12_alikeBy_8 : decode cX12_alikeBy 8 = .ok (.aload_n 0, 1) := by decide +kernel
theorem dX12_alikeBy_9 : decode cX12_alikeBy 9 = .ok (.invokevirtual 92, 3) := by decide +kernel
theorem dX12_alikeBy_12 : decode cX12_alikeBy 12 = .ok (.if_icmp .ge 48, 3) := by decide +kernel
theorem dX12_alikeBy_15 : decode cX12_alikeBy 15 = .ok (.iload 4, 2) := by decide +kernel
theorem dX12_alikeBy_17 : decode cX12_alikeBy 17 = .ok (.ifCond .eq 34, 3) := by decide +kernel
theorem dX12_alikeBy_20 : decode cX12_alikeBy 20 = .ok (.aload_n 0, 1) := by decide +kernel
theorem dX12_alikeBy_21 : decode cX12_alikeBy 21 = .ok (.getfield 48, 3) := by decide +kernel
theorem dX12_alikeBy_24 : decode cX12_alikeBy 24 = .ok (.iload_n 1, 1) := by decide +kernel
theorem dX12_alikeBy_25 : decode cX12_alikeBy 25 = .ok (.iload_n 2, 1) := by decide +kernel
theorem dX12_alikeBy_26 : decode cX12_alikeBy 26 = .ok (.iload 5, 2) := by decide +kernel
theorem dX12_alikeBy_28 : decode cX12_alikeBy 28 = .ok (.invokestatic 418, 3) := by decide +kernel
theorem dX12_alikeBy_31 : decode cX12_alikeBy 31 = .ok (.iaload, 1) := by decide +kernel
theorem dX12_alikeBy_32 : decode cX12_alikeBy 32 = .ok (.aload_n 0, 1) := by decide +kernel
theorem dX12_alikeBy_33 : decode cX12_alikeBy 33 = .ok (.getfield 48, 3) := by decide +kernel
theorem dX12_alikeBy_36 : decode cX12_alikeBy 36 = .ok (.iload_n 1, 1) := by decide +kernel
theorem dX12_alikeBy_37 : decode cX12_alikeBy 37 = .ok (.iload_n 3, 1) := by decide +kernel
theorem dX12_alikeBy_38 : decode cX12_alikeBy 38 = .ok (.iload 5, 2) := by decide +kernel
theorem dX12_alikeBy_40 : decode cX12_alikeBy 40 = .ok (.invokestatic 418, 3) := by decide +kernel
theorem dX12_alikeBy_43 : decode cX12_alikeBy 43 = .ok (.iaload, 1) := by decide +kernel
theorem dX12_alikeBy_44 : decode cX12_alikeBy 44 = .ok (.if_icmp .ne 7, 3) := by decide +kernel
theorem dX12_alikeBy_47 : decode cX12_alikeBy 47 = .ok (.iconst 1, 1) := by decide +kernel
theorem dX12_alikeBy_48 : decode cX12_alikeBy 48 = .ok (.goto 4, 3) := by decide +kernel
theorem dX12_alikeBy_51 : decode cX12_alikeBy 51 = .ok (.iconst 0, 1) := by decide +kernel
theorem dX12_alikeBy_52 : decode cX12_alikeBy 52 = .ok (.istore 4, 2) := by decide +kernel
theorem dX12_alikeBy_54 : decode cX12_alikeBy 54 = .ok (.iinc 5 1, 3) := by decide +kernel
theorem dX12_alikeBy_57 : decode cX12_alikeBy 57 = .ok (.goto (-51), 3) := by decide +kernel
theorem dX12_alikeBy_60 : decode cX12_alikeBy 60 = .ok (.iload 4, 2) := by decide +kernel
theorem dX12_alikeBy_62 : decode cX12_alikeBy 62 = .ok (.ireturn, 1) := by decide +kernel
theorem dX12_isRows_0 : decode cX12_isRows 0 = .ok (.aload_n 0, 1) := by decide +kernel
theorem dX12_isRows_1 : decode cX12_isRows 1 = .ok (.getfield 112, 3) := by decide +kernel
theorem dX12_isRows_4 : decode cX12_isRows 4 = .ok (.iconst 3, 1) := by decide +kernel
theorem dX12_isRows_5 : decode cX12_isRows 5 = .ok (.irem, 1) := by decide +kernel
theorem dX12_isRows_6 : decode cX12_isRows 6 = .ok (.ifCond .ne 16, 3) := by decide +kernel
theorem dX12_isRows_9 : decode cX12_isRows 9 = .ok (.aload_n 0, 1) := by decide +kernel
theorem dX12_isRows_10 : decode cX12_isRows 10 = .ok (.getfield 112, 3) := by decide +kernel
theorem dX12_isRows_13 : decode cX12_isRows 13 = .ok (.bipush 45, 2) := by decide +kernel
theorem dX12_isRows_15 : decode cX12_isRows 15 = .ok (.if_icmp .gt 7, 3) := by decide +kernel
theorem dX12_isRows_18 : decode cX12_isRows 18 = .ok (.iconst 1, 1) := by decide +kernel
theorem dX12_isRows_19 : decode cX12_isRows 19 = .ok (.goto 4, 3) := by decide +kernel
theorem dX12_isRows_22 : decode cX12_isRows 22 = .ok (.iconst 0, 1) := by decide +kernel
theorem dX12_isRows_23 : decode cX12_isRows 23 = .ok (.istore_n 1, 1) := by decide +kernel
theorem dX12_isRows_24 : decode cX12_isRows 24 = .ok (.iconst 0, 1) := by decide +kernel
theorem dX12_isRows_25 : decode cX12_isRows 25 = .ok (.istore_n 2, 1) := by decide +kernel
theorem dX12_isRows_26 : decode cX12_isRows 26 = .ok (.iload_n 2, 1) := by decide +kernel
theorem dX12_isRows_27 : decode cX12_isRows 27 = .ok (.aload_n 0, 1) := by decide +kernel
theorem dX12_isRows_28 : decode cX12_isRows 28 = .ok (.getfield 112, 3) := by decide +kernel
theorem dX12_isRows_31 : decode cX12_isRows 31 = .ok (.if_icmp .ge 47, 3) := by decide +kernel
theorem dX12_isRows_34 : decode cX12_isRows 34 = .ok (.iload_n 1, 1) := by decide +kernel
theorem dX12_isRows_35 : decode cX12_isRows 35 = .ok (.ifCond .eq 43, 3) := by decide +kernel
theorem dX12_isRows_38 : decode cX12_isRows 38 = .ok (.aload_n 0, 1) := by decide +kernel
theorem dX12_isRows_39 : decode cX12_isRows 39 = .ok (.aload_n 0, 1) := by decide +kernel
theorem dX12_isRows_40 : decode cX12_isRows 40 = .ok (.getfield 29, 3) := by decide +kernel
theorem dX12_isRows_43 : decode cX12_isRows 43 = .ok (.iload_n 2, 1) := by decide +kernel
theorem dX12_isRows_44 : decode cX12_isRows 44 = .ok (.baload, 1) := by decide +kernel
theorem dX12_isRows_45 : decode cX12_isRows 45 = .ok (.invokevirtual 391, 3) := by decide +kernel
theorem dX12_isRows_48 : decode cX12_isRows 48 = .ok (.ifCond .ne 22, 3) := by decide +kernel
theorem dX12_isRows_51 : decode cX12_isRows 51 = .ok (.aload_n 0, 1) := by decide +kernel
theorem dX12_isRows_52 : decode cX12_isRows 52 = .ok (.aload_n 0, 1) := by decide +kernel
theorem dX12_isRows_53 : decode cX12_isRows 53 = .ok (.getfield 29, 3) := by decide +kernel
theorem dX12_isRows_56 : decode cX12_isRows 56 = .ok (.iload_n 2, 1) := by decide +kernel
theorem dX12_isRows_57 : decode cX12_isRows 57 = .ok (.iconst 1, 1) := by decide +kernel
theorem dX12_isRows_58 : decode cX12_isRows 58 = .ok (.iadd, 1) := by decide +kernel
theorem dX12_isRows_59 : decode cX12_isRows 59 = .ok (.baload, 1) := by decide +kernel
theorem dX12_isRows_60 : decode cX12_isRows 60 = .ok (.invokevirtual 370, 3) := by decide +kernel
theorem dX12_isRows_63 : decode cX12_isRows 63 = .ok (.ifCond .ne 7, 3) := by decide +kernel
theorem dX12_isRows_66 : decode cX12_isRows 66 = .ok (.iconst 1, 1) := by decide +kernel
theorem dX12_isRows_67 : decode cX12_isRows 67 = .ok (.goto 4, 3) := by decide +kernel
theorem dX12_isRows_70 : decode cX12_isRows 70 = .ok (.iconst 0, 1) := by decide +kernel
theorem dX12_isRows_71 : decode cX12_isRows 71 = .ok (.istore_n 1, 1) := by decide +kernel
theorem dX12_isRows_72 : decode cX12_isRows 72 = .ok (.iinc 2 3, 3) := by decide +kernel
theorem dX12_isRows_75 : decode cX12_isRows 75 = .ok (.goto (-49), 3) := by decide +kernel
theorem dX12_isRows_78 : decode cX12_isRows 78 = .ok (.iload_n 1, 1) := by decide +kernel
theorem dX12_isRows_79 : decode cX12_isRows 79 = .ok (.ireturn, 1) := by decide +kernel
theorem dX12_fitsRows_0 : decode cX12_fitsRows 0 = .ok (.iconst 1, 1) := by decide +kernel
theorem dX12_fitsRows_1 : decode cX12_fitsRows 1 = .ok (.istore_n 2, 1) := by decide +kernel
theorem dX12_fitsRows_2 : decode cX12_fitsRows 2 = .ok (.iconst 0, 1) := by decide +kernel
theorem dX12_fitsRows_3 : decode cX12_fitsRows 3 = .ok (.istore_n 3, 1) := by decide +kernel
theorem dX12_fitsRows_4 : decode cX12_fitsRows 4 = .ok (.iload_n 3, 1) := by decide +kernel
theorem dX12_fitsRows_5 : decode cX12_fitsRows 5 = .ok (.aload_n 0, 1) := by decide +kernel
theorem dX12_fitsRows_6 : decode cX12_fitsRows 6 = .ok (.getfield 112, 3) := by decide +kernel
theorem dX12_fitsRows_9 : decode cX12_fitsRows 9 = .ok (.if_icmp .ge 57, 3) := by decide +kernel
theorem dX12_fitsRows_12 : decode cX12_fitsRows 12 = .ok (.iload_n 2, 1) := by decide +kernel
theorem dX12_fitsRows_13 : decode cX12_fitsRows 13 = .ok (.ifCond .eq 45, 3) := by decide +kernel
theorem dX12_fitsRows_16 : decode cX12_fitsRows 16 = .ok (.aload_n 0, 1) := by decide +kernel
theorem dX12_fitsRows_17 : decode cX12_fitsRows 17 = .ok (.getfield 48, 3) := by decide +kernel
theorem dX12_fitsRows_20 : decode cX12_fitsRows 20 = .ok (.aload_n 0, 1) := by decide +kernel
theorem dX12_fitsRows_21 : decode cX12_fitsRows 21 = .ok (.getfield 29, 3) := by decide +kernel
theorem dX12_fitsRows_24 : decode cX12_fitsRows 24 = .ok (.iload_n 3, 1) := by decide +kernel
theorem dX12_fitsRows_25 : decode cX12_fitsRows 25 = .ok (.baload, 1) := by decide +kernel
theorem dX12_fitsRows_26 : decode cX12_fitsRows 26 = .ok (.iload_n 1, 1) := by decide +kernel
theorem dX12_fitsRows_27 : decode cX12_fitsRows 27 = .ok (.aload_n 0, 1) := by decide +kernel
theorem dX12_fitsRows_28 : decode cX12_fitsRows 28 = .ok (.getfield 29, 3) := by decide +kernel
theorem dX12_fitsRows_31 : decode cX12_fitsRows 31 = .ok (.iload_n 3, 1) := by decide +kernel
theorem dX12_fitsRows_32 : decode cX12_fitsRows 32 = .ok (.iconst 1, 1) := by decide +kernel
theorem dX12_fitsRows_33 : decode cX12_fitsRows 33 = .ok (.iadd, 1) := by decide +kernel
theorem dX12_fitsRows_34 : decode cX12_fitsRows 34 = .ok (.baload, 1) := by decide +kernel
theorem dX12_fitsRows_35 : decode cX12_fitsRows 35 = .ok (.invokestatic 418, 3) := by decide +kernel
theorem dX12_fitsRows_38 : decode cX12_fitsRows 38 = .ok (.iaload, 1) := by decide +kernel
theorem dX12_fitsRows_39 : decode cX12_fitsRows 39 = .ok (.aload_n 0, 1) := by decide +kernel
theorem dX12_fitsRows_40 : decode cX12_fitsRows 40 = .ok (.getfield 29, 3) := by decide +kernel
theorem dX12_fitsRows_43 : decode cX12_fitsRows 43 = .ok (.iload_n 3, 1) := by decide +kernel
theorem dX12_fitsRows_44 : decode cX12_fitsRows 44 = .ok (.iconst 2, 1) := by decide +kernel
theorem dX12_fitsRows_45 : decode cX12_fitsRows 45 = .ok (.iadd, 1) := by decide +kernel
theorem dX12_fitsRows_46 : decode cX12_fitsRows 46 = .ok (.baload, 1) := by decide +kernel
theorem dX12_fitsRows_47 : decode cX12_fitsRows 47 = .ok (.sipush 255, 3) := by decide +kernel
theorem dX12_fitsRows_50 : decode cX12_fitsRows 50 = .ok (.iand, 1) := by decide +kernel
theorem dX12_fitsRows_51 : decode cX12_fitsRows 51 = .ok (.if_icmp .ne 7, 3) := by decide +kernel
theorem dX12_fitsRows_54 : decode cX12_fitsRows 54 = .ok (.iconst 1, 1) := by decide +kernel
theorem dX12_fitsRows_55 : decode cX12_fitsRows 55 = .ok (.goto 4, 3) := by decide +kernel
theorem dX12_fitsRows_58 : decode cX12_fitsRows 58 = .ok (.iconst 0, 1) := by decide +kernel
theorem dX12_fitsRows_59 : decode cX12_fitsRows 59 = .ok (.istore_n 2, 1) := by decide +kernel
theorem dX12_fitsRows_60 : decode cX12_fitsRows 60 = .ok (.iinc 3 3, 3) := by decide +kernel
theorem dX12_fitsRows_63 : decode cX12_fitsRows 63 = .ok (.goto (-59), 3) := by decide +kernel
theorem dX12_fitsRows_66 : decode cX12_fitsRows 66 = .ok (.iload_n 2, 1) := by decide +kernel
theorem dX12_fitsRows_67 : decode cX12_fitsRows 67 = .ok (.ireturn, 1) := by decide +kernel
theorem dX12_fits_0 : decode cX12_fits 0 = .ok (.aload_n 0, 1) := by decide +kernel
theorem dX12_fits_1 : decode cX12_fits 1 = .ok (.invokevirtual 271, 3) := by decide +kernel
theorem dX12_fits_4 : decode cX12_fits 4 = .ok (.aload_n 0, 1) := by decide +kernel
theorem dX12_fits_5 : decode cX12_fits 5 = .ok (.aload_n 0, 1) := by decide +kernel
theorem dX12_fits_6 : decode cX12_fits 6 = .ok (.invokevirtual 421, 3) := by decide +kernel
theorem dX12_fits_9 : decode cX12_fits 9 = .ok (.ifCond .ne 7, 3) := by decide +kernel
theorem dX12_fits_12 : decode cX12_fits 12 = .ok (.iconst 1, 1) := by decide +kernel
theorem dX12_fits_13 : decode cX12_fits 13 = .ok (.goto 4, 3) := by decide +kernel
theorem dX12_fits_16 : decode cX12_fits 16 = .ok (.iconst 0, 1) := by decide +kernel
theorem dX12_fits_17 : decode cX12_fits 17 = .ok (.iconst 1, 1) := by decide +kernel
theorem dX12_fits_18 : decode cX12_fits 18 = .ok (.invokevirtual 282, 3) := by decide +kernel
theorem dX12_fits_21 : decode cX12_fits 21 = .ok (.ifCond .eq 5, 3) := by decide +kernel
theorem dX12_fits_24 : decode cX12_fits 24 = .ok (.iconst 0, 1) := by decide +kernel
theorem dX12_fits_25 : decode cX12_fits 25 = .ok (.ireturn, 1) := by decide +kernel
theorem dX12_fits_26 : decode cX12_fits 26 = .ok (.aload_n 0, 1) := by decide +kernel
theorem dX12_fits_27 : decode cX12_fits 27 = .ok (.invokevirtual 424, 3) := by decide +kernel
theorem dX12_fits_30 : decode cX12_fits 30 = .ok (.iconst 0, 1) := by decide +kernel
theorem dX12_fits_31 : decode cX12_fits 31 = .ok (.istore_n 1, 1) := by decide +kernel
theorem dX12_fits_32 : decode cX12_fits 32 = .ok (.iconst 0, 1) := by decide +kernel
theorem dX12_fits_33 : decode cX12_fits 33 = .ok (.istore_n 2, 1) := by decide +kernel
theorem dX12_fits_34 : decode cX12_fits 34 = .ok (.iload_n 2, 1) := by decide +kernel
theorem dX12_fits_35 : decode cX12_fits 35 = .ok (.aload_n 0, 1) := by decide +kernel
theorem dX12_fits_36 : decode cX12_fits 36 = .ok (.invokevirtual 403, 3) := by decide +kernel
theorem dX12_fits_39 : decode cX12_fits 39 = .ok (.if_icmp .gt 25, 3) := by decide +kernel
theorem dX12_fits_42 : decode cX12_fits 42 = .ok (.iload_n 1, 1) := by decide +kernel
theorem dX12_fits_43 : decode cX12_fits 43 = .ok (.aload_n 0, 1) := by decide +kernel
theorem dX12_fits_44 : decode cX12_fits 44 = .ok (.iload_n 2, 1) := by decide +kernel
theorem dX12_fits_45 : decode cX12_fits 45 = .ok (.invokevirtual 427, 3) := by decide +kernel
theorem dX12_fits_48 : decode cX12_fits 48 = .ok (.ifCond .eq 7, 3) := by decide +kernel
theorem dX12_fits_51 : decode cX12_fits 51 = .ok (.iconst 1, 1) := by decide +kernel
theorem dX12_fits_52 : decode cX12_fits 52 = .ok (.goto 4, 3) := by decide +kernel
theorem dX12_fits_55 : decode cX12_fits 55 = .ok (.iconst 0, 1) := by decide +kernel
theorem dX12_fits_56 : decode cX12_fits 56 = .ok (.iadd, 1) := by decide +kernel
theorem dX12_fits_57 : decode cX12_fits 57 = .ok (.istore_n 1, 1) := by decide +kernel
theorem dX12_fits_58 : decode cX12_fits 58 = .ok (.iinc 2 1, 3) := by decide +kernel
theorem dX12_fits_61 : decode cX12_fits 61 = .ok (.goto (-27), 3) := by decide +kernel
theorem dX12_fits_64 : decode cX12_fits 64 = .ok (.iload_n 1, 1) := by decide +kernel
theorem dX12_fits_65 : decode cX12_fits 65 = .ok (.ireturn, 1) := by decide +kernel
theorem dX12_sure_0 : decode cX12_sure 0 = .ok (.aload_n 0, 1) := by decide +kernel
theorem dX12_sure_1 : decode cX12_sure 1 = .ok (.invokevirtual 271, 3) := by decide +kernel
theorem dX12_sure_4 : decode cX12_sure 4 = .ok (.aload_n 0, 1) := by decide +kernel
theorem dX12_sure_5 : decode cX12_sure 5 = .ok (.aload_n 0, 1) := by decide +kernel
theorem dX12_sure_6 : decode cX12_sure 6 = .ok (.invokevirtual 421, 3) := by decide +kernel
theorem dX12_sure_9 : decode cX12_sure 9 = .ok (.ifCond .ne 7, 3) := by decide +kernel
theorem dX12_sure_12 : decode cX12_sure 12 = .ok (.iconst 1, 1) := by decide +kernel
theorem dX12_sure_13 : decode cX12_sure 13 = .ok (.goto 4, 3) := by decide +kernel
theorem dX12_sure_16 : decode cX12_sure 16 = .ok (.iconst 0, 1) := by decide +kernel
theorem dX12_sure_17 : decode cX12_sure 17 = .ok (.iconst 1, 1) := by decide +kernel
theorem dX12_sure_18 : decode cX12_sure 18 = .ok (.invokevirtual 282, 3) := by decide +kernel
theorem dX12_sure_21 : decode cX12_sure 21 = .ok (.ifCond .eq 5, 3) := by decide +kernel
theorem dX12_sure_24 : decode cX12_sure 24 = .ok (.iconst 0, 1) := by decide +kernel
theorem dX12_sure_25 : decode cX12_sure 25 = .ok (.ireturn, 1) := by decide +kernel
theorem dX12_sure_26 : decode cX12_sure 26 = .ok (.aload_n 0, 1) := by decide +kernel
theorem dX12_sure_27 : decode cX12_sure 27 = .ok (.invokevirtual 424, 3) := by decide +kernel
theorem dX12_sure_30 : decode cX12_sure 30 = .ok (.aload_n 0, 1) := by decide +kernel
theorem dX12_sure_31 : decode cX12_sure 31 = .ok (.invokevirtual 403, 3) := by decide +kernel
theorem dX12_sure_34 : decode cX12_sure 34 = .ok (.istore_n 1, 1) := by decide +kernel
theorem dX12_sure_35 : decode cX12_sure 35 = .ok (.iconst 0, 1) := by decide +kernel
theorem dX12_sure_36 : decode cX12_sure 36 = .ok (.istore_n 2, 1) := by decide +kernel
theorem dX12_sure_37 : decode cX12_sure 37 = .ok (.iconst 0, 1) := by decide +kernel
theorem dX12_sure_38 : decode cX12_sure 38 = .ok (.istore_n 3, 1) := by decide +kernel
theorem dX12_sure_39 : decode cX12_sure 39 = .ok (.iload_n 3, 1) := by decide +kernel
theorem dX12_sure_40 : decode cX12_sure 40 = .ok (.aload_n 0, 1) := by decide +kernel
theorem dX12_sure_41 : decode cX12_sure 41 = .ok (.invokevirtual 403, 3) := by decide +kernel
theorem dX12_sure_44 : decode cX12_sure 44 = .ok (.if_icmp .gt 26, 3) := by decide +kernel
theorem dX12_sure_47 : decode cX12_sure 47 = .ok (.aload_n 0, 1) := by decide +kernel
theorem dX12_sure_48 : decode cX12_sure 48 = .ok (.iload_n 3, 1) := by decide +kernel
theorem dX12_sure_49 : decode cX12_sure 49 = .ok (.invokevirtual 427, 3) := by decide +kernel
theorem dX12_sure_52 : decode cX12_sure 52 = .ok (.ifCond .ne 6, 3) := by decide +kernel
theorem dX12_sure_55 : decode cX12_sure 55 = .ok (.goto 9, 3) := by decide +kernel
theorem dX12_sure_58 : decode cX12_sure 58 = .ok (.iconst 1, 1) := by decide +kernel
theorem dX12_sure_59 : decode cX12_sure 59 = .ok (.istore_n 2, 1) := by decide +kernel
theorem dX12_sure_60 : decode cX12_sure 60 = .ok (.iload_n 1, 1) := by decide +kernel
theorem dX12_sure_61 : decode cX12_sure 61 = .ok (.iload_n 3, 1) := by decide +kernel
theorem dX12_sure_62 : decode cX12_sure 62 = .ok (.iand, 1) := by decide +kernel
theorem dX12_sure_63 : decode cX12_sure 63 = .ok (.istore_n 1, 1) := by decide +kernel
theorem dX12_sure_64 : decode cX12_sure 64 = .ok (.iinc 3 1, 3) := by decide +kernel
theorem dX12_sure_67 : decode cX12_sure 67 = .ok (.goto (-28), 3) := by decide +kernel
theorem dX12_sure_70 : decode cX12_sure 70 = .ok (.iload_n 2, 1) := by decide +kernel
theorem dX12_sure_71 : decode cX12_sure 71 = .ok (.ifCond .eq 7, 3) := by decide +kernel
theorem dX12_sure_74 : decode cX12_sure 74 = .ok (.iload_n 1, 1) := by decide +kernel
theorem dX12_sure_75 : decode cX12_sure 75 = .ok (.goto 4, 3) := by decide +kernel
theorem dX12_sure_78 : decode cX12_sure 78 = .ok (.iconst 0, 1) := by decide +kernel
theorem dX12_sure_79 : decode cX12_sure 79 = .ok (.ireturn, 1) := by decide +kernel
theorem dX12_never_0 : decode cX12_never 0 = .ok (.aload_n 0, 1) := by decide +kernel
theorem dX12_never_1 : decode cX12_never 1 = .ok (.invokevirtual 271, 3) := by decide +kernel
theorem dX12_never_4 : decode cX12_never 4 = .ok (.aload_n 0, 1) := by decide +kernel
theorem dX12_never_5 : decode cX12_never 5 = .ok (.aload_n 0, 1) := by decide +kernel
theorem dX12_never_6 : decode cX12_never 6 = .ok (.invokevirtual 421, 3) := by decide +kernel
theorem dX12_never_9 : decode cX12_never 9 = .ok (.ifCond .ne 7, 3) := by decide +kernel
theorem dX12_never_12 : decode cX12_never 12 = .ok (.iconst 1, 1) := by decide +kernel
theorem dX12_never_13 : decode cX12_never 13 = .ok (.goto 4, 3) := by decide +kernel
theorem dX12_never_16 : decode cX12_never 16 = .ok (.iconst 0, 1) := by decide +kernel
theorem dX12_never_17 : decode cX12_never 17 = .ok (.iconst 1, 1) := by decide +kernel
theorem dX12_never_18 : decode cX12_never 18 = .ok (.invokevirtual 282, 3) := by decide +kernel
theorem dX12_never_21 : decode cX12_never 21 = .ok (.ifCond .eq 5, 3) := by decide +kernel
theorem dX12_never_24 : decode cX12_never 24 = .ok (.iconst 0, 1) := by decide +kernel
theorem dX12_never_25 : decode cX12_never 25 = .ok (.ireturn, 1) := by decide +kernel
theorem dX12_never_26 : decode cX12_never 26 = .ok (.aload_n 0, 1) := by decide +kernel
theorem dX12_never_27 : decode cX12_never 27 = .ok (.invokevirtual 424, 3) := by decide +kernel
theorem dX12_never_30 : decode cX12_never 30 = .ok (.aload_n 0, 1) := by decide +kernel
theorem dX12_never_31 : decode cX12_never 31 = .ok (.invokevirtual 403, 3) := by decide +kernel
theorem dX12_never_34 : decode cX12_never 34 = .ok (.istore_n 1, 1) := by decide +kernel
theorem dX12_never_35 : decode cX12_never 35 = .ok (.iconst 0, 1) := by decide +kernel
theorem dX12_never_36 : decode cX12_never 36 = .ok (.istore_n 2, 1) := by decide +kernel
theorem dX12_never_37 : decode cX12_never 37 = .ok (.iload_n 2, 1) := by decide +kernel
theorem dX12_never_38 : decode cX12_never 38 = .ok (.aload_n 0, 1) := by decide +kernel
theorem dX12_never_39 : decode cX12_never 39 = .ok (.invokevirtual 403, 3) := by decide +kernel
theorem dX12_never_42 : decode cX12_never 42 = .ok (.if_icmp .gt 27, 3) := by decide +kernel
theorem dX12_never_45 : decode cX12_never 45 = .ok (.aload_n 0, 1) := by decide +kernel
theorem dX12_never_46 : decode cX12_never 46 = .ok (.iload_n 2, 1) := by decide +kernel
theorem dX12_never_47 : decode cX12_never 47 = .ok (.invokevirtual 427, 3) := by decide +kernel
theorem dX12_never_50 : decode cX12_never 50 = .ok (.ifCond .eq 11, 3) := by decide +kernel
theorem dX12_never_53 : decode cX12_never 53 = .ok (.iload_n 1, 1) := by decide +kernel
theorem dX12_never_54 : decode cX12_never 54 = .ok (.iload_n 2, 1) := by decide +kernel
theorem dX12_never_55 : decode cX12_never 55 = .ok (.iconst (-1), 1) := by decide +kernel
theorem dX12_never_56 : decode cX12_never 56 = .ok (.ixor, 1) := by decide +kernel
theorem dX12_never_57 : decode cX12_never 57 = .ok (.iand, 1) := by decide +kernel
theorem dX12_never_58 : decode cX12_never 58 = .ok (.goto 4, 3) := by decide +kernel
theorem dX12_never_61 : decode cX12_never 61 = .ok (.iload_n 1, 1) := by decide +kernel
theorem dX12_never_62 : decode cX12_never 62 = .ok (.istore_n 1, 1) := by decide +kernel
theorem dX12_never_63 : decode cX12_never 63 = .ok (.iinc 2 1, 3) := by decide +kernel
theorem dX12_never_66 : decode cX12_never 66 = .ok (.goto (-29), 3) := by decide +kernel
theorem dX12_never_69 : decode cX12_never 69 = .ok (.iload_n 1, 1) := by decide +kernel
theorem dX12_never_70 : decode cX12_never 70 = .ok (.ireturn, 1) := by decide +kernel
theorem dX12_partBy_0 : decode cX12_partBy 0 = .ok (.iconst 0, 1) := by decide +kernel
theorem dX12_partBy_1 : decode cX12_partBy 1 = .ok (.istore_n 2, 1) := by decide +kernel
theorem dX12_partBy_2 : decode cX12_partBy 2 = .ok (.iconst 0, 1) := by decide +kernel
theorem dX12_partBy_3 : decode cX12_partBy 3 = .ok (.istore_n 3, 1) := by decide +kernel
theorem dX12_partBy_4 : decode cX12_partBy 4 = .ok (.iload_n 3, 1) := by decide +kernel
theorem dX12_partBy_5 : decode cX12_partBy 5 = .ok (.aload_n 0, 1) := by decide +kernel
theorem dX12_partBy_6 : decode cX12_partBy 6 = .ok (.invokevirtual 403, 3) := by decide +kernel
theorem dX12_partBy_9 : decode cX12_partBy 9 = .ok (.if_icmp .gt 80, 3) := by decide +kernel
theorem dX12_partBy_12 : decode cX12_partBy 12 = .ok (.aload_n 0, 1) := by decide +kernel
theorem dX12_partBy_13 : decode cX12_partBy 13 = .ok (.getfield 51, 3) := by decide +kernel
theorem dX12_partBy_16 : decode cX12_partBy 16 = .ok (.iload_n 3, 1) := by decide +kernel
theorem dX12_partBy_17 : decode cX12_partBy 17 = .ok (.baload, 1) := by decide +kernel
theorem dX12_partBy_18 : decode cX12_partBy 18 = .ok (.ifCond .ne 6, 3) := by decide +kernel
theorem dX12_partBy_21 : decode cX12_partBy 21 = .ok (.goto 62, 3) := by decide +kernel
theorem dX12_partBy_24 : decode cX12_partBy 24 = .ok (.iconst 0, 1) := by decide +kernel
theorem dX12_partBy_25 : decode cX12_partBy 25 = .ok (.istore 4, 2) := by decide +kernel
theorem dX12_partBy_27 : decode cX12_partBy 27 = .ok (.iconst 0, 1) := by decide +kernel
theorem dX12_partBy_28 : decode cX12_partBy 28 = .ok (.istore 5, 2) := by decide +kernel
theorem dX12_partBy_30 : decode cX12_partBy 30 = .ok (.iload 5, 2) := by decide +kernel
theorem dX12_partBy_32 : decode cX12_partBy 32 = .ok (.aload_n 0, 1) := by decide +kernel
theorem dX12_partBy_33 : decode cX12_partBy 33 = .ok (.invokevirtual 403, 3) := by decide +kernel
theorem dX12_partBy_36 : decode cX12_partBy 36 = .ok (.if_icmp .gt 40, 3) := by decide +kernel
theorem dX12_partBy_39 : decode cX12_partBy 39 = .ok (.iload 4, 2) := by decide +kernel
theorem dX12_partBy_41 : decode cX12_partBy 41 = .ok (.aload_n 0, 1) := by decide +kernel
theorem dX12_partBy_42 : decode cX12_partBy 42 = .ok (.getfield 51, 3) := by decide +kernel
theorem dX12_partBy_45 : decode cX12_partBy 45 = .ok (.iload 5, 2) := by decide +kernel
theorem dX12_partBy_47 : decode cX12_partBy 47 = .ok (.baload, 1) := by decide +kernel
theorem dX12_partBy_48 : decode cX12_partBy 48 = .ok (.ifCond .eq 18, 3) := by decide +kernel
theorem dX12_partBy_51 : decode cX12_partBy 51 = .ok (.aload_n 0, 1) := by decide +kernel
theorem dX12_partBy_52 : decode cX12_partBy 52 = .ok (.iload_n 1, 1) := by decide +kernel
theorem dX12_partBy_53 : decode cX12_partBy 53 = .ok (.iload_n 3, 1) := by decide +kernel
theorem dX12_partBy_54 : decode cX12_partBy 54 = .ok (.iload 5, 2) := by decide +kernel
theorem dX12_partBy_56 : decode cX12_partBy 56 = .ok (.invokevirtual 430, 3) := by decide +kernel
theorem dX12_partBy_59 : decode cX12_partBy 59 = .ok (.ifCond .eq 7, 3) := by decide +kernel
theorem dX12_partBy_62 : decode cX12_partBy 62 = .ok (.iconst 1, 1) := by decide +kernel
theorem dX12_partBy_63 : decode cX12_partBy 63 = .ok (.goto 4, 3) := by decide +kernel
theorem dX12_partBy_66 : decode cX12_partBy 66 = .ok (.iconst 0, 1) := by decide +kernel
theorem dX12_partBy_67 : decode cX12_partBy 67 = .ok (.iadd, 1) := by decide +kernel
theorem dX12_partBy_68 : decode cX12_partBy 68 = .ok (.istore 4, 2) := by decide +kernel
theorem dX12_partBy_70 : decode cX12_partBy 70 = .ok (.iinc 5 1, 3) := by decide +kernel
theorem dX12_partBy_73 : decode cX12_partBy 73 = .ok (.goto (-43), 3) := by decide +kernel
theorem dX12_partBy_76 : decode cX12_partBy 76 = .ok (.iload_n 2, 1) := by decide +kernel
theorem dX12_partBy_77 : decode cX12_partBy 77 = .ok (.iload 4, 2) := by decide +kernel
theorem dX12_partBy_79 : decode cX12_partBy 79 = .ok (.invokestatic 305, 3) := by decide +kernel
theorem dX12_partBy_82 : decode cX12_partBy 82 = .ok (.istore_n 2, 1) := by decide +kernel
theorem dX12_partBy_83 : decode cX12_partBy 83 = .ok (.iinc 3 1, 3) := by decide +kernel
theorem dX12_partBy_86 : decode cX12_partBy 86 = .ok (.goto (-82), 3) := by decide +kernel
theorem dX12_partBy_89 : decode cX12_partBy 89 = .ok (.iload_n 2, 1) := by decide +kernel
theorem dX12_partBy_90 : decode cX12_partBy 90 = .ok (.ireturn, 1) := by decide +kernel
theorem dX12_next_0 : decode cX12_next 0 = .ok (.aload_n 0, 1) := by decide +kernel
theorem dX12_next_1 : decode cX12_next 1 = .ok (.invokevirtual 271, 3) := by decide +kernel
theorem dX12_next_4 : decode cX12_next 4 = .ok (.aload_n 0, 1) := by decide +kernel
theorem dX12_next_5 : decode cX12_next 5 = .ok (.aload_n 0, 1) := by decide +kernel
theorem dX12_next_6 : decode cX12_next 6 = .ok (.invokevirtual 421, 3) := by decide +kernel
theorem dX12_next_9 : decode cX12_next 9 = .ok (.ifCond .ne 7, 3) := by decide +kernel
theorem dX12_next_12 : decode cX12_next 12 = .ok (.iconst 1, 1) := by decide +kernel
theorem dX12_next_13 : decode cX12_next 13 = .ok (.goto 4, 3) := by decide +kernel
theorem dX12_next_16 : decode cX12_next 16 = .ok (.iconst 0, 1) := by decide +kernel
theorem dX12_next_17 : decode cX12_next 17 = .ok (.iconst 1, 1) := by decide +kernel
theorem dX12_next_18 : decode cX12_next 18 = .ok (.invokevirtual 282, 3) := by decide +kernel
theorem dX12_next_21 : decode cX12_next 21 = .ok (.ifCond .eq 5, 3) := by decide +kernel
theorem dX12_next_24 : decode cX12_next 24 = .ok (.iconst 0, 1) := by decide +kernel
theorem dX12_next_25 : decode cX12_next 25 = .ok (.ireturn, 1) := by decide +kernel
theorem dX12_next_26 : decode cX12_next 26 = .ok (.aload_n 0, 1) := by decide +kernel
theorem dX12_next_27 : decode cX12_next 27 = .ok (.invokevirtual 424, 3) := by decide +kernel
theorem dX12_next_30 : decode cX12_next 30 = .ok (.iconst 0, 1) := by decide +kernel
theorem dX12_next_31 : decode cX12_next 31 = .ok (.istore_n 1, 1) := by decide +kernel
theorem dX12_next_32 : decode cX12_next 32 = .ok (.iconst 0, 1) := by decide +kernel
theorem dX12_next_33 : decode cX12_next 33 = .ok (.istore_n 2, 1) := by decide +kernel
theorem dX12_next_34 : decode cX12_next 34 = .ok (.iload_n 2, 1) := by decide +kernel
theorem dX12_next_35 : decode cX12_next 35 = .ok (.aload_n 0, 1) := by decide +kernel
theorem dX12_next_36 : decode cX12_next 36 = .ok (.invokevirtual 403, 3) := by decide +kernel
theorem dX12_next_39 : decode cX12_next 39 = .ok (.if_icmp .gt 37, 3) := by decide +kernel
theorem dX12_next_42 : decode cX12_next 42 = .ok (.aload_n 0, 1) := by decide +kernel
theorem dX12_next_43 : decode cX12_next 43 = .ok (.getfield 51, 3) := by decide +kernel
theorem dX12_next_46 : decode cX12_next 46 = .ok (.iload_n 2, 1) := by decide +kernel
theorem dX12_next_47 : decode cX12_next 47 = .ok (.aload_n 0, 1) := by decide +kernel
theorem dX12_next_48 : decode cX12_next 48 = .ok (.iload_n 2, 1) := by decide +kernel
theorem dX12_next_49 : decode cX12_next 49 = .ok (.invokevirtual 427, 3) := by decide +kernel
theorem dX12_next_52 : decode cX12_next 52 = .ok (.bastore, 1) := by decide +kernel
theorem dX12_next_53 : decode cX12_next 53 = .ok (.iload_n 1, 1) := by decide +kernel
theorem dX12_next_54 : decode cX12_next 54 = .ok (.aload_n 0, 1) := by decide +kernel
theorem dX12_next_55 : decode cX12_next 55 = .ok (.getfield 51, 3) := by decide +kernel
theorem dX12_next_58 : decode cX12_next 58 = .ok (.iload_n 2, 1) := by decide +kernel
theorem dX12_next_59 : decode cX12_next 59 = .ok (.baload, 1) := by decide +kernel
theorem dX12_next_60 : decode cX12_next 60 = .ok (.ifCond .eq 7, 3) := by decide +kernel
theorem dX12_next_63 : decode cX12_next 63 = .ok (.iconst 1, 1) := by decide +kernel
theorem dX12_next_64 : decode cX12_next 64 = .ok (.goto 4, 3) := by decide +kernel
theorem dX12_next_67 : decode cX12_next 67 = .ok (.iconst 0, 1) := by decide +kernel
theorem dX12_next_68 : decode cX12_next 68 = .ok (.iadd, 1) := by decide +kernel
theorem dX12_next_69 : decode cX12_next 69 = .ok (.istore_n 1, 1) := by decide +kernel
theorem dX12_next_70 : decode cX12_next 70 = .ok (.iinc 2 1, 3) := by decide +kernel
theorem dX12_next_73 : decode cX12_next 73 = .ok (.goto (-39), 3) := by decide +kernel
theorem dX12_next_76 : decode cX12_next 76 = .ok (.iconst (-1), 1) := by decide +kernel
theorem dX12_next_77 : decode cX12_next 77 = .ok (.istore_n 2, 1) := by decide +kernel
theorem dX12_next_78 : decode cX12_next 78 = .ok (.ldc_w 433, 3) := by decide +kernel
theorem dX12_next_81 : decode cX12_next 81 = .ok (.istore_n 3, 1) := by decide +kernel
theorem dX12_next_82 : decode cX12_next 82 = .ok (.iconst 0, 1) := by decide +kernel
theorem dX12_next_83 : decode cX12_next 83 = .ok (.istore 4, 2) := by decide +kernel
theorem dX12_next_85 : decode cX12_next 85 = .ok (.iload 4, 2) := by decide +kernel
theorem dX12_next_87 : decode cX12_next 87 = .ok (.aload_n 0, 1) := by decide +kernel
theorem dX12_next_88 : decode cX12_next 88 = .ok (.invokevirtual 99, 3) := by decide +kernel
theorem dX12_next_91 : decode cX12_next 91 = .ok (.if_icmp .ge 42, 3) := by decide +kernel
theorem dX12_next_94 : decode cX12_next 94 = .ok (.iload_n 1, 1) := by decide +kernel
theorem dX12_next_95 : decode cX12_next 95 = .ok (.iconst 1, 1) := by decide +kernel
theorem dX12_next_96 : decode cX12_next 96 = .ok (.if_icmp .le 37, 3) := by decide +kernel
theorem dX12_next_99 : decode cX12_next 99 = .ok (.aload_n 0, 1) := by decide +kernel
theorem dX12_next_100 : decode cX12_next 100 = .ok (.iload 4, 2) := by decide +kernel
theorem dX12_next_102 : decode cX12_next 102 = .ok (.invokevirtual 434, 3) := by decide +kernel
theorem dX12_next_105 : decode cX12_next 105 = .ok (.istore 5, 2) := by decide +kernel
theorem dX12_next_107 : decode cX12_next 107 = .ok (.iload 5, 2) := by decide +kernel
theorem dX12_next_109 : decode cX12_next 109 = .ok (.iload_n 3, 1) := by decide +kernel
theorem dX12_next_110 : decode cX12_next 110 = .ok (.if_icmp .ge 8, 3) := by decide +kernel
theorem dX12_next_113 : decode cX12_next 113 = .ok (.iload 4, 2) := by decide +kernel
theorem dX12_next_115 : decode cX12_next 115 = .ok (.goto 4, 3) := by decide +kernel
theorem dX12_next_118 : decode cX12_next 118 = .ok (.iload_n 2, 1) := by decide +kernel
theorem dX12_next_119 : decode cX12_next 119 = .ok (.istore_n 2, 1) := by decide +kernel
theorem dX12_next_120 : decode cX12_next 120 = .ok (.iload_n 3, 1) := by decide +kernel
theorem dX12_next_121 : decode cX12_next 121 = .ok (.iload 5, 2) := by decide +kernel
theorem dX12_next_123 : decode cX12_next 123 = .ok (.invokestatic 310, 3) := by decide +kernel
theorem dX12_next_126 : decode cX12_next 126 = .ok (.istore_n 3, 1) := by decide +kernel
theorem dX12_next_127 : decode cX12_next 127 = .ok (.iinc 4 1, 3) := by decide +kernel
theorem dX12_next_130 : decode cX12_next 130 = .ok (.goto (-45), 3) := by decide +kernel
theorem dX12_next_133 : decode cX12_next 133 = .ok (.iload_n 2, 1) := by decide +kernel
theorem dX12_next_134 : decode cX12_next 134 = .ok (.ireturn, 1) := by decide +kernel
theorem dX12_partedBy_0 : decode cX12_partedBy 0 = .ok (.iconst 0, 1) := by decide +kernel
theorem dX12_partedBy_1 : decode cX12_partedBy 1 = .ok (.istore_n 3, 1) := by decide +kernel
theorem dX12_partedBy_2 : decode cX12_partedBy 2 = .ok (.iconst 0, 1) := by decide +kernel
theorem dX12_partedBy_3 : decode cX12_partedBy 3 = .ok (.istore 4, 2) := by decide +kernel
theorem dX12_partedBy_5 : decode cX12_partedBy 5 = .ok (.iload 4, 2) := by decide +kernel
theorem dX12_partedBy_7 : decode cX12_partedBy 7 = .ok (.aload_n 0, 1) := by decide +kernel
theorem dX12_partedBy_8 : decode cX12_partedBy 8 = .ok (.invokevirtual 99, 3) := by decide +kernel
theorem dX12_partedBy_11 : decode cX12_partedBy 11 = .ok (.if_icmp .ge 31, 3) := by decide +kernel
theorem dX12_partedBy_14 : decode cX12_partedBy 14 = .ok (.iload_n 3, 1) := by decide +kernel
theorem dX12_partedBy_15 : decode cX12_partedBy 15 = .ok (.aload_n 0, 1) := by decide +kernel
theorem dX12_partedBy_16 : decode cX12_partedBy 16 = .ok (.iload 4, 2) := by decide +kernel
theorem dX12_partedBy_18 : decode cX12_partedBy 18 = .ok (.iload_n 1, 1) := by decide +kernel
theorem dX12_partedBy_19 : decode cX12_partedBy 19 = .ok (.iload_n 2, 1) := by decide +kernel
theorem dX12_partedBy_20 : decode cX12_partedBy 20 = .ok (.invokevirtual 430, 3) := by decide +kernel
theorem dX12_partedBy_23 : decode cX12_partedBy 23 = .ok (.ifCond .eq 7, 3) := by decide +kernel
theorem dX12_partedBy_26 : decode cX12_partedBy 26 = .ok (.iconst 0, 1) := by decide +kernel
theorem dX12_partedBy_27 : decode cX12_partedBy 27 = .ok (.goto 7, 3) := by decide +kernel
theorem dX12_partedBy_30 : decode cX12_partedBy 30 = .ok (.iconst 1, 1) := by decide +kernel
theorem dX12_partedBy_31 : decode cX12_partedBy 31 = .ok (.iload 4, 2) := by decide +kernel
theorem dX12_partedBy_33 : decode cX12_partedBy 33 = .ok (.ishl, 1) := by decide +kernel
theorem dX12_partedBy_34 : decode cX12_partedBy 34 = .ok (.ior, 1) := by decide +kernel
theorem dX12_partedBy_35 : decode cX12_partedBy 35 = .ok (.istore_n 3, 1) := by decide +kernel
theorem dX12_partedBy_36 : decode cX12_partedBy 36 = .ok (.iinc 4 1, 3) := by decide +kernel
theorem dX12_partedBy_39 : decode cX12_partedBy 39 = .ok (.goto (-34), 3) := by decide +kernel
theorem dX12_partedBy_42 : decode cX12_partedBy 42 = .ok (.iload_n 3, 1) := by decide +kernel
theorem dX12_partedBy_43 : decode cX12_partedBy 43 = .ok (.ireturn, 1) := by decide +kernel
theorem dX12_laysMusts_0 : decode cX12_laysMusts 0 = .ok (.iconst 0, 1) := by decide +kernel
theorem dX12_laysMusts_1 : decode cX12_laysMusts 1 = .ok (.istore_n 2, 1) := by decide +kernel
theorem dX12_laysMusts_2 : decode cX12_laysMusts 2 = .ok (.iload_n 2, 1) := by decide +kernel
theorem dX12_laysMusts_3 : decode cX12_laysMusts 3 = .ok (.sipush 256, 3) := by decide +kernel
theorem dX12_laysMusts_6 : decode cX12_laysMusts 6 = .ok (.if_icmp .ge 16, 3) := by decide +kernel
theorem dX12_laysMusts_9 : decode cX12_laysMusts 9 = .ok (.aload_n 0, 1) := by decide +kernel
theorem dX12_laysMusts_10 : decode cX12_laysMusts 10 = .ok (.getfield 55, 3) := by decide +kernel
theorem dX12_laysMusts_13 : decode cX12_laysMusts 13 = .ok (.iload_n 2, 1) := by decide +kernel
theorem dX12_laysMusts_14 : decode cX12_laysMusts 14 = .ok (.iconst 0, 1) := by decide +kernel
theorem dX12_laysMusts_15 : decode cX12_laysMusts 15 = .ok (.bastore, 1) := by decide +kernel
theorem dX12_laysMusts_16 : decode cX12_laysMusts 16 = .ok (.iinc 2 1, 3) := by decide +kernel
theorem dX12_laysMusts_19 : decode cX12_laysMusts 19 = .ok (.goto (-17), 3) := by decide +kernel
theorem dX12_laysMusts_22 : decode cX12_laysMusts 22 = .ok (.iconst 0, 1) := by decide +kernel
theorem dX12_laysMusts_23 : decode cX12_laysMusts 23 = .ok (.istore_n 2, 1) := by decide +kernel
theorem dX12_laysMusts_24 : decode cX12_laysMusts 24 = .ok (.iload_n 2, 1) := by decide +kernel
theorem dX12_laysMusts_25 : decode cX12_laysMusts 25 = .ok (.aload_n 0, 1) := by decide +kernel
theorem dX12_laysMusts_26 : decode cX12_laysMusts 26 = .ok (.invokevirtual 403, 3) := by decide +kernel
theorem dX12_laysMusts_29 : decode cX12_laysMusts 29 = .ok (.if_icmp .gt 53, 3) := by decide +kernel
theorem dX12_laysMusts_32 : decode cX12_laysMusts 32 = .ok (.iconst 0, 1) := by decide +kernel
theorem dX12_laysMusts_33 : decode cX12_laysMusts 33 = .ok (.istore_n 3, 1) := by decide +kernel
theorem dX12_laysMusts_34 : decode cX12_laysMusts 34 = .ok (.iload_n 3, 1) := by decide +kernel
theorem dX12_laysMusts_35 : decode cX12_laysMusts 35 = .ok (.aload_n 0, 1) := by decide +kernel
theorem dX12_laysMusts_36 : decode cX12_laysMusts 36 = .ok (.invokevirtual 403, 3) := by decide +kernel
theorem dX12_laysMusts_39 : decode cX12_laysMusts 39 = .ok (.if_icmp .gt 37, 3) := by decide +kernel
theorem dX12_laysMusts_42 : decode cX12_laysMusts 42 = .ok (.iload_n 2, 1) := by decide +kernel
theorem dX12_laysMusts_43 : decode cX12_laysMusts 43 = .ok (.iload_n 1, 1) := by decide +kernel
theorem dX12_laysMusts_44 : decode cX12_laysMusts 44 = .ok (.invokestatic 147, 3) := by decide +kernel
theorem dX12_laysMusts_47 : decode cX12_laysMusts 47 = .ok (.ifCond .eq 23, 3) := by decide +kernel
theorem dX12_laysMusts_50 : decode cX12_laysMusts 50 = .ok (.iload_n 3, 1) := by decide +kernel
theorem dX12_laysMusts_51 : decode cX12_laysMusts 51 = .ok (.iload_n 1, 1) := by decide +kernel
theorem dX12_laysMusts_52 : decode cX12_laysMusts 52 = .ok (.invokestatic 147, 3) := by decide +kernel
theorem dX12_laysMusts_55 : decode cX12_laysMusts 55 = .ok (.ifCond .ne 15, 3) := by decide +kernel
theorem dX12_laysMusts_58 : decode cX12_laysMusts 58 = .ok (.aload_n 0, 1) := by decide +kernel
theorem dX12_laysMusts_59 : decode cX12_laysMusts 59 = .ok (.getfield 55, 3) := by decide +kernel
theorem dX12_laysMusts_62 : decode cX12_laysMusts 62 = .ok (.aload_n 0, 1) := by decide +kernel
theorem dX12_laysMusts_63 : decode cX12_laysMusts 63 = .ok (.iload_n 2, 1) := by decide +kernel
theorem dX12_laysMusts_64 : decode cX12_laysMusts 64 = .ok (.iload_n 3, 1) := by decide +kernel
theorem dX12_laysMusts_65 : decode cX12_laysMusts 65 = .ok (.invokevirtual 437, 3) := by decide +kernel
theorem dX12_laysMusts_68 : decode cX12_laysMusts 68 = .ok (.iconst 1, 1) := by decide +kernel
theorem dX12_laysMusts_69 : decode cX12_laysMusts 69 = .ok (.bastore, 1) := by decide +kernel
theorem dX12_laysMusts_70 : decode cX12_laysMusts 70 = .ok (.iinc 3 1, 3) := by decide +kernel
theorem dX12_laysMusts_73 : decode cX12_laysMusts 73 = .ok (.goto (-39), 3) := by decide +kernel
theorem dX12_laysMusts_76 : decode cX12_laysMusts 76 = .ok (.iinc 2 1, 3) := by decide +kernel
theorem dX12_laysMusts_79 : decode cX12_laysMusts 79 = .ok (.goto (-55), 3) := by decide +kernel
theorem dX12_laysMusts_82 : decode cX12_laysMusts 82 = .ok (.return_, 1) := by decide +kernel
theorem dX12_tellsAll_0 : decode cX12_tellsAll 0 = .ok (.iconst 1, 1) := by decide +kernel
theorem dX12_tellsAll_1 : decode cX12_tellsAll 1 = .ok (.istore_n 2, 1) := by decide +kernel
theorem dX12_tellsAll_2 : decode cX12_tellsAll 2 = .ok (.iconst 0, 1) := by decide +kernel
theorem dX12_tellsAll_3 : decode cX12_tellsAll 3 = .ok (.istore_n 3, 1) := by decide +kernel
theorem dX12_tellsAll_4 : decode cX12_tellsAll 4 = .ok (.iload_n 3, 1) := by decide +kernel
theorem dX12_tellsAll_5 : decode cX12_tellsAll 5 = .ok (.sipush 256, 3) := by decide +kernel
theorem dX12_tellsAll_8 : decode cX12_tellsAll 8 = .ok (.if_icmp .ge 34, 3) := by decide +kernel
theorem dX12_tellsAll_11 : decode cX12_tellsAll 11 = .ok (.iload_n 2, 1) := by decide +kernel
theorem dX12_tellsAll_12 : decode cX12_tellsAll 12 = .ok (.ifCond .eq 30, 3) := by decide +kernel
theorem dX12_tellsAll_15 : decode cX12_tellsAll 15 = .ok (.aload_n 0, 1) := by decide +kernel
theorem dX12_tellsAll_16 : decode cX12_tellsAll 16 = .ok (.getfield 55, 3) := by decide +kernel
theorem dX12_tellsAll_19 : decode cX12_tellsAll 19 = .ok (.iload_n 3, 1) := by decide +kernel
theorem dX12_tellsAll_20 : decode cX12_tellsAll 20 = .ok (.baload, 1) := by decide +kernel
theorem dX12_tellsAll_21 : decode cX12_tellsAll 21 = .ok (.ifCond .eq 9, 3) := by decide +kernel
theorem dX12_tellsAll_24 : decode cX12_tellsAll 24 = .ok (.iload_n 3, 1) := by decide +kernel
theorem dX12_tellsAll_25 : decode cX12_tellsAll 25 = .ok (.iload_n 1, 1) := by decide +kernel
theorem dX12_tellsAll_26 : decode cX12_tellsAll 26 = .ok (.iand, 1) := by decide +kernel
theorem dX12_tellsAll_27 : decode cX12_tellsAll 27 = .ok (.ifCond .eq 7, 3) := by decide +kernel
theorem dX12_tellsAll_30 : decode cX12_tellsAll 30 = .ok (.iconst 1, 1) := by decide +kernel
theorem dX12_tellsAll_31 : decode cX12_tellsAll 31 = .ok (.goto 4, 3) := by decide +kernel
theorem dX12_tellsAll_34 : decode cX12_tellsAll 34 = .ok (.iconst 0, 1) := by decide +kernel
theorem dX12_tellsAll_35 : decode cX12_tellsAll 35 = .ok (.istore_n 2, 1) := by decide +kernel
theorem dX12_tellsAll_36 : decode cX12_tellsAll 36 = .ok (.iinc 3 1, 3) := by decide +kernel
theorem dX12_tellsAll_39 : decode cX12_tellsAll 39 = .ok (.goto (-35), 3) := by decide +kernel
theorem dX12_tellsAll_42 : decode cX12_tellsAll 42 = .ok (.iload_n 2, 1) := by decide +kernel
theorem dX12_tellsAll_43 : decode cX12_tellsAll 43 = .ok (.ireturn, 1) := by decide +kernel
theorem dX12_knownBy_0 : decode cX12_knownBy 0 = .ok (.aload_n 0, 1) := by decide +kernel
theorem dX12_knownBy_1 : decode cX12_knownBy 1 = .ok (.invokevirtual 424, 3) := by decide +kernel
theorem dX12_knownBy_4 : decode cX12_knownBy 4 = .ok (.aload_n 0, 1) := by decide +kernel
theorem dX12_knownBy_5 : decode cX12_knownBy 5 = .ok (.iload_n 1, 1) := by decide +kernel
theorem dX12_knownBy_6 : decode cX12_knownBy 6 = .ok (.invokevirtual 440, 3) := by decide +kernel
theorem dX12_knownBy_9 : decode cX12_knownBy 9 = .ok (.iconst (-1), 1) := by decide +kernel
theorem dX12_knownBy_10 : decode cX12_knownBy 10 = .ok (.istore_n 2, 1) := by decide +kernel
theorem dX12_knownBy_11 : decode cX12_knownBy 11 = .ok (.iconst 0, 1) := by decide +kernel
theorem dX12_knownBy_12 : decode cX12_knownBy 12 = .ok (.istore_n 3, 1) := by decide +kernel
theorem dX12_knownBy_13 : decode cX12_knownBy 13 = .ok (.iload_n 3, 1) := by decide +kernel
theorem dX12_knownBy_14 : decode cX12_knownBy 14 = .ok (.iconst 1, 1) := by decide +kernel
theorem dX12_knownBy_15 : decode cX12_knownBy 15 = .ok (.aload_n 0, 1) := by decide +kernel
theorem dX12_knownBy_16 : decode cX12_knownBy 16 = .ok (.invokevirtual 99, 3) := by decide +kernel
theorem dX12_knownBy_19 : decode cX12_knownBy 19 = .ok (.ishl, 1) := by decide +kernel
theorem dX12_knownBy_20 : decode cX12_knownBy 20 = .ok (.if_icmp .ge 35, 3) := by decide +kernel
theorem dX12_knownBy_23 : decode cX12_knownBy 23 = .ok (.iload_n 2, 1) := by decide +kernel
theorem dX12_knownBy_24 : decode cX12_knownBy 24 = .ok (.iconst (-1), 1) := by decide +kernel
theorem dX12_knownBy_25 : decode cX12_knownBy 25 = .ok (.if_icmp .eq 14, 3) := by decide +kernel
theorem dX12_knownBy_28 : decode cX12_knownBy 28 = .ok (.iload_n 3, 1) := by decide +kernel
theorem dX12_knownBy_29 : decode cX12_knownBy 29 = .ok (.invokestatic 443, 3) := by decide +kernel
theorem dX12_knownBy_32 : decode cX12_knownBy 32 = .ok (.iload_n 2, 1) := by decide +kernel
theorem dX12_knownBy_33 : decode cX12_knownBy 33 = .ok (.invokestatic 443, 3) := by decide +kernel
theorem dX12_knownBy_36 : decode cX12_knownBy 36 = .ok (.if_icmp .ge 13, 3) := by decide +kernel
theorem dX12_knownBy_39 : decode cX12_knownBy 39 = .ok (.aload_n 0, 1) := by decide +kernel
theorem dX12_knownBy_40 : decode cX12_knownBy 40 = .ok (.iload_n 3, 1) := by decide +kernel
theorem dX12_knownBy_41 : decode cX12_knownBy 41 = .ok (.invokevirtual 448, 3) := by decide +kernel
theorem dX12_knownBy_44 : decode cX12_knownBy 44 = .ok (.ifCond .eq 5, 3) := by decide +kernel
theorem dX12_knownBy_47 : decode cX12_knownBy 47 = .ok (.iload_n 3, 1) := by decide +kernel
theorem dX12_knownBy_48 : decode cX12_knownBy 48 = .ok (.istore_n 2, 1) := by decide +kernel
theorem dX12_knownBy_49 : decode cX12_knownBy 49 = .ok (.iinc 3 1, 3) := by decide +kernel
theorem dX12_knownBy_52 : decode cX12_knownBy 52 = .ok (.goto (-39), 3) := by decide +kernel
theorem dX12_knownBy_55 : decode cX12_knownBy 55 = .ok (.iload_n 2, 1) := by decide +kernel
theorem dX12_knownBy_56 : decode cX12_knownBy 56 = .ok (.ireturn, 1) := by decide +kernel
theorem dX12_dark_0 : decode cX12_dark 0 = .ok (.aload_n 0, 1) := by decide +kernel
theorem dX12_dark_1 : decode cX12_dark 1 = .ok (.iconst 0, 1) := by decide +kernel
theorem dX12_dark_2 : decode cX12_dark 2 = .ok (.putfield 3, 3) := by decide +kernel
theorem dX12_dark_5 : decode cX12_dark 5 = .ok (.aload_n 0, 1) := by decide +kernel
theorem dX12_dark_6 : decode cX12_dark 6 = .ok (.invokevirtual 424, 3) := by decide +kernel
theorem dX12_dark_9 : decode cX12_dark 9 = .ok (.iconst 0, 1) := by decide +kernel
theorem dX12_dark_10 : decode cX12_dark 10 = .ok (.istore_n 1, 1) := by decide +kernel
theorem dX12_dark_11 : decode cX12_dark 11 = .ok (.iconst 0, 1) := by decide +kernel
theorem dX12_dark_12 : decode cX12_dark 12 = .ok (.istore_n 2, 1) := by decide +kernel
theorem dX12_dark_13 : decode cX12_dark 13 = .ok (.iload_n 2, 1) := by decide +kernel
theorem dX12_dark_14 : decode cX12_dark 14 = .ok (.aload_n 0, 1) := by decide +kernel
theorem dX12_dark_15 : decode cX12_dark 15 = .ok (.invokevirtual 85, 3) := by decide +kernel
theorem dX12_dark_18 : decode cX12_dark 18 = .ok (.if_icmp .ge 33, 3) := by decide +kernel
theorem dX12_dark_21 : decode cX12_dark 21 = .ok (.aload_n 0, 1) := by decide +kernel
theorem dX12_dark_22 : decode cX12_dark 22 = .ok (.iload_n 2, 1) := by decide +kernel
theorem dX12_dark_23 : decode cX12_dark 23 = .ok (.invokevirtual 440, 3) := by decide +kernel
theorem dX12_dark_26 : decode cX12_dark 26 = .ok (.iload_n 1, 1) := by decide +kernel
theorem dX12_dark_27 : decode cX12_dark 27 = .ok (.aload_n 0, 1) := by decide +kernel
theorem dX12_dark_28 : decode cX12_dark 28 = .ok (.getfield 55, 3) := by decide +kernel
theorem dX12_dark_31 : decode cX12_dark 31 = .ok (.iconst 0, 1) := by decide +kernel
theorem dX12_dark_32 : decode cX12_dark 32 = .ok (.baload, 1) := by decide +kernel
theorem dX12_dark_33 : decode cX12_dark 33 = .ok (.ifCond .eq 9, 3) := by decide +kernel
theorem dX12_dark_36 : decode cX12_dark 36 = .ok (.iconst 1, 1) := by decide +kernel
theorem dX12_dark_37 : decode cX12_dark 37 = .ok (.iload_n 2, 1) := by decide +kernel
theorem dX12_dark_38 : decode cX12_dark 38 = .ok (.ishl, 1) := by decide +kernel
theorem dX12_dark_39 : decode cX12_dark 39 = .ok (.goto 4, 3) := by decide +kernel
theorem dX12_dark_42 : decode cX12_dark 42 = .ok (.iconst 0, 1) := by decide +kernel
theorem dX12_dark_43 : decode cX12_dark 43 = .ok (.ior, 1) := by decide +kernel
theorem dX12_dark_44 : decode cX12_dark 44 = .ok (.istore_n 1, 1) := by decide +kernel
theorem dX12_dark_45 : decode cX12_dark 45 = .ok (.iinc 2 1, 3) := by decide +kernel
theorem dX12_dark_48 : decode cX12_dark 48 = .ok (.goto (-35), 3) := by decide +kernel
theorem dX12_dark_51 : decode cX12_dark 51 = .ok (.iload_n 1, 1) := by decide +kernel
theorem dX12_dark_52 : decode cX12_dark 52 = .ok (.ireturn, 1) := by decide +kernel
theorem dX12_tells_0 : decode cX12_tells 0 = .ok (.aload_n 0, 1) := by decide +kernel
theorem dX12_tells_1 : decode cX12_tells 1 = .ok (.iconst 0, 1) := by decide +kernel
theorem dX12_tells_2 : decode cX12_tells 2 = .ok (.putfield 3, 3) := by decide +kernel
theorem dX12_tells_5 : decode cX12_tells 5 = .ok (.aload_n 0, 1) := by decide +kernel
theorem dX12_tells_6 : decode cX12_tells 6 = .ok (.aload_n 0, 1) := by decide +kernel
theorem dX12_tells_7 : decode cX12_tells 7 = .ok (.iload_n 1, 1) := by decide +kernel
theorem dX12_tells_8 : decode cX12_tells 8 = .ok (.invokevirtual 391, 3) := by decide +kernel
theorem dX12_tells_11 : decode cX12_tells 11 = .ok (.iconst 1, 1) := by decide +kernel
theorem dX12_tells_12 : decode cX12_tells 12 = .ok (.invokevirtual 282, 3) := by decide +kernel
theorem dX12_tells_15 : decode cX12_tells 15 = .ok (.ifCond .eq 5, 3) := by decide +kernel
theorem dX12_tells_18 : decode cX12_tells 18 = .ok (.iconst 0, 1) := by decide +kernel
theorem dX12_tells_19 : decode cX12_tells 19 = .ok (.ireturn, 1) := by decide +kernel
theorem dX12_tells_20 : decode cX12_tells 20 = .ok (.aload_n 0, 1) := by decide +kernel
theorem dX12_tells_21 : decode cX12_tells 21 = .ok (.invokevirtual 424, 3) := by decide +kernel
theorem dX12_tells_24 : decode cX12_tells 24 = .ok (.iconst 0, 1) := by decide +kernel
theorem dX12_tells_25 : decode cX12_tells 25 = .ok (.istore_n 2, 1) := by decide +kernel
theorem dX12_tells_26 : decode cX12_tells 26 = .ok (.iconst 0, 1) := by decide +kernel
theorem dX12_tells_27 : decode cX12_tells 27 = .ok (.istore_n 3, 1) := by decide +kernel
theorem dX12_tells_28 : decode cX12_tells 28 = .ok (.iload_n 3, 1) := by decide +kernel
theorem dX12_tells_29 : decode cX12_tells 29 = .ok (.aload_n 0, 1) := by decide +kernel
theorem dX12_tells_30 : decode cX12_tells 30 = .ok (.invokevirtual 403, 3) := by decide +kernel
theorem dX12_tells_33 : decode cX12_tells 33 = .ok (.if_icmp .gt 63, 3) := by decide +kernel
theorem dX12_tells_36 : decode cX12_tells 36 = .ok (.iconst 1, 1) := by decide +kernel
theorem dX12_tells_37 : decode cX12_tells 37 = .ok (.istore 4, 2) := by decide +kernel
theorem dX12_tells_39 : decode cX12_tells 39 = .ok (.iconst 0, 1) := by decide +kernel
theorem dX12_tells_40 : decode cX12_tells 40 = .ok (.istore 5, 2) := by decide +kernel
theorem dX12_tells_42 : decode cX12_tells 42 = .ok (.iload 5, 2) := by decide +kernel
theorem dX12_tells_44 : decode cX12_tells 44 = .ok (.iload_n 3, 1) := by decide +kernel
theorem dX12_tells_45 : decode cX12_tells 45 = .ok (.if_icmp .ge 32, 3) := by decide +kernel
theorem dX12_tells_48 : decode cX12_tells 48 = .ok (.iload 4, 2) := by decide +kernel
theorem dX12_tells_50 : decode cX12_tells 50 = .ok (.ifCond .eq 27, 3) := by decide +kernel
theorem dX12_tells_53 : decode cX12_tells 53 = .ok (.aload_n 0, 1) := by decide +kernel
theorem dX12_tells_54 : decode cX12_tells 54 = .ok (.iload_n 1, 1) := by decide +kernel
theorem dX12_tells_55 : decode cX12_tells 55 = .ok (.iload_n 3, 1) := by decide +kernel
theorem dX12_tells_56 : decode cX12_tells 56 = .ok (.iload 5, 2) := by decide +kernel
theorem dX12_tells_58 : decode cX12_tells 58 = .ok (.invokevirtual 430, 3) := by decide +kernel
theorem dX12_tells_61 : decode cX12_tells 61 = .ok (.ifCond .ne 7, 3) := by decide +kernel
theorem dX12_tells_64 : decode cX12_tells 64 = .ok (.iconst 1, 1) := by decide +kernel
theorem dX12_tells_65 : decode cX12_tells 65 = .ok (.goto 4, 3) := by decide +kernel
theorem dX12_tells_68 : decode cX12_tells 68 = .ok (.iconst 0, 1) := by decide +kernel
theorem dX12_tells_69 : decode cX12_tells 69 = .ok (.istore 4, 2) := by decide +kernel
theorem dX12_tells_71 : decode cX12_tells 71 = .ok (.iinc 5 1, 3) := by decide +kernel
theorem dX12_tells_74 : decode cX12_tells 74 = .ok (.goto (-32), 3) := by decide +kernel
theorem dX12_tells_77 : decode cX12_tells 77 = .ok (.iload_n 2, 1) := by decide +kernel
theorem dX12_tells_78 : decode cX12_tells 78 = .ok (.iload 4, 2) := by decide +kernel
theorem dX12_tells_80 : decode cX12_tells 80 = .ok (.ifCond .eq 7, 3) := by decide +kernel
theorem dX12_tells_83 : decode cX12_tells 83 = .ok (.iconst 1, 1) := by decide +kernel
theorem dX12_tells_84 : decode cX12_tells 84 = .ok (.goto 4, 3) := by decide +kernel
theorem dX12_tells_87 : decode cX12_tells 87 = .ok (.iconst 0, 1) := by decide +kernel
theorem dX12_tells_88 : decode cX12_tells 88 = .ok (.iadd, 1) := by decide +kernel
theorem dX12_tells_89 : decode cX12_tells 89 = .ok (.istore_n 2, 1) := by decide +kernel
theorem dX12_tells_90 : decode cX12_tells 90 = .ok (.iinc 3 1, 3) := by decide +kernel
theorem dX12_tells_93 : decode cX12_tells 93 = .ok (.goto (-65), 3) := by decide +kernel
theorem dX12_tells_96 : decode cX12_tells 96 = .ok (.iload_n 2, 1) := by decide +kernel
theorem dX12_tells_97 : decode cX12_tells 97 = .ok (.ireturn, 1) := by decide +kernel
theorem dX12_isTouched_0 : decode cX12_isTouched 0 = .ok (.aload_n 0, 1) := by decide +kernel
theorem dX12_isTouched_1 : decode cX12_isTouched 1 = .ok (.iload_n 2, 1) := by decide +kernel
theorem dX12_isTouched_2 : decode cX12_isTouched 2 = .ok (.aload_n 0, 1) := by decide +kernel
theorem dX12_isTouched_3 : decode cX12_isTouched 3 = .ok (.iload_n 1, 1) := by decide +kernel
theorem dX12_isTouched_4 : decode cX12_isTouched 4 = .ok (.invokevirtual 322, 3) := by decide +kernel
theorem dX12_isTouched_7 : decode cX12_isTouched 7 = .ok (.invokevirtual 288, 3) := by decide +kernel
theorem dX12_isTouched_10 : decode cX12_isTouched 10 = .ok (.ifCond .le 7, 3) := by decide +kernel
theorem dX12_isTouched_13 : decode cX12_isTouched 13 = .ok (.iconst 1, 1) := by decide +kernel
theorem dX12_isTouched_14 : decode cX12_isTouched 14 = .ok (.goto 4, 3) := by decide +kernel
theorem dX12_isTouched_17 : decode cX12_isTouched 17 = .ok (.iconst 0, 1) := by decide +kernel
theorem dX12_isTouched_18 : decode cX12_isTouched 18 = .ok (.ireturn, 1) := by decide +kernel
theorem dX12_sharedIn_0 : decode cX12_sharedIn 0 = .ok (.iconst 0, 1) := by decide +kernel
theorem dX12_sharedIn_1 : decode cX12_sharedIn 1 = .ok (.istore_n 2, 1) := by decide +kernel
theorem dX12_sharedIn_2 : decode cX12_sharedIn 2 = .ok (.iconst 1, 1) := by decide +kernel
theorem dX12_sharedIn_3 : decode cX12_sharedIn 3 = .ok (.istore_n 3, 1) := by decide +kernel
theorem dX12_sharedIn_4 : decode cX12_sharedIn 4 = .ok (.iload_n 3, 1) := by decide +kernel
theorem dX12_sharedIn_5 : decode cX12_sharedIn 5 = .ok (.aload_n 0, 1) := by decide +kernel
theorem dX12_sharedIn_6 : decode cX12_sharedIn 6 = .ok (.invokevirtual 92, 3) := by decide +kernel
theorem dX12_sharedIn_9 : decode cX12_sharedIn 9 = .ok (.if_icmp .ge 44, 3) := by decide +kernel
theorem dX12_sharedIn_12 : decode cX12_sharedIn 12 = .ok (.iload_n 2, 1) := by decide +kernel
theorem dX12_sharedIn_13 : decode cX12_sharedIn 13 = .ok (.aload_n 0, 1) := by decide +kernel
theorem dX12_sharedIn_14 : decode cX12_sharedIn 14 = .ok (.iload_n 1, 1) := by decide +kernel
theorem dX12_sharedIn_15 : decode cX12_sharedIn 15 = .ok (.aload_n 0, 1) := by decide +kernel
theorem dX12_sharedIn_16 : decode cX12_sharedIn 16 = .ok (.getfield 58, 3) := by decide +kernel
theorem dX12_sharedIn_19 : decode cX12_sharedIn 19 = .ok (.iload_n 3, 1) := by decide +kernel
theorem dX12_sharedIn_20 : decode cX12_sharedIn 20 = .ok (.iaload, 1) := by decide +kernel
theorem dX12_sharedIn_21 : decode cX12_sharedIn 21 = .ok (.invokevirtual 451, 3) := by decide +kernel
theorem dX12_sharedIn_24 : decode cX12_sharedIn 24 = .ok (.aload_n 0, 1) := by decide +kernel
theorem dX12_sharedIn_25 : decode cX12_sharedIn 25 = .ok (.iload_n 1, 1) := by decide +kernel
theorem dX12_sharedIn_26 : decode cX12_sharedIn 26 = .ok (.aload_n 0, 1) := by decide +kernel
theorem dX12_sharedIn_27 : decode cX12_sharedIn 27 = .ok (.getfield 58, 3) := by decide +kernel
theorem dX12_sharedIn_30 : decode cX12_sharedIn 30 = .ok (.iload_n 3, 1) := by decide +kernel
theorem dX12_sharedIn_31 : decode cX12_sharedIn 31 = .ok (.iconst 1, 1) := by decide +kernel
theorem dX12_sharedIn_32 : decode cX12_sharedIn 32 = .ok (.isub, 1) := by decide +kernel
theorem dX12_sharedIn_33 : decode cX12_sharedIn 33 = .ok (.iaload, 1) := by decide +kernel
theorem dX12_sharedIn_34 : decode cX12_sharedIn 34 = .ok (.invokevirtual 451, 3) := by decide +kernel
theorem dX12_sharedIn_37 : decode cX12_sharedIn 37 = .ok (.if_icmp .eq 7, 3) := by decide +kernel
theorem dX12_sharedIn_40 : decode cX12_sharedIn 40 = .ok (.iconst 1, 1) := by decide +kernel
theorem dX12_sharedIn_41 : decode cX12_sharedIn 41 = .ok (.goto 4, 3) := by decide +kernel
theorem dX12_sharedIn_44 : decode cX12_sharedIn 44 = .ok (.iconst 0, 1) := by decide +kernel
theorem dX12_sharedIn_45 : decode cX12_sharedIn 45 = .ok (.iadd, 1) := by decide +kernel
theorem dX12_sharedIn_46 : decode cX12_sharedIn 46 = .ok (.istore_n 2, 1) := by decide +kernel
theorem dX12_sharedIn_47 : decode cX12_sharedIn 47 = .ok (.iinc 3 1, 3) := by decide +kernel
theorem dX12_sharedIn_50 : decode cX12_sharedIn 50 = .ok (.goto (-46), 3) := by decide +kernel
theorem dX12_sharedIn_53 : decode cX12_sharedIn 53 = .ok (.iload_n 2, 1) := by decide +kernel
theorem dX12_sharedIn_54 : decode cX12_sharedIn 54 = .ok (.ireturn, 1) := by decide +kernel
theorem dX12_laysRow_0 : decode cX12_laysRow 0 = .ok (.iconst 0, 1) := by decide +kernel
theorem dX12_laysRow_1 : decode cX12_laysRow 1 = .ok (.istore_n 1, 1) := by decide +kernel
theorem dX12_laysRow_2 : decode cX12_laysRow 2 = .ok (.iload_n 1, 1) := by decide +kernel
theorem dX12_laysRow_3 : decode cX12_laysRow 3 = .ok (.aload_n 0, 1) := by decide +kernel
theorem dX12_laysRow_4 : decode cX12_laysRow 4 = .ok (.invokevirtual 92, 3) := by decide +kernel
theorem dX12_laysRow_7 : decode cX12_laysRow 7 = .ok (.if_icmp .ge 24, 3) := by decide +kernel
theorem dX12_laysRow_10 : decode cX12_laysRow 10 = .ok (.aload_n 0, 1) := by decide +kernel
theorem dX12_laysRow_11 : decode cX12_laysRow 11 = .ok (.getfield 58, 3) := by decide +kernel
theorem dX12_laysRow_14 : decode cX12_laysRow 14 = .ok (.iload_n 1, 1) := by decide +kernel
theorem dX12_laysRow_15 : decode cX12_laysRow 15 = .ok (.aload_n 0, 1) := by decide +kernel
theorem dX12_laysRow_16 : decode cX12_laysRow 16 = .ok (.getfield 13, 3) := by decide +kernel
theorem dX12_laysRow_19 : decode cX12_laysRow 19 = .ok (.bipush 24, 2) := by decide +kernel
theorem dX12_laysRow_21 : decode cX12_laysRow 21 = .ok (.iload_n 1, 1) := by decide +kernel
theorem dX12_laysRow_22 : decode cX12_laysRow 22 = .ok (.iadd, 1) := by decide +kernel
theorem dX12_laysRow_23 : decode cX12_laysRow 23 = .ok (.iaload, 1) := by decide +kernel
theorem dX12_laysRow_24 : decode cX12_laysRow 24 = .ok (.iastore, 1) := by decide +kernel
theorem dX12_laysRow_25 : decode cX12_laysRow 25 = .ok (.iinc 1 1, 3) := by decide +kernel
theorem dX12_laysRow_28 : decode cX12_laysRow 28 = .ok (.goto (-26), 3) := by decide +kernel
theorem dX12_laysRow_31 : decode cX12_laysRow 31 = .ok (.return_, 1) := by decide +kernel
theorem dX12_shared_0 : decode cX12_shared 0 = .ok (.aload_n 0, 1) := by decide +kernel
theorem dX12_shared_1 : decode cX12_shared 1 = .ok (.iconst 0, 1) := by decide +kernel
theorem dX12_shared_2 : decode cX12_shared 2 = .ok (.putfield 3, 3) := by decide +kernel
theorem dX12_shared_5 : decode cX12_shared 5 = .ok (.aload_n 0, 1) := by decide +kernel
theorem dX12_shared_6 : decode cX12_shared 6 = .ok (.aload_n 0, 1) := by decide +kernel
theorem dX12_shared_7 : decode cX12_shared 7 = .ok (.iload_n 1, 1) := by decide +kernel
theorem dX12_shared_8 : decode cX12_shared 8 = .ok (.invokevirtual 391, 3) := by decide +kernel
theorem dX12_shared_11 : decode cX12_shared 11 = .ok (.iconst 1, 1) := by decide +kernel
theorem dX12_shared_12 : decode cX12_shared 12 = .ok (.invokevirtual 282, 3) := by decide +kernel
theorem dX12_shared_15 : decode cX12_shared 15 = .ok (.ifCond .eq 5, 3) := by decide +kernel
theorem dX12_shared_18 : decode cX12_shared 18 = .ok (.iconst 0, 1) := by decide +kernel
theorem dX12_shared_19 : decode cX12_shared 19 = .ok (.ireturn, 1) := by decide +kernel
theorem dX12_shared_20 : decode cX12_shared 20 = .ok (.aload_n 0, 1) := by decide +kernel
theorem dX12_shared_21 : decode cX12_shared 21 = .ok (.invokevirtual 454, 3) := by decide +kernel
theorem dX12_shared_24 : decode cX12_shared 24 = .ok (.aload_n 0, 1) := by decide +kernel
theorem dX12_shared_25 : decode cX12_shared 25 = .ok (.iload_n 1, 1) := by decide +kernel
theorem dX12_shared_26 : decode cX12_shared 26 = .ok (.invokevirtual 457, 3) := by decide +kernel
theorem dX12_shared_29 : decode cX12_shared 29 = .ok (.ireturn, 1) := by decide +kernel
theorem dX12_laysOrder_0 : decode cX12_laysOrder 0 = .ok (.iload_n 1, 1) := by decide +kernel
theorem dX12_laysOrder_1 : decode cX12_laysOrder 1 = .ok (.istore_n 2, 1) := by decide +kernel
theorem dX12_laysOrder_2 : decode cX12_laysOrder 2 = .ok (.iconst 0, 1) := by decide +kernel
theorem dX12_laysOrder_3 : decode cX12_laysOrder 3 = .ok (.istore_n 3, 1) := by decide +kernel
theorem dX12_laysOrder_4 : decode cX12_laysOrder 4 = .ok (.aload_n 0, 1) := by decide +kernel
theorem dX12_laysOrder_5 : decode cX12_laysOrder 5 = .ok (.invokevirtual 92, 3) := by decide +kernel
theorem dX12_laysOrder_8 : decode cX12_laysOrder 8 = .ok (.iconst 1, 1) := by decide +kernel
theorem dX12_laysOrder_9 : decode cX12_laysOrder 9 = .ok (.isub, 1) := by decide +kernel
theorem dX12_laysOrder_10 : decode cX12_laysOrder 10 = .ok (.istore 4, 2) := by decide +kernel
theorem dX12_laysOrder_12 : decode cX12_laysOrder 12 = .ok (.iload 4, 2) := by decide +kernel
theorem dX12_laysOrder_14 : decode cX12_laysOrder 14 = .ok (.ifCond .lt 35, 3) := by decide +kernel
theorem dX12_laysOrder_17 : decode cX12_laysOrder 17 = .ok (.aload_n 0, 1) := by decide +kernel
theorem dX12_laysOrder_18 : decode cX12_laysOrder 18 = .ok (.getfield 58, 3) := by decide +kernel
theorem dX12_laysOrder_21 : decode cX12_laysOrder 21 = .ok (.iload 4, 2) := by decide +kernel
theorem dX12_laysOrder_23 : decode cX12_laysOrder 23 = .ok (.iload_n 2, 1) := by decide +kernel
theorem dX12_laysOrder_24 : decode cX12_laysOrder 24 = .ok (.iconst 5, 1) := by decide +kernel
theorem dX12_laysOrder_25 : decode cX12_laysOrder 25 = .ok (.irem, 1) := by decide +kernel
theorem dX12_laysOrder_26 : decode cX12_laysOrder 26 = .ok (.iastore, 1) := by decide +kernel
theorem dX12_laysOrder_27 : decode cX12_laysOrder 27 = .ok (.iload_n 2, 1) := by decide +kernel
theorem dX12_laysOrder_28 : decode cX12_laysOrder 28 = .ok (.iconst 5, 1) := by decide +kernel
theorem dX12_laysOrder_29 : decode cX12_laysOrder 29 = .ok (.idiv, 1) := by decide +kernel
theorem dX12_laysOrder_30 : decode cX12_laysOrder 30 = .ok (.istore_n 2, 1) := by decide +kernel
theorem dX12_laysOrder_31 : decode cX12_laysOrder 31 = .ok (.iload_n 3, 1) := by decide +kernel
theorem dX12_laysOrder_32 : decode cX12_laysOrder 32 = .ok (.iconst 1, 1) := by decide +kernel
theorem dX12_laysOrder_33 : decode cX12_laysOrder 33 = .ok (.aload_n 0, 1) := by decide +kernel
theorem dX12_laysOrder_34 : decode cX12_laysOrder 34 = .ok (.getfield 58, 3) := by decide +kernel
theorem dX12_laysOrder_37 : decode cX12_laysOrder 37 = .ok (.iload 4, 2) := by decide +kernel
theorem dX12_laysOrder_39 : decode cX12_laysOrder 39 = .ok (.iaload, 1) := by decide +kernel
theorem dX12_laysOrder_40 : decode cX12_laysOrder 40 = .ok (.ishl, 1) := by decide +kernel
theorem dX12_laysOrder_41 : decode cX12_laysOrder 41 = .ok (.ior, 1) := by decide +kernel
theorem dX12_laysOrder_42 : decode cX12_laysOrder 42 = .ok (.istore_n 3, 1) := by decide +kernel
theorem dX12_laysOrder_43 : decode cX12_laysOrder 43 = .ok (.iinc 4 (-1), 3) := by decide +kernel
theorem dX12_laysOrder_46 : decode cX12_laysOrder 46 = .ok (.goto (-34), 3) := by decide +kernel
theorem dX12_laysOrder_49 : decode cX12_laysOrder 49 = .ok (.iload_n 3, 1) := by decide +kernel
theorem dX12_laysOrder_50 : decode cX12_laysOrder 50 = .ok (.iconst 1, 1) := by decide +kernel
theorem dX12_laysOrder_51 : decode cX12_laysOrder 51 = .ok (.aload_n 0, 1) := by decide +kernel
theorem dX12_laysOrder_52 : decode cX12_laysOrder 52 = .ok (.invokevirtual 92, 3) := by decide +kernel
theorem dX12_laysOrder_55 : decode cX12_laysOrder 55 = .ok (.ishl, 1) := by decide +kernel
theorem dX12_laysOrder_56 : decode cX12_laysOrder 56 = .ok (.iconst 1, 1) := by decide +kernel
theorem dX12_laysOrder_57 : decode cX12_laysOrder 57 = .ok (.isub, 1) := by decide +kernel
theorem dX12_laysOrder_58 : decode cX12_laysOrder 58 = .ok (.if_icmp .ne 7, 3) := by decide +kernel
theorem dX12_laysOrder_61 : decode cX12_laysOrder 61 = .ok (.iconst 1, 1) := by decide +kernel
theorem dX12_laysOrder_62 : decode cX12_laysOrder 62 = .ok (.goto 4, 3) := by decide +kernel
theorem dX12_laysOrder_65 : decode cX12_laysOrder 65 = .ok (.iconst 0, 1) := by decide +kernel
theorem dX12_laysOrder_66 : decode cX12_laysOrder 66 = .ok (.ireturn, 1) := by decide +kernel
theorem dX12_changes_0 : decode cX12_changes 0 = .ok (.iconst 0, 1) := by decide +kernel
theorem dX12_changes_1 : decode cX12_changes 1 = .ok (.istore_n 1, 1) := by decide +kernel
theorem dX12_changes_2 : decode cX12_changes 2 = .ok (.iconst 0, 1) := by decide +kernel
theorem dX12_changes_3 : decode cX12_changes 3 = .ok (.istore_n 2, 1) := by decide +kernel
theorem dX12_changes_4 : decode cX12_changes 4 = .ok (.iload_n 2, 1) := by decide +kernel
theorem dX12_changes_5 : decode cX12_changes 5 = .ok (.aload_n 0, 1) := by decide +kernel
theorem dX12_changes_6 : decode cX12_changes 6 = .ok (.invokevirtual 92, 3) := by decide +kernel
theorem dX12_changes_9 : decode cX12_changes 9 = .ok (.if_icmp .ge 60, 3) := by decide +kernel
theorem dX12_changes_12 : decode cX12_changes 12 = .ok (.iload_n 2, 1) := by decide +kernel
theorem dX12_changes_13 : decode cX12_changes 13 = .ok (.iconst 1, 1) := by decide +kernel
theorem dX12_changes_14 : decode cX12_changes 14 = .ok (.iadd, 1) := by decide +kernel
theorem dX12_changes_15 : decode cX12_changes 15 = .ok (.istore_n 3, 1) := by decide +kernel
theorem dX12_changes_16 : decode cX12_changes 16 = .ok (.iload_n 3, 1) := by decide +kernel
theorem dX12_changes_17 : decode cX12_changes 17 = .ok (.aload_n 0, 1) := by decide +kernel
theorem dX12_changes_18 : decode cX12_changes 18 = .ok (.invokevirtual 92, 3) := by decide +kernel
theorem dX12_changes_21 : decode cX12_changes 21 = .ok (.if_icmp .ge 42, 3) := by decide +kernel
theorem dX12_changes_24 : decode cX12_changes 24 = .ok (.iload_n 1, 1) := by decide +kernel
theorem dX12_changes_25 : decode cX12_changes 25 = .ok (.aload_n 0, 1) := by decide +kernel
theorem dX12_changes_26 : decode cX12_changes 26 = .ok (.aload_n 0, 1) := by decide +kernel
theorem dX12_changes_27 : decode cX12_changes 27 = .ok (.getfield 58, 3) := by decide +kernel
theorem dX12_changes_30 : decode cX12_changes 30 = .ok (.iload_n 2, 1) := by decide +kernel
theorem dX12_changes_31 : decode cX12_changes 31 = .ok (.iaload, 1) := by decide +kernel
theorem dX12_changes_32 : decode cX12_changes 32 = .ok (.iconst 4, 1) := by decide +kernel
theorem dX12_changes_33 : decode cX12_changes 33 = .ok (.invokevirtual 285, 3) := by decide +kernel
theorem dX12_changes_36 : decode cX12_changes 36 = .ok (.aload_n 0, 1) := by decide +kernel
theorem dX12_changes_37 : decode cX12_changes 37 = .ok (.aload_n 0, 1) := by decide +kernel
theorem dX12_changes_38 : decode cX12_changes 38 = .ok (.getfield 58, 3) := by decide +kernel
theorem dX12_changes_41 : decode cX12_changes 41 = .ok (.iload_n 3, 1) := by decide +kernel
theorem dX12_changes_42 : decode cX12_changes 42 = .ok (.iaload, 1) := by decide +kernel
theorem dX12_changes_43 : decode cX12_changes 43 = .ok (.iconst 4, 1) := by decide +kernel
theorem dX12_changes_44 : decode cX12_changes 44 = .ok (.invokevirtual 285, 3) := by decide +kernel
theorem dX12_changes_47 : decode cX12_changes 47 = .ok (.if_icmp .le 7, 3) := by decide +kernel
theorem dX12_changes_50 : decode cX12_changes 50 = .ok (.iconst 1, 1) := by decide +kernel
theorem dX12_changes_51 : decode cX12_changes 51 = .ok (.goto 4, 3) := by decide +kernel
theorem dX12_changes_54 : decode cX12_changes 54 = .ok (.iconst 0, 1) := by decide +kernel
theorem dX12_changes_55 : decode cX12_changes 55 = .ok (.iadd, 1) := by decide +kernel
theorem dX12_changes_56 : decode cX12_changes 56 = .ok (.istore_n 1, 1) := by decide +kernel
theorem dX12_changes_57 : decode cX12_changes 57 = .ok (.iinc 3 1, 3) := by decide +kernel
theorem dX12_changes_60 : decode cX12_changes 60 = .ok (.goto (-44), 3) := by decide +kernel
theorem dX12_changes_63 : decode cX12_changes 63 = .ok (.iinc 2 1, 3) := by decide +kernel
theorem dX12_changes_66 : decode cX12_changes 66 = .ok (.goto (-62), 3) := by decide +kernel
theorem dX12_changes_69 : decode cX12_changes 69 = .ok (.iload_n 1, 1) := by decide +kernel
theorem dX12_changes_70 : decode cX12_changes 70 = .ok (.ireturn, 1) := by decide +kernel
theorem dX12_bestRow_0 : decode cX12_bestRow 0 = .ok (.iconst 1, 1) := by decide +kernel
theorem dX12_bestRow_1 : decode cX12_bestRow 1 = .ok (.istore_n 2, 1) := by decide +kernel
theorem dX12_bestRow_2 : decode cX12_bestRow 2 = .ok (.iconst 0, 1) := by decide +kernel
theorem dX12_bestRow_3 : decode cX12_bestRow 3 = .ok (.istore_n 3, 1) := by decide +kernel
theorem dX12_bestRow_4 : decode cX12_bestRow 4 = .ok (.iload_n 3, 1) := by decide +kernel
theorem dX12_bestRow_5 : decode cX12_bestRow 5 = .ok (.aload_n 0, 1) := by decide +kernel
theorem dX12_bestRow_6 : decode cX12_bestRow 6 = .ok (.invokevirtual 92, 3) := by decide +kernel
theorem dX12_bestRow_9 : decode cX12_bestRow 9 = .ok (.if_icmp .ge 13, 3) := by decide +kernel
theorem dX12_bestRow_12 : decode cX12_bestRow 12 = .ok (.iload_n 2, 1) := by decide +kernel
theorem dX12_bestRow_13 : decode cX12_bestRow 13 = .ok (.iconst 5, 1) := by decide +kernel
theorem dX12_bestRow_14 : decode cX12_bestRow 14 = .ok (.imul, 1) := by decide +kernel
theorem dX12_bestRow_15 : decode cX12_bestRow 15 = .ok (.istore_n 2, 1) := by decide +kernel
theorem dX12_bestRow_16 : decode cX12_bestRow 16 = .ok (.iinc 3 1, 3) := by decide +kernel
theorem dX12_bestRow_19 : decode cX12_bestRow 19 = .ok (.goto (-15), 3) := by decide +kernel
theorem dX12_bestRow_22 : decode cX12_bestRow 22 = .ok (.ldc_w 433, 3) := by decide +kernel
theorem dX12_bestRow_25 : decode cX12_bestRow 25 = .ok (.istore_n 3, 1) := by decide +kernel
theorem dX12_bestRow_26 : decode cX12_bestRow 26 = .ok (.ldc_w 433, 3) := by decide +kernel
theorem dX12_bestRow_29 : decode cX12_bestRow 29 = .ok (.istore 4, 2) := by decide +kernel
theorem dX12_bestRow_31 : decode cX12_bestRow 31 = .ok (.iconst 0, 1) := by decide +kernel
theorem dX12_bestRow_32 : decode cX12_bestRow 32 = .ok (.istore 5, 2) := by decide +kernel
theorem dX12_bestRow_34 : decode cX12_bestRow 34 = .ok (.iload 5, 2) := by decide +kernel
theorem dX12_bestRow_36 : decode cX12_bestRow 36 = .ok (.iload_n 2, 1) := by decide +kernel
theorem dX12_bestRow_37 : decode cX12_bestRow 37 = .ok (.if_icmp .ge 95, 3) := by decide +kernel
theorem dX12_bestRow_40 : decode cX12_bestRow 40 = .ok (.aload_n 0, 1) := by decide +kernel
theorem dX12_bestRow_41 : decode cX12_bestRow 41 = .ok (.iload 5, 2) := by decide +kernel
theorem dX12_bestRow_43 : decode cX12_bestRow 43 = .ok (.invokevirtual 460, 3) := by decide +kernel
theorem dX12_bestRow_46 : decode cX12_bestRow 46 = .ok (.ifCond .ne 6, 3) := by decide +kernel
theorem dX12_bestRow_49 : decode cX12_bestRow 49 = .ok (.goto 77, 3) := by decide +kernel
theorem dX12_bestRow_52 : decode cX12_bestRow 52 = .ok (.aload_n 0, 1) := by decide +kernel
theorem dX12_bestRow_53 : decode cX12_bestRow 53 = .ok (.iload_n 1, 1) := by decide +kernel
theorem dX12_bestRow_54 : decode cX12_bestRow 54 = .ok (.invokevirtual 457, 3) := by decide +kernel
theorem dX12_bestRow_57 : decode cX12_bestRow 57 = .ok (.istore 6, 2) := by decide +kernel
theorem dX12_bestRow_59 : decode cX12_bestRow 59 = .ok (.aload_n 0, 1) := by decide +kernel
theorem dX12_bestRow_60 : decode cX12_bestRow 60 = .ok (.invokevirtual 463, 3) := by decide +kernel
theorem dX12_bestRow_63 : decode cX12_bestRow 63 = .ok (.istore 7, 2) := by decide +kernel
theorem dX12_bestRow_65 : decode cX12_bestRow 65 = .ok (.iload 6, 2) := by decide +kernel
theorem dX12_bestRow_67 : decode cX12_bestRow 67 = .ok (.iload_n 3, 1) := by decide +kernel
theorem dX12_bestRow_68 : decode cX12_bestRow 68 = .ok (.if_icmp .gt 58, 3) := by decide +kernel
theorem dX12_bestRow_71 : decode cX12_bestRow 71 = .ok (.iload 6, 2) := by decide +kernel
theorem dX12_bestRow_73 : decode cX12_bestRow 73 = .ok (.iload_n 3, 1) := by decide +kernel
theorem dX12_bestRow_74 : decode cX12_bestRow 74 = .ok (.if_icmp .ne 13, 3) := by decide +kernel
theorem dX12_bestRow_77 : decode cX12_bestRow 77 = .ok (.iload 7, 2) := by decide +kernel
theorem dX12_bestRow_79 : decode cX12_bestRow 79 = .ok (.iload 4, 2) := by decide +kernel
theorem dX12_bestRow_81 : decode cX12_bestRow 81 = .ok (.if_icmp .lt 6, 3) := by decide +kernel
theorem dX12_bestRow_84 : decode cX12_bestRow 84 = .ok (.goto 42, 3) := by decide +kernel
theorem dX12_bestRow_87 : decode cX12_bestRow 87 = .ok (.iconst 0, 1) := by decide +kernel
theorem dX12_bestRow_88 : decode cX12_bestRow 88 = .ok (.istore 8, 2) := by decide +kernel
theorem dX12_bestRow_90 : decode cX12_bestRow 90 = .ok (.iload 8, 2) := by decide +kernel
theorem dX12_bestRow_92 : decode cX12_bestRow 92 = .ok (.aload_n 0, 1) := by decide +kernel
theorem dX12_bestRow_93 : decode cX12_bestRow 93 = .ok (.invokevirtual 92, 3) := by decide +kernel
theorem dX12_bestRow_96 : decode cX12_bestRow 96 = .ok (.if_icmp .ge 23, 3) := by decide +kernel
theorem dX12_bestRow_99 : decode cX12_bestRow 99 = .ok (.aload_n 0, 1) := by decide +kernel
theorem dX12_bestRow_100 : decode cX12_bestRow 100 = .ok (.getfield 61, 3) := by decide +kernel
theorem dX12_bestRow_103 : decode cX12_bestRow 103 = .ok (.iload 8, 2) := by decide +kernel
theorem dX12_bestRow_105 : decode cX12_bestRow 105 = .ok (.aload_n 0, 1) := by decide +kernel
theorem dX12_bestRow_106 : decode cX12_bestRow 106 = .ok (.getfield 58, 3) := by decide +kernel
theorem dX12_bestRow_109 : decode cX12_bestRow 109 = .ok (.iload 8, 2) := by decide +kernel
theorem dX12_bestRow_111 : decode cX12_bestRow 111 = .ok (.iaload, 1) := by decide +kernel
theorem dX12_bestRow_112 : decode cX12_bestRow 112 = .ok (.iastore, 1) := by decide +kernel
theorem dX12_bestRow_113 : decode cX12_bestRow 113 = .ok (.iinc 8 1, 3) := by decide +kernel
theorem dX12_bestRow_116 : decode cX12_bestRow 116 = .ok (.goto (-26), 3) := by decide +kernel
theorem dX12_bestRow_119 : decode cX12_bestRow 119 = .ok (.iload 6, 2) := by decide +kernel
theorem dX12_bestRow_121 : decode cX12_bestRow 121 = .ok (.istore_n 3, 1) := by decide +kernel
theorem dX12_bestRow_122 : decode cX12_bestRow 122 = .ok (.iload 7, 2) := by decide +kernel
theorem dX12_bestRow_124 : decode cX12_bestRow 124 = .ok (.istore 4, 2) := by decide +kernel
theorem dX12_bestRow_126 : decode cX12_bestRow 126 = .ok (.iinc 5 1, 3) := by decide +kernel
theorem dX12_bestRow_129 : decode cX12_bestRow 129 = .ok (.goto (-95), 3) := by decide +kernel
theorem dX12_bestRow_132 : decode cX12_bestRow 132 = .ok (.iload 4, 2) := by decide +kernel
theorem dX12_bestRow_134 : decode cX12_bestRow 134 = .ok (.ireturn, 1) := by decide +kernel
theorem dX12_apart_0 : decode cX12_apart 0 = .ok (.aload_n 0, 1) := by decide +kernel
theorem dX12_apart_1 : decode cX12_apart 1 = .ok (.iconst 0, 1) := by decide +kernel
theorem dX12_apart_2 : decode cX12_apart 2 = .ok (.putfield 3, 3) := by decide +kernel
theorem dX12_apart_5 : decode cX12_apart 5 = .ok (.aload_n 0, 1) := by decide +kernel
theorem dX12_apart_6 : decode cX12_apart 6 = .ok (.aload_n 0, 1) := by decide +kernel
theorem dX12_apart_7 : decode cX12_apart 7 = .ok (.iload_n 1, 1) := by decide +kernel
theorem dX12_apart_8 : decode cX12_apart 8 = .ok (.invokevirtual 391, 3) := by decide +kernel
theorem dX12_apart_11 : decode cX12_apart 11 = .ok (.iconst 1, 1) := by decide +kernel
theorem dX12_apart_12 : decode cX12_apart 12 = .ok (.invokevirtual 282, 3) := by decide +kernel
theorem dX12_apart_15 : decode cX12_apart 15 = .ok (.ifCond .eq 7, 3) := by decide +kernel
theorem dX12_apart_18 : decode cX12_apart 18 = .ok (.iconst 0, 1) := by decide +kernel
theorem dX12_apart_19 : decode cX12_apart 19 = .ok (.goto 8, 3) := by decide +kernel
theorem dX12_apart_22 : decode cX12_apart 22 = .ok (.aload_n 0, 1) := by decide +kernel
theorem dX12_apart_23 : decode cX12_apart 23 = .ok (.iload_n 1, 1) := by decide +kernel
theorem dX12_apart_24 : decode cX12_apart 24 = .ok (.invokevirtual 466, 3) := by decide +kernel
theorem dX12_apart_27 : decode cX12_apart 27 = .ok (.ireturn, 1) := by decide +kernel
theorem dX12_row_0 : decode cX12_row 0 = .ok (.aload_n 0, 1) := by decide +kernel
theorem dX12_row_1 : decode cX12_row 1 = .ok (.iconst 0, 1) := by decide +kernel
theorem dX12_row_2 : decode cX12_row 2 = .ok (.putfield 3, 3) := by decide +kernel
theorem dX12_row_5 : decode cX12_row 5 = .ok (.aload_n 0, 1) := by decide +kernel
theorem dX12_row_6 : decode cX12_row 6 = .ok (.aload_n 0, 1) := by decide +kernel
theorem dX12_row_7 : decode cX12_row 7 = .ok (.iload_n 1, 1) := by decide +kernel
theorem dX12_row_8 : decode cX12_row 8 = .ok (.invokevirtual 391, 3) := by decide +kernel
theorem dX12_row_11 : decode cX12_row 11 = .ok (.ifCond .ne 11, 3) := by decide +kernel
theorem dX12_row_14 : decode cX12_row 14 = .ok (.aload_n 0, 1) := by decide +kernel
theorem dX12_row_15 : decode cX12_row 15 = .ok (.iload_n 2, 1) := by decide +kernel
theorem dX12_row_16 : decode cX12_row 16 = .ok (.invokevirtual 370, 3) := by decide +kernel
theorem dX12_row_19 : decode cX12_row 19 = .ok (.ifCond .eq 7, 3) := by decide +kernel
theorem dX12_row_22 : decode cX12_row 22 = .ok (.iconst 1, 1) := by decide +kernel
theorem dX12_row_23 : decode cX12_row 23 = .ok (.goto 4, 3) := by decide +kernel
theorem dX12_row_26 : decode cX12_row 26 = .ok (.iconst 0, 1) := by decide +kernel
theorem dX12_row_27 : decode cX12_row 27 = .ok (.iconst 1, 1) := by decide +kernel
theorem dX12_row_28 : decode cX12_row 28 = .ok (.invokevirtual 282, 3) := by decide +kernel
theorem dX12_row_31 : decode cX12_row 31 = .ok (.ifCond .eq 5, 3) := by decide +kernel
theorem dX12_row_34 : decode cX12_row 34 = .ok (.iconst 0, 1) := by decide +kernel
theorem dX12_row_35 : decode cX12_row 35 = .ok (.ireturn, 1) := by decide +kernel
theorem dX12_row_36 : decode cX12_row 36 = .ok (.aload_n 0, 1) := by decide +kernel
theorem dX12_row_37 : decode cX12_row 37 = .ok (.iload_n 1, 1) := by decide +kernel
theorem dX12_row_38 : decode cX12_row 38 = .ok (.invokevirtual 466, 3) := by decide +kernel
theorem dX12_row_41 : decode cX12_row 41 = .ok (.pop, 1) := by decide +kernel
theorem dX12_row_42 : decode cX12_row 42 = .ok (.aload_n 0, 1) := by decide +kernel
theorem dX12_row_43 : decode cX12_row 43 = .ok (.getfield 61, 3) := by decide +kernel
theorem dX12_row_46 : decode cX12_row 46 = .ok (.iload_n 2, 1) := by decide +kernel
theorem dX12_row_47 : decode cX12_row 47 = .ok (.iaload, 1) := by decide +kernel
theorem dX12_row_48 : decode cX12_row 48 = .ok (.ireturn, 1) := by decide +kernel
theorem dX12_isWritten_0 : decode cX12_isWritten 0 = .ok (.aload_n 0, 1) := by decide +kernel
theorem dX12_isWritten_1 : decode cX12_isWritten 1 = .ok (.getfield 112, 3) := by decide +kernel
theorem dX12_isWritten_4 : decode cX12_isWritten 4 = .ok (.iconst 3, 1) := by decide +kernel
theorem dX12_isWritten_5 : decode cX12_isWritten 5 = .ok (.irem, 1) := by decide +kernel
theorem dX12_isWritten_6 : decode cX12_isWritten 6 = .ok (.ifCond .ne 16, 3) := by decide +kernel
theorem dX12_isWritten_9 : decode cX12_isWritten 9 = .ok (.aload_n 0, 1) := by decide +kernel
theorem dX12_isWritten_10 : decode cX12_isWritten 10 = .ok (.getfield 112, 3) := by decide +kernel
theorem dX12_isWritten_13 : decode cX12_isWritten 13 = .ok (.bipush 45, 2) := by decide +kernel
theorem dX12_isWritten_15 : decode cX12_isWritten 15 = .ok (.if_icmp .gt 7, 3) := by decide +kernel
theorem dX12_isWritten_18 : decode cX12_isWritten 18 = .ok (.iconst 1, 1) := by decide +kernel
theorem dX12_isWritten_19 : decode cX12_isWritten 19 = .ok (.goto 4, 3) := by decide +kernel
theorem dX12_isWritten_22 : decode cX12_isWritten 22 = .ok (.iconst 0, 1) := by decide +kernel
theorem dX12_isWritten_23 : decode cX12_isWritten 23 = .ok (.istore_n 1, 1) := by decide +kernel
theorem dX12_isWritten_24 : decode cX12_isWritten 24 = .ok (.iconst 0, 1) := by decide +kernel
theorem dX12_isWritten_25 : decode cX12_isWritten 25 = .ok (.istore_n 2, 1) := by decide +kernel
theorem dX12_isWritten_26 : decode cX12_isWritten 26 = .ok (.iload_n 2, 1) := by decide +kernel
theorem dX12_isWritten_27 : decode cX12_isWritten 27 = .ok (.aload_n 0, 1) := by decide +kernel
theorem dX12_isWritten_28 : decode cX12_isWritten 28 = .ok (.getfield 112, 3) := by decide +kernel
theorem dX12_isWritten_31 : decode cX12_isWritten 31 = .ok (.if_icmp .ge 64, 3) := by decide +kernel
theorem dX12_isWritten_34 : decode cX12_isWritten 34 = .ok (.iload_n 1, 1) := by decide +kernel
theorem dX12_isWritten_35 : decode cX12_isWritten 35 = .ok (.ifCond .eq 60, 3) := by decide +kernel
theorem dX12_isWritten_38 : decode cX12_isWritten 38 = .ok (.aload_n 0, 1) := by decide +kernel
theorem dX12_isWritten_39 : decode cX12_isWritten 39 = .ok (.aload_n 0, 1) := by decide +kernel
theorem dX12_isWritten_40 : decode cX12_isWritten 40 = .ok (.getfield 29, 3) := by decide +kernel
theorem dX12_isWritten_43 : decode cX12_isWritten 43 = .ok (.iload_n 2, 1) := by decide +kernel
theorem dX12_isWritten_44 : decode cX12_isWritten 44 = .ok (.baload, 1) := by decide +kernel
theorem dX12_isWritten_45 : decode cX12_isWritten 45 = .ok (.invokevirtual 394, 3) := by decide +kernel
theorem dX12_isWritten_48 : decode cX12_isWritten 48 = .ok (.ifCond .ne 39, 3) := by decide +kernel
theorem dX12_isWritten_51 : decode cX12_isWritten 51 = .ok (.aload_n 0, 1) := by decide +kernel
theorem dX12_isWritten_52 : decode cX12_isWritten 52 = .ok (.aload_n 0, 1) := by decide +kernel
theorem dX12_isWritten_53 : decode cX12_isWritten 53 = .ok (.getfield 29, 3) := by decide +kernel
theorem dX12_isWritten_56 : decode cX12_isWritten 56 = .ok (.iload_n 2, 1) := by decide +kernel
theorem dX12_isWritten_57 : decode cX12_isWritten 57 = .ok (.iconst 1, 1) := by decide +kernel
theorem dX12_isWritten_58 : decode cX12_isWritten 58 = .ok (.iadd, 1) := by decide +kernel
theorem dX12_isWritten_59 : decode cX12_isWritten 59 = .ok (.baload, 1) := by decide +kernel
theorem dX12_isWritten_60 : decode cX12_isWritten 60 = .ok (.invokevirtual 370, 3) := by decide +kernel
theorem dX12_isWritten_63 : decode cX12_isWritten 63 = .ok (.ifCond .ne 24, 3) := by decide +kernel
theorem dX12_isWritten_66 : decode cX12_isWritten 66 = .ok (.aload_n 0, 1) := by decide +kernel
theorem dX12_isWritten_67 : decode cX12_isWritten 67 = .ok (.getfield 29, 3) := by decide +kernel
theorem dX12_isWritten_70 : decode cX12_isWritten 70 = .ok (.iload_n 2, 1) := by decide +kernel
theorem dX12_isWritten_71 : decode cX12_isWritten 71 = .ok (.iconst 2, 1) := by decide +kernel
theorem dX12_isWritten_72 : decode cX12_isWritten 72 = .ok (.iadd, 1) := by decide +kernel
theorem dX12_isWritten_73 : decode cX12_isWritten 73 = .ok (.baload, 1) := by decide +kernel
theorem dX12_isWritten_74 : decode cX12_isWritten 74 = .ok (.iconst 0, 1) := by decide +kernel
theorem dX12_isWritten_75 : decode cX12_isWritten 75 = .ok (.bipush 99, 2) := by decide +kernel
theorem dX12_isWritten_77 : decode cX12_isWritten 77 = .ok (.invokestatic 95, 3) := by decide +kernel
theorem dX12_isWritten_80 : decode cX12_isWritten 80 = .ok (.ifCond .eq 7, 3) := by decide +kernel
theorem dX12_isWritten_83 : decode cX12_isWritten 83 = .ok (.iconst 1, 1) := by decide +kernel
theorem dX12_isWritten_84 : decode cX12_isWritten 84 = .ok (.goto 4, 3) := by decide +kernel
theorem dX12_isWritten_87 : decode cX12_isWritten 87 = .ok (.iconst 0, 1) := by decide +kernel
theorem dX12_isWritten_88 : decode cX12_isWritten 88 = .ok (.istore_n 1, 1) := by decide +kernel
theorem dX12_isWritten_89 : decode cX12_isWritten 89 = .ok (.iinc 2 3, 3) := by decide +kernel
theorem dX12_isWritten_92 : decode cX12_isWritten 92 = .ok (.goto (-66), 3) := by decide +kernel
theorem dX12_isWritten_95 : decode cX12_isWritten 95 = .ok (.iload_n 1, 1) := by decide +kernel
theorem dX12_isWritten_96 : decode cX12_isWritten 96 = .ok (.ireturn, 1) := by decide +kernel
theorem dX12_asWritten_0 : decode cX12_asWritten 0 = .ok (.iconst 1, 1) := by decide +kernel
theorem dX12_asWritten_1 : decode cX12_asWritten 1 = .ok (.istore 4, 2) := by decide +kernel
theorem dX12_asWritten_3 : decode cX12_asWritten 3 = .ok (.iconst 0, 1) := by decide +kernel
theorem dX12_asWritten_4 : decode cX12_asWritten 4 = .ok (.istore 5, 2) := by decide +kernel
theorem dX12_asWritten_6 : decode cX12_asWritten 6 = .ok (.iload 5, 2) := by decide +kernel
theorem dX12_asWritten_8 : decode cX12_asWritten 8 = .ok (.aload_n 0, 1) := by decide +kernel
theorem dX12_asWritten_9 : decode cX12_asWritten 9 = .ok (.getfield 112, 3) := by decide +kernel
theorem dX12_asWritten_12 : decode cX12_asWritten 12 = .ok (.if_icmp .ge 72, 3) := by decide +kernel
theorem dX12_asWritten_15 : decode cX12_asWritten 15 = .ok (.iload 4, 2) := by decide +kernel
theorem dX12_asWritten_17 : decode cX12_asWritten 17 = .ok (.ifCond .eq 58, 3) := by decide +kernel
theorem dX12_asWritten_20 : decode cX12_asWritten 20 = .ok (.aload_n 0, 1) := by decide +kernel
theorem dX12_asWritten_21 : decode cX12_asWritten 21 = .ok (.getfield 29, 3) := by decide +kernel
theorem dX12_asWritten_24 : decode cX12_asWritten 24 = .ok (.iload 5, 2) := by decide +kernel
theorem dX12_asWritten_26 : decode cX12_asWritten 26 = .ok (.iconst 1, 1) := by decide +kernel
theorem dX12_asWritten_27 : decode cX12_asWritten 27 = .ok (.iadd, 1) := by decide +kernel
theorem dX12_asWritten_28 : decode cX12_asWritten 28 = .ok (.baload, 1) := by decide +kernel
theorem dX12_asWritten_29 : decode cX12_asWritten 29 = .ok (.iload_n 1, 1) := by decide +kernel
theorem dX12_asWritten_30 : decode cX12_asWritten 30 = .ok (.if_icmp .ne 41, 3) := by decide +kernel
theorem dX12_asWritten_33 : decode cX12_asWritten 33 = .ok (.iload_n 3, 1) := by decide +kernel
theorem dX12_asWritten_34 : decode cX12_asWritten 34 = .ok (.aload_n 0, 1) := by decide +kernel
theorem dX12_asWritten_35 : decode cX12_asWritten 35 = .ok (.getfield 29, 3) := by decide +kernel
theorem dX12_asWritten_38 : decode cX12_asWritten 38 = .ok (.iload 5, 2) := by decide +kernel
theorem dX12_asWritten_40 : decode cX12_asWritten 40 = .ok (.baload, 1) := by decide +kernel
theorem dX12_asWritten_41 : decode cX12_asWritten 41 = .ok (.invokestatic 147, 3) := by decide +kernel
theorem dX12_asWritten_44 : decode cX12_asWritten 44 = .ok (.ifCond .ne 27, 3) := by decide +kernel
theorem dX12_asWritten_47 : decode cX12_asWritten 47 = .ok (.aload_n 0, 1) := by decide +kernel
theorem dX12_asWritten_48 : decode cX12_asWritten 48 = .ok (.aload_n 0, 1) := by decide +kernel
theorem dX12_asWritten_49 : decode cX12_asWritten 49 = .ok (.getfield 29, 3) := by decide +kernel
theorem dX12_asWritten_52 : decode cX12_asWritten 52 = .ok (.iload 5, 2) := by decide +kernel
theorem dX12_asWritten_54 : decode cX12_asWritten 54 = .ok (.baload, 1) := by decide +kernel
theorem dX12_asWritten_55 : decode cX12_asWritten 55 = .ok (.iload_n 2, 1) := by decide +kernel
theorem dX12_asWritten_56 : decode cX12_asWritten 56 = .ok (.invokevirtual 358, 3) := by decide +kernel
theorem dX12_asWritten_59 : decode cX12_asWritten 59 = .ok (.aload_n 0, 1) := by decide +kernel
theorem dX12_asWritten_60 : decode cX12_asWritten 60 = .ok (.getfield 29, 3) := by decide +kernel
theorem dX12_asWritten_63 : decode cX12_asWritten 63 = .ok (.iload 5, 2) := by decide +kernel
theorem dX12_asWritten_65 : decode cX12_asWritten 65 = .ok (.iconst 2, 1) := by decide +kernel
theorem dX12_asWritten_66 : decode cX12_asWritten 66 = .ok (.iadd, 1) := by decide +kernel
theorem dX12_asWritten_67 : decode cX12_asWritten 67 = .ok (.baload, 1) := by decide +kernel
theorem dX12_asWritten_68 : decode cX12_asWritten 68 = .ok (.if_icmp .ne 7, 3) := by decide +kernel
theorem dX12_asWritten_71 : decode cX12_asWritten 71 = .ok (.iconst 1, 1) := by decide +kernel
theorem dX12_asWritten_72 : decode cX12_asWritten 72 = .ok (.goto 4, 3) := by decide +kernel
theorem dX12_asWritten_75 : decode cX12_asWritten 75 = .ok (.iconst 0, 1) := by decide +kernel
theorem dX12_asWritten_76 : decode cX12_asWritten 76 = .ok (.istore 4, 2) := by decide +kernel
theorem dX12_asWritten_78 : decode cX12_asWritten 78 = .ok (.iinc 5 3, 3) := by decide +kernel
theorem dX12_asWritten_81 : decode cX12_asWritten 81 = .ok (.goto (-75), 3) := by decide +kernel
theorem dX12_asWritten_84 : decode cX12_asWritten 84 = .ok (.iload 4, 2) := by decide +kernel
theorem dX12_asWritten_86 : decode cX12_asWritten 86 = .ok (.ireturn, 1) := by decide +kernel
theorem dX12_shadesLeft_0 : decode cX12_shadesLeft 0 = .ok (.iconst 0, 1) := by decide +kernel
theorem dX12_shadesLeft_1 : decode cX12_shadesLeft 1 = .ok (.istore_n 3, 1) := by decide +kernel
theorem dX12_shadesLeft_2 : decode cX12_shadesLeft 2 = .ok (.iconst 0, 1) := by decide +kernel
theorem dX12_shadesLeft_3 : decode cX12_shadesLeft 3 = .ok (.istore 4, 2) := by decide +kernel
theorem dX12_shadesLeft_5 : decode cX12_shadesLeft 5 = .ok (.iload 4, 2) := by decide +kernel
theorem dX12_shadesLeft_7 : decode cX12_shadesLeft 7 = .ok (.bipush 99, 2) := by decide +kernel
theorem dX12_shadesLeft_9 : decode cX12_shadesLeft 9 = .ok (.if_icmp .gt 28, 3) := by decide +kernel
theorem dX12_shadesLeft_12 : decode cX12_shadesLeft 12 = .ok (.iload_n 3, 1) := by decide +kernel
theorem dX12_shadesLeft_13 : decode cX12_shadesLeft 13 = .ok (.aload_n 0, 1) := by decide +kernel
theorem dX12_shadesLeft_14 : decode cX12_shadesLeft 14 = .ok (.iload_n 1, 1) := by decide +kernel
theorem dX12_shadesLeft_15 : decode cX12_shadesLeft 15 = .ok (.iload 4, 2) := by decide +kernel
theorem dX12_shadesLeft_17 : decode cX12_shadesLeft 17 = .ok (.iload_n 2, 1) := by decide +kernel
theorem dX12_shadesLeft_18 : decode cX12_shadesLeft 18 = .ok (.invokevirtual 469, 3) := by decide +kernel
theorem dX12_shadesLeft_21 : decode cX12_shadesLeft 21 = .ok (.ifCond .eq 7, 3) := by decide +kernel
theorem dX12_shadesLeft_24 : decode cX12_shadesLeft 24 = .ok (.iconst 1, 1) := by decide +kernel
theorem dX12_shadesLeft_25 : decode cX12_shadesLeft 25 = .ok (.goto 4, 3) := by decide +kernel
theorem dX12_shadesLeft_28 : decode cX12_shadesLeft 28 = .ok (.iconst 0, 1) := by decide +kernel
theorem dX12_shadesLeft_29 : decode cX12_shadesLeft 29 = .ok (.iadd, 1) := by decide +kernel
theorem dX12_shadesLeft_30 : decode cX12_shadesLeft 30 = .ok (.istore_n 3, 1) := by decide +kernel
theorem dX12_shadesLeft_31 : decode cX12_shadesLeft 31 = .ok (.iinc 4 1, 3) := by decide +kernel
theorem dX12_shadesLeft_34 : decode cX12_shadesLeft 34 = .ok (.goto (-29), 3) := by decide +kernel
theorem dX12_shadesLeft_37 : decode cX12_shadesLeft 37 = .ok (.iload_n 3, 1) := by decide +kernel
theorem dX12_shadesLeft_38 : decode cX12_shadesLeft 38 = .ok (.ireturn, 1) := by decide +kernel
theorem dX12_wrong_0 : decode cX12_wrong 0 = .ok (.aload_n 0, 1) := by decide +kernel
theorem dX12_wrong_1 : decode cX12_wrong 1 = .ok (.invokevirtual 271, 3) := by decide +kernel
theorem dX12_wrong_4 : decode cX12_wrong 4 = .ok (.aload_n 0, 1) := by decide +kernel
theorem dX12_wrong_5 : decode cX12_wrong 5 = .ok (.aload_n 0, 1) := by decide +kernel
theorem dX12_wrong_6 : decode cX12_wrong 6 = .ok (.invokevirtual 472, 3) := by decide +kernel
theorem dX12_wrong_9 : decode cX12_wrong 9 = .ok (.ifCond .ne 7, 3) := by decide +kernel
theorem dX12_wrong_12 : decode cX12_wrong 12 = .ok (.iconst 1, 1) := by decide +kernel
theorem dX12_wrong_13 : decode cX12_wrong 13 = .ok (.goto 4, 3) := by decide +kernel
theorem dX12_wrong_16 : decode cX12_wrong 16 = .ok (.iconst 0, 1) := by decide +kernel
theorem dX12_wrong_17 : decode cX12_wrong 17 = .ok (.iconst 1, 1) := by decide +kernel
theorem dX12_wrong_18 : decode cX12_wrong 18 = .ok (.invokevirtual 282, 3) := by decide +kernel
theorem dX12_wrong_21 : decode cX12_wrong 21 = .ok (.ifCond .eq 5, 3) := by decide +kernel
theorem dX12_wrong_24 : decode cX12_wrong 24 = .ok (.iconst 0, 1) := by decide +kernel
theorem dX12_wrong_25 : decode cX12_wrong 25 = .ok (.ireturn, 1) := by decide +kernel
theorem dX12_wrong_26 : decode cX12_wrong 26 = .ok (.iconst 1, 1) := by decide +kernel
theorem dX12_wrong_27 : decode cX12_wrong 27 = .ok (.aload_n 0, 1) := by decide +kernel
theorem dX12_wrong_28 : decode cX12_wrong 28 = .ok (.invokevirtual 102, 3) := by decide +kernel
theorem dX12_wrong_31 : decode cX12_wrong 31 = .ok (.ishl, 1) := by decide +kernel
theorem dX12_wrong_32 : decode cX12_wrong 32 = .ok (.iconst 1, 1) := by decide +kernel
theorem dX12_wrong_33 : decode cX12_wrong 33 = .ok (.isub, 1) := by decide +kernel
theorem dX12_wrong_34 : decode cX12_wrong 34 = .ok (.istore_n 1, 1) := by decide +kernel
theorem dX12_wrong_35 : decode cX12_wrong 35 = .ok (.iconst 0, 1) := by decide +kernel
theorem dX12_wrong_36 : decode cX12_wrong 36 = .ok (.istore_n 2, 1) := by decide +kernel
theorem dX12_wrong_37 : decode cX12_wrong 37 = .ok (.iload_n 2, 1) := by decide +kernel
theorem dX12_wrong_38 : decode cX12_wrong 38 = .ok (.iconst 1, 1) := by decide +kernel
theorem dX12_wrong_39 : decode cX12_wrong 39 = .ok (.aload_n 0, 1) := by decide +kernel
theorem dX12_wrong_40 : decode cX12_wrong 40 = .ok (.invokevirtual 102, 3) := by decide +kernel
theorem dX12_wrong_43 : decode cX12_wrong 43 = .ok (.ishl, 1) := by decide +kernel
theorem dX12_wrong_44 : decode cX12_wrong 44 = .ok (.if_icmp .ge 74, 3) := by decide +kernel
theorem dX12_wrong_47 : decode cX12_wrong 47 = .ok (.iload_n 2, 1) := by decide +kernel
theorem dX12_wrong_48 : decode cX12_wrong 48 = .ok (.invokestatic 443, 3) := by decide +kernel
theorem dX12_wrong_51 : decode cX12_wrong 51 = .ok (.iload_n 1, 1) := by decide +kernel
theorem dX12_wrong_52 : decode cX12_wrong 52 = .ok (.invokestatic 443, 3) := by decide +kernel
theorem dX12_wrong_55 : decode cX12_wrong 55 = .ok (.if_icmp .ge 7, 3) := by decide +kernel
theorem dX12_wrong_58 : decode cX12_wrong 58 = .ok (.iconst 1, 1) := by decide +kernel
theorem dX12_wrong_59 : decode cX12_wrong 59 = .ok (.goto 4, 3) := by decide +kernel
theorem dX12_wrong_62 : decode cX12_wrong 62 = .ok (.iconst 0, 1) := by decide +kernel
theorem dX12_wrong_63 : decode cX12_wrong 63 = .ok (.istore_n 3, 1) := by decide +kernel
theorem dX12_wrong_64 : decode cX12_wrong 64 = .ok (.iconst 0, 1) := by decide +kernel
theorem dX12_wrong_65 : decode cX12_wrong 65 = .ok (.istore 4, 2) := by decide +kernel
theorem dX12_wrong_67 : decode cX12_wrong 67 = .ok (.iload 4, 2) := by decide +kernel
theorem dX12_wrong_69 : decode cX12_wrong 69 = .ok (.aload_n 0, 1) := by decide +kernel
theorem dX12_wrong_70 : decode cX12_wrong 70 = .ok (.invokevirtual 92, 3) := by decide +kernel
theorem dX12_wrong_73 : decode cX12_wrong 73 = .ok (.if_icmp .ge 29, 3) := by decide +kernel
theorem dX12_wrong_76 : decode cX12_wrong 76 = .ok (.iload_n 3, 1) := by decide +kernel
theorem dX12_wrong_77 : decode cX12_wrong 77 = .ok (.ifCond .eq 25, 3) := by decide +kernel
theorem dX12_wrong_80 : decode cX12_wrong 80 = .ok (.aload_n 0, 1) := by decide +kernel
theorem dX12_wrong_81 : decode cX12_wrong 81 = .ok (.iload 4, 2) := by decide +kernel
theorem dX12_wrong_83 : decode cX12_wrong 83 = .ok (.iload_n 2, 1) := by decide +kernel
theorem dX12_wrong_84 : decode cX12_wrong 84 = .ok (.invokevirtual 475, 3) := by decide +kernel
theorem dX12_wrong_87 : decode cX12_wrong 87 = .ok (.ifCond .le 7, 3) := by decide +kernel
theorem dX12_wrong_90 : decode cX12_wrong 90 = .ok (.iconst 1, 1) := by decide +kernel
theorem dX12_wrong_91 : decode cX12_wrong 91 = .ok (.goto 4, 3) := by decide +kernel
theorem dX12_wrong_94 : decode cX12_wrong 94 = .ok (.iconst 0, 1) := by decide +kernel
theorem dX12_wrong_95 : decode cX12_wrong 95 = .ok (.istore_n 3, 1) := by decide +kernel
theorem dX12_wrong_96 : decode cX12_wrong 96 = .ok (.iinc 4 1, 3) := by decide +kernel
theorem dX12_wrong_99 : decode cX12_wrong 99 = .ok (.goto (-32), 3) := by decide +kernel
theorem dX12_wrong_102 : decode cX12_wrong 102 = .ok (.iload_n 3, 1) := by decide +kernel
theorem dX12_wrong_103 : decode cX12_wrong 103 = .ok (.ifCond .eq 7, 3) := by decide +kernel
theorem dX12_wrong_106 : decode cX12_wrong 106 = .ok (.iload_n 2, 1) := by decide +kernel
theorem dX12_wrong_107 : decode cX12_wrong 107 = .ok (.goto 4, 3) := by decide +kernel
theorem dX12_wrong_110 : decode cX12_wrong 110 = .ok (.iload_n 1, 1) := by decide +kernel
theorem dX12_wrong_111 : decode cX12_wrong 111 = .ok (.istore_n 1, 1) := by decide +kernel
theorem dX12_wrong_112 : decode cX12_wrong 112 = .ok (.iinc 2 1, 3) := by decide +kernel
theorem dX12_wrong_115 : decode cX12_wrong 115 = .ok (.goto (-78), 3) := by decide +kernel
theorem dX12_wrong_118 : decode cX12_wrong 118 = .ok (.iload_n 1, 1) := by decide +kernel
theorem dX12_wrong_119 : decode cX12_wrong 119 = .ok (.ireturn, 1) := by decide +kernel
theorem dX12_shades_0 : decode cX12_shades 0 = .ok (.aload_n 0, 1) := by decide +kernel
theorem dX12_shades_1 : decode cX12_shades 1 = .ok (.invokevirtual 271, 3) := by decide +kernel
theorem dX12_shades_4 : decode cX12_shades 4 = .ok (.aload_n 0, 1) := by decide +kernel
theorem dX12_shades_5 : decode cX12_shades 5 = .ok (.aload_n 0, 1) := by decide +kernel
theorem dX12_shades_6 : decode cX12_shades 6 = .ok (.iload_n 1, 1) := by decide +kernel
theorem dX12_shades_7 : decode cX12_shades 7 = .ok (.invokevirtual 370, 3) := by decide +kernel
theorem dX12_shades_10 : decode cX12_shades 10 = .ok (.iconst 1, 1) := by decide +kernel
theorem dX12_shades_11 : decode cX12_shades 11 = .ok (.invokevirtual 282, 3) := by decide +kernel
theorem dX12_shades_14 : decode cX12_shades 14 = .ok (.ifCond .ne 23, 3) := by decide +kernel
theorem dX12_shades_17 : decode cX12_shades 17 = .ok (.aload_n 0, 1) := by decide +kernel
theorem dX12_shades_18 : decode cX12_shades 18 = .ok (.aload_n 0, 1) := by decide +kernel
theorem dX12_shades_19 : decode cX12_shades 19 = .ok (.invokevirtual 472, 3) := by decide +kernel
theorem dX12_shades_22 : decode cX12_shades 22 = .ok (.ifCond .ne 7, 3) := by decide +kernel
theorem dX12_shades_25 : decode cX12_shades 25 = .ok (.iconst 1, 1) := by decide +kernel
theorem dX12_shades_26 : decode cX12_shades 26 = .ok (.goto 4, 3) := by decide +kernel
theorem dX12_shades_29 : decode cX12_shades 29 = .ok (.iconst 0, 1) := by decide +kernel
theorem dX12_shades_30 : decode cX12_shades 30 = .ok (.iconst 2, 1) := by decide +kernel
theorem dX12_shades_31 : decode cX12_shades 31 = .ok (.invokevirtual 282, 3) := by decide +kernel
theorem dX12_shades_34 : decode cX12_shades 34 = .ok (.ifCond .eq 7, 3) := by decide +kernel
theorem dX12_shades_37 : decode cX12_shades 37 = .ok (.iconst 0, 1) := by decide +kernel
theorem dX12_shades_38 : decode cX12_shades 38 = .ok (.goto 9, 3) := by decide +kernel
theorem dX12_shades_41 : decode cX12_shades 41 = .ok (.aload_n 0, 1) := by decide +kernel
theorem dX12_shades_42 : decode cX12_shades 42 = .ok (.iload_n 1, 1) := by decide +kernel
theorem dX12_shades_43 : decode cX12_shades 43 = .ok (.iconst 0, 1) := by decide +kernel
theorem dX12_shades_44 : decode cX12_shades 44 = .ok (.invokevirtual 475, 3) := by decide +kernel
theorem dX12_shades_47 : decode cX12_shades 47 = .ok (.ireturn, 1) := by decide +kernel
theorem dX12_vinegar_0 : decode cX12_vinegar 0 = .ok (.aload_n 0, 1) := by decide +kernel
theorem dX12_vinegar_1 : decode cX12_vinegar 1 = .ok (.iconst 0, 1) := by decide +kernel
theorem dX12_vinegar_2 : decode cX12_vinegar 2 = .ok (.putfield 3, 3) := by decide +kernel
theorem dX12_vinegar_5 : decode cX12_vinegar 5 = .ok (.aload_n 0, 1) := by decide +kernel
theorem dX12_vinegar_6 : decode cX12_vinegar 6 = .ok (.aload_n 0, 1) := by decide +kernel
theorem dX12_vinegar_7 : decode cX12_vinegar 7 = .ok (.iload_n 1, 1) := by decide +kernel
theorem dX12_vinegar_8 : decode cX12_vinegar 8 = .ok (.invokevirtual 370, 3) := by decide +kernel
theorem dX12_vinegar_11 : decode cX12_vinegar 11 = .ok (.ifCond .ne 11, 3) := by decide +kernel
theorem dX12_vinegar_14 : decode cX12_vinegar 14 = .ok (.aload_n 0, 1) := by decide +kernel
theorem dX12_vinegar_15 : decode cX12_vinegar 15 = .ok (.iload_n 2, 1) := by decide +kernel
theorem dX12_vinegar_16 : decode cX12_vinegar 16 = .ok (.invokevirtual 391, 3) := by decide +kernel
theorem dX12_vinegar_19 : decode cX12_vinegar 19 = .ok (.ifCond .eq 7, 3) := by decide +kernel
theorem dX12_vinegar_22 : decode cX12_vinegar 22 = .ok (.iconst 1, 1) := by decide +kernel
theorem dX12_vinegar_23 : decode cX12_vinegar 23 = .ok (.goto 4, 3) := by decide +kernel
theorem dX12_vinegar_26 : decode cX12_vinegar 26 = .ok (.iconst 0, 1) := by decide +kernel
theorem dX12_vinegar_27 : decode cX12_vinegar 27 = .ok (.iconst 1, 1) := by decide +kernel
theorem dX12_vinegar_28 : decode cX12_vinegar 28 = .ok (.invokevirtual 282, 3) := by decide +kernel
theorem dX12_vinegar_31 : decode cX12_vinegar 31 = .ok (.ifCond .eq 5, 3) := by decide +kernel
theorem dX12_vinegar_34 : decode cX12_vinegar 34 = .ok (.iconst 0, 1) := by decide +kernel
theorem dX12_vinegar_35 : decode cX12_vinegar 35 = .ok (.ireturn, 1) := by decide +kernel
theorem dX12_vinegar_36 : decode cX12_vinegar 36 = .ok (.aload_n 0, 1) := by decide +kernel
theorem dX12_vinegar_37 : decode cX12_vinegar 37 = .ok (.iload_n 1, 1) := by decide +kernel
theorem dX12_vinegar_38 : decode cX12_vinegar 38 = .ok (.iconst 2, 1) := by decide +kernel
theorem dX12_vinegar_39 : decode cX12_vinegar 39 = .ok (.invokevirtual 285, 3) := by decide +kernel
theorem dX12_vinegar_42 : decode cX12_vinegar 42 = .ok (.istore_n 3, 1) := by decide +kernel
theorem dX12_vinegar_43 : decode cX12_vinegar 43 = .ok (.iconst (-1), 1) := by decide +kernel
theorem dX12_vinegar_44 : decode cX12_vinegar 44 = .ok (.istore 4, 2) := by decide +kernel
theorem dX12_vinegar_46 : decode cX12_vinegar 46 = .ok (.bipush 99, 2) := by decide +kernel
theorem dX12_vinegar_48 : decode cX12_vinegar 48 = .ok (.istore 5, 2) := by decide +kernel
theorem dX12_vinegar_50 : decode cX12_vinegar 50 = .ok (.iload 5, 2) := by decide +kernel
theorem dX12_vinegar_52 : decode cX12_vinegar 52 = .ok (.ifCond .lt 44, 3) := by decide +kernel
theorem dX12_vinegar_55 : decode cX12_vinegar 55 = .ok (.aload_n 0, 1) := by decide +kernel
theorem dX12_vinegar_56 : decode cX12_vinegar 56 = .ok (.getfield 13, 3) := by decide +kernel
theorem dX12_vinegar_59 : decode cX12_vinegar 59 = .ok (.iload_n 1, 1) := by decide +kernel
theorem dX12_vinegar_60 : decode cX12_vinegar 60 = .ok (.iconst 2, 1) := by decide +kernel
theorem dX12_vinegar_61 : decode cX12_vinegar 61 = .ok (.invokestatic 78, 3) := by decide +kernel
theorem dX12_vinegar_64 : decode cX12_vinegar 64 = .ok (.iload 5, 2) := by decide +kernel
theorem dX12_vinegar_66 : decode cX12_vinegar 66 = .ok (.iastore, 1) := by decide +kernel
theorem dX12_vinegar_67 : decode cX12_vinegar 67 = .ok (.aload_n 0, 1) := by decide +kernel
theorem dX12_vinegar_68 : decode cX12_vinegar 68 = .ok (.iload_n 1, 1) := by decide +kernel
theorem dX12_vinegar_69 : decode cX12_vinegar 69 = .ok (.aload_n 0, 1) := by decide +kernel
theorem dX12_vinegar_70 : decode cX12_vinegar 70 = .ok (.iload_n 2, 1) := by decide +kernel
theorem dX12_vinegar_71 : decode cX12_vinegar 71 = .ok (.iload_n 1, 1) := by decide +kernel
theorem dX12_vinegar_72 : decode cX12_vinegar 72 = .ok (.invokevirtual 364, 3) := by decide +kernel
theorem dX12_vinegar_75 : decode cX12_vinegar 75 = .ok (.invokevirtual 367, 3) := by decide +kernel
theorem dX12_vinegar_78 : decode cX12_vinegar 78 = .ok (.ifCond .eq 8, 3) := by decide +kernel
theorem dX12_vinegar_81 : decode cX12_vinegar 81 = .ok (.iload 4, 2) := by decide +kernel
theorem dX12_vinegar_83 : decode cX12_vinegar 83 = .ok (.goto 5, 3) := by decide +kernel
theorem dX12_vinegar_86 : decode cX12_vinegar 86 = .ok (.iload 5, 2) := by decide +kernel
theorem dX12_vinegar_88 : decode cX12_vinegar 88 = .ok (.istore 4, 2) := by decide +kernel
theorem dX12_vinegar_90 : decode cX12_vinegar 90 = .ok (.iinc 5 (-1), 3) := by decide +kernel
theorem dX12_vinegar_93 : decode cX12_vinegar 93 = .ok (.goto (-43), 3) := by decide +kernel
theorem dX12_vinegar_96 : decode cX12_vinegar 96 = .ok (.aload_n 0, 1) := by decide +kernel
theorem dX12_vinegar_97 : decode cX12_vinegar 97 = .ok (.getfield 13, 3) := by decide +kernel
theorem dX12_vinegar_100 : decode cX12_vinegar 100 = .ok (.iload_n 1, 1) := by decide +kernel
theorem dX12_vinegar_101 : decode cX12_vinegar 101 = .ok (.iconst 2, 1) := by decide +kernel
theorem dX12_vinegar_102 : decode cX12_vinegar 102 = .ok (.invokestatic 78, 3) := by decide +kernel
theorem dX12_vinegar_105 : decode cX12_vinegar 105 = .ok (.iload_n 3, 1) := by decide +kernel
theorem dX12_vinegar_106 : decode cX12_vinegar 106 = .ok (.iastore, 1) := by decide +kernel
theorem dX12_vinegar_107 : decode cX12_vinegar 107 = .ok (.iload 4, 2) := by decide +kernel
theorem dX12_vinegar_109 : decode cX12_vinegar 109 = .ok (.ireturn, 1) := by decide +kernel
theorem dX12_betrays_0 : decode cX12_betrays 0 = .ok (.aload_n 0, 1) := by decide +kernel
theorem dX12_betrays_1 : decode cX12_betrays 1 = .ok (.iload_n 1, 1) := by decide +kernel
theorem dX12_betrays_2 : decode cX12_betrays 2 = .ok (.iload_n 2, 1) := by decide +kernel
theorem dX12_betrays_3 : decode cX12_betrays 3 = .ok (.invokevirtual 397, 3) := by decide +kernel
theorem dX12_betrays_6 : decode cX12_betrays 6 = .ok (.ifCond .eq 5, 3) := by decide +kernel
theorem dX12_betrays_9 : decode cX12_betrays 9 = .ok (.iconst 0, 1) := by decide +kernel
theorem dX12_betrays_10 : decode cX12_betrays 10 = .ok (.ireturn, 1) := by decide +kernel
theorem dX12_betrays_11 : decode cX12_betrays 11 = .ok (.iconst 0, 1) := by decide +kernel
theorem dX12_betrays_12 : decode cX12_betrays 12 = .ok (.istore_n 3, 1) := by decide +kernel
theorem dX12_betrays_13 : decode cX12_betrays 13 = .ok (.iconst 0, 1) := by decide +kernel
theorem dX12_betrays_14 : decode cX12_betrays 14 = .ok (.istore 4, 2) := by decide +kernel
theorem dX12_betrays_16 : decode cX12_betrays 16 = .ok (.iload 4, 2) := by decide +kernel
theorem dX12_betrays_18 : decode cX12_betrays 18 = .ok (.aload_n 0, 1) := by decide +kernel
theorem dX12_betrays_19 : decode cX12_betrays 19 = .ok (.invokevirtual 99, 3) := by decide +kernel
theorem dX12_betrays_22 : decode cX12_betrays 22 = .ok (.if_icmp .ge 49, 3) := by decide +kernel
theorem dX12_betrays_25 : decode cX12_betrays 25 = .ok (.iload_n 3, 1) := by decide +kernel
theorem dX12_betrays_26 : decode cX12_betrays 26 = .ok (.ifCond .ne 33, 3) := by decide +kernel
theorem dX12_betrays_29 : decode cX12_betrays 29 = .ok (.aload_n 0, 1) := by decide +kernel
theorem dX12_betrays_30 : decode cX12_betrays 30 = .ok (.iload 4, 2) := by decide +kernel
theorem dX12_betrays_32 : decode cX12_betrays 32 = .ok (.iload_n 1, 1) := by decide +kernel
theorem dX12_betrays_33 : decode cX12_betrays 33 = .ok (.invokevirtual 451, 3) := by decide +kernel
theorem dX12_betrays_36 : decode cX12_betrays 36 = .ok (.ifCond .eq 27, 3) := by decide +kernel
theorem dX12_betrays_39 : decode cX12_betrays 39 = .ok (.aload_n 0, 1) := by decide +kernel
theorem dX12_betrays_40 : decode cX12_betrays 40 = .ok (.iload 4, 2) := by decide +kernel
theorem dX12_betrays_42 : decode cX12_betrays 42 = .ok (.iload_n 2, 1) := by decide +kernel
theorem dX12_betrays_43 : decode cX12_betrays 43 = .ok (.invokevirtual 451, 3) := by decide +kernel
theorem dX12_betrays_46 : decode cX12_betrays 46 = .ok (.ifCond .ne 17, 3) := by decide +kernel
theorem dX12_betrays_49 : decode cX12_betrays 49 = .ok (.aload_n 0, 1) := by decide +kernel
theorem dX12_betrays_50 : decode cX12_betrays 50 = .ok (.iload 4, 2) := by decide +kernel
theorem dX12_betrays_52 : decode cX12_betrays 52 = .ok (.iload_n 2, 1) := by decide +kernel
theorem dX12_betrays_53 : decode cX12_betrays 53 = .ok (.invokevirtual 364, 3) := by decide +kernel
theorem dX12_betrays_56 : decode cX12_betrays 56 = .ok (.ifCond .le 7, 3) := by decide +kernel
theorem dX12_betrays_59 : decode cX12_betrays 59 = .ok (.iconst 1, 1) := by decide +kernel
theorem dX12_betrays_60 : decode cX12_betrays 60 = .ok (.goto 4, 3) := by decide +kernel
theorem dX12_betrays_63 : decode cX12_betrays 63 = .ok (.iconst 0, 1) := by decide +kernel
theorem dX12_betrays_64 : decode cX12_betrays 64 = .ok (.istore_n 3, 1) := by decide +kernel
theorem dX12_betrays_65 : decode cX12_betrays 65 = .ok (.iinc 4 1, 3) := by decide +kernel
theorem dX12_betrays_68 : decode cX12_betrays 68 = .ok (.goto (-52), 3) := by decide +kernel
theorem dX12_betrays_71 : decode cX12_betrays 71 = .ok (.iload_n 3, 1) := by decide +kernel
theorem dX12_betrays_72 : decode cX12_betrays 72 = .ok (.ireturn, 1) := by decide +kernel
theorem dX12_heats_0 : decode cX12_heats 0 = .ok (.aload_n 0, 1) := by decide +kernel
theorem dX12_heats_1 : decode cX12_heats 1 = .ok (.iconst 0, 1) := by decide +kernel
theorem dX12_heats_2 : decode cX12_heats 2 = .ok (.putfield 3, 3) := by decide +kernel
theorem dX12_heats_5 : decode cX12_heats 5 = .ok (.aload_n 0, 1) := by decide +kernel
theorem dX12_heats_6 : decode cX12_heats 6 = .ok (.getfield 13, 3) := by decide +kernel
theorem dX12_heats_9 : decode cX12_heats 9 = .ok (.bipush 7, 2) := by decide +kernel
theorem dX12_heats_11 : decode cX12_heats 11 = .ok (.iaload, 1) := by decide +kernel
theorem dX12_heats_12 : decode cX12_heats 12 = .ok (.istore_n 1, 1) := by decide +kernel
theorem dX12_heats_13 : decode cX12_heats 13 = .ok (.iconst 0, 1) := by decide +kernel
theorem dX12_heats_14 : decode cX12_heats 14 = .ok (.istore_n 2, 1) := by decide +kernel
theorem dX12_heats_15 : decode cX12_heats 15 = .ok (.iconst (-1), 1) := by decide +kernel
theorem dX12_heats_16 : decode cX12_heats 16 = .ok (.istore_n 3, 1) := by decide +kernel
theorem dX12_heats_17 : decode cX12_heats 17 = .ok (.iconst 0, 1) := by decide +kernel
theorem dX12_heats_18 : decode cX12_heats 18 = .ok (.istore 4, 2) := by decide +kernel
theorem dX12_heats_20 : decode cX12_heats 20 = .ok (.iload 4, 2) := by decide +kernel
theorem dX12_heats_22 : decode cX12_heats 22 = .ok (.bipush 9, 2) := by decide +kernel
theorem dX12_heats_24 : decode cX12_heats 24 = .ok (.if_icmp .gt 85, 3) := by decide +kernel
theorem dX12_heats_27 : decode cX12_heats 27 = .ok (.aload_n 0, 1) := by decide +kernel
theorem dX12_heats_28 : decode cX12_heats 28 = .ok (.getfield 13, 3) := by decide +kernel
theorem dX12_heats_31 : decode cX12_heats 31 = .ok (.bipush 7, 2) := by decide +kernel
theorem dX12_heats_33 : decode cX12_heats 33 = .ok (.iload 4, 2) := by decide +kernel
theorem dX12_heats_35 : decode cX12_heats 35 = .ok (.iastore, 1) := by decide +kernel
theorem dX12_heats_36 : decode cX12_heats 36 = .ok (.iconst 0, 1) := by decide +kernel
theorem dX12_heats_37 : decode cX12_heats 37 = .ok (.istore 5, 2) := by decide +kernel
theorem dX12_heats_39 : decode cX12_heats 39 = .ok (.iconst 0, 1) := by decide +kernel
theorem dX12_heats_40 : decode cX12_heats 40 = .ok (.istore 6, 2) := by decide +kernel
theorem dX12_heats_42 : decode cX12_heats 42 = .ok (.iload 6, 2) := by decide +kernel
theorem dX12_heats_44 : decode cX12_heats 44 = .ok (.aload_n 0, 1) := by decide +kernel
theorem dX12_heats_45 : decode cX12_heats 45 = .ok (.invokevirtual 92, 3) := by decide +kernel
theorem dX12_heats_48 : decode cX12_heats 48 = .ok (.if_icmp .ge 35, 3) := by decide +kernel
theorem dX12_heats_51 : decode cX12_heats 51 = .ok (.iload 5, 2) := by decide +kernel
theorem dX12_heats_53 : decode cX12_heats 53 = .ok (.aload_n 0, 1) := by decide +kernel
theorem dX12_heats_54 : decode cX12_heats 54 = .ok (.iload 6, 2) := by decide +kernel
theorem dX12_heats_56 : decode cX12_heats 56 = .ok (.iconst 3, 1) := by decide +kernel
theorem dX12_heats_57 : decode cX12_heats 57 = .ok (.invokevirtual 285, 3) := by decide +kernel
theorem dX12_heats_60 : decode cX12_heats 60 = .ok (.aload_n 0, 1) := by decide +kernel
theorem dX12_heats_61 : decode cX12_heats 61 = .ok (.iload 6, 2) := by decide +kernel
theorem dX12_heats_63 : decode cX12_heats 63 = .ok (.invokevirtual 333, 3) := by decide +kernel
theorem dX12_heats_66 : decode cX12_heats 66 = .ok (.if_icmp .gt 7, 3) := by decide +kernel
theorem dX12_heats_69 : decode cX12_heats 69 = .ok (.iconst 1, 1) := by decide +kernel
theorem dX12_heats_70 : decode cX12_heats 70 = .ok (.goto 4, 3) := by decide +kernel
theorem dX12_heats_73 : decode cX12_heats 73 = .ok (.iconst 0, 1) := by decide +kernel
theorem dX12_heats_74 : decode cX12_heats 74 = .ok (.iadd, 1) := by decide +kernel
theorem dX12_heats_75 : decode cX12_heats 75 = .ok (.istore 5, 2) := by decide +kernel
theorem dX12_heats_77 : decode cX12_heats 77 = .ok (.iinc 6 1, 3) := by decide +kernel
theorem dX12_heats_80 : decode cX12_heats 80 = .ok (.goto (-38), 3) := by decide +kernel
theorem dX12_heats_83 : decode cX12_heats 83 = .ok (.iload 5, 2) := by decide +kernel
theorem dX12_heats_85 : decode cX12_heats 85 = .ok (.iload_n 3, 1) := by decide +kernel
theorem dX12_heats_86 : decode cX12_heats 86 = .ok (.if_icmp .le 8, 3) := by decide +kernel
theorem dX12_heats_89 : decode cX12_heats 89 = .ok (.iload 4, 2) := by decide +kernel
theorem dX12_heats_91 : decode cX12_heats 91 = .ok (.goto 4, 3) := by decide +kernel
theorem dX12_heats_94 : decode cX12_heats 94 = .ok (.iload_n 2, 1) := by decide +kernel
theorem dX12_heats_95 : decode cX12_heats 95 = .ok (.istore_n 2, 1) := by decide +kernel
theorem dX12_heats_96 : decode cX12_heats 96 = .ok (.iload_n 3, 1) := by decide +kernel
theorem dX12_heats_97 : decode cX12_heats 97 = .ok (.iload 5, 2) := by decide +kernel
theorem dX12_heats_99 : decode cX12_heats 99 = .ok (.invokestatic 305, 3) := by decide +kernel
theorem dX12_heats_102 : decode cX12_heats 102 = .ok (.istore_n 3, 1) := by decide +kernel
theorem dX12_heats_103 : decode cX12_heats 103 = .ok (.iinc 4 1, 3) := by decide +kernel
theorem dX12_heats_106 : decode cX12_heats 106 = .ok (.goto (-86), 3) := by decide +kernel
theorem dX12_heats_109 : decode cX12_heats 109 = .ok (.aload_n 0, 1) := by decide +kernel
theorem dX12_heats_110 : decode cX12_heats 110 = .ok (.getfield 13, 3) := by decide +kernel
theorem dX12_heats_113 : decode cX12_heats 113 = .ok (.bipush 7, 2) := by decide +kernel
theorem dX12_heats_115 : decode cX12_heats 115 = .ok (.iload_n 1, 1) := by decide +kernel
theorem dX12_heats_116 : decode cX12_heats 116 = .ok (.iastore, 1) := by decide +kernel
theorem dX12_heats_117 : decode cX12_heats 117 = .ok (.iload_n 2, 1) := by decide +kernel
theorem dX12_heats_118 : decode cX12_heats 118 = .ok (.ireturn, 1) := by decide +kernel
theorem dX12_unlike_0 : decode cX12_unlike 0 = .ok (.iconst 0, 1) := by decide +kernel
theorem dX12_unlike_1 : decode cX12_unlike 1 = .ok (.istore_n 3, 1) := by decide +kernel
theorem dX12_unlike_2 : decode cX12_unlike 2 = .ok (.iconst 0, 1) := by decide +kernel
theorem dX12_unlike_3 : decode cX12_unlike 3 = .ok (.istore 4, 2) := by decide +kernel
theorem dX12_unlike_5 : decode cX12_unlike 5 = .ok (.iload 4, 2) := by decide +kernel
theorem dX12_unlike_7 : decode cX12_unlike 7 = .ok (.aload_n 0, 1) := by decide +kernel
theorem dX12_unlike_8 : decode cX12_unlike 8 = .ok (.invokevirtual 92, 3) := by decide +kernel
theorem dX12_unlike_11 : decode cX12_unlike 11 = .ok (.if_icmp .ge 44, 3) := by decide +kernel
theorem dX12_unlike_14 : decode cX12_unlike 14 = .ok (.iload_n 3, 1) := by decide +kernel
theorem dX12_unlike_15 : decode cX12_unlike 15 = .ok (.aload_n 0, 1) := by decide +kernel
theorem dX12_unlike_16 : decode cX12_unlike 16 = .ok (.iload_n 1, 1) := by decide +kernel
theorem dX12_unlike_17 : decode cX12_unlike 17 = .ok (.aload_n 0, 1) := by decide +kernel
theorem dX12_unlike_18 : decode cX12_unlike 18 = .ok (.iload 4, 2) := by decide +kernel
theorem dX12_unlike_20 : decode cX12_unlike 20 = .ok (.iconst 3, 1) := by decide +kernel
theorem dX12_unlike_21 : decode cX12_unlike 21 = .ok (.invokevirtual 285, 3) := by decide +kernel
theorem dX12_unlike_24 : decode cX12_unlike 24 = .ok (.invokevirtual 358, 3) := by decide +kernel
theorem dX12_unlike_27 : decode cX12_unlike 27 = .ok (.aload_n 0, 1) := by decide +kernel
theorem dX12_unlike_28 : decode cX12_unlike 28 = .ok (.iload_n 2, 1) := by decide +kernel
theorem dX12_unlike_29 : decode cX12_unlike 29 = .ok (.aload_n 0, 1) := by decide +kernel
theorem dX12_unlike_30 : decode cX12_unlike 30 = .ok (.iload 4, 2) := by decide +kernel
theorem dX12_unlike_32 : decode cX12_unlike 32 = .ok (.iconst 3, 1) := by decide +kernel
theorem dX12_unlike_33 : decode cX12_unlike 33 = .ok (.invokevirtual 285, 3) := by decide +kernel
theorem dX12_unlike_36 : decode cX12_unlike 36 = .ok (.invokevirtual 358, 3) := by decide +kernel
theorem dX12_unlike_39 : decode cX12_unlike 39 = .ok (.if_icmp .eq 7, 3) := by decide +kernel
theorem dX12_unlike_42 : decode cX12_unlike 42 = .ok (.iconst 1, 1) := by decide +kernel
theorem dX12_unlike_43 : decode cX12_unlike 43 = .ok (.goto 4, 3) := by decide +kernel
theorem dX12_unlike_46 : decode cX12_unlike 46 = .ok (.iconst 0, 1) := by decide +kernel
theorem dX12_unlike_47 : decode cX12_unlike 47 = .ok (.iadd, 1) := by decide +kernel
theorem dX12_unlike_48 : decode cX12_unlike 48 = .ok (.istore_n 3, 1) := by decide +kernel
theorem dX12_unlike_49 : decode cX12_unlike 49 = .ok (.iinc 4 1, 3) := by decide +kernel
theorem dX12_unlike_52 : decode cX12_unlike 52 = .ok (.goto (-47), 3) := by decide +kernel
theorem dX12_unlike_55 : decode cX12_unlike 55 = .ok (.iload_n 3, 1) := by decide +kernel
theorem dX12_unlike_56 : decode cX12_unlike 56 = .ok (.ireturn, 1) := by decide +kernel
theorem dX12_firstOf_0 : decode cX12_firstOf 0 = .ok (.iload_n 0, 1) := by decide +kernel
theorem dX12_firstOf_1 : decode cX12_firstOf 1 = .ok (.invokestatic 478, 3) := by decide +kernel
theorem dX12_firstOf_4 : decode cX12_firstOf 4 = .ok (.ireturn, 1) := by decide +kernel
theorem dX12_unlikelyBy_0 : decode cX12_unlikelyBy 0 = .ok (.iload_n 1, 1) := by decide +kernel
theorem dX12_unlikelyBy_1 : decode cX12_unlikelyBy 1 = .ok (.invokestatic 481, 3) := by decide +kernel
theorem dX12_unlikelyBy_4 : decode cX12_unlikelyBy 4 = .ok (.istore_n 3, 1) := by decide +kernel
theorem dX12_unlikelyBy_5 : decode cX12_unlikelyBy 5 = .ok (.iload_n 1, 1) := by decide +kernel
theorem dX12_unlikelyBy_6 : decode cX12_unlikelyBy 6 = .ok (.iconst 1, 1) := by decide +kernel
theorem dX12_unlikelyBy_7 : decode cX12_unlikelyBy 7 = .ok (.iload_n 3, 1) := by decide +kernel
theorem dX12_unlikelyBy_8 : decode cX12_unlikelyBy 8 = .ok (.ishl, 1) := by decide +kernel
theorem dX12_unlikelyBy_9 : decode cX12_unlikelyBy 9 = .ok (.iconst (-1), 1) := by decide +kernel
theorem dX12_unlikelyBy_10 : decode cX12_unlikelyBy 10 = .ok (.ixor, 1) := by decide +kernel
theorem dX12_unlikelyBy_11 : decode cX12_unlikelyBy 11 = .ok (.iand, 1) := by decide +kernel
theorem dX12_unlikelyBy_12 : decode cX12_unlikelyBy 12 = .ok (.istore 4, 2) := by decide +kernel
theorem dX12_unlikelyBy_14 : decode cX12_unlikelyBy 14 = .ok (.iload_n 2, 1) := by decide +kernel
theorem dX12_unlikelyBy_15 : decode cX12_unlikelyBy 15 = .ok (.iconst (-1), 1) := by decide +kernel
theorem dX12_unlikelyBy_16 : decode cX12_unlikelyBy 16 = .ok (.if_icmp .ne 11, 3) := by decide +kernel
theorem dX12_unlikelyBy_19 : decode cX12_unlikelyBy 19 = .ok (.aload_n 0, 1) := by decide +kernel
theorem dX12_unlikelyBy_20 : decode cX12_unlikelyBy 20 = .ok (.getfield 64, 3) := by decide +kernel
theorem dX12_unlikelyBy_23 : decode cX12_unlikelyBy 23 = .ok (.iload 4, 2) := by decide +kernel
theorem dX12_unlikelyBy_25 : decode cX12_unlikelyBy 25 = .ok (.iaload, 1) := by decide +kernel
theorem dX12_unlikelyBy_26 : decode cX12_unlikelyBy 26 = .ok (.ireturn, 1) := by decide +kernel
theorem dX12_unlikelyBy_27 : decode cX12_unlikelyBy 27 = .ok (.iload 4, 2) := by decide +kernel
theorem dX12_unlikelyBy_29 : decode cX12_unlikelyBy 29 = .ok (.iload_n 2, 1) := by decide +kernel
theorem dX12_unlikelyBy_30 : decode cX12_unlikelyBy 30 = .ok (.invokestatic 147, 3) := by decide +kernel
theorem dX12_unlikelyBy_33 : decode cX12_unlikelyBy 33 = .ok (.ifCond .eq 26, 3) := by decide +kernel
theorem dX12_unlikelyBy_36 : decode cX12_unlikelyBy 36 = .ok (.aload_n 0, 1) := by decide +kernel
theorem dX12_unlikelyBy_37 : decode cX12_unlikelyBy 37 = .ok (.iload_n 3, 1) := by decide +kernel
theorem dX12_unlikelyBy_38 : decode cX12_unlikelyBy 38 = .ok (.iload_n 2, 1) := by decide +kernel
theorem dX12_unlikelyBy_39 : decode cX12_unlikelyBy 39 = .ok (.invokevirtual 484, 3) := by decide +kernel
theorem dX12_unlikelyBy_42 : decode cX12_unlikelyBy 42 = .ok (.aload_n 0, 1) := by decide +kernel
theorem dX12_unlikelyBy_43 : decode cX12_unlikelyBy 43 = .ok (.getfield 64, 3) := by decide +kernel
theorem dX12_unlikelyBy_46 : decode cX12_unlikelyBy 46 = .ok (.iload 4, 2) := by decide +kernel
theorem dX12_unlikelyBy_48 : decode cX12_unlikelyBy 48 = .ok (.iconst 1, 1) := by decide +kernel
theorem dX12_unlikelyBy_49 : decode cX12_unlikelyBy 49 = .ok (.iload_n 2, 1) := by decide +kernel
theorem dX12_unlikelyBy_50 : decode cX12_unlikelyBy 50 = .ok (.ishl, 1) := by decide +kernel
theorem dX12_unlikelyBy_51 : decode cX12_unlikelyBy 51 = .ok (.iconst (-1), 1) := by decide +kernel
theorem dX12_unlikelyBy_52 : decode cX12_unlikelyBy 52 = .ok (.ixor, 1) := by decide +kernel
theorem dX12_unlikelyBy_53 : decode cX12_unlikelyBy 53 = .ok (.iand, 1) := by decide +kernel
theorem dX12_unlikelyBy_54 : decode cX12_unlikelyBy 54 = .ok (.iaload, 1) := by decide +kernel
theorem dX12_unlikelyBy_55 : decode cX12_unlikelyBy 55 = .ok (.iadd, 1) := by decide +kernel
theorem dX12_unlikelyBy_56 : decode cX12_unlikelyBy 56 = .ok (.goto 4, 3) := by decide +kernel
theorem dX12_unlikelyBy_59 : decode cX12_unlikelyBy 59 = .ok (.iconst (-1), 1) := by decide +kernel
theorem dX12_unlikelyBy_60 : decode cX12_unlikelyBy 60 = .ok (.ireturn, 1) := by decide +kernel
theorem dX12_laysUnlikely_0 : decode cX12_laysUnlikely 0 = .ok (.aload_n 0, 1) := by decide +kernel
theorem dX12_laysUnlikely_1 : decode cX12_laysUnlikely 1 = .ok (.getfield 64, 3) := by decide +kernel
theorem dX12_laysUnlikely_4 : decode cX12_laysUnlikely 4 = .ok (.iconst 0, 1) := by decide +kernel
theorem dX12_laysUnlikely_5 : decode cX12_laysUnlikely 5 = .ok (.iconst 0, 1) := by decide +kernel
theorem dX12_laysUnlikely_6 : decode cX12_laysUnlikely 6 = .ok (.iastore, 1) := by decide +kernel
theorem dX12_laysUnlikely_7 : decode cX12_laysUnlikely 7 = .ok (.iconst 1, 1) := by decide +kernel
theorem dX12_laysUnlikely_8 : decode cX12_laysUnlikely 8 = .ok (.istore_n 1, 1) := by decide +kernel
theorem dX12_laysUnlikely_9 : decode cX12_laysUnlikely 9 = .ok (.iload_n 1, 1) := by decide +kernel
theorem dX12_laysUnlikely_10 : decode cX12_laysUnlikely 10 = .ok (.iconst 1, 1) := by decide +kernel
theorem dX12_laysUnlikely_11 : decode cX12_laysUnlikely 11 = .ok (.aload_n 0, 1) := by decide +kernel
theorem dX12_laysUnlikely_12 : decode cX12_laysUnlikely 12 = .ok (.invokevirtual 102, 3) := by decide +kernel
theorem dX12_laysUnlikely_15 : decode cX12_laysUnlikely 15 = .ok (.ishl, 1) := by decide +kernel
theorem dX12_laysUnlikely_16 : decode cX12_laysUnlikely 16 = .ok (.if_icmp .ge 45, 3) := by decide +kernel
theorem dX12_laysUnlikely_19 : decode cX12_laysUnlikely 19 = .ok (.iconst 0, 1) := by decide +kernel
theorem dX12_laysUnlikely_20 : decode cX12_laysUnlikely 20 = .ok (.istore_n 2, 1) := by decide +kernel
theorem dX12_laysUnlikely_21 : decode cX12_laysUnlikely 21 = .ok (.iconst (-1), 1) := by decide +kernel
theorem dX12_laysUnlikely_22 : decode cX12_laysUnlikely 22 = .ok (.istore_n 3, 1) := by decide +kernel
theorem dX12_laysUnlikely_23 : decode cX12_laysUnlikely 23 = .ok (.iload_n 3, 1) := by decide +kernel
theorem dX12_laysUnlikely_24 : decode cX12_laysUnlikely 24 = .ok (.aload_n 0, 1) := by decide +kernel
theorem dX12_laysUnlikely_25 : decode cX12_laysUnlikely 25 = .ok (.invokevirtual 102, 3) := by decide +kernel
theorem dX12_laysUnlikely_28 : decode cX12_laysUnlikely 28 = .ok (.if_icmp .ge 20, 3) := by decide +kernel
theorem dX12_laysUnlikely_31 : decode cX12_laysUnlikely 31 = .ok (.iload_n 2, 1) := by decide +kernel
theorem dX12_laysUnlikely_32 : decode cX12_laysUnlikely 32 = .ok (.aload_n 0, 1) := by decide +kernel
theorem dX12_laysUnlikely_33 : decode cX12_laysUnlikely 33 = .ok (.iload_n 1, 1) := by decide +kernel
theorem dX12_laysUnlikely_34 : decode cX12_laysUnlikely 34 = .ok (.iload_n 3, 1) := by decide +kernel
theorem dX12_laysUnlikely_35 : decode cX12_laysUnlikely 35 = .ok (.invokevirtual 487, 3) := by decide +kernel
theorem dX12_laysUnlikely_38 : decode cX12_laysUnlikely 38 = .ok (.invokestatic 305, 3) := by decide +kernel
theorem dX12_laysUnlikely_41 : decode cX12_laysUnlikely 41 = .ok (.istore_n 2, 1) := by decide +kernel
theorem dX12_laysUnlikely_42 : decode cX12_laysUnlikely 42 = .ok (.iinc 3 1, 3) := by decide +kernel
theorem dX12_laysUnlikely_45 : decode cX12_laysUnlikely 45 = .ok (.goto (-22), 3) := by decide +kernel
theorem dX12_laysUnlikely_48 : decode cX12_laysUnlikely 48 = .ok (.aload_n 0, 1) := by decide +kernel
theorem dX12_laysUnlikely_49 : decode cX12_laysUnlikely 49 = .ok (.getfield 64, 3) := by decide +kernel
theorem dX12_laysUnlikely_52 : decode cX12_laysUnlikely 52 = .ok (.iload_n 1, 1) := by decide +kernel
theorem dX12_laysUnlikely_53 : decode cX12_laysUnlikely 53 = .ok (.iload_n 2, 1) := by decide +kernel
theorem dX12_laysUnlikely_54 : decode cX12_laysUnlikely 54 = .ok (.iastore, 1) := by decide +kernel
theorem dX12_laysUnlikely_55 : decode cX12_laysUnlikely 55 = .ok (.iinc 1 1, 3) := by decide +kernel
theorem dX12_laysUnlikely_58 : decode cX12_laysUnlikely 58 = .ok (.goto (-49), 3) := by decide +kernel
theorem dX12_laysUnlikely_61 : decode cX12_laysUnlikely 61 = .ok (.return_, 1) := by decide +kernel
theorem dX12_couples_0 : decode cX12_couples 0 = .ok (.aload_n 0, 1) := by decide +kernel
theorem dX12_couples_1 : decode cX12_couples 1 = .ok (.iconst 0, 1) := by decide +kernel
theorem dX12_couples_2 : decode cX12_couples 2 = .ok (.putfield 3, 3) := by decide +kernel
theorem dX12_couples_5 : decode cX12_couples 5 = .ok (.aload_n 0, 1) := by decide +kernel
theorem dX12_couples_6 : decode cX12_couples 6 = .ok (.iload_n 1, 1) := by decide +kernel
theorem dX12_couples_7 : decode cX12_couples 7 = .ok (.iconst (-1), 1) := by decide +kernel
theorem dX12_couples_8 : decode cX12_couples 8 = .ok (.if_icmp .eq 15, 3) := by decide +kernel
theorem dX12_couples_11 : decode cX12_couples 11 = .ok (.aload_n 0, 1) := by decide +kernel
theorem dX12_couples_12 : decode cX12_couples 12 = .ok (.iload_n 1, 1) := by decide +kernel
theorem dX12_couples_13 : decode cX12_couples 13 = .ok (.invokevirtual 394, 3) := by decide +kernel
theorem dX12_couples_16 : decode cX12_couples 16 = .ok (.ifCond .eq 7, 3) := by decide +kernel
theorem dX12_couples_19 : decode cX12_couples 19 = .ok (.iconst 1, 1) := by decide +kernel
theorem dX12_couples_20 : decode cX12_couples 20 = .ok (.goto 4, 3) := by decide +kernel
theorem dX12_couples_23 : decode cX12_couples 23 = .ok (.iconst 0, 1) := by decide +kernel
theorem dX12_couples_24 : decode cX12_couples 24 = .ok (.iconst 1, 1) := by decide +kernel
theorem dX12_couples_25 : decode cX12_couples 25 = .ok (.invokevirtual 282, 3) := by decide +kernel
theorem dX12_couples_28 : decode cX12_couples 28 = .ok (.ifCond .eq 5, 3) := by decide +kernel
theorem dX12_couples_31 : decode cX12_couples 31 = .ok (.iconst 0, 1) := by decide +kernel
theorem dX12_couples_32 : decode cX12_couples 32 = .ok (.ireturn, 1) := by decide +kernel
theorem dX12_couples_33 : decode cX12_couples 33 = .ok (.aload_n 0, 1) := by decide +kernel
theorem dX12_couples_34 : decode cX12_couples 34 = .ok (.invokevirtual 490, 3) := by decide +kernel
theorem dX12_couples_37 : decode cX12_couples 37 = .ok (.iconst 1, 1) := by decide +kernel
theorem dX12_couples_38 : decode cX12_couples 38 = .ok (.aload_n 0, 1) := by decide +kernel
theorem dX12_couples_39 : decode cX12_couples 39 = .ok (.invokevirtual 102, 3) := by decide +kernel
theorem dX12_couples_42 : decode cX12_couples 42 = .ok (.ishl, 1) := by decide +kernel
theorem dX12_couples_43 : decode cX12_couples 43 = .ok (.iconst 1, 1) := by decide +kernel
theorem dX12_couples_44 : decode cX12_couples 44 = .ok (.isub, 1) := by decide +kernel
theorem dX12_couples_45 : decode cX12_couples 45 = .ok (.istore_n 2, 1) := by decide +kernel
theorem dX12_couples_46 : decode cX12_couples 46 = .ok (.iload_n 1, 1) := by decide +kernel
theorem dX12_couples_47 : decode cX12_couples 47 = .ok (.iconst (-1), 1) := by decide +kernel
theorem dX12_couples_48 : decode cX12_couples 48 = .ok (.if_icmp .ne 10, 3) := by decide +kernel
theorem dX12_couples_51 : decode cX12_couples 51 = .ok (.aload_n 0, 1) := by decide +kernel
theorem dX12_couples_52 : decode cX12_couples 52 = .ok (.getfield 64, 3) := by decide +kernel
theorem dX12_couples_55 : decode cX12_couples 55 = .ok (.iload_n 2, 1) := by decide +kernel
theorem dX12_couples_56 : decode cX12_couples 56 = .ok (.iaload, 1) := by decide +kernel
theorem dX12_couples_57 : decode cX12_couples 57 = .ok (.ireturn, 1) := by decide +kernel
theorem dX12_couples_58 : decode cX12_couples 58 = .ok (.iconst (-1), 1) := by decide +kernel
theorem dX12_couples_59 : decode cX12_couples 59 = .ok (.istore_n 3, 1) := by decide +kernel
theorem dX12_couples_60 : decode cX12_couples 60 = .ok (.iconst 0, 1) := by decide +kernel
theorem dX12_couples_61 : decode cX12_couples 61 = .ok (.istore 4, 2) := by decide +kernel
theorem dX12_couples_63 : decode cX12_couples 63 = .ok (.iload 4, 2) := by decide +kernel
theorem dX12_couples_65 : decode cX12_couples 65 = .ok (.ifCond .ne 98, 3) := by decide +kernel
theorem dX12_couples_68 : decode cX12_couples 68 = .ok (.iload_n 2, 1) := by decide +kernel
theorem dX12_couples_69 : decode cX12_couples 69 = .ok (.invokestatic 481, 3) := by decide +kernel
theorem dX12_couples_72 : decode cX12_couples 72 = .ok (.istore 5, 2) := by decide +kernel
theorem dX12_couples_74 : decode cX12_couples 74 = .ok (.iconst (-1), 1) := by decide +kernel
theorem dX12_couples_75 : decode cX12_couples 75 = .ok (.istore 6, 2) := by decide +kernel
theorem dX12_couples_77 : decode cX12_couples 77 = .ok (.aload_n 0, 1) := by decide +kernel
theorem dX12_couples_78 : decode cX12_couples 78 = .ok (.iload_n 2, 1) := by decide +kernel
theorem dX12_couples_79 : decode cX12_couples 79 = .ok (.iload 6, 2) := by decide +kernel
theorem dX12_couples_81 : decode cX12_couples 81 = .ok (.invokevirtual 487, 3) := by decide +kernel
theorem dX12_couples_84 : decode cX12_couples 84 = .ok (.aload_n 0, 1) := by decide +kernel
theorem dX12_couples_85 : decode cX12_couples 85 = .ok (.getfield 64, 3) := by decide +kernel
theorem dX12_couples_88 : decode cX12_couples 88 = .ok (.iload_n 2, 1) := by decide +kernel
theorem dX12_couples_89 : decode cX12_couples 89 = .ok (.iaload, 1) := by decide +kernel
theorem dX12_couples_90 : decode cX12_couples 90 = .ok (.if_icmp .eq 9, 3) := by decide +kernel
theorem dX12_couples_93 : decode cX12_couples 93 = .ok (.iinc 6 1, 3) := by decide +kernel
theorem dX12_couples_96 : decode cX12_couples 96 = .ok (.goto (-19), 3) := by decide +kernel
theorem dX12_couples_99 : decode cX12_couples 99 = .ok (.iload 5, 2) := by decide +kernel
theorem dX12_couples_101 : decode cX12_couples 101 = .ok (.iload_n 1, 1) := by decide +kernel
theorem dX12_couples_102 : decode cX12_couples 102 = .ok (.if_icmp .eq 9, 3) := by decide +kernel
theorem dX12_couples_105 : decode cX12_couples 105 = .ok (.iload 6, 2) := by decide +kernel
theorem dX12_couples_107 : decode cX12_couples 107 = .ok (.iload_n 1, 1) := by decide +kernel
theorem dX12_couples_108 : decode cX12_couples 108 = .ok (.if_icmp .ne 7, 3) := by decide +kernel
theorem dX12_couples_111 : decode cX12_couples 111 = .ok (.iconst 1, 1) := by decide +kernel
theorem dX12_couples_112 : decode cX12_couples 112 = .ok (.goto 4, 3) := by decide +kernel
theorem dX12_couples_115 : decode cX12_couples 115 = .ok (.iconst 0, 1) := by decide +kernel
theorem dX12_couples_116 : decode cX12_couples 116 = .ok (.istore 4, 2) := by decide +kernel
theorem dX12_couples_118 : decode cX12_couples 118 = .ok (.iload 5, 2) := by decide +kernel
theorem dX12_couples_120 : decode cX12_couples 120 = .ok (.iload_n 1, 1) := by decide +kernel
theorem dX12_couples_121 : decode cX12_couples 121 = .ok (.if_icmp .ne 8, 3) := by decide +kernel
theorem dX12_couples_124 : decode cX12_couples 124 = .ok (.iload 6, 2) := by decide +kernel
theorem dX12_couples_126 : decode cX12_couples 126 = .ok (.goto 5, 3) := by decide +kernel
theorem dX12_couples_129 : decode cX12_couples 129 = .ok (.iload 5, 2) := by decide +kernel
theorem dX12_couples_131 : decode cX12_couples 131 = .ok (.istore_n 3, 1) := by decide +kernel
theorem dX12_couples_132 : decode cX12_couples 132 = .ok (.iload_n 2, 1) := by decide +kernel
theorem dX12_couples_133 : decode cX12_couples 133 = .ok (.iconst 1, 1) := by decide +kernel
theorem dX12_couples_134 : decode cX12_couples 134 = .ok (.iload 5, 2) := by decide +kernel
theorem dX12_couples_136 : decode cX12_couples 136 = .ok (.ishl, 1) := by decide +kernel
theorem dX12_couples_137 : decode cX12_couples 137 = .ok (.iconst (-1), 1) := by decide +kernel
theorem dX12_couples_138 : decode cX12_couples 138 = .ok (.ixor, 1) := by decide +kernel
theorem dX12_couples_139 : decode cX12_couples 139 = .ok (.iand, 1) := by decide +kernel
theorem dX12_couples_140 : decode cX12_couples 140 = .ok (.istore_n 2, 1) := by decide +kernel
theorem dX12_couples_141 : decode cX12_couples 141 = .ok (.iload 6, 2) := by decide +kernel
theorem dX12_couples_143 : decode cX12_couples 143 = .ok (.iconst (-1), 1) := by decide +kernel
theorem dX12_couples_144 : decode cX12_couples 144 = .ok (.if_icmp .ne 7, 3) := by decide +kernel
theorem dX12_couples_147 : decode cX12_couples 147 = .ok (.iload_n 2, 1) := by decide +kernel
theorem dX12_couples_148 : decode cX12_couples 148 = .ok (.goto 11, 3) := by decide +kernel
theorem dX12_couples_151 : decode cX12_couples 151 = .ok (.iload_n 2, 1) := by decide +kernel
theorem dX12_couples_152 : decode cX12_couples 152 = .ok (.iconst 1, 1) := by decide +kernel
theorem dX12_couples_153 : decode cX12_couples 153 = .ok (.iload 6, 2) := by decide +kernel
theorem dX12_couples_155 : decode cX12_couples 155 = .ok (.ishl, 1) := by decide +kernel
theorem dX12_couples_156 : decode cX12_couples 156 = .ok (.iconst (-1), 1) := by decide +kernel
theorem dX12_couples_157 : decode cX12_couples 157 = .ok (.ixor, 1) := by decide +kernel
theorem dX12_couples_158 : decode cX12_couples 158 = .ok (.iand, 1) := by decide +kernel
theorem dX12_couples_159 : decode cX12_couples 159 = .ok (.istore_n 2, 1) := by decide +kernel
theorem dX12_couples_160 : decode cX12_couples 160 = .ok (.goto (-97), 3) := by decide +kernel
theorem dX12_couples_163 : decode cX12_couples 163 = .ok (.iload_n 3, 1) := by decide +kernel
theorem dX12_couples_164 : decode cX12_couples 164 = .ok (.ireturn, 1) := by decide +kernel
theorem dX12_between_0 : decode cX12_between 0 = .ok (.aload_n 0, 1) := by decide +kernel
theorem dX12_between_1 : decode cX12_between 1 = .ok (.iload_n 1, 1) := by decide +kernel
theorem dX12_between_2 : decode cX12_between 2 = .ok (.iload_n 2, 1) := by decide +kernel
theorem dX12_between_3 : decode cX12_between 3 = .ok (.invokevirtual 397, 3) := by decide +kernel
theorem dX12_between_6 : decode cX12_between 6 = .ok (.ifCond .eq 5, 3) := by decide +kernel
theorem dX12_between_9 : decode cX12_between 9 = .ok (.iconst 0, 1) := by decide +kernel
theorem dX12_between_10 : decode cX12_between 10 = .ok (.ireturn, 1) := by decide +kernel
theorem dX12_between_11 : decode cX12_between 11 = .ok (.aload_n 0, 1) := by decide +kernel
theorem dX12_between_12 : decode cX12_between 12 = .ok (.iload_n 1, 1) := by decide +kernel
theorem dX12_between_13 : decode cX12_between 13 = .ok (.iconst 4, 1) := by decide +kernel
theorem dX12_between_14 : decode cX12_between 14 = .ok (.invokevirtual 285, 3) := by decide +kernel
theorem dX12_between_17 : decode cX12_between 17 = .ok (.aload_n 0, 1) := by decide +kernel
theorem dX12_between_18 : decode cX12_between 18 = .ok (.iload_n 2, 1) := by decide +kernel
theorem dX12_between_19 : decode cX12_between 19 = .ok (.iconst 4, 1) := by decide +kernel
theorem dX12_between_20 : decode cX12_between 20 = .ok (.invokevirtual 285, 3) := by decide +kernel
theorem dX12_between_23 : decode cX12_between 23 = .ok (.invokestatic 310, 3) := by decide +kernel
theorem dX12_between_26 : decode cX12_between 26 = .ok (.istore_n 3, 1) := by decide +kernel
theorem dX12_between_27 : decode cX12_between 27 = .ok (.aload_n 0, 1) := by decide +kernel
theorem dX12_between_28 : decode cX12_between 28 = .ok (.iload_n 1, 1) := by decide +kernel
theorem dX12_between_29 : decode cX12_between 29 = .ok (.iconst 4, 1) := by decide +kernel
theorem dX12_between_30 : decode cX12_between 30 = .ok (.invokevirtual 285, 3) := by decide +kernel
theorem dX12_between_33 : decode cX12_between 33 = .ok (.aload_n 0, 1) := by decide +kernel
theorem dX12_between_34 : decode cX12_between 34 = .ok (.iload_n 2, 1) := by decide +kernel
theorem dX12_between_35 : decode cX12_between 35 = .ok (.iconst 4, 1) := by decide +kernel
theorem dX12_between_36 : decode cX12_between 36 = .ok (.invokevirtual 285, 3) := by decide +kernel
theorem dX12_between_39 : decode cX12_between 39 = .ok (.invokestatic 305, 3) := by decide +kernel
theorem dX12_between_42 : decode cX12_between 42 = .ok (.istore 4, 2) := by decide +kernel
theorem dX12_between_44 : decode cX12_between 44 = .ok (.iconst 0, 1) := by decide +kernel
theorem dX12_between_45 : decode cX12_between 45 = .ok (.istore 5, 2) := by decide +kernel
theorem dX12_between_47 : decode cX12_between 47 = .ok (.iload_n 3, 1) := by decide +kernel
theorem dX12_between_48 : decode cX12_between 48 = .ok (.iconst 1, 1) := by decide +kernel
theorem dX12_between_49 : decode cX12_between 49 = .ok (.iadd, 1) := by decide +kernel
theorem dX12_between_50 : decode cX12_between 50 = .ok (.istore 6, 2) := by decide +kernel
theorem dX12_between_52 : decode cX12_between 52 = .ok (.iload 6, 2) := by decide +kernel
theorem dX12_between_54 : decode cX12_between 54 = .ok (.iload 4, 2) := by decide +kernel
theorem dX12_between_56 : decode cX12_between 56 = .ok (.if_icmp .ge 26, 3) := by decide +kernel
theorem dX12_between_59 : decode cX12_between 59 = .ok (.iload 5, 2) := by decide +kernel
theorem dX12_between_61 : decode cX12_between 61 = .ok (.iconst 1, 1) := by decide +kernel
theorem dX12_between_62 : decode cX12_between 62 = .ok (.aload_n 0, 1) := by decide +kernel
theorem dX12_between_63 : decode cX12_between 63 = .ok (.getfield 13, 3) := by decide +kernel
theorem dX12_between_66 : decode cX12_between 66 = .ok (.bipush 24, 2) := by decide +kernel
theorem dX12_between_68 : decode cX12_between 68 = .ok (.iload 6, 2) := by decide +kernel
theorem dX12_between_70 : decode cX12_between 70 = .ok (.iadd, 1) := by decide +kernel
theorem dX12_between_71 : decode cX12_between 71 = .ok (.iaload, 1) := by decide +kernel
theorem dX12_between_72 : decode cX12_between 72 = .ok (.ishl, 1) := by decide +kernel
theorem dX12_between_73 : decode cX12_between 73 = .ok (.ior, 1) := by decide +kernel
theorem dX12_between_74 : decode cX12_between 74 = .ok (.istore 5, 2) := by decide +kernel
theorem dX12_between_76 : decode cX12_between 76 = .ok (.iinc 6 1, 3) := by decide +kernel
theorem dX12_between_79 : decode cX12_between 79 = .ok (.goto (-27), 3) := by decide +kernel
theorem dX12_between_82 : decode cX12_between 82 = .ok (.iload 5, 2) := by decide +kernel
theorem dX12_between_84 : decode cX12_between 84 = .ok (.ireturn, 1) := by decide +kernel
theorem dX12_alone_0 : decode cX12_alone 0 = .ok (.aload_n 0, 1) := by decide +kernel
theorem dX12_alone_1 : decode cX12_alone 1 = .ok (.iconst 0, 1) := by decide +kernel
theorem dX12_alone_2 : decode cX12_alone 2 = .ok (.putfield 3, 3) := by decide +kernel
theorem dX12_alone_5 : decode cX12_alone 5 = .ok (.iconst 0, 1) := by decide +kernel
theorem dX12_alone_6 : decode cX12_alone 6 = .ok (.istore_n 1, 1) := by decide +kernel
theorem dX12_alone_7 : decode cX12_alone 7 = .ok (.iconst 0, 1) := by decide +kernel
theorem dX12_alone_8 : decode cX12_alone 8 = .ok (.istore_n 2, 1) := by decide +kernel
theorem dX12_alone_9 : decode cX12_alone 9 = .ok (.iload_n 2, 1) := by decide +kernel
theorem dX12_alone_10 : decode cX12_alone 10 = .ok (.aload_n 0, 1) := by decide +kernel
theorem dX12_alone_11 : decode cX12_alone 11 = .ok (.invokevirtual 99, 3) := by decide +kernel
theorem dX12_alone_14 : decode cX12_alone 14 = .ok (.if_icmp .ge 41, 3) := by decide +kernel
theorem dX12_alone_17 : decode cX12_alone 17 = .ok (.iload_n 1, 1) := by decide +kernel
theorem dX12_alone_18 : decode cX12_alone 18 = .ok (.aload_n 0, 1) := by decide +kernel
theorem dX12_alone_19 : decode cX12_alone 19 = .ok (.getfield 13, 3) := by decide +kernel
theorem dX12_alone_22 : decode cX12_alone 22 = .ok (.bipush 12, 2) := by decide +kernel
theorem dX12_alone_24 : decode cX12_alone 24 = .ok (.iload_n 2, 1) := by decide +kernel
theorem dX12_alone_25 : decode cX12_alone 25 = .ok (.iadd, 1) := by decide +kernel
theorem dX12_alone_26 : decode cX12_alone 26 = .ok (.iaload, 1) := by decide +kernel
theorem dX12_alone_27 : decode cX12_alone 27 = .ok (.invokestatic 443, 3) := by decide +kernel
theorem dX12_alone_30 : decode cX12_alone 30 = .ok (.iconst 1, 1) := by decide +kernel
theorem dX12_alone_31 : decode cX12_alone 31 = .ok (.if_icmp .ne 15, 3) := by decide +kernel
theorem dX12_alone_34 : decode cX12_alone 34 = .ok (.aload_n 0, 1) := by decide +kernel
theorem dX12_alone_35 : decode cX12_alone 35 = .ok (.getfield 13, 3) := by decide +kernel
theorem dX12_alone_38 : decode cX12_alone 38 = .ok (.bipush 12, 2) := by decide +kernel
theorem dX12_alone_40 : decode cX12_alone 40 = .ok (.iload_n 2, 1) := by decide +kernel
theorem dX12_alone_41 : decode cX12_alone 41 = .ok (.iadd, 1) := by decide +kernel
theorem dX12_alone_42 : decode cX12_alone 42 = .ok (.iaload, 1) := by decide +kernel
theorem dX12_alone_43 : decode cX12_alone 43 = .ok (.goto 4, 3) := by decide +kernel
theorem dX12_alone_46 : decode cX12_alone 46 = .ok (.iconst 0, 1) := by decide +kernel
theorem dX12_alone_47 : decode cX12_alone 47 = .ok (.ior, 1) := by decide +kernel
theorem dX12_alone_48 : decode cX12_alone 48 = .ok (.istore_n 1, 1) := by decide +kernel
theorem dX12_alone_49 : decode cX12_alone 49 = .ok (.iinc 2 1, 3) := by decide +kernel
theorem dX12_alone_52 : decode cX12_alone 52 = .ok (.goto (-43), 3) := by decide +kernel
theorem dX12_alone_55 : decode cX12_alone 55 = .ok (.iload_n 1, 1) := by decide +kernel
theorem dX12_alone_56 : decode cX12_alone 56 = .ok (.ireturn, 1) := by decide +kernel
theorem dX12_witnessHas_0 : decode cX12_witnessHas 0 = .ok (.iload_n 3, 1) := by decide +kernel
theorem dX12_witnessHas_1 : decode cX12_witnessHas 1 = .ok (.ifCond .ne 20, 3) := by decide +kernel
theorem dX12_witnessHas_4 : decode cX12_witnessHas 4 = .ok (.iload 4, 2) := by decide +kernel
theorem dX12_witnessHas_6 : decode cX12_witnessHas 6 = .ok (.ifCond .ne 13, 3) := by decide +kernel
theorem dX12_witnessHas_9 : decode cX12_witnessHas 9 = .ok (.aload_n 0, 1) := by decide +kernel
theorem dX12_witnessHas_10 : decode cX12_witnessHas 10 = .ok (.iload_n 1, 1) := by decide +kernel
theorem dX12_witnessHas_11 : decode cX12_witnessHas 11 = .ok (.iconst 1, 1) := by decide +kernel
theorem dX12_witnessHas_12 : decode cX12_witnessHas 12 = .ok (.invokevirtual 285, 3) := by decide +kernel
theorem dX12_witnessHas_15 : decode cX12_witnessHas 15 = .ok (.ineg, 1) := by decide +kernel
theorem dX12_witnessHas_16 : decode cX12_witnessHas 16 = .ok (.goto 4, 3) := by decide +kernel
theorem dX12_witnessHas_19 : decode cX12_witnessHas 19 = .ok (.iconst 1, 1) := by decide +kernel
theorem dX12_witnessHas_20 : decode cX12_witnessHas 20 = .ok (.ireturn, 1) := by decide +kernel
theorem dX12_witnessHas_21 : decode cX12_witnessHas 21 = .ok (.iload 4, 2) := by decide +kernel
theorem dX12_witnessHas_23 : decode cX12_witnessHas 23 = .ok (.ifCond .ne 10, 3) := by decide +kernel
theorem dX12_witnessHas_26 : decode cX12_witnessHas 26 = .ok (.iload_n 2, 1) := by decide +kernel
theorem dX12_witnessHas_27 : decode cX12_witnessHas 27 = .ok (.iconst 5, 1) := by decide +kernel
theorem dX12_witnessHas_28 : decode cX12_witnessHas 28 = .ok (.idiv, 1) := by decide +kernel
theorem dX12_witnessHas_29 : decode cX12_witnessHas 29 = .ok (.ineg, 1) := by decide +kernel
theorem dX12_witnessHas_30 : decode cX12_witnessHas 30 = .ok (.goto 4, 3) := by decide +kernel
theorem dX12_witnessHas_33 : decode cX12_witnessHas 33 = .ok (.iconst 0, 1) := by decide +kernel
theorem dX12_witnessHas_34 : decode cX12_witnessHas 34 = .ok (.ireturn, 1) := by decide +kernel
theorem dX12_courtHas_0 : decode cX12_courtHas 0 = .ok (.iload_n 2, 1) := by decide +kernel
theorem dX12_courtHas_1 : decode cX12_courtHas 1 = .ok (.ifCond .ne 13, 3) := by decide +kernel
theorem dX12_courtHas_4 : decode cX12_courtHas 4 = .ok (.iload_n 3, 1) := by decide +kernel
theorem dX12_courtHas_5 : decode cX12_courtHas 5 = .ok (.ifCond .ne 7, 3) := by decide +kernel
theorem dX12_courtHas_8 : decode cX12_courtHas 8 = .ok (.iconst 4, 1) := by decide +kernel
theorem dX12_courtHas_9 : decode cX12_courtHas 9 = .ok (.goto 4, 3) := by decide +kernel
theorem dX12_courtHas_12 : decode cX12_courtHas 12 = .ok (.iconst 2, 1) := by decide +kernel
theorem dX12_courtHas_13 : decode cX12_courtHas 13 = .ok (.ireturn, 1) := by decide +kernel
theorem dX12_courtHas_14 : decode cX12_courtHas 14 = .ok (.iload_n 3, 1) := by decide +kernel
theorem dX12_courtHas_15 : decode cX12_courtHas 15 = .ok (.ifCond .ne 9, 3) := by decide +kernel
theorem dX12_courtHas_18 : decode cX12_courtHas 18 = .ok (.iload_n 1, 1) := by decide +kernel
theorem dX12_courtHas_19 : decode cX12_courtHas 19 = .ok (.iconst 2, 1) := by decide +kernel
theorem dX12_courtHas_20 : decode cX12_courtHas 20 = .ok (.isub, 1) := by decide +kernel
theorem dX12_courtHas_21 : decode cX12_courtHas 21 = .ok (.goto 4, 3) := by decide +kernel
theorem dX12_courtHas_24 : decode cX12_courtHas 24 = .ok (.iconst 0, 1) := by decide +kernel
theorem dX12_courtHas_25 : decode cX12_courtHas 25 = .ok (.ireturn, 1) := by decide +kernel
theorem dX12_rests_0 : decode cX12_rests 0 = .ok (.aload_n 0, 1) := by decide +kernel
theorem dX12_rests_1 : decode cX12_rests 1 = .ok (.iconst 0, 1) := by decide +kernel
theorem dX12_rests_2 : decode cX12_rests 2 = .ok (.putfield 3, 3) := by decide +kernel
theorem dX12_rests_5 : decode cX12_rests 5 = .ok (.aload_n 0, 1) := by decide +kernel
theorem dX12_rests_6 : decode cX12_rests 6 = .ok (.aload_n 0, 1) := by decide +kernel
theorem dX12_rests_7 : decode cX12_rests 7 = .ok (.iload_n 1, 1) := by decide +kernel
theorem dX12_rests_8 : decode cX12_rests 8 = .ok (.invokevirtual 370, 3) := by decide +kernel
theorem dX12_rests_11 : decode cX12_rests 11 = .ok (.ifCond .ne 11, 3) := by decide +kernel
theorem dX12_rests_14 : decode cX12_rests 14 = .ok (.aload_n 0, 1) := by decide +kernel
theorem dX12_rests_15 : decode cX12_rests 15 = .ok (.iload_n 2, 1) := by decide +kernel
theorem dX12_rests_16 : decode cX12_rests 16 = .ok (.invokevirtual 391, 3) := by decide +kernel
theorem dX12_rests_19 : decode cX12_rests 19 = .ok (.ifCond .eq 7, 3) := by decide +kernel
theorem dX12_rests_22 : decode cX12_rests 22 = .ok (.iconst 1, 1) := by decide +kernel
theorem dX12_rests_23 : decode cX12_rests 23 = .ok (.goto 4, 3) := by decide +kernel
theorem dX12_rests_26 : decode cX12_rests 26 = .ok (.iconst 0, 1) := by decide +kernel
theorem dX12_rests_27 : decode cX12_rests 27 = .ok (.iconst 1, 1) := by decide +kernel
theorem dX12_rests_28 : decode cX12_rests 28 = .ok (.invokevirtual 282, 3) := by decide +kernel
theorem dX12_rests_31 : decode cX12_rests 31 = .ok (.ifCond .eq 5, 3) := by decide +kernel
theorem dX12_rests_34 : decode cX12_rests 34 = .ok (.iconst 0, 1) := by decide +kernel
theorem dX12_rests_35 : decode cX12_rests 35 = .ok (.ireturn, 1) := by decide +kernel
theorem dX12_rests_36 : decode cX12_rests 36 = .ok (.aload_n 0, 1) := by decide +kernel
theorem dX12_rests_37 : decode cX12_rests 37 = .ok (.iload_n 2, 1) := by decide +kernel
theorem dX12_rests_38 : decode cX12_rests 38 = .ok (.iload_n 1, 1) := by decide +kernel
theorem dX12_rests_39 : decode cX12_rests 39 = .ok (.invokevirtual 364, 3) := by decide +kernel
theorem dX12_rests_42 : decode cX12_rests 42 = .ok (.istore_n 3, 1) := by decide +kernel
theorem dX12_rests_43 : decode cX12_rests 43 = .ok (.aload_n 0, 1) := by decide +kernel
theorem dX12_rests_44 : decode cX12_rests 44 = .ok (.iload_n 1, 1) := by decide +kernel
theorem dX12_rests_45 : decode cX12_rests 45 = .ok (.aload_n 0, 1) := by decide +kernel
theorem dX12_rests_46 : decode cX12_rests 46 = .ok (.iload_n 2, 1) := by decide +kernel
theorem dX12_rests_47 : decode cX12_rests 47 = .ok (.invokevirtual 322, 3) := by decide +kernel
theorem dX12_rests_50 : decode cX12_rests 50 = .ok (.invokevirtual 288, 3) := by decide +kernel
theorem dX12_rests_53 : decode cX12_rests 53 = .ok (.istore 4, 2) := by decide +kernel
theorem dX12_rests_55 : decode cX12_rests 55 = .ok (.iconst 0, 1) := by decide +kernel
theorem dX12_rests_56 : decode cX12_rests 56 = .ok (.istore 5, 2) := by decide +kernel
theorem dX12_rests_58 : decode cX12_rests 58 = .ok (.iconst 0, 1) := by decide +kernel
theorem dX12_rests_59 : decode cX12_rests 59 = .ok (.istore 6, 2) := by decide +kernel
theorem dX12_rests_61 : decode cX12_rests 61 = .ok (.iload 6, 2) := by decide +kernel
theorem dX12_rests_63 : decode cX12_rests 63 = .ok (.iconst 2, 1) := by decide +kernel
theorem dX12_rests_64 : decode cX12_rests 64 = .ok (.if_icmp .ge 92, 3) := by decide +kernel
theorem dX12_rests_67 : decode cX12_rests 67 = .ok (.iconst 0, 1) := by decide +kernel
theorem dX12_rests_68 : decode cX12_rests 68 = .ok (.istore 7, 2) := by decide +kernel
theorem dX12_rests_70 : decode cX12_rests 70 = .ok (.iload 7, 2) := by decide +kernel
theorem dX12_rests_72 : decode cX12_rests 72 = .ok (.iconst 2, 1) := by decide +kernel
theorem dX12_rests_73 : decode cX12_rests 73 = .ok (.if_icmp .ge 77, 3) := by decide +kernel
theorem dX12_rests_76 : decode cX12_rests 76 = .ok (.iload 5, 2) := by decide +kernel
theorem dX12_rests_78 : decode cX12_rests 78 = .ok (.aload_n 0, 1) := by decide +kernel
theorem dX12_rests_79 : decode cX12_rests 79 = .ok (.iload_n 1, 1) := by decide +kernel
theorem dX12_rests_80 : decode cX12_rests 80 = .ok (.iload_n 3, 1) := by decide +kernel
theorem dX12_rests_81 : decode cX12_rests 81 = .ok (.iload 6, 2) := by decide +kernel
theorem dX12_rests_83 : decode cX12_rests 83 = .ok (.iload 7, 2) := by decide +kernel
theorem dX12_rests_85 : decode cX12_rests 85 = .ok (.invokevirtual 493, 3) := by decide +kernel
theorem dX12_rests_88 : decode cX12_rests 88 = .ok (.aload_n 0, 1) := by decide +kernel
theorem dX12_rests_89 : decode cX12_rests 89 = .ok (.iload_n 1, 1) := by decide +kernel
theorem dX12_rests_90 : decode cX12_rests 90 = .ok (.iload_n 3, 1) := by decide +kernel
theorem dX12_rests_91 : decode cX12_rests 91 = .ok (.iconst 1, 1) := by decide +kernel
theorem dX12_rests_92 : decode cX12_rests 92 = .ok (.iload 6, 2) := by decide +kernel
theorem dX12_rests_94 : decode cX12_rests 94 = .ok (.isub, 1) := by decide +kernel
theorem dX12_rests_95 : decode cX12_rests 95 = .ok (.iload 7, 2) := by decide +kernel
theorem dX12_rests_97 : decode cX12_rests 97 = .ok (.invokevirtual 493, 3) := by decide +kernel
theorem dX12_rests_100 : decode cX12_rests 100 = .ok (.if_icmp .lt 40, 3) := by decide +kernel
theorem dX12_rests_103 : decode cX12_rests 103 = .ok (.aload_n 0, 1) := by decide +kernel
theorem dX12_rests_104 : decode cX12_rests 104 = .ok (.iload 4, 2) := by decide +kernel
theorem dX12_rests_106 : decode cX12_rests 106 = .ok (.iload 6, 2) := by decide +kernel
theorem dX12_rests_108 : decode cX12_rests 108 = .ok (.iload 7, 2) := by decide +kernel
theorem dX12_rests_110 : decode cX12_rests 110 = .ok (.invokevirtual 496, 3) := by decide +kernel
theorem dX12_rests_113 : decode cX12_rests 113 = .ok (.aload_n 0, 1) := by decide +kernel
theorem dX12_rests_114 : decode cX12_rests 114 = .ok (.iload 4, 2) := by decide +kernel
theorem dX12_rests_116 : decode cX12_rests 116 = .ok (.iload 6, 2) := by decide +kernel
theorem dX12_rests_118 : decode cX12_rests 118 = .ok (.iconst 1, 1) := by decide +kernel
theorem dX12_rests_119 : decode cX12_rests 119 = .ok (.iload 7, 2) := by decide +kernel
theorem dX12_rests_121 : decode cX12_rests 121 = .ok (.isub, 1) := by decide +kernel
theorem dX12_rests_122 : decode cX12_rests 122 = .ok (.invokevirtual 496, 3) := by decide +kernel
theorem dX12_rests_125 : decode cX12_rests 125 = .ok (.if_icmp .lt 15, 3) := by decide +kernel
theorem dX12_rests_128 : decode cX12_rests 128 = .ok (.iconst 1, 1) := by decide +kernel
theorem dX12_rests_129 : decode cX12_rests 129 = .ok (.iconst 2, 1) := by decide +kernel
theorem dX12_rests_130 : decode cX12_rests 130 = .ok (.iload 6, 2) := by decide +kernel
theorem dX12_rests_132 : decode cX12_rests 132 = .ok (.imul, 1) := by decide +kernel
theorem dX12_rests_133 : decode cX12_rests 133 = .ok (.iload 7, 2) := by decide +kernel
theorem dX12_rests_135 : decode cX12_rests 135 = .ok (.iadd, 1) := by decide +kernel
theorem dX12_rests_136 : decode cX12_rests 136 = .ok (.ishl, 1) := by decide +kernel
theorem dX12_rests_137 : decode cX12_rests 137 = .ok (.goto 4, 3) := by decide +kernel
theorem dX12_rests_140 : decode cX12_rests 140 = .ok (.iconst 0, 1) := by decide +kernel
theorem dX12_rests_141 : decode cX12_rests 141 = .ok (.ior, 1) := by decide +kernel
theorem dX12_rests_142 : decode cX12_rests 142 = .ok (.istore 5, 2) := by decide +kernel
theorem dX12_rests_144 : decode cX12_rests 144 = .ok (.iinc 7 1, 3) := by decide +kernel
theorem dX12_rests_147 : decode cX12_rests 147 = .ok (.goto (-77), 3) := by decide +kernel
theorem dX12_rests_150 : decode cX12_rests 150 = .ok (.iinc 6 1, 3) := by decide +kernel
theorem dX12_rests_153 : decode cX12_rests 153 = .ok (.goto (-92), 3) := by decide +kernel
theorem dX12_rests_156 : decode cX12_rests 156 = .ok (.iload 5, 2) := by decide +kernel
theorem dX12_rests_158 : decode cX12_rests 158 = .ok (.ireturn, 1) := by decide +kernel
theorem dX12_odds_0 : decode cX12_odds 0 = .ok (.aload_n 0, 1) := by decide +kernel
theorem dX12_odds_1 : decode cX12_odds 1 = .ok (.iconst 0, 1) := by decide +kernel
theorem dX12_odds_2 : decode cX12_odds 2 = .ok (.putfield 3, 3) := by decide +kernel
theorem dX12_odds_5 : decode cX12_odds 5 = .ok (.aload_n 0, 1) := by decide +kernel
theorem dX12_odds_6 : decode cX12_odds 6 = .ok (.iload_n 1, 1) := by decide +kernel
theorem dX12_odds_7 : decode cX12_odds 7 = .ok (.iconst 0, 1) := by decide +kernel
theorem dX12_odds_8 : decode cX12_odds 8 = .ok (.iconst 5, 1) := by decide +kernel
theorem dX12_odds_9 : decode cX12_odds 9 = .ok (.invokestatic 95, 3) := by decide +kernel
theorem dX12_odds_12 : decode cX12_odds 12 = .ok (.ifCond .eq 12, 3) := by decide +kernel
theorem dX12_odds_15 : decode cX12_odds 15 = .ok (.iload_n 2, 1) := by decide +kernel
theorem dX12_odds_16 : decode cX12_odds 16 = .ok (.iconst 0, 1) := by decide +kernel
theorem dX12_odds_17 : decode cX12_odds 17 = .ok (.iconst 5, 1) := by decide +kernel
theorem dX12_odds_18 : decode cX12_odds 18 = .ok (.invokestatic 95, 3) := by decide +kernel
theorem dX12_odds_21 : decode cX12_odds 21 = .ok (.ifCond .ne 7, 3) := by decide +kernel
theorem dX12_odds_24 : decode cX12_odds 24 = .ok (.iconst 1, 1) := by decide +kernel
theorem dX12_odds_25 : decode cX12_odds 25 = .ok (.goto 4, 3) := by decide +kernel
theorem dX12_odds_28 : decode cX12_odds 28 = .ok (.iconst 0, 1) := by decide +kernel
theorem dX12_odds_29 : decode cX12_odds 29 = .ok (.iconst 1, 1) := by decide +kernel
theorem dX12_odds_30 : decode cX12_odds 30 = .ok (.invokevirtual 282, 3) := by decide +kernel
theorem dX12_odds_33 : decode cX12_odds 33 = .ok (.ifCond .eq 5, 3) := by decide +kernel
theorem dX12_odds_36 : decode cX12_odds 36 = .ok (.iconst 0, 1) := by decide +kernel
theorem dX12_odds_37 : decode cX12_odds 37 = .ok (.ireturn, 1) := by decide +kernel
theorem dX12_odds_38 : decode cX12_odds 38 = .ok (.lconst 1, 1) := by decide +kernel
theorem dX12_odds_39 : decode cX12_odds 39 = .ok (.lstore_n 3, 1) := by decide +kernel
theorem dX12_odds_40 : decode cX12_odds 40 = .ok (.iconst 0, 1) := by decide +kernel
theorem dX12_odds_41 : decode cX12_odds 41 = .ok (.istore 5, 2) := by decide +kernel
theorem dX12_odds_43 : decode cX12_odds 43 = .ok (.iload 5, 2) := by decide +kernel
theorem dX12_odds_45 : decode cX12_odds 45 = .ok (.iconst 5, 1) := by decide +kernel
theorem dX12_odds_46 : decode cX12_odds 46 = .ok (.if_icmp .gt 26, 3) := by decide +kernel
theorem dX12_odds_49 : decode cX12_odds 49 = .ok (.aload_n 0, 1) := by decide +kernel
theorem dX12_odds_50 : decode cX12_odds 50 = .ok (.getfield 67, 3) := by decide +kernel
theorem dX12_odds_53 : decode cX12_odds 53 = .ok (.iload 5, 2) := by decide +kernel
theorem dX12_odds_55 : decode cX12_odds 55 = .ok (.iload 5, 2) := by decide +kernel
theorem dX12_odds_57 : decode cX12_odds 57 = .ok (.ifCond .ne 7, 3) := by decide +kernel
theorem dX12_odds_60 : decode cX12_odds 60 = .ok (.lconst 1, 1) := by decide +kernel
theorem dX12_odds_61 : decode cX12_odds 61 = .ok (.goto 4, 3) := by decide +kernel
theorem dX12_odds_64 : decode cX12_odds 64 = .ok (.lconst 0, 1) := by decide +kernel
theorem dX12_odds_65 : decode cX12_odds 65 = .ok (.lastore, 1) := by decide +kernel
theorem dX12_odds_66 : decode cX12_odds 66 = .ok (.iinc 5 1, 3) := by decide +kernel
theorem dX12_odds_69 : decode cX12_odds 69 = .ok (.goto (-26), 3) := by decide +kernel
theorem dX12_odds_72 : decode cX12_odds 72 = .ok (.iconst 0, 1) := by decide +kernel
theorem dX12_odds_73 : decode cX12_odds 73 = .ok (.istore 5, 2) := by decide +kernel
theorem dX12_odds_75 : decode cX12_odds 75 = .ok (.iload 5, 2) := by decide +kernel
theorem dX12_odds_77 : decode cX12_odds 77 = .ok (.iload_n 1, 1) := by decide +kernel
theorem dX12_odds_78 : decode cX12_odds 78 = .ok (.if_icmp .ge 83, 3) := by decide +kernel
theorem dX12_odds_81 : decode cX12_odds 81 = .ok (.iconst 5, 1) := by decide +kernel
theorem dX12_odds_82 : decode cX12_odds 82 = .ok (.istore 6, 2) := by decide +kernel
theorem dX12_odds_84 : decode cX12_odds 84 = .ok (.iload 6, 2) := by decide +kernel
theorem dX12_odds_86 : decode cX12_odds 86 = .ok (.ifCond .lt 63, 3) := by decide +kernel
theorem dX12_odds_89 : decode cX12_odds 89 = .ok (.aload_n 0, 1) := by decide +kernel
theorem dX12_odds_90 : decode cX12_odds 90 = .ok (.getfield 67, 3) := by decide +kernel
theorem dX12_odds_93 : decode cX12_odds 93 = .ok (.iload 6, 2) := by decide +kernel
theorem dX12_odds_95 : decode cX12_odds 95 = .ok (.aload_n 0, 1) := by decide +kernel
theorem dX12_odds_96 : decode cX12_odds 96 = .ok (.getfield 67, 3) := by decide +kernel
theorem dX12_odds_99 : decode cX12_odds 99 = .ok (.iload 6, 2) := by decide +kernel
theorem dX12_odds_101 : decode cX12_odds 101 = .ok (.laload, 1) := by decide +kernel
theorem dX12_odds_102 : decode cX12_odds 102 = .ok (.bipush 100, 2) := by decide +kernel
theorem dX12_odds_104 : decode cX12_odds 104 = .ok (.aload_n 0, 1) := by decide +kernel
theorem dX12_odds_105 : decode cX12_odds 105 = .ok (.getfield 13, 3) := by decide +kernel
theorem dX12_odds_108 : decode cX12_odds 108 = .ok (.bipush 8, 2) := by decide +kernel
theorem dX12_odds_110 : decode cX12_odds 110 = .ok (.iaload, 1) := by decide +kernel
theorem dX12_odds_111 : decode cX12_odds 111 = .ok (.isub, 1) := by decide +kernel
theorem dX12_odds_112 : decode cX12_odds 112 = .ok (.i2l, 1) := by decide +kernel
theorem dX12_odds_113 : decode cX12_odds 113 = .ok (.lmul, 1) := by decide +kernel
theorem dX12_odds_114 : decode cX12_odds 114 = .ok (.iload 6, 2) := by decide +kernel
theorem dX12_odds_116 : decode cX12_odds 116 = .ok (.ifCond .ne 7, 3) := by decide +kernel
theorem dX12_odds_119 : decode cX12_odds 119 = .ok (.lconst 0, 1) := by decide +kernel
theorem dX12_odds_120 : decode cX12_odds 120 = .ok (.goto 21, 3) := by decide +kernel
theorem dX12_odds_123 : decode cX12_odds 123 = .ok (.aload_n 0, 1) := by decide +kernel
theorem dX12_odds_124 : decode cX12_odds 124 = .ok (.getfield 67, 3) := by decide +kernel
theorem dX12_odds_127 : decode cX12_odds 127 = .ok (.iload 6, 2) := by decide +kernel
theorem dX12_odds_129 : decode cX12_odds 129 = .ok (.iconst 1, 1) := by decide +kernel
theorem dX12_odds_130 : decode cX12_odds 130 = .ok (.isub, 1) := by decide +kernel
theorem dX12_odds_131 : decode cX12_odds 131 = .ok (.laload, 1) := by decide +kernel
theorem dX12_odds_132 : decode cX12_odds 132 = .ok (.aload_n 0, 1) := by decide +kernel
theorem dX12_odds_133 : decode cX12_odds 133 = .ok (.getfield 13, 3) := by decide +kernel
theorem dX12_odds_136 : decode cX12_odds 136 = .ok (.bipush 8, 2) := by decide +kernel
theorem dX12_odds_138 : decode cX12_odds 138 = .ok (.iaload, 1) := by decide +kernel
theorem dX12_odds_139 : decode cX12_odds 139 = .ok (.i2l, 1) := by decide +kernel
theorem dX12_odds_140 : decode cX12_odds 140 = .ok (.lmul, 1) := by decide +kernel
theorem dX12_odds_141 : decode cX12_odds 141 = .ok (.ladd, 1) := by decide +kernel
theorem dX12_odds_142 : decode cX12_odds 142 = .ok (.lastore, 1) := by decide +kernel
theorem dX12_odds_143 : decode cX12_odds 143 = .ok (.iinc 6 (-1), 3) := by decide +kernel
theorem dX12_odds_146 : decode cX12_odds 146 = .ok (.goto (-62), 3) := by decide +kernel
theorem dX12_odds_149 : decode cX12_odds 149 = .ok (.lload_n 3, 1) := by decide +kernel
theorem dX12_odds_150 : decode cX12_odds 150 = .ok (.ldc2_w 499, 3) := by decide +kernel
theorem dX12_odds_153 : decode cX12_odds 153 = .ok (.lmul, 1) := by decide +kernel
theorem dX12_odds_154 : decode cX12_odds 154 = .ok (.lstore_n 3, 1) := by decide +kernel
theorem dX12_odds_155 : decode cX12_odds 155 = .ok (.iinc 5 1, 3) := by decide +kernel
theorem dX12_odds_158 : decode cX12_odds 158 = .ok (.goto (-83), 3) := by decide +kernel
theorem dX12_odds_161 : decode cX12_odds 161 = .ok (.lconst 0, 1) := by decide +kernel
theorem dX12_odds_162 : decode cX12_odds 162 = .ok (.lstore 5, 2) := by decide +kernel
theorem dX12_odds_164 : decode cX12_odds 164 = .ok (.iload_n 2, 1) := by decide +kernel
theorem dX12_odds_165 : decode cX12_odds 165 = .ok (.istore 7, 2) := by decide +kernel
theorem dX12_odds_167 : decode cX12_odds 167 = .ok (.iload 7, 2) := by decide +kernel
theorem dX12_odds_169 : decode cX12_odds 169 = .ok (.iconst 5, 1) := by decide +kernel
theorem dX12_odds_170 : decode cX12_odds 170 = .ok (.if_icmp .gt 21, 3) := by decide +kernel
theorem dX12_odds_173 : decode cX12_odds 173 = .ok (.lload 5, 2) := by decide +kernel
theorem dX12_odds_175 : decode cX12_odds 175 = .ok (.aload_n 0, 1) := by decide +kernel
theorem dX12_odds_176 : decode cX12_odds 176 = .ok (.getfield 67, 3) := by decide +kernel
theorem dX12_odds_179 : decode cX12_odds 179 = .ok (.iload 7, 2) := by decide +kernel
theorem dX12_odds_181 : decode cX12_odds 181 = .ok (.laload, 1) := by decide +kernel
theorem dX12_odds_182 : decode cX12_odds 182 = .ok (.ladd, 1) := by decide +kernel
theorem dX12_odds_183 : decode cX12_odds 183 = .ok (.lstore 5, 2) := by decide +kernel
theorem dX12_odds_185 : decode cX12_odds 185 = .ok (.iinc 7 1, 3) := by decide +kernel
theorem dX12_odds_188 : decode cX12_odds 188 = .ok (.goto (-21), 3) := by decide +kernel
theorem dX12_odds_191 : decode cX12_odds 191 = .ok (.ldc2_w 501, 3) := by decide +kernel
theorem dX12_odds_194 : decode cX12_odds 194 = .ok (.lload 5, 2) := by decide +kernel
theorem dX12_odds_196 : decode cX12_odds 196 = .ok (.lmul, 1) := by decide +kernel
theorem dX12_odds_197 : decode cX12_odds 197 = .ok (.lload_n 3, 1) := by decide +kernel
theorem dX12_odds_198 : decode cX12_odds 198 = .ok (.ldiv, 1) := by decide +kernel
theorem dX12_odds_199 : decode cX12_odds 199 = .ok (.l2i, 1) := by decide +kernel
theorem dX12_odds_200 : decode cX12_odds 200 = .ok (.ireturn, 1) := by decide +kernel
theorem dX12_weightiest_0 : decode cX12_weightiest 0 = .ok (.aload_n 0, 1) := by decide +kernel
theorem dX12_weightiest_1 : decode cX12_weightiest 1 = .ok (.iconst 0, 1) := by decide +kernel
theorem dX12_weightiest_2 : decode cX12_weightiest 2 = .ok (.putfield 3, 3) := by decide +kernel
theorem dX12_weightiest_5 : decode cX12_weightiest 5 = .ok (.iconst (-1), 1) := by decide +kernel
theorem dX12_weightiest_6 : decode cX12_weightiest 6 = .ok (.istore_n 1, 1) := by decide +kernel
theorem dX12_weightiest_7 : decode cX12_weightiest 7 = .ok (.iconst 0, 1) := by decide +kernel
theorem dX12_weightiest_8 : decode cX12_weightiest 8 = .ok (.istore_n 2, 1) := by decide +kernel
theorem dX12_weightiest_9 : decode cX12_weightiest 9 = .ok (.iload_n 2, 1) := by decide +kernel
theorem dX12_weightiest_10 : decode cX12_weightiest 10 = .ok (.aload_n 0, 1) := by decide +kernel
theorem dX12_weightiest_11 : decode cX12_weightiest 11 = .ok (.invokevirtual 85, 3) := by decide +kernel
theorem dX12_weightiest_14 : decode cX12_weightiest 14 = .ok (.if_icmp .ge 31, 3) := by decide +kernel
theorem dX12_weightiest_17 : decode cX12_weightiest 17 = .ok (.iload_n 1, 1) := by decide +kernel
theorem dX12_weightiest_18 : decode cX12_weightiest 18 = .ok (.iconst (-1), 1) := by decide +kernel
theorem dX12_weightiest_19 : decode cX12_weightiest 19 = .ok (.if_icmp .eq 18, 3) := by decide +kernel
theorem dX12_weightiest_22 : decode cX12_weightiest 22 = .ok (.aload_n 0, 1) := by decide +kernel
theorem dX12_weightiest_23 : decode cX12_weightiest 23 = .ok (.iload_n 2, 1) := by decide +kernel
theorem dX12_weightiest_24 : decode cX12_weightiest 24 = .ok (.iconst 0, 1) := by decide +kernel
theorem dX12_weightiest_25 : decode cX12_weightiest 25 = .ok (.invokevirtual 89, 3) := by decide +kernel
theorem dX12_weightiest_28 : decode cX12_weightiest 28 = .ok (.aload_n 0, 1) := by decide +kernel
theorem dX12_weightiest_29 : decode cX12_weightiest 29 = .ok (.iload_n 1, 1) := by decide +kernel
theorem dX12_weightiest_30 : decode cX12_weightiest 30 = .ok (.iconst 0, 1) := by decide +kernel
theorem dX12_weightiest_31 : decode cX12_weightiest 31 = .ok (.invokevirtual 89, 3) := by decide +kernel
theorem dX12_weightiest_34 : decode cX12_weightiest 34 = .ok (.if_icmp .le 5, 3) := by decide +kernel
theorem dX12_weightiest_37 : decode cX12_weightiest 37 = .ok (.iload_n 2, 1) := by decide +kernel
theorem dX12_weightiest_38 : decode cX12_weightiest 38 = .ok (.istore_n 1, 1) := by decide +kernel
theorem dX12_weightiest_39 : decode cX12_weightiest 39 = .ok (.iinc 2 1, 3) := by decide +kernel
theorem dX12_weightiest_42 : decode cX12_weightiest 42 = .ok (.goto (-33), 3) := by decide +kernel
theorem dX12_weightiest_45 : decode cX12_weightiest 45 = .ok (.iload_n 1, 1) := by decide +kernel
theorem dX12_weightiest_46 : decode cX12_weightiest 46 = .ok (.ireturn, 1) := by decide +kernel
theorem dX12_twins_0 : decode cX12_twins 0 = .ok (.aload_n 0, 1) := by decide +kernel
theorem dX12_twins_1 : decode cX12_twins 1 = .ok (.iconst 0, 1) := by decide +kernel
theorem dX12_twins_2 : decode cX12_twins 2 = .ok (.putfield 3, 3) := by decide +kernel
theorem dX12_twins_5 : decode cX12_twins 5 = .ok (.iconst 0, 1) := by decide +kernel
theorem dX12_twins_6 : decode cX12_twins 6 = .ok (.istore_n 1, 1) := by decide +kernel
theorem dX12_twins_7 : decode cX12_twins 7 = .ok (.iconst 0, 1) := by decide +kernel
theorem dX12_twins_8 : decode cX12_twins 8 = .ok (.istore_n 2, 1) := by decide +kernel
theorem dX12_twins_9 : decode cX12_twins 9 = .ok (.iload_n 2, 1) := by decide +kernel
theorem dX12_twins_10 : decode cX12_twins 10 = .ok (.aload_n 0, 1) := by decide +kernel
theorem dX12_twins_11 : decode cX12_twins 11 = .ok (.invokevirtual 92, 3) := by decide +kernel
theorem dX12_twins_14 : decode cX12_twins 14 = .ok (.if_icmp .ge 60, 3) := by decide +kernel
theorem dX12_twins_17 : decode cX12_twins 17 = .ok (.iconst 0, 1) := by decide +kernel
theorem dX12_twins_18 : decode cX12_twins 18 = .ok (.istore_n 3, 1) := by decide +kernel
theorem dX12_twins_19 : decode cX12_twins 19 = .ok (.iload_n 3, 1) := by decide +kernel
theorem dX12_twins_20 : decode cX12_twins 20 = .ok (.iload_n 2, 1) := by decide +kernel
theorem dX12_twins_21 : decode cX12_twins 21 = .ok (.if_icmp .ge 47, 3) := by decide +kernel
theorem dX12_twins_24 : decode cX12_twins 24 = .ok (.iload_n 1, 1) := by decide +kernel
theorem dX12_twins_25 : decode cX12_twins 25 = .ok (.aload_n 0, 1) := by decide +kernel
theorem dX12_twins_26 : decode cX12_twins 26 = .ok (.iload_n 2, 1) := by decide +kernel
theorem dX12_twins_27 : decode cX12_twins 27 = .ok (.iconst 0, 1) := by decide +kernel
theorem dX12_twins_28 : decode cX12_twins 28 = .ok (.invokevirtual 285, 3) := by decide +kernel
theorem dX12_twins_31 : decode cX12_twins 31 = .ok (.aload_n 0, 1) := by decide +kernel
theorem dX12_twins_32 : decode cX12_twins 32 = .ok (.iload_n 3, 1) := by decide +kernel
theorem dX12_twins_33 : decode cX12_twins 33 = .ok (.iconst 0, 1) := by decide +kernel
theorem dX12_twins_34 : decode cX12_twins 34 = .ok (.invokevirtual 285, 3) := by decide +kernel
theorem dX12_twins_37 : decode cX12_twins 37 = .ok (.if_icmp .ne 22, 3) := by decide +kernel
theorem dX12_twins_40 : decode cX12_twins 40 = .ok (.aload_n 0, 1) := by decide +kernel
theorem dX12_twins_41 : decode cX12_twins 41 = .ok (.iload_n 2, 1) := by decide +kernel
theorem dX12_twins_42 : decode cX12_twins 42 = .ok (.iconst 1, 1) := by decide +kernel
theorem dX12_twins_43 : decode cX12_twins 43 = .ok (.invokevirtual 285, 3) := by decide +kernel
theorem dX12_twins_46 : decode cX12_twins 46 = .ok (.aload_n 0, 1) := by decide +kernel
theorem dX12_twins_47 : decode cX12_twins 47 = .ok (.iload_n 3, 1) := by decide +kernel
theorem dX12_twins_48 : decode cX12_twins 48 = .ok (.iconst 1, 1) := by decide +kernel
theorem dX12_twins_49 : decode cX12_twins 49 = .ok (.invokevirtual 285, 3) := by decide +kernel
theorem dX12_twins_52 : decode cX12_twins 52 = .ok (.if_icmp .ne 7, 3) := by decide +kernel
theorem dX12_twins_55 : decode cX12_twins 55 = .ok (.iconst 1, 1) := by decide +kernel
theorem dX12_twins_56 : decode cX12_twins 56 = .ok (.goto 4, 3) := by decide +kernel
theorem dX12_twins_59 : decode cX12_twins 59 = .ok (.iconst 0, 1) := by decide +kernel
theorem dX12_twins_60 : decode cX12_twins 60 = .ok (.iadd, 1) := by decide +kernel
theorem dX12_twins_61 : decode cX12_twins 61 = .ok (.istore_n 1, 1) := by decide +kernel
theorem dX12_twins_62 : decode cX12_twins 62 = .ok (.iinc 3 1, 3) := by decide +kernel
theorem dX12_twins_65 : decode cX12_twins 65 = .ok (.goto (-46), 3) := by decide +kernel
theorem dX12_twins_68 : decode cX12_twins 68 = .ok (.iinc 2 1, 3) := by decide +kernel
theorem dX12_twins_71 : decode cX12_twins 71 = .ok (.goto (-62), 3) := by decide +kernel
theorem dX12_twins_74 : decode cX12_twins 74 = .ok (.iload_n 1, 1) := by decide +kernel
theorem dX12_twins_75 : decode cX12_twins 75 = .ok (.ireturn, 1) := by decide +kernel
theorem dX12_blind_0 : decode cX12_blind 0 = .ok (.aload_n 0, 1) := by decide +kernel
theorem dX12_blind_1 : decode cX12_blind 1 = .ok (.iconst 0, 1) := by decide +kernel
theorem dX12_blind_2 : decode cX12_blind 2 = .ok (.putfield 3, 3) := by decide +kernel
theorem dX12_blind_5 : decode cX12_blind 5 = .ok (.iconst 0, 1) := by decide +kernel
theorem dX12_blind_6 : decode cX12_blind 6 = .ok (.istore_n 1, 1) := by decide +kernel
theorem dX12_blind_7 : decode cX12_blind 7 = .ok (.iconst 0, 1) := by decide +kernel
theorem dX12_blind_8 : decode cX12_blind 8 = .ok (.istore_n 2, 1) := by decide +kernel
theorem dX12_blind_9 : decode cX12_blind 9 = .ok (.iload_n 2, 1) := by decide +kernel
theorem dX12_blind_10 : decode cX12_blind 10 = .ok (.aload_n 0, 1) := by decide +kernel
theorem dX12_blind_11 : decode cX12_blind 11 = .ok (.invokevirtual 102, 3) := by decide +kernel
theorem dX12_blind_14 : decode cX12_blind 14 = .ok (.if_icmp .ge 53, 3) := by decide +kernel
theorem dX12_blind_17 : decode cX12_blind 17 = .ok (.iconst 0, 1) := by decide +kernel
theorem dX12_blind_18 : decode cX12_blind 18 = .ok (.istore_n 3, 1) := by decide +kernel
theorem dX12_blind_19 : decode cX12_blind 19 = .ok (.iconst 0, 1) := by decide +kernel
theorem dX12_blind_20 : decode cX12_blind 20 = .ok (.istore 4, 2) := by decide +kernel
theorem dX12_blind_22 : decode cX12_blind 22 = .ok (.iload 4, 2) := by decide +kernel
theorem dX12_blind_24 : decode cX12_blind 24 = .ok (.aload_n 0, 1) := by decide +kernel
theorem dX12_blind_25 : decode cX12_blind 25 = .ok (.invokevirtual 99, 3) := by decide +kernel
theorem dX12_blind_28 : decode cX12_blind 28 = .ok (.if_icmp .ge 19, 3) := by decide +kernel
theorem dX12_blind_31 : decode cX12_blind 31 = .ok (.iload_n 3, 1) := by decide +kernel
theorem dX12_blind_32 : decode cX12_blind 32 = .ok (.aload_n 0, 1) := by decide +kernel
theorem dX12_blind_33 : decode cX12_blind 33 = .ok (.iload 4, 2) := by decide +kernel
theorem dX12_blind_35 : decode cX12_blind 35 = .ok (.iload_n 2, 1) := by decide +kernel
theorem dX12_blind_36 : decode cX12_blind 36 = .ok (.invokevirtual 406, 3) := by decide +kernel
theorem dX12_blind_39 : decode cX12_blind 39 = .ok (.ior, 1) := by decide +kernel
theorem dX12_blind_40 : decode cX12_blind 40 = .ok (.istore_n 3, 1) := by decide +kernel
theorem dX12_blind_41 : decode cX12_blind 41 = .ok (.iinc 4 1, 3) := by decide +kernel
theorem dX12_blind_44 : decode cX12_blind 44 = .ok (.goto (-22), 3) := by decide +kernel
theorem dX12_blind_47 : decode cX12_blind 47 = .ok (.iload_n 1, 1) := by decide +kernel
theorem dX12_blind_48 : decode cX12_blind 48 = .ok (.iload_n 3, 1) := by decide +kernel
theorem dX12_blind_49 : decode cX12_blind 49 = .ok (.ifCond .ne 9, 3) := by decide +kernel
theorem dX12_blind_52 : decode cX12_blind 52 = .ok (.iconst 1, 1) := by decide +kernel
theorem dX12_blind_53 : decode cX12_blind 53 = .ok (.iload_n 2, 1) := by decide +kernel
theorem dX12_blind_54 : decode cX12_blind 54 = .ok (.ishl, 1) := by decide +kernel
theorem dX12_blind_55 : decode cX12_blind 55 = .ok (.goto 4, 3) := by decide +kernel
theorem dX12_blind_58 : decode cX12_blind 58 = .ok (.iconst 0, 1) := by decide +kernel
theorem dX12_blind_59 : decode cX12_blind 59 = .ok (.ior, 1) := by decide +kernel
theorem dX12_blind_60 : decode cX12_blind 60 = .ok (.istore_n 1, 1) := by decide +kernel
theorem dX12_blind_61 : decode cX12_blind 61 = .ok (.iinc 2 1, 3) := by decide +kernel
theorem dX12_blind_64 : decode cX12_blind 64 = .ok (.goto (-55), 3) := by decide +kernel
theorem dX12_blind_67 : decode cX12_blind 67 = .ok (.iload_n 1, 1) := by decide +kernel
theorem dX12_blind_68 : decode cX12_blind 68 = .ok (.ireturn, 1) := by decide +kernel
theorem dX12_so_0 : decode cX12_so 0 = .ok (.aload_n 0, 1) := by decide +kernel
theorem dX12_so_1 : decode cX12_so 1 = .ok (.iconst 0, 1) := by decide +kernel
theorem dX12_so_2 : decode cX12_so 2 = .ok (.putfield 3, 3) := by decide +kernel
theorem dX12_so_5 : decode cX12_so 5 = .ok (.aload_n 0, 1) := by decide +kernel
theorem dX12_so_6 : decode cX12_so 6 = .ok (.invokevirtual 319, 3) := by decide +kernel
theorem dX12_so_9 : decode cX12_so 9 = .ok (.ireturn, 1) := by decide +kernel
theorem dX12_noAhead_0 : decode cX12_noAhead 0 = .ok (.iload_n 0, 1) := by decide +kernel
theorem dX12_noAhead_1 : decode cX12_noAhead 1 = .ok (.iconst 0, 1) := by decide +kernel
theorem dX12_noAhead_2 : decode cX12_noAhead 2 = .ok (.bipush 60, 2) := by decide +kernel
theorem dX12_noAhead_4 : decode cX12_noAhead 4 = .ok (.invokestatic 95, 3) := by decide +kernel
theorem dX12_noAhead_7 : decode cX12_noAhead 7 = .ok (.ifCond .ne 7, 3) := by decide +kernel
theorem dX12_noAhead_10 : decode cX12_noAhead 10 = .ok (.iconst 1, 1) := by decide +kernel
theorem dX12_noAhead_11 : decode cX12_noAhead 11 = .ok (.goto 4, 3) := by decide +kernel
theorem dX12_noAhead_14 : decode cX12_noAhead 14 = .ok (.iconst 0, 1) := by decide +kernel
theorem dX12_noAhead_15 : decode cX12_noAhead 15 = .ok (.ireturn, 1) := by decide +kernel
theorem dX12_ahead_0 : decode cX12_ahead 0 = .ok (.aload_n 0, 1) := by decide +kernel
theorem dX12_ahead_1 : decode cX12_ahead 1 = .ok (.iconst 0, 1) := by decide +kernel
theorem dX12_ahead_2 : decode cX12_ahead 2 = .ok (.putfield 3, 3) := by decide +kernel
theorem dX12_ahead_5 : decode cX12_ahead 5 = .ok (.aload_n 0, 1) := by decide +kernel
theorem dX12_ahead_6 : decode cX12_ahead 6 = .ok (.aload_n 0, 1) := by decide +kernel
theorem dX12_ahead_7 : decode cX12_ahead 7 = .ok (.iload_n 1, 1) := by decide +kernel
theorem dX12_ahead_8 : decode cX12_ahead 8 = .ok (.invokevirtual 370, 3) := by decide +kernel
theorem dX12_ahead_11 : decode cX12_ahead 11 = .ok (.iconst 1, 1) := by decide +kernel
theorem dX12_ahead_12 : decode cX12_ahead 12 = .ok (.invokevirtual 282, 3) := by decide +kernel
theorem dX12_ahead_15 : decode cX12_ahead 15 = .ok (.ifCond .ne 15, 3) := by decide +kernel
theorem dX12_ahead_18 : decode cX12_ahead 18 = .ok (.aload_n 0, 1) := by decide +kernel
theorem dX12_ahead_19 : decode cX12_ahead 19 = .ok (.iload_n 2, 1) := by decide +kernel
theorem dX12_ahead_20 : decode cX12_ahead 20 = .ok (.invokestatic 503, 3) := by decide +kernel
theorem dX12_ahead_23 : decode cX12_ahead 23 = .ok (.iconst 2, 1) := by decide +kernel
theorem dX12_ahead_24 : decode cX12_ahead 24 = .ok (.invokevirtual 282, 3) := by decide +kernel
theorem dX12_ahead_27 : decode cX12_ahead 27 = .ok (.ifCond .eq 5, 3) := by decide +kernel
theorem dX12_ahead_30 : decode cX12_ahead 30 = .ok (.iconst 0, 1) := by decide +kernel
theorem dX12_ahead_31 : decode cX12_ahead 31 = .ok (.ireturn, 1) := by decide +kernel
theorem dX12_ahead_32 : decode cX12_ahead 32 = .ok (.aload_n 0, 1) := by decide +kernel
theorem dX12_ahead_33 : decode cX12_ahead 33 = .ok (.invokevirtual 412, 3) := by decide +kernel
theorem dX12_ahead_36 : decode cX12_ahead 36 = .ok (.aload_n 0, 1) := by decide +kernel
theorem dX12_ahead_37 : decode cX12_ahead 37 = .ok (.iload_n 2, 1) := by decide +kernel
theorem dX12_ahead_38 : decode cX12_ahead 38 = .ok (.iconst 1, 1) := by decide +kernel
theorem dX12_ahead_39 : decode cX12_ahead 39 = .ok (.invokevirtual 354, 3) := by decide +kernel
theorem dX12_ahead_42 : decode cX12_ahead 42 = .ok (.pop, 1) := by decide +kernel
theorem dX12_ahead_43 : decode cX12_ahead 43 = .ok (.aload_n 0, 1) := by decide +kernel
theorem dX12_ahead_44 : decode cX12_ahead 44 = .ok (.iload_n 1, 1) := by decide +kernel
theorem dX12_ahead_45 : decode cX12_ahead 45 = .ok (.iconst 3, 1) := by decide +kernel
theorem dX12_ahead_46 : decode cX12_ahead 46 = .ok (.invokevirtual 285, 3) := by decide +kernel
theorem dX12_ahead_49 : decode cX12_ahead 49 = .ok (.istore_n 3, 1) := by decide +kernel
theorem dX12_ahead_50 : decode cX12_ahead 50 = .ok (.aload_n 0, 1) := by decide +kernel
theorem dX12_ahead_51 : decode cX12_ahead 51 = .ok (.invokevirtual 415, 3) := by decide +kernel
theorem dX12_ahead_54 : decode cX12_ahead 54 = .ok (.iload_n 3, 1) := by decide +kernel
theorem dX12_ahead_55 : decode cX12_ahead 55 = .ok (.ireturn, 1) := by decide +kernel
theorem dX12_redOnes_0 : decode cX12_redOnes 0 = .ok (.iconst 0, 1) := by decide +kernel
theorem dX12_redOnes_1 : decode cX12_redOnes 1 = .ok (.istore_n 1, 1) := by decide +kernel
theorem dX12_redOnes_2 : decode cX12_redOnes 2 = .ok (.iconst 0, 1) := by decide +kernel
theorem dX12_redOnes_3 : decode cX12_redOnes 3 = .ok (.istore_n 2, 1) := by decide +kernel
theorem dX12_redOnes_4 : decode cX12_redOnes 4 = .ok (.iload_n 2, 1) := by decide +kernel
theorem dX12_redOnes_5 : decode cX12_redOnes 5 = .ok (.aload_n 0, 1) := by decide +kernel
theorem dX12_redOnes_6 : decode cX12_redOnes 6 = .ok (.invokevirtual 92, 3) := by decide +kernel
theorem dX12_redOnes_9 : decode cX12_redOnes 9 = .ok (.if_icmp .ge 30, 3) := by decide +kernel
theorem dX12_redOnes_12 : decode cX12_redOnes 12 = .ok (.iload_n 1, 1) := by decide +kernel
theorem dX12_redOnes_13 : decode cX12_redOnes 13 = .ok (.aload_n 0, 1) := by decide +kernel
theorem dX12_redOnes_14 : decode cX12_redOnes 14 = .ok (.iload_n 2, 1) := by decide +kernel
theorem dX12_redOnes_15 : decode cX12_redOnes 15 = .ok (.iconst 3, 1) := by decide +kernel
theorem dX12_redOnes_16 : decode cX12_redOnes 16 = .ok (.invokevirtual 285, 3) := by decide +kernel
theorem dX12_redOnes_19 : decode cX12_redOnes 19 = .ok (.bipush 50, 2) := by decide +kernel
theorem dX12_redOnes_21 : decode cX12_redOnes 21 = .ok (.if_icmp .lt 9, 3) := by decide +kernel
theorem dX12_redOnes_24 : decode cX12_redOnes 24 = .ok (.iconst 1, 1) := by decide +kernel
theorem dX12_redOnes_25 : decode cX12_redOnes 25 = .ok (.iload_n 2, 1) := by decide +kernel
theorem dX12_redOnes_26 : decode cX12_redOnes 26 = .ok (.ishl, 1) := by decide +kernel
theorem dX12_redOnes_27 : decode cX12_redOnes 27 = .ok (.goto 4, 3) := by decide +kernel
theorem dX12_redOnes_30 : decode cX12_redOnes 30 = .ok (.iconst 0, 1) := by decide +kernel
theorem dX12_redOnes_31 : decode cX12_redOnes 31 = .ok (.ior, 1) := by decide +kernel
theorem dX12_redOnes_32 : decode cX12_redOnes 32 = .ok (.istore_n 1, 1) := by decide +kernel
theorem dX12_redOnes_33 : decode cX12_redOnes 33 = .ok (.iinc 2 1, 3) := by decide +kernel
theorem dX12_redOnes_36 : decode cX12_redOnes 36 = .ok (.goto (-32), 3) := by decide +kernel
theorem dX12_redOnes_39 : decode cX12_redOnes 39 = .ok (.iload_n 1, 1) := by decide +kernel
theorem dX12_redOnes_40 : decode cX12_redOnes 40 = .ok (.ireturn, 1) := by decide +kernel
theorem dX12_trial_0 : decode cX12_trial 0 = .ok (.aload_n 0, 1) := by decide +kernel
theorem dX12_trial_1 : decode cX12_trial 1 = .ok (.iconst 0, 1) := by decide +kernel
theorem dX12_trial_2 : decode cX12_trial 2 = .ok (.putfield 3, 3) := by decide +kernel
theorem dX12_trial_5 : decode cX12_trial 5 = .ok (.aload_n 0, 1) := by decide +kernel
theorem dX12_trial_6 : decode cX12_trial 6 = .ok (.iload_n 1, 1) := by decide +kernel
theorem dX12_trial_7 : decode cX12_trial 7 = .ok (.invokestatic 503, 3) := by decide +kernel
theorem dX12_trial_10 : decode cX12_trial 10 = .ok (.iconst 1, 1) := by decide +kernel
theorem dX12_trial_11 : decode cX12_trial 11 = .ok (.invokevirtual 282, 3) := by decide +kernel
theorem dX12_trial_14 : decode cX12_trial 14 = .ok (.ifCond .eq 5, 3) := by decide +kernel
theorem dX12_trial_17 : decode cX12_trial 17 = .ok (.iconst 0, 1) := by decide +kernel
theorem dX12_trial_18 : decode cX12_trial 18 = .ok (.ireturn, 1) := by decide +kernel
theorem dX12_trial_19 : decode cX12_trial 19 = .ok (.aload_n 0, 1) := by decide +kernel
theorem dX12_trial_20 : decode cX12_trial 20 = .ok (.invokevirtual 412, 3) := by decide +kernel
theorem dX12_trial_23 : decode cX12_trial 23 = .ok (.aload_n 0, 1) := by decide +kernel
theorem dX12_trial_24 : decode cX12_trial 24 = .ok (.iload_n 1, 1) := by decide +kernel
theorem dX12_trial_25 : decode cX12_trial 25 = .ok (.iconst 0, 1) := by decide +kernel
theorem dX12_trial_26 : decode cX12_trial 26 = .ok (.invokevirtual 354, 3) := by decide +kernel
theorem dX12_trial_29 : decode cX12_trial 29 = .ok (.pop, 1) := by decide +kernel
theorem dX12_trial_30 : decode cX12_trial 30 = .ok (.iload_n 2, 1) := by decide +kernel
theorem dX12_trial_31 : decode cX12_trial 31 = .ok (.ifCond .eq 10, 3) := by decide +kernel
theorem dX12_trial_34 : decode cX12_trial 34 = .ok (.aload_n 0, 1) := by decide +kernel
theorem dX12_trial_35 : decode cX12_trial 35 = .ok (.invokevirtual 373, 3) := by decide +kernel
theorem dX12_trial_38 : decode cX12_trial 38 = .ok (.goto 7, 3) := by decide +kernel
theorem dX12_trial_41 : decode cX12_trial 41 = .ok (.aload_n 0, 1) := by decide +kernel
theorem dX12_trial_42 : decode cX12_trial 42 = .ok (.invokevirtual 506, 3) := by decide +kernel
theorem dX12_trial_45 : decode cX12_trial 45 = .ok (.istore_n 3, 1) := by decide +kernel
theorem dX12_trial_46 : decode cX12_trial 46 = .ok (.aload_n 0, 1) := by decide +kernel
theorem dX12_trial_47 : decode cX12_trial 47 = .ok (.invokevirtual 415, 3) := by decide +kernel
theorem dX12_trial_50 : decode cX12_trial 50 = .ok (.iload_n 3, 1) := by decide +kernel
theorem dX12_trial_51 : decode cX12_trial 51 = .ok (.ireturn, 1) := by decide +kernel
theorem dX12_span_0 : decode cX12_span 0 = .ok (.aload_n 0, 1) := by decide +kernel
theorem dX12_span_1 : decode cX12_span 1 = .ok (.iconst 0, 1) := by decide +kernel
theorem dX12_span_2 : decode cX12_span 2 = .ok (.putfield 3, 3) := by decide +kernel
theorem dX12_span_5 : decode cX12_span 5 = .ok (.aload_n 0, 1) := by decide +kernel
theorem dX12_span_6 : decode cX12_span 6 = .ok (.iload_n 1, 1) := by decide +kernel
theorem dX12_span_7 : decode cX12_span 7 = .ok (.invokestatic 503, 3) := by decide +kernel
theorem dX12_span_10 : decode cX12_span 10 = .ok (.iconst 1, 1) := by decide +kernel
theorem dX12_span_11 : decode cX12_span 11 = .ok (.invokevirtual 282, 3) := by decide +kernel
theorem dX12_span_14 : decode cX12_span 14 = .ok (.ifCond .eq 5, 3) := by decide +kernel
theorem dX12_span_17 : decode cX12_span 17 = .ok (.iconst 0, 1) := by decide +kernel
theorem dX12_span_18 : decode cX12_span 18 = .ok (.ireturn, 1) := by decide +kernel
theorem dX12_span_19 : decode cX12_span 19 = .ok (.aload_n 0, 1) := by decide +kernel
theorem dX12_span_20 : decode cX12_span 20 = .ok (.invokevirtual 412, 3) := by decide +kernel
theorem dX12_span_23 : decode cX12_span 23 = .ok (.iconst (-1), 1) := by decide +kernel
theorem dX12_span_24 : decode cX12_span 24 = .ok (.istore_n 3, 1) := by decide +kernel
theorem dX12_span_25 : decode cX12_span 25 = .ok (.iconst 1, 1) := by decide +kernel
theorem dX12_span_26 : decode cX12_span 26 = .ok (.istore 4, 2) := by decide +kernel
theorem dX12_span_28 : decode cX12_span 28 = .ok (.iload 4, 2) := by decide +kernel
theorem dX12_span_30 : decode cX12_span 30 = .ok (.bipush 6, 2) := by decide +kernel
theorem dX12_span_32 : decode cX12_span 32 = .ok (.if_icmp .gt 91, 3) := by decide +kernel
theorem dX12_span_35 : decode cX12_span 35 = .ok (.aload_n 0, 1) := by decide +kernel
theorem dX12_span_36 : decode cX12_span 36 = .ok (.getfield 13, 3) := by decide +kernel
theorem dX12_span_39 : decode cX12_span 39 = .ok (.bipush 11, 2) := by decide +kernel
theorem dX12_span_41 : decode cX12_span 41 = .ok (.iload 4, 2) := by decide +kernel
theorem dX12_span_43 : decode cX12_span 43 = .ok (.iastore, 1) := by decide +kernel
theorem dX12_span_44 : decode cX12_span 44 = .ok (.aload_n 0, 1) := by decide +kernel
theorem dX12_span_45 : decode cX12_span 45 = .ok (.iload_n 1, 1) := by decide +kernel
theorem dX12_span_46 : decode cX12_span 46 = .ok (.iconst 0, 1) := by decide +kernel
theorem dX12_span_47 : decode cX12_span 47 = .ok (.invokevirtual 354, 3) := by decide +kernel
theorem dX12_span_50 : decode cX12_span 50 = .ok (.pop, 1) := by decide +kernel
theorem dX12_span_51 : decode cX12_span 51 = .ok (.iconst 0, 1) := by decide +kernel
theorem dX12_span_52 : decode cX12_span 52 = .ok (.istore 5, 2) := by decide +kernel
theorem dX12_span_54 : decode cX12_span 54 = .ok (.iload 5, 2) := by decide +kernel
theorem dX12_span_56 : decode cX12_span 56 = .ok (.aload_n 0, 1) := by decide +kernel
theorem dX12_span_57 : decode cX12_span 57 = .ok (.invokevirtual 92, 3) := by decide +kernel
theorem dX12_span_60 : decode cX12_span 60 = .ok (.if_icmp .ge 53, 3) := by decide +kernel
theorem dX12_span_63 : decode cX12_span 63 = .ok (.iload_n 3, 1) := by decide +kernel
theorem dX12_span_64 : decode cX12_span 64 = .ok (.ifCond .ge 13, 3) := by decide +kernel
theorem dX12_span_67 : decode cX12_span 67 = .ok (.aload_n 0, 1) := by decide +kernel
theorem dX12_span_68 : decode cX12_span 68 = .ok (.iload 5, 2) := by decide +kernel
theorem dX12_span_70 : decode cX12_span 70 = .ok (.iconst 3, 1) := by decide +kernel
theorem dX12_span_71 : decode cX12_span 71 = .ok (.invokevirtual 285, 3) := by decide +kernel
theorem dX12_span_74 : decode cX12_span 74 = .ok (.goto 32, 3) := by decide +kernel
theorem dX12_span_77 : decode cX12_span 77 = .ok (.iload_n 2, 1) := by decide +kernel
theorem dX12_span_78 : decode cX12_span 78 = .ok (.ifCond .eq 17, 3) := by decide +kernel
theorem dX12_span_81 : decode cX12_span 81 = .ok (.iload_n 3, 1) := by decide +kernel
theorem dX12_span_82 : decode cX12_span 82 = .ok (.aload_n 0, 1) := by decide +kernel
theorem dX12_span_83 : decode cX12_span 83 = .ok (.iload 5, 2) := by decide +kernel
theorem dX12_span_85 : decode cX12_span 85 = .ok (.iconst 3, 1) := by decide +kernel
theorem dX12_span_86 : decode cX12_span 86 = .ok (.invokevirtual 285, 3) := by decide +kernel
theorem dX12_span_89 : decode cX12_span 89 = .ok (.invokestatic 305, 3) := by decide +kernel
theorem dX12_span_92 : decode cX12_span 92 = .ok (.goto 14, 3) := by decide +kernel
theorem dX12_span_95 : decode cX12_span 95 = .ok (.iload_n 3, 1) := by decide +kernel
theorem dX12_span_96 : decode cX12_span 96 = .ok (.aload_n 0, 1) := by decide +kernel
theorem dX12_span_97 : decode cX12_span 97 = .ok (.iload 5, 2) := by decide +kernel
theorem dX12_span_99 : decode cX12_span 99 = .ok (.iconst 3, 1) := by decide +kernel
theorem dX12_span_100 : decode cX12_span 100 = .ok (.invokevirtual 285, 3) := by decide +kernel
theorem dX12_span_103 : decode cX12_span 103 = .ok (.invokestatic 310, 3) := by decide +kernel
theorem dX12_span_106 : decode cX12_span 106 = .ok (.istore_n 3, 1) := by decide +kernel
theorem dX12_span_107 : decode cX12_span 107 = .ok (.iinc 5 1, 3) := by decide +kernel
theorem dX12_span_110 : decode cX12_span 110 = .ok (.goto (-56), 3) := by decide +kernel
theorem dX12_span_113 : decode cX12_span 113 = .ok (.aload_n 0, 1) := by decide +kernel
theorem dX12_span_114 : decode cX12_span 114 = .ok (.invokevirtual 415, 3) := by decide +kernel
theorem dX12_span_117 : decode cX12_span 117 = .ok (.iinc 4 1, 3) := by decide +kernel
theorem dX12_span_120 : decode cX12_span 120 = .ok (.goto (-92), 3) := by decide +kernel
theorem dX12_span_123 : decode cX12_span 123 = .ok (.iconst 0, 1) := by decide +kernel
theorem dX12_span_124 : decode cX12_span 124 = .ok (.iload_n 3, 1) := by decide +kernel
theorem dX12_span_125 : decode cX12_span 125 = .ok (.invokestatic 305, 3) := by decide +kernel
theorem dX12_span_128 : decode cX12_span 128 = .ok (.ireturn, 1) := by decide +kernel
theorem dX12_ofLog_0 : decode cX12_ofLog 0 = .ok (.aload_n 0, 1) := by decide +kernel
theorem dX12_ofLog_1 : decode cX12_ofLog 1 = .ok (.getfield 13, 3) := by decide +kernel
theorem dX12_ofLog_4 : decode cX12_ofLog 4 = .ok (.bipush 72, 2) := by decide +kernel
theorem dX12_ofLog_6 : decode cX12_ofLog 6 = .ok (.iconst 5, 1) := by decide +kernel
theorem dX12_ofLog_7 : decode cX12_ofLog 7 = .ok (.iload_n 1, 1) := by decide +kernel
theorem dX12_ofLog_8 : decode cX12_ofLog 8 = .ok (.imul, 1) := by decide +kernel
theorem dX12_ofLog_9 : decode cX12_ofLog 9 = .ok (.iadd, 1) := by decide +kernel
theorem dX12_ofLog_10 : decode cX12_ofLog 10 = .ok (.iload_n 2, 1) := by decide +kernel
theorem dX12_ofLog_11 : decode cX12_ofLog 11 = .ok (.iadd, 1) := by decide +kernel
theorem dX12_ofLog_12 : decode cX12_ofLog 12 = .ok (.iaload, 1) := by decide +kernel
theorem dX12_ofLog_13 : decode cX12_ofLog 13 = .ok (.ireturn, 1) := by decide +kernel
theorem dX12_led_0 : decode cX12_led 0 = .ok (.aload_n 0, 1) := by decide +kernel
theorem dX12_led_1 : decode cX12_led 1 = .ok (.iconst 0, 1) := by decide +kernel
theorem dX12_led_2 : decode cX12_led 2 = .ok (.putfield 3, 3) := by decide +kernel
theorem dX12_led_5 : decode cX12_led 5 = .ok (.aload_n 0, 1) := by decide +kernel
theorem dX12_led_6 : decode cX12_led 6 = .ok (.aload_n 0, 1) := by decide +kernel
theorem dX12_led_7 : decode cX12_led 7 = .ok (.iload_n 1, 1) := by decide +kernel
theorem dX12_led_8 : decode cX12_led 8 = .ok (.invokevirtual 370, 3) := by decide +kernel
theorem dX12_led_11 : decode cX12_led 11 = .ok (.iconst 1, 1) := by decide +kernel
theorem dX12_led_12 : decode cX12_led 12 = .ok (.invokevirtual 282, 3) := by decide +kernel
theorem dX12_led_15 : decode cX12_led 15 = .ok (.ifCond .eq 5, 3) := by decide +kernel
theorem dX12_led_18 : decode cX12_led 18 = .ok (.iconst 0, 1) := by decide +kernel
theorem dX12_led_19 : decode cX12_led 19 = .ok (.ireturn, 1) := by decide +kernel
theorem dX12_led_20 : decode cX12_led 20 = .ok (.iconst 0, 1) := by decide +kernel
theorem dX12_led_21 : decode cX12_led 21 = .ok (.istore_n 3, 1) := by decide +kernel
theorem dX12_led_22 : decode cX12_led 22 = .ok (.iconst (-1), 1) := by decide +kernel
theorem dX12_led_23 : decode cX12_led 23 = .ok (.istore 4, 2) := by decide +kernel
theorem dX12_led_25 : decode cX12_led 25 = .ok (.aload_n 0, 1) := by decide +kernel
theorem dX12_led_26 : decode cX12_led 26 = .ok (.getfield 13, 3) := by decide +kernel
theorem dX12_led_29 : decode cX12_led 29 = .ok (.bipush 10, 2) := by decide +kernel
theorem dX12_led_31 : decode cX12_led 31 = .ok (.iaload, 1) := by decide +kernel
theorem dX12_led_32 : decode cX12_led 32 = .ok (.iconst 1, 1) := by decide +kernel
theorem dX12_led_33 : decode cX12_led 33 = .ok (.isub, 1) := by decide +kernel
theorem dX12_led_34 : decode cX12_led 34 = .ok (.istore 5, 2) := by decide +kernel
theorem dX12_led_36 : decode cX12_led 36 = .ok (.iload 5, 2) := by decide +kernel
theorem dX12_led_38 : decode cX12_led 38 = .ok (.ifCond .lt 35, 3) := by decide +kernel
theorem dX12_led_41 : decode cX12_led 41 = .ok (.aload_n 0, 1) := by decide +kernel
theorem dX12_led_42 : decode cX12_led 42 = .ok (.iload 5, 2) := by decide +kernel
theorem dX12_led_44 : decode cX12_led 44 = .ok (.iconst 1, 1) := by decide +kernel
theorem dX12_led_45 : decode cX12_led 45 = .ok (.invokevirtual 509, 3) := by decide +kernel
theorem dX12_led_48 : decode cX12_led 48 = .ok (.iload_n 1, 1) := by decide +kernel
theorem dX12_led_49 : decode cX12_led 49 = .ok (.if_icmp .eq 6, 3) := by decide +kernel
theorem dX12_led_52 : decode cX12_led 52 = .ok (.goto 15, 3) := by decide +kernel
theorem dX12_led_55 : decode cX12_led 55 = .ok (.iinc 3 1, 3) := by decide +kernel
theorem dX12_led_58 : decode cX12_led 58 = .ok (.aload_n 0, 1) := by decide +kernel
theorem dX12_led_59 : decode cX12_led 59 = .ok (.iload 5, 2) := by decide +kernel
theorem dX12_led_61 : decode cX12_led 61 = .ok (.iconst 0, 1) := by decide +kernel
theorem dX12_led_62 : decode cX12_led 62 = .ok (.invokevirtual 509, 3) := by decide +kernel
theorem dX12_led_65 : decode cX12_led 65 = .ok (.istore 4, 2) := by decide +kernel
theorem dX12_led_67 : decode cX12_led 67 = .ok (.iinc 5 (-1), 3) := by decide +kernel
theorem dX12_led_70 : decode cX12_led 70 = .ok (.goto (-34), 3) := by decide +kernel
theorem dX12_led_73 : decode cX12_led 73 = .ok (.iload_n 2, 1) := by decide +kernel
theorem dX12_led_74 : decode cX12_led 74 = .ok (.ifCond .eq 8, 3) := by decide +kernel
theorem dX12_led_77 : decode cX12_led 77 = .ok (.iload 4, 2) := by decide +kernel
theorem dX12_led_79 : decode cX12_led 79 = .ok (.goto 4, 3) := by decide +kernel
theorem dX12_led_82 : decode cX12_led 82 = .ok (.iload_n 3, 1) := by decide +kernel
theorem dX12_led_83 : decode cX12_led 83 = .ok (.ireturn, 1) := by decide +kernel
theorem dX12_log_0 : decode cX12_log 0 = .ok (.aload_n 0, 1) := by decide +kernel
theorem dX12_log_1 : decode cX12_log 1 = .ok (.iconst 0, 1) := by decide +kernel
theorem dX12_log_2 : decode cX12_log 2 = .ok (.putfield 3, 3) := by decide +kernel
theorem dX12_log_5 : decode cX12_log 5 = .ok (.aload_n 0, 1) := by decide +kernel
theorem dX12_log_6 : decode cX12_log 6 = .ok (.iload_n 2, 1) := by decide +kernel
theorem dX12_log_7 : decode cX12_log 7 = .ok (.iconst 0, 1) := by decide +kernel
theorem dX12_log_8 : decode cX12_log 8 = .ok (.iconst 4, 1) := by decide +kernel
theorem dX12_log_9 : decode cX12_log 9 = .ok (.invokestatic 95, 3) := by decide +kernel
theorem dX12_log_12 : decode cX12_log 12 = .ok (.ifCond .ne 7, 3) := by decide +kernel
theorem dX12_log_15 : decode cX12_log 15 = .ok (.iconst 1, 1) := by decide +kernel
theorem dX12_log_16 : decode cX12_log 16 = .ok (.goto 4, 3) := by decide +kernel
theorem dX12_log_19 : decode cX12_log 19 = .ok (.iconst 0, 1) := by decide +kernel
theorem dX12_log_20 : decode cX12_log 20 = .ok (.iconst 1, 1) := by decide +kernel
theorem dX12_log_21 : decode cX12_log 21 = .ok (.invokevirtual 282, 3) := by decide +kernel
theorem dX12_log_24 : decode cX12_log 24 = .ok (.ifCond .eq 5, 3) := by decide +kernel
theorem dX12_log_27 : decode cX12_log 27 = .ok (.iconst 0, 1) := by decide +kernel
theorem dX12_log_28 : decode cX12_log 28 = .ok (.ireturn, 1) := by decide +kernel
theorem dX12_log_29 : decode cX12_log 29 = .ok (.iload_n 1, 1) := by decide +kernel
theorem dX12_log_30 : decode cX12_log 30 = .ok (.iconst 0, 1) := by decide +kernel
theorem dX12_log_31 : decode cX12_log 31 = .ok (.aload_n 0, 1) := by decide +kernel
theorem dX12_log_32 : decode cX12_log 32 = .ok (.getfield 13, 3) := by decide +kernel
theorem dX12_log_35 : decode cX12_log 35 = .ok (.bipush 10, 2) := by decide +kernel
theorem dX12_log_37 : decode cX12_log 37 = .ok (.iaload, 1) := by decide +kernel
theorem dX12_log_38 : decode cX12_log 38 = .ok (.iconst 1, 1) := by decide +kernel
theorem dX12_log_39 : decode cX12_log 39 = .ok (.isub, 1) := by decide +kernel
theorem dX12_log_40 : decode cX12_log 40 = .ok (.invokestatic 95, 3) := by decide +kernel
theorem dX12_log_43 : decode cX12_log 43 = .ok (.ifCond .eq 12, 3) := by decide +kernel
theorem dX12_log_46 : decode cX12_log 46 = .ok (.aload_n 0, 1) := by decide +kernel
theorem dX12_log_47 : decode cX12_log 47 = .ok (.iload_n 1, 1) := by decide +kernel
theorem dX12_log_48 : decode cX12_log 48 = .ok (.iload_n 2, 1) := by decide +kernel
theorem dX12_log_49 : decode cX12_log 49 = .ok (.invokevirtual 509, 3) := by decide +kernel
theorem dX12_log_52 : decode cX12_log 52 = .ok (.goto 5, 3) := by decide +kernel
theorem dX12_log_55 : decode cX12_log 55 = .ok (.bipush (-2), 2) := by decide +kernel
theorem dX12_log_57 : decode cX12_log 57 = .ok (.ireturn, 1) := by decide +kernel
theorem dX12_seed_0 : decode cX12_seed 0 = .ok (.aload_n 0, 1) := by decide +kernel
theorem dX12_seed_1 : decode cX12_seed 1 = .ok (.iconst 0, 1) := by decide +kernel
theorem dX12_seed_2 : decode cX12_seed 2 = .ok (.putfield 3, 3) := by decide +kernel
theorem dX12_seed_5 : decode cX12_seed 5 = .ok (.aload_n 0, 1) := by decide +kernel
theorem dX12_seed_6 : decode cX12_seed 6 = .ok (.getfield 13, 3) := by decide +kernel
theorem dX12_seed_9 : decode cX12_seed 9 = .ok (.bipush 11, 2) := by decide +kernel
theorem dX12_seed_11 : decode cX12_seed 11 = .ok (.iaload, 1) := by decide +kernel
theorem dX12_seed_12 : decode cX12_seed 12 = .ok (.istore_n 2, 1) := by decide +kernel
theorem dX12_seed_13 : decode cX12_seed 13 = .ok (.aload_n 0, 1) := by decide +kernel
theorem dX12_seed_14 : decode cX12_seed 14 = .ok (.getfield 13, 3) := by decide +kernel
theorem dX12_seed_17 : decode cX12_seed 17 = .ok (.bipush 11, 2) := by decide +kernel
theorem dX12_seed_19 : decode cX12_seed 19 = .ok (.iload_n 1, 1) := by decide +kernel
theorem dX12_seed_20 : decode cX12_seed 20 = .ok (.iastore, 1) := by decide +kernel
theorem dX12_seed_21 : decode cX12_seed 21 = .ok (.iload_n 2, 1) := by decide +kernel
theorem dX12_seed_22 : decode cX12_seed 22 = .ok (.ireturn, 1) := by decide +kernel
theorem dX12_count_0 : decode cX12_count 0 = .ok (.aload_n 0, 1) := by decide +kernel
theorem dX12_count_1 : decode cX12_count 1 = .ok (.iconst 0, 1) := by decide +kernel
theorem dX12_count_2 : decode cX12_count 2 = .ok (.putfield 3, 3) := by decide +kernel
theorem dX12_count_5 : decode cX12_count 5 = .ok (.iload_n 1, 1) := by decide +kernel
theorem dX12_count_6 : decode cX12_count 6 = .ok (.tableswitch 79 5 10 #[38, 79, 79, 61, 66, 74], 38) := by decide +kernel
theorem dX12_count_44 : decode cX12_count 44 = .ok (.aload_n 0, 1) := by decide +kernel
theorem dX12_count_45 : decode cX12_count 45 = .ok (.getfield 13, 3) := by decide +kernel
theorem dX12_count_48 : decode cX12_count 48 = .ok (.iconst 5, 1) := by decide +kernel
theorem dX12_count_49 : decode cX12_count 49 = .ok (.iaload, 1) := by decide +kernel
theorem dX12_count_50 : decode cX12_count 50 = .ok (.iconst 1, 1) := by decide +kernel
theorem dX12_count_51 : decode cX12_count 51 = .ok (.if_icmp .ne 14, 3) := by decide +kernel
theorem dX12_count_54 : decode cX12_count 54 = .ok (.aload_n 0, 1) := by decide +kernel
theorem dX12_count_55 : decode cX12_count 55 = .ok (.getfield 13, 3) := by decide +kernel
theorem dX12_count_58 : decode cX12_count 58 = .ok (.sipush 372, 3) := by decide +kernel
theorem dX12_count_61 : decode cX12_count 61 = .ok (.iaload, 1) := by decide +kernel
theorem dX12_count_62 : decode cX12_count 62 = .ok (.goto 4, 3) := by decide +kernel
theorem dX12_count_65 : decode cX12_count 65 = .ok (.iconst (-1), 1) := by decide +kernel
theorem dX12_count_66 : decode cX12_count 66 = .ok (.ireturn, 1) := by decide +kernel
theorem dX12_count_67 : decode cX12_count 67 = .ok (.aload_n 0, 1) := by decide +kernel
theorem dX12_count_68 : decode cX12_count 68 = .ok (.invokevirtual 373, 3) := by decide +kernel
theorem dX12_count_71 : decode cX12_count 71 = .ok (.ireturn, 1) := by decide +kernel
theorem dX12_count_72 : decode cX12_count 72 = .ok (.aload_n 0, 1) := by decide +kernel
theorem dX12_count_73 : decode cX12_count 73 = .ok (.getfield 13, 3) := by decide +kernel
theorem dX12_count_76 : decode cX12_count 76 = .ok (.bipush 10, 2) := by decide +kernel
theorem dX12_count_78 : decode cX12_count 78 = .ok (.iaload, 1) := by decide +kernel
theorem dX12_count_79 : decode cX12_count 79 = .ok (.ireturn, 1) := by decide +kernel
theorem dX12_count_80 : decode cX12_count 80 = .ok (.aload_n 0, 1) := by decide +kernel
theorem dX12_count_81 : decode cX12_count 81 = .ok (.getfield 75, 3) := by decide +kernel
theorem dX12_count_84 : decode cX12_count 84 = .ok (.ireturn, 1) := by decide +kernel
theorem dX12_count_85 : decode cX12_count 85 = .ok (.iload_n 1, 1) := by decide +kernel
theorem dX12_count_86 : decode cX12_count 86 = .ok (.iconst 0, 1) := by decide +kernel
theorem dX12_count_87 : decode cX12_count 87 = .ok (.bipush 7, 2) := by decide +kernel
theorem dX12_count_89 : decode cX12_count 89 = .ok (.invokestatic 95, 3) := by decide +kernel
theorem dX12_count_92 : decode cX12_count 92 = .ok (.ifCond .eq 12, 3) := by decide +kernel
theorem dX12_count_95 : decode cX12_count 95 = .ok (.aload_n 0, 1) := by decide +kernel
theorem dX12_count_96 : decode cX12_count 96 = .ok (.getfield 13, 3) := by decide +kernel
theorem dX12_count_99 : decode cX12_count 99 = .ok (.iload_n 1, 1) := by decide +kernel
theorem dX12_count_100 : decode cX12_count 100 = .ok (.iaload, 1) := by decide +kernel
theorem dX12_count_101 : decode cX12_count 101 = .ok (.goto 4, 3) := by decide +kernel
theorem dX12_count_104 : decode cX12_count 104 = .ok (.iconst (-1), 1) := by decide +kernel
theorem dX12_count_105 : decode cX12_count 105 = .ok (.ireturn, 1) := by decide +kernel
