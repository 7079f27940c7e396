theorem dX0_init_0 : decode cX0_init 0 = .ok (.aload_n 0, 1) := by decide +kernel
theorem dX0_init_1 : decode cX0_init 1 = .ok (.invokespecial 3, 3) := by decide +kernel
theorem dX0_init_4 : decode cX0_init 4 = .ok (.aload_n 0, 1) := by decide +kernel
theorem dX0_init_5 : decode cX0_init 5 = .ok (.iconst 5, 1) := by decide +kernel
theorem dX0_init_6 : decode cX0_init 6 = .ok (.newarray .int, 2) := by decide +kernel
theorem dX0_init_8 : decode cX0_init 8 = .ok (.putfield 9, 3) := by decide +kernel
theorem dX0_init_11 : decode cX0_init 11 = .ok (.aload_n 0, 1) := by decide +kernel
theorem dX0_init_12 : decode cX0_init 12 = .ok (.iconst 5, 1) := by decide +kernel
theorem dX0_init_13 : decode cX0_init 13 = .ok (.newarray .int, 2) := by decide +kernel
theorem dX0_init_15 : decode cX0_init 15 = .ok (.putfield 15, 3) := by decide +kernel
theorem dX0_init_18 : decode cX0_init 18 = .ok (.aload_n 0, 1) := by decide +kernel
theorem dX0_init_19 : decode cX0_init 19 = .ok (.iconst (-1), 1) := by decide +kernel
theorem dX0_init_20 : decode cX0_init 20 = .ok (.putfield 18, 3) := by decide +kernel
theorem dX0_init_23 : decode cX0_init 23 = .ok (.aload_n 0, 1) := by decide +kernel
theorem dX0_init_24 : decode cX0_init 24 = .ok (.iconst (-1), 1) := by decide +kernel
theorem dX0_init_25 : decode cX0_init 25 = .ok (.putfield 22, 3) := by decide +kernel
theorem dX0_init_28 : decode cX0_init 28 = .ok (.return_, 1) := by decide +kernel
theorem dX0_sharedIn_0 : decode cX0_sharedIn 0 = .ok (.iconst 0, 1) := by decide +kernel
theorem dX0_sharedIn_1 : decode cX0_sharedIn 1 = .ok (.istore_n 3, 1) := by decide +kernel
theorem dX0_sharedIn_2 : decode cX0_sharedIn 2 = .ok (.iconst 1, 1) := by decide +kernel
theorem dX0_sharedIn_3 : decode cX0_sharedIn 3 = .ok (.istore 4, 2) := by decide +kernel
theorem dX0_sharedIn_5 : decode cX0_sharedIn 5 = .ok (.iload 4, 2) := by decide +kernel
theorem dX0_sharedIn_7 : decode cX0_sharedIn 7 = .ok (.iload_n 1, 1) := by decide +kernel
theorem dX0_sharedIn_8 : decode cX0_sharedIn 8 = .ok (.if_icmp .ge 33, 3) := by decide +kernel
theorem dX0_sharedIn_11 : decode cX0_sharedIn 11 = .ok (.iload_n 2, 1) := by decide +kernel
theorem dX0_sharedIn_12 : decode cX0_sharedIn 12 = .ok (.aload_n 0, 1) := by decide +kernel
theorem dX0_sharedIn_13 : decode cX0_sharedIn 13 = .ok (.iload 4, 2) := by decide +kernel
theorem dX0_sharedIn_15 : decode cX0_sharedIn 15 = .ok (.iconst 1, 1) := by decide +kernel
theorem dX0_sharedIn_16 : decode cX0_sharedIn 16 = .ok (.isub, 1) := by decide +kernel
theorem dX0_sharedIn_17 : decode cX0_sharedIn 17 = .ok (.iaload, 1) := by decide +kernel
theorem dX0_sharedIn_18 : decode cX0_sharedIn 18 = .ok (.ishr, 1) := by decide +kernel
theorem dX0_sharedIn_19 : decode cX0_sharedIn 19 = .ok (.iconst 1, 1) := by decide +kernel
theorem dX0_sharedIn_20 : decode cX0_sharedIn 20 = .ok (.iand, 1) := by decide +kernel
theorem dX0_sharedIn_21 : decode cX0_sharedIn 21 = .ok (.iload_n 2, 1) := by decide +kernel
theorem dX0_sharedIn_22 : decode cX0_sharedIn 22 = .ok (.aload_n 0, 1) := by decide +kernel
theorem dX0_sharedIn_23 : decode cX0_sharedIn 23 = .ok (.iload 4, 2) := by decide +kernel
theorem dX0_sharedIn_25 : decode cX0_sharedIn 25 = .ok (.iaload, 1) := by decide +kernel
theorem dX0_sharedIn_26 : decode cX0_sharedIn 26 = .ok (.ishr, 1) := by decide +kernel
theorem dX0_sharedIn_27 : decode cX0_sharedIn 27 = .ok (.iconst 1, 1) := by decide +kernel
theorem dX0_sharedIn_28 : decode cX0_sharedIn 28 = .ok (.iand, 1) := by decide +kernel
theorem dX0_sharedIn_29 : decode cX0_sharedIn 29 = .ok (.if_icmp .eq 6, 3) := by decide +kernel
theorem dX0_sharedIn_32 : decode cX0_sharedIn 32 = .ok (.iinc 3 1, 3) := by decide +kernel
theorem dX0_sharedIn_35 : decode cX0_sharedIn 35 = .ok (.iinc 4 1, 3) := by decide +kernel
theorem dX0_sharedIn_38 : decode cX0_sharedIn 38 = .ok (.goto (-33), 3) := by decide +kernel
theorem dX0_sharedIn_41 : decode cX0_sharedIn 41 = .ok (.iload_n 3, 1) := by decide +kernel
theorem dX0_sharedIn_42 : decode cX0_sharedIn 42 = .ok (.ireturn, 1) := by decide +kernel
theorem dX0_search_0 : decode cX0_search 0 = .ok (.aload_n 0, 1) := by decide +kernel
theorem dX0_search_1 : decode cX0_search 1 = .ok (.iconst (-1), 1) := by decide +kernel
theorem dX0_search_2 : decode cX0_search 2 = .ok (.putfield 18, 3) := by decide +kernel
theorem dX0_search_5 : decode cX0_search 5 = .ok (.aload_n 0, 1) := by decide +kernel
theorem dX0_search_6 : decode cX0_search 6 = .ok (.iconst 0, 1) := by decide +kernel
theorem dX0_search_7 : decode cX0_search 7 = .ok (.putfield 22, 3) := by decide +kernel
theorem dX0_search_10 : decode cX0_search 10 = .ok (.aload_n 0, 1) := by decide +kernel
theorem dX0_search_11 : decode cX0_search 11 = .ok (.aload_n 1, 1) := by decide +kernel
theorem dX0_search_12 : decode cX0_search 12 = .ok (.iload_n 2, 1) := by decide +kernel
theorem dX0_search_13 : decode cX0_search 13 = .ok (.iconst 0, 1) := by decide +kernel
theorem dX0_search_14 : decode cX0_search 14 = .ok (.iconst 0, 1) := by decide +kernel
theorem dX0_search_15 : decode cX0_search 15 = .ok (.invokevirtual 25, 3) := by decide +kernel
theorem dX0_search_18 : decode cX0_search 18 = .ok (.return_, 1) := by decide +kernel
theorem dX0_extend_0 : decode cX0_extend 0 = .ok (.iload_n 3, 1) := by decide +kernel
theorem dX0_extend_1 : decode cX0_extend 1 = .ok (.aload_n 1, 1) := by decide +kernel
theorem dX0_extend_2 : decode cX0_extend 2 = .ok (.getfield 29, 3) := by decide +kernel
theorem dX0_extend_5 : decode cX0_extend 5 = .ok (.if_icmp .lt 10, 3) := by decide +kernel
theorem dX0_extend_8 : decode cX0_extend 8 = .ok (.aload_n 0, 1) := by decide +kernel
theorem dX0_extend_9 : decode cX0_extend 9 = .ok (.aload_n 1, 1) := by decide +kernel
theorem dX0_extend_10 : decode cX0_extend 10 = .ok (.iload_n 2, 1) := by decide +kernel
theorem dX0_extend_11 : decode cX0_extend 11 = .ok (.invokevirtual 34, 3) := by decide +kernel
theorem dX0_extend_14 : decode cX0_extend 14 = .ok (.return_, 1) := by decide +kernel
theorem dX0_extend_15 : decode cX0_extend 15 = .ok (.iconst 0, 1) := by decide +kernel
theorem dX0_extend_16 : decode cX0_extend 16 = .ok (.istore 5, 2) := by decide +kernel
theorem dX0_extend_18 : decode cX0_extend 18 = .ok (.iload 5, 2) := by decide +kernel
theorem dX0_extend_20 : decode cX0_extend 20 = .ok (.aload_n 1, 1) := by decide +kernel
theorem dX0_extend_21 : decode cX0_extend 21 = .ok (.getfield 29, 3) := by decide +kernel
theorem dX0_extend_24 : decode cX0_extend 24 = .ok (.if_icmp .ge 43, 3) := by decide +kernel
theorem dX0_extend_27 : decode cX0_extend 27 = .ok (.iload 4, 2) := by decide +kernel
theorem dX0_extend_29 : decode cX0_extend 29 = .ok (.iload 5, 2) := by decide +kernel
theorem dX0_extend_31 : decode cX0_extend 31 = .ok (.ishr, 1) := by decide +kernel
theorem dX0_extend_32 : decode cX0_extend 32 = .ok (.iconst 1, 1) := by decide +kernel
theorem dX0_extend_33 : decode cX0_extend 33 = .ok (.iand, 1) := by decide +kernel
theorem dX0_extend_34 : decode cX0_extend 34 = .ok (.ifCond .ne 27, 3) := by decide +kernel
theorem dX0_extend_37 : decode cX0_extend 37 = .ok (.aload_n 0, 1) := by decide +kernel
theorem dX0_extend_38 : decode cX0_extend 38 = .ok (.getfield 15, 3) := by decide +kernel
theorem dX0_extend_41 : decode cX0_extend 41 = .ok (.iload_n 3, 1) := by decide +kernel
theorem dX0_extend_42 : decode cX0_extend 42 = .ok (.iload 5, 2) := by decide +kernel
theorem dX0_extend_44 : decode cX0_extend 44 = .ok (.iastore, 1) := by decide +kernel
theorem dX0_extend_45 : decode cX0_extend 45 = .ok (.aload_n 0, 1) := by decide +kernel
theorem dX0_extend_46 : decode cX0_extend 46 = .ok (.aload_n 1, 1) := by decide +kernel
theorem dX0_extend_47 : decode cX0_extend 47 = .ok (.iload_n 2, 1) := by decide +kernel
theorem dX0_extend_48 : decode cX0_extend 48 = .ok (.iload_n 3, 1) := by decide +kernel
theorem dX0_extend_49 : decode cX0_extend 49 = .ok (.iconst 1, 1) := by decide +kernel
theorem dX0_extend_50 : decode cX0_extend 50 = .ok (.iadd, 1) := by decide +kernel
theorem dX0_extend_51 : decode cX0_extend 51 = .ok (.iload 4, 2) := by decide +kernel
theorem dX0_extend_53 : decode cX0_extend 53 = .ok (.iconst 1, 1) := by decide +kernel
theorem dX0_extend_54 : decode cX0_extend 54 = .ok (.iload 5, 2) := by decide +kernel
theorem dX0_extend_56 : decode cX0_extend 56 = .ok (.ishl, 1) := by decide +kernel
theorem dX0_extend_57 : decode cX0_extend 57 = .ok (.ior, 1) := by decide +kernel
theorem dX0_extend_58 : decode cX0_extend 58 = .ok (.invokevirtual 25, 3) := by decide +kernel
theorem dX0_extend_61 : decode cX0_extend 61 = .ok (.iinc 5 1, 3) := by decide +kernel
theorem dX0_extend_64 : decode cX0_extend 64 = .ok (.goto (-46), 3) := by decide +kernel
theorem dX0_extend_67 : decode cX0_extend 67 = .ok (.return_, 1) := by decide +kernel
theorem dX0_weighTried_0 : decode cX0_weighTried 0 = .ok (.aload_n 0, 1) := by decide +kernel
theorem dX0_weighTried_1 : decode cX0_weighTried 1 = .ok (.getfield 15, 3) := by decide +kernel
theorem dX0_weighTried_4 : decode cX0_weighTried 4 = .ok (.aload_n 1, 1) := by decide +kernel
theorem dX0_weighTried_5 : decode cX0_weighTried 5 = .ok (.getfield 29, 3) := by decide +kernel
theorem dX0_weighTried_8 : decode cX0_weighTried 8 = .ok (.iload_n 2, 1) := by decide +kernel
theorem dX0_weighTried_9 : decode cX0_weighTried 9 = .ok (.invokestatic 38, 3) := by decide +kernel
theorem dX0_weighTried_12 : decode cX0_weighTried 12 = .ok (.istore_n 3, 1) := by decide +kernel
theorem dX0_weighTried_13 : decode cX0_weighTried 13 = .ok (.aload_n 0, 1) := by decide +kernel
theorem dX0_weighTried_14 : decode cX0_weighTried 14 = .ok (.getfield 18, 3) := by decide +kernel
theorem dX0_weighTried_17 : decode cX0_weighTried 17 = .ok (.iconst (-1), 1) := by decide +kernel
theorem dX0_weighTried_18 : decode cX0_weighTried 18 = .ok (.if_icmp .eq 12, 3) := by decide +kernel
theorem dX0_weighTried_21 : decode cX0_weighTried 21 = .ok (.iload_n 3, 1) := by decide +kernel
theorem dX0_weighTried_22 : decode cX0_weighTried 22 = .ok (.aload_n 0, 1) := by decide +kernel
theorem dX0_weighTried_23 : decode cX0_weighTried 23 = .ok (.getfield 18, 3) := by decide +kernel
theorem dX0_weighTried_26 : decode cX0_weighTried 26 = .ok (.if_icmp .le 4, 3) := by decide +kernel
theorem dX0_weighTried_29 : decode cX0_weighTried 29 = .ok (.return_, 1) := by decide +kernel
theorem dX0_weighTried_30 : decode cX0_weighTried 30 = .ok (.aload_n 0, 1) := by decide +kernel
theorem dX0_weighTried_31 : decode cX0_weighTried 31 = .ok (.aload_n 1, 1) := by decide +kernel
theorem dX0_weighTried_32 : decode cX0_weighTried 32 = .ok (.invokevirtual 42, 3) := by decide +kernel
theorem dX0_weighTried_35 : decode cX0_weighTried 35 = .ok (.istore 4, 2) := by decide +kernel
theorem dX0_weighTried_37 : decode cX0_weighTried 37 = .ok (.aload_n 0, 1) := by decide +kernel
theorem dX0_weighTried_38 : decode cX0_weighTried 38 = .ok (.getfield 18, 3) := by decide +kernel
theorem dX0_weighTried_41 : decode cX0_weighTried 41 = .ok (.iconst (-1), 1) := by decide +kernel
theorem dX0_weighTried_42 : decode cX0_weighTried 42 = .ok (.if_icmp .eq 20, 3) := by decide +kernel
theorem dX0_weighTried_45 : decode cX0_weighTried 45 = .ok (.iload_n 3, 1) := by decide +kernel
theorem dX0_weighTried_46 : decode cX0_weighTried 46 = .ok (.aload_n 0, 1) := by decide +kernel
theorem dX0_weighTried_47 : decode cX0_weighTried 47 = .ok (.getfield 18, 3) := by decide +kernel
theorem dX0_weighTried_50 : decode cX0_weighTried 50 = .ok (.if_icmp .lt 12, 3) := by decide +kernel
theorem dX0_weighTried_53 : decode cX0_weighTried 53 = .ok (.iload 4, 2) := by decide +kernel
theorem dX0_weighTried_55 : decode cX0_weighTried 55 = .ok (.aload_n 0, 1) := by decide +kernel
theorem dX0_weighTried_56 : decode cX0_weighTried 56 = .ok (.getfield 22, 3) := by decide +kernel
theorem dX0_weighTried_59 : decode cX0_weighTried 59 = .ok (.if_icmp .ge 28, 3) := by decide +kernel
theorem dX0_weighTried_62 : decode cX0_weighTried 62 = .ok (.aload_n 0, 1) := by decide +kernel
theorem dX0_weighTried_63 : decode cX0_weighTried 63 = .ok (.iload_n 3, 1) := by decide +kernel
theorem dX0_weighTried_64 : decode cX0_weighTried 64 = .ok (.putfield 18, 3) := by decide +kernel
theorem dX0_weighTried_67 : decode cX0_weighTried 67 = .ok (.aload_n 0, 1) := by decide +kernel
theorem dX0_weighTried_68 : decode cX0_weighTried 68 = .ok (.iload 4, 2) := by decide +kernel
theorem dX0_weighTried_70 : decode cX0_weighTried 70 = .ok (.putfield 22, 3) := by decide +kernel
theorem dX0_weighTried_73 : decode cX0_weighTried 73 = .ok (.aload_n 0, 1) := by decide +kernel
theorem dX0_weighTried_74 : decode cX0_weighTried 74 = .ok (.getfield 15, 3) := by decide +kernel
theorem dX0_weighTried_77 : decode cX0_weighTried 77 = .ok (.iconst 0, 1) := by decide +kernel
theorem dX0_weighTried_78 : decode cX0_weighTried 78 = .ok (.aload_n 0, 1) := by decide +kernel
theorem dX0_weighTried_79 : decode cX0_weighTried 79 = .ok (.getfield 9, 3) := by decide +kernel
theorem dX0_weighTried_82 : decode cX0_weighTried 82 = .ok (.iconst 0, 1) := by decide +kernel
theorem dX0_weighTried_83 : decode cX0_weighTried 83 = .ok (.iconst 5, 1) := by decide +kernel
theorem dX0_weighTried_84 : decode cX0_weighTried 84 = .ok (.invokestatic 46, 3) := by decide +kernel
theorem dX0_weighTried_87 : decode cX0_weighTried 87 = .ok (.return_, 1) := by decide +kernel
theorem dX0_changesTo_0 : decode cX0_changesTo 0 = .ok (.iconst 0, 1) := by decide +kernel
theorem dX0_changesTo_1 : decode cX0_changesTo 1 = .ok (.istore_n 2, 1) := by decide +kernel
theorem dX0_changesTo_2 : decode cX0_changesTo 2 = .ok (.iconst 0, 1) := by decide +kernel
theorem dX0_changesTo_3 : decode cX0_changesTo 3 = .ok (.istore_n 3, 1) := by decide +kernel
theorem dX0_changesTo_4 : decode cX0_changesTo 4 = .ok (.iload_n 3, 1) := by decide +kernel
theorem dX0_changesTo_5 : decode cX0_changesTo 5 = .ok (.aload_n 1, 1) := by decide +kernel
theorem dX0_changesTo_6 : decode cX0_changesTo 6 = .ok (.getfield 29, 3) := by decide +kernel
theorem dX0_changesTo_9 : decode cX0_changesTo 9 = .ok (.if_icmp .ge 58, 3) := by decide +kernel
theorem dX0_changesTo_12 : decode cX0_changesTo 12 = .ok (.iload_n 3, 1) := by decide +kernel
theorem dX0_changesTo_13 : decode cX0_changesTo 13 = .ok (.iconst 1, 1) := by decide +kernel
theorem dX0_changesTo_14 : decode cX0_changesTo 14 = .ok (.iadd, 1) := by decide +kernel
theorem dX0_changesTo_15 : decode cX0_changesTo 15 = .ok (.istore 4, 2) := by decide +kernel
theorem dX0_changesTo_17 : decode cX0_changesTo 17 = .ok (.iload 4, 2) := by decide +kernel
theorem dX0_changesTo_19 : decode cX0_changesTo 19 = .ok (.aload_n 1, 1) := by decide +kernel
theorem dX0_changesTo_20 : decode cX0_changesTo 20 = .ok (.getfield 29, 3) := by decide +kernel
theorem dX0_changesTo_23 : decode cX0_changesTo 23 = .ok (.if_icmp .ge 38, 3) := by decide +kernel
theorem dX0_changesTo_26 : decode cX0_changesTo 26 = .ok (.aload_n 1, 1) := by decide +kernel
theorem dX0_changesTo_27 : decode cX0_changesTo 27 = .ok (.getfield 52, 3) := by decide +kernel
theorem dX0_changesTo_30 : decode cX0_changesTo 30 = .ok (.aload_n 0, 1) := by decide +kernel
theorem dX0_changesTo_31 : decode cX0_changesTo 31 = .ok (.getfield 15, 3) := by decide +kernel
theorem dX0_changesTo_34 : decode cX0_changesTo 34 = .ok (.iload_n 3, 1) := by decide +kernel
theorem dX0_changesTo_35 : decode cX0_changesTo 35 = .ok (.iaload, 1) := by decide +kernel
theorem dX0_changesTo_36 : decode cX0_changesTo 36 = .ok (.iaload, 1) := by decide +kernel
theorem dX0_changesTo_37 : decode cX0_changesTo 37 = .ok (.aload_n 1, 1) := by decide +kernel
theorem dX0_changesTo_38 : decode cX0_changesTo 38 = .ok (.getfield 52, 3) := by decide +kernel
theorem dX0_changesTo_41 : decode cX0_changesTo 41 = .ok (.aload_n 0, 1) := by decide +kernel
theorem dX0_changesTo_42 : decode cX0_changesTo 42 = .ok (.getfield 15, 3) := by decide +kernel
theorem dX0_changesTo_45 : decode cX0_changesTo 45 = .ok (.iload 4, 2) := by decide +kernel
theorem dX0_changesTo_47 : decode cX0_changesTo 47 = .ok (.iaload, 1) := by decide +kernel
theorem dX0_changesTo_48 : decode cX0_changesTo 48 = .ok (.iaload, 1) := by decide +kernel
theorem dX0_changesTo_49 : decode cX0_changesTo 49 = .ok (.if_icmp .le 6, 3) := by decide +kernel
theorem dX0_changesTo_52 : decode cX0_changesTo 52 = .ok (.iinc 2 1, 3) := by decide +kernel
theorem dX0_changesTo_55 : decode cX0_changesTo 55 = .ok (.iinc 4 1, 3) := by decide +kernel
theorem dX0_changesTo_58 : decode cX0_changesTo 58 = .ok (.goto (-41), 3) := by decide +kernel
theorem dX0_changesTo_61 : decode cX0_changesTo 61 = .ok (.iinc 3 1, 3) := by decide +kernel
theorem dX0_changesTo_64 : decode cX0_changesTo 64 = .ok (.goto (-60), 3) := by decide +kernel
theorem dX0_changesTo_67 : decode cX0_changesTo 67 = .ok (.iload_n 2, 1) := by decide +kernel
theorem dX0_changesTo_68 : decode cX0_changesTo 68 = .ok (.ireturn, 1) := by decide +kernel
theorem dX1_init_0 : decode cX1_init 0 = .ok (.aload_n 0, 1) := by decide +kernel
theorem dX1_init_1 : decode cX1_init 1 = .ok (.invokespecial 3, 3) := by decide +kernel
theorem dX1_init_4 : decode cX1_init 4 = .ok (.aload_n 0, 1) := by decide +kernel
theorem dX1_init_5 : decode cX1_init 5 = .ok (.new 9, 3) := by decide +kernel
theorem dX1_init_8 : decode cX1_init 8 = .ok (.dup, 1) := by decide +kernel
theorem dX1_init_9 : decode cX1_init 9 = .ok (.invokespecial 11, 3) := by decide +kernel
theorem dX1_init_12 : decode cX1_init 12 = .ok (.putfield 12, 3) := by decide +kernel
theorem dX1_init_15 : decode cX1_init 15 = .ok (.aload_n 0, 1) := by decide +kernel
theorem dX1_init_16 : decode cX1_init 16 = .ok (.iconst 5, 1) := by decide +kernel
theorem dX1_init_17 : decode cX1_init 17 = .ok (.newarray .int, 2) := by decide +kernel
theorem dX1_init_19 : decode cX1_init 19 = .ok (.putfield 18, 3) := by decide +kernel
theorem dX1_init_22 : decode cX1_init 22 = .ok (.aload_n 0, 1) := by decide +kernel
theorem dX1_init_23 : decode cX1_init 23 = .ok (.iconst 5, 1) := by decide +kernel
theorem dX1_init_24 : decode cX1_init 24 = .ok (.newarray .int, 2) := by decide +kernel
theorem dX1_init_26 : decode cX1_init 26 = .ok (.putfield 22, 3) := by decide +kernel
theorem dX1_init_29 : decode cX1_init 29 = .ok (.aload_n 0, 1) := by decide +kernel
theorem dX1_init_30 : decode cX1_init 30 = .ok (.iconst 5, 1) := by decide +kernel
theorem dX1_init_31 : decode cX1_init 31 = .ok (.newarray .int, 2) := by decide +kernel
theorem dX1_init_33 : decode cX1_init 33 = .ok (.putfield 25, 3) := by decide +kernel
theorem dX1_init_36 : decode cX1_init 36 = .ok (.aload_n 0, 1) := by decide +kernel
theorem dX1_init_37 : decode cX1_init 37 = .ok (.iconst 5, 1) := by decide +kernel
theorem dX1_init_38 : decode cX1_init 38 = .ok (.newarray .int, 2) := by decide +kernel
theorem dX1_init_40 : decode cX1_init 40 = .ok (.putfield 28, 3) := by decide +kernel
theorem dX1_init_43 : decode cX1_init 43 = .ok (.return_, 1) := by decide +kernel
theorem dX1_fallsBy_0 : decode cX1_fallsBy 0 = .ok (.bipush 10, 2) := by decide +kernel
theorem dX1_fallsBy_2 : decode cX1_fallsBy 2 = .ok (.aload_n 1, 1) := by decide +kernel
theorem dX1_fallsBy_3 : decode cX1_fallsBy 3 = .ok (.getfield 31, 3) := by decide +kernel
theorem dX1_fallsBy_6 : decode cX1_fallsBy 6 = .ok (.isub, 1) := by decide +kernel
theorem dX1_fallsBy_7 : decode cX1_fallsBy 7 = .ok (.aload_n 0, 1) := by decide +kernel
theorem dX1_fallsBy_8 : decode cX1_fallsBy 8 = .ok (.getfield 12, 3) := by decide +kernel
theorem dX1_fallsBy_11 : decode cX1_fallsBy 11 = .ok (.iconst 1, 1) := by decide +kernel
theorem dX1_fallsBy_12 : decode cX1_fallsBy 12 = .ok (.aload_n 1, 1) := by decide +kernel
theorem dX1_fallsBy_13 : decode cX1_fallsBy 13 = .ok (.iload_n 2, 1) := by decide +kernel
theorem dX1_fallsBy_14 : decode cX1_fallsBy 14 = .ok (.iconst 0, 1) := by decide +kernel
theorem dX1_fallsBy_15 : decode cX1_fallsBy 15 = .ok (.invokevirtual 37, 3) := by decide +kernel
theorem dX1_fallsBy_18 : decode cX1_fallsBy 18 = .ok (.iadd, 1) := by decide +kernel
theorem dX1_fallsBy_19 : decode cX1_fallsBy 19 = .ok (.ireturn, 1) := by decide +kernel
theorem dX1_fall_0 : decode cX1_fall 0 = .ok (.aload_n 1, 1) := by decide +kernel
theorem dX1_fall_1 : decode cX1_fall 1 = .ok (.getfield 41, 3) := by decide +kernel
theorem dX1_fall_4 : decode cX1_fall 4 = .ok (.astore_n 2, 1) := by decide +kernel
theorem dX1_fall_5 : decode cX1_fall 5 = .ok (.iconst 0, 1) := by decide +kernel
theorem dX1_fall_6 : decode cX1_fall 6 = .ok (.istore_n 3, 1) := by decide +kernel
theorem dX1_fall_7 : decode cX1_fall 7 = .ok (.iload_n 3, 1) := by decide +kernel
theorem dX1_fall_8 : decode cX1_fall 8 = .ok (.aload_n 2, 1) := by decide +kernel
theorem dX1_fall_9 : decode cX1_fall 9 = .ok (.getfield 45, 3) := by decide +kernel
theorem dX1_fall_12 : decode cX1_fall 12 = .ok (.if_icmp .ge 32, 3) := by decide +kernel
theorem dX1_fall_15 : decode cX1_fall 15 = .ok (.aload_n 2, 1) := by decide +kernel
theorem dX1_fall_16 : decode cX1_fall 16 = .ok (.getfield 50, 3) := by decide +kernel
theorem dX1_fall_19 : decode cX1_fall 19 = .ok (.iload_n 3, 1) := by decide +kernel
theorem dX1_fall_20 : decode cX1_fall 20 = .ok (.iconst 0, 1) := by decide +kernel
theorem dX1_fall_21 : decode cX1_fall 21 = .ok (.aload_n 2, 1) := by decide +kernel
theorem dX1_fall_22 : decode cX1_fall 22 = .ok (.getfield 50, 3) := by decide +kernel
theorem dX1_fall_25 : decode cX1_fall 25 = .ok (.iload_n 3, 1) := by decide +kernel
theorem dX1_fall_26 : decode cX1_fall 26 = .ok (.iaload, 1) := by decide +kernel
theorem dX1_fall_27 : decode cX1_fall 27 = .ok (.aload_n 0, 1) := by decide +kernel
theorem dX1_fall_28 : decode cX1_fall 28 = .ok (.aload_n 1, 1) := by decide +kernel
theorem dX1_fall_29 : decode cX1_fall 29 = .ok (.iload_n 3, 1) := by decide +kernel
theorem dX1_fall_30 : decode cX1_fall 30 = .ok (.invokevirtual 53, 3) := by decide +kernel
theorem dX1_fall_33 : decode cX1_fall 33 = .ok (.isub, 1) := by decide +kernel
theorem dX1_fall_34 : decode cX1_fall 34 = .ok (.invokestatic 57, 3) := by decide +kernel
theorem dX1_fall_37 : decode cX1_fall 37 = .ok (.iastore, 1) := by decide +kernel
theorem dX1_fall_38 : decode cX1_fall 38 = .ok (.iinc 3 1, 3) := by decide +kernel
theorem dX1_fall_41 : decode cX1_fall 41 = .ok (.goto (-34), 3) := by decide +kernel
theorem dX1_fall_44 : decode cX1_fall 44 = .ok (.return_, 1) := by decide +kernel
theorem dX1_wouldBePale_0 : decode cX1_wouldBePale 0 = .ok (.iconst 0, 1) := by decide +kernel
theorem dX1_wouldBePale_1 : decode cX1_wouldBePale 1 = .ok (.istore_n 2, 1) := by decide +kernel
theorem dX1_wouldBePale_2 : decode cX1_wouldBePale 2 = .ok (.iconst 0, 1) := by decide +kernel
theorem dX1_wouldBePale_3 : decode cX1_wouldBePale 3 = .ok (.istore_n 3, 1) := by decide +kernel
theorem dX1_wouldBePale_4 : decode cX1_wouldBePale 4 = .ok (.iload_n 3, 1) := by decide +kernel
theorem dX1_wouldBePale_5 : decode cX1_wouldBePale 5 = .ok (.aload_n 1, 1) := by decide +kernel
theorem dX1_wouldBePale_6 : decode cX1_wouldBePale 6 = .ok (.getfield 41, 3) := by decide +kernel
theorem dX1_wouldBePale_9 : decode cX1_wouldBePale 9 = .ok (.getfield 45, 3) := by decide +kernel
theorem dX1_wouldBePale_12 : decode cX1_wouldBePale 12 = .ok (.if_icmp .ge 30, 3) := by decide +kernel
theorem dX1_wouldBePale_15 : decode cX1_wouldBePale 15 = .ok (.aload_n 1, 1) := by decide +kernel
theorem dX1_wouldBePale_16 : decode cX1_wouldBePale 16 = .ok (.getfield 41, 3) := by decide +kernel
theorem dX1_wouldBePale_19 : decode cX1_wouldBePale 19 = .ok (.getfield 50, 3) := by decide +kernel
theorem dX1_wouldBePale_22 : decode cX1_wouldBePale 22 = .ok (.iload_n 3, 1) := by decide +kernel
theorem dX1_wouldBePale_23 : decode cX1_wouldBePale 23 = .ok (.iaload, 1) := by decide +kernel
theorem dX1_wouldBePale_24 : decode cX1_wouldBePale 24 = .ok (.aload_n 0, 1) := by decide +kernel
theorem dX1_wouldBePale_25 : decode cX1_wouldBePale 25 = .ok (.aload_n 1, 1) := by decide +kernel
theorem dX1_wouldBePale_26 : decode cX1_wouldBePale 26 = .ok (.iload_n 3, 1) := by decide +kernel
theorem dX1_wouldBePale_27 : decode cX1_wouldBePale 27 = .ok (.invokevirtual 53, 3) := by decide +kernel
theorem dX1_wouldBePale_30 : decode cX1_wouldBePale 30 = .ok (.if_icmp .gt 6, 3) := by decide +kernel
theorem dX1_wouldBePale_33 : decode cX1_wouldBePale 33 = .ok (.iinc 2 1, 3) := by decide +kernel
theorem dX1_wouldBePale_36 : decode cX1_wouldBePale 36 = .ok (.iinc 3 1, 3) := by decide +kernel
theorem dX1_wouldBePale_39 : decode cX1_wouldBePale 39 = .ok (.goto (-35), 3) := by decide +kernel
theorem dX1_wouldBePale_42 : decode cX1_wouldBePale 42 = .ok (.iload_n 2, 1) := by decide +kernel
theorem dX1_wouldBePale_43 : decode cX1_wouldBePale 43 = .ok (.ireturn, 1) := by decide +kernel
theorem dX1_raise_0 : decode cX1_raise 0 = .ok (.aload_n 1, 1) := by decide +kernel
theorem dX1_raise_1 : decode cX1_raise 1 = .ok (.getfield 41, 3) := by decide +kernel
theorem dX1_raise_4 : decode cX1_raise 4 = .ok (.astore 4, 2) := by decide +kernel
theorem dX1_raise_6 : decode cX1_raise 6 = .ok (.iconst 0, 1) := by decide +kernel
theorem dX1_raise_7 : decode cX1_raise 7 = .ok (.istore 5, 2) := by decide +kernel
theorem dX1_raise_9 : decode cX1_raise 9 = .ok (.iload 5, 2) := by decide +kernel
theorem dX1_raise_11 : decode cX1_raise 11 = .ok (.aload 4, 2) := by decide +kernel
theorem dX1_raise_13 : decode cX1_raise 13 = .ok (.getfield 45, 3) := by decide +kernel
theorem dX1_raise_16 : decode cX1_raise 16 = .ok (.if_icmp .ge 77, 3) := by decide +kernel
theorem dX1_raise_19 : decode cX1_raise 19 = .ok (.aload_n 0, 1) := by decide +kernel
theorem dX1_raise_20 : decode cX1_raise 20 = .ok (.getfield 18, 3) := by decide +kernel
theorem dX1_raise_23 : decode cX1_raise 23 = .ok (.iload 5, 2) := by decide +kernel
theorem dX1_raise_25 : decode cX1_raise 25 = .ok (.aload_n 1, 1) := by decide +kernel
theorem dX1_raise_26 : decode cX1_raise 26 = .ok (.iload_n 2, 1) := by decide +kernel
theorem dX1_raise_27 : decode cX1_raise 27 = .ok (.iload 5, 2) := by decide +kernel
theorem dX1_raise_29 : decode cX1_raise 29 = .ok (.iload_n 3, 1) := by decide +kernel
theorem dX1_raise_30 : decode cX1_raise 30 = .ok (.invokevirtual 63, 3) := by decide +kernel
theorem dX1_raise_33 : decode cX1_raise 33 = .ok (.iastore, 1) := by decide +kernel
theorem dX1_raise_34 : decode cX1_raise 34 = .ok (.aload_n 0, 1) := by decide +kernel
theorem dX1_raise_35 : decode cX1_raise 35 = .ok (.getfield 22, 3) := by decide +kernel
theorem dX1_raise_38 : decode cX1_raise 38 = .ok (.iload 5, 2) := by decide +kernel
theorem dX1_raise_40 : decode cX1_raise 40 = .ok (.aload_n 0, 1) := by decide +kernel
theorem dX1_raise_41 : decode cX1_raise 41 = .ok (.aload_n 1, 1) := by decide +kernel
theorem dX1_raise_42 : decode cX1_raise 42 = .ok (.iload 5, 2) := by decide +kernel
theorem dX1_raise_44 : decode cX1_raise 44 = .ok (.invokevirtual 67, 3) := by decide +kernel
theorem dX1_raise_47 : decode cX1_raise 47 = .ok (.iastore, 1) := by decide +kernel
theorem dX1_raise_48 : decode cX1_raise 48 = .ok (.aload_n 0, 1) := by decide +kernel
theorem dX1_raise_49 : decode cX1_raise 49 = .ok (.getfield 25, 3) := by decide +kernel
theorem dX1_raise_52 : decode cX1_raise 52 = .ok (.iload 5, 2) := by decide +kernel
theorem dX1_raise_54 : decode cX1_raise 54 = .ok (.aload_n 0, 1) := by decide +kernel
theorem dX1_raise_55 : decode cX1_raise 55 = .ok (.getfield 22, 3) := by decide +kernel
theorem dX1_raise_58 : decode cX1_raise 58 = .ok (.iload 5, 2) := by decide +kernel
theorem dX1_raise_60 : decode cX1_raise 60 = .ok (.iaload, 1) := by decide +kernel
theorem dX1_raise_61 : decode cX1_raise 61 = .ok (.ifCond .ne 7, 3) := by decide +kernel
theorem dX1_raise_64 : decode cX1_raise 64 = .ok (.iconst 0, 1) := by decide +kernel
theorem dX1_raise_65 : decode cX1_raise 65 = .ok (.goto 21, 3) := by decide +kernel
theorem dX1_raise_68 : decode cX1_raise 68 = .ok (.aload_n 0, 1) := by decide +kernel
theorem dX1_raise_69 : decode cX1_raise 69 = .ok (.getfield 22, 3) := by decide +kernel
theorem dX1_raise_72 : decode cX1_raise 72 = .ok (.iload 5, 2) := by decide +kernel
theorem dX1_raise_74 : decode cX1_raise 74 = .ok (.iaload, 1) := by decide +kernel
theorem dX1_raise_75 : decode cX1_raise 75 = .ok (.aload_n 0, 1) := by decide +kernel
theorem dX1_raise_76 : decode cX1_raise 76 = .ok (.aload_n 1, 1) := by decide +kernel
theorem dX1_raise_77 : decode cX1_raise 77 = .ok (.iload 5, 2) := by decide +kernel
theorem dX1_raise_79 : decode cX1_raise 79 = .ok (.invokevirtual 70, 3) := by decide +kernel
theorem dX1_raise_82 : decode cX1_raise 82 = .ok (.imul, 1) := by decide +kernel
theorem dX1_raise_83 : decode cX1_raise 83 = .ok (.bipush 100, 2) := by decide +kernel
theorem dX1_raise_85 : decode cX1_raise 85 = .ok (.idiv, 1) := by decide +kernel
theorem dX1_raise_86 : decode cX1_raise 86 = .ok (.iastore, 1) := by decide +kernel
theorem dX1_raise_87 : decode cX1_raise 87 = .ok (.iinc 5 1, 3) := by decide +kernel
theorem dX1_raise_90 : decode cX1_raise 90 = .ok (.goto (-81), 3) := by decide +kernel
theorem dX1_raise_93 : decode cX1_raise 93 = .ok (.iconst 0, 1) := by decide +kernel
theorem dX1_raise_94 : decode cX1_raise 94 = .ok (.istore 5, 2) := by decide +kernel
theorem dX1_raise_96 : decode cX1_raise 96 = .ok (.iload 5, 2) := by decide +kernel
theorem dX1_raise_98 : decode cX1_raise 98 = .ok (.aload 4, 2) := by decide +kernel
theorem dX1_raise_100 : decode cX1_raise 100 = .ok (.getfield 45, 3) := by decide +kernel
theorem dX1_raise_103 : decode cX1_raise 103 = .ok (.if_icmp .ge 100, 3) := by decide +kernel
theorem dX1_raise_106 : decode cX1_raise 106 = .ok (.aload 4, 2) := by decide +kernel
theorem dX1_raise_108 : decode cX1_raise 108 = .ok (.getfield 73, 3) := by decide +kernel
theorem dX1_raise_111 : decode cX1_raise 111 = .ok (.iload 5, 2) := by decide +kernel
theorem dX1_raise_113 : decode cX1_raise 113 = .ok (.iaload, 1) := by decide +kernel
theorem dX1_raise_114 : decode cX1_raise 114 = .ok (.istore 6, 2) := by decide +kernel
theorem dX1_raise_116 : decode cX1_raise 116 = .ok (.aload_n 0, 1) := by decide +kernel
theorem dX1_raise_117 : decode cX1_raise 117 = .ok (.getfield 28, 3) := by decide +kernel
theorem dX1_raise_120 : decode cX1_raise 120 = .ok (.iload 6, 2) := by decide +kernel
theorem dX1_raise_122 : decode cX1_raise 122 = .ok (.aload_n 0, 1) := by decide +kernel
theorem dX1_raise_123 : decode cX1_raise 123 = .ok (.getfield 22, 3) := by decide +kernel
theorem dX1_raise_126 : decode cX1_raise 126 = .ok (.iload 6, 2) := by decide +kernel
theorem dX1_raise_128 : decode cX1_raise 128 = .ok (.iaload, 1) := by decide +kernel
theorem dX1_raise_129 : decode cX1_raise 129 = .ok (.iastore, 1) := by decide +kernel
theorem dX1_raise_130 : decode cX1_raise 130 = .ok (.iload 5, 2) := by decide +kernel
theorem dX1_raise_132 : decode cX1_raise 132 = .ok (.ifCond .le 28, 3) := by decide +kernel
theorem dX1_raise_135 : decode cX1_raise 135 = .ok (.aload_n 0, 1) := by decide +kernel
theorem dX1_raise_136 : decode cX1_raise 136 = .ok (.getfield 28, 3) := by decide +kernel
theorem dX1_raise_139 : decode cX1_raise 139 = .ok (.iload 6, 2) := by decide +kernel
theorem dX1_raise_141 : decode cX1_raise 141 = .ok (.dup2, 1) := by decide +kernel
theorem dX1_raise_142 : decode cX1_raise 142 = .ok (.iaload, 1) := by decide +kernel
theorem dX1_raise_143 : decode cX1_raise 143 = .ok (.aload_n 0, 1) := by decide +kernel
theorem dX1_raise_144 : decode cX1_raise 144 = .ok (.getfield 25, 3) := by decide +kernel
theorem dX1_raise_147 : decode cX1_raise 147 = .ok (.aload 4, 2) := by decide +kernel
theorem dX1_raise_149 : decode cX1_raise 149 = .ok (.getfield 73, 3) := by decide +kernel
theorem dX1_raise_152 : decode cX1_raise 152 = .ok (.iload 5, 2) := by decide +kernel
theorem dX1_raise_154 : decode cX1_raise 154 = .ok (.iconst 1, 1) := by decide +kernel
theorem dX1_raise_155 : decode cX1_raise 155 = .ok (.isub, 1) := by decide +kernel
theorem dX1_raise_156 : decode cX1_raise 156 = .ok (.iaload, 1) := by decide +kernel
theorem dX1_raise_157 : decode cX1_raise 157 = .ok (.iaload, 1) := by decide +kernel
theorem dX1_raise_158 : decode cX1_raise 158 = .ok (.iadd, 1) := by decide +kernel
theorem dX1_raise_159 : decode cX1_raise 159 = .ok (.iastore, 1) := by decide +kernel
theorem dX1_raise_160 : decode cX1_raise 160 = .ok (.iload 5, 2) := by decide +kernel
theorem dX1_raise_162 : decode cX1_raise 162 = .ok (.aload 4, 2) := by decide +kernel
theorem dX1_raise_164 : decode cX1_raise 164 = .ok (.getfield 45, 3) := by decide +kernel
theorem dX1_raise_167 : decode cX1_raise 167 = .ok (.iconst 1, 1) := by decide +kernel
theorem dX1_raise_168 : decode cX1_raise 168 = .ok (.isub, 1) := by decide +kernel
theorem dX1_raise_169 : decode cX1_raise 169 = .ok (.if_icmp .ge 28, 3) := by decide +kernel
theorem dX1_raise_172 : decode cX1_raise 172 = .ok (.aload_n 0, 1) := by decide +kernel
theorem dX1_raise_173 : decode cX1_raise 173 = .ok (.getfield 28, 3) := by decide +kernel
theorem dX1_raise_176 : decode cX1_raise 176 = .ok (.iload 6, 2) := by decide +kernel
theorem dX1_raise_178 : decode cX1_raise 178 = .ok (.dup2, 1) := by decide +kernel
theorem dX1_raise_179 : decode cX1_raise 179 = .ok (.iaload, 1) := by decide +kernel
theorem dX1_raise_180 : decode cX1_raise 180 = .ok (.aload_n 0, 1) := by decide +kernel
theorem dX1_raise_181 : decode cX1_raise 181 = .ok (.getfield 25, 3) := by decide +kernel
theorem dX1_raise_184 : decode cX1_raise 184 = .ok (.aload 4, 2) := by decide +kernel
theorem dX1_raise_186 : decode cX1_raise 186 = .ok (.getfield 73, 3) := by decide +kernel
theorem dX1_raise_189 : decode cX1_raise 189 = .ok (.iload 5, 2) := by decide +kernel
theorem dX1_raise_191 : decode cX1_raise 191 = .ok (.iconst 1, 1) := by decide +kernel
theorem dX1_raise_192 : decode cX1_raise 192 = .ok (.iadd, 1) := by decide +kernel
theorem dX1_raise_193 : decode cX1_raise 193 = .ok (.iaload, 1) := by decide +kernel
theorem dX1_raise_194 : decode cX1_raise 194 = .ok (.iaload, 1) := by decide +kernel
theorem dX1_raise_195 : decode cX1_raise 195 = .ok (.iadd, 1) := by decide +kernel
theorem dX1_raise_196 : decode cX1_raise 196 = .ok (.iastore, 1) := by decide +kernel
theorem dX1_raise_197 : decode cX1_raise 197 = .ok (.iinc 5 1, 3) := by decide +kernel
theorem dX1_raise_200 : decode cX1_raise 200 = .ok (.goto (-104), 3) := by decide +kernel
theorem dX1_raise_203 : decode cX1_raise 203 = .ok (.return_, 1) := by decide +kernel
theorem dX1_ownOf_0 : decode cX1_ownOf 0 = .ok (.aload_n 0, 1) := by decide +kernel
theorem dX1_ownOf_1 : decode cX1_ownOf 1 = .ok (.getfield 18, 3) := by decide +kernel
theorem dX1_ownOf_4 : decode cX1_ownOf 4 = .ok (.iload_n 2, 1) := by decide +kernel
theorem dX1_ownOf_5 : decode cX1_ownOf 5 = .ok (.iaload, 1) := by decide +kernel
theorem dX1_ownOf_6 : decode cX1_ownOf 6 = .ok (.istore_n 3, 1) := by decide +kernel
theorem dX1_ownOf_7 : decode cX1_ownOf 7 = .ok (.iload_n 3, 1) := by decide +kernel
theorem dX1_ownOf_8 : decode cX1_ownOf 8 = .ok (.ifCond .ne 5, 3) := by decide +kernel
theorem dX1_ownOf_11 : decode cX1_ownOf 11 = .ok (.iconst 0, 1) := by decide +kernel
theorem dX1_ownOf_12 : decode cX1_ownOf 12 = .ok (.ireturn, 1) := by decide +kernel
theorem dX1_ownOf_13 : decode cX1_ownOf 13 = .ok (.aload_n 1, 1) := by decide +kernel
theorem dX1_ownOf_14 : decode cX1_ownOf 14 = .ok (.getfield 41, 3) := by decide +kernel
theorem dX1_ownOf_17 : decode cX1_ownOf 17 = .ok (.astore 4, 2) := by decide +kernel
theorem dX1_ownOf_19 : decode cX1_ownOf 19 = .ok (.iload_n 3, 1) := by decide +kernel
theorem dX1_ownOf_20 : decode cX1_ownOf 20 = .ok (.aload 4, 2) := by decide +kernel
theorem dX1_ownOf_22 : decode cX1_ownOf 22 = .ok (.getfield 76, 3) := by decide +kernel
theorem dX1_ownOf_25 : decode cX1_ownOf 25 = .ok (.iload_n 2, 1) := by decide +kernel
theorem dX1_ownOf_26 : decode cX1_ownOf 26 = .ok (.iaload, 1) := by decide +kernel
theorem dX1_ownOf_27 : decode cX1_ownOf 27 = .ok (.imul, 1) := by decide +kernel
theorem dX1_ownOf_28 : decode cX1_ownOf 28 = .ok (.aload 4, 2) := by decide +kernel
theorem dX1_ownOf_30 : decode cX1_ownOf 30 = .ok (.getfield 79, 3) := by decide +kernel
theorem dX1_ownOf_33 : decode cX1_ownOf 33 = .ok (.iload_n 2, 1) := by decide +kernel
theorem dX1_ownOf_34 : decode cX1_ownOf 34 = .ok (.iaload, 1) := by decide +kernel
theorem dX1_ownOf_35 : decode cX1_ownOf 35 = .ok (.iadd, 1) := by decide +kernel
theorem dX1_ownOf_36 : decode cX1_ownOf 36 = .ok (.aload 4, 2) := by decide +kernel
theorem dX1_ownOf_38 : decode cX1_ownOf 38 = .ok (.getfield 82, 3) := by decide +kernel
theorem dX1_ownOf_41 : decode cX1_ownOf 41 = .ok (.iload_n 2, 1) := by decide +kernel
theorem dX1_ownOf_42 : decode cX1_ownOf 42 = .ok (.iaload, 1) := by decide +kernel
theorem dX1_ownOf_43 : decode cX1_ownOf 43 = .ok (.isub, 1) := by decide +kernel
theorem dX1_ownOf_44 : decode cX1_ownOf 44 = .ok (.istore 5, 2) := by decide +kernel
theorem dX1_ownOf_46 : decode cX1_ownOf 46 = .ok (.iconst 0, 1) := by decide +kernel
theorem dX1_ownOf_47 : decode cX1_ownOf 47 = .ok (.iload 5, 2) := by decide +kernel
theorem dX1_ownOf_49 : decode cX1_ownOf 49 = .ok (.aload_n 0, 1) := by decide +kernel
theorem dX1_ownOf_50 : decode cX1_ownOf 50 = .ok (.getfield 12, 3) := by decide +kernel
theorem dX1_ownOf_53 : decode cX1_ownOf 53 = .ok (.iconst 0, 1) := by decide +kernel
theorem dX1_ownOf_54 : decode cX1_ownOf 54 = .ok (.aload_n 1, 1) := by decide +kernel
theorem dX1_ownOf_55 : decode cX1_ownOf 55 = .ok (.iload_n 2, 1) := by decide +kernel
theorem dX1_ownOf_56 : decode cX1_ownOf 56 = .ok (.iload_n 3, 1) := by decide +kernel
theorem dX1_ownOf_57 : decode cX1_ownOf 57 = .ok (.invokevirtual 37, 3) := by decide +kernel
theorem dX1_ownOf_60 : decode cX1_ownOf 60 = .ok (.iadd, 1) := by decide +kernel
theorem dX1_ownOf_61 : decode cX1_ownOf 61 = .ok (.invokestatic 57, 3) := by decide +kernel
theorem dX1_ownOf_64 : decode cX1_ownOf 64 = .ok (.ireturn, 1) := by decide +kernel
theorem dX1_passes_0 : decode cX1_passes 0 = .ok (.aload_n 0, 1) := by decide +kernel
theorem dX1_passes_1 : decode cX1_passes 1 = .ok (.getfield 12, 3) := by decide +kernel
theorem dX1_passes_4 : decode cX1_passes 4 = .ok (.getfield 85, 3) := by decide +kernel
theorem dX1_passes_7 : decode cX1_passes 7 = .ok (.iconst (-1), 1) := by decide +kernel
theorem dX1_passes_8 : decode cX1_passes 8 = .ok (.if_icmp .ne 6, 3) := by decide +kernel
theorem dX1_passes_11 : decode cX1_passes 11 = .ok (.bipush 50, 2) := by decide +kernel
theorem dX1_passes_13 : decode cX1_passes 13 = .ok (.ireturn, 1) := by decide +kernel
theorem dX1_passes_14 : decode cX1_passes 14 = .ok (.bipush 99, 2) := by decide +kernel
theorem dX1_passes_16 : decode cX1_passes 16 = .ok (.aload_n 0, 1) := by decide +kernel
theorem dX1_passes_17 : decode cX1_passes 17 = .ok (.getfield 12, 3) := by decide +kernel
theorem dX1_passes_20 : decode cX1_passes 20 = .ok (.iconst 2, 1) := by decide +kernel
theorem dX1_passes_21 : decode cX1_passes 21 = .ok (.aload_n 1, 1) := by decide +kernel
theorem dX1_passes_22 : decode cX1_passes 22 = .ok (.iload_n 2, 1) := by decide +kernel
theorem dX1_passes_23 : decode cX1_passes 23 = .ok (.aload_n 0, 1) := by decide +kernel
theorem dX1_passes_24 : decode cX1_passes 24 = .ok (.getfield 18, 3) := by decide +kernel
theorem dX1_passes_27 : decode cX1_passes 27 = .ok (.iload_n 2, 1) := by decide +kernel
theorem dX1_passes_28 : decode cX1_passes 28 = .ok (.iaload, 1) := by decide +kernel
theorem dX1_passes_29 : decode cX1_passes 29 = .ok (.invokevirtual 37, 3) := by decide +kernel
theorem dX1_passes_32 : decode cX1_passes 32 = .ok (.invokestatic 88, 3) := by decide +kernel
theorem dX1_passes_35 : decode cX1_passes 35 = .ok (.ireturn, 1) := by decide +kernel
theorem dX1_givesAway_0 : decode cX1_givesAway 0 = .ok (.aload_n 0, 1) := by decide +kernel
theorem dX1_givesAway_1 : decode cX1_givesAway 1 = .ok (.getfield 28, 3) := by decide +kernel
theorem dX1_givesAway_4 : decode cX1_givesAway 4 = .ok (.iload_n 1, 1) := by decide +kernel
theorem dX1_givesAway_5 : decode cX1_givesAway 5 = .ok (.iaload, 1) := by decide +kernel
theorem dX1_givesAway_6 : decode cX1_givesAway 6 = .ok (.ifCond .le 16, 3) := by decide +kernel
theorem dX1_givesAway_9 : decode cX1_givesAway 9 = .ok (.aload_n 0, 1) := by decide +kernel
theorem dX1_givesAway_10 : decode cX1_givesAway 10 = .ok (.getfield 18, 3) := by decide +kernel
theorem dX1_givesAway_13 : decode cX1_givesAway 13 = .ok (.iload_n 1, 1) := by decide +kernel
theorem dX1_givesAway_14 : decode cX1_givesAway 14 = .ok (.iaload, 1) := by decide +kernel
theorem dX1_givesAway_15 : decode cX1_givesAway 15 = .ok (.ifCond .ne 7, 3) := by decide +kernel
theorem dX1_givesAway_18 : decode cX1_givesAway 18 = .ok (.iconst 1, 1) := by decide +kernel
theorem dX1_givesAway_19 : decode cX1_givesAway 19 = .ok (.goto 4, 3) := by decide +kernel
theorem dX1_givesAway_22 : decode cX1_givesAway 22 = .ok (.iconst 0, 1) := by decide +kernel
theorem dX1_givesAway_23 : decode cX1_givesAway 23 = .ok (.ireturn, 1) := by decide +kernel
theorem dX1_isSeen_0 : decode cX1_isSeen 0 = .ok (.aload_n 1, 1) := by decide +kernel
theorem dX1_isSeen_1 : decode cX1_isSeen 1 = .ok (.getfield 91, 3) := by decide +kernel
theorem dX1_isSeen_4 : decode cX1_isSeen 4 = .ok (.iload_n 2, 1) := by decide +kernel
theorem dX1_isSeen_5 : decode cX1_isSeen 5 = .ok (.iaload, 1) := by decide +kernel
theorem dX1_isSeen_6 : decode cX1_isSeen 6 = .ok (.istore 4, 2) := by decide +kernel
theorem dX1_isSeen_8 : decode cX1_isSeen 8 = .ok (.aload_n 1, 1) := by decide +kernel
theorem dX1_isSeen_9 : decode cX1_isSeen 9 = .ok (.getfield 41, 3) := by decide +kernel
theorem dX1_isSeen_12 : decode cX1_isSeen 12 = .ok (.getfield 50, 3) := by decide +kernel
theorem dX1_isSeen_15 : decode cX1_isSeen 15 = .ok (.iload_n 3, 1) := by decide +kernel
theorem dX1_isSeen_16 : decode cX1_isSeen 16 = .ok (.iaload, 1) := by decide +kernel
theorem dX1_isSeen_17 : decode cX1_isSeen 17 = .ok (.istore 5, 2) := by decide +kernel
theorem dX1_isSeen_19 : decode cX1_isSeen 19 = .ok (.iload 4, 2) := by decide +kernel
theorem dX1_isSeen_21 : decode cX1_isSeen 21 = .ok (.bipush 99, 2) := by decide +kernel
theorem dX1_isSeen_23 : decode cX1_isSeen 23 = .ok (.iload 5, 2) := by decide +kernel
theorem dX1_isSeen_25 : decode cX1_isSeen 25 = .ok (.aload_n 0, 1) := by decide +kernel
theorem dX1_isSeen_26 : decode cX1_isSeen 26 = .ok (.getfield 28, 3) := by decide +kernel
theorem dX1_isSeen_29 : decode cX1_isSeen 29 = .ok (.iload_n 3, 1) := by decide +kernel
theorem dX1_isSeen_30 : decode cX1_isSeen 30 = .ok (.iaload, 1) := by decide +kernel
theorem dX1_isSeen_31 : decode cX1_isSeen 31 = .ok (.iadd, 1) := by decide +kernel
theorem dX1_isSeen_32 : decode cX1_isSeen 32 = .ok (.invokestatic 88, 3) := by decide +kernel
theorem dX1_isSeen_35 : decode cX1_isSeen 35 = .ok (.invokestatic 94, 3) := by decide +kernel
theorem dX1_isSeen_38 : decode cX1_isSeen 38 = .ok (.iload 4, 2) := by decide +kernel
theorem dX1_isSeen_40 : decode cX1_isSeen 40 = .ok (.iload 5, 2) := by decide +kernel
theorem dX1_isSeen_42 : decode cX1_isSeen 42 = .ok (.invokestatic 94, 3) := by decide +kernel
theorem dX1_isSeen_45 : decode cX1_isSeen 45 = .ok (.if_icmp .le 7, 3) := by decide +kernel
theorem dX1_isSeen_48 : decode cX1_isSeen 48 = .ok (.iconst 1, 1) := by decide +kernel
theorem dX1_isSeen_49 : decode cX1_isSeen 49 = .ok (.goto 4, 3) := by decide +kernel
theorem dX1_isSeen_52 : decode cX1_isSeen 52 = .ok (.iconst 0, 1) := by decide +kernel
theorem dX1_isSeen_53 : decode cX1_isSeen 53 = .ok (.ireturn, 1) := by decide +kernel
theorem dX1_isFoundOut_0 : decode cX1_isFoundOut 0 = .ok (.iconst 0, 1) := by decide +kernel
theorem dX1_isFoundOut_1 : decode cX1_isFoundOut 1 = .ok (.istore_n 3, 1) := by decide +kernel
theorem dX1_isFoundOut_2 : decode cX1_isFoundOut 2 = .ok (.iload_n 3, 1) := by decide +kernel
theorem dX1_isFoundOut_3 : decode cX1_isFoundOut 3 = .ok (.aload_n 1, 1) := by decide +kernel
theorem dX1_isFoundOut_4 : decode cX1_isFoundOut 4 = .ok (.getfield 97, 3) := by decide +kernel
theorem dX1_isFoundOut_7 : decode cX1_isFoundOut 7 = .ok (.if_icmp .ge 21, 3) := by decide +kernel
theorem dX1_isFoundOut_10 : decode cX1_isFoundOut 10 = .ok (.aload_n 0, 1) := by decide +kernel
theorem dX1_isFoundOut_11 : decode cX1_isFoundOut 11 = .ok (.aload_n 1, 1) := by decide +kernel
theorem dX1_isFoundOut_12 : decode cX1_isFoundOut 12 = .ok (.iload_n 3, 1) := by decide +kernel
theorem dX1_isFoundOut_13 : decode cX1_isFoundOut 13 = .ok (.iload_n 2, 1) := by decide +kernel
theorem dX1_isFoundOut_14 : decode cX1_isFoundOut 14 = .ok (.invokevirtual 100, 3) := by decide +kernel
theorem dX1_isFoundOut_17 : decode cX1_isFoundOut 17 = .ok (.ifCond .eq 5, 3) := by decide +kernel
theorem dX1_isFoundOut_20 : decode cX1_isFoundOut 20 = .ok (.iconst 1, 1) := by decide +kernel
theorem dX1_isFoundOut_21 : decode cX1_isFoundOut 21 = .ok (.ireturn, 1) := by decide +kernel
theorem dX1_isFoundOut_22 : decode cX1_isFoundOut 22 = .ok (.iinc 3 1, 3) := by decide +kernel
theorem dX1_isFoundOut_25 : decode cX1_isFoundOut 25 = .ok (.goto (-23), 3) := by decide +kernel
theorem dX1_isFoundOut_28 : decode cX1_isFoundOut 28 = .ok (.iconst 0, 1) := by decide +kernel
theorem dX1_isFoundOut_29 : decode cX1_isFoundOut 29 = .ok (.ireturn, 1) := by decide +kernel
theorem dX1_seeingWomen_0 : decode cX1_seeingWomen 0 = .ok (.iconst 0, 1) := by decide +kernel
theorem dX1_seeingWomen_1 : decode cX1_seeingWomen 1 = .ok (.istore_n 2, 1) := by decide +kernel
theorem dX1_seeingWomen_2 : decode cX1_seeingWomen 2 = .ok (.iconst 0, 1) := by decide +kernel
theorem dX1_seeingWomen_3 : decode cX1_seeingWomen 3 = .ok (.istore_n 3, 1) := by decide +kernel
theorem dX1_seeingWomen_4 : decode cX1_seeingWomen 4 = .ok (.iload_n 3, 1) := by decide +kernel
theorem dX1_seeingWomen_5 : decode cX1_seeingWomen 5 = .ok (.aload_n 1, 1) := by decide +kernel
theorem dX1_seeingWomen_6 : decode cX1_seeingWomen 6 = .ok (.getfield 97, 3) := by decide +kernel
theorem dX1_seeingWomen_9 : decode cX1_seeingWomen 9 = .ok (.if_icmp .ge 47, 3) := by decide +kernel
theorem dX1_seeingWomen_12 : decode cX1_seeingWomen 12 = .ok (.iconst 0, 1) := by decide +kernel
theorem dX1_seeingWomen_13 : decode cX1_seeingWomen 13 = .ok (.istore 4, 2) := by decide +kernel
theorem dX1_seeingWomen_15 : decode cX1_seeingWomen 15 = .ok (.iload 4, 2) := by decide +kernel
theorem dX1_seeingWomen_17 : decode cX1_seeingWomen 17 = .ok (.aload_n 1, 1) := by decide +kernel
theorem dX1_seeingWomen_18 : decode cX1_seeingWomen 18 = .ok (.getfield 41, 3) := by decide +kernel
theorem dX1_seeingWomen_21 : decode cX1_seeingWomen 21 = .ok (.getfield 45, 3) := by decide +kernel
theorem dX1_seeingWomen_24 : decode cX1_seeingWomen 24 = .ok (.if_icmp .ge 26, 3) := by decide +kernel
theorem dX1_seeingWomen_27 : decode cX1_seeingWomen 27 = .ok (.aload_n 0, 1) := by decide +kernel
theorem dX1_seeingWomen_28 : decode cX1_seeingWomen 28 = .ok (.aload_n 1, 1) := by decide +kernel
theorem dX1_seeingWomen_29 : decode cX1_seeingWomen 29 = .ok (.iload_n 3, 1) := by decide +kernel
theorem dX1_seeingWomen_30 : decode cX1_seeingWomen 30 = .ok (.iload 4, 2) := by decide +kernel
theorem dX1_seeingWomen_32 : decode cX1_seeingWomen 32 = .ok (.invokevirtual 100, 3) := by decide +kernel
theorem dX1_seeingWomen_35 : decode cX1_seeingWomen 35 = .ok (.ifCond .eq 9, 3) := by decide +kernel
theorem dX1_seeingWomen_38 : decode cX1_seeingWomen 38 = .ok (.iload_n 2, 1) := by decide +kernel
theorem dX1_seeingWomen_39 : decode cX1_seeingWomen 39 = .ok (.iconst 1, 1) := by decide +kernel
theorem dX1_seeingWomen_40 : decode cX1_seeingWomen 40 = .ok (.iload_n 3, 1) := by decide +kernel
theorem dX1_seeingWomen_41 : decode cX1_seeingWomen 41 = .ok (.ishl, 1) := by decide +kernel
theorem dX1_seeingWomen_42 : decode cX1_seeingWomen 42 = .ok (.ior, 1) := by decide +kernel
theorem dX1_seeingWomen_43 : decode cX1_seeingWomen 43 = .ok (.istore_n 2, 1) := by decide +kernel
theorem dX1_seeingWomen_44 : decode cX1_seeingWomen 44 = .ok (.iinc 4 1, 3) := by decide +kernel
theorem dX1_seeingWomen_47 : decode cX1_seeingWomen 47 = .ok (.goto (-32), 3) := by decide +kernel
theorem dX1_seeingWomen_50 : decode cX1_seeingWomen 50 = .ok (.iinc 3 1, 3) := by decide +kernel
theorem dX1_seeingWomen_53 : decode cX1_seeingWomen 53 = .ok (.goto (-49), 3) := by decide +kernel
theorem dX1_seeingWomen_56 : decode cX1_seeingWomen 56 = .ok (.iload_n 2, 1) := by decide +kernel
theorem dX1_seeingWomen_57 : decode cX1_seeingWomen 57 = .ok (.ireturn, 1) := by decide +kernel
theorem dX1_utter_0 : decode cX1_utter 0 = .ok (.aload_n 0, 1) := by decide +kernel
theorem dX1_utter_1 : decode cX1_utter 1 = .ok (.aload_n 1, 1) := by decide +kernel
theorem dX1_utter_2 : decode cX1_utter 2 = .ok (.iload_n 2, 1) := by decide +kernel
theorem dX1_utter_3 : decode cX1_utter 3 = .ok (.aload_n 1, 1) := by decide +kernel
theorem dX1_utter_4 : decode cX1_utter 4 = .ok (.getfield 104, 3) := by decide +kernel
theorem dX1_utter_7 : decode cX1_utter 7 = .ok (.invokevirtual 107, 3) := by decide +kernel
theorem dX1_utter_10 : decode cX1_utter 10 = .ok (.iconst 0, 1) := by decide +kernel
theorem dX1_utter_11 : decode cX1_utter 11 = .ok (.istore 4, 2) := by decide +kernel
theorem dX1_utter_13 : decode cX1_utter 13 = .ok (.iconst 0, 1) := by decide +kernel
theorem dX1_utter_14 : decode cX1_utter 14 = .ok (.istore 5, 2) := by decide +kernel
theorem dX1_utter_16 : decode cX1_utter 16 = .ok (.iload 5, 2) := by decide +kernel
theorem dX1_utter_18 : decode cX1_utter 18 = .ok (.aload_n 1, 1) := by decide +kernel
theorem dX1_utter_19 : decode cX1_utter 19 = .ok (.getfield 41, 3) := by decide +kernel
theorem dX1_utter_22 : decode cX1_utter 22 = .ok (.getfield 45, 3) := by decide +kernel
theorem dX1_utter_25 : decode cX1_utter 25 = .ok (.if_icmp .ge 66, 3) := by decide +kernel
theorem dX1_utter_28 : decode cX1_utter 28 = .ok (.aload_n 0, 1) := by decide +kernel
theorem dX1_utter_29 : decode cX1_utter 29 = .ok (.getfield 28, 3) := by decide +kernel
theorem dX1_utter_32 : decode cX1_utter 32 = .ok (.iload 5, 2) := by decide +kernel
theorem dX1_utter_34 : decode cX1_utter 34 = .ok (.iaload, 1) := by decide +kernel
theorem dX1_utter_35 : decode cX1_utter 35 = .ok (.ifCond .le 50, 3) := by decide +kernel
theorem dX1_utter_38 : decode cX1_utter 38 = .ok (.aload_n 1, 1) := by decide +kernel
theorem dX1_utter_39 : decode cX1_utter 39 = .ok (.getfield 41, 3) := by decide +kernel
theorem dX1_utter_42 : decode cX1_utter 42 = .ok (.iload 5, 2) := by decide +kernel
theorem dX1_utter_44 : decode cX1_utter 44 = .ok (.aload_n 0, 1) := by decide +kernel
theorem dX1_utter_45 : decode cX1_utter 45 = .ok (.getfield 28, 3) := by decide +kernel
theorem dX1_utter_48 : decode cX1_utter 48 = .ok (.iload 5, 2) := by decide +kernel
theorem dX1_utter_50 : decode cX1_utter 50 = .ok (.iaload, 1) := by decide +kernel
theorem dX1_utter_51 : decode cX1_utter 51 = .ok (.invokevirtual 111, 3) := by decide +kernel
theorem dX1_utter_54 : decode cX1_utter 54 = .ok (.aload_n 1, 1) := by decide +kernel
theorem dX1_utter_55 : decode cX1_utter 55 = .ok (.getfield 115, 3) := by decide +kernel
theorem dX1_utter_58 : decode cX1_utter 58 = .ok (.aload_n 1, 1) := by decide +kernel
theorem dX1_utter_59 : decode cX1_utter 59 = .ok (.getfield 119, 3) := by decide +kernel
theorem dX1_utter_62 : decode cX1_utter 62 = .ok (.iload 5, 2) := by decide +kernel
theorem dX1_utter_64 : decode cX1_utter 64 = .ok (.iload_n 3, 1) := by decide +kernel
theorem dX1_utter_65 : decode cX1_utter 65 = .ok (.iload_n 2, 1) := by decide +kernel
theorem dX1_utter_66 : decode cX1_utter 66 = .ok (.aload_n 0, 1) := by decide +kernel
theorem dX1_utter_67 : decode cX1_utter 67 = .ok (.getfield 28, 3) := by decide +kernel
theorem dX1_utter_70 : decode cX1_utter 70 = .ok (.iload 5, 2) := by decide +kernel
theorem dX1_utter_72 : decode cX1_utter 72 = .ok (.iaload, 1) := by decide +kernel
theorem dX1_utter_73 : decode cX1_utter 73 = .ok (.invokevirtual 122, 3) := by decide +kernel
theorem dX1_utter_76 : decode cX1_utter 76 = .ok (.iload 4, 2) := by decide +kernel
theorem dX1_utter_78 : decode cX1_utter 78 = .ok (.iconst 1, 1) := by decide +kernel
theorem dX1_utter_79 : decode cX1_utter 79 = .ok (.iload 5, 2) := by decide +kernel
theorem dX1_utter_81 : decode cX1_utter 81 = .ok (.ishl, 1) := by decide +kernel
theorem dX1_utter_82 : decode cX1_utter 82 = .ok (.ior, 1) := by decide +kernel
theorem dX1_utter_83 : decode cX1_utter 83 = .ok (.istore 4, 2) := by decide +kernel
theorem dX1_utter_85 : decode cX1_utter 85 = .ok (.iinc 5 1, 3) := by decide +kernel
theorem dX1_utter_88 : decode cX1_utter 88 = .ok (.goto (-72), 3) := by decide +kernel
theorem dX1_utter_91 : decode cX1_utter 91 = .ok (.iload 4, 2) := by decide +kernel
theorem dX1_utter_93 : decode cX1_utter 93 = .ok (.ireturn, 1) := by decide +kernel
theorem dX1_live_0 : decode cX1_live 0 = .ok (.iconst 0, 1) := by decide +kernel
theorem dX1_live_1 : decode cX1_live 1 = .ok (.istore_n 3, 1) := by decide +kernel
theorem dX1_live_2 : decode cX1_live 2 = .ok (.iconst 0, 1) := by decide +kernel
theorem dX1_live_3 : decode cX1_live 3 = .ok (.istore 4, 2) := by decide +kernel
theorem dX1_live_5 : decode cX1_live 5 = .ok (.iload 4, 2) := by decide +kernel
theorem dX1_live_7 : decode cX1_live 7 = .ok (.iload_n 2, 1) := by decide +kernel
theorem dX1_live_8 : decode cX1_live 8 = .ok (.if_icmp .ge 75, 3) := by decide +kernel
theorem dX1_live_11 : decode cX1_live 11 = .ok (.aload_n 0, 1) := by decide +kernel
theorem dX1_live_12 : decode cX1_live 12 = .ok (.aload_n 1, 1) := by decide +kernel
theorem dX1_live_13 : decode cX1_live 13 = .ok (.invokevirtual 128, 3) := by decide +kernel
theorem dX1_live_16 : decode cX1_live 16 = .ok (.aload_n 1, 1) := by decide +kernel
theorem dX1_live_17 : decode cX1_live 17 = .ok (.invokevirtual 132, 3) := by decide +kernel
theorem dX1_live_20 : decode cX1_live 20 = .ok (.bipush 100, 2) := by decide +kernel
theorem dX1_live_22 : decode cX1_live 22 = .ok (.irem, 1) := by decide +kernel
theorem dX1_live_23 : decode cX1_live 23 = .ok (.aload_n 1, 1) := by decide +kernel
theorem dX1_live_24 : decode cX1_live 24 = .ok (.getfield 136, 3) := by decide +kernel
theorem dX1_live_27 : decode cX1_live 27 = .ok (.if_icmp .ge 29, 3) := by decide +kernel
theorem dX1_live_30 : decode cX1_live 30 = .ok (.aload_n 1, 1) := by decide +kernel
theorem dX1_live_31 : decode cX1_live 31 = .ok (.getfield 139, 3) := by decide +kernel
theorem dX1_live_34 : decode cX1_live 34 = .ok (.ifCond .le 22, 3) := by decide +kernel
theorem dX1_live_37 : decode cX1_live 37 = .ok (.aload_n 0, 1) := by decide +kernel
theorem dX1_live_38 : decode cX1_live 38 = .ok (.aload_n 1, 1) := by decide +kernel
theorem dX1_live_39 : decode cX1_live 39 = .ok (.aload_n 1, 1) := by decide +kernel
theorem dX1_live_40 : decode cX1_live 40 = .ok (.invokevirtual 132, 3) := by decide +kernel
theorem dX1_live_43 : decode cX1_live 43 = .ok (.aload_n 1, 1) := by decide +kernel
theorem dX1_live_44 : decode cX1_live 44 = .ok (.getfield 139, 3) := by decide +kernel
theorem dX1_live_47 : decode cX1_live 47 = .ok (.irem, 1) := by decide +kernel
theorem dX1_live_48 : decode cX1_live 48 = .ok (.iconst 1, 1) := by decide +kernel
theorem dX1_live_49 : decode cX1_live 49 = .ok (.invokevirtual 142, 3) := by decide +kernel
theorem dX1_live_52 : decode cX1_live 52 = .ok (.pop, 1) := by decide +kernel
theorem dX1_live_53 : decode cX1_live 53 = .ok (.iinc 3 1, 3) := by decide +kernel
theorem dX1_live_56 : decode cX1_live 56 = .ok (.aload_n 0, 1) := by decide +kernel
theorem dX1_live_57 : decode cX1_live 57 = .ok (.aload_n 1, 1) := by decide +kernel
theorem dX1_live_58 : decode cX1_live 58 = .ok (.invokevirtual 146, 3) := by decide +kernel
theorem dX1_live_61 : decode cX1_live 61 = .ok (.aload_n 1, 1) := by decide +kernel
theorem dX1_live_62 : decode cX1_live 62 = .ok (.sipush 9999, 3) := by decide +kernel
theorem dX1_live_65 : decode cX1_live 65 = .ok (.aload_n 1, 1) := by decide +kernel
theorem dX1_live_66 : decode cX1_live 66 = .ok (.getfield 119, 3) := by decide +kernel
theorem dX1_live_69 : decode cX1_live 69 = .ok (.iconst 1, 1) := by decide +kernel
theorem dX1_live_70 : decode cX1_live 70 = .ok (.iadd, 1) := by decide +kernel
theorem dX1_live_71 : decode cX1_live 71 = .ok (.invokestatic 88, 3) := by decide +kernel
theorem dX1_live_74 : decode cX1_live 74 = .ok (.putfield 119, 3) := by decide +kernel
theorem dX1_live_77 : decode cX1_live 77 = .ok (.iinc 4 1, 3) := by decide +kernel
theorem dX1_live_80 : decode cX1_live 80 = .ok (.goto (-75), 3) := by decide +kernel
theorem dX1_live_83 : decode cX1_live 83 = .ok (.iload_n 3, 1) := by decide +kernel
theorem dX1_live_84 : decode cX1_live 84 = .ok (.ireturn, 1) := by decide +kernel
theorem dX1_blushFalsely_0 : decode cX1_blushFalsely 0 = .ok (.iconst 0, 1) := by decide +kernel
theorem dX1_blushFalsely_1 : decode cX1_blushFalsely 1 = .ok (.istore_n 2, 1) := by decide +kernel
theorem dX1_blushFalsely_2 : decode cX1_blushFalsely 2 = .ok (.iload_n 2, 1) := by decide +kernel
theorem dX1_blushFalsely_3 : decode cX1_blushFalsely 3 = .ok (.aload_n 1, 1) := by decide +kernel
theorem dX1_blushFalsely_4 : decode cX1_blushFalsely 4 = .ok (.getfield 41, 3) := by decide +kernel
theorem dX1_blushFalsely_7 : decode cX1_blushFalsely 7 = .ok (.getfield 45, 3) := by decide +kernel
theorem dX1_blushFalsely_10 : decode cX1_blushFalsely 10 = .ok (.if_icmp .ge 49, 3) := by decide +kernel
theorem dX1_blushFalsely_13 : decode cX1_blushFalsely 13 = .ok (.aload_n 1, 1) := by decide +kernel
theorem dX1_blushFalsely_14 : decode cX1_blushFalsely 14 = .ok (.invokevirtual 132, 3) := by decide +kernel
theorem dX1_blushFalsely_17 : decode cX1_blushFalsely 17 = .ok (.bipush 100, 2) := by decide +kernel
theorem dX1_blushFalsely_19 : decode cX1_blushFalsely 19 = .ok (.irem, 1) := by decide +kernel
theorem dX1_blushFalsely_20 : decode cX1_blushFalsely 20 = .ok (.aload_n 1, 1) := by decide +kernel
theorem dX1_blushFalsely_21 : decode cX1_blushFalsely 21 = .ok (.getfield 149, 3) := by decide +kernel
theorem dX1_blushFalsely_24 : decode cX1_blushFalsely 24 = .ok (.if_icmp .ge 29, 3) := by decide +kernel
theorem dX1_blushFalsely_27 : decode cX1_blushFalsely 27 = .ok (.aload_n 1, 1) := by decide +kernel
theorem dX1_blushFalsely_28 : decode cX1_blushFalsely 28 = .ok (.getfield 41, 3) := by decide +kernel
theorem dX1_blushFalsely_31 : decode cX1_blushFalsely 31 = .ok (.iload_n 2, 1) := by decide +kernel
theorem dX1_blushFalsely_32 : decode cX1_blushFalsely 32 = .ok (.bipush 20, 2) := by decide +kernel
theorem dX1_blushFalsely_34 : decode cX1_blushFalsely 34 = .ok (.invokevirtual 111, 3) := by decide +kernel
theorem dX1_blushFalsely_37 : decode cX1_blushFalsely 37 = .ok (.aload_n 1, 1) := by decide +kernel
theorem dX1_blushFalsely_38 : decode cX1_blushFalsely 38 = .ok (.getfield 115, 3) := by decide +kernel
theorem dX1_blushFalsely_41 : decode cX1_blushFalsely 41 = .ok (.aload_n 1, 1) := by decide +kernel
theorem dX1_blushFalsely_42 : decode cX1_blushFalsely 42 = .ok (.getfield 119, 3) := by decide +kernel
theorem dX1_blushFalsely_45 : decode cX1_blushFalsely 45 = .ok (.iload_n 2, 1) := by decide +kernel
theorem dX1_blushFalsely_46 : decode cX1_blushFalsely 46 = .ok (.iconst 2, 1) := by decide +kernel
theorem dX1_blushFalsely_47 : decode cX1_blushFalsely 47 = .ok (.iconst (-1), 1) := by decide +kernel
theorem dX1_blushFalsely_48 : decode cX1_blushFalsely 48 = .ok (.bipush 20, 2) := by decide +kernel
theorem dX1_blushFalsely_50 : decode cX1_blushFalsely 50 = .ok (.invokevirtual 122, 3) := by decide +kernel
theorem dX1_blushFalsely_53 : decode cX1_blushFalsely 53 = .ok (.iinc 2 1, 3) := by decide +kernel
theorem dX1_blushFalsely_56 : decode cX1_blushFalsely 56 = .ok (.goto (-54), 3) := by decide +kernel
theorem dX1_blushFalsely_59 : decode cX1_blushFalsely 59 = .ok (.return_, 1) := by decide +kernel
theorem dX2_init_0 : decode cX2_init 0 = .ok (.aload_n 0, 1) := by decide +kernel
theorem dX2_init_1 : decode cX2_init 1 = .ok (.invokespecial 3, 3) := by decide +kernel
theorem dX2_init_4 : decode cX2_init 4 = .ok (.aload_n 0, 1) := by decide +kernel
theorem dX2_init_5 : decode cX2_init 5 = .ok (.iconst 4, 1) := by decide +kernel
theorem dX2_init_6 : decode cX2_init 6 = .ok (.newarray .int, 2) := by decide +kernel
theorem dX2_init_8 : decode cX2_init 8 = .ok (.putfield 9, 3) := by decide +kernel
theorem dX2_init_11 : decode cX2_init 11 = .ok (.aload_n 0, 1) := by decide +kernel
theorem dX2_init_12 : decode cX2_init 12 = .ok (.iconst 4, 1) := by decide +kernel
theorem dX2_init_13 : decode cX2_init 13 = .ok (.newarray .int, 2) := by decide +kernel
theorem dX2_init_15 : decode cX2_init 15 = .ok (.putfield 15, 3) := by decide +kernel
theorem dX2_init_18 : decode cX2_init 18 = .ok (.aload_n 0, 1) := by decide +kernel
theorem dX2_init_19 : decode cX2_init 19 = .ok (.iconst (-1), 1) := by decide +kernel
theorem dX2_init_20 : decode cX2_init 20 = .ok (.putfield 18, 3) := by decide +kernel
theorem dX2_init_23 : decode cX2_init 23 = .ok (.return_, 1) := by decide +kernel
theorem dX2_search_0 : decode cX2_search 0 = .ok (.aload_n 0, 1) := by decide +kernel
theorem dX2_search_1 : decode cX2_search 1 = .ok (.getfield 15, 3) := by decide +kernel
theorem dX2_search_4 : decode cX2_search 4 = .ok (.iconst (-1), 1) := by decide +kernel
theorem dX2_search_5 : decode cX2_search 5 = .ok (.invokestatic 22, 3) := by decide +kernel
theorem dX2_search_8 : decode cX2_search 8 = .ok (.aload_n 0, 1) := by decide +kernel
theorem dX2_search_9 : decode cX2_search 9 = .ok (.iconst (-1), 1) := by decide +kernel
theorem dX2_search_10 : decode cX2_search 10 = .ok (.putfield 18, 3) := by decide +kernel
theorem dX2_search_13 : decode cX2_search 13 = .ok (.aload_n 0, 1) := by decide +kernel
theorem dX2_search_14 : decode cX2_search 14 = .ok (.aload_n 1, 1) := by decide +kernel
theorem dX2_search_15 : decode cX2_search 15 = .ok (.iconst 0, 1) := by decide +kernel
theorem dX2_search_16 : decode cX2_search 16 = .ok (.iconst 0, 1) := by decide +kernel
theorem dX2_search_17 : decode cX2_search 17 = .ok (.invokevirtual 28, 3) := by decide +kernel
theorem dX2_search_20 : decode cX2_search 20 = .ok (.return_, 1) := by decide +kernel
theorem dX2_extend_0 : decode cX2_extend 0 = .ok (.iload_n 2, 1) := by decide +kernel
theorem dX2_extend_1 : decode cX2_extend 1 = .ok (.aload_n 1, 1) := by decide +kernel
theorem dX2_extend_2 : decode cX2_extend 2 = .ok (.getfield 32, 3) := by decide +kernel
theorem dX2_extend_5 : decode cX2_extend 5 = .ok (.if_icmp .lt 31, 3) := by decide +kernel
theorem dX2_extend_8 : decode cX2_extend 8 = .ok (.iload_n 3, 1) := by decide +kernel
theorem dX2_extend_9 : decode cX2_extend 9 = .ok (.aload_n 0, 1) := by decide +kernel
theorem dX2_extend_10 : decode cX2_extend 10 = .ok (.getfield 18, 3) := by decide +kernel
theorem dX2_extend_13 : decode cX2_extend 13 = .ok (.if_icmp .le 22, 3) := by decide +kernel
theorem dX2_extend_16 : decode cX2_extend 16 = .ok (.aload_n 0, 1) := by decide +kernel
theorem dX2_extend_17 : decode cX2_extend 17 = .ok (.iload_n 3, 1) := by decide +kernel
theorem dX2_extend_18 : decode cX2_extend 18 = .ok (.putfield 18, 3) := by decide +kernel
theorem dX2_extend_21 : decode cX2_extend 21 = .ok (.aload_n 0, 1) := by decide +kernel
theorem dX2_extend_22 : decode cX2_extend 22 = .ok (.getfield 15, 3) := by decide +kernel
theorem dX2_extend_25 : decode cX2_extend 25 = .ok (.iconst 0, 1) := by decide +kernel
theorem dX2_extend_26 : decode cX2_extend 26 = .ok (.aload_n 0, 1) := by decide +kernel
theorem dX2_extend_27 : decode cX2_extend 27 = .ok (.getfield 9, 3) := by decide +kernel
theorem dX2_extend_30 : decode cX2_extend 30 = .ok (.iconst 0, 1) := by decide +kernel
theorem dX2_extend_31 : decode cX2_extend 31 = .ok (.iconst 4, 1) := by decide +kernel
theorem dX2_extend_32 : decode cX2_extend 32 = .ok (.invokestatic 37, 3) := by decide +kernel
theorem dX2_extend_35 : decode cX2_extend 35 = .ok (.return_, 1) := by decide +kernel
theorem dX2_extend_36 : decode cX2_extend 36 = .ok (.aload_n 0, 1) := by decide +kernel
theorem dX2_extend_37 : decode cX2_extend 37 = .ok (.aload_n 1, 1) := by decide +kernel
theorem dX2_extend_38 : decode cX2_extend 38 = .ok (.iload_n 2, 1) := by decide +kernel
theorem dX2_extend_39 : decode cX2_extend 39 = .ok (.iconst 1, 1) := by decide +kernel
theorem dX2_extend_40 : decode cX2_extend 40 = .ok (.iadd, 1) := by decide +kernel
theorem dX2_extend_41 : decode cX2_extend 41 = .ok (.iload_n 3, 1) := by decide +kernel
theorem dX2_extend_42 : decode cX2_extend 42 = .ok (.invokevirtual 28, 3) := by decide +kernel
theorem dX2_extend_45 : decode cX2_extend 45 = .ok (.aload_n 0, 1) := by decide +kernel
theorem dX2_extend_46 : decode cX2_extend 46 = .ok (.getfield 15, 3) := by decide +kernel
theorem dX2_extend_49 : decode cX2_extend 49 = .ok (.iload_n 2, 1) := by decide +kernel
theorem dX2_extend_50 : decode cX2_extend 50 = .ok (.iaload, 1) := by decide +kernel
theorem dX2_extend_51 : decode cX2_extend 51 = .ok (.iconst (-1), 1) := by decide +kernel
theorem dX2_extend_52 : decode cX2_extend 52 = .ok (.if_icmp .eq 4, 3) := by decide +kernel
theorem dX2_extend_55 : decode cX2_extend 55 = .ok (.return_, 1) := by decide +kernel
theorem dX2_extend_56 : decode cX2_extend 56 = .ok (.iload_n 2, 1) := by decide +kernel
theorem dX2_extend_57 : decode cX2_extend 57 = .ok (.iconst 1, 1) := by decide +kernel
theorem dX2_extend_58 : decode cX2_extend 58 = .ok (.iadd, 1) := by decide +kernel
theorem dX2_extend_59 : decode cX2_extend 59 = .ok (.istore 4, 2) := by decide +kernel
theorem dX2_extend_61 : decode cX2_extend 61 = .ok (.iload 4, 2) := by decide +kernel
theorem dX2_extend_63 : decode cX2_extend 63 = .ok (.aload_n 1, 1) := by decide +kernel
theorem dX2_extend_64 : decode cX2_extend 64 = .ok (.getfield 32, 3) := by decide +kernel
theorem dX2_extend_67 : decode cX2_extend 67 = .ok (.if_icmp .ge 68, 3) := by decide +kernel
theorem dX2_extend_70 : decode cX2_extend 70 = .ok (.aload_n 0, 1) := by decide +kernel
theorem dX2_extend_71 : decode cX2_extend 71 = .ok (.getfield 15, 3) := by decide +kernel
theorem dX2_extend_74 : decode cX2_extend 74 = .ok (.iload 4, 2) := by decide +kernel
theorem dX2_extend_76 : decode cX2_extend 76 = .ok (.iaload, 1) := by decide +kernel
theorem dX2_extend_77 : decode cX2_extend 77 = .ok (.iconst (-1), 1) := by decide +kernel
theorem dX2_extend_78 : decode cX2_extend 78 = .ok (.if_icmp .ne 51, 3) := by decide +kernel
theorem dX2_extend_81 : decode cX2_extend 81 = .ok (.aload_n 0, 1) := by decide +kernel
theorem dX2_extend_82 : decode cX2_extend 82 = .ok (.getfield 15, 3) := by decide +kernel
theorem dX2_extend_85 : decode cX2_extend 85 = .ok (.iload_n 2, 1) := by decide +kernel
theorem dX2_extend_86 : decode cX2_extend 86 = .ok (.iload 4, 2) := by decide +kernel
theorem dX2_extend_88 : decode cX2_extend 88 = .ok (.iastore, 1) := by decide +kernel
theorem dX2_extend_89 : decode cX2_extend 89 = .ok (.aload_n 0, 1) := by decide +kernel
theorem dX2_extend_90 : decode cX2_extend 90 = .ok (.getfield 15, 3) := by decide +kernel
theorem dX2_extend_93 : decode cX2_extend 93 = .ok (.iload 4, 2) := by decide +kernel
theorem dX2_extend_95 : decode cX2_extend 95 = .ok (.iload_n 2, 1) := by decide +kernel
theorem dX2_extend_96 : decode cX2_extend 96 = .ok (.iastore, 1) := by decide +kernel
theorem dX2_extend_97 : decode cX2_extend 97 = .ok (.aload_n 0, 1) := by decide +kernel
theorem dX2_extend_98 : decode cX2_extend 98 = .ok (.aload_n 1, 1) := by decide +kernel
theorem dX2_extend_99 : decode cX2_extend 99 = .ok (.iload_n 2, 1) := by decide +kernel
theorem dX2_extend_100 : decode cX2_extend 100 = .ok (.iconst 1, 1) := by decide +kernel
theorem dX2_extend_101 : decode cX2_extend 101 = .ok (.iadd, 1) := by decide +kernel
theorem dX2_extend_102 : decode cX2_extend 102 = .ok (.iload_n 3, 1) := by decide +kernel
theorem dX2_extend_103 : decode cX2_extend 103 = .ok (.aload_n 1, 1) := by decide +kernel
theorem dX2_extend_104 : decode cX2_extend 104 = .ok (.iload_n 2, 1) := by decide +kernel
theorem dX2_extend_105 : decode cX2_extend 105 = .ok (.iload 4, 2) := by decide +kernel
theorem dX2_extend_107 : decode cX2_extend 107 = .ok (.invokestatic 43, 3) := by decide +kernel
theorem dX2_extend_110 : decode cX2_extend 110 = .ok (.iadd, 1) := by decide +kernel
theorem dX2_extend_111 : decode cX2_extend 111 = .ok (.invokevirtual 28, 3) := by decide +kernel
theorem dX2_extend_114 : decode cX2_extend 114 = .ok (.aload_n 0, 1) := by decide +kernel
theorem dX2_extend_115 : decode cX2_extend 115 = .ok (.getfield 15, 3) := by decide +kernel
theorem dX2_extend_118 : decode cX2_extend 118 = .ok (.iload_n 2, 1) := by decide +kernel
theorem dX2_extend_119 : decode cX2_extend 119 = .ok (.iconst (-1), 1) := by decide +kernel
theorem dX2_extend_120 : decode cX2_extend 120 = .ok (.iastore, 1) := by decide +kernel
theorem dX2_extend_121 : decode cX2_extend 121 = .ok (.aload_n 0, 1) := by decide +kernel
theorem dX2_extend_122 : decode cX2_extend 122 = .ok (.getfield 15, 3) := by decide +kernel
theorem dX2_extend_125 : decode cX2_extend 125 = .ok (.iload 4, 2) := by decide +kernel
theorem dX2_extend_127 : decode cX2_extend 127 = .ok (.iconst (-1), 1) := by decide +kernel
theorem dX2_extend_128 : decode cX2_extend 128 = .ok (.iastore, 1) := by decide +kernel
theorem dX2_extend_129 : decode cX2_extend 129 = .ok (.iinc 4 1, 3) := by decide +kernel
theorem dX2_extend_132 : decode cX2_extend 132 = .ok (.goto (-71), 3) := by decide +kernel
theorem dX2_extend_135 : decode cX2_extend 135 = .ok (.return_, 1) := by decide +kernel
theorem dX2_unlike_0 : decode cX2_unlike 0 = .ok (.iconst 0, 1) := by decide +kernel
theorem dX2_unlike_1 : decode cX2_unlike 1 = .ok (.istore_n 3, 1) := by decide +kernel
theorem dX2_unlike_2 : decode cX2_unlike 2 = .ok (.iconst 0, 1) := by decide +kernel
theorem dX2_unlike_3 : decode cX2_unlike 3 = .ok (.istore 4, 2) := by decide +kernel
theorem dX2_unlike_5 : decode cX2_unlike 5 = .ok (.iload 4, 2) := by decide +kernel
theorem dX2_unlike_7 : decode cX2_unlike 7 = .ok (.aload_n 0, 1) := by decide +kernel
theorem dX2_unlike_8 : decode cX2_unlike 8 = .ok (.getfield 47, 3) := by decide +kernel
theorem dX2_unlike_11 : decode cX2_unlike 11 = .ok (.getfield 51, 3) := by decide +kernel
theorem dX2_unlike_14 : decode cX2_unlike 14 = .ok (.if_icmp .ge 49, 3) := by decide +kernel
theorem dX2_unlike_17 : decode cX2_unlike 17 = .ok (.aload_n 0, 1) := by decide +kernel
theorem dX2_unlike_18 : decode cX2_unlike 18 = .ok (.getfield 47, 3) := by decide +kernel
theorem dX2_unlike_21 : decode cX2_unlike 21 = .ok (.getfield 56, 3) := by decide +kernel
theorem dX2_unlike_24 : decode cX2_unlike 24 = .ok (.iload 4, 2) := by decide +kernel
theorem dX2_unlike_26 : decode cX2_unlike 26 = .ok (.iaload, 1) := by decide +kernel
theorem dX2_unlike_27 : decode cX2_unlike 27 = .ok (.istore 5, 2) := by decide +kernel
theorem dX2_unlike_29 : decode cX2_unlike 29 = .ok (.aload_n 0, 1) := by decide +kernel
theorem dX2_unlike_30 : decode cX2_unlike 30 = .ok (.getfield 59, 3) := by decide +kernel
theorem dX2_unlike_33 : decode cX2_unlike 33 = .ok (.iload_n 1, 1) := by decide +kernel
theorem dX2_unlike_34 : decode cX2_unlike 34 = .ok (.iaload, 1) := by decide +kernel
theorem dX2_unlike_35 : decode cX2_unlike 35 = .ok (.iload 5, 2) := by decide +kernel
theorem dX2_unlike_37 : decode cX2_unlike 37 = .ok (.invokestatic 62, 3) := by decide +kernel
theorem dX2_unlike_40 : decode cX2_unlike 40 = .ok (.aload_n 0, 1) := by decide +kernel
theorem dX2_unlike_41 : decode cX2_unlike 41 = .ok (.getfield 59, 3) := by decide +kernel
theorem dX2_unlike_44 : decode cX2_unlike 44 = .ok (.iload_n 2, 1) := by decide +kernel
theorem dX2_unlike_45 : decode cX2_unlike 45 = .ok (.iaload, 1) := by decide +kernel
theorem dX2_unlike_46 : decode cX2_unlike 46 = .ok (.iload 5, 2) := by decide +kernel
theorem dX2_unlike_48 : decode cX2_unlike 48 = .ok (.invokestatic 62, 3) := by decide +kernel
theorem dX2_unlike_51 : decode cX2_unlike 51 = .ok (.if_icmp .eq 6, 3) := by decide +kernel
theorem dX2_unlike_54 : decode cX2_unlike 54 = .ok (.iinc 3 1, 3) := by decide +kernel
theorem dX2_unlike_57 : decode cX2_unlike 57 = .ok (.iinc 4 1, 3) := by decide +kernel
theorem dX2_unlike_60 : decode cX2_unlike 60 = .ok (.goto (-55), 3) := by decide +kernel
theorem dX2_unlike_63 : decode cX2_unlike 63 = .ok (.iload_n 3, 1) := by decide +kernel
theorem dX2_unlike_64 : decode cX2_unlike 64 = .ok (.ireturn, 1) := by decide +kernel
theorem dX3_init_0 : decode cX3_init 0 = .ok (.aload_n 0, 1) := by decide +kernel
theorem dX3_init_1 : decode cX3_init 1 = .ok (.invokespecial 3, 3) := by decide +kernel
theorem dX3_init_4 : decode cX3_init 4 = .ok (.aload_n 0, 1) := by decide +kernel
theorem dX3_init_5 : decode cX3_init 5 = .ok (.new 9, 3) := by decide +kernel
theorem dX3_init_8 : decode cX3_init 8 = .ok (.dup, 1) := by decide +kernel
theorem dX3_init_9 : decode cX3_init 9 = .ok (.invokespecial 11, 3) := by decide +kernel
theorem dX3_init_12 : decode cX3_init 12 = .ok (.putfield 12, 3) := by decide +kernel
theorem dX3_init_15 : decode cX3_init 15 = .ok (.aload_n 0, 1) := by decide +kernel
theorem dX3_init_16 : decode cX3_init 16 = .ok (.new 18, 3) := by decide +kernel
theorem dX3_init_19 : decode cX3_init 19 = .ok (.dup, 1) := by decide +kernel
theorem dX3_init_20 : decode cX3_init 20 = .ok (.invokespecial 20, 3) := by decide +kernel
theorem dX3_init_23 : decode cX3_init 23 = .ok (.putfield 21, 3) := by decide +kernel
theorem dX3_init_26 : decode cX3_init 26 = .ok (.aload_n 0, 1) := by decide +kernel
theorem dX3_init_27 : decode cX3_init 27 = .ok (.bipush 6, 2) := by decide +kernel
theorem dX3_init_29 : decode cX3_init 29 = .ok (.newarray .int, 2) := by decide +kernel
theorem dX3_init_31 : decode cX3_init 31 = .ok (.putfield 25, 3) := by decide +kernel
theorem dX3_init_34 : decode cX3_init 34 = .ok (.aload_n 0, 1) := by decide +kernel
theorem dX3_init_35 : decode cX3_init 35 = .ok (.bipush 6, 2) := by decide +kernel
theorem dX3_init_37 : decode cX3_init 37 = .ok (.newarray .int, 2) := by decide +kernel
theorem dX3_init_39 : decode cX3_init 39 = .ok (.putfield 29, 3) := by decide +kernel
theorem dX3_init_42 : decode cX3_init 42 = .ok (.aload_n 0, 1) := by decide +kernel
theorem dX3_init_43 : decode cX3_init 43 = .ok (.bipush 8, 2) := by decide +kernel
theorem dX3_init_45 : decode cX3_init 45 = .ok (.newarray .int, 2) := by decide +kernel
theorem dX3_init_47 : decode cX3_init 47 = .ok (.putfield 32, 3) := by decide +kernel
theorem dX3_init_50 : decode cX3_init 50 = .ok (.aload_n 0, 1) := by decide +kernel
theorem dX3_init_51 : decode cX3_init 51 = .ok (.iconst 4, 1) := by decide +kernel
theorem dX3_init_52 : decode cX3_init 52 = .ok (.newarray .int, 2) := by decide +kernel
theorem dX3_init_54 : decode cX3_init 54 = .ok (.putfield 35, 3) := by decide +kernel
theorem dX3_init_57 : decode cX3_init 57 = .ok (.aload_n 0, 1) := by decide +kernel
theorem dX3_init_58 : decode cX3_init 58 = .ok (.iconst 0, 1) := by decide +kernel
theorem dX3_init_59 : decode cX3_init 59 = .ok (.putfield 38, 3) := by decide +kernel
theorem dX3_init_62 : decode cX3_init 62 = .ok (.aload_n 0, 1) := by decide +kernel
theorem dX3_init_63 : decode cX3_init 63 = .ok (.iconst 0, 1) := by decide +kernel
theorem dX3_init_64 : decode cX3_init 64 = .ok (.putfield 42, 3) := by decide +kernel
theorem dX3_init_67 : decode cX3_init 67 = .ok (.aload_n 0, 1) := by decide +kernel
theorem dX3_init_68 : decode cX3_init 68 = .ok (.iconst 0, 1) := by decide +kernel
theorem dX3_init_69 : decode cX3_init 69 = .ok (.putfield 45, 3) := by decide +kernel
theorem dX3_init_72 : decode cX3_init 72 = .ok (.aload_n 0, 1) := by decide +kernel
theorem dX3_init_73 : decode cX3_init 73 = .ok (.iconst 0, 1) := by decide +kernel
theorem dX3_init_74 : decode cX3_init 74 = .ok (.putfield 48, 3) := by decide +kernel
theorem dX3_init_77 : decode cX3_init 77 = .ok (.aload_n 0, 1) := by decide +kernel
theorem dX3_init_78 : decode cX3_init 78 = .ok (.iconst 0, 1) := by decide +kernel
theorem dX3_init_79 : decode cX3_init 79 = .ok (.putfield 51, 3) := by decide +kernel
theorem dX3_init_82 : decode cX3_init 82 = .ok (.aload_n 0, 1) := by decide +kernel
theorem dX3_init_83 : decode cX3_init 83 = .ok (.iconst 3, 1) := by decide +kernel
theorem dX3_init_84 : decode cX3_init 84 = .ok (.putfield 54, 3) := by decide +kernel
theorem dX3_init_87 : decode cX3_init 87 = .ok (.aload_n 0, 1) := by decide +kernel
theorem dX3_init_88 : decode cX3_init 88 = .ok (.iconst 0, 1) := by decide +kernel
theorem dX3_init_89 : decode cX3_init 89 = .ok (.putfield 57, 3) := by decide +kernel
theorem dX3_init_92 : decode cX3_init 92 = .ok (.aload_n 0, 1) := by decide +kernel
theorem dX3_init_93 : decode cX3_init 93 = .ok (.iconst 0, 1) := by decide +kernel
theorem dX3_init_94 : decode cX3_init 94 = .ok (.putfield 60, 3) := by decide +kernel
theorem dX3_init_97 : decode cX3_init 97 = .ok (.aload_n 0, 1) := by decide +kernel
theorem dX3_init_98 : decode cX3_init 98 = .ok (.iconst 0, 1) := by decide +kernel
theorem dX3_init_99 : decode cX3_init 99 = .ok (.putfield 63, 3) := by decide +kernel
theorem dX3_init_102 : decode cX3_init 102 = .ok (.aload_n 0, 1) := by decide +kernel
theorem dX3_init_103 : decode cX3_init 103 = .ok (.iconst 1, 1) := by decide +kernel
theorem dX3_init_104 : decode cX3_init 104 = .ok (.putfield 66, 3) := by decide +kernel
theorem dX3_init_107 : decode cX3_init 107 = .ok (.return_, 1) := by decide +kernel
theorem dX3_copy_0 : decode cX3_copy 0 = .ok (.aload_n 0, 1) := by decide +kernel
theorem dX3_copy_1 : decode cX3_copy 1 = .ok (.getfield 12, 3) := by decide +kernel
theorem dX3_copy_4 : decode cX3_copy 4 = .ok (.aload_n 1, 1) := by decide +kernel
theorem dX3_copy_5 : decode cX3_copy 5 = .ok (.getfield 12, 3) := by decide +kernel
theorem dX3_copy_8 : decode cX3_copy 8 = .ok (.invokevirtual 69, 3) := by decide +kernel
theorem dX3_copy_11 : decode cX3_copy 11 = .ok (.aload_n 0, 1) := by decide +kernel
theorem dX3_copy_12 : decode cX3_copy 12 = .ok (.getfield 21, 3) := by decide +kernel
theorem dX3_copy_15 : decode cX3_copy 15 = .ok (.aload_n 1, 1) := by decide +kernel
theorem dX3_copy_16 : decode cX3_copy 16 = .ok (.getfield 21, 3) := by decide +kernel
theorem dX3_copy_19 : decode cX3_copy 19 = .ok (.invokevirtual 73, 3) := by decide +kernel
theorem dX3_copy_22 : decode cX3_copy 22 = .ok (.aload_n 1, 1) := by decide +kernel
theorem dX3_copy_23 : decode cX3_copy 23 = .ok (.getfield 25, 3) := by decide +kernel
theorem dX3_copy_26 : decode cX3_copy 26 = .ok (.iconst 0, 1) := by decide +kernel
theorem dX3_copy_27 : decode cX3_copy 27 = .ok (.aload_n 0, 1) := by decide +kernel
theorem dX3_copy_28 : decode cX3_copy 28 = .ok (.getfield 25, 3) := by decide +kernel
theorem dX3_copy_31 : decode cX3_copy 31 = .ok (.iconst 0, 1) := by decide +kernel
theorem dX3_copy_32 : decode cX3_copy 32 = .ok (.bipush 6, 2) := by decide +kernel
theorem dX3_copy_34 : decode cX3_copy 34 = .ok (.invokestatic 76, 3) := by decide +kernel
theorem dX3_copy_37 : decode cX3_copy 37 = .ok (.aload_n 1, 1) := by decide +kernel
theorem dX3_copy_38 : decode cX3_copy 38 = .ok (.getfield 29, 3) := by decide +kernel
theorem dX3_copy_41 : decode cX3_copy 41 = .ok (.iconst 0, 1) := by decide +kernel
theorem dX3_copy_42 : decode cX3_copy 42 = .ok (.aload_n 0, 1) := by decide +kernel
theorem dX3_copy_43 : decode cX3_copy 43 = .ok (.getfield 29, 3) := by decide +kernel
theorem dX3_copy_46 : decode cX3_copy 46 = .ok (.iconst 0, 1) := by decide +kernel
theorem dX3_copy_47 : decode cX3_copy 47 = .ok (.bipush 6, 2) := by decide +kernel
theorem dX3_copy_49 : decode cX3_copy 49 = .ok (.invokestatic 76, 3) := by decide +kernel
theorem dX3_copy_52 : decode cX3_copy 52 = .ok (.aload_n 1, 1) := by decide +kernel
theorem dX3_copy_53 : decode cX3_copy 53 = .ok (.getfield 32, 3) := by decide +kernel
theorem dX3_copy_56 : decode cX3_copy 56 = .ok (.iconst 0, 1) := by decide +kernel
theorem dX3_copy_57 : decode cX3_copy 57 = .ok (.aload_n 0, 1) := by decide +kernel
theorem dX3_copy_58 : decode cX3_copy 58 = .ok (.getfield 32, 3) := by decide +kernel
theorem dX3_copy_61 : decode cX3_copy 61 = .ok (.iconst 0, 1) := by decide +kernel
theorem dX3_copy_62 : decode cX3_copy 62 = .ok (.bipush 8, 2) := by decide +kernel
theorem dX3_copy_64 : decode cX3_copy 64 = .ok (.invokestatic 76, 3) := by decide +kernel
theorem dX3_copy_67 : decode cX3_copy 67 = .ok (.aload_n 1, 1) := by decide +kernel
theorem dX3_copy_68 : decode cX3_copy 68 = .ok (.getfield 35, 3) := by decide +kernel
theorem dX3_copy_71 : decode cX3_copy 71 = .ok (.iconst 0, 1) := by decide +kernel
theorem dX3_copy_72 : decode cX3_copy 72 = .ok (.aload_n 0, 1) := by decide +kernel
theorem dX3_copy_73 : decode cX3_copy 73 = .ok (.getfield 35, 3) := by decide +kernel
theorem dX3_copy_76 : decode cX3_copy 76 = .ok (.iconst 0, 1) := by decide +kernel
theorem dX3_copy_77 : decode cX3_copy 77 = .ok (.iconst 4, 1) := by decide +kernel
theorem dX3_copy_78 : decode cX3_copy 78 = .ok (.invokestatic 76, 3) := by decide +kernel
theorem dX3_copy_81 : decode cX3_copy 81 = .ok (.aload_n 0, 1) := by decide +kernel
theorem dX3_copy_82 : decode cX3_copy 82 = .ok (.aload_n 1, 1) := by decide +kernel
theorem dX3_copy_83 : decode cX3_copy 83 = .ok (.getfield 38, 3) := by decide +kernel
theorem dX3_copy_86 : decode cX3_copy 86 = .ok (.putfield 38, 3) := by decide +kernel
theorem dX3_copy_89 : decode cX3_copy 89 = .ok (.aload_n 0, 1) := by decide +kernel
theorem dX3_copy_90 : decode cX3_copy 90 = .ok (.aload_n 1, 1) := by decide +kernel
theorem dX3_copy_91 : decode cX3_copy 91 = .ok (.getfield 42, 3) := by decide +kernel
theorem dX3_copy_94 : decode cX3_copy 94 = .ok (.putfield 42, 3) := by decide +kernel
theorem dX3_copy_97 : decode cX3_copy 97 = .ok (.aload_n 0, 1) := by decide +kernel
theorem dX3_copy_98 : decode cX3_copy 98 = .ok (.aload_n 1, 1) := by decide +kernel
theorem dX3_copy_99 : decode cX3_copy 99 = .ok (.getfield 45, 3) := by decide +kernel
theorem dX3_copy_102 : decode cX3_copy 102 = .ok (.putfield 45, 3) := by decide +kernel
theorem dX3_copy_105 : decode cX3_copy 105 = .ok (.aload_n 0, 1) := by decide +kernel
theorem dX3_copy_106 : decode cX3_copy 106 = .ok (.aload_n 1, 1) := by decide +kernel
theorem dX3_copy_107 : decode cX3_copy 107 = .ok (.getfield 48, 3) := by decide +kernel
theorem dX3_copy_110 : decode cX3_copy 110 = .ok (.putfield 48, 3) := by decide +kernel
theorem dX3_copy_113 : decode cX3_copy 113 = .ok (.aload_n 0, 1) := by decide +kernel
theorem dX3_copy_114 : decode cX3_copy 114 = .ok (.aload_n 1, 1) := by decide +kernel
theorem dX3_copy_115 : decode cX3_copy 115 = .ok (.getfield 51, 3) := by decide +kernel
theorem dX3_copy_118 : decode cX3_copy 118 = .ok (.putfield 51, 3) := by decide +kernel
theorem dX3_copy_121 : decode cX3_copy 121 = .ok (.aload_n 0, 1) := by decide +kernel
theorem dX3_copy_122 : decode cX3_copy 122 = .ok (.aload_n 1, 1) := by decide +kernel
theorem dX3_copy_123 : decode cX3_copy 123 = .ok (.getfield 54, 3) := by decide +kernel
theorem dX3_copy_126 : decode cX3_copy 126 = .ok (.putfield 54, 3) := by decide +kernel
theorem dX3_copy_129 : decode cX3_copy 129 = .ok (.aload_n 0, 1) := by decide +kernel
theorem dX3_copy_130 : decode cX3_copy 130 = .ok (.aload_n 1, 1) := by decide +kernel
theorem dX3_copy_131 : decode cX3_copy 131 = .ok (.getfield 57, 3) := by decide +kernel
theorem dX3_copy_134 : decode cX3_copy 134 = .ok (.putfield 57, 3) := by decide +kernel
theorem dX3_copy_137 : decode cX3_copy 137 = .ok (.aload_n 0, 1) := by decide +kernel
theorem dX3_copy_138 : decode cX3_copy 138 = .ok (.aload_n 1, 1) := by decide +kernel
theorem dX3_copy_139 : decode cX3_copy 139 = .ok (.getfield 60, 3) := by decide +kernel
theorem dX3_copy_142 : decode cX3_copy 142 = .ok (.putfield 60, 3) := by decide +kernel
theorem dX3_copy_145 : decode cX3_copy 145 = .ok (.aload_n 0, 1) := by decide +kernel
theorem dX3_copy_146 : decode cX3_copy 146 = .ok (.aload_n 1, 1) := by decide +kernel
theorem dX3_copy_147 : decode cX3_copy 147 = .ok (.getfield 63, 3) := by decide +kernel
theorem dX3_copy_150 : decode cX3_copy 150 = .ok (.putfield 63, 3) := by decide +kernel
theorem dX3_copy_153 : decode cX3_copy 153 = .ok (.aload_n 0, 1) := by decide +kernel
theorem dX3_copy_154 : decode cX3_copy 154 = .ok (.aload_n 1, 1) := by decide +kernel
theorem dX3_copy_155 : decode cX3_copy 155 = .ok (.getfield 66, 3) := by decide +kernel
theorem dX3_copy_158 : decode cX3_copy 158 = .ok (.putfield 66, 3) := by decide +kernel
theorem dX3_copy_161 : decode cX3_copy 161 = .ok (.return_, 1) := by decide +kernel
theorem dX3_draw_0 : decode cX3_draw 0 = .ok (.aload_n 0, 1) := by decide +kernel
theorem dX3_draw_1 : decode cX3_draw 1 = .ok (.ldc 82, 2) := by decide +kernel
theorem dX3_draw_3 : decode cX3_draw 3 = .ok (.aload_n 0, 1) := by decide +kernel
theorem dX3_draw_4 : decode cX3_draw 4 = .ok (.getfield 66, 3) := by decide +kernel
theorem dX3_draw_7 : decode cX3_draw 7 = .ok (.imul, 1) := by decide +kernel
theorem dX3_draw_8 : decode cX3_draw 8 = .ok (.sipush 12345, 3) := by decide +kernel
theorem dX3_draw_11 : decode cX3_draw 11 = .ok (.iadd, 1) := by decide +kernel
theorem dX3_draw_12 : decode cX3_draw 12 = .ok (.putfield 66, 3) := by decide +kernel
theorem dX3_draw_15 : decode cX3_draw 15 = .ok (.aload_n 0, 1) := by decide +kernel
theorem dX3_draw_16 : decode cX3_draw 16 = .ok (.getfield 66, 3) := by decide +kernel
theorem dX3_draw_19 : decode cX3_draw 19 = .ok (.bipush 16, 2) := by decide +kernel
theorem dX3_draw_21 : decode cX3_draw 21 = .ok (.iushr, 1) := by decide +kernel
theorem dX3_draw_22 : decode cX3_draw 22 = .ok (.sipush 32767, 3) := by decide +kernel
theorem dX3_draw_25 : decode cX3_draw 25 = .ok (.iand, 1) := by decide +kernel
theorem dX3_draw_26 : decode cX3_draw 26 = .ok (.ireturn, 1) := by decide +kernel
theorem dX3_allThings_0 : decode cX3_allThings 0 = .ok (.iconst 1, 1) := by decide +kernel
theorem dX3_allThings_1 : decode cX3_allThings 1 = .ok (.aload_n 0, 1) := by decide +kernel
theorem dX3_allThings_2 : decode cX3_allThings 2 = .ok (.getfield 38, 3) := by decide +kernel
theorem dX3_allThings_5 : decode cX3_allThings 5 = .ok (.ishl, 1) := by decide +kernel
theorem dX3_allThings_6 : decode cX3_allThings 6 = .ok (.iconst 1, 1) := by decide +kernel
theorem dX3_allThings_7 : decode cX3_allThings 7 = .ok (.isub, 1) := by decide +kernel
theorem dX3_allThings_8 : decode cX3_allThings 8 = .ok (.ireturn, 1) := by decide +kernel
theorem dX3_worldCount_0 : decode cX3_worldCount 0 = .ok (.iconst 1, 1) := by decide +kernel
theorem dX3_worldCount_1 : decode cX3_worldCount 1 = .ok (.aload_n 0, 1) := by decide +kernel
theorem dX3_worldCount_2 : decode cX3_worldCount 2 = .ok (.getfield 38, 3) := by decide +kernel
theorem dX3_worldCount_5 : decode cX3_worldCount 5 = .ok (.ishl, 1) := by decide +kernel
theorem dX3_worldCount_6 : decode cX3_worldCount 6 = .ok (.ireturn, 1) := by decide +kernel
theorem dX3_touching_0 : decode cX3_touching 0 = .ok (.iconst 0, 1) := by decide +kernel
theorem dX3_touching_1 : decode cX3_touching 1 = .ok (.istore_n 2, 1) := by decide +kernel
theorem dX3_touching_2 : decode cX3_touching 2 = .ok (.iconst 0, 1) := by decide +kernel
theorem dX3_touching_3 : decode cX3_touching 3 = .ok (.istore_n 3, 1) := by decide +kernel
theorem dX3_touching_4 : decode cX3_touching 4 = .ok (.iload_n 3, 1) := by decide +kernel
theorem dX3_touching_5 : decode cX3_touching 5 = .ok (.aload_n 0, 1) := by decide +kernel
theorem dX3_touching_6 : decode cX3_touching 6 = .ok (.getfield 38, 3) := by decide +kernel
theorem dX3_touching_9 : decode cX3_touching 9 = .ok (.if_icmp .ge 24, 3) := by decide +kernel
theorem dX3_touching_12 : decode cX3_touching 12 = .ok (.iload_n 2, 1) := by decide +kernel
theorem dX3_touching_13 : decode cX3_touching 13 = .ok (.aload_n 0, 1) := by decide +kernel
theorem dX3_touching_14 : decode cX3_touching 14 = .ok (.getfield 29, 3) := by decide +kernel
theorem dX3_touching_17 : decode cX3_touching 17 = .ok (.iload_n 3, 1) := by decide +kernel
theorem dX3_touching_18 : decode cX3_touching 18 = .ok (.iaload, 1) := by decide +kernel
theorem dX3_touching_19 : decode cX3_touching 19 = .ok (.iload_n 1, 1) := by decide +kernel
theorem dX3_touching_20 : decode cX3_touching 20 = .ok (.ishr, 1) := by decide +kernel
theorem dX3_touching_21 : decode cX3_touching 21 = .ok (.iconst 1, 1) := by decide +kernel
theorem dX3_touching_22 : decode cX3_touching 22 = .ok (.iand, 1) := by decide +kernel
theorem dX3_touching_23 : decode cX3_touching 23 = .ok (.iload_n 3, 1) := by decide +kernel
theorem dX3_touching_24 : decode cX3_touching 24 = .ok (.ishl, 1) := by decide +kernel
theorem dX3_touching_25 : decode cX3_touching 25 = .ok (.ior, 1) := by decide +kernel
theorem dX3_touching_26 : decode cX3_touching 26 = .ok (.istore_n 2, 1) := by decide +kernel
theorem dX3_touching_27 : decode cX3_touching 27 = .ok (.iinc 3 1, 3) := by decide +kernel
theorem dX3_touching_30 : decode cX3_touching 30 = .ok (.goto (-26), 3) := by decide +kernel
theorem dX3_touching_33 : decode cX3_touching 33 = .ok (.iload_n 2, 1) := by decide +kernel
theorem dX3_touching_34 : decode cX3_touching 34 = .ok (.ireturn, 1) := by decide +kernel
theorem dX3_leaning_0 : decode cX3_leaning 0 = .ok (.iconst 0, 1) := by decide +kernel
theorem dX3_leaning_1 : decode cX3_leaning 1 = .ok (.istore_n 2, 1) := by decide +kernel
theorem dX3_leaning_2 : decode cX3_leaning 2 = .ok (.iconst 0, 1) := by decide +kernel
theorem dX3_leaning_3 : decode cX3_leaning 3 = .ok (.istore_n 3, 1) := by decide +kernel
theorem dX3_leaning_4 : decode cX3_leaning 4 = .ok (.iload_n 3, 1) := by decide +kernel
theorem dX3_leaning_5 : decode cX3_leaning 5 = .ok (.aload_n 0, 1) := by decide +kernel
theorem dX3_leaning_6 : decode cX3_leaning 6 = .ok (.getfield 42, 3) := by decide +kernel
theorem dX3_leaning_9 : decode cX3_leaning 9 = .ok (.if_icmp .ge 24, 3) := by decide +kernel
theorem dX3_leaning_12 : decode cX3_leaning 12 = .ok (.iload_n 2, 1) := by decide +kernel
theorem dX3_leaning_13 : decode cX3_leaning 13 = .ok (.aload_n 0, 1) := by decide +kernel
theorem dX3_leaning_14 : decode cX3_leaning 14 = .ok (.getfield 32, 3) := by decide +kernel
theorem dX3_leaning_17 : decode cX3_leaning 17 = .ok (.iload_n 3, 1) := by decide +kernel
theorem dX3_leaning_18 : decode cX3_leaning 18 = .ok (.iaload, 1) := by decide +kernel
theorem dX3_leaning_19 : decode cX3_leaning 19 = .ok (.iload_n 1, 1) := by decide +kernel
theorem dX3_leaning_20 : decode cX3_leaning 20 = .ok (.ishr, 1) := by decide +kernel
theorem dX3_leaning_21 : decode cX3_leaning 21 = .ok (.iconst 1, 1) := by decide +kernel
theorem dX3_leaning_22 : decode cX3_leaning 22 = .ok (.iand, 1) := by decide +kernel
theorem dX3_leaning_23 : decode cX3_leaning 23 = .ok (.iload_n 3, 1) := by decide +kernel
theorem dX3_leaning_24 : decode cX3_leaning 24 = .ok (.ishl, 1) := by decide +kernel
theorem dX3_leaning_25 : decode cX3_leaning 25 = .ok (.ior, 1) := by decide +kernel
theorem dX3_leaning_26 : decode cX3_leaning 26 = .ok (.istore_n 2, 1) := by decide +kernel
theorem dX3_leaning_27 : decode cX3_leaning 27 = .ok (.iinc 3 1, 3) := by decide +kernel
theorem dX3_leaning_30 : decode cX3_leaning 30 = .ok (.goto (-26), 3) := by decide +kernel
theorem dX3_leaning_33 : decode cX3_leaning 33 = .ok (.iload_n 2, 1) := by decide +kernel
theorem dX3_leaning_34 : decode cX3_leaning 34 = .ok (.ireturn, 1) := by decide +kernel
theorem dX3_weighs_0 : decode cX3_weighs 0 = .ok (.aload_n 0, 1) := by decide +kernel
theorem dX3_weighs_1 : decode cX3_weighs 1 = .ok (.getfield 32, 3) := by decide +kernel
theorem dX3_weighs_4 : decode cX3_weighs 4 = .ok (.iload_n 1, 1) := by decide +kernel
theorem dX3_weighs_5 : decode cX3_weighs 5 = .ok (.iaload, 1) := by decide +kernel
theorem dX3_weighs_6 : decode cX3_weighs 6 = .ok (.iload_n 3, 1) := by decide +kernel
theorem dX3_weighs_7 : decode cX3_weighs 7 = .ok (.iand, 1) := by decide +kernel
theorem dX3_weighs_8 : decode cX3_weighs 8 = .ok (.istore 4, 2) := by decide +kernel
theorem dX3_weighs_10 : decode cX3_weighs 10 = .ok (.iconst 0, 1) := by decide +kernel
theorem dX3_weighs_11 : decode cX3_weighs 11 = .ok (.istore 5, 2) := by decide +kernel
theorem dX3_weighs_13 : decode cX3_weighs 13 = .ok (.iconst 0, 1) := by decide +kernel
theorem dX3_weighs_14 : decode cX3_weighs 14 = .ok (.istore 6, 2) := by decide +kernel
theorem dX3_weighs_16 : decode cX3_weighs 16 = .ok (.iload 6, 2) := by decide +kernel
theorem dX3_weighs_18 : decode cX3_weighs 18 = .ok (.aload_n 0, 1) := by decide +kernel
theorem dX3_weighs_19 : decode cX3_weighs 19 = .ok (.getfield 38, 3) := by decide +kernel
theorem dX3_weighs_22 : decode cX3_weighs 22 = .ok (.if_icmp .ge 41, 3) := by decide +kernel
theorem dX3_weighs_25 : decode cX3_weighs 25 = .ok (.iload 4, 2) := by decide +kernel
theorem dX3_weighs_27 : decode cX3_weighs 27 = .ok (.iload 6, 2) := by decide +kernel
theorem dX3_weighs_29 : decode cX3_weighs 29 = .ok (.ishr, 1) := by decide +kernel
theorem dX3_weighs_30 : decode cX3_weighs 30 = .ok (.aload_n 0, 1) := by decide +kernel
theorem dX3_weighs_31 : decode cX3_weighs 31 = .ok (.getfield 29, 3) := by decide +kernel
theorem dX3_weighs_34 : decode cX3_weighs 34 = .ok (.iload 6, 2) := by decide +kernel
theorem dX3_weighs_36 : decode cX3_weighs 36 = .ok (.iaload, 1) := by decide +kernel
theorem dX3_weighs_37 : decode cX3_weighs 37 = .ok (.iload_n 2, 1) := by decide +kernel
theorem dX3_weighs_38 : decode cX3_weighs 38 = .ok (.ishr, 1) := by decide +kernel
theorem dX3_weighs_39 : decode cX3_weighs 39 = .ok (.iand, 1) := by decide +kernel
theorem dX3_weighs_40 : decode cX3_weighs 40 = .ok (.iconst 1, 1) := by decide +kernel
theorem dX3_weighs_41 : decode cX3_weighs 41 = .ok (.iand, 1) := by decide +kernel
theorem dX3_weighs_42 : decode cX3_weighs 42 = .ok (.ifCond .eq 15, 3) := by decide +kernel
theorem dX3_weighs_45 : decode cX3_weighs 45 = .ok (.iload 5, 2) := by decide +kernel
theorem dX3_weighs_47 : decode cX3_weighs 47 = .ok (.aload_n 0, 1) := by decide +kernel
theorem dX3_weighs_48 : decode cX3_weighs 48 = .ok (.getfield 25, 3) := by decide +kernel
theorem dX3_weighs_51 : decode cX3_weighs 51 = .ok (.iload 6, 2) := by decide +kernel
theorem dX3_weighs_53 : decode cX3_weighs 53 = .ok (.iaload, 1) := by decide +kernel
theorem dX3_weighs_54 : decode cX3_weighs 54 = .ok (.iadd, 1) := by decide +kernel
theorem dX3_weighs_55 : decode cX3_weighs 55 = .ok (.istore 5, 2) := by decide +kernel
theorem dX3_weighs_57 : decode cX3_weighs 57 = .ok (.iinc 6 1, 3) := by decide +kernel
theorem dX3_weighs_60 : decode cX3_weighs 60 = .ok (.goto (-44), 3) := by decide +kernel
theorem dX3_weighs_63 : decode cX3_weighs 63 = .ok (.iload 5, 2) := by decide +kernel
theorem dX3_weighs_65 : decode cX3_weighs 65 = .ok (.ireturn, 1) := by decide +kernel
theorem dX4_read_0 : decode cX4_read 0 = .ok (.aload_n 0, 1) := by decide +kernel
theorem dX4_read_1 : decode cX4_read 1 = .ok (.invokevirtual 9, 3) := by decide +kernel
theorem dX4_read_4 : decode cX4_read 4 = .ok (.aload_n 0, 1) := by decide +kernel
theorem dX4_read_5 : decode cX4_read 5 = .ok (.invokevirtual 14, 3) := by decide +kernel
theorem dX4_read_8 : decode cX4_read 8 = .ok (.ifCond .eq 5, 3) := by decide +kernel
theorem dX4_read_11 : decode cX4_read 11 = .ok (.iconst 1, 1) := by decide +kernel
theorem dX4_read_12 : decode cX4_read 12 = .ok (.ireturn, 1) := by decide +kernel
theorem dX4_read_13 : decode cX4_read 13 = .ok (.iconst 0, 1) := by decide +kernel
theorem dX4_read_14 : decode cX4_read 14 = .ok (.istore_n 2, 1) := by decide +kernel
theorem dX4_read_15 : decode cX4_read 15 = .ok (.iload_n 2, 1) := by decide +kernel
theorem dX4_read_16 : decode cX4_read 16 = .ok (.bipush 14, 2) := by decide +kernel
theorem dX4_read_18 : decode cX4_read 18 = .ok (.if_icmp .ge 39, 3) := by decide +kernel
theorem dX4_read_21 : decode cX4_read 21 = .ok (.aload_n 0, 1) := by decide +kernel
theorem dX4_read_22 : decode cX4_read 22 = .ok (.aload_n 1, 1) := by decide +kernel
theorem dX4_read_23 : decode cX4_read 23 = .ok (.invokestatic 18, 3) := by decide +kernel
theorem dX4_read_26 : decode cX4_read 26 = .ok (.ifCond .ne 5, 3) := by decide +kernel
theorem dX4_read_29 : decode cX4_read 29 = .ok (.iconst 0, 1) := by decide +kernel
theorem dX4_read_30 : decode cX4_read 30 = .ok (.ireturn, 1) := by decide +kernel
theorem dX4_read_31 : decode cX4_read 31 = .ok (.aload_n 0, 1) := by decide +kernel
theorem dX4_read_32 : decode cX4_read 32 = .ok (.invokevirtual 14, 3) := by decide +kernel
theorem dX4_read_35 : decode cX4_read 35 = .ok (.ifCond .eq 5, 3) := by decide +kernel
theorem dX4_read_38 : decode cX4_read 38 = .ok (.iconst 1, 1) := by decide +kernel
theorem dX4_read_39 : decode cX4_read 39 = .ok (.ireturn, 1) := by decide +kernel
theorem dX4_read_40 : decode cX4_read 40 = .ok (.aload_n 0, 1) := by decide +kernel
theorem dX4_read_41 : decode cX4_read 41 = .ok (.bipush 59, 2) := by decide +kernel
theorem dX4_read_43 : decode cX4_read 43 = .ok (.invokevirtual 24, 3) := by decide +kernel
theorem dX4_read_46 : decode cX4_read 46 = .ok (.ifCond .ne 5, 3) := by decide +kernel
theorem dX4_read_49 : decode cX4_read 49 = .ok (.iconst 0, 1) := by decide +kernel
theorem dX4_read_50 : decode cX4_read 50 = .ok (.ireturn, 1) := by decide +kernel
theorem dX4_read_51 : decode cX4_read 51 = .ok (.iinc 2 1, 3) := by decide +kernel
theorem dX4_read_54 : decode cX4_read 54 = .ok (.goto (-39), 3) := by decide +kernel
theorem dX4_read_57 : decode cX4_read 57 = .ok (.iconst 0, 1) := by decide +kernel
theorem dX4_read_58 : decode cX4_read 58 = .ok (.ireturn, 1) := by decide +kernel
theorem dX4_readLine_0 : decode cX4_readLine 0 = .ok (.aload_n 0, 1) := by decide +kernel
theorem dX4_readLine_1 : decode cX4_readLine 1 = .ok (.ldc 28, 2) := by decide +kernel
theorem dX4_readLine_3 : decode cX4_readLine 3 = .ok (.invokevirtual 30, 3) := by decide +kernel
theorem dX4_readLine_6 : decode cX4_readLine 6 = .ok (.ifCond .eq 31, 3) := by decide +kernel
theorem dX4_readLine_9 : decode cX4_readLine 9 = .ok (.aload_n 1, 1) := by decide +kernel
theorem dX4_readLine_10 : decode cX4_readLine 10 = .ok (.getfield 34, 3) := by decide +kernel
theorem dX4_readLine_13 : decode cX4_readLine 13 = .ok (.getfield 40, 3) := by decide +kernel
theorem dX4_readLine_16 : decode cX4_readLine 16 = .ok (.iconst 5, 1) := by decide +kernel
theorem dX4_readLine_17 : decode cX4_readLine 17 = .ok (.if_icmp .ge 18, 3) := by decide +kernel
theorem dX4_readLine_20 : decode cX4_readLine 20 = .ok (.aload_n 0, 1) := by decide +kernel
theorem dX4_readLine_21 : decode cX4_readLine 21 = .ok (.aload_n 1, 1) := by decide +kernel
theorem dX4_readLine_22 : decode cX4_readLine 22 = .ok (.getfield 34, 3) := by decide +kernel
theorem dX4_readLine_25 : decode cX4_readLine 25 = .ok (.invokestatic 46, 3) := by decide +kernel
theorem dX4_readLine_28 : decode cX4_readLine 28 = .ok (.ifCond .eq 7, 3) := by decide +kernel
theorem dX4_readLine_31 : decode cX4_readLine 31 = .ok (.iconst 1, 1) := by decide +kernel
theorem dX4_readLine_32 : decode cX4_readLine 32 = .ok (.goto 4, 3) := by decide +kernel
theorem dX4_readLine_35 : decode cX4_readLine 35 = .ok (.iconst 0, 1) := by decide +kernel
theorem dX4_readLine_36 : decode cX4_readLine 36 = .ok (.ireturn, 1) := by decide +kernel
theorem dX4_readLine_37 : decode cX4_readLine 37 = .ok (.aload_n 0, 1) := by decide +kernel
theorem dX4_readLine_38 : decode cX4_readLine 38 = .ok (.ldc 50, 2) := by decide +kernel
theorem dX4_readLine_40 : decode cX4_readLine 40 = .ok (.invokevirtual 30, 3) := by decide +kernel
theorem dX4_readLine_43 : decode cX4_readLine 43 = .ok (.ifCond .eq 26, 3) := by decide +kernel
theorem dX4_readLine_46 : decode cX4_readLine 46 = .ok (.aload_n 1, 1) := by decide +kernel
theorem dX4_readLine_47 : decode cX4_readLine 47 = .ok (.getfield 52, 3) := by decide +kernel
theorem dX4_readLine_50 : decode cX4_readLine 50 = .ok (.bipush 6, 2) := by decide +kernel
theorem dX4_readLine_52 : decode cX4_readLine 52 = .ok (.if_icmp .ge 15, 3) := by decide +kernel
theorem dX4_readLine_55 : decode cX4_readLine 55 = .ok (.aload_n 0, 1) := by decide +kernel
theorem dX4_readLine_56 : decode cX4_readLine 56 = .ok (.aload_n 1, 1) := by decide +kernel
theorem dX4_readLine_57 : decode cX4_readLine 57 = .ok (.invokestatic 55, 3) := by decide +kernel
theorem dX4_readLine_60 : decode cX4_readLine 60 = .ok (.ifCond .eq 7, 3) := by decide +kernel
theorem dX4_readLine_63 : decode cX4_readLine 63 = .ok (.iconst 1, 1) := by decide +kernel
theorem dX4_readLine_64 : decode cX4_readLine 64 = .ok (.goto 4, 3) := by decide +kernel
theorem dX4_readLine_67 : decode cX4_readLine 67 = .ok (.iconst 0, 1) := by decide +kernel
theorem dX4_readLine_68 : decode cX4_readLine 68 = .ok (.ireturn, 1) := by decide +kernel
theorem dX4_readLine_69 : decode cX4_readLine 69 = .ok (.aload_n 0, 1) := by decide +kernel
theorem dX4_readLine_70 : decode cX4_readLine 70 = .ok (.ldc 58, 2) := by decide +kernel
theorem dX4_readLine_72 : decode cX4_readLine 72 = .ok (.invokevirtual 30, 3) := by decide +kernel
theorem dX4_readLine_75 : decode cX4_readLine 75 = .ok (.ifCond .eq 26, 3) := by decide +kernel
theorem dX4_readLine_78 : decode cX4_readLine 78 = .ok (.aload_n 1, 1) := by decide +kernel
theorem dX4_readLine_79 : decode cX4_readLine 79 = .ok (.getfield 60, 3) := by decide +kernel
theorem dX4_readLine_82 : decode cX4_readLine 82 = .ok (.bipush 8, 2) := by decide +kernel
theorem dX4_readLine_84 : decode cX4_readLine 84 = .ok (.if_icmp .ge 15, 3) := by decide +kernel
theorem dX4_readLine_87 : decode cX4_readLine 87 = .ok (.aload_n 0, 1) := by decide +kernel
theorem dX4_readLine_88 : decode cX4_readLine 88 = .ok (.aload_n 1, 1) := by decide +kernel
theorem dX4_readLine_89 : decode cX4_readLine 89 = .ok (.invokestatic 63, 3) := by decide +kernel
theorem dX4_readLine_92 : decode cX4_readLine 92 = .ok (.ifCond .eq 7, 3) := by decide +kernel
theorem dX4_readLine_95 : decode cX4_readLine 95 = .ok (.iconst 1, 1) := by decide +kernel
theorem dX4_readLine_96 : decode cX4_readLine 96 = .ok (.goto 4, 3) := by decide +kernel
theorem dX4_readLine_99 : decode cX4_readLine 99 = .ok (.iconst 0, 1) := by decide +kernel
theorem dX4_readLine_100 : decode cX4_readLine 100 = .ok (.ireturn, 1) := by decide +kernel
theorem dX4_readLine_101 : decode cX4_readLine 101 = .ok (.aload_n 0, 1) := by decide +kernel
theorem dX4_readLine_102 : decode cX4_readLine 102 = .ok (.ldc 66, 2) := by decide +kernel
theorem dX4_readLine_104 : decode cX4_readLine 104 = .ok (.invokevirtual 30, 3) := by decide +kernel
theorem dX4_readLine_107 : decode cX4_readLine 107 = .ok (.ifCond .eq 25, 3) := by decide +kernel
theorem dX4_readLine_110 : decode cX4_readLine 110 = .ok (.aload_n 1, 1) := by decide +kernel
theorem dX4_readLine_111 : decode cX4_readLine 111 = .ok (.getfield 68, 3) := by decide +kernel
theorem dX4_readLine_114 : decode cX4_readLine 114 = .ok (.iconst 4, 1) := by decide +kernel
theorem dX4_readLine_115 : decode cX4_readLine 115 = .ok (.if_icmp .ge 15, 3) := by decide +kernel
theorem dX4_readLine_118 : decode cX4_readLine 118 = .ok (.aload_n 0, 1) := by decide +kernel
theorem dX4_readLine_119 : decode cX4_readLine 119 = .ok (.aload_n 1, 1) := by decide +kernel
theorem dX4_readLine_120 : decode cX4_readLine 120 = .ok (.invokestatic 71, 3) := by decide +kernel
theorem dX4_readLine_123 : decode cX4_readLine 123 = .ok (.ifCond .eq 7, 3) := by decide +kernel
theorem dX4_readLine_126 : decode cX4_readLine 126 = .ok (.iconst 1, 1) := by decide +kernel
theorem dX4_readLine_127 : decode cX4_readLine 127 = .ok (.goto 4, 3) := by decide +kernel
theorem dX4_readLine_130 : decode cX4_readLine 130 = .ok (.iconst 0, 1) := by decide +kernel
theorem dX4_readLine_131 : decode cX4_readLine 131 = .ok (.ireturn, 1) := by decide +kernel
theorem dX4_readLine_132 : decode cX4_readLine 132 = .ok (.aload_n 0, 1) := by decide +kernel
theorem dX4_readLine_133 : decode cX4_readLine 133 = .ok (.aload_n 1, 1) := by decide +kernel
theorem dX4_readLine_134 : decode cX4_readLine 134 = .ok (.invokestatic 74, 3) := by decide +kernel
theorem dX4_readLine_137 : decode cX4_readLine 137 = .ok (.ireturn, 1) := by decide +kernel
theorem dX4_readNumber_0 : decode cX4_readNumber 0 = .ok (.aload_n 0, 1) := by decide +kernel
theorem dX4_readNumber_1 : decode cX4_readNumber 1 = .ok (.ldc 77, 2) := by decide +kernel
theorem dX4_readNumber_3 : decode cX4_readNumber 3 = .ok (.invokevirtual 30, 3) := by decide +kernel
theorem dX4_readNumber_6 : decode cX4_readNumber 6 = .ok (.ifCond .eq 30, 3) := by decide +kernel
theorem dX4_readNumber_9 : decode cX4_readNumber 9 = .ok (.aload_n 1, 1) := by decide +kernel
theorem dX4_readNumber_10 : decode cX4_readNumber 10 = .ok (.aload_n 0, 1) := by decide +kernel
theorem dX4_readNumber_11 : decode cX4_readNumber 11 = .ok (.ldc 77, 2) := by decide +kernel
theorem dX4_readNumber_13 : decode cX4_readNumber 13 = .ok (.iconst 0, 1) := by decide +kernel
theorem dX4_readNumber_14 : decode cX4_readNumber 14 = .ok (.bipush 9, 2) := by decide +kernel
theorem dX4_readNumber_16 : decode cX4_readNumber 16 = .ok (.invokevirtual 79, 3) := by decide +kernel
theorem dX4_readNumber_19 : decode cX4_readNumber 19 = .ok (.putfield 83, 3) := by decide +kernel
theorem dX4_readNumber_22 : decode cX4_readNumber 22 = .ok (.aload_n 1, 1) := by decide +kernel
theorem dX4_readNumber_23 : decode cX4_readNumber 23 = .ok (.getfield 83, 3) := by decide +kernel
theorem dX4_readNumber_26 : decode cX4_readNumber 26 = .ok (.iconst (-1), 1) := by decide +kernel
theorem dX4_readNumber_27 : decode cX4_readNumber 27 = .ok (.if_icmp .eq 7, 3) := by decide +kernel
theorem dX4_readNumber_30 : decode cX4_readNumber 30 = .ok (.iconst 1, 1) := by decide +kernel
theorem dX4_readNumber_31 : decode cX4_readNumber 31 = .ok (.goto 4, 3) := by decide +kernel
theorem dX4_readNumber_34 : decode cX4_readNumber 34 = .ok (.iconst 0, 1) := by decide +kernel
theorem dX4_readNumber_35 : decode cX4_readNumber 35 = .ok (.ireturn, 1) := by decide +kernel
theorem dX4_readNumber_36 : decode cX4_readNumber 36 = .ok (.aload_n 0, 1) := by decide +kernel
theorem dX4_readNumber_37 : decode cX4_readNumber 37 = .ok (.ldc 85, 2) := by decide +kernel
theorem dX4_readNumber_39 : decode cX4_readNumber 39 = .ok (.invokevirtual 30, 3) := by decide +kernel
theorem dX4_readNumber_42 : decode cX4_readNumber 42 = .ok (.ifCond .eq 30, 3) := by decide +kernel
theorem dX4_readNumber_45 : decode cX4_readNumber 45 = .ok (.aload_n 1, 1) := by decide +kernel
theorem dX4_readNumber_46 : decode cX4_readNumber 46 = .ok (.aload_n 0, 1) := by decide +kernel
theorem dX4_readNumber_47 : decode cX4_readNumber 47 = .ok (.ldc 85, 2) := by decide +kernel
theorem dX4_readNumber_49 : decode cX4_readNumber 49 = .ok (.iconst 0, 1) := by decide +kernel
theorem dX4_readNumber_50 : decode cX4_readNumber 50 = .ok (.bipush 100, 2) := by decide +kernel
theorem dX4_readNumber_52 : decode cX4_readNumber 52 = .ok (.invokevirtual 79, 3) := by decide +kernel
theorem dX4_readNumber_55 : decode cX4_readNumber 55 = .ok (.putfield 87, 3) := by decide +kernel
theorem dX4_readNumber_58 : decode cX4_readNumber 58 = .ok (.aload_n 1, 1) := by decide +kernel
theorem dX4_readNumber_59 : decode cX4_readNumber 59 = .ok (.getfield 87, 3) := by decide +kernel
theorem dX4_readNumber_62 : decode cX4_readNumber 62 = .ok (.iconst (-1), 1) := by decide +kernel
theorem dX4_readNumber_63 : decode cX4_readNumber 63 = .ok (.if_icmp .eq 7, 3) := by decide +kernel
theorem dX4_readNumber_66 : decode cX4_readNumber 66 = .ok (.iconst 1, 1) := by decide +kernel
theorem dX4_readNumber_67 : decode cX4_readNumber 67 = .ok (.goto 4, 3) := by decide +kernel
theorem dX4_readNumber_70 : decode cX4_readNumber 70 = .ok (.iconst 0, 1) := by decide +kernel
theorem dX4_readNumber_71 : decode cX4_readNumber 71 = .ok (.ireturn, 1) := by decide +kernel
theorem dX4_readNumber_72 : decode cX4_readNumber 72 = .ok (.aload_n 0, 1) := by decide +kernel
theorem dX4_readNumber_73 : decode cX4_readNumber 73 = .ok (.ldc 90, 2) := by decide +kernel
theorem dX4_readNumber_75 : decode cX4_readNumber 75 = .ok (.invokevirtual 30, 3) := by decide +kernel
theorem dX4_readNumber_78 : decode cX4_readNumber 78 = .ok (.ifCond .eq 30, 3) := by decide +kernel
theorem dX4_readNumber_81 : decode cX4_readNumber 81 = .ok (.aload_n 1, 1) := by decide +kernel
theorem dX4_readNumber_82 : decode cX4_readNumber 82 = .ok (.aload_n 0, 1) := by decide +kernel
theorem dX4_readNumber_83 : decode cX4_readNumber 83 = .ok (.ldc 90, 2) := by decide +kernel
theorem dX4_readNumber_85 : decode cX4_readNumber 85 = .ok (.iconst 0, 1) := by decide +kernel
theorem dX4_readNumber_86 : decode cX4_readNumber 86 = .ok (.bipush 100, 2) := by decide +kernel
theorem dX4_readNumber_88 : decode cX4_readNumber 88 = .ok (.invokevirtual 79, 3) := by decide +kernel
theorem dX4_readNumber_91 : decode cX4_readNumber 91 = .ok (.putfield 92, 3) := by decide +kernel
theorem dX4_readNumber_94 : decode cX4_readNumber 94 = .ok (.aload_n 1, 1) := by decide +kernel
theorem dX4_readNumber_95 : decode cX4_readNumber 95 = .ok (.getfield 92, 3) := by decide +kernel
theorem dX4_readNumber_98 : decode cX4_readNumber 98 = .ok (.iconst (-1), 1) := by decide +kernel
theorem dX4_readNumber_99 : decode cX4_readNumber 99 = .ok (.if_icmp .eq 7, 3) := by decide +kernel
theorem dX4_readNumber_102 : decode cX4_readNumber 102 = .ok (.iconst 1, 1) := by decide +kernel
theorem dX4_readNumber_103 : decode cX4_readNumber 103 = .ok (.goto 4, 3) := by decide +kernel
theorem dX4_readNumber_106 : decode cX4_readNumber 106 = .ok (.iconst 0, 1) := by decide +kernel
theorem dX4_readNumber_107 : decode cX4_readNumber 107 = .ok (.ireturn, 1) := by decide +kernel
theorem dX4_readNumber_108 : decode cX4_readNumber 108 = .ok (.aload_n 0, 1) := by decide +kernel
theorem dX4_readNumber_109 : decode cX4_readNumber 109 = .ok (.ldc 94, 2) := by decide +kernel
theorem dX4_readNumber_111 : decode cX4_readNumber 111 = .ok (.invokevirtual 30, 3) := by decide +kernel
theorem dX4_readNumber_114 : decode cX4_readNumber 114 = .ok (.ifCond .eq 31, 3) := by decide +kernel
theorem dX4_readNumber_117 : decode cX4_readNumber 117 = .ok (.aload_n 1, 1) := by decide +kernel
theorem dX4_readNumber_118 : decode cX4_readNumber 118 = .ok (.aload_n 0, 1) := by decide +kernel
theorem dX4_readNumber_119 : decode cX4_readNumber 119 = .ok (.ldc 94, 2) := by decide +kernel
theorem dX4_readNumber_121 : decode cX4_readNumber 121 = .ok (.iconst 0, 1) := by decide +kernel
theorem dX4_readNumber_122 : decode cX4_readNumber 122 = .ok (.sipush 999, 3) := by decide +kernel
theorem dX4_readNumber_125 : decode cX4_readNumber 125 = .ok (.invokevirtual 79, 3) := by decide +kernel
theorem dX4_readNumber_128 : decode cX4_readNumber 128 = .ok (.putfield 96, 3) := by decide +kernel
theorem dX4_readNumber_131 : decode cX4_readNumber 131 = .ok (.aload_n 1, 1) := by decide +kernel
theorem dX4_readNumber_132 : decode cX4_readNumber 132 = .ok (.getfield 96, 3) := by decide +kernel
theorem dX4_readNumber_135 : decode cX4_readNumber 135 = .ok (.iconst (-1), 1) := by decide +kernel
theorem dX4_readNumber_136 : decode cX4_readNumber 136 = .ok (.if_icmp .eq 7, 3) := by decide +kernel
theorem dX4_readNumber_139 : decode cX4_readNumber 139 = .ok (.iconst 1, 1) := by decide +kernel
theorem dX4_readNumber_140 : decode cX4_readNumber 140 = .ok (.goto 4, 3) := by decide +kernel
theorem dX4_readNumber_143 : decode cX4_readNumber 143 = .ok (.iconst 0, 1) := by decide +kernel
theorem dX4_readNumber_144 : decode cX4_readNumber 144 = .ok (.ireturn, 1) := by decide +kernel
theorem dX4_readNumber_145 : decode cX4_readNumber 145 = .ok (.iconst 0, 1) := by decide +kernel
theorem dX4_readNumber_146 : decode cX4_readNumber 146 = .ok (.ireturn, 1) := by decide +kernel
theorem dX4_readWitness_0 : decode cX4_readWitness 0 = .ok (.aload_n 0, 1) := by decide +kernel
theorem dX4_readWitness_1 : decode cX4_readWitness 1 = .ok (.invokevirtual 98, 3) := by decide +kernel
theorem dX4_readWitness_4 : decode cX4_readWitness 4 = .ok (.aload_n 0, 1) := by decide +kernel
theorem dX4_readWitness_5 : decode cX4_readWitness 5 = .ok (.ldc 101, 2) := by decide +kernel
theorem dX4_readWitness_7 : decode cX4_readWitness 7 = .ok (.iconst 0, 1) := by decide +kernel
theorem dX4_readWitness_8 : decode cX4_readWitness 8 = .ok (.bipush 9, 2) := by decide +kernel
theorem dX4_readWitness_10 : decode cX4_readWitness 10 = .ok (.invokevirtual 79, 3) := by decide +kernel
theorem dX4_readWitness_13 : decode cX4_readWitness 13 = .ok (.istore_n 2, 1) := by decide +kernel
theorem dX4_readWitness_14 : decode cX4_readWitness 14 = .ok (.iload_n 2, 1) := by decide +kernel
theorem dX4_readWitness_15 : decode cX4_readWitness 15 = .ok (.iconst (-1), 1) := by decide +kernel
theorem dX4_readWitness_16 : decode cX4_readWitness 16 = .ok (.if_icmp .ne 7, 3) := by decide +kernel
theorem dX4_readWitness_19 : decode cX4_readWitness 19 = .ok (.iconst (-1), 1) := by decide +kernel
theorem dX4_readWitness_20 : decode cX4_readWitness 20 = .ok (.goto 12, 3) := by decide +kernel
theorem dX4_readWitness_23 : decode cX4_readWitness 23 = .ok (.aload_n 0, 1) := by decide +kernel
theorem dX4_readWitness_24 : decode cX4_readWitness 24 = .ok (.ldc 103, 2) := by decide +kernel
theorem dX4_readWitness_26 : decode cX4_readWitness 26 = .ok (.iconst 0, 1) := by decide +kernel
theorem dX4_readWitness_27 : decode cX4_readWitness 27 = .ok (.bipush 9, 2) := by decide +kernel
theorem dX4_readWitness_29 : decode cX4_readWitness 29 = .ok (.invokevirtual 79, 3) := by decide +kernel
theorem dX4_readWitness_32 : decode cX4_readWitness 32 = .ok (.istore_n 3, 1) := by decide +kernel
theorem dX4_readWitness_33 : decode cX4_readWitness 33 = .ok (.iload_n 3, 1) := by decide +kernel
theorem dX4_readWitness_34 : decode cX4_readWitness 34 = .ok (.iconst (-1), 1) := by decide +kernel
theorem dX4_readWitness_35 : decode cX4_readWitness 35 = .ok (.if_icmp .ne 5, 3) := by decide +kernel
theorem dX4_readWitness_38 : decode cX4_readWitness 38 = .ok (.iconst 0, 1) := by decide +kernel
theorem dX4_readWitness_39 : decode cX4_readWitness 39 = .ok (.ireturn, 1) := by decide +kernel
theorem dX4_readWitness_40 : decode cX4_readWitness 40 = .ok (.aload_n 0, 1) := by decide +kernel
theorem dX4_readWitness_41 : decode cX4_readWitness 41 = .ok (.ldc 105, 2) := by decide +kernel
theorem dX4_readWitness_43 : decode cX4_readWitness 43 = .ok (.invokevirtual 30, 3) := by decide +kernel
theorem dX4_readWitness_46 : decode cX4_readWitness 46 = .ok (.ifCond .eq 15, 3) := by decide +kernel
theorem dX4_readWitness_49 : decode cX4_readWitness 49 = .ok (.aload_n 0, 1) := by decide +kernel
theorem dX4_readWitness_50 : decode cX4_readWitness 50 = .ok (.ldc 105, 2) := by decide +kernel
theorem dX4_readWitness_52 : decode cX4_readWitness 52 = .ok (.iconst 0, 1) := by decide +kernel
theorem dX4_readWitness_53 : decode cX4_readWitness 53 = .ok (.bipush 99, 2) := by decide +kernel
theorem dX4_readWitness_55 : decode cX4_readWitness 55 = .ok (.invokevirtual 79, 3) := by decide +kernel
theorem dX4_readWitness_58 : decode cX4_readWitness 58 = .ok (.goto 4, 3) := by decide +kernel
theorem dX4_readWitness_61 : decode cX4_readWitness 61 = .ok (.iconst 0, 1) := by decide +kernel
theorem dX4_readWitness_62 : decode cX4_readWitness 62 = .ok (.istore 4, 2) := by decide +kernel
theorem dX4_readWitness_64 : decode cX4_readWitness 64 = .ok (.iload 4, 2) := by decide +kernel
theorem dX4_readWitness_66 : decode cX4_readWitness 66 = .ok (.iconst (-1), 1) := by decide +kernel
theorem dX4_readWitness_67 : decode cX4_readWitness 67 = .ok (.if_icmp .ne 5, 3) := by decide +kernel
theorem dX4_readWitness_70 : decode cX4_readWitness 70 = .ok (.iconst 0, 1) := by decide +kernel
theorem dX4_readWitness_71 : decode cX4_readWitness 71 = .ok (.ireturn, 1) := by decide +kernel
theorem dX4_readWitness_72 : decode cX4_readWitness 72 = .ok (.aload_n 0, 1) := by decide +kernel
theorem dX4_readWitness_73 : decode cX4_readWitness 73 = .ok (.ldc 107, 2) := by decide +kernel
theorem dX4_readWitness_75 : decode cX4_readWitness 75 = .ok (.invokevirtual 30, 3) := by decide +kernel
theorem dX4_readWitness_78 : decode cX4_readWitness 78 = .ok (.ifCond .eq 15, 3) := by decide +kernel
theorem dX4_readWitness_81 : decode cX4_readWitness 81 = .ok (.aload_n 0, 1) := by decide +kernel
theorem dX4_readWitness_82 : decode cX4_readWitness 82 = .ok (.ldc 107, 2) := by decide +kernel
theorem dX4_readWitness_84 : decode cX4_readWitness 84 = .ok (.iconst 0, 1) := by decide +kernel
theorem dX4_readWitness_85 : decode cX4_readWitness 85 = .ok (.bipush 99, 2) := by decide +kernel
theorem dX4_readWitness_87 : decode cX4_readWitness 87 = .ok (.invokevirtual 79, 3) := by decide +kernel
theorem dX4_readWitness_90 : decode cX4_readWitness 90 = .ok (.goto 4, 3) := by decide +kernel
theorem dX4_readWitness_93 : decode cX4_readWitness 93 = .ok (.iconst 0, 1) := by decide +kernel
theorem dX4_readWitness_94 : decode cX4_readWitness 94 = .ok (.istore 5, 2) := by decide +kernel
theorem dX4_readWitness_96 : decode cX4_readWitness 96 = .ok (.iload 5, 2) := by decide +kernel
theorem dX4_readWitness_98 : decode cX4_readWitness 98 = .ok (.iconst (-1), 1) := by decide +kernel
theorem dX4_readWitness_99 : decode cX4_readWitness 99 = .ok (.if_icmp .ne 5, 3) := by decide +kernel
theorem dX4_readWitness_102 : decode cX4_readWitness 102 = .ok (.iconst 0, 1) := by decide +kernel
theorem dX4_readWitness_103 : decode cX4_readWitness 103 = .ok (.ireturn, 1) := by decide +kernel
theorem dX4_readWitness_104 : decode cX4_readWitness 104 = .ok (.aload_n 1, 1) := by decide +kernel
theorem dX4_readWitness_105 : decode cX4_readWitness 105 = .ok (.getfield 40, 3) := by decide +kernel
theorem dX4_readWitness_108 : decode cX4_readWitness 108 = .ok (.istore 6, 2) := by decide +kernel
theorem dX4_readWitness_110 : decode cX4_readWitness 110 = .ok (.aload_n 1, 1) := by decide +kernel
theorem dX4_readWitness_111 : decode cX4_readWitness 111 = .ok (.getfield 109, 3) := by decide +kernel
theorem dX4_readWitness_114 : decode cX4_readWitness 114 = .ok (.iload 6, 2) := by decide +kernel
theorem dX4_readWitness_116 : decode cX4_readWitness 116 = .ok (.iload_n 2, 1) := by decide +kernel
theorem dX4_readWitness_117 : decode cX4_readWitness 117 = .ok (.iastore, 1) := by decide +kernel
theorem dX4_readWitness_118 : decode cX4_readWitness 118 = .ok (.aload_n 1, 1) := by decide +kernel
theorem dX4_readWitness_119 : decode cX4_readWitness 119 = .ok (.getfield 112, 3) := by decide +kernel
theorem dX4_readWitness_122 : decode cX4_readWitness 122 = .ok (.iload 6, 2) := by decide +kernel
theorem dX4_readWitness_124 : decode cX4_readWitness 124 = .ok (.iload_n 3, 1) := by decide +kernel
theorem dX4_readWitness_125 : decode cX4_readWitness 125 = .ok (.iastore, 1) := by decide +kernel
theorem dX4_readWitness_126 : decode cX4_readWitness 126 = .ok (.aload_n 1, 1) := by decide +kernel
theorem dX4_readWitness_127 : decode cX4_readWitness 127 = .ok (.getfield 114, 3) := by decide +kernel
theorem dX4_readWitness_130 : decode cX4_readWitness 130 = .ok (.iload 6, 2) := by decide +kernel
theorem dX4_readWitness_132 : decode cX4_readWitness 132 = .ok (.iload 4, 2) := by decide +kernel
theorem dX4_readWitness_134 : decode cX4_readWitness 134 = .ok (.iastore, 1) := by decide +kernel
theorem dX4_readWitness_135 : decode cX4_readWitness 135 = .ok (.aload_n 1, 1) := by decide +kernel
theorem dX4_readWitness_136 : decode cX4_readWitness 136 = .ok (.getfield 116, 3) := by decide +kernel
theorem dX4_readWitness_139 : decode cX4_readWitness 139 = .ok (.iload 6, 2) := by decide +kernel
theorem dX4_readWitness_141 : decode cX4_readWitness 141 = .ok (.iload 5, 2) := by decide +kernel
theorem dX4_readWitness_143 : decode cX4_readWitness 143 = .ok (.iastore, 1) := by decide +kernel
theorem dX4_readWitness_144 : decode cX4_readWitness 144 = .ok (.aload_n 1, 1) := by decide +kernel
theorem dX4_readWitness_145 : decode cX4_readWitness 145 = .ok (.getfield 118, 3) := by decide +kernel
theorem dX4_readWitness_148 : decode cX4_readWitness 148 = .ok (.iload 6, 2) := by decide +kernel
theorem dX4_readWitness_150 : decode cX4_readWitness 150 = .ok (.iload 6, 2) := by decide +kernel
theorem dX4_readWitness_152 : decode cX4_readWitness 152 = .ok (.iastore, 1) := by decide +kernel
theorem dX4_readWitness_153 : decode cX4_readWitness 153 = .ok (.aload_n 1, 1) := by decide +kernel
theorem dX4_readWitness_154 : decode cX4_readWitness 154 = .ok (.getfield 121, 3) := by decide +kernel
theorem dX4_readWitness_157 : decode cX4_readWitness 157 = .ok (.iload 6, 2) := by decide +kernel
theorem dX4_readWitness_159 : decode cX4_readWitness 159 = .ok (.iload 6, 2) := by decide +kernel
theorem dX4_readWitness_161 : decode cX4_readWitness 161 = .ok (.iastore, 1) := by decide +kernel
theorem dX4_readWitness_162 : decode cX4_readWitness 162 = .ok (.aload_n 1, 1) := by decide +kernel
theorem dX4_readWitness_163 : decode cX4_readWitness 163 = .ok (.dup, 1) := by decide +kernel
theorem dX4_readWitness_164 : decode cX4_readWitness 164 = .ok (.getfield 40, 3) := by decide +kernel
theorem dX4_readWitness_167 : decode cX4_readWitness 167 = .ok (.iconst 1, 1) := by decide +kernel
theorem dX4_readWitness_168 : decode cX4_readWitness 168 = .ok (.iadd, 1) := by decide +kernel
theorem dX4_readWitness_169 : decode cX4_readWitness 169 = .ok (.putfield 40, 3) := by decide +kernel
theorem dX4_readWitness_172 : decode cX4_readWitness 172 = .ok (.iconst 1, 1) := by decide +kernel
theorem dX4_readWitness_173 : decode cX4_readWitness 173 = .ok (.ireturn, 1) := by decide +kernel
theorem dX4_readThing_0 : decode cX4_readThing 0 = .ok (.aload_n 0, 1) := by decide +kernel
theorem dX4_readThing_1 : decode cX4_readThing 1 = .ok (.invokevirtual 98, 3) := by decide +kernel
theorem dX4_readThing_4 : decode cX4_readThing 4 = .ok (.aload_n 0, 1) := by decide +kernel
theorem dX4_readThing_5 : decode cX4_readThing 5 = .ok (.ldc 124, 2) := by decide +kernel
theorem dX4_readThing_7 : decode cX4_readThing 7 = .ok (.iconst 1, 1) := by decide +kernel
theorem dX4_readThing_8 : decode cX4_readThing 8 = .ok (.bipush 9, 2) := by decide +kernel
theorem dX4_readThing_10 : decode cX4_readThing 10 = .ok (.invokevirtual 79, 3) := by decide +kernel
theorem dX4_readThing_13 : decode cX4_readThing 13 = .ok (.istore_n 2, 1) := by decide +kernel
theorem dX4_readThing_14 : decode cX4_readThing 14 = .ok (.iload_n 2, 1) := by decide +kernel
theorem dX4_readThing_15 : decode cX4_readThing 15 = .ok (.iconst (-1), 1) := by decide +kernel
theorem dX4_readThing_16 : decode cX4_readThing 16 = .ok (.if_icmp .ne 5, 3) := by decide +kernel
theorem dX4_readThing_19 : decode cX4_readThing 19 = .ok (.iconst 0, 1) := by decide +kernel
theorem dX4_readThing_20 : decode cX4_readThing 20 = .ok (.ireturn, 1) := by decide +kernel
theorem dX4_readThing_21 : decode cX4_readThing 21 = .ok (.aload_n 0, 1) := by decide +kernel
theorem dX4_readThing_22 : decode cX4_readThing 22 = .ok (.ldc 126, 2) := by decide +kernel
theorem dX4_readThing_24 : decode cX4_readThing 24 = .ok (.invokevirtual 128, 3) := by decide +kernel
theorem dX4_readThing_27 : decode cX4_readThing 27 = .ok (.ifCond .eq 17, 3) := by decide +kernel
theorem dX4_readThing_30 : decode cX4_readThing 30 = .ok (.aload_n 0, 1) := by decide +kernel
theorem dX4_readThing_31 : decode cX4_readThing 31 = .ok (.aload_n 1, 1) := by decide +kernel
theorem dX4_readThing_32 : decode cX4_readThing 32 = .ok (.getfield 34, 3) := by decide +kernel
theorem dX4_readThing_35 : decode cX4_readThing 35 = .ok (.getfield 40, 3) := by decide +kernel
theorem dX4_readThing_38 : decode cX4_readThing 38 = .ok (.invokevirtual 131, 3) := by decide +kernel
theorem dX4_readThing_41 : decode cX4_readThing 41 = .ok (.goto 4, 3) := by decide +kernel
theorem dX4_readThing_44 : decode cX4_readThing 44 = .ok (.iconst 0, 1) := by decide +kernel
theorem dX4_readThing_45 : decode cX4_readThing 45 = .ok (.istore_n 3, 1) := by decide +kernel
theorem dX4_readThing_46 : decode cX4_readThing 46 = .ok (.iload_n 3, 1) := by decide +kernel
theorem dX4_readThing_47 : decode cX4_readThing 47 = .ok (.iconst (-1), 1) := by decide +kernel
theorem dX4_readThing_48 : decode cX4_readThing 48 = .ok (.if_icmp .ne 5, 3) := by decide +kernel
theorem dX4_readThing_51 : decode cX4_readThing 51 = .ok (.iconst 0, 1) := by decide +kernel
theorem dX4_readThing_52 : decode cX4_readThing 52 = .ok (.ireturn, 1) := by decide +kernel
theorem dX4_readThing_53 : decode cX4_readThing 53 = .ok (.aload_n 1, 1) := by decide +kernel
theorem dX4_readThing_54 : decode cX4_readThing 54 = .ok (.getfield 52, 3) := by decide +kernel
theorem dX4_readThing_57 : decode cX4_readThing 57 = .ok (.istore 4, 2) := by decide +kernel
theorem dX4_readThing_59 : decode cX4_readThing 59 = .ok (.aload_n 0, 1) := by decide +kernel
theorem dX4_readThing_60 : decode cX4_readThing 60 = .ok (.ldc 135, 2) := by decide +kernel
theorem dX4_readThing_62 : decode cX4_readThing 62 = .ok (.invokevirtual 128, 3) := by decide +kernel
theorem dX4_readThing_65 : decode cX4_readThing 65 = .ok (.ifCond .eq 7, 3) := by decide +kernel
theorem dX4_readThing_68 : decode cX4_readThing 68 = .ok (.iconst 1, 1) := by decide +kernel
theorem dX4_readThing_69 : decode cX4_readThing 69 = .ok (.goto 4, 3) := by decide +kernel
theorem dX4_readThing_72 : decode cX4_readThing 72 = .ok (.iconst 0, 1) := by decide +kernel
theorem dX4_readThing_73 : decode cX4_readThing 73 = .ok (.istore 5, 2) := by decide +kernel
theorem dX4_readThing_75 : decode cX4_readThing 75 = .ok (.aload_n 1, 1) := by decide +kernel
theorem dX4_readThing_76 : decode cX4_readThing 76 = .ok (.getfield 137, 3) := by decide +kernel
theorem dX4_readThing_79 : decode cX4_readThing 79 = .ok (.iload 4, 2) := by decide +kernel
theorem dX4_readThing_81 : decode cX4_readThing 81 = .ok (.iload_n 2, 1) := by decide +kernel
theorem dX4_readThing_82 : decode cX4_readThing 82 = .ok (.iastore, 1) := by decide +kernel
theorem dX4_readThing_83 : decode cX4_readThing 83 = .ok (.aload_n 1, 1) := by decide +kernel
theorem dX4_readThing_84 : decode cX4_readThing 84 = .ok (.getfield 139, 3) := by decide +kernel
theorem dX4_readThing_87 : decode cX4_readThing 87 = .ok (.iload 4, 2) := by decide +kernel
theorem dX4_readThing_89 : decode cX4_readThing 89 = .ok (.iload_n 3, 1) := by decide +kernel
theorem dX4_readThing_90 : decode cX4_readThing 90 = .ok (.iastore, 1) := by decide +kernel
theorem dX4_readThing_91 : decode cX4_readThing 91 = .ok (.aload_n 1, 1) := by decide +kernel
theorem dX4_readThing_92 : decode cX4_readThing 92 = .ok (.dup, 1) := by decide +kernel
theorem dX4_readThing_93 : decode cX4_readThing 93 = .ok (.getfield 141, 3) := by decide +kernel
theorem dX4_readThing_96 : decode cX4_readThing 96 = .ok (.iload 5, 2) := by decide +kernel
theorem dX4_readThing_98 : decode cX4_readThing 98 = .ok (.iload 4, 2) := by decide +kernel
theorem dX4_readThing_100 : decode cX4_readThing 100 = .ok (.ishl, 1) := by decide +kernel
theorem dX4_readThing_101 : decode cX4_readThing 101 = .ok (.ior, 1) := by decide +kernel
theorem dX4_readThing_102 : decode cX4_readThing 102 = .ok (.putfield 141, 3) := by decide +kernel
theorem dX4_readThing_105 : decode cX4_readThing 105 = .ok (.aload_n 1, 1) := by decide +kernel
theorem dX4_readThing_106 : decode cX4_readThing 106 = .ok (.dup, 1) := by decide +kernel
theorem dX4_readThing_107 : decode cX4_readThing 107 = .ok (.getfield 52, 3) := by decide +kernel
theorem dX4_readThing_110 : decode cX4_readThing 110 = .ok (.iconst 1, 1) := by decide +kernel
theorem dX4_readThing_111 : decode cX4_readThing 111 = .ok (.iadd, 1) := by decide +kernel
theorem dX4_readThing_112 : decode cX4_readThing 112 = .ok (.putfield 52, 3) := by decide +kernel
theorem dX4_readThing_115 : decode cX4_readThing 115 = .ok (.iconst 1, 1) := by decide +kernel
theorem dX4_readThing_116 : decode cX4_readThing 116 = .ok (.ireturn, 1) := by decide +kernel
theorem dX4_readQuestion_0 : decode cX4_readQuestion 0 = .ok (.aload_n 0, 1) := by decide +kernel
theorem dX4_readQuestion_1 : decode cX4_readQuestion 1 = .ok (.invokevirtual 98, 3) := by decide +kernel
theorem dX4_readQuestion_4 : decode cX4_readQuestion 4 = .ok (.aload_n 0, 1) := by decide +kernel
theorem dX4_readQuestion_5 : decode cX4_readQuestion 5 = .ok (.aload_n 1, 1) := by decide +kernel
theorem dX4_readQuestion_6 : decode cX4_readQuestion 6 = .ok (.getfield 52, 3) := by decide +kernel
theorem dX4_readQuestion_9 : decode cX4_readQuestion 9 = .ok (.invokevirtual 131, 3) := by decide +kernel
theorem dX4_readQuestion_12 : decode cX4_readQuestion 12 = .ok (.istore_n 2, 1) := by decide +kernel
theorem dX4_readQuestion_13 : decode cX4_readQuestion 13 = .ok (.iload_n 2, 1) := by decide +kernel
theorem dX4_readQuestion_14 : decode cX4_readQuestion 14 = .ok (.iconst (-1), 1) := by decide +kernel
theorem dX4_readQuestion_15 : decode cX4_readQuestion 15 = .ok (.if_icmp .ne 5, 3) := by decide +kernel
theorem dX4_readQuestion_18 : decode cX4_readQuestion 18 = .ok (.iconst 0, 1) := by decide +kernel
theorem dX4_readQuestion_19 : decode cX4_readQuestion 19 = .ok (.ireturn, 1) := by decide +kernel
theorem dX4_readQuestion_20 : decode cX4_readQuestion 20 = .ok (.aload_n 1, 1) := by decide +kernel
theorem dX4_readQuestion_21 : decode cX4_readQuestion 21 = .ok (.getfield 143, 3) := by decide +kernel
theorem dX4_readQuestion_24 : decode cX4_readQuestion 24 = .ok (.aload_n 1, 1) := by decide +kernel
theorem dX4_readQuestion_25 : decode cX4_readQuestion 25 = .ok (.getfield 60, 3) := by decide +kernel
theorem dX4_readQuestion_28 : decode cX4_readQuestion 28 = .ok (.iload_n 2, 1) := by decide +kernel
theorem dX4_readQuestion_29 : decode cX4_readQuestion 29 = .ok (.iastore, 1) := by decide +kernel
theorem dX4_readQuestion_30 : decode cX4_readQuestion 30 = .ok (.aload_n 1, 1) := by decide +kernel
theorem dX4_readQuestion_31 : decode cX4_readQuestion 31 = .ok (.dup, 1) := by decide +kernel
theorem dX4_readQuestion_32 : decode cX4_readQuestion 32 = .ok (.getfield 60, 3) := by decide +kernel
theorem dX4_readQuestion_35 : decode cX4_readQuestion 35 = .ok (.iconst 1, 1) := by decide +kernel
theorem dX4_readQuestion_36 : decode cX4_readQuestion 36 = .ok (.iadd, 1) := by decide +kernel
theorem dX4_readQuestion_37 : decode cX4_readQuestion 37 = .ok (.putfield 60, 3) := by decide +kernel
theorem dX4_readQuestion_40 : decode cX4_readQuestion 40 = .ok (.iconst 1, 1) := by decide +kernel
theorem dX4_readQuestion_41 : decode cX4_readQuestion 41 = .ok (.ireturn, 1) := by decide +kernel
theorem dX4_readWoman_0 : decode cX4_readWoman 0 = .ok (.aload_n 0, 1) := by decide +kernel
theorem dX4_readWoman_1 : decode cX4_readWoman 1 = .ok (.invokevirtual 98, 3) := by decide +kernel
theorem dX4_readWoman_4 : decode cX4_readWoman 4 = .ok (.aload_n 0, 1) := by decide +kernel
theorem dX4_readWoman_5 : decode cX4_readWoman 5 = .ok (.ldc 146, 2) := by decide +kernel
theorem dX4_readWoman_7 : decode cX4_readWoman 7 = .ok (.iconst 1, 1) := by decide +kernel
theorem dX4_readWoman_8 : decode cX4_readWoman 8 = .ok (.bipush 20, 2) := by decide +kernel
theorem dX4_readWoman_10 : decode cX4_readWoman 10 = .ok (.invokevirtual 79, 3) := by decide +kernel
theorem dX4_readWoman_13 : decode cX4_readWoman 13 = .ok (.istore_n 2, 1) := by decide +kernel
theorem dX4_readWoman_14 : decode cX4_readWoman 14 = .ok (.iload_n 2, 1) := by decide +kernel
theorem dX4_readWoman_15 : decode cX4_readWoman 15 = .ok (.iconst (-1), 1) := by decide +kernel
theorem dX4_readWoman_16 : decode cX4_readWoman 16 = .ok (.if_icmp .ne 5, 3) := by decide +kernel
theorem dX4_readWoman_19 : decode cX4_readWoman 19 = .ok (.iconst 0, 1) := by decide +kernel
theorem dX4_readWoman_20 : decode cX4_readWoman 20 = .ok (.ireturn, 1) := by decide +kernel
theorem dX4_readWoman_21 : decode cX4_readWoman 21 = .ok (.aload_n 1, 1) := by decide +kernel
theorem dX4_readWoman_22 : decode cX4_readWoman 22 = .ok (.getfield 148, 3) := by decide +kernel
theorem dX4_readWoman_25 : decode cX4_readWoman 25 = .ok (.aload_n 1, 1) := by decide +kernel
theorem dX4_readWoman_26 : decode cX4_readWoman 26 = .ok (.getfield 68, 3) := by decide +kernel
theorem dX4_readWoman_29 : decode cX4_readWoman 29 = .ok (.iload_n 2, 1) := by decide +kernel
theorem dX4_readWoman_30 : decode cX4_readWoman 30 = .ok (.iastore, 1) := by decide +kernel
theorem dX4_readWoman_31 : decode cX4_readWoman 31 = .ok (.aload_n 1, 1) := by decide +kernel
theorem dX4_readWoman_32 : decode cX4_readWoman 32 = .ok (.dup, 1) := by decide +kernel
theorem dX4_readWoman_33 : decode cX4_readWoman 33 = .ok (.getfield 68, 3) := by decide +kernel
theorem dX4_readWoman_36 : decode cX4_readWoman 36 = .ok (.iconst 1, 1) := by decide +kernel
theorem dX4_readWoman_37 : decode cX4_readWoman 37 = .ok (.iadd, 1) := by decide +kernel
theorem dX4_readWoman_38 : decode cX4_readWoman 38 = .ok (.putfield 68, 3) := by decide +kernel
theorem dX4_readWoman_41 : decode cX4_readWoman 41 = .ok (.iconst 1, 1) := by decide +kernel
theorem dX4_readWoman_42 : decode cX4_readWoman 42 = .ok (.ireturn, 1) := by decide +kernel
theorem dX5_init_0 : decode cX5_init 0 = .ok (.aload_n 0, 1) := by decide +kernel
theorem dX5_init_1 : decode cX5_init 1 = .ok (.invokespecial 3, 3) := by decide +kernel
theorem dX5_init_4 : decode cX5_init 4 = .ok (.aload_n 0, 1) := by decide +kernel
theorem dX5_init_5 : decode cX5_init 5 = .ok (.bipush 12, 2) := by decide +kernel
theorem dX5_init_7 : decode cX5_init 7 = .ok (.anewarray 9, 3) := by decide +kernel
theorem dX5_init_10 : decode cX5_init 10 = .ok (.putfield 11, 3) := by decide +kernel
theorem dX5_init_13 : decode cX5_init 13 = .ok (.aload_n 0, 1) := by decide +kernel
theorem dX5_init_14 : decode cX5_init 14 = .ok (.iconst 0, 1) := by decide +kernel
theorem dX5_init_15 : decode cX5_init 15 = .ok (.putfield 17, 3) := by decide +kernel
theorem dX5_init_18 : decode cX5_init 18 = .ok (.aload_n 0, 1) := by decide +kernel
theorem dX5_init_19 : decode cX5_init 19 = .ok (.iconst 0, 1) := by decide +kernel
theorem dX5_init_20 : decode cX5_init 20 = .ok (.putfield 21, 3) := by decide +kernel
theorem dX5_init_23 : decode cX5_init 23 = .ok (.iconst 0, 1) := by decide +kernel
theorem dX5_init_24 : decode cX5_init 24 = .ok (.istore_n 1, 1) := by decide +kernel
theorem dX5_init_25 : decode cX5_init 25 = .ok (.iload_n 1, 1) := by decide +kernel
theorem dX5_init_26 : decode cX5_init 26 = .ok (.bipush 12, 2) := by decide +kernel
theorem dX5_init_28 : decode cX5_init 28 = .ok (.if_icmp .ge 22, 3) := by decide +kernel
theorem dX5_init_31 : decode cX5_init 31 = .ok (.aload_n 0, 1) := by decide +kernel
theorem dX5_init_32 : decode cX5_init 32 = .ok (.getfield 11, 3) := by decide +kernel
theorem dX5_init_35 : decode cX5_init 35 = .ok (.iload_n 1, 1) := by decide +kernel
theorem dX5_init_36 : decode cX5_init 36 = .ok (.new 9, 3) := by decide +kernel
theorem dX5_init_39 : decode cX5_init 39 = .ok (.dup, 1) := by decide +kernel
theorem dX5_init_40 : decode cX5_init 40 = .ok (.invokespecial 24, 3) := by decide +kernel
theorem dX5_init_43 : decode cX5_init 43 = .ok (.aastore, 1) := by decide +kernel
theorem dX5_init_44 : decode cX5_init 44 = .ok (.iinc 1 1, 3) := by decide +kernel
theorem dX5_init_47 : decode cX5_init 47 = .ok (.goto (-22), 3) := by decide +kernel
theorem dX5_init_50 : decode cX5_init 50 = .ok (.return_, 1) := by decide +kernel
theorem dX5_remember_0 : decode cX5_remember 0 = .ok (.aload_n 0, 1) := by decide +kernel
theorem dX5_remember_1 : decode cX5_remember 1 = .ok (.getfield 11, 3) := by decide +kernel
theorem dX5_remember_4 : decode cX5_remember 4 = .ok (.aload_n 0, 1) := by decide +kernel
theorem dX5_remember_5 : decode cX5_remember 5 = .ok (.getfield 21, 3) := by decide +kernel
theorem dX5_remember_8 : decode cX5_remember 8 = .ok (.aaload, 1) := by decide +kernel
theorem dX5_remember_9 : decode cX5_remember 9 = .ok (.astore_n 2, 1) := by decide +kernel
theorem dX5_remember_10 : decode cX5_remember 10 = .ok (.aload_n 2, 1) := by decide +kernel
theorem dX5_remember_11 : decode cX5_remember 11 = .ok (.ifnonnull 4, 3) := by decide +kernel
theorem dX5_remember_14 : decode cX5_remember 14 = .ok (.return_, 1) := by decide +kernel
theorem dX5_remember_15 : decode cX5_remember 15 = .ok (.aload_n 2, 1) := by decide +kernel
theorem dX5_remember_16 : decode cX5_remember 16 = .ok (.aload_n 1, 1) := by decide +kernel
theorem dX5_remember_17 : decode cX5_remember 17 = .ok (.invokevirtual 25, 3) := by decide +kernel
theorem dX5_remember_20 : decode cX5_remember 20 = .ok (.aload_n 0, 1) := by decide +kernel
theorem dX5_remember_21 : decode cX5_remember 21 = .ok (.aload_n 0, 1) := by decide +kernel
theorem dX5_remember_22 : decode cX5_remember 22 = .ok (.getfield 21, 3) := by decide +kernel
theorem dX5_remember_25 : decode cX5_remember 25 = .ok (.iconst 1, 1) := by decide +kernel
theorem dX5_remember_26 : decode cX5_remember 26 = .ok (.iadd, 1) := by decide +kernel
theorem dX5_remember_27 : decode cX5_remember 27 = .ok (.bipush 12, 2) := by decide +kernel
theorem dX5_remember_29 : decode cX5_remember 29 = .ok (.irem, 1) := by decide +kernel
theorem dX5_remember_30 : decode cX5_remember 30 = .ok (.putfield 21, 3) := by decide +kernel
theorem dX5_remember_33 : decode cX5_remember 33 = .ok (.aload_n 0, 1) := by decide +kernel
theorem dX5_remember_34 : decode cX5_remember 34 = .ok (.bipush 12, 2) := by decide +kernel
theorem dX5_remember_36 : decode cX5_remember 36 = .ok (.aload_n 0, 1) := by decide +kernel
theorem dX5_remember_37 : decode cX5_remember 37 = .ok (.getfield 17, 3) := by decide +kernel
theorem dX5_remember_40 : decode cX5_remember 40 = .ok (.iconst 1, 1) := by decide +kernel
theorem dX5_remember_41 : decode cX5_remember 41 = .ok (.iadd, 1) := by decide +kernel
theorem dX5_remember_42 : decode cX5_remember 42 = .ok (.invokestatic 29, 3) := by decide +kernel
theorem dX5_remember_45 : decode cX5_remember 45 = .ok (.putfield 17, 3) := by decide +kernel
theorem dX5_remember_48 : decode cX5_remember 48 = .ok (.return_, 1) := by decide +kernel
theorem dX5_undoInto_0 : decode cX5_undoInto 0 = .ok (.aload_n 0, 1) := by decide +kernel
theorem dX5_undoInto_1 : decode cX5_undoInto 1 = .ok (.getfield 21, 3) := by decide +kernel
theorem dX5_undoInto_4 : decode cX5_undoInto 4 = .ok (.bipush 12, 2) := by decide +kernel
theorem dX5_undoInto_6 : decode cX5_undoInto 6 = .ok (.iadd, 1) := by decide +kernel
theorem dX5_undoInto_7 : decode cX5_undoInto 7 = .ok (.iconst 1, 1) := by decide +kernel
theorem dX5_undoInto_8 : decode cX5_undoInto 8 = .ok (.isub, 1) := by decide +kernel
theorem dX5_undoInto_9 : decode cX5_undoInto 9 = .ok (.bipush 12, 2) := by decide +kernel
theorem dX5_undoInto_11 : decode cX5_undoInto 11 = .ok (.irem, 1) := by decide +kernel
theorem dX5_undoInto_12 : decode cX5_undoInto 12 = .ok (.istore_n 2, 1) := by decide +kernel
theorem dX5_undoInto_13 : decode cX5_undoInto 13 = .ok (.aload_n 0, 1) := by decide +kernel
theorem dX5_undoInto_14 : decode cX5_undoInto 14 = .ok (.getfield 11, 3) := by decide +kernel
theorem dX5_undoInto_17 : decode cX5_undoInto 17 = .ok (.iload_n 2, 1) := by decide +kernel
theorem dX5_undoInto_18 : decode cX5_undoInto 18 = .ok (.aaload, 1) := by decide +kernel
theorem dX5_undoInto_19 : decode cX5_undoInto 19 = .ok (.astore_n 3, 1) := by decide +kernel
theorem dX5_undoInto_20 : decode cX5_undoInto 20 = .ok (.aload_n 0, 1) := by decide +kernel
theorem dX5_undoInto_21 : decode cX5_undoInto 21 = .ok (.getfield 17, 3) := by decide +kernel
theorem dX5_undoInto_24 : decode cX5_undoInto 24 = .ok (.ifCond .eq 7, 3) := by decide +kernel
theorem dX5_undoInto_27 : decode cX5_undoInto 27 = .ok (.aload_n 3, 1) := by decide +kernel
theorem dX5_undoInto_28 : decode cX5_undoInto 28 = .ok (.ifnonnull 5, 3) := by decide +kernel
theorem dX5_undoInto_31 : decode cX5_undoInto 31 = .ok (.iconst 0, 1) := by decide +kernel
theorem dX5_undoInto_32 : decode cX5_undoInto 32 = .ok (.ireturn, 1) := by decide +kernel
theorem dX5_undoInto_33 : decode cX5_undoInto 33 = .ok (.aload_n 1, 1) := by decide +kernel
theorem dX5_undoInto_34 : decode cX5_undoInto 34 = .ok (.aload_n 3, 1) := by decide +kernel
theorem dX5_undoInto_35 : decode cX5_undoInto 35 = .ok (.invokevirtual 25, 3) := by decide +kernel
theorem dX5_undoInto_38 : decode cX5_undoInto 38 = .ok (.aload_n 0, 1) := by decide +kernel
theorem dX5_undoInto_39 : decode cX5_undoInto 39 = .ok (.iload_n 2, 1) := by decide +kernel
theorem dX5_undoInto_40 : decode cX5_undoInto 40 = .ok (.putfield 21, 3) := by decide +kernel
theorem dX5_undoInto_43 : decode cX5_undoInto 43 = .ok (.aload_n 0, 1) := by decide +kernel
theorem dX5_undoInto_44 : decode cX5_undoInto 44 = .ok (.dup, 1) := by decide +kernel
theorem dX5_undoInto_45 : decode cX5_undoInto 45 = .ok (.getfield 17, 3) := by decide +kernel
theorem dX5_undoInto_48 : decode cX5_undoInto 48 = .ok (.iconst 1, 1) := by decide +kernel
theorem dX5_undoInto_49 : decode cX5_undoInto 49 = .ok (.isub, 1) := by decide +kernel
theorem dX5_undoInto_50 : decode cX5_undoInto 50 = .ok (.putfield 17, 3) := by decide +kernel
theorem dX5_undoInto_53 : decode cX5_undoInto 53 = .ok (.iconst 1, 1) := by decide +kernel
theorem dX5_undoInto_54 : decode cX5_undoInto 54 = .ok (.ireturn, 1) := by decide +kernel
theorem dX5_forget_0 : decode cX5_forget 0 = .ok (.aload_n 0, 1) := by decide +kernel
theorem dX5_forget_1 : decode cX5_forget 1 = .ok (.iconst 0, 1) := by decide +kernel
theorem dX5_forget_2 : decode cX5_forget 2 = .ok (.putfield 17, 3) := by decide +kernel
theorem dX5_forget_5 : decode cX5_forget 5 = .ok (.return_, 1) := by decide +kernel
theorem dX6_init_0 : decode cX6_init 0 = .ok (.aload_n 0, 1) := by decide +kernel
theorem dX6_init_1 : decode cX6_init 1 = .ok (.invokespecial 3, 3) := by decide +kernel
theorem dX6_init_4 : decode cX6_init 4 = .ok (.aload_n 0, 1) := by decide +kernel
theorem dX6_init_5 : decode cX6_init 5 = .ok (.bipush 12, 2) := by decide +kernel
theorem dX6_init_7 : decode cX6_init 7 = .ok (.newarray .int, 2) := by decide +kernel
theorem dX6_init_9 : decode cX6_init 9 = .ok (.putfield 9, 3) := by decide +kernel
theorem dX6_init_12 : decode cX6_init 12 = .ok (.aload_n 0, 1) := by decide +kernel
theorem dX6_init_13 : decode cX6_init 13 = .ok (.bipush 12, 2) := by decide +kernel
theorem dX6_init_15 : decode cX6_init 15 = .ok (.newarray .int, 2) := by decide +kernel
theorem dX6_init_17 : decode cX6_init 17 = .ok (.putfield 15, 3) := by decide +kernel
theorem dX6_init_20 : decode cX6_init 20 = .ok (.aload_n 0, 1) := by decide +kernel
theorem dX6_init_21 : decode cX6_init 21 = .ok (.bipush 12, 2) := by decide +kernel
theorem dX6_init_23 : decode cX6_init 23 = .ok (.newarray .int, 2) := by decide +kernel
theorem dX6_init_25 : decode cX6_init 25 = .ok (.putfield 18, 3) := by decide +kernel
theorem dX6_init_28 : decode cX6_init 28 = .ok (.aload_n 0, 1) := by decide +kernel
theorem dX6_init_29 : decode cX6_init 29 = .ok (.sipush 400, 3) := by decide +kernel
theorem dX6_init_32 : decode cX6_init 32 = .ok (.newarray .int, 2) := by decide +kernel
theorem dX6_init_34 : decode cX6_init 34 = .ok (.putfield 21, 3) := by decide +kernel
theorem dX6_init_37 : decode cX6_init 37 = .ok (.aload_n 0, 1) := by decide +kernel
theorem dX6_init_38 : decode cX6_init 38 = .ok (.bipush 11, 2) := by decide +kernel
theorem dX6_init_40 : decode cX6_init 40 = .ok (.newarray .int, 2) := by decide +kernel
theorem dX6_init_42 : decode cX6_init 42 = .ok (.putfield 24, 3) := by decide +kernel
theorem dX6_init_45 : decode cX6_init 45 = .ok (.aload_n 0, 1) := by decide +kernel
theorem dX6_init_46 : decode cX6_init 46 = .ok (.bipush 30, 2) := by decide +kernel
theorem dX6_init_48 : decode cX6_init 48 = .ok (.newarray .int, 2) := by decide +kernel
theorem dX6_init_50 : decode cX6_init 50 = .ok (.putfield 27, 3) := by decide +kernel
theorem dX6_init_53 : decode cX6_init 53 = .ok (.aload_n 0, 1) := by decide +kernel
theorem dX6_init_54 : decode cX6_init 54 = .ok (.iconst (-1), 1) := by decide +kernel
theorem dX6_init_55 : decode cX6_init 55 = .ok (.putfield 30, 3) := by decide +kernel
theorem dX6_init_58 : decode cX6_init 58 = .ok (.aload_n 0, 1) := by decide +kernel
theorem dX6_init_59 : decode cX6_init 59 = .ok (.iconst 0, 1) := by decide +kernel
theorem dX6_init_60 : decode cX6_init 60 = .ok (.putfield 34, 3) := by decide +kernel
theorem dX6_init_63 : decode cX6_init 63 = .ok (.return_, 1) := by decide +kernel
theorem dX6_copy_0 : decode cX6_copy 0 = .ok (.aload_n 1, 1) := by decide +kernel
theorem dX6_copy_1 : decode cX6_copy 1 = .ok (.getfield 9, 3) := by decide +kernel
theorem dX6_copy_4 : decode cX6_copy 4 = .ok (.iconst 0, 1) := by decide +kernel
theorem dX6_copy_5 : decode cX6_copy 5 = .ok (.aload_n 0, 1) := by decide +kernel
theorem dX6_copy_6 : decode cX6_copy 6 = .ok (.getfield 9, 3) := by decide +kernel
theorem dX6_copy_9 : decode cX6_copy 9 = .ok (.iconst 0, 1) := by decide +kernel
theorem dX6_copy_10 : decode cX6_copy 10 = .ok (.bipush 12, 2) := by decide +kernel
theorem dX6_copy_12 : decode cX6_copy 12 = .ok (.invokestatic 37, 3) := by decide +kernel
theorem dX6_copy_15 : decode cX6_copy 15 = .ok (.aload_n 1, 1) := by decide +kernel
theorem dX6_copy_16 : decode cX6_copy 16 = .ok (.getfield 15, 3) := by decide +kernel
theorem dX6_copy_19 : decode cX6_copy 19 = .ok (.iconst 0, 1) := by decide +kernel
theorem dX6_copy_20 : decode cX6_copy 20 = .ok (.aload_n 0, 1) := by decide +kernel
theorem dX6_copy_21 : decode cX6_copy 21 = .ok (.getfield 15, 3) := by decide +kernel
theorem dX6_copy_24 : decode cX6_copy 24 = .ok (.iconst 0, 1) := by decide +kernel
theorem dX6_copy_25 : decode cX6_copy 25 = .ok (.bipush 12, 2) := by decide +kernel
theorem dX6_copy_27 : decode cX6_copy 27 = .ok (.invokestatic 37, 3) := by decide +kernel
theorem dX6_copy_30 : decode cX6_copy 30 = .ok (.aload_n 1, 1) := by decide +kernel
theorem dX6_copy_31 : decode cX6_copy 31 = .ok (.getfield 18, 3) := by decide +kernel
theorem dX6_copy_34 : decode cX6_copy 34 = .ok (.iconst 0, 1) := by decide +kernel
theorem dX6_copy_35 : decode cX6_copy 35 = .ok (.aload_n 0, 1) := by decide +kernel
theorem dX6_copy_36 : decode cX6_copy 36 = .ok (.getfield 18, 3) := by decide +kernel
theorem dX6_copy_39 : decode cX6_copy 39 = .ok (.iconst 0, 1) := by decide +kernel
theorem dX6_copy_40 : decode cX6_copy 40 = .ok (.bipush 12, 2) := by decide +kernel
theorem dX6_copy_42 : decode cX6_copy 42 = .ok (.invokestatic 37, 3) := by decide +kernel
theorem dX6_copy_45 : decode cX6_copy 45 = .ok (.aload_n 1, 1) := by decide +kernel
theorem dX6_copy_46 : decode cX6_copy 46 = .ok (.getfield 21, 3) := by decide +kernel
theorem dX6_copy_49 : decode cX6_copy 49 = .ok (.iconst 0, 1) := by decide +kernel
theorem dX6_copy_50 : decode cX6_copy 50 = .ok (.aload_n 0, 1) := by decide +kernel
theorem dX6_copy_51 : decode cX6_copy 51 = .ok (.getfield 21, 3) := by decide +kernel
theorem dX6_copy_54 : decode cX6_copy 54 = .ok (.iconst 0, 1) := by decide +kernel
theorem dX6_copy_55 : decode cX6_copy 55 = .ok (.sipush 400, 3) := by decide +kernel
theorem dX6_copy_58 : decode cX6_copy 58 = .ok (.invokestatic 37, 3) := by decide +kernel
theorem dX6_copy_61 : decode cX6_copy 61 = .ok (.aload_n 0, 1) := by decide +kernel
theorem dX6_copy_62 : decode cX6_copy 62 = .ok (.aload_n 1, 1) := by decide +kernel
theorem dX6_copy_63 : decode cX6_copy 63 = .ok (.getfield 30, 3) := by decide +kernel
theorem dX6_copy_66 : decode cX6_copy 66 = .ok (.putfield 30, 3) := by decide +kernel
theorem dX6_copy_69 : decode cX6_copy 69 = .ok (.aload_n 0, 1) := by decide +kernel
theorem dX6_copy_70 : decode cX6_copy 70 = .ok (.aload_n 1, 1) := by decide +kernel
theorem dX6_copy_71 : decode cX6_copy 71 = .ok (.getfield 34, 3) := by decide +kernel
theorem dX6_copy_74 : decode cX6_copy 74 = .ok (.putfield 34, 3) := by decide +kernel
theorem dX6_copy_77 : decode cX6_copy 77 = .ok (.return_, 1) := by decide +kernel
theorem dX6_read_0 : decode cX6_read 0 = .ok (.aload_n 0, 1) := by decide +kernel
theorem dX6_read_1 : decode cX6_read 1 = .ok (.iconst 0, 1) := by decide +kernel
theorem dX6_read_2 : decode cX6_read 2 = .ok (.putfield 30, 3) := by decide +kernel
theorem dX6_read_5 : decode cX6_read 5 = .ok (.aload_n 0, 1) := by decide +kernel
theorem dX6_read_6 : decode cX6_read 6 = .ok (.iconst 0, 1) := by decide +kernel
theorem dX6_read_7 : decode cX6_read 7 = .ok (.putfield 34, 3) := by decide +kernel
theorem dX6_read_10 : decode cX6_read 10 = .ok (.aload_n 1, 1) := by decide +kernel
theorem dX6_read_11 : decode cX6_read 11 = .ok (.invokevirtual 43, 3) := by decide +kernel
theorem dX6_read_14 : decode cX6_read 14 = .ok (.aload_n 1, 1) := by decide +kernel
theorem dX6_read_15 : decode cX6_read 15 = .ok (.invokevirtual 48, 3) := by decide +kernel
theorem dX6_read_18 : decode cX6_read 18 = .ok (.ifCond .eq 5, 3) := by decide +kernel
theorem dX6_read_21 : decode cX6_read 21 = .ok (.iconst 1, 1) := by decide +kernel
theorem dX6_read_22 : decode cX6_read 22 = .ok (.ireturn, 1) := by decide +kernel
theorem dX6_read_23 : decode cX6_read 23 = .ok (.iconst 0, 1) := by decide +kernel
theorem dX6_read_24 : decode cX6_read 24 = .ok (.istore_n 2, 1) := by decide +kernel
theorem dX6_read_25 : decode cX6_read 25 = .ok (.iload_n 2, 1) := by decide +kernel
theorem dX6_read_26 : decode cX6_read 26 = .ok (.bipush 12, 2) := by decide +kernel
theorem dX6_read_28 : decode cX6_read 28 = .ok (.if_icmp .ge 39, 3) := by decide +kernel
theorem dX6_read_31 : decode cX6_read 31 = .ok (.aload_n 0, 1) := by decide +kernel
theorem dX6_read_32 : decode cX6_read 32 = .ok (.aload_n 1, 1) := by decide +kernel
theorem dX6_read_33 : decode cX6_read 33 = .ok (.invokevirtual 52, 3) := by decide +kernel
theorem dX6_read_36 : decode cX6_read 36 = .ok (.ifCond .ne 5, 3) := by decide +kernel
theorem dX6_read_39 : decode cX6_read 39 = .ok (.iconst 0, 1) := by decide +kernel
theorem dX6_read_40 : decode cX6_read 40 = .ok (.ireturn, 1) := by decide +kernel
theorem dX6_read_41 : decode cX6_read 41 = .ok (.aload_n 1, 1) := by decide +kernel
theorem dX6_read_42 : decode cX6_read 42 = .ok (.invokevirtual 48, 3) := by decide +kernel
theorem dX6_read_45 : decode cX6_read 45 = .ok (.ifCond .eq 5, 3) := by decide +kernel
theorem dX6_read_48 : decode cX6_read 48 = .ok (.iconst 1, 1) := by decide +kernel
theorem dX6_read_49 : decode cX6_read 49 = .ok (.ireturn, 1) := by decide +kernel
theorem dX6_read_50 : decode cX6_read 50 = .ok (.aload_n 1, 1) := by decide +kernel
theorem dX6_read_51 : decode cX6_read 51 = .ok (.bipush 59, 2) := by decide +kernel
theorem dX6_read_53 : decode cX6_read 53 = .ok (.invokevirtual 56, 3) := by decide +kernel
theorem dX6_read_56 : decode cX6_read 56 = .ok (.ifCond .ne 5, 3) := by decide +kernel
theorem dX6_read_59 : decode cX6_read 59 = .ok (.iconst 0, 1) := by decide +kernel
theorem dX6_read_60 : decode cX6_read 60 = .ok (.ireturn, 1) := by decide +kernel
theorem dX6_read_61 : decode cX6_read 61 = .ok (.iinc 2 1, 3) := by decide +kernel
theorem dX6_read_64 : decode cX6_read 64 = .ok (.goto (-39), 3) := by decide +kernel
theorem dX6_read_67 : decode cX6_read 67 = .ok (.iconst 0, 1) := by decide +kernel
theorem dX6_read_68 : decode cX6_read 68 = .ok (.ireturn, 1) := by decide +kernel
theorem dX6_readLine_0 : decode cX6_readLine 0 = .ok (.aload_n 1, 1) := by decide +kernel
theorem dX6_readLine_1 : decode cX6_readLine 1 = .ok (.invokestatic 60, 3) := by decide +kernel
theorem dX6_readLine_4 : decode cX6_readLine 4 = .ok (.istore_n 2, 1) := by decide +kernel
theorem dX6_readLine_5 : decode cX6_readLine 5 = .ok (.iload_n 2, 1) := by decide +kernel
theorem dX6_readLine_6 : decode cX6_readLine 6 = .ok (.iconst (-1), 1) := by decide +kernel
theorem dX6_readLine_7 : decode cX6_readLine 7 = .ok (.if_icmp .ne 5, 3) := by decide +kernel
theorem dX6_readLine_10 : decode cX6_readLine 10 = .ok (.iconst 0, 1) := by decide +kernel
theorem dX6_readLine_11 : decode cX6_readLine 11 = .ok (.ireturn, 1) := by decide +kernel
theorem dX6_readLine_12 : decode cX6_readLine 12 = .ok (.aload_n 1, 1) := by decide +kernel
theorem dX6_readLine_13 : decode cX6_readLine 13 = .ok (.invokevirtual 64, 3) := by decide +kernel
theorem dX6_readLine_16 : decode cX6_readLine 16 = .ok (.aload_n 1, 1) := by decide +kernel
theorem dX6_readLine_17 : decode cX6_readLine 17 = .ok (.iconst 0, 1) := by decide +kernel
theorem dX6_readLine_18 : decode cX6_readLine 18 = .ok (.bipush 99, 2) := by decide +kernel
theorem dX6_readLine_20 : decode cX6_readLine 20 = .ok (.invokevirtual 67, 3) := by decide +kernel
theorem dX6_readLine_23 : decode cX6_readLine 23 = .ok (.istore_n 3, 1) := by decide +kernel
theorem dX6_readLine_24 : decode cX6_readLine 24 = .ok (.iload_n 3, 1) := by decide +kernel
theorem dX6_readLine_25 : decode cX6_readLine 25 = .ok (.iconst (-1), 1) := by decide +kernel
theorem dX6_readLine_26 : decode cX6_readLine 26 = .ok (.if_icmp .ne 5, 3) := by decide +kernel
theorem dX6_readLine_29 : decode cX6_readLine 29 = .ok (.iconst 0, 1) := by decide +kernel
theorem dX6_readLine_30 : decode cX6_readLine 30 = .ok (.ireturn, 1) := by decide +kernel
theorem dX6_readLine_31 : decode cX6_readLine 31 = .ok (.aload_n 0, 1) := by decide +kernel
theorem dX6_readLine_32 : decode cX6_readLine 32 = .ok (.iload_n 2, 1) := by decide +kernel
theorem dX6_readLine_33 : decode cX6_readLine 33 = .ok (.iload_n 3, 1) := by decide +kernel
theorem dX6_readLine_34 : decode cX6_readLine 34 = .ok (.invokevirtual 71, 3) := by decide +kernel
theorem dX6_readLine_37 : decode cX6_readLine 37 = .ok (.aload_n 1, 1) := by decide +kernel
theorem dX6_readLine_38 : decode cX6_readLine 38 = .ok (.ldc 75, 2) := by decide +kernel
theorem dX6_readLine_40 : decode cX6_readLine 40 = .ok (.invokevirtual 77, 3) := by decide +kernel
theorem dX6_readLine_43 : decode cX6_readLine 43 = .ok (.ifCond .eq 12, 3) := by decide +kernel
theorem dX6_readLine_46 : decode cX6_readLine 46 = .ok (.aload_n 0, 1) := by decide +kernel
theorem dX6_readLine_47 : decode cX6_readLine 47 = .ok (.aload_n 1, 1) := by decide +kernel
theorem dX6_readLine_48 : decode cX6_readLine 48 = .ok (.iconst 0, 1) := by decide +kernel
theorem dX6_readLine_49 : decode cX6_readLine 49 = .ok (.invokevirtual 81, 3) := by decide +kernel
theorem dX6_readLine_52 : decode cX6_readLine 52 = .ok (.ifCond .eq 7, 3) := by decide +kernel
theorem dX6_readLine_55 : decode cX6_readLine 55 = .ok (.iconst 1, 1) := by decide +kernel
theorem dX6_readLine_56 : decode cX6_readLine 56 = .ok (.goto 4, 3) := by decide +kernel
theorem dX6_readLine_59 : decode cX6_readLine 59 = .ok (.iconst 0, 1) := by decide +kernel
theorem dX6_readLine_60 : decode cX6_readLine 60 = .ok (.ireturn, 1) := by decide +kernel
theorem dX6_kindHere_0 : decode cX6_kindHere 0 = .ok (.aload_n 0, 1) := by decide +kernel
theorem dX6_kindHere_1 : decode cX6_kindHere 1 = .ok (.ldc 85, 2) := by decide +kernel
theorem dX6_kindHere_3 : decode cX6_kindHere 3 = .ok (.invokevirtual 87, 3) := by decide +kernel
theorem dX6_kindHere_6 : decode cX6_kindHere 6 = .ok (.ifCond .eq 5, 3) := by decide +kernel
theorem dX6_kindHere_9 : decode cX6_kindHere 9 = .ok (.iconst 0, 1) := by decide +kernel
theorem dX6_kindHere_10 : decode cX6_kindHere 10 = .ok (.ireturn, 1) := by decide +kernel
theorem dX6_kindHere_11 : decode cX6_kindHere 11 = .ok (.aload_n 0, 1) := by decide +kernel
theorem dX6_kindHere_12 : decode cX6_kindHere 12 = .ok (.ldc 90, 2) := by decide +kernel
theorem dX6_kindHere_14 : decode cX6_kindHere 14 = .ok (.invokevirtual 87, 3) := by decide +kernel
theorem dX6_kindHere_17 : decode cX6_kindHere 17 = .ok (.ifCond .eq 5, 3) := by decide +kernel
theorem dX6_kindHere_20 : decode cX6_kindHere 20 = .ok (.iconst 1, 1) := by decide +kernel
theorem dX6_kindHere_21 : decode cX6_kindHere 21 = .ok (.ireturn, 1) := by decide +kernel
theorem dX6_kindHere_22 : decode cX6_kindHere 22 = .ok (.aload_n 0, 1) := by decide +kernel
theorem dX6_kindHere_23 : decode cX6_kindHere 23 = .ok (.ldc 92, 2) := by decide +kernel
theorem dX6_kindHere_25 : decode cX6_kindHere 25 = .ok (.invokevirtual 87, 3) := by decide +kernel
theorem dX6_kindHere_28 : decode cX6_kindHere 28 = .ok (.ifCond .eq 7, 3) := by decide +kernel
theorem dX6_kindHere_31 : decode cX6_kindHere 31 = .ok (.iconst 2, 1) := by decide +kernel
theorem dX6_kindHere_32 : decode cX6_kindHere 32 = .ok (.goto 4, 3) := by decide +kernel
theorem dX6_kindHere_35 : decode cX6_kindHere 35 = .ok (.iconst (-1), 1) := by decide +kernel
theorem dX6_kindHere_36 : decode cX6_kindHere 36 = .ok (.ireturn, 1) := by decide +kernel
theorem dX6_readAny_0 : decode cX6_readAny 0 = .ok (.aload_n 0, 1) := by decide +kernel
theorem dX6_readAny_1 : decode cX6_readAny 1 = .ok (.aload_n 1, 1) := by decide +kernel
theorem dX6_readAny_2 : decode cX6_readAny 2 = .ok (.iload_n 2, 1) := by decide +kernel
theorem dX6_readAny_3 : decode cX6_readAny 3 = .ok (.invokevirtual 94, 3) := by decide +kernel
theorem dX6_readAny_6 : decode cX6_readAny 6 = .ok (.ifCond .ne 5, 3) := by decide +kernel
theorem dX6_readAny_9 : decode cX6_readAny 9 = .ok (.iconst 0, 1) := by decide +kernel
theorem dX6_readAny_10 : decode cX6_readAny 10 = .ok (.ireturn, 1) := by decide +kernel
theorem dX6_readAny_11 : decode cX6_readAny 11 = .ok (.iconst 0, 1) := by decide +kernel
theorem dX6_readAny_12 : decode cX6_readAny 12 = .ok (.istore_n 3, 1) := by decide +kernel
theorem dX6_readAny_13 : decode cX6_readAny 13 = .ok (.iload_n 3, 1) := by decide +kernel
theorem dX6_readAny_14 : decode cX6_readAny 14 = .ok (.sipush 400, 3) := by decide +kernel
theorem dX6_readAny_17 : decode cX6_readAny 17 = .ok (.if_icmp .ge 35, 3) := by decide +kernel
theorem dX6_readAny_20 : decode cX6_readAny 20 = .ok (.aload_n 1, 1) := by decide +kernel
theorem dX6_readAny_21 : decode cX6_readAny 21 = .ok (.ldc 97, 2) := by decide +kernel
theorem dX6_readAny_23 : decode cX6_readAny 23 = .ok (.invokevirtual 77, 3) := by decide +kernel
theorem dX6_readAny_26 : decode cX6_readAny 26 = .ok (.ifCond .eq 26, 3) := by decide +kernel
theorem dX6_readAny_29 : decode cX6_readAny 29 = .ok (.aload_n 0, 1) := by decide +kernel
theorem dX6_readAny_30 : decode cX6_readAny 30 = .ok (.aload_n 1, 1) := by decide +kernel
theorem dX6_readAny_31 : decode cX6_readAny 31 = .ok (.iload_n 2, 1) := by decide +kernel
theorem dX6_readAny_32 : decode cX6_readAny 32 = .ok (.invokevirtual 94, 3) := by decide +kernel
theorem dX6_readAny_35 : decode cX6_readAny 35 = .ok (.ifCond .ne 5, 3) := by decide +kernel
theorem dX6_readAny_38 : decode cX6_readAny 38 = .ok (.iconst 0, 1) := by decide +kernel
theorem dX6_readAny_39 : decode cX6_readAny 39 = .ok (.ireturn, 1) := by decide +kernel
theorem dX6_readAny_40 : decode cX6_readAny 40 = .ok (.aload_n 0, 1) := by decide +kernel
theorem dX6_readAny_41 : decode cX6_readAny 41 = .ok (.bipush (-25), 2) := by decide +kernel
theorem dX6_readAny_43 : decode cX6_readAny 43 = .ok (.invokevirtual 99, 3) := by decide +kernel
theorem dX6_readAny_46 : decode cX6_readAny 46 = .ok (.iinc 3 1, 3) := by decide +kernel
theorem dX6_readAny_49 : decode cX6_readAny 49 = .ok (.goto (-36), 3) := by decide +kernel
theorem dX6_readAny_52 : decode cX6_readAny 52 = .ok (.iconst 1, 1) := by decide +kernel
theorem dX6_readAny_53 : decode cX6_readAny 53 = .ok (.ireturn, 1) := by decide +kernel
theorem dX6_readAll_0 : decode cX6_readAll 0 = .ok (.aload_n 0, 1) := by decide +kernel
theorem dX6_readAll_1 : decode cX6_readAll 1 = .ok (.aload_n 1, 1) := by decide +kernel
theorem dX6_readAll_2 : decode cX6_readAll 2 = .ok (.iload_n 2, 1) := by decide +kernel
theorem dX6_readAll_3 : decode cX6_readAll 3 = .ok (.invokevirtual 103, 3) := by decide +kernel
theorem dX6_readAll_6 : decode cX6_readAll 6 = .ok (.ifCond .ne 5, 3) := by decide +kernel
theorem dX6_readAll_9 : decode cX6_readAll 9 = .ok (.iconst 0, 1) := by decide +kernel
theorem dX6_readAll_10 : decode cX6_readAll 10 = .ok (.ireturn, 1) := by decide +kernel
theorem dX6_readAll_11 : decode cX6_readAll 11 = .ok (.iconst 0, 1) := by decide +kernel
theorem dX6_readAll_12 : decode cX6_readAll 12 = .ok (.istore_n 3, 1) := by decide +kernel
theorem dX6_readAll_13 : decode cX6_readAll 13 = .ok (.iload_n 3, 1) := by decide +kernel
theorem dX6_readAll_14 : decode cX6_readAll 14 = .ok (.sipush 400, 3) := by decide +kernel
theorem dX6_readAll_17 : decode cX6_readAll 17 = .ok (.if_icmp .ge 35, 3) := by decide +kernel
theorem dX6_readAll_20 : decode cX6_readAll 20 = .ok (.aload_n 1, 1) := by decide +kernel
theorem dX6_readAll_21 : decode cX6_readAll 21 = .ok (.ldc 106, 2) := by decide +kernel
theorem dX6_readAll_23 : decode cX6_readAll 23 = .ok (.invokevirtual 77, 3) := by decide +kernel
theorem dX6_readAll_26 : decode cX6_readAll 26 = .ok (.ifCond .eq 26, 3) := by decide +kernel
theorem dX6_readAll_29 : decode cX6_readAll 29 = .ok (.aload_n 0, 1) := by decide +kernel
theorem dX6_readAll_30 : decode cX6_readAll 30 = .ok (.aload_n 1, 1) := by decide +kernel
theorem dX6_readAll_31 : decode cX6_readAll 31 = .ok (.iload_n 2, 1) := by decide +kernel
theorem dX6_readAll_32 : decode cX6_readAll 32 = .ok (.invokevirtual 103, 3) := by decide +kernel
theorem dX6_readAll_35 : decode cX6_readAll 35 = .ok (.ifCond .ne 5, 3) := by decide +kernel
theorem dX6_readAll_38 : decode cX6_readAll 38 = .ok (.iconst 0, 1) := by decide +kernel
theorem dX6_readAll_39 : decode cX6_readAll 39 = .ok (.ireturn, 1) := by decide +kernel
theorem dX6_readAll_40 : decode cX6_readAll 40 = .ok (.aload_n 0, 1) := by decide +kernel
theorem dX6_readAll_41 : decode cX6_readAll 41 = .ok (.bipush (-24), 2) := by decide +kernel
theorem dX6_readAll_43 : decode cX6_readAll 43 = .ok (.invokevirtual 99, 3) := by decide +kernel
theorem dX6_readAll_46 : decode cX6_readAll 46 = .ok (.iinc 3 1, 3) := by decide +kernel
theorem dX6_readAll_49 : decode cX6_readAll 49 = .ok (.goto (-36), 3) := by decide +kernel
theorem dX6_readAll_52 : decode cX6_readAll 52 = .ok (.iconst 1, 1) := by decide +kernel
theorem dX6_readAll_53 : decode cX6_readAll 53 = .ok (.ireturn, 1) := by decide +kernel
theorem dX6_readAtom_0 : decode cX6_readAtom 0 = .ok (.aload_n 1, 1) := by decide +kernel
theorem dX6_readAtom_1 : decode cX6_readAtom 1 = .ok (.ldc 108, 2) := by decide +kernel
theorem dX6_readAtom_3 : decode cX6_readAtom 3 = .ok (.invokevirtual 87, 3) := by decide +kernel
theorem dX6_readAtom_6 : decode cX6_readAtom 6 = .ok (.ifCond .ne 12, 3) := by decide +kernel
theorem dX6_readAtom_9 : decode cX6_readAtom 9 = .ok (.aload_n 1, 1) := by decide +kernel
theorem dX6_readAtom_10 : decode cX6_readAtom 10 = .ok (.bipush 40, 2) := by decide +kernel
theorem dX6_readAtom_12 : decode cX6_readAtom 12 = .ok (.invokevirtual 110, 3) := by decide +kernel
theorem dX6_readAtom_15 : decode cX6_readAtom 15 = .ok (.ifCond .eq 26, 3) := by decide +kernel
theorem dX6_readAtom_18 : decode cX6_readAtom 18 = .ok (.iload_n 2, 1) := by decide +kernel
theorem dX6_readAtom_19 : decode cX6_readAtom 19 = .ok (.bipush 6, 2) := by decide +kernel
theorem dX6_readAtom_21 : decode cX6_readAtom 21 = .ok (.if_icmp .ge 18, 3) := by decide +kernel
theorem dX6_readAtom_24 : decode cX6_readAtom 24 = .ok (.aload_n 0, 1) := by decide +kernel
theorem dX6_readAtom_25 : decode cX6_readAtom 25 = .ok (.aload_n 1, 1) := by decide +kernel
theorem dX6_readAtom_26 : decode cX6_readAtom 26 = .ok (.iload_n 2, 1) := by decide +kernel
theorem dX6_readAtom_27 : decode cX6_readAtom 27 = .ok (.iconst 1, 1) := by decide +kernel
theorem dX6_readAtom_28 : decode cX6_readAtom 28 = .ok (.iadd, 1) := by decide +kernel
theorem dX6_readAtom_29 : decode cX6_readAtom 29 = .ok (.invokevirtual 113, 3) := by decide +kernel
theorem dX6_readAtom_32 : decode cX6_readAtom 32 = .ok (.ifCond .eq 7, 3) := by decide +kernel
theorem dX6_readAtom_35 : decode cX6_readAtom 35 = .ok (.iconst 1, 1) := by decide +kernel
theorem dX6_readAtom_36 : decode cX6_readAtom 36 = .ok (.goto 4, 3) := by decide +kernel
theorem dX6_readAtom_39 : decode cX6_readAtom 39 = .ok (.iconst 0, 1) := by decide +kernel
theorem dX6_readAtom_40 : decode cX6_readAtom 40 = .ok (.ireturn, 1) := by decide +kernel
theorem dX6_readAtom_41 : decode cX6_readAtom 41 = .ok (.aload_n 1, 1) := by decide +kernel
theorem dX6_readAtom_42 : decode cX6_readAtom 42 = .ok (.ldc 116, 2) := by decide +kernel
theorem dX6_readAtom_44 : decode cX6_readAtom 44 = .ok (.invokevirtual 87, 3) := by decide +kernel
theorem dX6_readAtom_47 : decode cX6_readAtom 47 = .ok (.ifCond .eq 8, 3) := by decide +kernel
theorem dX6_readAtom_50 : decode cX6_readAtom 50 = .ok (.bipush 8, 2) := by decide +kernel
theorem dX6_readAtom_52 : decode cX6_readAtom 52 = .ok (.goto 32, 3) := by decide +kernel
theorem dX6_readAtom_55 : decode cX6_readAtom 55 = .ok (.aload_n 1, 1) := by decide +kernel
theorem dX6_readAtom_56 : decode cX6_readAtom 56 = .ok (.ldc 118, 2) := by decide +kernel
theorem dX6_readAtom_58 : decode cX6_readAtom 58 = .ok (.invokevirtual 87, 3) := by decide +kernel
theorem dX6_readAtom_61 : decode cX6_readAtom 61 = .ok (.ifCond .eq 8, 3) := by decide +kernel
theorem dX6_readAtom_64 : decode cX6_readAtom 64 = .ok (.bipush 9, 2) := by decide +kernel
theorem dX6_readAtom_66 : decode cX6_readAtom 66 = .ok (.goto 18, 3) := by decide +kernel
theorem dX6_readAtom_69 : decode cX6_readAtom 69 = .ok (.aload_n 1, 1) := by decide +kernel
theorem dX6_readAtom_70 : decode cX6_readAtom 70 = .ok (.ldc 120, 2) := by decide +kernel
theorem dX6_readAtom_72 : decode cX6_readAtom 72 = .ok (.invokevirtual 87, 3) := by decide +kernel
theorem dX6_readAtom_75 : decode cX6_readAtom 75 = .ok (.ifCond .eq 8, 3) := by decide +kernel
theorem dX6_readAtom_78 : decode cX6_readAtom 78 = .ok (.bipush 10, 2) := by decide +kernel
theorem dX6_readAtom_80 : decode cX6_readAtom 80 = .ok (.goto 4, 3) := by decide +kernel
theorem dX6_readAtom_83 : decode cX6_readAtom 83 = .ok (.iconst (-1), 1) := by decide +kernel
theorem dX6_readAtom_84 : decode cX6_readAtom 84 = .ok (.istore_n 3, 1) := by decide +kernel
theorem dX6_readAtom_85 : decode cX6_readAtom 85 = .ok (.iload_n 3, 1) := by decide +kernel
theorem dX6_readAtom_86 : decode cX6_readAtom 86 = .ok (.iconst (-1), 1) := by decide +kernel
theorem dX6_readAtom_87 : decode cX6_readAtom 87 = .ok (.if_icmp .eq 16, 3) := by decide +kernel
theorem dX6_readAtom_90 : decode cX6_readAtom 90 = .ok (.aload_n 0, 1) := by decide +kernel
theorem dX6_readAtom_91 : decode cX6_readAtom 91 = .ok (.iconst (-1), 1) := by decide +kernel
theorem dX6_readAtom_92 : decode cX6_readAtom 92 = .ok (.iload_n 3, 1) := by decide +kernel
theorem dX6_readAtom_93 : decode cX6_readAtom 93 = .ok (.isub, 1) := by decide +kernel
theorem dX6_readAtom_94 : decode cX6_readAtom 94 = .ok (.invokevirtual 99, 3) := by decide +kernel
theorem dX6_readAtom_97 : decode cX6_readAtom 97 = .ok (.aload_n 1, 1) := by decide +kernel
theorem dX6_readAtom_98 : decode cX6_readAtom 98 = .ok (.invokevirtual 64, 3) := by decide +kernel
theorem dX6_readAtom_101 : decode cX6_readAtom 101 = .ok (.iconst 1, 1) := by decide +kernel
theorem dX6_readAtom_102 : decode cX6_readAtom 102 = .ok (.ireturn, 1) := by decide +kernel
theorem dX6_readAtom_103 : decode cX6_readAtom 103 = .ok (.aload_n 0, 1) := by decide +kernel
theorem dX6_readAtom_104 : decode cX6_readAtom 104 = .ok (.aload_n 1, 1) := by decide +kernel
theorem dX6_readAtom_105 : decode cX6_readAtom 105 = .ok (.invokevirtual 122, 3) := by decide +kernel
theorem dX6_readAtom_108 : decode cX6_readAtom 108 = .ok (.ifCond .ne 5, 3) := by decide +kernel
theorem dX6_readAtom_111 : decode cX6_readAtom 111 = .ok (.iconst 0, 1) := by decide +kernel
theorem dX6_readAtom_112 : decode cX6_readAtom 112 = .ok (.ireturn, 1) := by decide +kernel
theorem dX6_readAtom_113 : decode cX6_readAtom 113 = .ok (.aload_n 1, 1) := by decide +kernel
theorem dX6_readAtom_114 : decode cX6_readAtom 114 = .ok (.bipush 60, 2) := by decide +kernel
theorem dX6_readAtom_116 : decode cX6_readAtom 116 = .ok (.invokevirtual 110, 3) := by decide +kernel
theorem dX6_readAtom_119 : decode cX6_readAtom 119 = .ok (.ifCond .eq 8, 3) := by decide +kernel
theorem dX6_readAtom_122 : decode cX6_readAtom 122 = .ok (.bipush (-22), 2) := by decide +kernel
theorem dX6_readAtom_124 : decode cX6_readAtom 124 = .ok (.goto 5, 3) := by decide +kernel
theorem dX6_readAtom_127 : decode cX6_readAtom 127 = .ok (.bipush (-23), 2) := by decide +kernel
theorem dX6_readAtom_129 : decode cX6_readAtom 129 = .ok (.istore 4, 2) := by decide +kernel
theorem dX6_readAtom_131 : decode cX6_readAtom 131 = .ok (.aload_n 1, 1) := by decide +kernel
theorem dX6_readAtom_132 : decode cX6_readAtom 132 = .ok (.bipush 60, 2) := by decide +kernel
theorem dX6_readAtom_134 : decode cX6_readAtom 134 = .ok (.invokevirtual 56, 3) := by decide +kernel
theorem dX6_readAtom_137 : decode cX6_readAtom 137 = .ok (.ifCond .ne 14, 3) := by decide +kernel
theorem dX6_readAtom_140 : decode cX6_readAtom 140 = .ok (.aload_n 1, 1) := by decide +kernel
theorem dX6_readAtom_141 : decode cX6_readAtom 141 = .ok (.bipush 62, 2) := by decide +kernel
theorem dX6_readAtom_143 : decode cX6_readAtom 143 = .ok (.invokevirtual 56, 3) := by decide +kernel
theorem dX6_readAtom_146 : decode cX6_readAtom 146 = .ok (.ifCond .ne 5, 3) := by decide +kernel
theorem dX6_readAtom_149 : decode cX6_readAtom 149 = .ok (.iconst 0, 1) := by decide +kernel
theorem dX6_readAtom_150 : decode cX6_readAtom 150 = .ok (.ireturn, 1) := by decide +kernel
theorem dX6_readAtom_151 : decode cX6_readAtom 151 = .ok (.aload_n 0, 1) := by decide +kernel
theorem dX6_readAtom_152 : decode cX6_readAtom 152 = .ok (.aload_n 1, 1) := by decide +kernel
theorem dX6_readAtom_153 : decode cX6_readAtom 153 = .ok (.invokevirtual 122, 3) := by decide +kernel
theorem dX6_readAtom_156 : decode cX6_readAtom 156 = .ok (.ifCond .ne 5, 3) := by decide +kernel
theorem dX6_readAtom_159 : decode cX6_readAtom 159 = .ok (.iconst 0, 1) := by decide +kernel
theorem dX6_readAtom_160 : decode cX6_readAtom 160 = .ok (.ireturn, 1) := by decide +kernel
theorem dX6_readAtom_161 : decode cX6_readAtom 161 = .ok (.aload_n 0, 1) := by decide +kernel
theorem dX6_readAtom_162 : decode cX6_readAtom 162 = .ok (.iload 4, 2) := by decide +kernel
theorem dX6_readAtom_164 : decode cX6_readAtom 164 = .ok (.invokevirtual 99, 3) := by decide +kernel
theorem dX6_readAtom_167 : decode cX6_readAtom 167 = .ok (.iconst 1, 1) := by decide +kernel
theorem dX6_readAtom_168 : decode cX6_readAtom 168 = .ok (.ireturn, 1) := by decide +kernel
theorem dX6_readDeeper_0 : decode cX6_readDeeper 0 = .ok (.aload_n 1, 1) := by decide +kernel
theorem dX6_readDeeper_1 : decode cX6_readDeeper 1 = .ok (.bipush 40, 2) := by decide +kernel
theorem dX6_readDeeper_3 : decode cX6_readDeeper 3 = .ok (.invokevirtual 56, 3) := by decide +kernel
theorem dX6_readDeeper_6 : decode cX6_readDeeper 6 = .ok (.ifCond .eq 27, 3) := by decide +kernel
theorem dX6_readDeeper_9 : decode cX6_readDeeper 9 = .ok (.aload_n 0, 1) := by decide +kernel
theorem dX6_readDeeper_10 : decode cX6_readDeeper 10 = .ok (.aload_n 1, 1) := by decide +kernel
theorem dX6_readDeeper_11 : decode cX6_readDeeper 11 = .ok (.iload_n 2, 1) := by decide +kernel
theorem dX6_readDeeper_12 : decode cX6_readDeeper 12 = .ok (.invokevirtual 81, 3) := by decide +kernel
theorem dX6_readDeeper_15 : decode cX6_readDeeper 15 = .ok (.ifCond .eq 16, 3) := by decide +kernel
theorem dX6_readDeeper_18 : decode cX6_readDeeper 18 = .ok (.aload_n 1, 1) := by decide +kernel
theorem dX6_readDeeper_19 : decode cX6_readDeeper 19 = .ok (.bipush 41, 2) := by decide +kernel
theorem dX6_readDeeper_21 : decode cX6_readDeeper 21 = .ok (.invokevirtual 56, 3) := by decide +kernel
theorem dX6_readDeeper_24 : decode cX6_readDeeper 24 = .ok (.ifCond .eq 7, 3) := by decide +kernel
theorem dX6_readDeeper_27 : decode cX6_readDeeper 27 = .ok (.iconst 1, 1) := by decide +kernel
theorem dX6_readDeeper_28 : decode cX6_readDeeper 28 = .ok (.goto 4, 3) := by decide +kernel
theorem dX6_readDeeper_31 : decode cX6_readDeeper 31 = .ok (.iconst 0, 1) := by decide +kernel
theorem dX6_readDeeper_32 : decode cX6_readDeeper 32 = .ok (.ireturn, 1) := by decide +kernel
theorem dX6_readDeeper_33 : decode cX6_readDeeper 33 = .ok (.aload_n 1, 1) := by decide +kernel
theorem dX6_readDeeper_34 : decode cX6_readDeeper 34 = .ok (.invokevirtual 64, 3) := by decide +kernel
theorem dX6_readDeeper_37 : decode cX6_readDeeper 37 = .ok (.aload_n 0, 1) := by decide +kernel
theorem dX6_readDeeper_38 : decode cX6_readDeeper 38 = .ok (.aload_n 1, 1) := by decide +kernel
theorem dX6_readDeeper_39 : decode cX6_readDeeper 39 = .ok (.iload_n 2, 1) := by decide +kernel
theorem dX6_readDeeper_40 : decode cX6_readDeeper 40 = .ok (.invokevirtual 103, 3) := by decide +kernel
theorem dX6_readDeeper_43 : decode cX6_readDeeper 43 = .ok (.ifCond .ne 5, 3) := by decide +kernel
theorem dX6_readDeeper_46 : decode cX6_readDeeper 46 = .ok (.iconst 0, 1) := by decide +kernel
theorem dX6_readDeeper_47 : decode cX6_readDeeper 47 = .ok (.ireturn, 1) := by decide +kernel
theorem dX6_readDeeper_48 : decode cX6_readDeeper 48 = .ok (.aload_n 0, 1) := by decide +kernel
theorem dX6_readDeeper_49 : decode cX6_readDeeper 49 = .ok (.bipush (-20), 2) := by decide +kernel
theorem dX6_readDeeper_51 : decode cX6_readDeeper 51 = .ok (.invokevirtual 99, 3) := by decide +kernel
theorem dX6_readDeeper_54 : decode cX6_readDeeper 54 = .ok (.iconst 1, 1) := by decide +kernel
theorem dX6_readDeeper_55 : decode cX6_readDeeper 55 = .ok (.ireturn, 1) := by decide +kernel
theorem dX6_readSum_0 : decode cX6_readSum 0 = .ok (.iconst 0, 1) := by decide +kernel
theorem dX6_readSum_1 : decode cX6_readSum 1 = .ok (.istore_n 2, 1) := by decide +kernel
theorem dX6_readSum_2 : decode cX6_readSum 2 = .ok (.iload_n 2, 1) := by decide +kernel
theorem dX6_readSum_3 : decode cX6_readSum 3 = .ok (.sipush 400, 3) := by decide +kernel
theorem dX6_readSum_6 : decode cX6_readSum 6 = .ok (.if_icmp .ge 90, 3) := by decide +kernel
theorem dX6_readSum_9 : decode cX6_readSum 9 = .ok (.aload_n 1, 1) := by decide +kernel
theorem dX6_readSum_10 : decode cX6_readSum 10 = .ok (.invokestatic 125, 3) := by decide +kernel
theorem dX6_readSum_13 : decode cX6_readSum 13 = .ok (.istore_n 3, 1) := by decide +kernel
theorem dX6_readSum_14 : decode cX6_readSum 14 = .ok (.iload_n 3, 1) := by decide +kernel
theorem dX6_readSum_15 : decode cX6_readSum 15 = .ok (.iconst (-1), 1) := by decide +kernel
theorem dX6_readSum_16 : decode cX6_readSum 16 = .ok (.if_icmp .ne 14, 3) := by decide +kernel
theorem dX6_readSum_19 : decode cX6_readSum 19 = .ok (.aload_n 1, 1) := by decide +kernel
theorem dX6_readSum_20 : decode cX6_readSum 20 = .ok (.iconst 0, 1) := by decide +kernel
theorem dX6_readSum_21 : decode cX6_readSum 21 = .ok (.sipush 999, 3) := by decide +kernel
theorem dX6_readSum_24 : decode cX6_readSum 24 = .ok (.invokevirtual 67, 3) := by decide +kernel
theorem dX6_readSum_27 : decode cX6_readSum 27 = .ok (.goto 4, 3) := by decide +kernel
theorem dX6_readSum_30 : decode cX6_readSum 30 = .ok (.iconst (-1), 1) := by decide +kernel
theorem dX6_readSum_31 : decode cX6_readSum 31 = .ok (.istore 4, 2) := by decide +kernel
theorem dX6_readSum_33 : decode cX6_readSum 33 = .ok (.iload_n 3, 1) := by decide +kernel
theorem dX6_readSum_34 : decode cX6_readSum 34 = .ok (.iconst (-1), 1) := by decide +kernel
theorem dX6_readSum_35 : decode cX6_readSum 35 = .ok (.if_icmp .eq 17, 3) := by decide +kernel
theorem dX6_readSum_38 : decode cX6_readSum 38 = .ok (.aload_n 1, 1) := by decide +kernel
theorem dX6_readSum_39 : decode cX6_readSum 39 = .ok (.invokevirtual 64, 3) := by decide +kernel
theorem dX6_readSum_42 : decode cX6_readSum 42 = .ok (.aload_n 0, 1) := by decide +kernel
theorem dX6_readSum_43 : decode cX6_readSum 43 = .ok (.iconst (-1), 1) := by decide +kernel
theorem dX6_readSum_44 : decode cX6_readSum 44 = .ok (.iload_n 3, 1) := by decide +kernel
theorem dX6_readSum_45 : decode cX6_readSum 45 = .ok (.isub, 1) := by decide +kernel
theorem dX6_readSum_46 : decode cX6_readSum 46 = .ok (.invokevirtual 99, 3) := by decide +kernel
theorem dX6_readSum_49 : decode cX6_readSum 49 = .ok (.goto 20, 3) := by decide +kernel
theorem dX6_readSum_52 : decode cX6_readSum 52 = .ok (.iload 4, 2) := by decide +kernel
theorem dX6_readSum_54 : decode cX6_readSum 54 = .ok (.iconst (-1), 1) := by decide +kernel
theorem dX6_readSum_55 : decode cX6_readSum 55 = .ok (.if_icmp .eq 12, 3) := by decide +kernel
theorem dX6_readSum_58 : decode cX6_readSum 58 = .ok (.aload_n 0, 1) := by decide +kernel
theorem dX6_readSum_59 : decode cX6_readSum 59 = .ok (.iload 4, 2) := by decide +kernel
theorem dX6_readSum_61 : decode cX6_readSum 61 = .ok (.invokevirtual 99, 3) := by decide +kernel
theorem dX6_readSum_64 : decode cX6_readSum 64 = .ok (.goto 5, 3) := by decide +kernel
theorem dX6_readSum_67 : decode cX6_readSum 67 = .ok (.iconst 0, 1) := by decide +kernel
theorem dX6_readSum_68 : decode cX6_readSum 68 = .ok (.ireturn, 1) := by decide +kernel
theorem dX6_readSum_69 : decode cX6_readSum 69 = .ok (.iload_n 2, 1) := by decide +kernel
theorem dX6_readSum_70 : decode cX6_readSum 70 = .ok (.ifCond .le 9, 3) := by decide +kernel
theorem dX6_readSum_73 : decode cX6_readSum 73 = .ok (.aload_n 0, 1) := by decide +kernel
theorem dX6_readSum_74 : decode cX6_readSum 74 = .ok (.bipush (-21), 2) := by decide +kernel
theorem dX6_readSum_76 : decode cX6_readSum 76 = .ok (.invokevirtual 99, 3) := by decide +kernel
theorem dX6_readSum_79 : decode cX6_readSum 79 = .ok (.aload_n 1, 1) := by decide +kernel
theorem dX6_readSum_80 : decode cX6_readSum 80 = .ok (.bipush 43, 2) := by decide +kernel
theorem dX6_readSum_82 : decode cX6_readSum 82 = .ok (.invokevirtual 56, 3) := by decide +kernel
theorem dX6_readSum_85 : decode cX6_readSum 85 = .ok (.ifCond .ne 5, 3) := by decide +kernel
theorem dX6_readSum_88 : decode cX6_readSum 88 = .ok (.iconst 1, 1) := by decide +kernel
theorem dX6_readSum_89 : decode cX6_readSum 89 = .ok (.ireturn, 1) := by decide +kernel
theorem dX6_readSum_90 : decode cX6_readSum 90 = .ok (.iinc 2 1, 3) := by decide +kernel
theorem dX6_readSum_93 : decode cX6_readSum 93 = .ok (.goto (-91), 3) := by decide +kernel
theorem dX6_readSum_96 : decode cX6_readSum 96 = .ok (.iconst 0, 1) := by decide +kernel
theorem dX6_readSum_97 : decode cX6_readSum 97 = .ok (.ireturn, 1) := by decide +kernel
theorem dX6_factHere_0 : decode cX6_factHere 0 = .ok (.aload_n 0, 1) := by decide +kernel
theorem dX6_factHere_1 : decode cX6_factHere 1 = .ok (.ldc 128, 2) := by decide +kernel
theorem dX6_factHere_3 : decode cX6_factHere 3 = .ok (.invokevirtual 87, 3) := by decide +kernel
theorem dX6_factHere_6 : decode cX6_factHere 6 = .ok (.ifCond .eq 5, 3) := by decide +kernel
theorem dX6_factHere_9 : decode cX6_factHere 9 = .ok (.iconst 0, 1) := by decide +kernel
theorem dX6_factHere_10 : decode cX6_factHere 10 = .ok (.ireturn, 1) := by decide +kernel
theorem dX6_factHere_11 : decode cX6_factHere 11 = .ok (.aload_n 0, 1) := by decide +kernel
theorem dX6_factHere_12 : decode cX6_factHere 12 = .ok (.ldc 130, 2) := by decide +kernel
theorem dX6_factHere_14 : decode cX6_factHere 14 = .ok (.invokevirtual 87, 3) := by decide +kernel
theorem dX6_factHere_17 : decode cX6_factHere 17 = .ok (.ifCond .eq 5, 3) := by decide +kernel
theorem dX6_factHere_20 : decode cX6_factHere 20 = .ok (.iconst 1, 1) := by decide +kernel
theorem dX6_factHere_21 : decode cX6_factHere 21 = .ok (.ireturn, 1) := by decide +kernel
theorem dX6_factHere_22 : decode cX6_factHere 22 = .ok (.aload_n 0, 1) := by decide +kernel
theorem dX6_factHere_23 : decode cX6_factHere 23 = .ok (.ldc 132, 2) := by decide +kernel
theorem dX6_factHere_25 : decode cX6_factHere 25 = .ok (.invokevirtual 87, 3) := by decide +kernel
theorem dX6_factHere_28 : decode cX6_factHere 28 = .ok (.ifCond .eq 5, 3) := by decide +kernel
theorem dX6_factHere_31 : decode cX6_factHere 31 = .ok (.iconst 2, 1) := by decide +kernel
theorem dX6_factHere_32 : decode cX6_factHere 32 = .ok (.ireturn, 1) := by decide +kernel
theorem dX6_factHere_33 : decode cX6_factHere 33 = .ok (.aload_n 0, 1) := by decide +kernel
theorem dX6_factHere_34 : decode cX6_factHere 34 = .ok (.ldc 134, 2) := by decide +kernel
theorem dX6_factHere_36 : decode cX6_factHere 36 = .ok (.invokevirtual 87, 3) := by decide +kernel
theorem dX6_factHere_39 : decode cX6_factHere 39 = .ok (.ifCond .eq 5, 3) := by decide +kernel
theorem dX6_factHere_42 : decode cX6_factHere 42 = .ok (.iconst 3, 1) := by decide +kernel
theorem dX6_factHere_43 : decode cX6_factHere 43 = .ok (.ireturn, 1) := by decide +kernel
theorem dX6_factHere_44 : decode cX6_factHere 44 = .ok (.aload_n 0, 1) := by decide +kernel
theorem dX6_factHere_45 : decode cX6_factHere 45 = .ok (.ldc 136, 2) := by decide +kernel
theorem dX6_factHere_47 : decode cX6_factHere 47 = .ok (.invokevirtual 87, 3) := by decide +kernel
theorem dX6_factHere_50 : decode cX6_factHere 50 = .ok (.ifCond .eq 5, 3) := by decide +kernel
theorem dX6_factHere_53 : decode cX6_factHere 53 = .ok (.iconst 4, 1) := by decide +kernel
theorem dX6_factHere_54 : decode cX6_factHere 54 = .ok (.ireturn, 1) := by decide +kernel
theorem dX6_factHere_55 : decode cX6_factHere 55 = .ok (.aload_n 0, 1) := by decide +kernel
theorem dX6_factHere_56 : decode cX6_factHere 56 = .ok (.ldc 138, 2) := by decide +kernel
theorem dX6_factHere_58 : decode cX6_factHere 58 = .ok (.invokevirtual 87, 3) := by decide +kernel
theorem dX6_factHere_61 : decode cX6_factHere 61 = .ok (.ifCond .eq 5, 3) := by decide +kernel
theorem dX6_factHere_64 : decode cX6_factHere 64 = .ok (.iconst 5, 1) := by decide +kernel
theorem dX6_factHere_65 : decode cX6_factHere 65 = .ok (.ireturn, 1) := by decide +kernel
theorem dX6_factHere_66 : decode cX6_factHere 66 = .ok (.aload_n 0, 1) := by decide +kernel
theorem dX6_factHere_67 : decode cX6_factHere 67 = .ok (.ldc 140, 2) := by decide +kernel
theorem dX6_factHere_69 : decode cX6_factHere 69 = .ok (.invokevirtual 87, 3) := by decide +kernel
theorem dX6_factHere_72 : decode cX6_factHere 72 = .ok (.ifCond .eq 6, 3) := by decide +kernel
theorem dX6_factHere_75 : decode cX6_factHere 75 = .ok (.bipush 6, 2) := by decide +kernel
theorem dX6_factHere_77 : decode cX6_factHere 77 = .ok (.ireturn, 1) := by decide +kernel
theorem dX6_factHere_78 : decode cX6_factHere 78 = .ok (.aload_n 0, 1) := by decide +kernel
theorem dX6_factHere_79 : decode cX6_factHere 79 = .ok (.ldc 142, 2) := by decide +kernel
theorem dX6_factHere_81 : decode cX6_factHere 81 = .ok (.invokevirtual 87, 3) := by decide +kernel
theorem dX6_factHere_84 : decode cX6_factHere 84 = .ok (.ifCond .eq 8, 3) := by decide +kernel
theorem dX6_factHere_87 : decode cX6_factHere 87 = .ok (.bipush 7, 2) := by decide +kernel
theorem dX6_factHere_89 : decode cX6_factHere 89 = .ok (.goto 4, 3) := by decide +kernel
theorem dX6_factHere_92 : decode cX6_factHere 92 = .ok (.iconst (-1), 1) := by decide +kernel
theorem dX6_factHere_93 : decode cX6_factHere 93 = .ok (.ireturn, 1) := by decide +kernel
theorem dX6_begin_0 : decode cX6_begin 0 = .ok (.aload_n 0, 1) := by decide +kernel
theorem dX6_begin_1 : decode cX6_begin 1 = .ok (.getfield 30, 3) := by decide +kernel
theorem dX6_begin_4 : decode cX6_begin 4 = .ok (.ifCond .lt 12, 3) := by decide +kernel
theorem dX6_begin_7 : decode cX6_begin 7 = .ok (.aload_n 0, 1) := by decide +kernel
theorem dX6_begin_8 : decode cX6_begin 8 = .ok (.getfield 30, 3) := by decide +kernel
theorem dX6_begin_11 : decode cX6_begin 11 = .ok (.bipush 12, 2) := by decide +kernel
theorem dX6_begin_13 : decode cX6_begin 13 = .ok (.if_icmp .lt 4, 3) := by decide +kernel
theorem dX6_begin_16 : decode cX6_begin 16 = .ok (.return_, 1) := by decide +kernel
theorem dX6_begin_17 : decode cX6_begin 17 = .ok (.aload_n 0, 1) := by decide +kernel
theorem dX6_begin_18 : decode cX6_begin 18 = .ok (.getfield 9, 3) := by decide +kernel
theorem dX6_begin_21 : decode cX6_begin 21 = .ok (.aload_n 0, 1) := by decide +kernel
theorem dX6_begin_22 : decode cX6_begin 22 = .ok (.getfield 30, 3) := by decide +kernel
theorem dX6_begin_25 : decode cX6_begin 25 = .ok (.iload_n 1, 1) := by decide +kernel
theorem dX6_begin_26 : decode cX6_begin 26 = .ok (.iastore, 1) := by decide +kernel
theorem dX6_begin_27 : decode cX6_begin 27 = .ok (.aload_n 0, 1) := by decide +kernel
theorem dX6_begin_28 : decode cX6_begin 28 = .ok (.getfield 15, 3) := by decide +kernel
theorem dX6_begin_31 : decode cX6_begin 31 = .ok (.aload_n 0, 1) := by decide +kernel
theorem dX6_begin_32 : decode cX6_begin 32 = .ok (.getfield 30, 3) := by decide +kernel
theorem dX6_begin_35 : decode cX6_begin 35 = .ok (.iload_n 2, 1) := by decide +kernel
theorem dX6_begin_36 : decode cX6_begin 36 = .ok (.iastore, 1) := by decide +kernel
theorem dX6_begin_37 : decode cX6_begin 37 = .ok (.aload_n 0, 1) := by decide +kernel
theorem dX6_begin_38 : decode cX6_begin 38 = .ok (.getfield 18, 3) := by decide +kernel
theorem dX6_begin_41 : decode cX6_begin 41 = .ok (.aload_n 0, 1) := by decide +kernel
theorem dX6_begin_42 : decode cX6_begin 42 = .ok (.getfield 30, 3) := by decide +kernel
theorem dX6_begin_45 : decode cX6_begin 45 = .ok (.aload_n 0, 1) := by decide +kernel
theorem dX6_begin_46 : decode cX6_begin 46 = .ok (.getfield 34, 3) := by decide +kernel
theorem dX6_begin_49 : decode cX6_begin 49 = .ok (.iastore, 1) := by decide +kernel
theorem dX6_begin_50 : decode cX6_begin 50 = .ok (.aload_n 0, 1) := by decide +kernel
theorem dX6_begin_51 : decode cX6_begin 51 = .ok (.dup, 1) := by decide +kernel
theorem dX6_begin_52 : decode cX6_begin 52 = .ok (.getfield 30, 3) := by decide +kernel
theorem dX6_begin_55 : decode cX6_begin 55 = .ok (.iconst 1, 1) := by decide +kernel
theorem dX6_begin_56 : decode cX6_begin 56 = .ok (.iadd, 1) := by decide +kernel
theorem dX6_begin_57 : decode cX6_begin 57 = .ok (.putfield 30, 3) := by decide +kernel
theorem dX6_begin_60 : decode cX6_begin 60 = .ok (.return_, 1) := by decide +kernel
theorem dX6_addStep_0 : decode cX6_addStep 0 = .ok (.aload_n 0, 1) := by decide +kernel
theorem dX6_addStep_1 : decode cX6_addStep 1 = .ok (.getfield 34, 3) := by decide +kernel
theorem dX6_addStep_4 : decode cX6_addStep 4 = .ok (.sipush 400, 3) := by decide +kernel
theorem dX6_addStep_7 : decode cX6_addStep 7 = .ok (.if_icmp .ge 11, 3) := by decide +kernel
theorem dX6_addStep_10 : decode cX6_addStep 10 = .ok (.aload_n 0, 1) := by decide +kernel
theorem dX6_addStep_11 : decode cX6_addStep 11 = .ok (.getfield 30, 3) := by decide +kernel
theorem dX6_addStep_14 : decode cX6_addStep 14 = .ok (.iconst 1, 1) := by decide +kernel
theorem dX6_addStep_15 : decode cX6_addStep 15 = .ok (.if_icmp .ge 4, 3) := by decide +kernel
theorem dX6_addStep_18 : decode cX6_addStep 18 = .ok (.return_, 1) := by decide +kernel
theorem dX6_addStep_19 : decode cX6_addStep 19 = .ok (.aload_n 0, 1) := by decide +kernel
theorem dX6_addStep_20 : decode cX6_addStep 20 = .ok (.getfield 21, 3) := by decide +kernel
theorem dX6_addStep_23 : decode cX6_addStep 23 = .ok (.aload_n 0, 1) := by decide +kernel
theorem dX6_addStep_24 : decode cX6_addStep 24 = .ok (.getfield 34, 3) := by decide +kernel
theorem dX6_addStep_27 : decode cX6_addStep 27 = .ok (.iload_n 1, 1) := by decide +kernel
theorem dX6_addStep_28 : decode cX6_addStep 28 = .ok (.iastore, 1) := by decide +kernel
theorem dX6_addStep_29 : decode cX6_addStep 29 = .ok (.aload_n 0, 1) := by decide +kernel
theorem dX6_addStep_30 : decode cX6_addStep 30 = .ok (.dup, 1) := by decide +kernel
theorem dX6_addStep_31 : decode cX6_addStep 31 = .ok (.getfield 34, 3) := by decide +kernel
theorem dX6_addStep_34 : decode cX6_addStep 34 = .ok (.iconst 1, 1) := by decide +kernel
theorem dX6_addStep_35 : decode cX6_addStep 35 = .ok (.iadd, 1) := by decide +kernel
theorem dX6_addStep_36 : decode cX6_addStep 36 = .ok (.putfield 34, 3) := by decide +kernel
theorem dX6_addStep_39 : decode cX6_addStep 39 = .ok (.aload_n 0, 1) := by decide +kernel
theorem dX6_addStep_40 : decode cX6_addStep 40 = .ok (.getfield 18, 3) := by decide +kernel
theorem dX6_addStep_43 : decode cX6_addStep 43 = .ok (.aload_n 0, 1) := by decide +kernel
theorem dX6_addStep_44 : decode cX6_addStep 44 = .ok (.getfield 30, 3) := by decide +kernel
theorem dX6_addStep_47 : decode cX6_addStep 47 = .ok (.iconst 1, 1) := by decide +kernel
theorem dX6_addStep_48 : decode cX6_addStep 48 = .ok (.isub, 1) := by decide +kernel
theorem dX6_addStep_49 : decode cX6_addStep 49 = .ok (.aload_n 0, 1) := by decide +kernel
theorem dX6_addStep_50 : decode cX6_addStep 50 = .ok (.getfield 34, 3) := by decide +kernel
theorem dX6_addStep_53 : decode cX6_addStep 53 = .ok (.iastore, 1) := by decide +kernel
theorem dX6_addStep_54 : decode cX6_addStep 54 = .ok (.return_, 1) := by decide +kernel
theorem dX6_sum_0 : decode cX6_sum 0 = .ok (.aload_n 0, 1) := by decide +kernel
theorem dX6_sum_1 : decode cX6_sum 1 = .ok (.aload_n 2, 1) := by decide +kernel
theorem dX6_sum_2 : decode cX6_sum 2 = .ok (.iload_n 3, 1) := by decide +kernel
theorem dX6_sum_3 : decode cX6_sum 3 = .ok (.iload 4, 2) := by decide +kernel
theorem dX6_sum_5 : decode cX6_sum 5 = .ok (.invokevirtual 144, 3) := by decide +kernel
theorem dX6_sum_8 : decode cX6_sum 8 = .ok (.iconst 0, 1) := by decide +kernel
theorem dX6_sum_9 : decode cX6_sum 9 = .ok (.istore 5, 2) := by decide +kernel
theorem dX6_sum_11 : decode cX6_sum 11 = .ok (.iconst 0, 1) := by decide +kernel
theorem dX6_sum_12 : decode cX6_sum 12 = .ok (.istore 6, 2) := by decide +kernel
theorem dX6_sum_14 : decode cX6_sum 14 = .ok (.iload 6, 2) := by decide +kernel
theorem dX6_sum_16 : decode cX6_sum 16 = .ok (.aload_n 0, 1) := by decide +kernel
theorem dX6_sum_17 : decode cX6_sum 17 = .ok (.getfield 30, 3) := by decide +kernel
theorem dX6_sum_20 : decode cX6_sum 20 = .ok (.if_icmp .ge 41, 3) := by decide +kernel
theorem dX6_sum_23 : decode cX6_sum 23 = .ok (.aload_n 0, 1) := by decide +kernel
theorem dX6_sum_24 : decode cX6_sum 24 = .ok (.getfield 9, 3) := by decide +kernel
theorem dX6_sum_27 : decode cX6_sum 27 = .ok (.iload 6, 2) := by decide +kernel
theorem dX6_sum_29 : decode cX6_sum 29 = .ok (.iaload, 1) := by decide +kernel
theorem dX6_sum_30 : decode cX6_sum 30 = .ok (.iload_n 1, 1) := by decide +kernel
theorem dX6_sum_31 : decode cX6_sum 31 = .ok (.if_icmp .ne 24, 3) := by decide +kernel
theorem dX6_sum_34 : decode cX6_sum 34 = .ok (.aload_n 0, 1) := by decide +kernel
theorem dX6_sum_35 : decode cX6_sum 35 = .ok (.iload 6, 2) := by decide +kernel
theorem dX6_sum_37 : decode cX6_sum 37 = .ok (.invokevirtual 148, 3) := by decide +kernel
theorem dX6_sum_40 : decode cX6_sum 40 = .ok (.ifCond .eq 15, 3) := by decide +kernel
theorem dX6_sum_43 : decode cX6_sum 43 = .ok (.iload 5, 2) := by decide +kernel
theorem dX6_sum_45 : decode cX6_sum 45 = .ok (.aload_n 0, 1) := by decide +kernel
theorem dX6_sum_46 : decode cX6_sum 46 = .ok (.getfield 15, 3) := by decide +kernel
theorem dX6_sum_49 : decode cX6_sum 49 = .ok (.iload 6, 2) := by decide +kernel
theorem dX6_sum_51 : decode cX6_sum 51 = .ok (.iaload, 1) := by decide +kernel
theorem dX6_sum_52 : decode cX6_sum 52 = .ok (.iadd, 1) := by decide +kernel
theorem dX6_sum_53 : decode cX6_sum 53 = .ok (.istore 5, 2) := by decide +kernel
theorem dX6_sum_55 : decode cX6_sum 55 = .ok (.iinc 6 1, 3) := by decide +kernel
theorem dX6_sum_58 : decode cX6_sum 58 = .ok (.goto (-44), 3) := by decide +kernel
theorem dX6_sum_61 : decode cX6_sum 61 = .ok (.iload 5, 2) := by decide +kernel
theorem dX6_sum_63 : decode cX6_sum 63 = .ok (.ireturn, 1) := by decide +kernel
theorem dX6_note_0 : decode cX6_note 0 = .ok (.aload_n 1, 1) := by decide +kernel
theorem dX6_note_1 : decode cX6_note 1 = .ok (.getfield 152, 3) := by decide +kernel
theorem dX6_note_4 : decode cX6_note 4 = .ok (.astore 4, 2) := by decide +kernel
theorem dX6_note_6 : decode cX6_note 6 = .ok (.aload 4, 2) := by decide +kernel
theorem dX6_note_8 : decode cX6_note 8 = .ok (.getfield 158, 3) := by decide +kernel
theorem dX6_note_11 : decode cX6_note 11 = .ok (.iload_n 2, 1) := by decide +kernel
theorem dX6_note_12 : decode cX6_note 12 = .ok (.iaload, 1) := by decide +kernel
theorem dX6_note_13 : decode cX6_note 13 = .ok (.istore 5, 2) := by decide +kernel
theorem dX6_note_15 : decode cX6_note 15 = .ok (.aload_n 0, 1) := by decide +kernel
theorem dX6_note_16 : decode cX6_note 16 = .ok (.getfield 24, 3) := by decide +kernel
theorem dX6_note_19 : decode cX6_note 19 = .ok (.iconst 0, 1) := by decide +kernel
theorem dX6_note_20 : decode cX6_note 20 = .ok (.iload_n 2, 1) := by decide +kernel
theorem dX6_note_21 : decode cX6_note 21 = .ok (.iastore, 1) := by decide +kernel
theorem dX6_note_22 : decode cX6_note 22 = .ok (.aload_n 0, 1) := by decide +kernel
theorem dX6_note_23 : decode cX6_note 23 = .ok (.getfield 24, 3) := by decide +kernel
theorem dX6_note_26 : decode cX6_note 26 = .ok (.iconst 1, 1) := by decide +kernel
theorem dX6_note_27 : decode cX6_note 27 = .ok (.aload 4, 2) := by decide +kernel
theorem dX6_note_29 : decode cX6_note 29 = .ok (.getfield 162, 3) := by decide +kernel
theorem dX6_note_32 : decode cX6_note 32 = .ok (.iload_n 2, 1) := by decide +kernel
theorem dX6_note_33 : decode cX6_note 33 = .ok (.iaload, 1) := by decide +kernel
theorem dX6_note_34 : decode cX6_note 34 = .ok (.iastore, 1) := by decide +kernel
theorem dX6_note_35 : decode cX6_note 35 = .ok (.aload_n 0, 1) := by decide +kernel
theorem dX6_note_36 : decode cX6_note 36 = .ok (.getfield 24, 3) := by decide +kernel
theorem dX6_note_39 : decode cX6_note 39 = .ok (.iconst 2, 1) := by decide +kernel
theorem dX6_note_40 : decode cX6_note 40 = .ok (.aload 4, 2) := by decide +kernel
theorem dX6_note_42 : decode cX6_note 42 = .ok (.getfield 164, 3) := by decide +kernel
theorem dX6_note_45 : decode cX6_note 45 = .ok (.iload_n 2, 1) := by decide +kernel
theorem dX6_note_46 : decode cX6_note 46 = .ok (.iaload, 1) := by decide +kernel
theorem dX6_note_47 : decode cX6_note 47 = .ok (.iastore, 1) := by decide +kernel
theorem dX6_note_48 : decode cX6_note 48 = .ok (.aload_n 0, 1) := by decide +kernel
theorem dX6_note_49 : decode cX6_note 49 = .ok (.getfield 24, 3) := by decide +kernel
theorem dX6_note_52 : decode cX6_note 52 = .ok (.iconst 3, 1) := by decide +kernel
theorem dX6_note_53 : decode cX6_note 53 = .ok (.aload 4, 2) := by decide +kernel
theorem dX6_note_55 : decode cX6_note 55 = .ok (.getfield 166, 3) := by decide +kernel
theorem dX6_note_58 : decode cX6_note 58 = .ok (.iload_n 2, 1) := by decide +kernel
theorem dX6_note_59 : decode cX6_note 59 = .ok (.iaload, 1) := by decide +kernel
theorem dX6_note_60 : decode cX6_note 60 = .ok (.iastore, 1) := by decide +kernel
theorem dX6_note_61 : decode cX6_note 61 = .ok (.aload_n 0, 1) := by decide +kernel
theorem dX6_note_62 : decode cX6_note 62 = .ok (.getfield 24, 3) := by decide +kernel
theorem dX6_note_65 : decode cX6_note 65 = .ok (.iconst 4, 1) := by decide +kernel
theorem dX6_note_66 : decode cX6_note 66 = .ok (.aload 4, 2) := by decide +kernel
theorem dX6_note_68 : decode cX6_note 68 = .ok (.getfield 168, 3) := by decide +kernel
theorem dX6_note_71 : decode cX6_note 71 = .ok (.iload_n 2, 1) := by decide +kernel
theorem dX6_note_72 : decode cX6_note 72 = .ok (.iaload, 1) := by decide +kernel
theorem dX6_note_73 : decode cX6_note 73 = .ok (.iastore, 1) := by decide +kernel
theorem dX6_note_74 : decode cX6_note 74 = .ok (.aload_n 0, 1) := by decide +kernel
theorem dX6_note_75 : decode cX6_note 75 = .ok (.getfield 24, 3) := by decide +kernel
theorem dX6_note_78 : decode cX6_note 78 = .ok (.iconst 5, 1) := by decide +kernel
theorem dX6_note_79 : decode cX6_note 79 = .ok (.aload_n 1, 1) := by decide +kernel
theorem dX6_note_80 : decode cX6_note 80 = .ok (.getfield 170, 3) := by decide +kernel
theorem dX6_note_83 : decode cX6_note 83 = .ok (.iastore, 1) := by decide +kernel
theorem dX6_note_84 : decode cX6_note 84 = .ok (.aload_n 0, 1) := by decide +kernel
theorem dX6_note_85 : decode cX6_note 85 = .ok (.getfield 24, 3) := by decide +kernel
theorem dX6_note_88 : decode cX6_note 88 = .ok (.bipush 6, 2) := by decide +kernel
theorem dX6_note_90 : decode cX6_note 90 = .ok (.iload_n 3, 1) := by decide +kernel
theorem dX6_note_91 : decode cX6_note 91 = .ok (.iastore, 1) := by decide +kernel
theorem dX6_note_92 : decode cX6_note 92 = .ok (.aload_n 0, 1) := by decide +kernel
theorem dX6_note_93 : decode cX6_note 93 = .ok (.getfield 24, 3) := by decide +kernel
theorem dX6_note_96 : decode cX6_note 96 = .ok (.bipush 7, 2) := by decide +kernel
theorem dX6_note_98 : decode cX6_note 98 = .ok (.iload 5, 2) := by decide +kernel
theorem dX6_note_100 : decode cX6_note 100 = .ok (.iastore, 1) := by decide +kernel
theorem dX6_note_101 : decode cX6_note 101 = .ok (.aload_n 0, 1) := by decide +kernel
theorem dX6_note_102 : decode cX6_note 102 = .ok (.getfield 24, 3) := by decide +kernel
theorem dX6_note_105 : decode cX6_note 105 = .ok (.bipush 8, 2) := by decide +kernel
theorem dX6_note_107 : decode cX6_note 107 = .ok (.iload_n 3, 1) := by decide +kernel
theorem dX6_note_108 : decode cX6_note 108 = .ok (.ifCond .le 7, 3) := by decide +kernel
theorem dX6_note_111 : decode cX6_note 111 = .ok (.iconst 1, 1) := by decide +kernel
theorem dX6_note_112 : decode cX6_note 112 = .ok (.goto 4, 3) := by decide +kernel
theorem dX6_note_115 : decode cX6_note 115 = .ok (.iconst 0, 1) := by decide +kernel
theorem dX6_note_116 : decode cX6_note 116 = .ok (.iastore, 1) := by decide +kernel
theorem dX6_note_117 : decode cX6_note 117 = .ok (.aload_n 0, 1) := by decide +kernel
theorem dX6_note_118 : decode cX6_note 118 = .ok (.getfield 24, 3) := by decide +kernel
theorem dX6_note_121 : decode cX6_note 121 = .ok (.bipush 9, 2) := by decide +kernel
theorem dX6_note_123 : decode cX6_note 123 = .ok (.aload 4, 2) := by decide +kernel
theorem dX6_note_125 : decode cX6_note 125 = .ok (.getfield 168, 3) := by decide +kernel
theorem dX6_note_128 : decode cX6_note 128 = .ok (.iload_n 2, 1) := by decide +kernel
theorem dX6_note_129 : decode cX6_note 129 = .ok (.iaload, 1) := by decide +kernel
theorem dX6_note_130 : decode cX6_note 130 = .ok (.bipush 50, 2) := by decide +kernel
theorem dX6_note_132 : decode cX6_note 132 = .ok (.if_icmp .lt 7, 3) := by decide +kernel
theorem dX6_note_135 : decode cX6_note 135 = .ok (.iconst 1, 1) := by decide +kernel
theorem dX6_note_136 : decode cX6_note 136 = .ok (.goto 4, 3) := by decide +kernel
theorem dX6_note_139 : decode cX6_note 139 = .ok (.iconst 0, 1) := by decide +kernel
theorem dX6_note_140 : decode cX6_note 140 = .ok (.iastore, 1) := by decide +kernel
theorem dX6_note_141 : decode cX6_note 141 = .ok (.aload_n 0, 1) := by decide +kernel
theorem dX6_note_142 : decode cX6_note 142 = .ok (.getfield 24, 3) := by decide +kernel
theorem dX6_note_145 : decode cX6_note 145 = .ok (.bipush 10, 2) := by decide +kernel
theorem dX6_note_147 : decode cX6_note 147 = .ok (.iload 5, 2) := by decide +kernel
theorem dX6_note_149 : decode cX6_note 149 = .ok (.ifCond .eq 15, 3) := by decide +kernel
theorem dX6_note_152 : decode cX6_note 152 = .ok (.iload 5, 2) := by decide +kernel
theorem dX6_note_154 : decode cX6_note 154 = .ok (.aload 4, 2) := by decide +kernel
theorem dX6_note_156 : decode cX6_note 156 = .ok (.getfield 172, 3) := by decide +kernel
theorem dX6_note_159 : decode cX6_note 159 = .ok (.iconst 1, 1) := by decide +kernel
theorem dX6_note_160 : decode cX6_note 160 = .ok (.isub, 1) := by decide +kernel
theorem dX6_note_161 : decode cX6_note 161 = .ok (.if_icmp .ne 7, 3) := by decide +kernel
theorem dX6_note_164 : decode cX6_note 164 = .ok (.iconst 1, 1) := by decide +kernel
theorem dX6_note_165 : decode cX6_note 165 = .ok (.goto 4, 3) := by decide +kernel
theorem dX6_note_168 : decode cX6_note 168 = .ok (.iconst 0, 1) := by decide +kernel
theorem dX6_note_169 : decode cX6_note 169 = .ok (.iastore, 1) := by decide +kernel
theorem dX6_note_170 : decode cX6_note 170 = .ok (.return_, 1) := by decide +kernel
theorem dX6_holds_0 : decode cX6_holds 0 = .ok (.iload_n 1, 1) := by decide +kernel
theorem dX6_holds_1 : decode cX6_holds 1 = .ok (.ifCond .ne 7, 3) := by decide +kernel
theorem dX6_holds_4 : decode cX6_holds 4 = .ok (.iconst 0, 1) := by decide +kernel
theorem dX6_holds_5 : decode cX6_holds 5 = .ok (.goto 11, 3) := by decide +kernel
theorem dX6_holds_8 : decode cX6_holds 8 = .ok (.aload_n 0, 1) := by decide +kernel
theorem dX6_holds_9 : decode cX6_holds 9 = .ok (.getfield 18, 3) := by decide +kernel
theorem dX6_holds_12 : decode cX6_holds 12 = .ok (.iload_n 1, 1) := by decide +kernel
theorem dX6_holds_13 : decode cX6_holds 13 = .ok (.iconst 1, 1) := by decide +kernel
theorem dX6_holds_14 : decode cX6_holds 14 = .ok (.isub, 1) := by decide +kernel
theorem dX6_holds_15 : decode cX6_holds 15 = .ok (.iaload, 1) := by decide +kernel
theorem dX6_holds_16 : decode cX6_holds 16 = .ok (.istore_n 2, 1) := by decide +kernel
theorem dX6_holds_17 : decode cX6_holds 17 = .ok (.iconst 0, 1) := by decide +kernel
theorem dX6_holds_18 : decode cX6_holds 18 = .ok (.istore_n 3, 1) := by decide +kernel
theorem dX6_holds_19 : decode cX6_holds 19 = .ok (.iload_n 2, 1) := by decide +kernel
theorem dX6_holds_20 : decode cX6_holds 20 = .ok (.istore 4, 2) := by decide +kernel
theorem dX6_holds_22 : decode cX6_holds 22 = .ok (.iload 4, 2) := by decide +kernel
theorem dX6_holds_24 : decode cX6_holds 24 = .ok (.aload_n 0, 1) := by decide +kernel
theorem dX6_holds_25 : decode cX6_holds 25 = .ok (.getfield 18, 3) := by decide +kernel
theorem dX6_holds_28 : decode cX6_holds 28 = .ok (.iload_n 1, 1) := by decide +kernel
theorem dX6_holds_29 : decode cX6_holds 29 = .ok (.iaload, 1) := by decide +kernel
theorem dX6_holds_30 : decode cX6_holds 30 = .ok (.if_icmp .ge 263, 3) := by decide +kernel
theorem dX6_holds_33 : decode cX6_holds 33 = .ok (.aload_n 0, 1) := by decide +kernel
theorem dX6_holds_34 : decode cX6_holds 34 = .ok (.getfield 21, 3) := by decide +kernel
theorem dX6_holds_37 : decode cX6_holds 37 = .ok (.iload 4, 2) := by decide +kernel
theorem dX6_holds_39 : decode cX6_holds 39 = .ok (.iaload, 1) := by decide +kernel
theorem dX6_holds_40 : decode cX6_holds 40 = .ok (.istore 5, 2) := by decide +kernel
theorem dX6_holds_42 : decode cX6_holds 42 = .ok (.iload 5, 2) := by decide +kernel
theorem dX6_holds_44 : decode cX6_holds 44 = .ok (.bipush (-20), 2) := by decide +kernel
theorem dX6_holds_46 : decode cX6_holds 46 = .ok (.if_icmp .le 54, 3) := by decide +kernel
theorem dX6_holds_49 : decode cX6_holds 49 = .ok (.iload_n 3, 1) := by decide +kernel
theorem dX6_holds_50 : decode cX6_holds 50 = .ok (.aload_n 0, 1) := by decide +kernel
theorem dX6_holds_51 : decode cX6_holds 51 = .ok (.getfield 27, 3) := by decide +kernel
theorem dX6_holds_54 : decode cX6_holds 54 = .ok (.arraylength, 1) := by decide +kernel
theorem dX6_holds_55 : decode cX6_holds 55 = .ok (.if_icmp .ge 12, 3) := by decide +kernel
theorem dX6_holds_58 : decode cX6_holds 58 = .ok (.iconst (-1), 1) := by decide +kernel
theorem dX6_holds_59 : decode cX6_holds 59 = .ok (.iload 5, 2) := by decide +kernel
theorem dX6_holds_61 : decode cX6_holds 61 = .ok (.isub, 1) := by decide +kernel
theorem dX6_holds_62 : decode cX6_holds 62 = .ok (.bipush 11, 2) := by decide +kernel
theorem dX6_holds_64 : decode cX6_holds 64 = .ok (.if_icmp .lt 5, 3) := by decide +kernel
theorem dX6_holds_67 : decode cX6_holds 67 = .ok (.iconst 0, 1) := by decide +kernel
theorem dX6_holds_68 : decode cX6_holds 68 = .ok (.ireturn, 1) := by decide +kernel
theorem dX6_holds_69 : decode cX6_holds 69 = .ok (.aload_n 0, 1) := by decide +kernel
theorem dX6_holds_70 : decode cX6_holds 70 = .ok (.getfield 27, 3) := by decide +kernel
theorem dX6_holds_73 : decode cX6_holds 73 = .ok (.iload_n 3, 1) := by decide +kernel
theorem dX6_holds_74 : decode cX6_holds 74 = .ok (.iload 5, 2) := by decide +kernel
theorem dX6_holds_76 : decode cX6_holds 76 = .ok (.ifCond .lt 8, 3) := by decide +kernel
theorem dX6_holds_79 : decode cX6_holds 79 = .ok (.iload 5, 2) := by decide +kernel
theorem dX6_holds_81 : decode cX6_holds 81 = .ok (.goto 12, 3) := by decide +kernel
theorem dX6_holds_84 : decode cX6_holds 84 = .ok (.aload_n 0, 1) := by decide +kernel
theorem dX6_holds_85 : decode cX6_holds 85 = .ok (.getfield 24, 3) := by decide +kernel
theorem dX6_holds_88 : decode cX6_holds 88 = .ok (.iconst (-1), 1) := by decide +kernel
theorem dX6_holds_89 : decode cX6_holds 89 = .ok (.iload 5, 2) := by decide +kernel
theorem dX6_holds_91 : decode cX6_holds 91 = .ok (.isub, 1) := by decide +kernel
theorem dX6_holds_92 : decode cX6_holds 92 = .ok (.iaload, 1) := by decide +kernel
theorem dX6_holds_93 : decode cX6_holds 93 = .ok (.iastore, 1) := by decide +kernel
theorem dX6_holds_94 : decode cX6_holds 94 = .ok (.iinc 3 1, 3) := by decide +kernel
theorem dX6_holds_97 : decode cX6_holds 97 = .ok (.goto 190, 3) := by decide +kernel
theorem dX6_holds_100 : decode cX6_holds 100 = .ok (.iload 5, 2) := by decide +kernel
theorem dX6_holds_102 : decode cX6_holds 102 = .ok (.bipush (-20), 2) := by decide +kernel
theorem dX6_holds_104 : decode cX6_holds 104 = .ok (.if_icmp .ne 31, 3) := by decide +kernel
theorem dX6_holds_107 : decode cX6_holds 107 = .ok (.iload_n 3, 1) := by decide +kernel
theorem dX6_holds_108 : decode cX6_holds 108 = .ok (.iconst 1, 1) := by decide +kernel
theorem dX6_holds_109 : decode cX6_holds 109 = .ok (.if_icmp .ge 5, 3) := by decide +kernel
theorem dX6_holds_112 : decode cX6_holds 112 = .ok (.iconst 0, 1) := by decide +kernel
theorem dX6_holds_113 : decode cX6_holds 113 = .ok (.ireturn, 1) := by decide +kernel
theorem dX6_holds_114 : decode cX6_holds 114 = .ok (.aload_n 0, 1) := by decide +kernel
theorem dX6_holds_115 : decode cX6_holds 115 = .ok (.getfield 27, 3) := by decide +kernel
theorem dX6_holds_118 : decode cX6_holds 118 = .ok (.iload_n 3, 1) := by decide +kernel
theorem dX6_holds_119 : decode cX6_holds 119 = .ok (.iconst 1, 1) := by decide +kernel
theorem dX6_holds_120 : decode cX6_holds 120 = .ok (.isub, 1) := by decide +kernel
theorem dX6_holds_121 : decode cX6_holds 121 = .ok (.iconst 1, 1) := by decide +kernel
theorem dX6_holds_122 : decode cX6_holds 122 = .ok (.aload_n 0, 1) := by decide +kernel
theorem dX6_holds_123 : decode cX6_holds 123 = .ok (.getfield 27, 3) := by decide +kernel
theorem dX6_holds_126 : decode cX6_holds 126 = .ok (.iload_n 3, 1) := by decide +kernel
theorem dX6_holds_127 : decode cX6_holds 127 = .ok (.iconst 1, 1) := by decide +kernel
theorem dX6_holds_128 : decode cX6_holds 128 = .ok (.isub, 1) := by decide +kernel
theorem dX6_holds_129 : decode cX6_holds 129 = .ok (.iaload, 1) := by decide +kernel
theorem dX6_holds_130 : decode cX6_holds 130 = .ok (.isub, 1) := by decide +kernel
theorem dX6_holds_131 : decode cX6_holds 131 = .ok (.iastore, 1) := by decide +kernel
theorem dX6_holds_132 : decode cX6_holds 132 = .ok (.goto 155, 3) := by decide +kernel
theorem dX6_holds_135 : decode cX6_holds 135 = .ok (.iload_n 3, 1) := by decide +kernel
theorem dX6_holds_136 : decode cX6_holds 136 = .ok (.iconst 2, 1) := by decide +kernel
theorem dX6_holds_137 : decode cX6_holds 137 = .ok (.if_icmp .ge 5, 3) := by decide +kernel
theorem dX6_holds_140 : decode cX6_holds 140 = .ok (.iconst 0, 1) := by decide +kernel
theorem dX6_holds_141 : decode cX6_holds 141 = .ok (.ireturn, 1) := by decide +kernel
theorem dX6_holds_142 : decode cX6_holds 142 = .ok (.iinc 3 (-1), 3) := by decide +kernel
theorem dX6_holds_145 : decode cX6_holds 145 = .ok (.aload_n 0, 1) := by decide +kernel
theorem dX6_holds_146 : decode cX6_holds 146 = .ok (.getfield 27, 3) := by decide +kernel
theorem dX6_holds_149 : decode cX6_holds 149 = .ok (.iload_n 3, 1) := by decide +kernel
theorem dX6_holds_150 : decode cX6_holds 150 = .ok (.iconst 1, 1) := by decide +kernel
theorem dX6_holds_151 : decode cX6_holds 151 = .ok (.isub, 1) := by decide +kernel
theorem dX6_holds_152 : decode cX6_holds 152 = .ok (.iaload, 1) := by decide +kernel
theorem dX6_holds_153 : decode cX6_holds 153 = .ok (.istore 6, 2) := by decide +kernel
theorem dX6_holds_155 : decode cX6_holds 155 = .ok (.aload_n 0, 1) := by decide +kernel
theorem dX6_holds_156 : decode cX6_holds 156 = .ok (.getfield 27, 3) := by decide +kernel
theorem dX6_holds_159 : decode cX6_holds 159 = .ok (.iload_n 3, 1) := by decide +kernel
theorem dX6_holds_160 : decode cX6_holds 160 = .ok (.iaload, 1) := by decide +kernel
theorem dX6_holds_161 : decode cX6_holds 161 = .ok (.istore 7, 2) := by decide +kernel
theorem dX6_holds_163 : decode cX6_holds 163 = .ok (.iload 5, 2) := by decide +kernel
theorem dX6_holds_165 : decode cX6_holds 165 = .ok (.tableswitch 109 (-24) (-21) #[93, 70, 47, 31], 31) := by decide +kernel
theorem dX6_holds_196 : decode cX6_holds 196 = .ok (.aload_n 0, 1) := by decide +kernel
theorem dX6_holds_197 : decode cX6_holds 197 = .ok (.getfield 27, 3) := by decide +kernel
theorem dX6_holds_200 : decode cX6_holds 200 = .ok (.iload_n 3, 1) := by decide +kernel
theorem dX6_holds_201 : decode cX6_holds 201 = .ok (.iconst 1, 1) := by decide +kernel
theorem dX6_holds_202 : decode cX6_holds 202 = .ok (.isub, 1) := by decide +kernel
theorem dX6_holds_203 : decode cX6_holds 203 = .ok (.iload 6, 2) := by decide +kernel
theorem dX6_holds_205 : decode cX6_holds 205 = .ok (.iload 7, 2) := by decide +kernel
theorem dX6_holds_207 : decode cX6_holds 207 = .ok (.iadd, 1) := by decide +kernel
theorem dX6_holds_208 : decode cX6_holds 208 = .ok (.iastore, 1) := by decide +kernel
theorem dX6_holds_209 : decode cX6_holds 209 = .ok (.goto 78, 3) := by decide +kernel
theorem dX6_holds_212 : decode cX6_holds 212 = .ok (.aload_n 0, 1) := by decide +kernel
theorem dX6_holds_213 : decode cX6_holds 213 = .ok (.getfield 27, 3) := by decide +kernel
theorem dX6_holds_216 : decode cX6_holds 216 = .ok (.iload_n 3, 1) := by decide +kernel
theorem dX6_holds_217 : decode cX6_holds 217 = .ok (.iconst 1, 1) := by decide +kernel
theorem dX6_holds_218 : decode cX6_holds 218 = .ok (.isub, 1) := by decide +kernel
theorem dX6_holds_219 : decode cX6_holds 219 = .ok (.iload 6, 2) := by decide +kernel
theorem dX6_holds_221 : decode cX6_holds 221 = .ok (.iload 7, 2) := by decide +kernel
theorem dX6_holds_223 : decode cX6_holds 223 = .ok (.if_icmp .ge 7, 3) := by decide +kernel
theorem dX6_holds_226 : decode cX6_holds 226 = .ok (.iconst 1, 1) := by decide +kernel
theorem dX6_holds_227 : decode cX6_holds 227 = .ok (.goto 4, 3) := by decide +kernel
theorem dX6_holds_230 : decode cX6_holds 230 = .ok (.iconst 0, 1) := by decide +kernel
theorem dX6_holds_231 : decode cX6_holds 231 = .ok (.iastore, 1) := by decide +kernel
theorem dX6_holds_232 : decode cX6_holds 232 = .ok (.goto 55, 3) := by decide +kernel
theorem dX6_holds_235 : decode cX6_holds 235 = .ok (.aload_n 0, 1) := by decide +kernel
theorem dX6_holds_236 : decode cX6_holds 236 = .ok (.getfield 27, 3) := by decide +kernel
theorem dX6_holds_239 : decode cX6_holds 239 = .ok (.iload_n 3, 1) := by decide +kernel
theorem dX6_holds_240 : decode cX6_holds 240 = .ok (.iconst 1, 1) := by decide +kernel
theorem dX6_holds_241 : decode cX6_holds 241 = .ok (.isub, 1) := by decide +kernel
theorem dX6_holds_242 : decode cX6_holds 242 = .ok (.iload 6, 2) := by decide +kernel
theorem dX6_holds_244 : decode cX6_holds 244 = .ok (.iload 7, 2) := by decide +kernel
theorem dX6_holds_246 : decode cX6_holds 246 = .ok (.if_icmp .le 7, 3) := by decide +kernel
theorem dX6_holds_249 : decode cX6_holds 249 = .ok (.iconst 1, 1) := by decide +kernel
theorem dX6_holds_250 : decode cX6_holds 250 = .ok (.goto 4, 3) := by decide +kernel
theorem dX6_holds_253 : decode cX6_holds 253 = .ok (.iconst 0, 1) := by decide +kernel
theorem dX6_holds_254 : decode cX6_holds 254 = .ok (.iastore, 1) := by decide +kernel
theorem dX6_holds_255 : decode cX6_holds 255 = .ok (.goto 32, 3) := by decide +kernel
theorem dX6_holds_258 : decode cX6_holds 258 = .ok (.aload_n 0, 1) := by decide +kernel
theorem dX6_holds_259 : decode cX6_holds 259 = .ok (.getfield 27, 3) := by decide +kernel
theorem dX6_holds_262 : decode cX6_holds 262 = .ok (.iload_n 3, 1) := by decide +kernel
theorem dX6_holds_263 : decode cX6_holds 263 = .ok (.iconst 1, 1) := by decide +kernel
theorem dX6_holds_264 : decode cX6_holds 264 = .ok (.isub, 1) := by decide +kernel
theorem dX6_holds_265 : decode cX6_holds 265 = .ok (.iload 6, 2) := by decide +kernel
theorem dX6_holds_267 : decode cX6_holds 267 = .ok (.iload 7, 2) := by decide +kernel
theorem dX6_holds_269 : decode cX6_holds 269 = .ok (.iand, 1) := by decide +kernel
theorem dX6_holds_270 : decode cX6_holds 270 = .ok (.iastore, 1) := by decide +kernel
theorem dX6_holds_271 : decode cX6_holds 271 = .ok (.goto 16, 3) := by decide +kernel
theorem dX6_holds_274 : decode cX6_holds 274 = .ok (.aload_n 0, 1) := by decide +kernel
theorem dX6_holds_275 : decode cX6_holds 275 = .ok (.getfield 27, 3) := by decide +kernel
theorem dX6_holds_278 : decode cX6_holds 278 = .ok (.iload_n 3, 1) := by decide +kernel
theorem dX6_holds_279 : decode cX6_holds 279 = .ok (.iconst 1, 1) := by decide +kernel
theorem dX6_holds_280 : decode cX6_holds 280 = .ok (.isub, 1) := by decide +kernel
theorem dX6_holds_281 : decode cX6_holds 281 = .ok (.iload 6, 2) := by decide +kernel
theorem dX6_holds_283 : decode cX6_holds 283 = .ok (.iload 7, 2) := by decide +kernel
theorem dX6_holds_285 : decode cX6_holds 285 = .ok (.ior, 1) := by decide +kernel
theorem dX6_holds_286 : decode cX6_holds 286 = .ok (.iastore, 1) := by decide +kernel
theorem dX6_holds_287 : decode cX6_holds 287 = .ok (.iinc 4 1, 3) := by decide +kernel
theorem dX6_holds_290 : decode cX6_holds 290 = .ok (.goto (-268), 3) := by decide +kernel
theorem dX6_holds_293 : decode cX6_holds 293 = .ok (.iload_n 3, 1) := by decide +kernel
theorem dX6_holds_294 : decode cX6_holds 294 = .ok (.ifCond .eq 12, 3) := by decide +kernel
theorem dX6_holds_297 : decode cX6_holds 297 = .ok (.aload_n 0, 1) := by decide +kernel
theorem dX6_holds_298 : decode cX6_holds 298 = .ok (.getfield 27, 3) := by decide +kernel
theorem dX6_holds_301 : decode cX6_holds 301 = .ok (.iconst 0, 1) := by decide +kernel
theorem dX6_holds_302 : decode cX6_holds 302 = .ok (.iaload, 1) := by decide +kernel
theorem dX6_holds_303 : decode cX6_holds 303 = .ok (.ifCond .eq 7, 3) := by decide +kernel
theorem dX6_holds_306 : decode cX6_holds 306 = .ok (.iconst 1, 1) := by decide +kernel
theorem dX6_holds_307 : decode cX6_holds 307 = .ok (.goto 4, 3) := by decide +kernel
theorem dX6_holds_310 : decode cX6_holds 310 = .ok (.iconst 0, 1) := by decide +kernel
theorem dX6_holds_311 : decode cX6_holds 311 = .ok (.ireturn, 1) := by decide +kernel
theorem dX7_init_0 : decode cX7_init 0 = .ok (.aload_n 0, 1) := by decide +kernel
theorem dX7_init_1 : decode cX7_init 1 = .ok (.invokespecial 3, 3) := by decide +kernel
theorem dX7_init_4 : decode cX7_init 4 = .ok (.aload_n 0, 1) := by decide +kernel
theorem dX7_init_5 : decode cX7_init 5 = .ok (.bipush 60, 2) := by decide +kernel
theorem dX7_init_7 : decode cX7_init 7 = .ok (.newarray .long, 2) := by decide +kernel
theorem dX7_init_9 : decode cX7_init 9 = .ok (.putfield 9, 3) := by decide +kernel
theorem dX7_init_12 : decode cX7_init 12 = .ok (.aload_n 0, 1) := by decide +kernel
theorem dX7_init_13 : decode cX7_init 13 = .ok (.iconst 0, 1) := by decide +kernel
theorem dX7_init_14 : decode cX7_init 14 = .ok (.putfield 15, 3) := by decide +kernel
theorem dX7_init_17 : decode cX7_init 17 = .ok (.aload_n 0, 1) := by decide +kernel
theorem dX7_init_18 : decode cX7_init 18 = .ok (.iconst 0, 1) := by decide +kernel
theorem dX7_init_19 : decode cX7_init 19 = .ok (.putfield 19, 3) := by decide +kernel
theorem dX7_init_22 : decode cX7_init 22 = .ok (.return_, 1) := by decide +kernel
theorem dX7_copy_0 : decode cX7_copy 0 = .ok (.aload_n 1, 1) := by decide +kernel
theorem dX7_copy_1 : decode cX7_copy 1 = .ok (.getfield 9, 3) := by decide +kernel
theorem dX7_copy_4 : decode cX7_copy 4 = .ok (.iconst 0, 1) := by decide +kernel
theorem dX7_copy_5 : decode cX7_copy 5 = .ok (.aload_n 0, 1) := by decide +kernel
theorem dX7_copy_6 : decode cX7_copy 6 = .ok (.getfield 9, 3) := by decide +kernel
theorem dX7_copy_9 : decode cX7_copy 9 = .ok (.iconst 0, 1) := by decide +kernel
theorem dX7_copy_10 : decode cX7_copy 10 = .ok (.bipush 60, 2) := by decide +kernel
theorem dX7_copy_12 : decode cX7_copy 12 = .ok (.invokestatic 22, 3) := by decide +kernel
theorem dX7_copy_15 : decode cX7_copy 15 = .ok (.aload_n 0, 1) := by decide +kernel
theorem dX7_copy_16 : decode cX7_copy 16 = .ok (.aload_n 1, 1) := by decide +kernel
theorem dX7_copy_17 : decode cX7_copy 17 = .ok (.getfield 15, 3) := by decide +kernel
theorem dX7_copy_20 : decode cX7_copy 20 = .ok (.putfield 15, 3) := by decide +kernel
theorem dX7_copy_23 : decode cX7_copy 23 = .ok (.aload_n 0, 1) := by decide +kernel
theorem dX7_copy_24 : decode cX7_copy 24 = .ok (.aload_n 1, 1) := by decide +kernel
theorem dX7_copy_25 : decode cX7_copy 25 = .ok (.getfield 19, 3) := by decide +kernel
theorem dX7_copy_28 : decode cX7_copy 28 = .ok (.putfield 19, 3) := by decide +kernel
theorem dX7_copy_31 : decode cX7_copy 31 = .ok (.return_, 1) := by decide +kernel
theorem dX7_add_0 : decode cX7_add 0 = .ok (.iload_n 1, 1) := by decide +kernel
theorem dX7_add_1 : decode cX7_add 1 = .ok (.i2l, 1) := by decide +kernel
theorem dX7_add_2 : decode cX7_add 2 = .ok (.lstore 6, 2) := by decide +kernel
theorem dX7_add_4 : decode cX7_add 4 = .ok (.lload 6, 2) := by decide +kernel
theorem dX7_add_6 : decode cX7_add 6 = .ok (.iconst 4, 1) := by decide +kernel
theorem dX7_add_7 : decode cX7_add 7 = .ok (.lshl, 1) := by decide +kernel
theorem dX7_add_8 : decode cX7_add 8 = .ok (.iload_n 2, 1) := by decide +kernel
theorem dX7_add_9 : decode cX7_add 9 = .ok (.i2l, 1) := by decide +kernel
theorem dX7_add_10 : decode cX7_add 10 = .ok (.lor, 1) := by decide +kernel
theorem dX7_add_11 : decode cX7_add 11 = .ok (.lstore 6, 2) := by decide +kernel
theorem dX7_add_13 : decode cX7_add 13 = .ok (.lload 6, 2) := by decide +kernel
theorem dX7_add_15 : decode cX7_add 15 = .ok (.iconst 4, 1) := by decide +kernel
theorem dX7_add_16 : decode cX7_add 16 = .ok (.lshl, 1) := by decide +kernel
theorem dX7_add_17 : decode cX7_add 17 = .ok (.iload_n 3, 1) := by decide +kernel
theorem dX7_add_18 : decode cX7_add 18 = .ok (.i2l, 1) := by decide +kernel
theorem dX7_add_19 : decode cX7_add 19 = .ok (.lor, 1) := by decide +kernel
theorem dX7_add_20 : decode cX7_add 20 = .ok (.lstore 6, 2) := by decide +kernel
theorem dX7_add_22 : decode cX7_add 22 = .ok (.lload 6, 2) := by decide +kernel
theorem dX7_add_24 : decode cX7_add 24 = .ok (.iconst 4, 1) := by decide +kernel
theorem dX7_add_25 : decode cX7_add 25 = .ok (.lshl, 1) := by decide +kernel
theorem dX7_add_26 : decode cX7_add 26 = .ok (.iload 4, 2) := by decide +kernel
theorem dX7_add_28 : decode cX7_add 28 = .ok (.iconst 1, 1) := by decide +kernel
theorem dX7_add_29 : decode cX7_add 29 = .ok (.iadd, 1) := by decide +kernel
theorem dX7_add_30 : decode cX7_add 30 = .ok (.i2l, 1) := by decide +kernel
theorem dX7_add_31 : decode cX7_add 31 = .ok (.lor, 1) := by decide +kernel
theorem dX7_add_32 : decode cX7_add 32 = .ok (.lstore 6, 2) := by decide +kernel
theorem dX7_add_34 : decode cX7_add 34 = .ok (.aload_n 0, 1) := by decide +kernel
theorem dX7_add_35 : decode cX7_add 35 = .ok (.getfield 9, 3) := by decide +kernel
theorem dX7_add_38 : decode cX7_add 38 = .ok (.aload_n 0, 1) := by decide +kernel
theorem dX7_add_39 : decode cX7_add 39 = .ok (.getfield 19, 3) := by decide +kernel
theorem dX7_add_42 : decode cX7_add 42 = .ok (.lload 6, 2) := by decide +kernel
theorem dX7_add_44 : decode cX7_add 44 = .ok (.bipush 16, 2) := by decide +kernel
theorem dX7_add_46 : decode cX7_add 46 = .ok (.lshl, 1) := by decide +kernel
theorem dX7_add_47 : decode cX7_add 47 = .ok (.iload 5, 2) := by decide +kernel
theorem dX7_add_49 : decode cX7_add 49 = .ok (.i2l, 1) := by decide +kernel
theorem dX7_add_50 : decode cX7_add 50 = .ok (.lor, 1) := by decide +kernel
theorem dX7_add_51 : decode cX7_add 51 = .ok (.lastore, 1) := by decide +kernel
theorem dX7_add_52 : decode cX7_add 52 = .ok (.aload_n 0, 1) := by decide +kernel
theorem dX7_add_53 : decode cX7_add 53 = .ok (.aload_n 0, 1) := by decide +kernel
theorem dX7_add_54 : decode cX7_add 54 = .ok (.getfield 19, 3) := by decide +kernel
theorem dX7_add_57 : decode cX7_add 57 = .ok (.iconst 1, 1) := by decide +kernel
theorem dX7_add_58 : decode cX7_add 58 = .ok (.iadd, 1) := by decide +kernel
theorem dX7_add_59 : decode cX7_add 59 = .ok (.bipush 60, 2) := by decide +kernel
theorem dX7_add_61 : decode cX7_add 61 = .ok (.irem, 1) := by decide +kernel
theorem dX7_add_62 : decode cX7_add 62 = .ok (.putfield 19, 3) := by decide +kernel
theorem dX7_add_65 : decode cX7_add 65 = .ok (.aload_n 0, 1) := by decide +kernel
theorem dX7_add_66 : decode cX7_add 66 = .ok (.bipush 60, 2) := by decide +kernel
theorem dX7_add_68 : decode cX7_add 68 = .ok (.aload_n 0, 1) := by decide +kernel
theorem dX7_add_69 : decode cX7_add 69 = .ok (.getfield 15, 3) := by decide +kernel
theorem dX7_add_72 : decode cX7_add 72 = .ok (.iconst 1, 1) := by decide +kernel
theorem dX7_add_73 : decode cX7_add 73 = .ok (.iadd, 1) := by decide +kernel
theorem dX7_add_74 : decode cX7_add 74 = .ok (.invokestatic 28, 3) := by decide +kernel
theorem dX7_add_77 : decode cX7_add 77 = .ok (.putfield 15, 3) := by decide +kernel
theorem dX7_add_80 : decode cX7_add 80 = .ok (.return_, 1) := by decide +kernel
theorem dX7_read_0 : decode cX7_read 0 = .ok (.iload_n 1, 1) := by decide +kernel
theorem dX7_read_1 : decode cX7_read 1 = .ok (.ifCond .lt 9, 3) := by decide +kernel
theorem dX7_read_4 : decode cX7_read 4 = .ok (.iload_n 1, 1) := by decide +kernel
theorem dX7_read_5 : decode cX7_read 5 = .ok (.bipush 60, 2) := by decide +kernel
theorem dX7_read_7 : decode cX7_read 7 = .ok (.if_icmp .lt 5, 3) := by decide +kernel
theorem dX7_read_10 : decode cX7_read 10 = .ok (.iconst (-1), 1) := by decide +kernel
theorem dX7_read_11 : decode cX7_read 11 = .ok (.ireturn, 1) := by decide +kernel
theorem dX7_read_12 : decode cX7_read 12 = .ok (.aload_n 0, 1) := by decide +kernel
theorem dX7_read_13 : decode cX7_read 13 = .ok (.getfield 9, 3) := by decide +kernel
theorem dX7_read_16 : decode cX7_read 16 = .ok (.aload_n 0, 1) := by decide +kernel
theorem dX7_read_17 : decode cX7_read 17 = .ok (.getfield 19, 3) := by decide +kernel
theorem dX7_read_20 : decode cX7_read 20 = .ok (.bipush 60, 2) := by decide +kernel
theorem dX7_read_22 : decode cX7_read 22 = .ok (.iadd, 1) := by decide +kernel
theorem dX7_read_23 : decode cX7_read 23 = .ok (.iconst 1, 1) := by decide +kernel
theorem dX7_read_24 : decode cX7_read 24 = .ok (.isub, 1) := by decide +kernel
theorem dX7_read_25 : decode cX7_read 25 = .ok (.iload_n 1, 1) := by decide +kernel
theorem dX7_read_26 : decode cX7_read 26 = .ok (.isub, 1) := by decide +kernel
theorem dX7_read_27 : decode cX7_read 27 = .ok (.bipush 60, 2) := by decide +kernel
theorem dX7_read_29 : decode cX7_read 29 = .ok (.irem, 1) := by decide +kernel
theorem dX7_read_30 : decode cX7_read 30 = .ok (.laload, 1) := by decide +kernel
theorem dX7_read_31 : decode cX7_read 31 = .ok (.lstore_n 3, 1) := by decide +kernel
theorem dX7_read_32 : decode cX7_read 32 = .ok (.iload_n 2, 1) := by decide +kernel
theorem dX7_read_33 : decode cX7_read 33 = .ok (.tableswitch 69 0 3 #[31, 37, 47, 57], 31) := by decide +kernel
theorem dX7_read_64 : decode cX7_read 64 = .ok (.lload_n 3, 1) := by decide +kernel
theorem dX7_read_65 : decode cX7_read 65 = .ok (.bipush 28, 2) := by decide +kernel
theorem dX7_read_67 : decode cX7_read 67 = .ok (.lshr, 1) := by decide +kernel
theorem dX7_read_68 : decode cX7_read 68 = .ok (.l2i, 1) := by decide +kernel
theorem dX7_read_69 : decode cX7_read 69 = .ok (.ireturn, 1) := by decide +kernel
theorem dX7_read_70 : decode cX7_read 70 = .ok (.lload_n 3, 1) := by decide +kernel
theorem dX7_read_71 : decode cX7_read 71 = .ok (.bipush 24, 2) := by decide +kernel
theorem dX7_read_73 : decode cX7_read 73 = .ok (.lshr, 1) := by decide +kernel
theorem dX7_read_74 : decode cX7_read 74 = .ok (.ldc2_w 34, 3) := by decide +kernel
theorem dX7_read_77 : decode cX7_read 77 = .ok (.land, 1) := by decide +kernel
theorem dX7_read_78 : decode cX7_read 78 = .ok (.l2i, 1) := by decide +kernel
theorem dX7_read_79 : decode cX7_read 79 = .ok (.ireturn, 1) := by decide +kernel
theorem dX7_read_80 : decode cX7_read 80 = .ok (.lload_n 3, 1) := by decide +kernel
theorem dX7_read_81 : decode cX7_read 81 = .ok (.bipush 20, 2) := by decide +kernel
theorem dX7_read_83 : decode cX7_read 83 = .ok (.lshr, 1) := by decide +kernel
theorem dX7_read_84 : decode cX7_read 84 = .ok (.ldc2_w 34, 3) := by decide +kernel
theorem dX7_read_87 : decode cX7_read 87 = .ok (.land, 1) := by decide +kernel
theorem dX7_read_88 : decode cX7_read 88 = .ok (.l2i, 1) := by decide +kernel
theorem dX7_read_89 : decode cX7_read 89 = .ok (.ireturn, 1) := by decide +kernel
theorem dX7_read_90 : decode cX7_read 90 = .ok (.lload_n 3, 1) := by decide +kernel
theorem dX7_read_91 : decode cX7_read 91 = .ok (.bipush 16, 2) := by decide +kernel
theorem dX7_read_93 : decode cX7_read 93 = .ok (.lshr, 1) := by decide +kernel
theorem dX7_read_94 : decode cX7_read 94 = .ok (.ldc2_w 34, 3) := by decide +kernel
theorem dX7_read_97 : decode cX7_read 97 = .ok (.land, 1) := by decide +kernel
theorem dX7_read_98 : decode cX7_read 98 = .ok (.l2i, 1) := by decide +kernel
theorem dX7_read_99 : decode cX7_read 99 = .ok (.iconst 1, 1) := by decide +kernel
theorem dX7_read_100 : decode cX7_read 100 = .ok (.isub, 1) := by decide +kernel
theorem dX7_read_101 : decode cX7_read 101 = .ok (.ireturn, 1) := by decide +kernel
theorem dX7_read_102 : decode cX7_read 102 = .ok (.lload_n 3, 1) := by decide +kernel
theorem dX7_read_103 : decode cX7_read 103 = .ok (.ldc2_w 36, 3) := by decide +kernel
theorem dX7_read_106 : decode cX7_read 106 = .ok (.land, 1) := by decide +kernel
theorem dX7_read_107 : decode cX7_read 107 = .ok (.l2i, 1) := by decide +kernel
theorem dX7_read_108 : decode cX7_read 108 = .ok (.ireturn, 1) := by decide +kernel
theorem dX8_init_0 : decode cX8_init 0 = .ok (.aload_n 0, 1) := by decide +kernel
theorem dX8_init_1 : decode cX8_init 1 = .ok (.invokespecial 3, 3) := by decide +kernel
theorem dX8_init_4 : decode cX8_init 4 = .ok (.aload_n 0, 1) := by decide +kernel
theorem dX8_init_5 : decode cX8_init 5 = .ok (.iconst 5, 1) := by decide +kernel
theorem dX8_init_6 : decode cX8_init 6 = .ok (.newarray .int, 2) := by decide +kernel
theorem dX8_init_8 : decode cX8_init 8 = .ok (.putfield 9, 3) := by decide +kernel
theorem dX8_init_11 : decode cX8_init 11 = .ok (.aload_n 0, 1) := by decide +kernel
theorem dX8_init_12 : decode cX8_init 12 = .ok (.iconst 5, 1) := by decide +kernel
theorem dX8_init_13 : decode cX8_init 13 = .ok (.newarray .int, 2) := by decide +kernel
theorem dX8_init_15 : decode cX8_init 15 = .ok (.putfield 15, 3) := by decide +kernel
theorem dX8_init_18 : decode cX8_init 18 = .ok (.aload_n 0, 1) := by decide +kernel
theorem dX8_init_19 : decode cX8_init 19 = .ok (.iconst 5, 1) := by decide +kernel
theorem dX8_init_20 : decode cX8_init 20 = .ok (.newarray .int, 2) := by decide +kernel
theorem dX8_init_22 : decode cX8_init 22 = .ok (.putfield 18, 3) := by decide +kernel
theorem dX8_init_25 : decode cX8_init 25 = .ok (.aload_n 0, 1) := by decide +kernel
theorem dX8_init_26 : decode cX8_init 26 = .ok (.iconst 5, 1) := by decide +kernel
theorem dX8_init_27 : decode cX8_init 27 = .ok (.newarray .int, 2) := by decide +kernel
theorem dX8_init_29 : decode cX8_init 29 = .ok (.putfield 21, 3) := by decide +kernel
theorem dX8_init_32 : decode cX8_init 32 = .ok (.aload_n 0, 1) := by decide +kernel
theorem dX8_init_33 : decode cX8_init 33 = .ok (.iconst 5, 1) := by decide +kernel
theorem dX8_init_34 : decode cX8_init 34 = .ok (.newarray .int, 2) := by decide +kernel
theorem dX8_init_36 : decode cX8_init 36 = .ok (.putfield 24, 3) := by decide +kernel
theorem dX8_init_39 : decode cX8_init 39 = .ok (.aload_n 0, 1) := by decide +kernel
theorem dX8_init_40 : decode cX8_init 40 = .ok (.iconst 5, 1) := by decide +kernel
theorem dX8_init_41 : decode cX8_init 41 = .ok (.newarray .int, 2) := by decide +kernel
theorem dX8_init_43 : decode cX8_init 43 = .ok (.putfield 27, 3) := by decide +kernel
theorem dX8_init_46 : decode cX8_init 46 = .ok (.aload_n 0, 1) := by decide +kernel
theorem dX8_init_47 : decode cX8_init 47 = .ok (.iconst 0, 1) := by decide +kernel
theorem dX8_init_48 : decode cX8_init 48 = .ok (.putfield 30, 3) := by decide +kernel
theorem dX8_init_51 : decode cX8_init 51 = .ok (.return_, 1) := by decide +kernel
theorem dX8_copy_0 : decode cX8_copy 0 = .ok (.aload_n 1, 1) := by decide +kernel
theorem dX8_copy_1 : decode cX8_copy 1 = .ok (.getfield 9, 3) := by decide +kernel
theorem dX8_copy_4 : decode cX8_copy 4 = .ok (.iconst 0, 1) := by decide +kernel
theorem dX8_copy_5 : decode cX8_copy 5 = .ok (.aload_n 0, 1) := by decide +kernel
theorem dX8_copy_6 : decode cX8_copy 6 = .ok (.getfield 9, 3) := by decide +kernel
theorem dX8_copy_9 : decode cX8_copy 9 = .ok (.iconst 0, 1) := by decide +kernel
theorem dX8_copy_10 : decode cX8_copy 10 = .ok (.iconst 5, 1) := by decide +kernel
theorem dX8_copy_11 : decode cX8_copy 11 = .ok (.invokestatic 34, 3) := by decide +kernel
theorem dX8_copy_14 : decode cX8_copy 14 = .ok (.aload_n 1, 1) := by decide +kernel
theorem dX8_copy_15 : decode cX8_copy 15 = .ok (.getfield 15, 3) := by decide +kernel
theorem dX8_copy_18 : decode cX8_copy 18 = .ok (.iconst 0, 1) := by decide +kernel
theorem dX8_copy_19 : decode cX8_copy 19 = .ok (.aload_n 0, 1) := by decide +kernel
theorem dX8_copy_20 : decode cX8_copy 20 = .ok (.getfield 15, 3) := by decide +kernel
theorem dX8_copy_23 : decode cX8_copy 23 = .ok (.iconst 0, 1) := by decide +kernel
theorem dX8_copy_24 : decode cX8_copy 24 = .ok (.iconst 5, 1) := by decide +kernel
theorem dX8_copy_25 : decode cX8_copy 25 = .ok (.invokestatic 34, 3) := by decide +kernel
theorem dX8_copy_28 : decode cX8_copy 28 = .ok (.aload_n 1, 1) := by decide +kernel
theorem dX8_copy_29 : decode cX8_copy 29 = .ok (.getfield 18, 3) := by decide +kernel
theorem dX8_copy_32 : decode cX8_copy 32 = .ok (.iconst 0, 1) := by decide +kernel
theorem dX8_copy_33 : decode cX8_copy 33 = .ok (.aload_n 0, 1) := by decide +kernel
theorem dX8_copy_34 : decode cX8_copy 34 = .ok (.getfield 18, 3) := by decide +kernel
theorem dX8_copy_37 : decode cX8_copy 37 = .ok (.iconst 0, 1) := by decide +kernel
theorem dX8_copy_38 : decode cX8_copy 38 = .ok (.iconst 5, 1) := by decide +kernel
theorem dX8_copy_39 : decode cX8_copy 39 = .ok (.invokestatic 34, 3) := by decide +kernel
theorem dX8_copy_42 : decode cX8_copy 42 = .ok (.aload_n 1, 1) := by decide +kernel
theorem dX8_copy_43 : decode cX8_copy 43 = .ok (.getfield 21, 3) := by decide +kernel
theorem dX8_copy_46 : decode cX8_copy 46 = .ok (.iconst 0, 1) := by decide +kernel
theorem dX8_copy_47 : decode cX8_copy 47 = .ok (.aload_n 0, 1) := by decide +kernel
theorem dX8_copy_48 : decode cX8_copy 48 = .ok (.getfield 21, 3) := by decide +kernel
theorem dX8_copy_51 : decode cX8_copy 51 = .ok (.iconst 0, 1) := by decide +kernel
theorem dX8_copy_52 : decode cX8_copy 52 = .ok (.iconst 5, 1) := by decide +kernel
theorem dX8_copy_53 : decode cX8_copy 53 = .ok (.invokestatic 34, 3) := by decide +kernel
theorem dX8_copy_56 : decode cX8_copy 56 = .ok (.aload_n 1, 1) := by decide +kernel
theorem dX8_copy_57 : decode cX8_copy 57 = .ok (.getfield 24, 3) := by decide +kernel
theorem dX8_copy_60 : decode cX8_copy 60 = .ok (.iconst 0, 1) := by decide +kernel
theorem dX8_copy_61 : decode cX8_copy 61 = .ok (.aload_n 0, 1) := by decide +kernel
theorem dX8_copy_62 : decode cX8_copy 62 = .ok (.getfield 24, 3) := by decide +kernel
theorem dX8_copy_65 : decode cX8_copy 65 = .ok (.iconst 0, 1) := by decide +kernel
theorem dX8_copy_66 : decode cX8_copy 66 = .ok (.iconst 5, 1) := by decide +kernel
theorem dX8_copy_67 : decode cX8_copy 67 = .ok (.invokestatic 34, 3) := by decide +kernel
theorem dX8_copy_70 : decode cX8_copy 70 = .ok (.aload_n 1, 1) := by decide +kernel
theorem dX8_copy_71 : decode cX8_copy 71 = .ok (.getfield 27, 3) := by decide +kernel
theorem dX8_copy_74 : decode cX8_copy 74 = .ok (.iconst 0, 1) := by decide +kernel
theorem dX8_copy_75 : decode cX8_copy 75 = .ok (.aload_n 0, 1) := by decide +kernel
theorem dX8_copy_76 : decode cX8_copy 76 = .ok (.getfield 27, 3) := by decide +kernel
theorem dX8_copy_79 : decode cX8_copy 79 = .ok (.iconst 0, 1) := by decide +kernel
theorem dX8_copy_80 : decode cX8_copy 80 = .ok (.iconst 5, 1) := by decide +kernel
theorem dX8_copy_81 : decode cX8_copy 81 = .ok (.invokestatic 34, 3) := by decide +kernel
theorem dX8_copy_84 : decode cX8_copy 84 = .ok (.aload_n 0, 1) := by decide +kernel
theorem dX8_copy_85 : decode cX8_copy 85 = .ok (.aload_n 1, 1) := by decide +kernel
theorem dX8_copy_86 : decode cX8_copy 86 = .ok (.getfield 30, 3) := by decide +kernel
theorem dX8_copy_89 : decode cX8_copy 89 = .ok (.putfield 30, 3) := by decide +kernel
theorem dX8_copy_92 : decode cX8_copy 92 = .ok (.return_, 1) := by decide +kernel
theorem dX8_swap_0 : decode cX8_swap 0 = .ok (.aload_n 0, 1) := by decide +kernel
theorem dX8_swap_1 : decode cX8_swap 1 = .ok (.getfield 24, 3) := by decide +kernel
theorem dX8_swap_4 : decode cX8_swap 4 = .ok (.iload_n 1, 1) := by decide +kernel
theorem dX8_swap_5 : decode cX8_swap 5 = .ok (.iaload, 1) := by decide +kernel
theorem dX8_swap_6 : decode cX8_swap 6 = .ok (.istore_n 3, 1) := by decide +kernel
theorem dX8_swap_7 : decode cX8_swap 7 = .ok (.aload_n 0, 1) := by decide +kernel
theorem dX8_swap_8 : decode cX8_swap 8 = .ok (.getfield 24, 3) := by decide +kernel
theorem dX8_swap_11 : decode cX8_swap 11 = .ok (.iload_n 1, 1) := by decide +kernel
theorem dX8_swap_12 : decode cX8_swap 12 = .ok (.aload_n 0, 1) := by decide +kernel
theorem dX8_swap_13 : decode cX8_swap 13 = .ok (.getfield 24, 3) := by decide +kernel
theorem dX8_swap_16 : decode cX8_swap 16 = .ok (.iload_n 2, 1) := by decide +kernel
theorem dX8_swap_17 : decode cX8_swap 17 = .ok (.iaload, 1) := by decide +kernel
theorem dX8_swap_18 : decode cX8_swap 18 = .ok (.iastore, 1) := by decide +kernel
theorem dX8_swap_19 : decode cX8_swap 19 = .ok (.aload_n 0, 1) := by decide +kernel
theorem dX8_swap_20 : decode cX8_swap 20 = .ok (.getfield 24, 3) := by decide +kernel
theorem dX8_swap_23 : decode cX8_swap 23 = .ok (.iload_n 2, 1) := by decide +kernel
theorem dX8_swap_24 : decode cX8_swap 24 = .ok (.iload_n 3, 1) := by decide +kernel
theorem dX8_swap_25 : decode cX8_swap 25 = .ok (.iastore, 1) := by decide +kernel
theorem dX8_swap_26 : decode cX8_swap 26 = .ok (.aload_n 0, 1) := by decide +kernel
theorem dX8_swap_27 : decode cX8_swap 27 = .ok (.getfield 27, 3) := by decide +kernel
theorem dX8_swap_30 : decode cX8_swap 30 = .ok (.aload_n 0, 1) := by decide +kernel
theorem dX8_swap_31 : decode cX8_swap 31 = .ok (.getfield 24, 3) := by decide +kernel
theorem dX8_swap_34 : decode cX8_swap 34 = .ok (.iload_n 1, 1) := by decide +kernel
theorem dX8_swap_35 : decode cX8_swap 35 = .ok (.iaload, 1) := by decide +kernel
theorem dX8_swap_36 : decode cX8_swap 36 = .ok (.iload_n 1, 1) := by decide +kernel
theorem dX8_swap_37 : decode cX8_swap 37 = .ok (.iastore, 1) := by decide +kernel
theorem dX8_swap_38 : decode cX8_swap 38 = .ok (.aload_n 0, 1) := by decide +kernel
theorem dX8_swap_39 : decode cX8_swap 39 = .ok (.getfield 27, 3) := by decide +kernel
theorem dX8_swap_42 : decode cX8_swap 42 = .ok (.aload_n 0, 1) := by decide +kernel
theorem dX8_swap_43 : decode cX8_swap 43 = .ok (.getfield 24, 3) := by decide +kernel
theorem dX8_swap_46 : decode cX8_swap 46 = .ok (.iload_n 2, 1) := by decide +kernel
theorem dX8_swap_47 : decode cX8_swap 47 = .ok (.iaload, 1) := by decide +kernel
theorem dX8_swap_48 : decode cX8_swap 48 = .ok (.iload_n 2, 1) := by decide +kernel
theorem dX8_swap_49 : decode cX8_swap 49 = .ok (.iastore, 1) := by decide +kernel
theorem dX8_swap_50 : decode cX8_swap 50 = .ok (.return_, 1) := by decide +kernel
theorem dX8_darken_0 : decode cX8_darken 0 = .ok (.aload_n 0, 1) := by decide +kernel
theorem dX8_darken_1 : decode cX8_darken 1 = .ok (.getfield 21, 3) := by decide +kernel
theorem dX8_darken_4 : decode cX8_darken 4 = .ok (.iload_n 1, 1) := by decide +kernel
theorem dX8_darken_5 : decode cX8_darken 5 = .ok (.bipush 99, 2) := by decide +kernel
theorem dX8_darken_7 : decode cX8_darken 7 = .ok (.aload_n 0, 1) := by decide +kernel
theorem dX8_darken_8 : decode cX8_darken 8 = .ok (.getfield 21, 3) := by decide +kernel
theorem dX8_darken_11 : decode cX8_darken 11 = .ok (.iload_n 1, 1) := by decide +kernel
theorem dX8_darken_12 : decode cX8_darken 12 = .ok (.iaload, 1) := by decide +kernel
theorem dX8_darken_13 : decode cX8_darken 13 = .ok (.iload_n 2, 1) := by decide +kernel
theorem dX8_darken_14 : decode cX8_darken 14 = .ok (.iadd, 1) := by decide +kernel
theorem dX8_darken_15 : decode cX8_darken 15 = .ok (.invokestatic 40, 3) := by decide +kernel
theorem dX8_darken_18 : decode cX8_darken 18 = .ok (.iastore, 1) := by decide +kernel
theorem dX8_darken_19 : decode cX8_darken 19 = .ok (.return_, 1) := by decide +kernel
theorem dX8_allShades_0 : decode cX8_allShades 0 = .ok (.iconst 0, 1) := by decide +kernel
theorem dX8_allShades_1 : decode cX8_allShades 1 = .ok (.istore_n 1, 1) := by decide +kernel
theorem dX8_allShades_2 : decode cX8_allShades 2 = .ok (.iconst 0, 1) := by decide +kernel
theorem dX8_allShades_3 : decode cX8_allShades 3 = .ok (.istore_n 2, 1) := by decide +kernel
theorem dX8_allShades_4 : decode cX8_allShades 4 = .ok (.iload_n 2, 1) := by decide +kernel
theorem dX8_allShades_5 : decode cX8_allShades 5 = .ok (.aload_n 0, 1) := by decide +kernel
theorem dX8_allShades_6 : decode cX8_allShades 6 = .ok (.getfield 30, 3) := by decide +kernel
theorem dX8_allShades_9 : decode cX8_allShades 9 = .ok (.if_icmp .ge 18, 3) := by decide +kernel
theorem dX8_allShades_12 : decode cX8_allShades 12 = .ok (.iload_n 1, 1) := by decide +kernel
theorem dX8_allShades_13 : decode cX8_allShades 13 = .ok (.aload_n 0, 1) := by decide +kernel
theorem dX8_allShades_14 : decode cX8_allShades 14 = .ok (.getfield 21, 3) := by decide +kernel
theorem dX8_allShades_17 : decode cX8_allShades 17 = .ok (.iload_n 2, 1) := by decide +kernel
theorem dX8_allShades_18 : decode cX8_allShades 18 = .ok (.iaload, 1) := by decide +kernel
theorem dX8_allShades_19 : decode cX8_allShades 19 = .ok (.iadd, 1) := by decide +kernel
theorem dX8_allShades_20 : decode cX8_allShades 20 = .ok (.istore_n 1, 1) := by decide +kernel
theorem dX8_allShades_21 : decode cX8_allShades 21 = .ok (.iinc 2 1, 3) := by decide +kernel
theorem dX8_allShades_24 : decode cX8_allShades 24 = .ok (.goto (-20), 3) := by decide +kernel
theorem dX8_allShades_27 : decode cX8_allShades 27 = .ok (.iload_n 1, 1) := by decide +kernel
theorem dX8_allShades_28 : decode cX8_allShades 28 = .ok (.ireturn, 1) := by decide +kernel
theorem dX8_redOnes_0 : decode cX8_redOnes 0 = .ok (.iconst 0, 1) := by decide +kernel
theorem dX8_redOnes_1 : decode cX8_redOnes 1 = .ok (.istore_n 1, 1) := by decide +kernel
theorem dX8_redOnes_2 : decode cX8_redOnes 2 = .ok (.iconst 0, 1) := by decide +kernel
theorem dX8_redOnes_3 : decode cX8_redOnes 3 = .ok (.istore_n 2, 1) := by decide +kernel
theorem dX8_redOnes_4 : decode cX8_redOnes 4 = .ok (.iload_n 2, 1) := by decide +kernel
theorem dX8_redOnes_5 : decode cX8_redOnes 5 = .ok (.aload_n 0, 1) := by decide +kernel
theorem dX8_redOnes_6 : decode cX8_redOnes 6 = .ok (.getfield 30, 3) := by decide +kernel
theorem dX8_redOnes_9 : decode cX8_redOnes 9 = .ok (.if_icmp .ge 26, 3) := by decide +kernel
theorem dX8_redOnes_12 : decode cX8_redOnes 12 = .ok (.aload_n 0, 1) := by decide +kernel
theorem dX8_redOnes_13 : decode cX8_redOnes 13 = .ok (.getfield 21, 3) := by decide +kernel
theorem dX8_redOnes_16 : decode cX8_redOnes 16 = .ok (.iload_n 2, 1) := by decide +kernel
theorem dX8_redOnes_17 : decode cX8_redOnes 17 = .ok (.iaload, 1) := by decide +kernel
theorem dX8_redOnes_18 : decode cX8_redOnes 18 = .ok (.bipush 50, 2) := by decide +kernel
theorem dX8_redOnes_20 : decode cX8_redOnes 20 = .ok (.if_icmp .lt 9, 3) := by decide +kernel
theorem dX8_redOnes_23 : decode cX8_redOnes 23 = .ok (.iload_n 1, 1) := by decide +kernel
theorem dX8_redOnes_24 : decode cX8_redOnes 24 = .ok (.iconst 1, 1) := by decide +kernel
theorem dX8_redOnes_25 : decode cX8_redOnes 25 = .ok (.iload_n 2, 1) := by decide +kernel
theorem dX8_redOnes_26 : decode cX8_redOnes 26 = .ok (.ishl, 1) := by decide +kernel
theorem dX8_redOnes_27 : decode cX8_redOnes 27 = .ok (.ior, 1) := by decide +kernel
theorem dX8_redOnes_28 : decode cX8_redOnes 28 = .ok (.istore_n 1, 1) := by decide +kernel
theorem dX8_redOnes_29 : decode cX8_redOnes 29 = .ok (.iinc 2 1, 3) := by decide +kernel
theorem dX8_redOnes_32 : decode cX8_redOnes 32 = .ok (.goto (-28), 3) := by decide +kernel
theorem dX8_redOnes_35 : decode cX8_redOnes 35 = .ok (.iload_n 1, 1) := by decide +kernel
theorem dX8_redOnes_36 : decode cX8_redOnes 36 = .ok (.ireturn, 1) := by decide +kernel
theorem dX9_init_0 : decode cX9_init 0 = .ok (.aload_n 0, 1) := by decide +kernel
theorem dX9_init_1 : decode cX9_init 1 = .ok (.invokespecial 3, 3) := by decide +kernel
theorem dX9_init_4 : decode cX9_init 4 = .ok (.aload_n 0, 1) := by decide +kernel
theorem dX9_init_5 : decode cX9_init 5 = .ok (.sipush 400, 3) := by decide +kernel
theorem dX9_init_8 : decode cX9_init 8 = .ok (.newarray .int, 2) := by decide +kernel
theorem dX9_init_10 : decode cX9_init 10 = .ok (.putfield 9, 3) := by decide +kernel
theorem dX9_init_13 : decode cX9_init 13 = .ok (.aload_n 0, 1) := by decide +kernel
theorem dX9_init_14 : decode cX9_init 14 = .ok (.iconst 0, 1) := by decide +kernel
theorem dX9_init_15 : decode cX9_init 15 = .ok (.putfield 15, 3) := by decide +kernel
theorem dX9_init_18 : decode cX9_init 18 = .ok (.aload_n 0, 1) := by decide +kernel
theorem dX9_init_19 : decode cX9_init 19 = .ok (.iconst 0, 1) := by decide +kernel
theorem dX9_init_20 : decode cX9_init 20 = .ok (.putfield 19, 3) := by decide +kernel
theorem dX9_init_23 : decode cX9_init 23 = .ok (.aload_n 0, 1) := by decide +kernel
theorem dX9_init_24 : decode cX9_init 24 = .ok (.iconst 0, 1) := by decide +kernel
theorem dX9_init_25 : decode cX9_init 25 = .ok (.putfield 22, 3) := by decide +kernel
theorem dX9_init_28 : decode cX9_init 28 = .ok (.aload_n 0, 1) := by decide +kernel
theorem dX9_init_29 : decode cX9_init 29 = .ok (.iconst 0, 1) := by decide +kernel
theorem dX9_init_30 : decode cX9_init 30 = .ok (.putfield 25, 3) := by decide +kernel
theorem dX9_init_33 : decode cX9_init 33 = .ok (.return_, 1) := by decide +kernel
theorem dX9_add_0 : decode cX9_add 0 = .ok (.bipush 24, 2) := by decide +kernel
theorem dX9_add_2 : decode cX9_add 2 = .ok (.istore_n 2, 1) := by decide +kernel
theorem dX9_add_3 : decode cX9_add 3 = .ok (.iload_n 2, 1) := by decide +kernel
theorem dX9_add_4 : decode cX9_add 4 = .ok (.ifCond .lt 45, 3) := by decide +kernel
theorem dX9_add_7 : decode cX9_add 7 = .ok (.aload_n 0, 1) := by decide +kernel
theorem dX9_add_8 : decode cX9_add 8 = .ok (.getfield 15, 3) := by decide +kernel
theorem dX9_add_11 : decode cX9_add 11 = .ok (.sipush 400, 3) := by decide +kernel
theorem dX9_add_14 : decode cX9_add 14 = .ok (.if_icmp .ge 35, 3) := by decide +kernel
theorem dX9_add_17 : decode cX9_add 17 = .ok (.aload_n 0, 1) := by decide +kernel
theorem dX9_add_18 : decode cX9_add 18 = .ok (.getfield 9, 3) := by decide +kernel
theorem dX9_add_21 : decode cX9_add 21 = .ok (.aload_n 0, 1) := by decide +kernel
theorem dX9_add_22 : decode cX9_add 22 = .ok (.getfield 15, 3) := by decide +kernel
theorem dX9_add_25 : decode cX9_add 25 = .ok (.iload_n 1, 1) := by decide +kernel
theorem dX9_add_26 : decode cX9_add 26 = .ok (.iload_n 2, 1) := by decide +kernel
theorem dX9_add_27 : decode cX9_add 27 = .ok (.iushr, 1) := by decide +kernel
theorem dX9_add_28 : decode cX9_add 28 = .ok (.sipush 255, 3) := by decide +kernel
theorem dX9_add_31 : decode cX9_add 31 = .ok (.iand, 1) := by decide +kernel
theorem dX9_add_32 : decode cX9_add 32 = .ok (.iastore, 1) := by decide +kernel
theorem dX9_add_33 : decode cX9_add 33 = .ok (.aload_n 0, 1) := by decide +kernel
theorem dX9_add_34 : decode cX9_add 34 = .ok (.dup, 1) := by decide +kernel
theorem dX9_add_35 : decode cX9_add 35 = .ok (.getfield 15, 3) := by decide +kernel
theorem dX9_add_38 : decode cX9_add 38 = .ok (.iconst 1, 1) := by decide +kernel
theorem dX9_add_39 : decode cX9_add 39 = .ok (.iadd, 1) := by decide +kernel
theorem dX9_add_40 : decode cX9_add 40 = .ok (.putfield 15, 3) := by decide +kernel
theorem dX9_add_43 : decode cX9_add 43 = .ok (.iinc 2 (-8), 3) := by decide +kernel
theorem dX9_add_46 : decode cX9_add 46 = .ok (.goto (-43), 3) := by decide +kernel
theorem dX9_add_49 : decode cX9_add 49 = .ok (.return_, 1) := by decide +kernel
theorem dX9_useUp_0 : decode cX9_useUp 0 = .ok (.aload_n 0, 1) := by decide +kernel
theorem dX9_useUp_1 : decode cX9_useUp 1 = .ok (.getfield 15, 3) := by decide +kernel
theorem dX9_useUp_4 : decode cX9_useUp 4 = .ok (.istore_n 1, 1) := by decide +kernel
theorem dX9_useUp_5 : decode cX9_useUp 5 = .ok (.aload_n 0, 1) := by decide +kernel
theorem dX9_useUp_6 : decode cX9_useUp 6 = .ok (.iconst 0, 1) := by decide +kernel
theorem dX9_useUp_7 : decode cX9_useUp 7 = .ok (.putfield 15, 3) := by decide +kernel
theorem dX9_useUp_10 : decode cX9_useUp 10 = .ok (.iload_n 1, 1) := by decide +kernel
theorem dX9_useUp_11 : decode cX9_useUp 11 = .ok (.ireturn, 1) := by decide +kernel
theorem dX9_told_0 : decode cX9_told 0 = .ok (.iconst 3, 1) := by decide +kernel
theorem dX9_told_1 : decode cX9_told 1 = .ok (.iload_n 1, 1) := by decide +kernel
theorem dX9_told_2 : decode cX9_told 2 = .ok (.imul, 1) := by decide +kernel
theorem dX9_told_3 : decode cX9_told 3 = .ok (.iload_n 2, 1) := by decide +kernel
theorem dX9_told_4 : decode cX9_told 4 = .ok (.iadd, 1) := by decide +kernel
theorem dX9_told_5 : decode cX9_told 5 = .ok (.istore_n 3, 1) := by decide +kernel
theorem dX9_told_6 : decode cX9_told 6 = .ok (.iload_n 3, 1) := by decide +kernel
theorem dX9_told_7 : decode cX9_told 7 = .ok (.ifCond .lt 10, 3) := by decide +kernel
theorem dX9_told_10 : decode cX9_told 10 = .ok (.iload_n 3, 1) := by decide +kernel
theorem dX9_told_11 : decode cX9_told 11 = .ok (.sipush 400, 3) := by decide +kernel
theorem dX9_told_14 : decode cX9_told 14 = .ok (.if_icmp .lt 7, 3) := by decide +kernel
theorem dX9_told_17 : decode cX9_told 17 = .ok (.iconst 0, 1) := by decide +kernel
theorem dX9_told_18 : decode cX9_told 18 = .ok (.goto 9, 3) := by decide +kernel
theorem dX9_told_21 : decode cX9_told 21 = .ok (.aload_n 0, 1) := by decide +kernel
theorem dX9_told_22 : decode cX9_told 22 = .ok (.getfield 9, 3) := by decide +kernel
theorem dX9_told_25 : decode cX9_told 25 = .ok (.iload_n 3, 1) := by decide +kernel
theorem dX9_told_26 : decode cX9_told 26 = .ok (.iaload, 1) := by decide +kernel
theorem dX9_told_27 : decode cX9_told 27 = .ok (.ireturn, 1) := by decide +kernel
theorem dX9_open_0 : decode cX9_open 0 = .ok (.aload_n 0, 1) := by decide +kernel
theorem dX9_open_1 : decode cX9_open 1 = .ok (.iconst 0, 1) := by decide +kernel
theorem dX9_open_2 : decode cX9_open 2 = .ok (.putfield 25, 3) := by decide +kernel
theorem dX9_open_5 : decode cX9_open 5 = .ok (.aload_n 0, 1) := by decide +kernel
theorem dX9_open_6 : decode cX9_open 6 = .ok (.invokevirtual 28, 3) := by decide +kernel
theorem dX9_open_9 : decode cX9_open 9 = .ok (.return_, 1) := by decide +kernel
theorem dX9_advance_0 : decode cX9_advance 0 = .ok (.aload_n 0, 1) := by decide +kernel
theorem dX9_advance_1 : decode cX9_advance 1 = .ok (.aload_n 0, 1) := by decide +kernel
theorem dX9_advance_2 : decode cX9_advance 2 = .ok (.getfield 25, 3) := by decide +kernel
theorem dX9_advance_5 : decode cX9_advance 5 = .ok (.putfield 22, 3) := by decide +kernel
theorem dX9_advance_8 : decode cX9_advance 8 = .ok (.aload_n 0, 1) := by decide +kernel
theorem dX9_advance_9 : decode cX9_advance 9 = .ok (.getfield 22, 3) := by decide +kernel
theorem dX9_advance_12 : decode cX9_advance 12 = .ok (.aload_n 0, 1) := by decide +kernel
theorem dX9_advance_13 : decode cX9_advance 13 = .ok (.getfield 15, 3) := by decide +kernel
theorem dX9_advance_16 : decode cX9_advance 16 = .ok (.if_icmp .ge 30, 3) := by decide +kernel
theorem dX9_advance_19 : decode cX9_advance 19 = .ok (.aload_n 0, 1) := by decide +kernel
theorem dX9_advance_20 : decode cX9_advance 20 = .ok (.getfield 9, 3) := by decide +kernel
theorem dX9_advance_23 : decode cX9_advance 23 = .ok (.aload_n 0, 1) := by decide +kernel
theorem dX9_advance_24 : decode cX9_advance 24 = .ok (.getfield 22, 3) := by decide +kernel
theorem dX9_advance_27 : decode cX9_advance 27 = .ok (.iaload, 1) := by decide +kernel
theorem dX9_advance_28 : decode cX9_advance 28 = .ok (.bipush 32, 2) := by decide +kernel
theorem dX9_advance_30 : decode cX9_advance 30 = .ok (.if_icmp .ne 16, 3) := by decide +kernel
theorem dX9_advance_33 : decode cX9_advance 33 = .ok (.aload_n 0, 1) := by decide +kernel
theorem dX9_advance_34 : decode cX9_advance 34 = .ok (.dup, 1) := by decide +kernel
theorem dX9_advance_35 : decode cX9_advance 35 = .ok (.getfield 22, 3) := by decide +kernel
theorem dX9_advance_38 : decode cX9_advance 38 = .ok (.iconst 1, 1) := by decide +kernel
theorem dX9_advance_39 : decode cX9_advance 39 = .ok (.iadd, 1) := by decide +kernel
theorem dX9_advance_40 : decode cX9_advance 40 = .ok (.putfield 22, 3) := by decide +kernel
theorem dX9_advance_43 : decode cX9_advance 43 = .ok (.goto (-35), 3) := by decide +kernel
theorem dX9_advance_46 : decode cX9_advance 46 = .ok (.aload_n 0, 1) := by decide +kernel
theorem dX9_advance_47 : decode cX9_advance 47 = .ok (.aload_n 0, 1) := by decide +kernel
theorem dX9_advance_48 : decode cX9_advance 48 = .ok (.getfield 22, 3) := by decide +kernel
theorem dX9_advance_51 : decode cX9_advance 51 = .ok (.putfield 25, 3) := by decide +kernel
theorem dX9_advance_54 : decode cX9_advance 54 = .ok (.aload_n 0, 1) := by decide +kernel
theorem dX9_advance_55 : decode cX9_advance 55 = .ok (.getfield 25, 3) := by decide +kernel
theorem dX9_advance_58 : decode cX9_advance 58 = .ok (.aload_n 0, 1) := by decide +kernel
theorem dX9_advance_59 : decode cX9_advance 59 = .ok (.getfield 15, 3) := by decide +kernel
theorem dX9_advance_62 : decode cX9_advance 62 = .ok (.if_icmp .ge 44, 3) := by decide +kernel
theorem dX9_advance_65 : decode cX9_advance 65 = .ok (.aload_n 0, 1) := by decide +kernel
theorem dX9_advance_66 : decode cX9_advance 66 = .ok (.getfield 9, 3) := by decide +kernel
theorem dX9_advance_69 : decode cX9_advance 69 = .ok (.aload_n 0, 1) := by decide +kernel
theorem dX9_advance_70 : decode cX9_advance 70 = .ok (.getfield 25, 3) := by decide +kernel
theorem dX9_advance_73 : decode cX9_advance 73 = .ok (.iaload, 1) := by decide +kernel
theorem dX9_advance_74 : decode cX9_advance 74 = .ok (.bipush 97, 2) := by decide +kernel
theorem dX9_advance_76 : decode cX9_advance 76 = .ok (.if_icmp .lt 30, 3) := by decide +kernel
theorem dX9_advance_79 : decode cX9_advance 79 = .ok (.aload_n 0, 1) := by decide +kernel
theorem dX9_advance_80 : decode cX9_advance 80 = .ok (.getfield 9, 3) := by decide +kernel
theorem dX9_advance_83 : decode cX9_advance 83 = .ok (.aload_n 0, 1) := by decide +kernel
theorem dX9_advance_84 : decode cX9_advance 84 = .ok (.getfield 25, 3) := by decide +kernel
theorem dX9_advance_87 : decode cX9_advance 87 = .ok (.iaload, 1) := by decide +kernel
theorem dX9_advance_88 : decode cX9_advance 88 = .ok (.bipush 122, 2) := by decide +kernel
theorem dX9_advance_90 : decode cX9_advance 90 = .ok (.if_icmp .gt 16, 3) := by decide +kernel
theorem dX9_advance_93 : decode cX9_advance 93 = .ok (.aload_n 0, 1) := by decide +kernel
theorem dX9_advance_94 : decode cX9_advance 94 = .ok (.dup, 1) := by decide +kernel
theorem dX9_advance_95 : decode cX9_advance 95 = .ok (.getfield 25, 3) := by decide +kernel
theorem dX9_advance_98 : decode cX9_advance 98 = .ok (.iconst 1, 1) := by decide +kernel
theorem dX9_advance_99 : decode cX9_advance 99 = .ok (.iadd, 1) := by decide +kernel
theorem dX9_advance_100 : decode cX9_advance 100 = .ok (.putfield 25, 3) := by decide +kernel
theorem dX9_advance_103 : decode cX9_advance 103 = .ok (.goto (-49), 3) := by decide +kernel
theorem dX9_advance_106 : decode cX9_advance 106 = .ok (.aload_n 0, 1) := by decide +kernel
theorem dX9_advance_107 : decode cX9_advance 107 = .ok (.iconst 1, 1) := by decide +kernel
theorem dX9_advance_108 : decode cX9_advance 108 = .ok (.putfield 19, 3) := by decide +kernel
theorem dX9_advance_111 : decode cX9_advance 111 = .ok (.aload_n 0, 1) := by decide +kernel
theorem dX9_advance_112 : decode cX9_advance 112 = .ok (.getfield 25, 3) := by decide +kernel
theorem dX9_advance_115 : decode cX9_advance 115 = .ok (.aload_n 0, 1) := by decide +kernel
theorem dX9_advance_116 : decode cX9_advance 116 = .ok (.getfield 22, 3) := by decide +kernel
theorem dX9_advance_119 : decode cX9_advance 119 = .ok (.if_icmp .le 4, 3) := by decide +kernel
theorem dX9_advance_122 : decode cX9_advance 122 = .ok (.return_, 1) := by decide +kernel
theorem dX9_advance_123 : decode cX9_advance 123 = .ok (.aload_n 0, 1) := by decide +kernel
theorem dX9_advance_124 : decode cX9_advance 124 = .ok (.getfield 25, 3) := by decide +kernel
theorem dX9_advance_127 : decode cX9_advance 127 = .ok (.aload_n 0, 1) := by decide +kernel
theorem dX9_advance_128 : decode cX9_advance 128 = .ok (.getfield 15, 3) := by decide +kernel
theorem dX9_advance_131 : decode cX9_advance 131 = .ok (.if_icmp .ge 44, 3) := by decide +kernel
theorem dX9_advance_134 : decode cX9_advance 134 = .ok (.aload_n 0, 1) := by decide +kernel
theorem dX9_advance_135 : decode cX9_advance 135 = .ok (.getfield 9, 3) := by decide +kernel
theorem dX9_advance_138 : decode cX9_advance 138 = .ok (.aload_n 0, 1) := by decide +kernel
theorem dX9_advance_139 : decode cX9_advance 139 = .ok (.getfield 25, 3) := by decide +kernel
theorem dX9_advance_142 : decode cX9_advance 142 = .ok (.iaload, 1) := by decide +kernel
theorem dX9_advance_143 : decode cX9_advance 143 = .ok (.bipush 48, 2) := by decide +kernel
theorem dX9_advance_145 : decode cX9_advance 145 = .ok (.if_icmp .lt 30, 3) := by decide +kernel
theorem dX9_advance_148 : decode cX9_advance 148 = .ok (.aload_n 0, 1) := by decide +kernel
theorem dX9_advance_149 : decode cX9_advance 149 = .ok (.getfield 9, 3) := by decide +kernel
theorem dX9_advance_152 : decode cX9_advance 152 = .ok (.aload_n 0, 1) := by decide +kernel
theorem dX9_advance_153 : decode cX9_advance 153 = .ok (.getfield 25, 3) := by decide +kernel
theorem dX9_advance_156 : decode cX9_advance 156 = .ok (.iaload, 1) := by decide +kernel
theorem dX9_advance_157 : decode cX9_advance 157 = .ok (.bipush 57, 2) := by decide +kernel
theorem dX9_advance_159 : decode cX9_advance 159 = .ok (.if_icmp .gt 16, 3) := by decide +kernel
theorem dX9_advance_162 : decode cX9_advance 162 = .ok (.aload_n 0, 1) := by decide +kernel
theorem dX9_advance_163 : decode cX9_advance 163 = .ok (.dup, 1) := by decide +kernel
theorem dX9_advance_164 : decode cX9_advance 164 = .ok (.getfield 25, 3) := by decide +kernel
theorem dX9_advance_167 : decode cX9_advance 167 = .ok (.iconst 1, 1) := by decide +kernel
theorem dX9_advance_168 : decode cX9_advance 168 = .ok (.iadd, 1) := by decide +kernel
theorem dX9_advance_169 : decode cX9_advance 169 = .ok (.putfield 25, 3) := by decide +kernel
theorem dX9_advance_172 : decode cX9_advance 172 = .ok (.goto (-49), 3) := by decide +kernel
theorem dX9_advance_175 : decode cX9_advance 175 = .ok (.aload_n 0, 1) := by decide +kernel
theorem dX9_advance_176 : decode cX9_advance 176 = .ok (.iconst 2, 1) := by decide +kernel
theorem dX9_advance_177 : decode cX9_advance 177 = .ok (.putfield 19, 3) := by decide +kernel
theorem dX9_advance_180 : decode cX9_advance 180 = .ok (.aload_n 0, 1) := by decide +kernel
theorem dX9_advance_181 : decode cX9_advance 181 = .ok (.getfield 25, 3) := by decide +kernel
theorem dX9_advance_184 : decode cX9_advance 184 = .ok (.aload_n 0, 1) := by decide +kernel
theorem dX9_advance_185 : decode cX9_advance 185 = .ok (.getfield 22, 3) := by decide +kernel
theorem dX9_advance_188 : decode cX9_advance 188 = .ok (.if_icmp .le 4, 3) := by decide +kernel
theorem dX9_advance_191 : decode cX9_advance 191 = .ok (.return_, 1) := by decide +kernel
theorem dX9_advance_192 : decode cX9_advance 192 = .ok (.aload_n 0, 1) := by decide +kernel
theorem dX9_advance_193 : decode cX9_advance 193 = .ok (.aload_n 0, 1) := by decide +kernel
theorem dX9_advance_194 : decode cX9_advance 194 = .ok (.getfield 22, 3) := by decide +kernel
theorem dX9_advance_197 : decode cX9_advance 197 = .ok (.aload_n 0, 1) := by decide +kernel
theorem dX9_advance_198 : decode cX9_advance 198 = .ok (.getfield 15, 3) := by decide +kernel
theorem dX9_advance_201 : decode cX9_advance 201 = .ok (.if_icmp .ge 7, 3) := by decide +kernel
theorem dX9_advance_204 : decode cX9_advance 204 = .ok (.iconst 3, 1) := by decide +kernel
theorem dX9_advance_205 : decode cX9_advance 205 = .ok (.goto 4, 3) := by decide +kernel
theorem dX9_advance_208 : decode cX9_advance 208 = .ok (.iconst 0, 1) := by decide +kernel
theorem dX9_advance_209 : decode cX9_advance 209 = .ok (.putfield 19, 3) := by decide +kernel
theorem dX9_advance_212 : decode cX9_advance 212 = .ok (.aload_n 0, 1) := by decide +kernel
theorem dX9_advance_213 : decode cX9_advance 213 = .ok (.aload_n 0, 1) := by decide +kernel
theorem dX9_advance_214 : decode cX9_advance 214 = .ok (.getfield 22, 3) := by decide +kernel
theorem dX9_advance_217 : decode cX9_advance 217 = .ok (.aload_n 0, 1) := by decide +kernel
theorem dX9_advance_218 : decode cX9_advance 218 = .ok (.getfield 15, 3) := by decide +kernel
theorem dX9_advance_221 : decode cX9_advance 221 = .ok (.if_icmp .ge 12, 3) := by decide +kernel
theorem dX9_advance_224 : decode cX9_advance 224 = .ok (.aload_n 0, 1) := by decide +kernel
theorem dX9_advance_225 : decode cX9_advance 225 = .ok (.getfield 22, 3) := by decide +kernel
theorem dX9_advance_228 : decode cX9_advance 228 = .ok (.iconst 1, 1) := by decide +kernel
theorem dX9_advance_229 : decode cX9_advance 229 = .ok (.iadd, 1) := by decide +kernel
theorem dX9_advance_230 : decode cX9_advance 230 = .ok (.goto 7, 3) := by decide +kernel
theorem dX9_advance_233 : decode cX9_advance 233 = .ok (.aload_n 0, 1) := by decide +kernel
theorem dX9_advance_234 : decode cX9_advance 234 = .ok (.getfield 22, 3) := by decide +kernel
theorem dX9_advance_237 : decode cX9_advance 237 = .ok (.putfield 25, 3) := by decide +kernel
theorem dX9_advance_240 : decode cX9_advance 240 = .ok (.return_, 1) := by decide +kernel
theorem dX9_isEnd_0 : decode cX9_isEnd 0 = .ok (.aload_n 0, 1) := by decide +kernel
theorem dX9_isEnd_1 : decode cX9_isEnd 1 = .ok (.getfield 19, 3) := by decide +kernel
theorem dX9_isEnd_4 : decode cX9_isEnd 4 = .ok (.ifCond .ne 7, 3) := by decide +kernel
theorem dX9_isEnd_7 : decode cX9_isEnd 7 = .ok (.iconst 1, 1) := by decide +kernel
theorem dX9_isEnd_8 : decode cX9_isEnd 8 = .ok (.goto 4, 3) := by decide +kernel
theorem dX9_isEnd_11 : decode cX9_isEnd 11 = .ok (.iconst 0, 1) := by decide +kernel
theorem dX9_isEnd_12 : decode cX9_isEnd 12 = .ok (.ireturn, 1) := by decide +kernel
theorem dX9_isSign_0 : decode cX9_isSign 0 = .ok (.aload_n 0, 1) := by decide +kernel
theorem dX9_isSign_1 : decode cX9_isSign 1 = .ok (.getfield 19, 3) := by decide +kernel
theorem dX9_isSign_4 : decode cX9_isSign 4 = .ok (.iconst 3, 1) := by decide +kernel
theorem dX9_isSign_5 : decode cX9_isSign 5 = .ok (.if_icmp .ne 20, 3) := by decide +kernel
theorem dX9_isSign_8 : decode cX9_isSign 8 = .ok (.aload_n 0, 1) := by decide +kernel
theorem dX9_isSign_9 : decode cX9_isSign 9 = .ok (.getfield 9, 3) := by decide +kernel
theorem dX9_isSign_12 : decode cX9_isSign 12 = .ok (.aload_n 0, 1) := by decide +kernel
theorem dX9_isSign_13 : decode cX9_isSign 13 = .ok (.getfield 22, 3) := by decide +kernel
theorem dX9_isSign_16 : decode cX9_isSign 16 = .ok (.iaload, 1) := by decide +kernel
theorem dX9_isSign_17 : decode cX9_isSign 17 = .ok (.iload_n 1, 1) := by decide +kernel
theorem dX9_isSign_18 : decode cX9_isSign 18 = .ok (.if_icmp .ne 7, 3) := by decide +kernel
theorem dX9_isSign_21 : decode cX9_isSign 21 = .ok (.iconst 1, 1) := by decide +kernel
theorem dX9_isSign_22 : decode cX9_isSign 22 = .ok (.goto 4, 3) := by decide +kernel
theorem dX9_isSign_25 : decode cX9_isSign 25 = .ok (.iconst 0, 1) := by decide +kernel
theorem dX9_isSign_26 : decode cX9_isSign 26 = .ok (.ireturn, 1) := by decide +kernel
theorem dX9_isWord_0 : decode cX9_isWord 0 = .ok (.aload_n 0, 1) := by decide +kernel
theorem dX9_isWord_1 : decode cX9_isWord 1 = .ok (.getfield 19, 3) := by decide +kernel
theorem dX9_isWord_4 : decode cX9_isWord 4 = .ok (.iconst 1, 1) := by decide +kernel
theorem dX9_isWord_5 : decode cX9_isWord 5 = .ok (.if_icmp .ne 19, 3) := by decide +kernel
theorem dX9_isWord_8 : decode cX9_isWord 8 = .ok (.aload_n 0, 1) := by decide +kernel
theorem dX9_isWord_9 : decode cX9_isWord 9 = .ok (.getfield 25, 3) := by decide +kernel
theorem dX9_isWord_12 : decode cX9_isWord 12 = .ok (.aload_n 0, 1) := by decide +kernel
theorem dX9_isWord_13 : decode cX9_isWord 13 = .ok (.getfield 22, 3) := by decide +kernel
theorem dX9_isWord_16 : decode cX9_isWord 16 = .ok (.isub, 1) := by decide +kernel
theorem dX9_isWord_17 : decode cX9_isWord 17 = .ok (.aload_n 1, 1) := by decide +kernel
theorem dX9_isWord_18 : decode cX9_isWord 18 = .ok (.invokevirtual 31, 3) := by decide +kernel
theorem dX9_isWord_21 : decode cX9_isWord 21 = .ok (.if_icmp .eq 5, 3) := by decide +kernel
theorem dX9_isWord_24 : decode cX9_isWord 24 = .ok (.iconst 0, 1) := by decide +kernel
theorem dX9_isWord_25 : decode cX9_isWord 25 = .ok (.ireturn, 1) := by decide +kernel
theorem dX9_isWord_26 : decode cX9_isWord 26 = .ok (.iconst 0, 1) := by decide +kernel
theorem dX9_isWord_27 : decode cX9_isWord 27 = .ok (.istore_n 2, 1) := by decide +kernel
theorem dX9_isWord_28 : decode cX9_isWord 28 = .ok (.iload_n 2, 1) := by decide +kernel
theorem dX9_isWord_29 : decode cX9_isWord 29 = .ok (.aload_n 1, 1) := by decide +kernel
theorem dX9_isWord_30 : decode cX9_isWord 30 = .ok (.invokevirtual 31, 3) := by decide +kernel
theorem dX9_isWord_33 : decode cX9_isWord 33 = .ok (.if_icmp .ge 30, 3) := by decide +kernel
theorem dX9_isWord_36 : decode cX9_isWord 36 = .ok (.aload_n 0, 1) := by decide +kernel
theorem dX9_isWord_37 : decode cX9_isWord 37 = .ok (.getfield 9, 3) := by decide +kernel
theorem dX9_isWord_40 : decode cX9_isWord 40 = .ok (.aload_n 0, 1) := by decide +kernel
theorem dX9_isWord_41 : decode cX9_isWord 41 = .ok (.getfield 22, 3) := by decide +kernel
theorem dX9_isWord_44 : decode cX9_isWord 44 = .ok (.iload_n 2, 1) := by decide +kernel
theorem dX9_isWord_45 : decode cX9_isWord 45 = .ok (.iadd, 1) := by decide +kernel
theorem dX9_isWord_46 : decode cX9_isWord 46 = .ok (.iaload, 1) := by decide +kernel
theorem dX9_isWord_47 : decode cX9_isWord 47 = .ok (.aload_n 1, 1) := by decide +kernel
theorem dX9_isWord_48 : decode cX9_isWord 48 = .ok (.iload_n 2, 1) := by decide +kernel
theorem dX9_isWord_49 : decode cX9_isWord 49 = .ok (.invokevirtual 37, 3) := by decide +kernel
theorem dX9_isWord_52 : decode cX9_isWord 52 = .ok (.if_icmp .eq 5, 3) := by decide +kernel
theorem dX9_isWord_55 : decode cX9_isWord 55 = .ok (.iconst 0, 1) := by decide +kernel
theorem dX9_isWord_56 : decode cX9_isWord 56 = .ok (.ireturn, 1) := by decide +kernel
theorem dX9_isWord_57 : decode cX9_isWord 57 = .ok (.iinc 2 1, 3) := by decide +kernel
theorem dX9_isWord_60 : decode cX9_isWord 60 = .ok (.goto (-32), 3) := by decide +kernel
theorem dX9_isWord_63 : decode cX9_isWord 63 = .ok (.iconst 1, 1) := by decide +kernel
theorem dX9_isWord_64 : decode cX9_isWord 64 = .ok (.ireturn, 1) := by decide +kernel
theorem dX9_takeSign_0 : decode cX9_takeSign 0 = .ok (.aload_n 0, 1) := by decide +kernel
theorem dX9_takeSign_1 : decode cX9_takeSign 1 = .ok (.iload_n 1, 1) := by decide +kernel
theorem dX9_takeSign_2 : decode cX9_takeSign 2 = .ok (.invokevirtual 41, 3) := by decide +kernel
theorem dX9_takeSign_5 : decode cX9_takeSign 5 = .ok (.ifCond .ne 5, 3) := by decide +kernel
theorem dX9_takeSign_8 : decode cX9_takeSign 8 = .ok (.iconst 0, 1) := by decide +kernel
theorem dX9_takeSign_9 : decode cX9_takeSign 9 = .ok (.ireturn, 1) := by decide +kernel
theorem dX9_takeSign_10 : decode cX9_takeSign 10 = .ok (.aload_n 0, 1) := by decide +kernel
theorem dX9_takeSign_11 : decode cX9_takeSign 11 = .ok (.invokevirtual 28, 3) := by decide +kernel
theorem dX9_takeSign_14 : decode cX9_takeSign 14 = .ok (.iconst 1, 1) := by decide +kernel
theorem dX9_takeSign_15 : decode cX9_takeSign 15 = .ok (.ireturn, 1) := by decide +kernel
theorem dX9_takeWord_0 : decode cX9_takeWord 0 = .ok (.aload_n 0, 1) := by decide +kernel
theorem dX9_takeWord_1 : decode cX9_takeWord 1 = .ok (.aload_n 1, 1) := by decide +kernel
theorem dX9_takeWord_2 : decode cX9_takeWord 2 = .ok (.invokevirtual 45, 3) := by decide +kernel
theorem dX9_takeWord_5 : decode cX9_takeWord 5 = .ok (.ifCond .ne 5, 3) := by decide +kernel
theorem dX9_takeWord_8 : decode cX9_takeWord 8 = .ok (.iconst 0, 1) := by decide +kernel
theorem dX9_takeWord_9 : decode cX9_takeWord 9 = .ok (.ireturn, 1) := by decide +kernel
theorem dX9_takeWord_10 : decode cX9_takeWord 10 = .ok (.aload_n 0, 1) := by decide +kernel
theorem dX9_takeWord_11 : decode cX9_takeWord 11 = .ok (.invokevirtual 28, 3) := by decide +kernel
theorem dX9_takeWord_14 : decode cX9_takeWord 14 = .ok (.iconst 1, 1) := by decide +kernel
theorem dX9_takeWord_15 : decode cX9_takeWord 15 = .ok (.ireturn, 1) := by decide +kernel
theorem dX9_takeNumber_0 : decode cX9_takeNumber 0 = .ok (.aload_n 0, 1) := by decide +kernel
theorem dX9_takeNumber_1 : decode cX9_takeNumber 1 = .ok (.getfield 19, 3) := by decide +kernel
theorem dX9_takeNumber_4 : decode cX9_takeNumber 4 = .ok (.iconst 2, 1) := by decide +kernel
theorem dX9_takeNumber_5 : decode cX9_takeNumber 5 = .ok (.if_icmp .ne 16, 3) := by decide +kernel
theorem dX9_takeNumber_8 : decode cX9_takeNumber 8 = .ok (.aload_n 0, 1) := by decide +kernel
theorem dX9_takeNumber_9 : decode cX9_takeNumber 9 = .ok (.getfield 25, 3) := by decide +kernel
theorem dX9_takeNumber_12 : decode cX9_takeNumber 12 = .ok (.aload_n 0, 1) := by decide +kernel
theorem dX9_takeNumber_13 : decode cX9_takeNumber 13 = .ok (.getfield 22, 3) := by decide +kernel
theorem dX9_takeNumber_16 : decode cX9_takeNumber 16 = .ok (.isub, 1) := by decide +kernel
theorem dX9_takeNumber_17 : decode cX9_takeNumber 17 = .ok (.iconst 3, 1) := by decide +kernel
theorem dX9_takeNumber_18 : decode cX9_takeNumber 18 = .ok (.if_icmp .le 5, 3) := by decide +kernel
theorem dX9_takeNumber_21 : decode cX9_takeNumber 21 = .ok (.iconst (-1), 1) := by decide +kernel
theorem dX9_takeNumber_22 : decode cX9_takeNumber 22 = .ok (.ireturn, 1) := by decide +kernel
theorem dX9_takeNumber_23 : decode cX9_takeNumber 23 = .ok (.iconst 0, 1) := by decide +kernel
theorem dX9_takeNumber_24 : decode cX9_takeNumber 24 = .ok (.istore_n 3, 1) := by decide +kernel
theorem dX9_takeNumber_25 : decode cX9_takeNumber 25 = .ok (.aload_n 0, 1) := by decide +kernel
theorem dX9_takeNumber_26 : decode cX9_takeNumber 26 = .ok (.getfield 22, 3) := by decide +kernel
theorem dX9_takeNumber_29 : decode cX9_takeNumber 29 = .ok (.istore 4, 2) := by decide +kernel
theorem dX9_takeNumber_31 : decode cX9_takeNumber 31 = .ok (.iload 4, 2) := by decide +kernel
theorem dX9_takeNumber_33 : decode cX9_takeNumber 33 = .ok (.aload_n 0, 1) := by decide +kernel
theorem dX9_takeNumber_34 : decode cX9_takeNumber 34 = .ok (.getfield 25, 3) := by decide +kernel
theorem dX9_takeNumber_37 : decode cX9_takeNumber 37 = .ok (.if_icmp .ge 25, 3) := by decide +kernel
theorem dX9_takeNumber_40 : decode cX9_takeNumber 40 = .ok (.bipush 10, 2) := by decide +kernel
theorem dX9_takeNumber_42 : decode cX9_takeNumber 42 = .ok (.iload_n 3, 1) := by decide +kernel
theorem dX9_takeNumber_43 : decode cX9_takeNumber 43 = .ok (.imul, 1) := by decide +kernel
theorem dX9_takeNumber_44 : decode cX9_takeNumber 44 = .ok (.aload_n 0, 1) := by decide +kernel
theorem dX9_takeNumber_45 : decode cX9_takeNumber 45 = .ok (.getfield 9, 3) := by decide +kernel
theorem dX9_takeNumber_48 : decode cX9_takeNumber 48 = .ok (.iload 4, 2) := by decide +kernel
theorem dX9_takeNumber_50 : decode cX9_takeNumber 50 = .ok (.iaload, 1) := by decide +kernel
theorem dX9_takeNumber_51 : decode cX9_takeNumber 51 = .ok (.iadd, 1) := by decide +kernel
theorem dX9_takeNumber_52 : decode cX9_takeNumber 52 = .ok (.bipush 48, 2) := by decide +kernel
theorem dX9_takeNumber_54 : decode cX9_takeNumber 54 = .ok (.isub, 1) := by decide +kernel
theorem dX9_takeNumber_55 : decode cX9_takeNumber 55 = .ok (.istore_n 3, 1) := by decide +kernel
theorem dX9_takeNumber_56 : decode cX9_takeNumber 56 = .ok (.iinc 4 1, 3) := by decide +kernel
theorem dX9_takeNumber_59 : decode cX9_takeNumber 59 = .ok (.goto (-28), 3) := by decide +kernel
theorem dX9_takeNumber_62 : decode cX9_takeNumber 62 = .ok (.iload_n 3, 1) := by decide +kernel
theorem dX9_takeNumber_63 : decode cX9_takeNumber 63 = .ok (.iload_n 1, 1) := by decide +kernel
theorem dX9_takeNumber_64 : decode cX9_takeNumber 64 = .ok (.if_icmp .lt 8, 3) := by decide +kernel
theorem dX9_takeNumber_67 : decode cX9_takeNumber 67 = .ok (.iload_n 3, 1) := by decide +kernel
theorem dX9_takeNumber_68 : decode cX9_takeNumber 68 = .ok (.iload_n 2, 1) := by decide +kernel
theorem dX9_takeNumber_69 : decode cX9_takeNumber 69 = .ok (.if_icmp .le 5, 3) := by decide +kernel
theorem dX9_takeNumber_72 : decode cX9_takeNumber 72 = .ok (.iconst (-1), 1) := by decide +kernel
theorem dX9_takeNumber_73 : decode cX9_takeNumber 73 = .ok (.ireturn, 1) := by decide +kernel
theorem dX9_takeNumber_74 : decode cX9_takeNumber 74 = .ok (.aload_n 0, 1) := by decide +kernel
theorem dX9_takeNumber_75 : decode cX9_takeNumber 75 = .ok (.invokevirtual 28, 3) := by decide +kernel
theorem dX9_takeNumber_78 : decode cX9_takeNumber 78 = .ok (.iload_n 3, 1) := by decide +kernel
theorem dX9_takeNumber_79 : decode cX9_takeNumber 79 = .ok (.ireturn, 1) := by decide +kernel
theorem dX9_takeNumberAfter_0 : decode cX9_takeNumberAfter 0 = .ok (.aload_n 0, 1) := by decide +kernel
theorem dX9_takeNumberAfter_1 : decode cX9_takeNumberAfter 1 = .ok (.aload_n 1, 1) := by decide +kernel
theorem dX9_takeNumberAfter_2 : decode cX9_takeNumberAfter 2 = .ok (.invokevirtual 49, 3) := by decide +kernel
theorem dX9_takeNumberAfter_5 : decode cX9_takeNumberAfter 5 = .ok (.ifCond .eq 12, 3) := by decide +kernel
theorem dX9_takeNumberAfter_8 : decode cX9_takeNumberAfter 8 = .ok (.aload_n 0, 1) := by decide +kernel
theorem dX9_takeNumberAfter_9 : decode cX9_takeNumberAfter 9 = .ok (.iload_n 2, 1) := by decide +kernel
theorem dX9_takeNumberAfter_10 : decode cX9_takeNumberAfter 10 = .ok (.iload_n 3, 1) := by decide +kernel
theorem dX9_takeNumberAfter_11 : decode cX9_takeNumberAfter 11 = .ok (.invokevirtual 52, 3) := by decide +kernel
theorem dX9_takeNumberAfter_14 : decode cX9_takeNumberAfter 14 = .ok (.goto 4, 3) := by decide +kernel
theorem dX9_takeNumberAfter_17 : decode cX9_takeNumberAfter 17 = .ok (.iconst (-1), 1) := by decide +kernel
theorem dX9_takeNumberAfter_18 : decode cX9_takeNumberAfter 18 = .ok (.ireturn, 1) := by decide +kernel
theorem dX9_takeLetters_0 : decode cX9_takeLetters 0 = .ok (.aload_n 0, 1) := by decide +kernel
theorem dX9_takeLetters_1 : decode cX9_takeLetters 1 = .ok (.getfield 19, 3) := by decide +kernel
theorem dX9_takeLetters_4 : decode cX9_takeLetters 4 = .ok (.iconst 1, 1) := by decide +kernel
theorem dX9_takeLetters_5 : decode cX9_takeLetters 5 = .ok (.if_icmp .eq 5, 3) := by decide +kernel
theorem dX9_takeLetters_8 : decode cX9_takeLetters 8 = .ok (.iconst (-1), 1) := by decide +kernel
theorem dX9_takeLetters_9 : decode cX9_takeLetters 9 = .ok (.ireturn, 1) := by decide +kernel
theorem dX9_takeLetters_10 : decode cX9_takeLetters 10 = .ok (.iconst 0, 1) := by decide +kernel
theorem dX9_takeLetters_11 : decode cX9_takeLetters 11 = .ok (.istore_n 2, 1) := by decide +kernel
theorem dX9_takeLetters_12 : decode cX9_takeLetters 12 = .ok (.aload_n 0, 1) := by decide +kernel
theorem dX9_takeLetters_13 : decode cX9_takeLetters 13 = .ok (.getfield 22, 3) := by decide +kernel
theorem dX9_takeLetters_16 : decode cX9_takeLetters 16 = .ok (.istore_n 3, 1) := by decide +kernel
theorem dX9_takeLetters_17 : decode cX9_takeLetters 17 = .ok (.iload_n 3, 1) := by decide +kernel
theorem dX9_takeLetters_18 : decode cX9_takeLetters 18 = .ok (.aload_n 0, 1) := by decide +kernel
theorem dX9_takeLetters_19 : decode cX9_takeLetters 19 = .ok (.getfield 25, 3) := by decide +kernel
theorem dX9_takeLetters_22 : decode cX9_takeLetters 22 = .ok (.if_icmp .ge 49, 3) := by decide +kernel
theorem dX9_takeLetters_25 : decode cX9_takeLetters 25 = .ok (.aload_n 0, 1) := by decide +kernel
theorem dX9_takeLetters_26 : decode cX9_takeLetters 26 = .ok (.getfield 9, 3) := by decide +kernel
theorem dX9_takeLetters_29 : decode cX9_takeLetters 29 = .ok (.iload_n 3, 1) := by decide +kernel
theorem dX9_takeLetters_30 : decode cX9_takeLetters 30 = .ok (.iaload, 1) := by decide +kernel
theorem dX9_takeLetters_31 : decode cX9_takeLetters 31 = .ok (.bipush 97, 2) := by decide +kernel
theorem dX9_takeLetters_33 : decode cX9_takeLetters 33 = .ok (.isub, 1) := by decide +kernel
theorem dX9_takeLetters_34 : decode cX9_takeLetters 34 = .ok (.istore 4, 2) := by decide +kernel
theorem dX9_takeLetters_36 : decode cX9_takeLetters 36 = .ok (.iload 4, 2) := by decide +kernel
theorem dX9_takeLetters_38 : decode cX9_takeLetters 38 = .ok (.ifCond .lt 18, 3) := by decide +kernel
theorem dX9_takeLetters_41 : decode cX9_takeLetters 41 = .ok (.iload 4, 2) := by decide +kernel
theorem dX9_takeLetters_43 : decode cX9_takeLetters 43 = .ok (.iload_n 1, 1) := by decide +kernel
theorem dX9_takeLetters_44 : decode cX9_takeLetters 44 = .ok (.if_icmp .ge 12, 3) := by decide +kernel
theorem dX9_takeLetters_47 : decode cX9_takeLetters 47 = .ok (.iload_n 2, 1) := by decide +kernel
theorem dX9_takeLetters_48 : decode cX9_takeLetters 48 = .ok (.iload 4, 2) := by decide +kernel
theorem dX9_takeLetters_50 : decode cX9_takeLetters 50 = .ok (.ishr, 1) := by decide +kernel
theorem dX9_takeLetters_51 : decode cX9_takeLetters 51 = .ok (.iconst 1, 1) := by decide +kernel
theorem dX9_takeLetters_52 : decode cX9_takeLetters 52 = .ok (.iand, 1) := by decide +kernel
theorem dX9_takeLetters_53 : decode cX9_takeLetters 53 = .ok (.ifCond .eq 5, 3) := by decide +kernel
theorem dX9_takeLetters_56 : decode cX9_takeLetters 56 = .ok (.iconst (-1), 1) := by decide +kernel
theorem dX9_takeLetters_57 : decode cX9_takeLetters 57 = .ok (.ireturn, 1) := by decide +kernel
theorem dX9_takeLetters_58 : decode cX9_takeLetters 58 = .ok (.iload_n 2, 1) := by decide +kernel
theorem dX9_takeLetters_59 : decode cX9_takeLetters 59 = .ok (.iconst 1, 1) := by decide +kernel
theorem dX9_takeLetters_60 : decode cX9_takeLetters 60 = .ok (.iload 4, 2) := by decide +kernel
theorem dX9_takeLetters_62 : decode cX9_takeLetters 62 = .ok (.ishl, 1) := by decide +kernel
theorem dX9_takeLetters_63 : decode cX9_takeLetters 63 = .ok (.ior, 1) := by decide +kernel
theorem dX9_takeLetters_64 : decode cX9_takeLetters 64 = .ok (.istore_n 2, 1) := by decide +kernel
theorem dX9_takeLetters_65 : decode cX9_takeLetters 65 = .ok (.iinc 3 1, 3) := by decide +kernel
theorem dX9_takeLetters_68 : decode cX9_takeLetters 68 = .ok (.goto (-51), 3) := by decide +kernel
theorem dX9_takeLetters_71 : decode cX9_takeLetters 71 = .ok (.aload_n 0, 1) := by decide +kernel
theorem dX9_takeLetters_72 : decode cX9_takeLetters 72 = .ok (.invokevirtual 28, 3) := by decide +kernel
theorem dX9_takeLetters_75 : decode cX9_takeLetters 75 = .ok (.iload_n 2, 1) := by decide +kernel
theorem dX9_takeLetters_76 : decode cX9_takeLetters 76 = .ok (.ireturn, 1) := by decide +kernel
theorem dX10_init_0 : decode cX10_init 0 = .ok (.aload_n 0, 1) := by decide +kernel
theorem dX10_init_1 : decode cX10_init 1 = .ok (.invokespecial 3, 3) := by decide +kernel
theorem dX10_init_4 : decode cX10_init 4 = .ok (.aload_n 0, 1) := by decide +kernel
theorem dX10_init_5 : decode cX10_init 5 = .ok (.sipush 320, 3) := by decide +kernel
theorem dX10_init_8 : decode cX10_init 8 = .ok (.newarray .int, 2) := by decide +kernel
theorem dX10_init_10 : decode cX10_init 10 = .ok (.putfield 9, 3) := by decide +kernel
theorem dX10_init_13 : decode cX10_init 13 = .ok (.aload_n 0, 1) := by decide +kernel
theorem dX10_init_14 : decode cX10_init 14 = .ok (.sipush 512, 3) := by decide +kernel
theorem dX10_init_17 : decode cX10_init 17 = .ok (.newarray .int, 2) := by decide +kernel
theorem dX10_init_19 : decode cX10_init 19 = .ok (.putfield 15, 3) := by decide +kernel
theorem dX10_init_22 : decode cX10_init 22 = .ok (.aload_n 0, 1) := by decide +kernel
theorem dX10_init_23 : decode cX10_init 23 = .ok (.bipush 64, 2) := by decide +kernel
theorem dX10_init_25 : decode cX10_init 25 = .ok (.newarray .int, 2) := by decide +kernel
theorem dX10_init_27 : decode cX10_init 27 = .ok (.putfield 18, 3) := by decide +kernel
theorem dX10_init_30 : decode cX10_init 30 = .ok (.aload_n 0, 1) := by decide +kernel
theorem dX10_init_31 : decode cX10_init 31 = .ok (.sipush 256, 3) := by decide +kernel
theorem dX10_init_34 : decode cX10_init 34 = .ok (.newarray .int, 2) := by decide +kernel
theorem dX10_init_36 : decode cX10_init 36 = .ok (.putfield 21, 3) := by decide +kernel
theorem dX10_init_39 : decode cX10_init 39 = .ok (.return_, 1) := by decide +kernel
theorem dX10_weigh_0 : decode cX10_weigh 0 = .ok (.iload_n 3, 1) := by decide +kernel
theorem dX10_weigh_1 : decode cX10_weigh 1 = .ok (.bipush 64, 2) := by decide +kernel
theorem dX10_weigh_3 : decode cX10_weigh 3 = .ok (.imul, 1) := by decide +kernel
theorem dX10_weigh_4 : decode cX10_weigh 4 = .ok (.istore 4, 2) := by decide +kernel
theorem dX10_weigh_6 : decode cX10_weigh 6 = .ok (.iconst 0, 1) := by decide +kernel
theorem dX10_weigh_7 : decode cX10_weigh 7 = .ok (.istore 5, 2) := by decide +kernel
theorem dX10_weigh_9 : decode cX10_weigh 9 = .ok (.iload 5, 2) := by decide +kernel
theorem dX10_weigh_11 : decode cX10_weigh 11 = .ok (.aload_n 2, 1) := by decide +kernel
theorem dX10_weigh_12 : decode cX10_weigh 12 = .ok (.invokevirtual 24, 3) := by decide +kernel
theorem dX10_weigh_15 : decode cX10_weigh 15 = .ok (.if_icmp .ge 120, 3) := by decide +kernel
theorem dX10_weigh_18 : decode cX10_weigh 18 = .ok (.iload 5, 2) := by decide +kernel
theorem dX10_weigh_20 : decode cX10_weigh 20 = .ok (.aload_n 2, 1) := by decide +kernel
theorem dX10_weigh_21 : decode cX10_weigh 21 = .ok (.getfield 30, 3) := by decide +kernel
theorem dX10_weigh_24 : decode cX10_weigh 24 = .ok (.iload_n 3, 1) := by decide +kernel
theorem dX10_weigh_25 : decode cX10_weigh 25 = .ok (.iaload, 1) := by decide +kernel
theorem dX10_weigh_26 : decode cX10_weigh 26 = .ok (.iand, 1) := by decide +kernel
theorem dX10_weigh_27 : decode cX10_weigh 27 = .ok (.istore 6, 2) := by decide +kernel
theorem dX10_weigh_29 : decode cX10_weigh 29 = .ok (.iload 6, 2) := by decide +kernel
theorem dX10_weigh_31 : decode cX10_weigh 31 = .ok (.iload 5, 2) := by decide +kernel
theorem dX10_weigh_33 : decode cX10_weigh 33 = .ok (.if_icmp .eq 46, 3) := by decide +kernel
theorem dX10_weigh_36 : decode cX10_weigh 36 = .ok (.aload_n 0, 1) := by decide +kernel
theorem dX10_weigh_37 : decode cX10_weigh 37 = .ok (.getfield 9, 3) := by decide +kernel
theorem dX10_weigh_40 : decode cX10_weigh 40 = .ok (.iload 6, 2) := by decide +kernel
theorem dX10_weigh_42 : decode cX10_weigh 42 = .ok (.iconst 5, 1) := by decide +kernel
theorem dX10_weigh_43 : decode cX10_weigh 43 = .ok (.imul, 1) := by decide +kernel
theorem dX10_weigh_44 : decode cX10_weigh 44 = .ok (.aload_n 0, 1) := by decide +kernel
theorem dX10_weigh_45 : decode cX10_weigh 45 = .ok (.getfield 9, 3) := by decide +kernel
theorem dX10_weigh_48 : decode cX10_weigh 48 = .ok (.iload 5, 2) := by decide +kernel
theorem dX10_weigh_50 : decode cX10_weigh 50 = .ok (.iconst 5, 1) := by decide +kernel
theorem dX10_weigh_51 : decode cX10_weigh 51 = .ok (.imul, 1) := by decide +kernel
theorem dX10_weigh_52 : decode cX10_weigh 52 = .ok (.iconst 5, 1) := by decide +kernel
theorem dX10_weigh_53 : decode cX10_weigh 53 = .ok (.invokestatic 33, 3) := by decide +kernel
theorem dX10_weigh_56 : decode cX10_weigh 56 = .ok (.aload_n 0, 1) := by decide +kernel
theorem dX10_weigh_57 : decode cX10_weigh 57 = .ok (.getfield 15, 3) := by decide +kernel
theorem dX10_weigh_60 : decode cX10_weigh 60 = .ok (.iload 4, 2) := by decide +kernel
theorem dX10_weigh_62 : decode cX10_weigh 62 = .ok (.iload 5, 2) := by decide +kernel
theorem dX10_weigh_64 : decode cX10_weigh 64 = .ok (.iadd, 1) := by decide +kernel
theorem dX10_weigh_65 : decode cX10_weigh 65 = .ok (.aload_n 0, 1) := by decide +kernel
theorem dX10_weigh_66 : decode cX10_weigh 66 = .ok (.getfield 15, 3) := by decide +kernel
theorem dX10_weigh_69 : decode cX10_weigh 69 = .ok (.iload 4, 2) := by decide +kernel
theorem dX10_weigh_71 : decode cX10_weigh 71 = .ok (.iload 6, 2) := by decide +kernel
theorem dX10_weigh_73 : decode cX10_weigh 73 = .ok (.iadd, 1) := by decide +kernel
theorem dX10_weigh_74 : decode cX10_weigh 74 = .ok (.iaload, 1) := by decide +kernel
theorem dX10_weigh_75 : decode cX10_weigh 75 = .ok (.iastore, 1) := by decide +kernel
theorem dX10_weigh_76 : decode cX10_weigh 76 = .ok (.goto 53, 3) := by decide +kernel
theorem dX10_weigh_79 : decode cX10_weigh 79 = .ok (.aload_n 1, 1) := by decide +kernel
theorem dX10_weigh_80 : decode cX10_weigh 80 = .ok (.aload_n 2, 1) := by decide +kernel
theorem dX10_weigh_81 : decode cX10_weigh 81 = .ok (.iload_n 3, 1) := by decide +kernel
theorem dX10_weigh_82 : decode cX10_weigh 82 = .ok (.iload 5, 2) := by decide +kernel
theorem dX10_weigh_84 : decode cX10_weigh 84 = .ok (.invokevirtual 39, 3) := by decide +kernel
theorem dX10_weigh_87 : decode cX10_weigh 87 = .ok (.aload_n 1, 1) := by decide +kernel
theorem dX10_weigh_88 : decode cX10_weigh 88 = .ok (.getfield 45, 3) := by decide +kernel
theorem dX10_weigh_91 : decode cX10_weigh 91 = .ok (.iconst 0, 1) := by decide +kernel
theorem dX10_weigh_92 : decode cX10_weigh 92 = .ok (.aload_n 0, 1) := by decide +kernel
theorem dX10_weigh_93 : decode cX10_weigh 93 = .ok (.getfield 9, 3) := by decide +kernel
theorem dX10_weigh_96 : decode cX10_weigh 96 = .ok (.iload 5, 2) := by decide +kernel
theorem dX10_weigh_98 : decode cX10_weigh 98 = .ok (.iconst 5, 1) := by decide +kernel
theorem dX10_weigh_99 : decode cX10_weigh 99 = .ok (.imul, 1) := by decide +kernel
theorem dX10_weigh_100 : decode cX10_weigh 100 = .ok (.iconst 5, 1) := by decide +kernel
theorem dX10_weigh_101 : decode cX10_weigh 101 = .ok (.invokestatic 33, 3) := by decide +kernel
theorem dX10_weigh_104 : decode cX10_weigh 104 = .ok (.aload_n 0, 1) := by decide +kernel
theorem dX10_weigh_105 : decode cX10_weigh 105 = .ok (.getfield 15, 3) := by decide +kernel
theorem dX10_weigh_108 : decode cX10_weigh 108 = .ok (.iload 4, 2) := by decide +kernel
theorem dX10_weigh_110 : decode cX10_weigh 110 = .ok (.iload 5, 2) := by decide +kernel
theorem dX10_weigh_112 : decode cX10_weigh 112 = .ok (.iadd, 1) := by decide +kernel
theorem dX10_weigh_113 : decode cX10_weigh 113 = .ok (.aload_n 0, 1) := by decide +kernel
theorem dX10_weigh_114 : decode cX10_weigh 114 = .ok (.aload_n 2, 1) := by decide +kernel
theorem dX10_weigh_115 : decode cX10_weigh 115 = .ok (.getfield 48, 3) := by decide +kernel
theorem dX10_weigh_118 : decode cX10_weigh 118 = .ok (.getfield 52, 3) := by decide +kernel
theorem dX10_weigh_121 : decode cX10_weigh 121 = .ok (.iload 4, 2) := by decide +kernel
theorem dX10_weigh_123 : decode cX10_weigh 123 = .ok (.iload 5, 2) := by decide +kernel
theorem dX10_weigh_125 : decode cX10_weigh 125 = .ok (.invokevirtual 58, 3) := by decide +kernel
theorem dX10_weigh_128 : decode cX10_weigh 128 = .ok (.iastore, 1) := by decide +kernel
theorem dX10_weigh_129 : decode cX10_weigh 129 = .ok (.iinc 5 1, 3) := by decide +kernel
theorem dX10_weigh_132 : decode cX10_weigh 132 = .ok (.goto (-123), 3) := by decide +kernel
theorem dX10_weigh_135 : decode cX10_weigh 135 = .ok (.return_, 1) := by decide +kernel
theorem dX10_firstAlike_0 : decode cX10_firstAlike 0 = .ok (.iconst 0, 1) := by decide +kernel
theorem dX10_firstAlike_1 : decode cX10_firstAlike 1 = .ok (.istore 4, 2) := by decide +kernel
theorem dX10_firstAlike_3 : decode cX10_firstAlike 3 = .ok (.iload 4, 2) := by decide +kernel
theorem dX10_firstAlike_5 : decode cX10_firstAlike 5 = .ok (.iload_n 3, 1) := by decide +kernel
theorem dX10_firstAlike_6 : decode cX10_firstAlike 6 = .ok (.if_icmp .ge 37, 3) := by decide +kernel
theorem dX10_firstAlike_9 : decode cX10_firstAlike 9 = .ok (.aload_n 0, 1) := by decide +kernel
theorem dX10_firstAlike_10 : decode cX10_firstAlike 10 = .ok (.getfield 15, 3) := by decide +kernel
theorem dX10_firstAlike_13 : decode cX10_firstAlike 13 = .ok (.iload_n 2, 1) := by decide +kernel
theorem dX10_firstAlike_14 : decode cX10_firstAlike 14 = .ok (.iload 4, 2) := by decide +kernel
theorem dX10_firstAlike_16 : decode cX10_firstAlike 16 = .ok (.iadd, 1) := by decide +kernel
theorem dX10_firstAlike_17 : decode cX10_firstAlike 17 = .ok (.iaload, 1) := by decide +kernel
theorem dX10_firstAlike_18 : decode cX10_firstAlike 18 = .ok (.iload 4, 2) := by decide +kernel
theorem dX10_firstAlike_20 : decode cX10_firstAlike 20 = .ok (.if_icmp .ne 17, 3) := by decide +kernel
theorem dX10_firstAlike_23 : decode cX10_firstAlike 23 = .ok (.aload_n 0, 1) := by decide +kernel
theorem dX10_firstAlike_24 : decode cX10_firstAlike 24 = .ok (.iload_n 1, 1) := by decide +kernel
theorem dX10_firstAlike_25 : decode cX10_firstAlike 25 = .ok (.iload 4, 2) := by decide +kernel
theorem dX10_firstAlike_27 : decode cX10_firstAlike 27 = .ok (.iload_n 3, 1) := by decide +kernel
theorem dX10_firstAlike_28 : decode cX10_firstAlike 28 = .ok (.invokevirtual 62, 3) := by decide +kernel
theorem dX10_firstAlike_31 : decode cX10_firstAlike 31 = .ok (.ifCond .eq 6, 3) := by decide +kernel
theorem dX10_firstAlike_34 : decode cX10_firstAlike 34 = .ok (.iload 4, 2) := by decide +kernel
theorem dX10_firstAlike_36 : decode cX10_firstAlike 36 = .ok (.ireturn, 1) := by decide +kernel
theorem dX10_firstAlike_37 : decode cX10_firstAlike 37 = .ok (.iinc 4 1, 3) := by decide +kernel
theorem dX10_firstAlike_40 : decode cX10_firstAlike 40 = .ok (.goto (-37), 3) := by decide +kernel
theorem dX10_firstAlike_43 : decode cX10_firstAlike 43 = .ok (.iload_n 3, 1) := by decide +kernel
theorem dX10_firstAlike_44 : decode cX10_firstAlike 44 = .ok (.ireturn, 1) := by decide +kernel
theorem dX10_isAlike_0 : decode cX10_isAlike 0 = .ok (.iconst 0, 1) := by decide +kernel
theorem dX10_isAlike_1 : decode cX10_isAlike 1 = .ok (.istore 4, 2) := by decide +kernel
theorem dX10_isAlike_3 : decode cX10_isAlike 3 = .ok (.iload 4, 2) := by decide +kernel
theorem dX10_isAlike_5 : decode cX10_isAlike 5 = .ok (.iload_n 1, 1) := by decide +kernel
theorem dX10_isAlike_6 : decode cX10_isAlike 6 = .ok (.if_icmp .ge 36, 3) := by decide +kernel
theorem dX10_isAlike_9 : decode cX10_isAlike 9 = .ok (.aload_n 0, 1) := by decide +kernel
theorem dX10_isAlike_10 : decode cX10_isAlike 10 = .ok (.getfield 9, 3) := by decide +kernel
theorem dX10_isAlike_13 : decode cX10_isAlike 13 = .ok (.iload_n 2, 1) := by decide +kernel
theorem dX10_isAlike_14 : decode cX10_isAlike 14 = .ok (.iconst 5, 1) := by decide +kernel
theorem dX10_isAlike_15 : decode cX10_isAlike 15 = .ok (.imul, 1) := by decide +kernel
theorem dX10_isAlike_16 : decode cX10_isAlike 16 = .ok (.iload 4, 2) := by decide +kernel
theorem dX10_isAlike_18 : decode cX10_isAlike 18 = .ok (.iadd, 1) := by decide +kernel
theorem dX10_isAlike_19 : decode cX10_isAlike 19 = .ok (.iaload, 1) := by decide +kernel
theorem dX10_isAlike_20 : decode cX10_isAlike 20 = .ok (.aload_n 0, 1) := by decide +kernel
theorem dX10_isAlike_21 : decode cX10_isAlike 21 = .ok (.getfield 9, 3) := by decide +kernel
theorem dX10_isAlike_24 : decode cX10_isAlike 24 = .ok (.iload_n 3, 1) := by decide +kernel
theorem dX10_isAlike_25 : decode cX10_isAlike 25 = .ok (.iconst 5, 1) := by decide +kernel
theorem dX10_isAlike_26 : decode cX10_isAlike 26 = .ok (.imul, 1) := by decide +kernel
theorem dX10_isAlike_27 : decode cX10_isAlike 27 = .ok (.iload 4, 2) := by decide +kernel
theorem dX10_isAlike_29 : decode cX10_isAlike 29 = .ok (.iadd, 1) := by decide +kernel
theorem dX10_isAlike_30 : decode cX10_isAlike 30 = .ok (.iaload, 1) := by decide +kernel
theorem dX10_isAlike_31 : decode cX10_isAlike 31 = .ok (.if_icmp .eq 5, 3) := by decide +kernel
theorem dX10_isAlike_34 : decode cX10_isAlike 34 = .ok (.iconst 0, 1) := by decide +kernel
theorem dX10_isAlike_35 : decode cX10_isAlike 35 = .ok (.ireturn, 1) := by decide +kernel
theorem dX10_isAlike_36 : decode cX10_isAlike 36 = .ok (.iinc 4 1, 3) := by decide +kernel
theorem dX10_isAlike_39 : decode cX10_isAlike 39 = .ok (.goto (-36), 3) := by decide +kernel
theorem dX10_isAlike_42 : decode cX10_isAlike 42 = .ok (.iconst 1, 1) := by decide +kernel
theorem dX10_isAlike_43 : decode cX10_isAlike 43 = .ok (.ireturn, 1) := by decide +kernel
theorem dX10_fitting_0 : decode cX10_fitting 0 = .ok (.aload_n 2, 1) := by decide +kernel
theorem dX10_fitting_1 : decode cX10_fitting 1 = .ok (.invokevirtual 24, 3) := by decide +kernel
theorem dX10_fitting_4 : decode cX10_fitting 4 = .ok (.istore 5, 2) := by decide +kernel
theorem dX10_fitting_6 : decode cX10_fitting 6 = .ok (.iload 5, 2) := by decide +kernel
theorem dX10_fitting_8 : decode cX10_fitting 8 = .ok (.bipush 64, 2) := by decide +kernel
theorem dX10_fitting_10 : decode cX10_fitting 10 = .ok (.if_icmp .lt 9, 3) := by decide +kernel
theorem dX10_fitting_13 : decode cX10_fitting 13 = .ok (.ldc2_w 66, 3) := by decide +kernel
theorem dX10_fitting_16 : decode cX10_fitting 16 = .ok (.goto 9, 3) := by decide +kernel
theorem dX10_fitting_19 : decode cX10_fitting 19 = .ok (.lconst 1, 1) := by decide +kernel
theorem dX10_fitting_20 : decode cX10_fitting 20 = .ok (.iload 5, 2) := by decide +kernel
theorem dX10_fitting_22 : decode cX10_fitting 22 = .ok (.lshl, 1) := by decide +kernel
theorem dX10_fitting_23 : decode cX10_fitting 23 = .ok (.lconst 1, 1) := by decide +kernel
theorem dX10_fitting_24 : decode cX10_fitting 24 = .ok (.lsub, 1) := by decide +kernel
theorem dX10_fitting_25 : decode cX10_fitting 25 = .ok (.lstore 6, 2) := by decide +kernel
theorem dX10_fitting_27 : decode cX10_fitting 27 = .ok (.iconst 0, 1) := by decide +kernel
theorem dX10_fitting_28 : decode cX10_fitting 28 = .ok (.istore 8, 2) := by decide +kernel
theorem dX10_fitting_30 : decode cX10_fitting 30 = .ok (.iload 8, 2) := by decide +kernel
theorem dX10_fitting_32 : decode cX10_fitting 32 = .ok (.aload_n 2, 1) := by decide +kernel
theorem dX10_fitting_33 : decode cX10_fitting 33 = .ok (.getfield 68, 3) := by decide +kernel
theorem dX10_fitting_36 : decode cX10_fitting 36 = .ok (.if_icmp .ge 84, 3) := by decide +kernel
theorem dX10_fitting_39 : decode cX10_fitting 39 = .ok (.iconst 0, 1) := by decide +kernel
theorem dX10_fitting_40 : decode cX10_fitting 40 = .ok (.istore 9, 2) := by decide +kernel
theorem dX10_fitting_42 : decode cX10_fitting 42 = .ok (.iconst 0, 1) := by decide +kernel
theorem dX10_fitting_43 : decode cX10_fitting 43 = .ok (.istore 10, 2) := by decide +kernel
theorem dX10_fitting_45 : decode cX10_fitting 45 = .ok (.iload 10, 2) := by decide +kernel
theorem dX10_fitting_47 : decode cX10_fitting 47 = .ok (.iload 4, 2) := by decide +kernel
theorem dX10_fitting_49 : decode cX10_fitting 49 = .ok (.if_icmp .ge 65, 3) := by decide +kernel
theorem dX10_fitting_52 : decode cX10_fitting 52 = .ok (.aload_n 3, 1) := by decide +kernel
theorem dX10_fitting_53 : decode cX10_fitting 53 = .ok (.iload 10, 2) := by decide +kernel
theorem dX10_fitting_55 : decode cX10_fitting 55 = .ok (.iconst 0, 1) := by decide +kernel
theorem dX10_fitting_56 : decode cX10_fitting 56 = .ok (.invokevirtual 71, 3) := by decide +kernel
theorem dX10_fitting_59 : decode cX10_fitting 59 = .ok (.iload 8, 2) := by decide +kernel
theorem dX10_fitting_61 : decode cX10_fitting 61 = .ok (.if_icmp .eq 6, 3) := by decide +kernel
theorem dX10_fitting_64 : decode cX10_fitting 64 = .ok (.goto 44, 3) := by decide +kernel
theorem dX10_fitting_67 : decode cX10_fitting 67 = .ok (.iload 9, 2) := by decide +kernel
theorem dX10_fitting_69 : decode cX10_fitting 69 = .ok (.ifCond .ne 14, 3) := by decide +kernel
theorem dX10_fitting_72 : decode cX10_fitting 72 = .ok (.aload_n 0, 1) := by decide +kernel
theorem dX10_fitting_73 : decode cX10_fitting 73 = .ok (.aload_n 1, 1) := by decide +kernel
theorem dX10_fitting_74 : decode cX10_fitting 74 = .ok (.aload_n 2, 1) := by decide +kernel
theorem dX10_fitting_75 : decode cX10_fitting 75 = .ok (.iload 8, 2) := by decide +kernel
theorem dX10_fitting_77 : decode cX10_fitting 77 = .ok (.invokevirtual 77, 3) := by decide +kernel
theorem dX10_fitting_80 : decode cX10_fitting 80 = .ok (.iconst 1, 1) := by decide +kernel
theorem dX10_fitting_81 : decode cX10_fitting 81 = .ok (.istore 9, 2) := by decide +kernel
theorem dX10_fitting_83 : decode cX10_fitting 83 = .ok (.lload 6, 2) := by decide +kernel
theorem dX10_fitting_85 : decode cX10_fitting 85 = .ok (.aload_n 0, 1) := by decide +kernel
theorem dX10_fitting_86 : decode cX10_fitting 86 = .ok (.iload 5, 2) := by decide +kernel
theorem dX10_fitting_88 : decode cX10_fitting 88 = .ok (.aload_n 3, 1) := by decide +kernel
theorem dX10_fitting_89 : decode cX10_fitting 89 = .ok (.iload 10, 2) := by decide +kernel
theorem dX10_fitting_91 : decode cX10_fitting 91 = .ok (.iconst 1, 1) := by decide +kernel
theorem dX10_fitting_92 : decode cX10_fitting 92 = .ok (.invokevirtual 71, 3) := by decide +kernel
theorem dX10_fitting_95 : decode cX10_fitting 95 = .ok (.aload_n 3, 1) := by decide +kernel
theorem dX10_fitting_96 : decode cX10_fitting 96 = .ok (.iload 10, 2) := by decide +kernel
theorem dX10_fitting_98 : decode cX10_fitting 98 = .ok (.iconst 2, 1) := by decide +kernel
theorem dX10_fitting_99 : decode cX10_fitting 99 = .ok (.invokevirtual 71, 3) := by decide +kernel
theorem dX10_fitting_102 : decode cX10_fitting 102 = .ok (.invokevirtual 81, 3) := by decide +kernel
theorem dX10_fitting_105 : decode cX10_fitting 105 = .ok (.land, 1) := by decide +kernel
theorem dX10_fitting_106 : decode cX10_fitting 106 = .ok (.lstore 6, 2) := by decide +kernel
theorem dX10_fitting_108 : decode cX10_fitting 108 = .ok (.iinc 10 1, 3) := by decide +kernel
theorem dX10_fitting_111 : decode cX10_fitting 111 = .ok (.goto (-66), 3) := by decide +kernel
theorem dX10_fitting_114 : decode cX10_fitting 114 = .ok (.iinc 8 1, 3) := by decide +kernel
theorem dX10_fitting_117 : decode cX10_fitting 117 = .ok (.goto (-87), 3) := by decide +kernel
theorem dX10_fitting_120 : decode cX10_fitting 120 = .ok (.lload 6, 2) := by decide +kernel
theorem dX10_fitting_122 : decode cX10_fitting 122 = .ok (.lreturn, 1) := by decide +kernel
theorem dX10_fittingRow_0 : decode cX10_fittingRow 0 = .ok (.lconst 0, 1) := by decide +kernel
theorem dX10_fittingRow_1 : decode cX10_fittingRow 1 = .ok (.lstore 4, 2) := by decide +kernel
theorem dX10_fittingRow_3 : decode cX10_fittingRow 3 = .ok (.iconst 0, 1) := by decide +kernel
theorem dX10_fittingRow_4 : decode cX10_fittingRow 4 = .ok (.istore 6, 2) := by decide +kernel
theorem dX10_fittingRow_6 : decode cX10_fittingRow 6 = .ok (.iload 6, 2) := by decide +kernel
theorem dX10_fittingRow_8 : decode cX10_fittingRow 8 = .ok (.iload_n 1, 1) := by decide +kernel
theorem dX10_fittingRow_9 : decode cX10_fittingRow 9 = .ok (.if_icmp .ge 47, 3) := by decide +kernel
theorem dX10_fittingRow_12 : decode cX10_fittingRow 12 = .ok (.iload 6, 2) := by decide +kernel
theorem dX10_fittingRow_14 : decode cX10_fittingRow 14 = .ok (.iconst 5, 1) := by decide +kernel
theorem dX10_fittingRow_15 : decode cX10_fittingRow 15 = .ok (.imul, 1) := by decide +kernel
theorem dX10_fittingRow_16 : decode cX10_fittingRow 16 = .ok (.iload_n 2, 1) := by decide +kernel
theorem dX10_fittingRow_17 : decode cX10_fittingRow 17 = .ok (.iadd, 1) := by decide +kernel
theorem dX10_fittingRow_18 : decode cX10_fittingRow 18 = .ok (.istore 7, 2) := by decide +kernel
theorem dX10_fittingRow_20 : decode cX10_fittingRow 20 = .ok (.iload 7, 2) := by decide +kernel
theorem dX10_fittingRow_22 : decode cX10_fittingRow 22 = .ok (.aload_n 0, 1) := by decide +kernel
theorem dX10_fittingRow_23 : decode cX10_fittingRow 23 = .ok (.getfield 9, 3) := by decide +kernel
theorem dX10_fittingRow_26 : decode cX10_fittingRow 26 = .ok (.arraylength, 1) := by decide +kernel
theorem dX10_fittingRow_27 : decode cX10_fittingRow 27 = .ok (.if_icmp .ge 23, 3) := by decide +kernel
theorem dX10_fittingRow_30 : decode cX10_fittingRow 30 = .ok (.aload_n 0, 1) := by decide +kernel
theorem dX10_fittingRow_31 : decode cX10_fittingRow 31 = .ok (.getfield 9, 3) := by decide +kernel
theorem dX10_fittingRow_34 : decode cX10_fittingRow 34 = .ok (.iload 7, 2) := by decide +kernel
theorem dX10_fittingRow_36 : decode cX10_fittingRow 36 = .ok (.iaload, 1) := by decide +kernel
theorem dX10_fittingRow_37 : decode cX10_fittingRow 37 = .ok (.iload_n 3, 1) := by decide +kernel
theorem dX10_fittingRow_38 : decode cX10_fittingRow 38 = .ok (.if_icmp .ne 12, 3) := by decide +kernel
theorem dX10_fittingRow_41 : decode cX10_fittingRow 41 = .ok (.lload 4, 2) := by decide +kernel
theorem dX10_fittingRow_43 : decode cX10_fittingRow 43 = .ok (.lconst 1, 1) := by decide +kernel
theorem dX10_fittingRow_44 : decode cX10_fittingRow 44 = .ok (.iload 6, 2) := by decide +kernel
theorem dX10_fittingRow_46 : decode cX10_fittingRow 46 = .ok (.lshl, 1) := by decide +kernel
theorem dX10_fittingRow_47 : decode cX10_fittingRow 47 = .ok (.lor, 1) := by decide +kernel
theorem dX10_fittingRow_48 : decode cX10_fittingRow 48 = .ok (.lstore 4, 2) := by decide +kernel
theorem dX10_fittingRow_50 : decode cX10_fittingRow 50 = .ok (.iinc 6 1, 3) := by decide +kernel
theorem dX10_fittingRow_53 : decode cX10_fittingRow 53 = .ok (.goto (-47), 3) := by decide +kernel
theorem dX10_fittingRow_56 : decode cX10_fittingRow 56 = .ok (.lload 4, 2) := by decide +kernel
theorem dX10_fittingRow_58 : decode cX10_fittingRow 58 = .ok (.lreturn, 1) := by decide +kernel
theorem dX10_greatestPart_0 : decode cX10_greatestPart 0 = .ok (.aload_n 0, 1) := by decide +kernel
theorem dX10_greatestPart_1 : decode cX10_greatestPart 1 = .ok (.aload_n 1, 1) := by decide +kernel
theorem dX10_greatestPart_2 : decode cX10_greatestPart 2 = .ok (.aload_n 2, 1) := by decide +kernel
theorem dX10_greatestPart_3 : decode cX10_greatestPart 3 = .ok (.iload_n 3, 1) := by decide +kernel
theorem dX10_greatestPart_4 : decode cX10_greatestPart 4 = .ok (.invokevirtual 77, 3) := by decide +kernel
theorem dX10_greatestPart_7 : decode cX10_greatestPart 7 = .ok (.aload_n 0, 1) := by decide +kernel
theorem dX10_greatestPart_8 : decode cX10_greatestPart 8 = .ok (.getfield 18, 3) := by decide +kernel
theorem dX10_greatestPart_11 : decode cX10_greatestPart 11 = .ok (.iconst 0, 1) := by decide +kernel
theorem dX10_greatestPart_12 : decode cX10_greatestPart 12 = .ok (.invokestatic 85, 3) := by decide +kernel
theorem dX10_greatestPart_15 : decode cX10_greatestPart 15 = .ok (.iconst 0, 1) := by decide +kernel
theorem dX10_greatestPart_16 : decode cX10_greatestPart 16 = .ok (.istore 6, 2) := by decide +kernel
theorem dX10_greatestPart_18 : decode cX10_greatestPart 18 = .ok (.iconst 0, 1) := by decide +kernel
theorem dX10_greatestPart_19 : decode cX10_greatestPart 19 = .ok (.istore 7, 2) := by decide +kernel
theorem dX10_greatestPart_21 : decode cX10_greatestPart 21 = .ok (.iload 7, 2) := by decide +kernel
theorem dX10_greatestPart_23 : decode cX10_greatestPart 23 = .ok (.aload_n 2, 1) := by decide +kernel
theorem dX10_greatestPart_24 : decode cX10_greatestPart 24 = .ok (.invokevirtual 24, 3) := by decide +kernel
theorem dX10_greatestPart_27 : decode cX10_greatestPart 27 = .ok (.if_icmp .ge 60, 3) := by decide +kernel
theorem dX10_greatestPart_30 : decode cX10_greatestPart 30 = .ok (.lload 4, 2) := by decide +kernel
theorem dX10_greatestPart_32 : decode cX10_greatestPart 32 = .ok (.iload 7, 2) := by decide +kernel
theorem dX10_greatestPart_34 : decode cX10_greatestPart 34 = .ok (.lushr, 1) := by decide +kernel
theorem dX10_greatestPart_35 : decode cX10_greatestPart 35 = .ok (.lconst 1, 1) := by decide +kernel
theorem dX10_greatestPart_36 : decode cX10_greatestPart 36 = .ok (.land, 1) := by decide +kernel
theorem dX10_greatestPart_37 : decode cX10_greatestPart 37 = .ok (.lconst 0, 1) := by decide +kernel
theorem dX10_greatestPart_38 : decode cX10_greatestPart 38 = .ok (.lcmp, 1) := by decide +kernel
theorem dX10_greatestPart_39 : decode cX10_greatestPart 39 = .ok (.ifCond .eq 42, 3) := by decide +kernel
theorem dX10_greatestPart_42 : decode cX10_greatestPart 42 = .ok (.aload_n 0, 1) := by decide +kernel
theorem dX10_greatestPart_43 : decode cX10_greatestPart 43 = .ok (.getfield 15, 3) := by decide +kernel
theorem dX10_greatestPart_46 : decode cX10_greatestPart 46 = .ok (.iload_n 3, 1) := by decide +kernel
theorem dX10_greatestPart_47 : decode cX10_greatestPart 47 = .ok (.bipush 64, 2) := by decide +kernel
theorem dX10_greatestPart_49 : decode cX10_greatestPart 49 = .ok (.imul, 1) := by decide +kernel
theorem dX10_greatestPart_50 : decode cX10_greatestPart 50 = .ok (.iload 7, 2) := by decide +kernel
theorem dX10_greatestPart_52 : decode cX10_greatestPart 52 = .ok (.iadd, 1) := by decide +kernel
theorem dX10_greatestPart_53 : decode cX10_greatestPart 53 = .ok (.iaload, 1) := by decide +kernel
theorem dX10_greatestPart_54 : decode cX10_greatestPart 54 = .ok (.istore 8, 2) := by decide +kernel
theorem dX10_greatestPart_56 : decode cX10_greatestPart 56 = .ok (.aload_n 0, 1) := by decide +kernel
theorem dX10_greatestPart_57 : decode cX10_greatestPart 57 = .ok (.getfield 18, 3) := by decide +kernel
theorem dX10_greatestPart_60 : decode cX10_greatestPart 60 = .ok (.iload 8, 2) := by decide +kernel
theorem dX10_greatestPart_62 : decode cX10_greatestPart 62 = .ok (.dup2, 1) := by decide +kernel
theorem dX10_greatestPart_63 : decode cX10_greatestPart 63 = .ok (.iaload, 1) := by decide +kernel
theorem dX10_greatestPart_64 : decode cX10_greatestPart 64 = .ok (.iconst 1, 1) := by decide +kernel
theorem dX10_greatestPart_65 : decode cX10_greatestPart 65 = .ok (.iadd, 1) := by decide +kernel
theorem dX10_greatestPart_66 : decode cX10_greatestPart 66 = .ok (.iastore, 1) := by decide +kernel
theorem dX10_greatestPart_67 : decode cX10_greatestPart 67 = .ok (.iload 6, 2) := by decide +kernel
theorem dX10_greatestPart_69 : decode cX10_greatestPart 69 = .ok (.aload_n 0, 1) := by decide +kernel
theorem dX10_greatestPart_70 : decode cX10_greatestPart 70 = .ok (.getfield 18, 3) := by decide +kernel
theorem dX10_greatestPart_73 : decode cX10_greatestPart 73 = .ok (.iload 8, 2) := by decide +kernel
theorem dX10_greatestPart_75 : decode cX10_greatestPart 75 = .ok (.iaload, 1) := by decide +kernel
theorem dX10_greatestPart_76 : decode cX10_greatestPart 76 = .ok (.invokestatic 91, 3) := by decide +kernel
theorem dX10_greatestPart_79 : decode cX10_greatestPart 79 = .ok (.istore 6, 2) := by decide +kernel
theorem dX10_greatestPart_81 : decode cX10_greatestPart 81 = .ok (.iinc 7 1, 3) := by decide +kernel
theorem dX10_greatestPart_84 : decode cX10_greatestPart 84 = .ok (.goto (-63), 3) := by decide +kernel
theorem dX10_greatestPart_87 : decode cX10_greatestPart 87 = .ok (.iload 6, 2) := by decide +kernel
theorem dX10_greatestPart_89 : decode cX10_greatestPart 89 = .ok (.ireturn, 1) := by decide +kernel
theorem dX10_partsOf_0 : decode cX10_partsOf 0 = .ok (.aload_n 0, 1) := by decide +kernel
theorem dX10_partsOf_1 : decode cX10_partsOf 1 = .ok (.aload_n 1, 1) := by decide +kernel
theorem dX10_partsOf_2 : decode cX10_partsOf 2 = .ok (.aload_n 2, 1) := by decide +kernel
theorem dX10_partsOf_3 : decode cX10_partsOf 3 = .ok (.iload_n 3, 1) := by decide +kernel
theorem dX10_partsOf_4 : decode cX10_partsOf 4 = .ok (.invokevirtual 77, 3) := by decide +kernel
theorem dX10_partsOf_7 : decode cX10_partsOf 7 = .ok (.iconst 0, 1) := by decide +kernel
theorem dX10_partsOf_8 : decode cX10_partsOf 8 = .ok (.istore 4, 2) := by decide +kernel
theorem dX10_partsOf_10 : decode cX10_partsOf 10 = .ok (.iconst 0, 1) := by decide +kernel
theorem dX10_partsOf_11 : decode cX10_partsOf 11 = .ok (.istore 5, 2) := by decide +kernel
theorem dX10_partsOf_13 : decode cX10_partsOf 13 = .ok (.iload 5, 2) := by decide +kernel
theorem dX10_partsOf_15 : decode cX10_partsOf 15 = .ok (.aload_n 2, 1) := by decide +kernel
theorem dX10_partsOf_16 : decode cX10_partsOf 16 = .ok (.invokevirtual 24, 3) := by decide +kernel
theorem dX10_partsOf_19 : decode cX10_partsOf 19 = .ok (.if_icmp .ge 29, 3) := by decide +kernel
theorem dX10_partsOf_22 : decode cX10_partsOf 22 = .ok (.aload_n 0, 1) := by decide +kernel
theorem dX10_partsOf_23 : decode cX10_partsOf 23 = .ok (.getfield 15, 3) := by decide +kernel
theorem dX10_partsOf_26 : decode cX10_partsOf 26 = .ok (.iload_n 3, 1) := by decide +kernel
theorem dX10_partsOf_27 : decode cX10_partsOf 27 = .ok (.bipush 64, 2) := by decide +kernel
theorem dX10_partsOf_29 : decode cX10_partsOf 29 = .ok (.imul, 1) := by decide +kernel
theorem dX10_partsOf_30 : decode cX10_partsOf 30 = .ok (.iload 5, 2) := by decide +kernel
theorem dX10_partsOf_32 : decode cX10_partsOf 32 = .ok (.iadd, 1) := by decide +kernel
theorem dX10_partsOf_33 : decode cX10_partsOf 33 = .ok (.iaload, 1) := by decide +kernel
theorem dX10_partsOf_34 : decode cX10_partsOf 34 = .ok (.iload 5, 2) := by decide +kernel
theorem dX10_partsOf_36 : decode cX10_partsOf 36 = .ok (.if_icmp .ne 6, 3) := by decide +kernel
theorem dX10_partsOf_39 : decode cX10_partsOf 39 = .ok (.iinc 4 1, 3) := by decide +kernel
theorem dX10_partsOf_42 : decode cX10_partsOf 42 = .ok (.iinc 5 1, 3) := by decide +kernel
theorem dX10_partsOf_45 : decode cX10_partsOf 45 = .ok (.goto (-32), 3) := by decide +kernel
theorem dX10_partsOf_48 : decode cX10_partsOf 48 = .ok (.iload 4, 2) := by decide +kernel
theorem dX10_partsOf_50 : decode cX10_partsOf 50 = .ok (.ireturn, 1) := by decide +kernel
theorem dX10_partedBy_0 : decode cX10_partedBy 0 = .ok (.iconst 0, 1) := by decide +kernel
theorem dX10_partedBy_1 : decode cX10_partedBy 1 = .ok (.istore 4, 2) := by decide +kernel
theorem dX10_partedBy_3 : decode cX10_partedBy 3 = .ok (.iconst 0, 1) := by decide +kernel
theorem dX10_partedBy_4 : decode cX10_partedBy 4 = .ok (.istore 5, 2) := by decide +kernel
theorem dX10_partedBy_6 : decode cX10_partedBy 6 = .ok (.iload 5, 2) := by decide +kernel
theorem dX10_partedBy_8 : decode cX10_partedBy 8 = .ok (.iload_n 1, 1) := by decide +kernel
theorem dX10_partedBy_9 : decode cX10_partedBy 9 = .ok (.if_icmp .ge 45, 3) := by decide +kernel
theorem dX10_partedBy_12 : decode cX10_partedBy 12 = .ok (.aload_n 0, 1) := by decide +kernel
theorem dX10_partedBy_13 : decode cX10_partedBy 13 = .ok (.getfield 15, 3) := by decide +kernel
theorem dX10_partedBy_16 : decode cX10_partedBy 16 = .ok (.iload 5, 2) := by decide +kernel
theorem dX10_partedBy_18 : decode cX10_partedBy 18 = .ok (.bipush 64, 2) := by decide +kernel
theorem dX10_partedBy_20 : decode cX10_partedBy 20 = .ok (.imul, 1) := by decide +kernel
theorem dX10_partedBy_21 : decode cX10_partedBy 21 = .ok (.iload_n 2, 1) := by decide +kernel
theorem dX10_partedBy_22 : decode cX10_partedBy 22 = .ok (.iadd, 1) := by decide +kernel
theorem dX10_partedBy_23 : decode cX10_partedBy 23 = .ok (.iaload, 1) := by decide +kernel
theorem dX10_partedBy_24 : decode cX10_partedBy 24 = .ok (.aload_n 0, 1) := by decide +kernel
theorem dX10_partedBy_25 : decode cX10_partedBy 25 = .ok (.getfield 15, 3) := by decide +kernel
theorem dX10_partedBy_28 : decode cX10_partedBy 28 = .ok (.iload 5, 2) := by decide +kernel
theorem dX10_partedBy_30 : decode cX10_partedBy 30 = .ok (.bipush 64, 2) := by decide +kernel
theorem dX10_partedBy_32 : decode cX10_partedBy 32 = .ok (.imul, 1) := by decide +kernel
theorem dX10_partedBy_33 : decode cX10_partedBy 33 = .ok (.iload_n 3, 1) := by decide +kernel
theorem dX10_partedBy_34 : decode cX10_partedBy 34 = .ok (.iadd, 1) := by decide +kernel
theorem dX10_partedBy_35 : decode cX10_partedBy 35 = .ok (.iaload, 1) := by decide +kernel
theorem dX10_partedBy_36 : decode cX10_partedBy 36 = .ok (.if_icmp .eq 12, 3) := by decide +kernel
theorem dX10_partedBy_39 : decode cX10_partedBy 39 = .ok (.iload 4, 2) := by decide +kernel
theorem dX10_partedBy_41 : decode cX10_partedBy 41 = .ok (.iconst 1, 1) := by decide +kernel
theorem dX10_partedBy_42 : decode cX10_partedBy 42 = .ok (.iload 5, 2) := by decide +kernel
theorem dX10_partedBy_44 : decode cX10_partedBy 44 = .ok (.ishl, 1) := by decide +kernel
theorem dX10_partedBy_45 : decode cX10_partedBy 45 = .ok (.ior, 1) := by decide +kernel
theorem dX10_partedBy_46 : decode cX10_partedBy 46 = .ok (.istore 4, 2) := by decide +kernel
theorem dX10_partedBy_48 : decode cX10_partedBy 48 = .ok (.iinc 5 1, 3) := by decide +kernel
theorem dX10_partedBy_51 : decode cX10_partedBy 51 = .ok (.goto (-45), 3) := by decide +kernel
theorem dX10_partedBy_54 : decode cX10_partedBy 54 = .ok (.iload 4, 2) := by decide +kernel
theorem dX10_partedBy_56 : decode cX10_partedBy 56 = .ok (.ireturn, 1) := by decide +kernel
theorem dX10_hidden_0 : decode cX10_hidden 0 = .ok (.iconst 0, 1) := by decide +kernel
theorem dX10_hidden_1 : decode cX10_hidden 1 = .ok (.istore_n 3, 1) := by decide +kernel
theorem dX10_hidden_2 : decode cX10_hidden 2 = .ok (.iload_n 3, 1) := by decide +kernel
theorem dX10_hidden_3 : decode cX10_hidden 3 = .ok (.aload_n 2, 1) := by decide +kernel
theorem dX10_hidden_4 : decode cX10_hidden 4 = .ok (.getfield 68, 3) := by decide +kernel
theorem dX10_hidden_7 : decode cX10_hidden 7 = .ok (.if_icmp .ge 16, 3) := by decide +kernel
theorem dX10_hidden_10 : decode cX10_hidden 10 = .ok (.aload_n 0, 1) := by decide +kernel
theorem dX10_hidden_11 : decode cX10_hidden 11 = .ok (.aload_n 1, 1) := by decide +kernel
theorem dX10_hidden_12 : decode cX10_hidden 12 = .ok (.aload_n 2, 1) := by decide +kernel
theorem dX10_hidden_13 : decode cX10_hidden 13 = .ok (.iload_n 3, 1) := by decide +kernel
theorem dX10_hidden_14 : decode cX10_hidden 14 = .ok (.invokevirtual 77, 3) := by decide +kernel
theorem dX10_hidden_17 : decode cX10_hidden 17 = .ok (.iinc 3 1, 3) := by decide +kernel
theorem dX10_hidden_20 : decode cX10_hidden 20 = .ok (.goto (-18), 3) := by decide +kernel
theorem dX10_hidden_23 : decode cX10_hidden 23 = .ok (.iconst 0, 1) := by decide +kernel
theorem dX10_hidden_24 : decode cX10_hidden 24 = .ok (.istore_n 3, 1) := by decide +kernel
theorem dX10_hidden_25 : decode cX10_hidden 25 = .ok (.iconst 0, 1) := by decide +kernel
theorem dX10_hidden_26 : decode cX10_hidden 26 = .ok (.istore 4, 2) := by decide +kernel
theorem dX10_hidden_28 : decode cX10_hidden 28 = .ok (.iload 4, 2) := by decide +kernel
theorem dX10_hidden_30 : decode cX10_hidden 30 = .ok (.aload_n 2, 1) := by decide +kernel
theorem dX10_hidden_31 : decode cX10_hidden 31 = .ok (.invokevirtual 24, 3) := by decide +kernel
theorem dX10_hidden_34 : decode cX10_hidden 34 = .ok (.if_icmp .ge 65, 3) := by decide +kernel
theorem dX10_hidden_37 : decode cX10_hidden 37 = .ok (.iload 4, 2) := by decide +kernel
theorem dX10_hidden_39 : decode cX10_hidden 39 = .ok (.iconst 1, 1) := by decide +kernel
theorem dX10_hidden_40 : decode cX10_hidden 40 = .ok (.iadd, 1) := by decide +kernel
theorem dX10_hidden_41 : decode cX10_hidden 41 = .ok (.istore 5, 2) := by decide +kernel
theorem dX10_hidden_43 : decode cX10_hidden 43 = .ok (.iload 5, 2) := by decide +kernel
theorem dX10_hidden_45 : decode cX10_hidden 45 = .ok (.aload_n 2, 1) := by decide +kernel
theorem dX10_hidden_46 : decode cX10_hidden 46 = .ok (.invokevirtual 24, 3) := by decide +kernel
theorem dX10_hidden_49 : decode cX10_hidden 49 = .ok (.if_icmp .ge 44, 3) := by decide +kernel
theorem dX10_hidden_52 : decode cX10_hidden 52 = .ok (.iload 4, 2) := by decide +kernel
theorem dX10_hidden_54 : decode cX10_hidden 54 = .ok (.iload 5, 2) := by decide +kernel
theorem dX10_hidden_56 : decode cX10_hidden 56 = .ok (.ixor, 1) := by decide +kernel
theorem dX10_hidden_57 : decode cX10_hidden 57 = .ok (.iload_n 3, 1) := by decide +kernel
theorem dX10_hidden_58 : decode cX10_hidden 58 = .ok (.iconst (-1), 1) := by decide +kernel
theorem dX10_hidden_59 : decode cX10_hidden 59 = .ok (.ixor, 1) := by decide +kernel
theorem dX10_hidden_60 : decode cX10_hidden 60 = .ok (.iand, 1) := by decide +kernel
theorem dX10_hidden_61 : decode cX10_hidden 61 = .ok (.ifCond .eq 26, 3) := by decide +kernel
theorem dX10_hidden_64 : decode cX10_hidden 64 = .ok (.aload_n 0, 1) := by decide +kernel
theorem dX10_hidden_65 : decode cX10_hidden 65 = .ok (.aload_n 2, 1) := by decide +kernel
theorem dX10_hidden_66 : decode cX10_hidden 66 = .ok (.getfield 68, 3) := by decide +kernel
theorem dX10_hidden_69 : decode cX10_hidden 69 = .ok (.iload 4, 2) := by decide +kernel
theorem dX10_hidden_71 : decode cX10_hidden 71 = .ok (.iload 5, 2) := by decide +kernel
theorem dX10_hidden_73 : decode cX10_hidden 73 = .ok (.invokevirtual 96, 3) := by decide +kernel
theorem dX10_hidden_76 : decode cX10_hidden 76 = .ok (.ifCond .ne 11, 3) := by decide +kernel
theorem dX10_hidden_79 : decode cX10_hidden 79 = .ok (.iload_n 3, 1) := by decide +kernel
theorem dX10_hidden_80 : decode cX10_hidden 80 = .ok (.iload 4, 2) := by decide +kernel
theorem dX10_hidden_82 : decode cX10_hidden 82 = .ok (.iload 5, 2) := by decide +kernel
theorem dX10_hidden_84 : decode cX10_hidden 84 = .ok (.ixor, 1) := by decide +kernel
theorem dX10_hidden_85 : decode cX10_hidden 85 = .ok (.ior, 1) := by decide +kernel
theorem dX10_hidden_86 : decode cX10_hidden 86 = .ok (.istore_n 3, 1) := by decide +kernel
theorem dX10_hidden_87 : decode cX10_hidden 87 = .ok (.iinc 5 1, 3) := by decide +kernel
theorem dX10_hidden_90 : decode cX10_hidden 90 = .ok (.goto (-47), 3) := by decide +kernel
theorem dX10_hidden_93 : decode cX10_hidden 93 = .ok (.iinc 4 1, 3) := by decide +kernel
theorem dX10_hidden_96 : decode cX10_hidden 96 = .ok (.goto (-68), 3) := by decide +kernel
theorem dX10_hidden_99 : decode cX10_hidden 99 = .ok (.iload_n 3, 1) := by decide +kernel
theorem dX10_hidden_100 : decode cX10_hidden 100 = .ok (.ireturn, 1) := by decide +kernel
theorem dX10_knownBy_0 : decode cX10_knownBy 0 = .ok (.iconst 0, 1) := by decide +kernel
theorem dX10_knownBy_1 : decode cX10_knownBy 1 = .ok (.istore 4, 2) := by decide +kernel
theorem dX10_knownBy_3 : decode cX10_knownBy 3 = .ok (.iload 4, 2) := by decide +kernel
theorem dX10_knownBy_5 : decode cX10_knownBy 5 = .ok (.aload_n 2, 1) := by decide +kernel
theorem dX10_knownBy_6 : decode cX10_knownBy 6 = .ok (.getfield 68, 3) := by decide +kernel
theorem dX10_knownBy_9 : decode cX10_knownBy 9 = .ok (.if_icmp .ge 17, 3) := by decide +kernel
theorem dX10_knownBy_12 : decode cX10_knownBy 12 = .ok (.aload_n 0, 1) := by decide +kernel
theorem dX10_knownBy_13 : decode cX10_knownBy 13 = .ok (.aload_n 1, 1) := by decide +kernel
theorem dX10_knownBy_14 : decode cX10_knownBy 14 = .ok (.aload_n 2, 1) := by decide +kernel
theorem dX10_knownBy_15 : decode cX10_knownBy 15 = .ok (.iload 4, 2) := by decide +kernel
theorem dX10_knownBy_17 : decode cX10_knownBy 17 = .ok (.invokevirtual 77, 3) := by decide +kernel
theorem dX10_knownBy_20 : decode cX10_knownBy 20 = .ok (.iinc 4 1, 3) := by decide +kernel
theorem dX10_knownBy_23 : decode cX10_knownBy 23 = .ok (.goto (-20), 3) := by decide +kernel
theorem dX10_knownBy_26 : decode cX10_knownBy 26 = .ok (.aload_n 0, 1) := by decide +kernel
theorem dX10_knownBy_27 : decode cX10_knownBy 27 = .ok (.aload_n 2, 1) := by decide +kernel
theorem dX10_knownBy_28 : decode cX10_knownBy 28 = .ok (.iload_n 3, 1) := by decide +kernel
theorem dX10_knownBy_29 : decode cX10_knownBy 29 = .ok (.invokevirtual 99, 3) := by decide +kernel
theorem dX10_knownBy_32 : decode cX10_knownBy 32 = .ok (.iconst 1, 1) := by decide +kernel
theorem dX10_knownBy_33 : decode cX10_knownBy 33 = .ok (.aload_n 2, 1) := by decide +kernel
theorem dX10_knownBy_34 : decode cX10_knownBy 34 = .ok (.getfield 68, 3) := by decide +kernel
theorem dX10_knownBy_37 : decode cX10_knownBy 37 = .ok (.ishl, 1) := by decide +kernel
theorem dX10_knownBy_38 : decode cX10_knownBy 38 = .ok (.iconst 1, 1) := by decide +kernel
theorem dX10_knownBy_39 : decode cX10_knownBy 39 = .ok (.isub, 1) := by decide +kernel
theorem dX10_knownBy_40 : decode cX10_knownBy 40 = .ok (.istore 4, 2) := by decide +kernel
theorem dX10_knownBy_42 : decode cX10_knownBy 42 = .ok (.iconst (-1), 1) := by decide +kernel
theorem dX10_knownBy_43 : decode cX10_knownBy 43 = .ok (.istore 5, 2) := by decide +kernel
theorem dX10_knownBy_45 : decode cX10_knownBy 45 = .ok (.iconst 0, 1) := by decide +kernel
theorem dX10_knownBy_46 : decode cX10_knownBy 46 = .ok (.istore 6, 2) := by decide +kernel
theorem dX10_knownBy_48 : decode cX10_knownBy 48 = .ok (.iload 6, 2) := by decide +kernel
theorem dX10_knownBy_50 : decode cX10_knownBy 50 = .ok (.iload 4, 2) := by decide +kernel
theorem dX10_knownBy_52 : decode cX10_knownBy 52 = .ok (.if_icmp .gt 59, 3) := by decide +kernel
theorem dX10_knownBy_55 : decode cX10_knownBy 55 = .ok (.iload 5, 2) := by decide +kernel
theorem dX10_knownBy_57 : decode cX10_knownBy 57 = .ok (.iconst (-1), 1) := by decide +kernel
theorem dX10_knownBy_58 : decode cX10_knownBy 58 = .ok (.if_icmp .eq 16, 3) := by decide +kernel
theorem dX10_knownBy_61 : decode cX10_knownBy 61 = .ok (.iload 6, 2) := by decide +kernel
theorem dX10_knownBy_63 : decode cX10_knownBy 63 = .ok (.invokestatic 103, 3) := by decide +kernel
theorem dX10_knownBy_66 : decode cX10_knownBy 66 = .ok (.iload 5, 2) := by decide +kernel
theorem dX10_knownBy_68 : decode cX10_knownBy 68 = .ok (.invokestatic 103, 3) := by decide +kernel
theorem dX10_knownBy_71 : decode cX10_knownBy 71 = .ok (.if_icmp .ge 7, 3) := by decide +kernel
theorem dX10_knownBy_74 : decode cX10_knownBy 74 = .ok (.iconst 1, 1) := by decide +kernel
theorem dX10_knownBy_75 : decode cX10_knownBy 75 = .ok (.goto 4, 3) := by decide +kernel
theorem dX10_knownBy_78 : decode cX10_knownBy 78 = .ok (.iconst 0, 1) := by decide +kernel
theorem dX10_knownBy_79 : decode cX10_knownBy 79 = .ok (.istore 7, 2) := by decide +kernel
theorem dX10_knownBy_81 : decode cX10_knownBy 81 = .ok (.iload 7, 2) := by decide +kernel
theorem dX10_knownBy_83 : decode cX10_knownBy 83 = .ok (.ifCond .eq 22, 3) := by decide +kernel
theorem dX10_knownBy_86 : decode cX10_knownBy 86 = .ok (.aload_n 0, 1) := by decide +kernel
theorem dX10_knownBy_87 : decode cX10_knownBy 87 = .ok (.getfield 21, 3) := by decide +kernel
theorem dX10_knownBy_90 : decode cX10_knownBy 90 = .ok (.iload 4, 2) := by decide +kernel
theorem dX10_knownBy_92 : decode cX10_knownBy 92 = .ok (.iload 6, 2) := by decide +kernel
theorem dX10_knownBy_94 : decode cX10_knownBy 94 = .ok (.iconst (-1), 1) := by decide +kernel
theorem dX10_knownBy_95 : decode cX10_knownBy 95 = .ok (.ixor, 1) := by decide +kernel
theorem dX10_knownBy_96 : decode cX10_knownBy 96 = .ok (.iand, 1) := by decide +kernel
theorem dX10_knownBy_97 : decode cX10_knownBy 97 = .ok (.iaload, 1) := by decide +kernel
theorem dX10_knownBy_98 : decode cX10_knownBy 98 = .ok (.ifCond .ne 7, 3) := by decide +kernel
theorem dX10_knownBy_101 : decode cX10_knownBy 101 = .ok (.iload 6, 2) := by decide +kernel
theorem dX10_knownBy_103 : decode cX10_knownBy 103 = .ok (.istore 5, 2) := by decide +kernel
theorem dX10_knownBy_105 : decode cX10_knownBy 105 = .ok (.iinc 6 1, 3) := by decide +kernel
theorem dX10_knownBy_108 : decode cX10_knownBy 108 = .ok (.goto (-60), 3) := by decide +kernel
theorem dX10_knownBy_111 : decode cX10_knownBy 111 = .ok (.iload 5, 2) := by decide +kernel
theorem dX10_knownBy_113 : decode cX10_knownBy 113 = .ok (.ireturn, 1) := by decide +kernel
theorem dX10_markUnparted_0 : decode cX10_markUnparted 0 = .ok (.aload_n 0, 1) := by decide +kernel
theorem dX10_markUnparted_1 : decode cX10_markUnparted 1 = .ok (.getfield 21, 3) := by decide +kernel
theorem dX10_markUnparted_4 : decode cX10_markUnparted 4 = .ok (.iconst 0, 1) := by decide +kernel
theorem dX10_markUnparted_5 : decode cX10_markUnparted 5 = .ok (.invokestatic 85, 3) := by decide +kernel
theorem dX10_markUnparted_8 : decode cX10_markUnparted 8 = .ok (.iconst 0, 1) := by decide +kernel
theorem dX10_markUnparted_9 : decode cX10_markUnparted 9 = .ok (.istore_n 3, 1) := by decide +kernel
theorem dX10_markUnparted_10 : decode cX10_markUnparted 10 = .ok (.iload_n 3, 1) := by decide +kernel
theorem dX10_markUnparted_11 : decode cX10_markUnparted 11 = .ok (.aload_n 1, 1) := by decide +kernel
theorem dX10_markUnparted_12 : decode cX10_markUnparted 12 = .ok (.invokevirtual 24, 3) := by decide +kernel
theorem dX10_markUnparted_15 : decode cX10_markUnparted 15 = .ok (.if_icmp .ge 57, 3) := by decide +kernel
theorem dX10_markUnparted_18 : decode cX10_markUnparted 18 = .ok (.iload_n 3, 1) := by decide +kernel
theorem dX10_markUnparted_19 : decode cX10_markUnparted 19 = .ok (.iconst 1, 1) := by decide +kernel
theorem dX10_markUnparted_20 : decode cX10_markUnparted 20 = .ok (.iadd, 1) := by decide +kernel
theorem dX10_markUnparted_21 : decode cX10_markUnparted 21 = .ok (.istore 4, 2) := by decide +kernel
theorem dX10_markUnparted_23 : decode cX10_markUnparted 23 = .ok (.iload 4, 2) := by decide +kernel
theorem dX10_markUnparted_25 : decode cX10_markUnparted 25 = .ok (.aload_n 1, 1) := by decide +kernel
theorem dX10_markUnparted_26 : decode cX10_markUnparted 26 = .ok (.invokevirtual 24, 3) := by decide +kernel
theorem dX10_markUnparted_29 : decode cX10_markUnparted 29 = .ok (.if_icmp .ge 37, 3) := by decide +kernel
theorem dX10_markUnparted_32 : decode cX10_markUnparted 32 = .ok (.iload_n 3, 1) := by decide +kernel
theorem dX10_markUnparted_33 : decode cX10_markUnparted 33 = .ok (.iload 4, 2) := by decide +kernel
theorem dX10_markUnparted_35 : decode cX10_markUnparted 35 = .ok (.ixor, 1) := by decide +kernel
theorem dX10_markUnparted_36 : decode cX10_markUnparted 36 = .ok (.iload_n 2, 1) := by decide +kernel
theorem dX10_markUnparted_37 : decode cX10_markUnparted 37 = .ok (.ishr, 1) := by decide +kernel
theorem dX10_markUnparted_38 : decode cX10_markUnparted 38 = .ok (.iconst 1, 1) := by decide +kernel
theorem dX10_markUnparted_39 : decode cX10_markUnparted 39 = .ok (.iand, 1) := by decide +kernel
theorem dX10_markUnparted_40 : decode cX10_markUnparted 40 = .ok (.ifCond .eq 20, 3) := by decide +kernel
theorem dX10_markUnparted_43 : decode cX10_markUnparted 43 = .ok (.aload_n 0, 1) := by decide +kernel
theorem dX10_markUnparted_44 : decode cX10_markUnparted 44 = .ok (.getfield 21, 3) := by decide +kernel
theorem dX10_markUnparted_47 : decode cX10_markUnparted 47 = .ok (.aload_n 0, 1) := by decide +kernel
theorem dX10_markUnparted_48 : decode cX10_markUnparted 48 = .ok (.aload_n 1, 1) := by decide +kernel
theorem dX10_markUnparted_49 : decode cX10_markUnparted 49 = .ok (.getfield 68, 3) := by decide +kernel
theorem dX10_markUnparted_52 : decode cX10_markUnparted 52 = .ok (.iload_n 3, 1) := by decide +kernel
theorem dX10_markUnparted_53 : decode cX10_markUnparted 53 = .ok (.iload 4, 2) := by decide +kernel
theorem dX10_markUnparted_55 : decode cX10_markUnparted 55 = .ok (.invokevirtual 96, 3) := by decide +kernel
theorem dX10_markUnparted_58 : decode cX10_markUnparted 58 = .ok (.iconst 1, 1) := by decide +kernel
theorem dX10_markUnparted_59 : decode cX10_markUnparted 59 = .ok (.iastore, 1) := by decide +kernel
theorem dX10_markUnparted_60 : decode cX10_markUnparted 60 = .ok (.iinc 4 1, 3) := by decide +kernel
theorem dX10_markUnparted_63 : decode cX10_markUnparted 63 = .ok (.goto (-40), 3) := by decide +kernel
theorem dX10_markUnparted_66 : decode cX10_markUnparted 66 = .ok (.iinc 3 1, 3) := by decide +kernel
theorem dX10_markUnparted_69 : decode cX10_markUnparted 69 = .ok (.goto (-59), 3) := by decide +kernel
theorem dX10_markUnparted_72 : decode cX10_markUnparted 72 = .ok (.iconst 0, 1) := by decide +kernel
theorem dX10_markUnparted_73 : decode cX10_markUnparted 73 = .ok (.istore_n 3, 1) := by decide +kernel
theorem dX10_markUnparted_74 : decode cX10_markUnparted 74 = .ok (.iload_n 3, 1) := by decide +kernel
theorem dX10_markUnparted_75 : decode cX10_markUnparted 75 = .ok (.aload_n 1, 1) := by decide +kernel
theorem dX10_markUnparted_76 : decode cX10_markUnparted 76 = .ok (.getfield 68, 3) := by decide +kernel
theorem dX10_markUnparted_79 : decode cX10_markUnparted 79 = .ok (.if_icmp .ge 62, 3) := by decide +kernel
theorem dX10_markUnparted_82 : decode cX10_markUnparted 82 = .ok (.iconst 0, 1) := by decide +kernel
theorem dX10_markUnparted_83 : decode cX10_markUnparted 83 = .ok (.istore 4, 2) := by decide +kernel
theorem dX10_markUnparted_85 : decode cX10_markUnparted 85 = .ok (.iload 4, 2) := by decide +kernel
theorem dX10_markUnparted_87 : decode cX10_markUnparted 87 = .ok (.iconst 1, 1) := by decide +kernel
theorem dX10_markUnparted_88 : decode cX10_markUnparted 88 = .ok (.aload_n 1, 1) := by decide +kernel
theorem dX10_markUnparted_89 : decode cX10_markUnparted 89 = .ok (.getfield 68, 3) := by decide +kernel
theorem dX10_markUnparted_92 : decode cX10_markUnparted 92 = .ok (.ishl, 1) := by decide +kernel
theorem dX10_markUnparted_93 : decode cX10_markUnparted 93 = .ok (.if_icmp .ge 42, 3) := by decide +kernel
theorem dX10_markUnparted_96 : decode cX10_markUnparted 96 = .ok (.iload 4, 2) := by decide +kernel
theorem dX10_markUnparted_98 : decode cX10_markUnparted 98 = .ok (.iload_n 3, 1) := by decide +kernel
theorem dX10_markUnparted_99 : decode cX10_markUnparted 99 = .ok (.ishr, 1) := by decide +kernel
theorem dX10_markUnparted_100 : decode cX10_markUnparted 100 = .ok (.iconst 1, 1) := by decide +kernel
theorem dX10_markUnparted_101 : decode cX10_markUnparted 101 = .ok (.iand, 1) := by decide +kernel
theorem dX10_markUnparted_102 : decode cX10_markUnparted 102 = .ok (.ifCond .eq 27, 3) := by decide +kernel
theorem dX10_markUnparted_105 : decode cX10_markUnparted 105 = .ok (.aload_n 0, 1) := by decide +kernel
theorem dX10_markUnparted_106 : decode cX10_markUnparted 106 = .ok (.getfield 21, 3) := by decide +kernel
theorem dX10_markUnparted_109 : decode cX10_markUnparted 109 = .ok (.iload 4, 2) := by decide +kernel
theorem dX10_markUnparted_111 : decode cX10_markUnparted 111 = .ok (.iconst 1, 1) := by decide +kernel
theorem dX10_markUnparted_112 : decode cX10_markUnparted 112 = .ok (.iload_n 3, 1) := by decide +kernel
theorem dX10_markUnparted_113 : decode cX10_markUnparted 113 = .ok (.ishl, 1) := by decide +kernel
theorem dX10_markUnparted_114 : decode cX10_markUnparted 114 = .ok (.iconst (-1), 1) := by decide +kernel
theorem dX10_markUnparted_115 : decode cX10_markUnparted 115 = .ok (.ixor, 1) := by decide +kernel
theorem dX10_markUnparted_116 : decode cX10_markUnparted 116 = .ok (.iand, 1) := by decide +kernel
theorem dX10_markUnparted_117 : decode cX10_markUnparted 117 = .ok (.iaload, 1) := by decide +kernel
theorem dX10_markUnparted_118 : decode cX10_markUnparted 118 = .ok (.ifCond .eq 11, 3) := by decide +kernel
theorem dX10_markUnparted_121 : decode cX10_markUnparted 121 = .ok (.aload_n 0, 1) := by decide +kernel
theorem dX10_markUnparted_122 : decode cX10_markUnparted 122 = .ok (.getfield 21, 3) := by decide +kernel
theorem dX10_markUnparted_125 : decode cX10_markUnparted 125 = .ok (.iload 4, 2) := by decide +kernel
theorem dX10_markUnparted_127 : decode cX10_markUnparted 127 = .ok (.iconst 1, 1) := by decide +kernel
theorem dX10_markUnparted_128 : decode cX10_markUnparted 128 = .ok (.iastore, 1) := by decide +kernel
theorem dX10_markUnparted_129 : decode cX10_markUnparted 129 = .ok (.iinc 4 1, 3) := by decide +kernel
theorem dX10_markUnparted_132 : decode cX10_markUnparted 132 = .ok (.goto (-47), 3) := by decide +kernel
theorem dX10_markUnparted_135 : decode cX10_markUnparted 135 = .ok (.iinc 3 1, 3) := by decide +kernel
theorem dX10_markUnparted_138 : decode cX10_markUnparted 138 = .ok (.goto (-64), 3) := by decide +kernel
theorem dX10_markUnparted_141 : decode cX10_markUnparted 141 = .ok (.return_, 1) := by decide +kernel
theorem dJ6_numberOfTrailingZeros_0f7a4_0 : decode cJ6_numberOfTrailingZeros_0f7a4 0 = .ok (.iload_n 0, 1) := by decide +kernel
theorem dJ6_numberOfTrailingZeros_0f7a4_1 : decode cJ6_numberOfTrailingZeros_0f7a4 1 = .ok (.iconst (-1), 1) := by decide +kernel
theorem dJ6_numberOfTrailingZeros_0f7a4_2 : decode cJ6_numberOfTrailingZeros_0f7a4 2 = .ok (.ixor, 1) := by decide +kernel
theorem dJ6_numberOfTrailingZeros_0f7a4_3 : decode cJ6_numberOfTrailingZeros_0f7a4 3 = .ok (.iload_n 0, 1) := by decide +kernel
theorem dJ6_numberOfTrailingZeros_0f7a4_4 : decode cJ6_numberOfTrailingZeros_0f7a4 4 = .ok (.iconst 1, 1) := by decide +kernel
theorem dJ6_numberOfTrailingZeros_0f7a4_5 : decode cJ6_numberOfTrailingZeros_0f7a4 5 = .ok (.isub, 1) := by decide +kernel
theorem dJ6_numberOfTrailingZeros_0f7a4_6 : decode cJ6_numberOfTrailingZeros_0f7a4 6 = .ok (.iand, 1) := by decide +kernel
theorem dJ6_numberOfTrailingZeros_0f7a4_7 : decode cJ6_numberOfTrailingZeros_0f7a4 7 = .ok (.istore_n 0, 1) := by decide +kernel
theorem dJ6_numberOfTrailingZeros_0f7a4_8 : decode cJ6_numberOfTrailingZeros_0f7a4 8 = .ok (.iload_n 0, 1) := by decide +kernel
theorem dJ6_numberOfTrailingZeros_0f7a4_9 : decode cJ6_numberOfTrailingZeros_0f7a4 9 = .ok (.ifCond .gt 8, 3) := by decide +kernel
theorem dJ6_numberOfTrailingZeros_0f7a4_12 : decode cJ6_numberOfTrailingZeros_0f7a4 12 = .ok (.iload_n 0, 1) := by decide +kernel
theorem dJ6_numberOfTrailingZeros_0f7a4_13 : decode cJ6_numberOfTrailingZeros_0f7a4 13 = .ok (.bipush 32, 2) := by decide +kernel
theorem dJ6_numberOfTrailingZeros_0f7a4_15 : decode cJ6_numberOfTrailingZeros_0f7a4 15 = .ok (.iand, 1) := by decide +kernel
theorem dJ6_numberOfTrailingZeros_0f7a4_16 : decode cJ6_numberOfTrailingZeros_0f7a4 16 = .ok (.ireturn, 1) := by decide +kernel
theorem dJ6_numberOfTrailingZeros_0f7a4_17 : decode cJ6_numberOfTrailingZeros_0f7a4 17 = .ok (.iconst 1, 1) := by decide +kernel
theorem dJ6_numberOfTrailingZeros_0f7a4_18 : decode cJ6_numberOfTrailingZeros_0f7a4 18 = .ok (.istore_n 1, 1) := by decide +kernel
theorem dJ6_numberOfTrailingZeros_0f7a4_19 : decode cJ6_numberOfTrailingZeros_0f7a4 19 = .ok (.iload_n 0, 1) := by decide +kernel
theorem dJ6_numberOfTrailingZeros_0f7a4_20 : decode cJ6_numberOfTrailingZeros_0f7a4 20 = .ok (.ldc_w 264, 3) := by decide +kernel
theorem dJ6_numberOfTrailingZeros_0f7a4_23 : decode cJ6_numberOfTrailingZeros_0f7a4 23 = .ok (.if_icmp .le 11, 3) := by decide +kernel
theorem dJ6_numberOfTrailingZeros_0f7a4_26 : decode cJ6_numberOfTrailingZeros_0f7a4 26 = .ok (.iinc 1 16, 3) := by decide +kernel
theorem dJ6_numberOfTrailingZeros_0f7a4_29 : decode cJ6_numberOfTrailingZeros_0f7a4 29 = .ok (.iload_n 0, 1) := by decide +kernel
theorem dJ6_numberOfTrailingZeros_0f7a4_30 : decode cJ6_numberOfTrailingZeros_0f7a4 30 = .ok (.bipush 16, 2) := by decide +kernel
theorem dJ6_numberOfTrailingZeros_0f7a4_32 : decode cJ6_numberOfTrailingZeros_0f7a4 32 = .ok (.iushr, 1) := by decide +kernel
theorem dJ6_numberOfTrailingZeros_0f7a4_33 : decode cJ6_numberOfTrailingZeros_0f7a4 33 = .ok (.istore_n 0, 1) := by decide +kernel
theorem dJ6_numberOfTrailingZeros_0f7a4_34 : decode cJ6_numberOfTrailingZeros_0f7a4 34 = .ok (.iload_n 0, 1) := by decide +kernel
theorem dJ6_numberOfTrailingZeros_0f7a4_35 : decode cJ6_numberOfTrailingZeros_0f7a4 35 = .ok (.sipush 256, 3) := by decide +kernel
theorem dJ6_numberOfTrailingZeros_0f7a4_38 : decode cJ6_numberOfTrailingZeros_0f7a4 38 = .ok (.if_icmp .le 11, 3) := by decide +kernel
theorem dJ6_numberOfTrailingZeros_0f7a4_41 : decode cJ6_numberOfTrailingZeros_0f7a4 41 = .ok (.iinc 1 8, 3) := by decide +kernel
theorem dJ6_numberOfTrailingZeros_0f7a4_44 : decode cJ6_numberOfTrailingZeros_0f7a4 44 = .ok (.iload_n 0, 1) := by decide +kernel
theorem dJ6_numberOfTrailingZeros_0f7a4_45 : decode cJ6_numberOfTrailingZeros_0f7a4 45 = .ok (.bipush 8, 2) := by decide +kernel
theorem dJ6_numberOfTrailingZeros_0f7a4_47 : decode cJ6_numberOfTrailingZeros_0f7a4 47 = .ok (.iushr, 1) := by decide +kernel
theorem dJ6_numberOfTrailingZeros_0f7a4_48 : decode cJ6_numberOfTrailingZeros_0f7a4 48 = .ok (.istore_n 0, 1) := by decide +kernel
theorem dJ6_numberOfTrailingZeros_0f7a4_49 : decode cJ6_numberOfTrailingZeros_0f7a4 49 = .ok (.iload_n 0, 1) := by decide +kernel
theorem dJ6_numberOfTrailingZeros_0f7a4_50 : decode cJ6_numberOfTrailingZeros_0f7a4 50 = .ok (.bipush 16, 2) := by decide +kernel
theorem dJ6_numberOfTrailingZeros_0f7a4_52 : decode cJ6_numberOfTrailingZeros_0f7a4 52 = .ok (.if_icmp .le 10, 3) := by decide +kernel
theorem dJ6_numberOfTrailingZeros_0f7a4_55 : decode cJ6_numberOfTrailingZeros_0f7a4 55 = .ok (.iinc 1 4, 3) := by decide +kernel
theorem dJ6_numberOfTrailingZeros_0f7a4_58 : decode cJ6_numberOfTrailingZeros_0f7a4 58 = .ok (.iload_n 0, 1) := by decide +kernel
theorem dJ6_numberOfTrailingZeros_0f7a4_59 : decode cJ6_numberOfTrailingZeros_0f7a4 59 = .ok (.iconst 4, 1) := by decide +kernel
theorem dJ6_numberOfTrailingZeros_0f7a4_60 : decode cJ6_numberOfTrailingZeros_0f7a4 60 = .ok (.iushr, 1) := by decide +kernel
theorem dJ6_numberOfTrailingZeros_0f7a4_61 : decode cJ6_numberOfTrailingZeros_0f7a4 61 = .ok (.istore_n 0, 1) := by decide +kernel
theorem dJ6_numberOfTrailingZeros_0f7a4_62 : decode cJ6_numberOfTrailingZeros_0f7a4 62 = .ok (.iload_n 0, 1) := by decide +kernel
theorem dJ6_numberOfTrailingZeros_0f7a4_63 : decode cJ6_numberOfTrailingZeros_0f7a4 63 = .ok (.iconst 4, 1) := by decide +kernel
theorem dJ6_numberOfTrailingZeros_0f7a4_64 : decode cJ6_numberOfTrailingZeros_0f7a4 64 = .ok (.if_icmp .le 10, 3) := by decide +kernel
theorem dJ6_numberOfTrailingZeros_0f7a4_67 : decode cJ6_numberOfTrailingZeros_0f7a4 67 = .ok (.iinc 1 2, 3) := by decide +kernel
theorem dJ6_numberOfTrailingZeros_0f7a4_70 : decode cJ6_numberOfTrailingZeros_0f7a4 70 = .ok (.iload_n 0, 1) := by decide +kernel
theorem dJ6_numberOfTrailingZeros_0f7a4_71 : decode cJ6_numberOfTrailingZeros_0f7a4 71 = .ok (.iconst 2, 1) := by decide +kernel
theorem dJ6_numberOfTrailingZeros_0f7a4_72 : decode cJ6_numberOfTrailingZeros_0f7a4 72 = .ok (.iushr, 1) := by decide +kernel
theorem dJ6_numberOfTrailingZeros_0f7a4_73 : decode cJ6_numberOfTrailingZeros_0f7a4 73 = .ok (.istore_n 0, 1) := by decide +kernel
theorem dJ6_numberOfTrailingZeros_0f7a4_74 : decode cJ6_numberOfTrailingZeros_0f7a4 74 = .ok (.iload_n 1, 1) := by decide +kernel
theorem dJ6_numberOfTrailingZeros_0f7a4_75 : decode cJ6_numberOfTrailingZeros_0f7a4 75 = .ok (.iload_n 0, 1) := by decide +kernel
theorem dJ6_numberOfTrailingZeros_0f7a4_76 : decode cJ6_numberOfTrailingZeros_0f7a4 76 = .ok (.iconst 1, 1) := by decide +kernel
theorem dJ6_numberOfTrailingZeros_0f7a4_77 : decode cJ6_numberOfTrailingZeros_0f7a4 77 = .ok (.iushr, 1) := by decide +kernel
theorem dJ6_numberOfTrailingZeros_0f7a4_78 : decode cJ6_numberOfTrailingZeros_0f7a4 78 = .ok (.iadd, 1) := by decide +kernel
theorem dJ6_numberOfTrailingZeros_0f7a4_79 : decode cJ6_numberOfTrailingZeros_0f7a4 79 = .ok (.ireturn, 1) := by decide +kernel
theorem dJ6_bitCount_0f7a4_0 : decode cJ6_bitCount_0f7a4 0 = .ok (.iload_n 0, 1) := by decide +kernel
theorem dJ6_bitCount_0f7a4_1 : decode cJ6_bitCount_0f7a4 1 = .ok (.iload_n 0, 1) := by decide +kernel
theorem dJ6_bitCount_0f7a4_2 : decode cJ6_bitCount_0f7a4 2 = .ok (.iconst 1, 1) := by decide +kernel
theorem dJ6_bitCount_0f7a4_3 : decode cJ6_bitCount_0f7a4 3 = .ok (.iushr, 1) := by decide +kernel
theorem dJ6_bitCount_0f7a4_4 : decode cJ6_bitCount_0f7a4 4 = .ok (.ldc_w 265, 3) := by decide +kernel
theorem dJ6_bitCount_0f7a4_7 : decode cJ6_bitCount_0f7a4 7 = .ok (.iand, 1) := by decide +kernel
theorem dJ6_bitCount_0f7a4_8 : decode cJ6_bitCount_0f7a4 8 = .ok (.isub, 1) := by decide +kernel
theorem dJ6_bitCount_0f7a4_9 : decode cJ6_bitCount_0f7a4 9 = .ok (.istore_n 0, 1) := by decide +kernel
theorem dJ6_bitCount_0f7a4_10 : decode cJ6_bitCount_0f7a4 10 = .ok (.iload_n 0, 1) := by decide +kernel
theorem dJ6_bitCount_0f7a4_11 : decode cJ6_bitCount_0f7a4 11 = .ok (.ldc_w 266, 3) := by decide +kernel
theorem dJ6_bitCount_0f7a4_14 : decode cJ6_bitCount_0f7a4 14 = .ok (.iand, 1) := by decide +kernel
theorem dJ6_bitCount_0f7a4_15 : decode cJ6_bitCount_0f7a4 15 = .ok (.iload_n 0, 1) := by decide +kernel
theorem dJ6_bitCount_0f7a4_16 : decode cJ6_bitCount_0f7a4 16 = .ok (.iconst 2, 1) := by decide +kernel
theorem dJ6_bitCount_0f7a4_17 : decode cJ6_bitCount_0f7a4 17 = .ok (.iushr, 1) := by decide +kernel
theorem dJ6_bitCount_0f7a4_18 : decode cJ6_bitCount_0f7a4 18 = .ok (.ldc_w 266, 3) := by decide +kernel
theorem dJ6_bitCount_0f7a4_21 : decode cJ6_bitCount_0f7a4 21 = .ok (.iand, 1) := by decide +kernel
theorem dJ6_bitCount_0f7a4_22 : decode cJ6_bitCount_0f7a4 22 = .ok (.iadd, 1) := by decide +kernel
theorem dJ6_bitCount_0f7a4_23 : decode cJ6_bitCount_0f7a4 23 = .ok (.istore_n 0, 1) := by decide +kernel
theorem dJ6_bitCount_0f7a4_24 : decode cJ6_bitCount_0f7a4 24 = .ok (.iload_n 0, 1) := by decide +kernel
theorem dJ6_bitCount_0f7a4_25 : decode cJ6_bitCount_0f7a4 25 = .ok (.iload_n 0, 1) := by decide +kernel
theorem dJ6_bitCount_0f7a4_26 : decode cJ6_bitCount_0f7a4 26 = .ok (.iconst 4, 1) := by decide +kernel
theorem dJ6_bitCount_0f7a4_27 : decode cJ6_bitCount_0f7a4 27 = .ok (.iushr, 1) := by decide +kernel
theorem dJ6_bitCount_0f7a4_28 : decode cJ6_bitCount_0f7a4 28 = .ok (.iadd, 1) := by decide +kernel
theorem dJ6_bitCount_0f7a4_29 : decode cJ6_bitCount_0f7a4 29 = .ok (.ldc_w 267, 3) := by decide +kernel
theorem dJ6_bitCount_0f7a4_32 : decode cJ6_bitCount_0f7a4 32 = .ok (.iand, 1) := by decide +kernel
theorem dJ6_bitCount_0f7a4_33 : decode cJ6_bitCount_0f7a4 33 = .ok (.istore_n 0, 1) := by decide +kernel
theorem dJ6_bitCount_0f7a4_34 : decode cJ6_bitCount_0f7a4 34 = .ok (.iload_n 0, 1) := by decide +kernel
theorem dJ6_bitCount_0f7a4_35 : decode cJ6_bitCount_0f7a4 35 = .ok (.iload_n 0, 1) := by decide +kernel
theorem dJ6_bitCount_0f7a4_36 : decode cJ6_bitCount_0f7a4 36 = .ok (.bipush 8, 2) := by decide +kernel
theorem dJ6_bitCount_0f7a4_38 : decode cJ6_bitCount_0f7a4 38 = .ok (.iushr, 1) := by decide +kernel
theorem dJ6_bitCount_0f7a4_39 : decode cJ6_bitCount_0f7a4 39 = .ok (.iadd, 1) := by decide +kernel
theorem dJ6_bitCount_0f7a4_40 : decode cJ6_bitCount_0f7a4 40 = .ok (.istore_n 0, 1) := by decide +kernel
theorem dJ6_bitCount_0f7a4_41 : decode cJ6_bitCount_0f7a4 41 = .ok (.iload_n 0, 1) := by decide +kernel
theorem dJ6_bitCount_0f7a4_42 : decode cJ6_bitCount_0f7a4 42 = .ok (.iload_n 0, 1) := by decide +kernel
theorem dJ6_bitCount_0f7a4_43 : decode cJ6_bitCount_0f7a4 43 = .ok (.bipush 16, 2) := by decide +kernel
theorem dJ6_bitCount_0f7a4_45 : decode cJ6_bitCount_0f7a4 45 = .ok (.iushr, 1) := by decide +kernel
theorem dJ6_bitCount_0f7a4_46 : decode cJ6_bitCount_0f7a4 46 = .ok (.iadd, 1) := by decide +kernel
theorem dJ6_bitCount_0f7a4_47 : decode cJ6_bitCount_0f7a4 47 = .ok (.istore_n 0, 1) := by decide +kernel
theorem dJ6_bitCount_0f7a4_48 : decode cJ6_bitCount_0f7a4 48 = .ok (.iload_n 0, 1) := by decide +kernel
theorem dJ6_bitCount_0f7a4_49 : decode cJ6_bitCount_0f7a4 49 = .ok (.bipush 63, 2) := by decide +kernel
theorem dJ6_bitCount_0f7a4_51 : decode cJ6_bitCount_0f7a4 51 = .ok (.iand, 1) := by decide +kernel
theorem dJ6_bitCount_0f7a4_52 : decode cJ6_bitCount_0f7a4 52 = .ok (.ireturn, 1) := by decide +kernel
theorem dJ13_bitCount_95d88_0 : decode cJ13_bitCount_95d88 0 = .ok (.lload_n 0, 1) := by decide +kernel
theorem dJ13_bitCount_95d88_1 : decode cJ13_bitCount_95d88 1 = .ok (.lload_n 0, 1) := by decide +kernel
theorem dJ13_bitCount_95d88_2 : decode cJ13_bitCount_95d88 2 = .ok (.iconst 1, 1) := by decide +kernel
theorem dJ13_bitCount_95d88_3 : decode cJ13_bitCount_95d88 3 = .ok (.lushr, 1) := by decide +kernel
theorem dJ13_bitCount_95d88_4 : decode cJ13_bitCount_95d88 4 = .ok (.ldc2_w 314, 3) := by decide +kernel
theorem dJ13_bitCount_95d88_7 : decode cJ13_bitCount_95d88 7 = .ok (.land, 1) := by decide +kernel
theorem dJ13_bitCount_95d88_8 : decode cJ13_bitCount_95d88 8 = .ok (.lsub, 1) := by decide +kernel
theorem dJ13_bitCount_95d88_9 : decode cJ13_bitCount_95d88 9 = .ok (.lstore_n 0, 1) := by decide +kernel
theorem dJ13_bitCount_95d88_10 : decode cJ13_bitCount_95d88 10 = .ok (.lload_n 0, 1) := by decide +kernel
theorem dJ13_bitCount_95d88_11 : decode cJ13_bitCount_95d88 11 = .ok (.ldc2_w 316, 3) := by decide +kernel
theorem dJ13_bitCount_95d88_14 : decode cJ13_bitCount_95d88 14 = .ok (.land, 1) := by decide +kernel
theorem dJ13_bitCount_95d88_15 : decode cJ13_bitCount_95d88 15 = .ok (.lload_n 0, 1) := by decide +kernel
theorem dJ13_bitCount_95d88_16 : decode cJ13_bitCount_95d88 16 = .ok (.iconst 2, 1) := by decide +kernel
theorem dJ13_bitCount_95d88_17 : decode cJ13_bitCount_95d88 17 = .ok (.lushr, 1) := by decide +kernel
theorem dJ13_bitCount_95d88_18 : decode cJ13_bitCount_95d88 18 = .ok (.ldc2_w 316, 3) := by decide +kernel
theorem dJ13_bitCount_95d88_21 : decode cJ13_bitCount_95d88 21 = .ok (.land, 1) := by decide +kernel
theorem dJ13_bitCount_95d88_22 : decode cJ13_bitCount_95d88 22 = .ok (.ladd, 1) := by decide +kernel
theorem dJ13_bitCount_95d88_23 : decode cJ13_bitCount_95d88 23 = .ok (.lstore_n 0, 1) := by decide +kernel
theorem dJ13_bitCount_95d88_24 : decode cJ13_bitCount_95d88 24 = .ok (.lload_n 0, 1) := by decide +kernel
theorem dJ13_bitCount_95d88_25 : decode cJ13_bitCount_95d88 25 = .ok (.lload_n 0, 1) := by decide +kernel
theorem dJ13_bitCount_95d88_26 : decode cJ13_bitCount_95d88 26 = .ok (.iconst 4, 1) := by decide +kernel
theorem dJ13_bitCount_95d88_27 : decode cJ13_bitCount_95d88 27 = .ok (.lushr, 1) := by decide +kernel
theorem dJ13_bitCount_95d88_28 : decode cJ13_bitCount_95d88 28 = .ok (.ladd, 1) := by decide +kernel
theorem dJ13_bitCount_95d88_29 : decode cJ13_bitCount_95d88 29 = .ok (.ldc2_w 318, 3) := by decide +kernel
theorem dJ13_bitCount_95d88_32 : decode cJ13_bitCount_95d88 32 = .ok (.land, 1) := by decide +kernel
theorem dJ13_bitCount_95d88_33 : decode cJ13_bitCount_95d88 33 = .ok (.lstore_n 0, 1) := by decide +kernel
theorem dJ13_bitCount_95d88_34 : decode cJ13_bitCount_95d88 34 = .ok (.lload_n 0, 1) := by decide +kernel
theorem dJ13_bitCount_95d88_35 : decode cJ13_bitCount_95d88 35 = .ok (.lload_n 0, 1) := by decide +kernel
theorem dJ13_bitCount_95d88_36 : decode cJ13_bitCount_95d88 36 = .ok (.bipush 8, 2) := by decide +kernel
theorem dJ13_bitCount_95d88_38 : decode cJ13_bitCount_95d88 38 = .ok (.lushr, 1) := by decide +kernel
theorem dJ13_bitCount_95d88_39 : decode cJ13_bitCount_95d88 39 = .ok (.ladd, 1) := by decide +kernel
theorem dJ13_bitCount_95d88_40 : decode cJ13_bitCount_95d88 40 = .ok (.lstore_n 0, 1) := by decide +kernel
theorem dJ13_bitCount_95d88_41 : decode cJ13_bitCount_95d88 41 = .ok (.lload_n 0, 1) := by decide +kernel
theorem dJ13_bitCount_95d88_42 : decode cJ13_bitCount_95d88 42 = .ok (.lload_n 0, 1) := by decide +kernel
theorem dJ13_bitCount_95d88_43 : decode cJ13_bitCount_95d88 43 = .ok (.bipush 16, 2) := by decide +kernel
theorem dJ13_bitCount_95d88_45 : decode cJ13_bitCount_95d88 45 = .ok (.lushr, 1) := by decide +kernel
theorem dJ13_bitCount_95d88_46 : decode cJ13_bitCount_95d88 46 = .ok (.ladd, 1) := by decide +kernel
theorem dJ13_bitCount_95d88_47 : decode cJ13_bitCount_95d88 47 = .ok (.lstore_n 0, 1) := by decide +kernel
theorem dJ13_bitCount_95d88_48 : decode cJ13_bitCount_95d88 48 = .ok (.lload_n 0, 1) := by decide +kernel
theorem dJ13_bitCount_95d88_49 : decode cJ13_bitCount_95d88 49 = .ok (.lload_n 0, 1) := by decide +kernel
theorem dJ13_bitCount_95d88_50 : decode cJ13_bitCount_95d88 50 = .ok (.bipush 32, 2) := by decide +kernel
theorem dJ13_bitCount_95d88_52 : decode cJ13_bitCount_95d88 52 = .ok (.lushr, 1) := by decide +kernel
theorem dJ13_bitCount_95d88_53 : decode cJ13_bitCount_95d88 53 = .ok (.ladd, 1) := by decide +kernel
theorem dJ13_bitCount_95d88_54 : decode cJ13_bitCount_95d88 54 = .ok (.lstore_n 0, 1) := by decide +kernel
theorem dJ13_bitCount_95d88_55 : decode cJ13_bitCount_95d88 55 = .ok (.lload_n 0, 1) := by decide +kernel
theorem dJ13_bitCount_95d88_56 : decode cJ13_bitCount_95d88 56 = .ok (.l2i, 1) := by decide +kernel
theorem dJ13_bitCount_95d88_57 : decode cJ13_bitCount_95d88 57 = .ok (.bipush 127, 2) := by decide +kernel
theorem dJ13_bitCount_95d88_59 : decode cJ13_bitCount_95d88 59 = .ok (.iand, 1) := by decide +kernel
theorem dJ13_bitCount_95d88_60 : decode cJ13_bitCount_95d88 60 = .ok (.ireturn, 1) := by decide +kernel
theorem dJ9_max_7cf53_0 : decode cJ9_max_7cf53 0 = .ok (.iload_n 0, 1) := by decide +kernel
theorem dJ9_max_7cf53_1 : decode cJ9_max_7cf53 1 = .ok (.iload_n 1, 1) := by decide +kernel
theorem dJ9_max_7cf53_2 : decode cJ9_max_7cf53 2 = .ok (.if_icmp .lt 7, 3) := by decide +kernel
theorem dJ9_max_7cf53_5 : decode cJ9_max_7cf53 5 = .ok (.iload_n 0, 1) := by decide +kernel
theorem dJ9_max_7cf53_6 : decode cJ9_max_7cf53 6 = .ok (.goto 4, 3) := by decide +kernel
theorem dJ9_max_7cf53_9 : decode cJ9_max_7cf53 9 = .ok (.iload_n 1, 1) := by decide +kernel
theorem dJ9_max_7cf53_10 : decode cJ9_max_7cf53 10 = .ok (.ireturn, 1) := by decide +kernel
theorem dJ9_min_7cf53_0 : decode cJ9_min_7cf53 0 = .ok (.iload_n 0, 1) := by decide +kernel
theorem dJ9_min_7cf53_1 : decode cJ9_min_7cf53 1 = .ok (.iload_n 1, 1) := by decide +kernel
theorem dJ9_min_7cf53_2 : decode cJ9_min_7cf53 2 = .ok (.if_icmp .gt 7, 3) := by decide +kernel
theorem dJ9_min_7cf53_5 : decode cJ9_min_7cf53 5 = .ok (.iload_n 0, 1) := by decide +kernel
theorem dJ9_min_7cf53_6 : decode cJ9_min_7cf53 6 = .ok (.goto 4, 3) := by decide +kernel
theorem dJ9_min_7cf53_9 : decode cJ9_min_7cf53 9 = .ok (.iload_n 1, 1) := by decide +kernel
theorem dJ9_min_7cf53_10 : decode cJ9_min_7cf53 10 = .ok (.ireturn, 1) := by decide +kernel
theorem dJ0_length_8abf5_0 : decode cJ0_length_8abf5 0 = .ok (.aload_n 0, 1) := by decide +kernel
theorem dJ0_length_8abf5_1 : decode cJ0_length_8abf5 1 = .ok (.getfield 9, 3) := by decide +kernel
theorem dJ0_length_8abf5_4 : decode cJ0_length_8abf5 4 = .ok (.arraylength, 1) := by decide +kernel
theorem dJ0_length_8abf5_5 : decode cJ0_length_8abf5 5 = .ok (.aload_n 0, 1) := by decide +kernel
theorem dJ0_length_8abf5_6 : decode cJ0_length_8abf5 6 = .ok (.invokevirtual 335, 3) := by decide +kernel
theorem dJ0_length_8abf5_9 : decode cJ0_length_8abf5 9 = .ok (.ishr, 1) := by decide +kernel
theorem dJ0_length_8abf5_10 : decode cJ0_length_8abf5 10 = .ok (.ireturn, 1) := by decide +kernel
theorem dJ0_charAt_5068e_0 : decode cJ0_charAt_5068e 0 = .ok (.aload_n 0, 1) := by decide +kernel
theorem dJ0_charAt_5068e_1 : decode cJ0_charAt_5068e 1 = .ok (.invokevirtual 492, 3) := by decide +kernel
theorem dJ0_charAt_5068e_4 : decode cJ0_charAt_5068e 4 = .ok (.ifCond .eq 12, 3) := by decide +kernel
theorem dJ0_charAt_5068e_7 : decode cJ0_charAt_5068e 7 = .ok (.aload_n 0, 1) := by decide +kernel
theorem dJ0_charAt_5068e_8 : decode cJ0_charAt_5068e 8 = .ok (.getfield 9, 3) := by decide +kernel
theorem dJ0_charAt_5068e_11 : decode cJ0_charAt_5068e 11 = .ok (.iload_n 1, 1) := by decide +kernel
theorem dJ0_charAt_5068e_12 : decode cJ0_charAt_5068e 12 = .ok (.invokestatic 495, 3) := by decide +kernel
theorem dJ0_charAt_5068e_15 : decode cJ0_charAt_5068e 15 = .ok (.ireturn, 1) := by decide +kernel
theorem dJ0_charAt_5068e_16 : decode cJ0_charAt_5068e 16 = .ok (.aload_n 0, 1) := by decide +kernel
theorem dJ0_charAt_5068e_17 : decode cJ0_charAt_5068e 17 = .ok (.getfield 9, 3) := by decide +kernel
theorem dJ0_charAt_5068e_20 : decode cJ0_charAt_5068e 20 = .ok (.iload_n 1, 1) := by decide +kernel
theorem dJ0_charAt_5068e_21 : decode cJ0_charAt_5068e 21 = .ok (.invokestatic 498, 3) := by decide +kernel
theorem dJ0_charAt_5068e_24 : decode cJ0_charAt_5068e 24 = .ok (.ireturn, 1) := by decide +kernel
theorem dJ0_coder_7d493_0 : decode cJ0_coder_7d493 0 = .ok (.getstatic 38, 3) := by decide +kernel
theorem dJ0_coder_7d493_3 : decode cJ0_coder_7d493 3 = .ok (.ifCond .eq 10, 3) := by decide +kernel
theorem dJ0_coder_7d493_6 : decode cJ0_coder_7d493 6 = .ok (.aload_n 0, 1) := by decide +kernel
theorem dJ0_coder_7d493_7 : decode cJ0_coder_7d493 7 = .ok (.getfield 15, 3) := by decide +kernel
theorem dJ0_coder_7d493_10 : decode cJ0_coder_7d493 10 = .ok (.goto 4, 3) := by decide +kernel
theorem dJ0_coder_7d493_13 : decode cJ0_coder_7d493 13 = .ok (.iconst 1, 1) := by decide +kernel
theorem dJ0_coder_7d493_14 : decode cJ0_coder_7d493 14 = .ok (.ireturn, 1) := by decide +kernel
theorem dJ0_isLatin1_aae02_0 : decode cJ0_isLatin1_aae02 0 = .ok (.getstatic 38, 3) := by decide +kernel
theorem dJ0_isLatin1_aae02_3 : decode cJ0_isLatin1_aae02 3 = .ok (.ifCond .eq 14, 3) := by decide +kernel
theorem dJ0_isLatin1_aae02_6 : decode cJ0_isLatin1_aae02 6 = .ok (.aload_n 0, 1) := by decide +kernel
theorem dJ0_isLatin1_aae02_7 : decode cJ0_isLatin1_aae02 7 = .ok (.getfield 15, 3) := by decide +kernel
theorem dJ0_isLatin1_aae02_10 : decode cJ0_isLatin1_aae02 10 = .ok (.ifCond .ne 7, 3) := by decide +kernel
theorem dJ0_isLatin1_aae02_13 : decode cJ0_isLatin1_aae02 13 = .ok (.iconst 1, 1) := by decide +kernel
theorem dJ0_isLatin1_aae02_14 : decode cJ0_isLatin1_aae02 14 = .ok (.goto 4, 3) := by decide +kernel
theorem dJ0_isLatin1_aae02_17 : decode cJ0_isLatin1_aae02 17 = .ok (.iconst 0, 1) := by decide +kernel
theorem dJ0_isLatin1_aae02_18 : decode cJ0_isLatin1_aae02 18 = .ok (.ireturn, 1) := by decide +kernel
theorem dJ0_checkIndex_df160_0 : decode cJ0_checkIndex_df160 0 = .ok (.iload_n 0, 1) := by decide +kernel
theorem dJ0_checkIndex_df160_1 : decode cJ0_checkIndex_df160 1 = .ok (.iload_n 1, 1) := by decide +kernel
theorem dJ0_checkIndex_df160_2 : decode cJ0_checkIndex_df160 2 = .ok (.getstatic 1053, 3) := by decide +kernel
theorem dJ0_checkIndex_df160_5 : decode cJ0_checkIndex_df160 5 = .ok (.invokestatic 1059, 3) := by decide +kernel
theorem dJ0_checkIndex_df160_8 : decode cJ0_checkIndex_df160 8 = .ok (.pop, 1) := by decide +kernel
theorem dJ0_checkIndex_df160_9 : decode cJ0_checkIndex_df160 9 = .ok (.return_, 1) := by decide +kernel
theorem dJ1_charAt_3b067_0 : decode cJ1_charAt_3b067 0 = .ok (.iload_n 1, 1) := by decide +kernel
theorem dJ1_charAt_3b067_1 : decode cJ1_charAt_3b067 1 = .ok (.aload_n 0, 1) := by decide +kernel
theorem dJ1_charAt_3b067_2 : decode cJ1_charAt_3b067 2 = .ok (.arraylength, 1) := by decide +kernel
theorem dJ1_charAt_3b067_3 : decode cJ1_charAt_3b067 3 = .ok (.invokestatic 9, 3) := by decide +kernel
theorem dJ1_charAt_3b067_6 : decode cJ1_charAt_3b067 6 = .ok (.aload_n 0, 1) := by decide +kernel
theorem dJ1_charAt_3b067_7 : decode cJ1_charAt_3b067 7 = .ok (.iload_n 1, 1) := by decide +kernel
theorem dJ1_charAt_3b067_8 : decode cJ1_charAt_3b067 8 = .ok (.baload, 1) := by decide +kernel
theorem dJ1_charAt_3b067_9 : decode cJ1_charAt_3b067 9 = .ok (.sipush 255, 3) := by decide +kernel
theorem dJ1_charAt_3b067_12 : decode cJ1_charAt_3b067 12 = .ok (.iand, 1) := by decide +kernel
theorem dJ1_charAt_3b067_13 : decode cJ1_charAt_3b067 13 = .ok (.i2c, 1) := by decide +kernel
theorem dJ1_charAt_3b067_14 : decode cJ1_charAt_3b067 14 = .ok (.ireturn, 1) := by decide +kernel
theorem dJ2_getChar_3b067_0 : decode cJ2_getChar_3b067 0 = .ok (.getstatic 44, 3) := by decide +kernel
theorem dJ2_getChar_3b067_3 : decode cJ2_getChar_3b067 3 = .ok (.ifCond .ne 25, 3) := by decide +kernel
theorem dJ2_getChar_3b067_6 : decode cJ2_getChar_3b067 6 = .ok (.iload_n 1, 1) := by decide +kernel
theorem dJ2_getChar_3b067_7 : decode cJ2_getChar_3b067 7 = .ok (.ifCond .lt 11, 3) := by decide +kernel
theorem dJ2_getChar_3b067_10 : decode cJ2_getChar_3b067 10 = .ok (.iload_n 1, 1) := by decide +kernel
theorem dJ2_getChar_3b067_11 : decode cJ2_getChar_3b067 11 = .ok (.aload_n 0, 1) := by decide +kernel
theorem dJ2_getChar_3b067_12 : decode cJ2_getChar_3b067 12 = .ok (.invokestatic 48, 3) := by decide +kernel
theorem dJ2_getChar_3b067_15 : decode cJ2_getChar_3b067 15 = .ok (.if_icmp .lt 13, 3) := by decide +kernel
theorem dJ2_getChar_3b067_18 : decode cJ2_getChar_3b067 18 = .ok (.new 52, 3) := by decide +kernel
theorem dJ2_getChar_3b067_21 : decode cJ2_getChar_3b067 21 = .ok (.dup, 1) := by decide +kernel
theorem dJ2_getChar_3b067_22 : decode cJ2_getChar_3b067 22 = .ok (.ldc 54, 2) := by decide +kernel
theorem dJ2_getChar_3b067_24 : decode cJ2_getChar_3b067 24 = .ok (.invokespecial 56, 3) := by decide +kernel
theorem dJ2_getChar_3b067_27 : decode cJ2_getChar_3b067 27 = .ok (.athrow, 1) := by decide +kernel
theorem dJ2_getChar_3b067_28 : decode cJ2_getChar_3b067 28 = .ok (.iload_n 1, 1) := by decide +kernel
theorem dJ2_getChar_3b067_29 : decode cJ2_getChar_3b067 29 = .ok (.iconst 1, 1) := by decide +kernel
theorem dJ2_getChar_3b067_30 : decode cJ2_getChar_3b067 30 = .ok (.ishl, 1) := by decide +kernel
theorem dJ2_getChar_3b067_31 : decode cJ2_getChar_3b067 31 = .ok (.istore_n 1, 1) := by decide +kernel
theorem dJ2_getChar_3b067_32 : decode cJ2_getChar_3b067 32 = .ok (.aload_n 0, 1) := by decide +kernel
theorem dJ2_getChar_3b067_33 : decode cJ2_getChar_3b067 33 = .ok (.iload_n 1, 1) := by decide +kernel
theorem dJ2_getChar_3b067_34 : decode cJ2_getChar_3b067 34 = .ok (.iinc 1 1, 3) := by decide +kernel
theorem dJ2_getChar_3b067_37 : decode cJ2_getChar_3b067 37 = .ok (.baload, 1) := by decide +kernel
theorem dJ2_getChar_3b067_38 : decode cJ2_getChar_3b067 38 = .ok (.sipush 255, 3) := by decide +kernel
theorem dJ2_getChar_3b067_41 : decode cJ2_getChar_3b067 41 = .ok (.iand, 1) := by decide +kernel
theorem dJ2_getChar_3b067_42 : decode cJ2_getChar_3b067 42 = .ok (.getstatic 59, 3) := by decide +kernel
theorem dJ2_getChar_3b067_45 : decode cJ2_getChar_3b067 45 = .ok (.ishl, 1) := by decide +kernel
theorem dJ2_getChar_3b067_46 : decode cJ2_getChar_3b067 46 = .ok (.aload_n 0, 1) := by decide +kernel
theorem dJ2_getChar_3b067_47 : decode cJ2_getChar_3b067 47 = .ok (.iload_n 1, 1) := by decide +kernel
theorem dJ2_getChar_3b067_48 : decode cJ2_getChar_3b067 48 = .ok (.baload, 1) := by decide +kernel
theorem dJ2_getChar_3b067_49 : decode cJ2_getChar_3b067 49 = .ok (.sipush 255, 3) := by decide +kernel
theorem dJ2_getChar_3b067_52 : decode cJ2_getChar_3b067 52 = .ok (.iand, 1) := by decide +kernel
theorem dJ2_getChar_3b067_53 : decode cJ2_getChar_3b067 53 = .ok (.getstatic 63, 3) := by decide +kernel
theorem dJ2_getChar_3b067_56 : decode cJ2_getChar_3b067 56 = .ok (.ishl, 1) := by decide +kernel
theorem dJ2_getChar_3b067_57 : decode cJ2_getChar_3b067 57 = .ok (.ior, 1) := by decide +kernel
theorem dJ2_getChar_3b067_58 : decode cJ2_getChar_3b067 58 = .ok (.i2c, 1) := by decide +kernel
theorem dJ2_getChar_3b067_59 : decode cJ2_getChar_3b067 59 = .ok (.ireturn, 1) := by decide +kernel
theorem dJ2_length_9d52b_0 : decode cJ2_length_9d52b 0 = .ok (.aload_n 0, 1) := by decide +kernel
theorem dJ2_length_9d52b_1 : decode cJ2_length_9d52b 1 = .ok (.arraylength, 1) := by decide +kernel
theorem dJ2_length_9d52b_2 : decode cJ2_length_9d52b 2 = .ok (.iconst 1, 1) := by decide +kernel
theorem dJ2_length_9d52b_3 : decode cJ2_length_9d52b 3 = .ok (.ishr, 1) := by decide +kernel
theorem dJ2_length_9d52b_4 : decode cJ2_length_9d52b 4 = .ok (.ireturn, 1) := by decide +kernel
theorem dJ2_charAt_3b067_0 : decode cJ2_charAt_3b067 0 = .ok (.iload_n 1, 1) := by decide +kernel
theorem dJ2_charAt_3b067_1 : decode cJ2_charAt_3b067 1 = .ok (.aload_n 0, 1) := by decide +kernel
theorem dJ2_charAt_3b067_2 : decode cJ2_charAt_3b067 2 = .ok (.invokestatic 67, 3) := by decide +kernel
theorem dJ2_charAt_3b067_5 : decode cJ2_charAt_3b067 5 = .ok (.aload_n 0, 1) := by decide +kernel
theorem dJ2_charAt_3b067_6 : decode cJ2_charAt_3b067 6 = .ok (.iload_n 1, 1) := by decide +kernel
theorem dJ2_charAt_3b067_7 : decode cJ2_charAt_3b067 7 = .ok (.invokestatic 71, 3) := by decide +kernel
theorem dJ2_charAt_3b067_10 : decode cJ2_charAt_3b067 10 = .ok (.ireturn, 1) := by decide +kernel
theorem dJ2_checkIndex_2214a_0 : decode cJ2_checkIndex_2214a 0 = .ok (.iload_n 0, 1) := by decide +kernel
theorem dJ2_checkIndex_2214a_1 : decode cJ2_checkIndex_2214a 1 = .ok (.aload_n 1, 1) := by decide +kernel
theorem dJ2_checkIndex_2214a_2 : decode cJ2_checkIndex_2214a 2 = .ok (.invokestatic 48, 3) := by decide +kernel
theorem dJ2_checkIndex_2214a_5 : decode cJ2_checkIndex_2214a 5 = .ok (.invokestatic 414, 3) := by decide +kernel
theorem dJ2_checkIndex_2214a_8 : decode cJ2_checkIndex_2214a 8 = .ok (.return_, 1) := by decide +kernel
theorem dJ7_fill_53178_0 : decode cJ7_fill_53178 0 = .ok (.iconst 0, 1) := by decide +kernel
theorem dJ7_fill_53178_1 : decode cJ7_fill_53178 1 = .ok (.istore_n 2, 1) := by decide +kernel
theorem dJ7_fill_53178_2 : decode cJ7_fill_53178 2 = .ok (.aload_n 0, 1) := by decide +kernel
theorem dJ7_fill_53178_3 : decode cJ7_fill_53178 3 = .ok (.arraylength, 1) := by decide +kernel
theorem dJ7_fill_53178_4 : decode cJ7_fill_53178 4 = .ok (.istore_n 3, 1) := by decide +kernel
theorem dJ7_fill_53178_5 : decode cJ7_fill_53178 5 = .ok (.iload_n 2, 1) := by decide +kernel
theorem dJ7_fill_53178_6 : decode cJ7_fill_53178 6 = .ok (.iload_n 3, 1) := by decide +kernel
theorem dJ7_fill_53178_7 : decode cJ7_fill_53178 7 = .ok (.if_icmp .ge 13, 3) := by decide +kernel
theorem dJ7_fill_53178_10 : decode cJ7_fill_53178 10 = .ok (.aload_n 0, 1) := by decide +kernel
theorem dJ7_fill_53178_11 : decode cJ7_fill_53178 11 = .ok (.iload_n 2, 1) := by decide +kernel
theorem dJ7_fill_53178_12 : decode cJ7_fill_53178 12 = .ok (.iload_n 1, 1) := by decide +kernel
theorem dJ7_fill_53178_13 : decode cJ7_fill_53178 13 = .ok (.iastore, 1) := by decide +kernel
theorem dJ7_fill_53178_14 : decode cJ7_fill_53178 14 = .ok (.iinc 2 1, 3) := by decide +kernel
theorem dJ7_fill_53178_17 : decode cJ7_fill_53178 17 = .ok (.goto (-12), 3) := by decide +kernel
theorem dJ7_fill_53178_20 : decode cJ7_fill_53178 20 = .ok (.return_, 1) := by decide +kernel
theorem dJ3_checkIndex_8e157_0 : decode cJ3_checkIndex_8e157 0 = .ok (.iload_n 0, 1) := by decide +kernel
theorem dJ3_checkIndex_8e157_1 : decode cJ3_checkIndex_8e157 1 = .ok (.ifCond .lt 8, 3) := by decide +kernel
theorem dJ3_checkIndex_8e157_4 : decode cJ3_checkIndex_8e157 4 = .ok (.iload_n 0, 1) := by decide +kernel
theorem dJ3_checkIndex_8e157_5 : decode cJ3_checkIndex_8e157 5 = .ok (.iload_n 1, 1) := by decide +kernel
theorem dJ3_checkIndex_8e157_6 : decode cJ3_checkIndex_8e157 6 = .ok (.if_icmp .lt 10, 3) := by decide +kernel
theorem dJ3_checkIndex_8e157_9 : decode cJ3_checkIndex_8e157 9 = .ok (.aload_n 2, 1) := by decide +kernel
theorem dJ3_checkIndex_8e157_10 : decode cJ3_checkIndex_8e157 10 = .ok (.iload_n 0, 1) := by decide +kernel
theorem dJ3_checkIndex_8e157_11 : decode cJ3_checkIndex_8e157 11 = .ok (.iload_n 1, 1) := by decide +kernel
theorem dJ3_checkIndex_8e157_12 : decode cJ3_checkIndex_8e157 12 = .ok (.invokestatic 95, 3) := by decide +kernel
theorem dJ3_checkIndex_8e157_15 : decode cJ3_checkIndex_8e157 15 = .ok (.athrow, 1) := by decide +kernel
theorem dJ3_checkIndex_8e157_16 : decode cJ3_checkIndex_8e157 16 = .ok (.iload_n 0, 1) := by decide +kernel
theorem dJ3_checkIndex_8e157_17 : decode cJ3_checkIndex_8e157 17 = .ok (.ireturn, 1) := by decide +kernel
