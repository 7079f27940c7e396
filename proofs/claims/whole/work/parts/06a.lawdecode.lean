theorem dL_court_0 : decode cL_court 0 = .ok (.aload_n 1, 1) := by decide +kernel
theorem dL_court_1 : decode cL_court 1 = .ok (.iconst 0, 1) := by decide +kernel
theorem dL_court_2 : decode cL_court 2 = .ok (.aload_n 0, 1) := by decide +kernel
theorem dL_court_3 : decode cL_court 3 = .ok (.invokevirtual 7, 3) := by decide +kernel
theorem dL_court_6 : decode cL_court 6 = .ok (.i2l, 1) := by decide +kernel
theorem dL_court_7 : decode cL_court 7 = .ok (.lastore, 1) := by decide +kernel
theorem dL_court_8 : decode cL_court 8 = .ok (.goto 9, 3) := by decide +kernel
theorem dL_court_11 : decode cL_court 11 = .ok (.astore_n 2, 1) := by decide +kernel
theorem dL_court_12 : decode cL_court 12 = .ok (.iconst 1, 1) := by decide +kernel
theorem dL_court_13 : decode cL_court 13 = .ok (.ireturn, 1) := by decide +kernel
theorem dL_court_14 : decode cL_court 14 = .ok (.astore_n 2, 1) := by decide +kernel
theorem dL_court_15 : decode cL_court 15 = .ok (.iconst 2, 1) := by decide +kernel
theorem dL_court_16 : decode cL_court 16 = .ok (.ireturn, 1) := by decide +kernel
theorem dL_court_17 : decode cL_court 17 = .ok (.iconst 0, 1) := by decide +kernel
theorem dL_court_18 : decode cL_court 18 = .ok (.ireturn, 1) := by decide +kernel
theorem dL_law_0 : decode cL_law 0 = .ok (.aload_n 1, 1) := by decide +kernel
theorem dL_law_1 : decode cL_law 1 = .ok (.iconst 0, 1) := by decide +kernel
theorem dL_law_2 : decode cL_law 2 = .ok (.aload_n 0, 1) := by decide +kernel
theorem dL_law_3 : decode cL_law 3 = .ok (.invokevirtual 17, 3) := by decide +kernel
theorem dL_law_6 : decode cL_law 6 = .ok (.i2l, 1) := by decide +kernel
theorem dL_law_7 : decode cL_law 7 = .ok (.lastore, 1) := by decide +kernel
theorem dL_law_8 : decode cL_law 8 = .ok (.goto 6, 3) := by decide +kernel
theorem dL_law_11 : decode cL_law 11 = .ok (.astore_n 2, 1) := by decide +kernel
theorem dL_law_12 : decode cL_law 12 = .ok (.iconst 1, 1) := by decide +kernel
theorem dL_law_13 : decode cL_law 13 = .ok (.ireturn, 1) := by decide +kernel
theorem dL_law_14 : decode cL_law 14 = .ok (.iconst 0, 1) := by decide +kernel
theorem dL_law_15 : decode cL_law 15 = .ok (.ireturn, 1) := by decide +kernel
theorem dL_witness_0 : decode cL_witness 0 = .ok (.aload_n 3, 1) := by decide +kernel
theorem dL_witness_1 : decode cL_witness 1 = .ok (.iconst 0, 1) := by decide +kernel
theorem dL_witness_2 : decode cL_witness 2 = .ok (.aload_n 0, 1) := by decide +kernel
theorem dL_witness_3 : decode cL_witness 3 = .ok (.iload_n 1, 1) := by decide +kernel
theorem dL_witness_4 : decode cL_witness 4 = .ok (.iload_n 2, 1) := by decide +kernel
theorem dL_witness_5 : decode cL_witness 5 = .ok (.invokevirtual 20, 3) := by decide +kernel
theorem dL_witness_8 : decode cL_witness 8 = .ok (.i2l, 1) := by decide +kernel
theorem dL_witness_9 : decode cL_witness 9 = .ok (.lastore, 1) := by decide +kernel
theorem dL_witness_10 : decode cL_witness 10 = .ok (.goto 11, 3) := by decide +kernel
theorem dL_witness_13 : decode cL_witness 13 = .ok (.astore 4, 2) := by decide +kernel
theorem dL_witness_15 : decode cL_witness 15 = .ok (.iconst 1, 1) := by decide +kernel
theorem dL_witness_16 : decode cL_witness 16 = .ok (.ireturn, 1) := by decide +kernel
theorem dL_witness_17 : decode cL_witness 17 = .ok (.astore 4, 2) := by decide +kernel
theorem dL_witness_19 : decode cL_witness 19 = .ok (.iconst 2, 1) := by decide +kernel
theorem dL_witness_20 : decode cL_witness 20 = .ok (.ireturn, 1) := by decide +kernel
theorem dL_witness_21 : decode cL_witness 21 = .ok (.iconst 0, 1) := by decide +kernel
theorem dL_witness_22 : decode cL_witness 22 = .ok (.ireturn, 1) := by decide +kernel
theorem dL_thing_0 : decode cL_thing 0 = .ok (.aload_n 3, 1) := by decide +kernel
theorem dL_thing_1 : decode cL_thing 1 = .ok (.iconst 0, 1) := by decide +kernel
theorem dL_thing_2 : decode cL_thing 2 = .ok (.aload_n 0, 1) := by decide +kernel
theorem dL_thing_3 : decode cL_thing 3 = .ok (.iload_n 1, 1) := by decide +kernel
theorem dL_thing_4 : decode cL_thing 4 = .ok (.iload_n 2, 1) := by decide +kernel
theorem dL_thing_5 : decode cL_thing 5 = .ok (.invokevirtual 28, 3) := by decide +kernel
theorem dL_thing_8 : decode cL_thing 8 = .ok (.i2l, 1) := by decide +kernel
theorem dL_thing_9 : decode cL_thing 9 = .ok (.lastore, 1) := by decide +kernel
theorem dL_thing_10 : decode cL_thing 10 = .ok (.goto 11, 3) := by decide +kernel
theorem dL_thing_13 : decode cL_thing 13 = .ok (.astore 4, 2) := by decide +kernel
theorem dL_thing_15 : decode cL_thing 15 = .ok (.iconst 1, 1) := by decide +kernel
theorem dL_thing_16 : decode cL_thing 16 = .ok (.ireturn, 1) := by decide +kernel
theorem dL_thing_17 : decode cL_thing 17 = .ok (.astore 4, 2) := by decide +kernel
theorem dL_thing_19 : decode cL_thing 19 = .ok (.iconst 2, 1) := by decide +kernel
theorem dL_thing_20 : decode cL_thing 20 = .ok (.ireturn, 1) := by decide +kernel
theorem dL_thing_21 : decode cL_thing 21 = .ok (.iconst 0, 1) := by decide +kernel
theorem dL_thing_22 : decode cL_thing 22 = .ok (.ireturn, 1) := by decide +kernel
theorem dL_asks_0 : decode cL_asks 0 = .ok (.aload_n 2, 1) := by decide +kernel
theorem dL_asks_1 : decode cL_asks 1 = .ok (.iconst 0, 1) := by decide +kernel
theorem dL_asks_2 : decode cL_asks 2 = .ok (.aload_n 0, 1) := by decide +kernel
theorem dL_asks_3 : decode cL_asks 3 = .ok (.iload_n 1, 1) := by decide +kernel
theorem dL_asks_4 : decode cL_asks 4 = .ok (.invokevirtual 31, 3) := by decide +kernel
theorem dL_asks_7 : decode cL_asks 7 = .ok (.i2l, 1) := by decide +kernel
theorem dL_asks_8 : decode cL_asks 8 = .ok (.lastore, 1) := by decide +kernel
theorem dL_asks_9 : decode cL_asks 9 = .ok (.goto 6, 3) := by decide +kernel
theorem dL_asks_12 : decode cL_asks 12 = .ok (.astore_n 3, 1) := by decide +kernel
theorem dL_asks_13 : decode cL_asks 13 = .ok (.iconst 1, 1) := by decide +kernel
theorem dL_asks_14 : decode cL_asks 14 = .ok (.ireturn, 1) := by decide +kernel
theorem dL_asks_15 : decode cL_asks 15 = .ok (.iconst 0, 1) := by decide +kernel
theorem dL_asks_16 : decode cL_asks 16 = .ok (.ireturn, 1) := by decide +kernel
theorem dL_sharp_0 : decode cL_sharp 0 = .ok (.aload_n 2, 1) := by decide +kernel
theorem dL_sharp_1 : decode cL_sharp 1 = .ok (.iconst 0, 1) := by decide +kernel
theorem dL_sharp_2 : decode cL_sharp 2 = .ok (.aload_n 0, 1) := by decide +kernel
theorem dL_sharp_3 : decode cL_sharp 3 = .ok (.iload_n 1, 1) := by decide +kernel
theorem dL_sharp_4 : decode cL_sharp 4 = .ok (.invokevirtual 35, 3) := by decide +kernel
theorem dL_sharp_7 : decode cL_sharp 7 = .ok (.i2l, 1) := by decide +kernel
theorem dL_sharp_8 : decode cL_sharp 8 = .ok (.lastore, 1) := by decide +kernel
theorem dL_sharp_9 : decode cL_sharp 9 = .ok (.goto 6, 3) := by decide +kernel
theorem dL_sharp_12 : decode cL_sharp 12 = .ok (.astore_n 3, 1) := by decide +kernel
theorem dL_sharp_13 : decode cL_sharp 13 = .ok (.iconst 1, 1) := by decide +kernel
theorem dL_sharp_14 : decode cL_sharp 14 = .ok (.ireturn, 1) := by decide +kernel
theorem dL_sharp_15 : decode cL_sharp 15 = .ok (.iconst 0, 1) := by decide +kernel
theorem dL_sharp_16 : decode cL_sharp 16 = .ok (.ireturn, 1) := by decide +kernel
theorem dL_stands_0 : decode cL_stands 0 = .ok (.aload_n 2, 1) := by decide +kernel
theorem dL_stands_1 : decode cL_stands 1 = .ok (.iconst 0, 1) := by decide +kernel
theorem dL_stands_2 : decode cL_stands 2 = .ok (.aload_n 0, 1) := by decide +kernel
theorem dL_stands_3 : decode cL_stands 3 = .ok (.iload_n 1, 1) := by decide +kernel
theorem dL_stands_4 : decode cL_stands 4 = .ok (.invokevirtual 38, 3) := by decide +kernel
theorem dL_stands_7 : decode cL_stands 7 = .ok (.i2l, 1) := by decide +kernel
theorem dL_stands_8 : decode cL_stands 8 = .ok (.lastore, 1) := by decide +kernel
theorem dL_stands_9 : decode cL_stands 9 = .ok (.goto 6, 3) := by decide +kernel
theorem dL_stands_12 : decode cL_stands 12 = .ok (.astore_n 3, 1) := by decide +kernel
theorem dL_stands_13 : decode cL_stands 13 = .ok (.iconst 1, 1) := by decide +kernel
theorem dL_stands_14 : decode cL_stands 14 = .ok (.ireturn, 1) := by decide +kernel
theorem dL_stands_15 : decode cL_stands 15 = .ok (.iconst 0, 1) := by decide +kernel
theorem dL_stands_16 : decode cL_stands 16 = .ok (.ireturn, 1) := by decide +kernel
theorem dL_moments_0 : decode cL_moments 0 = .ok (.aload_n 2, 1) := by decide +kernel
theorem dL_moments_1 : decode cL_moments 1 = .ok (.iconst 0, 1) := by decide +kernel
theorem dL_moments_2 : decode cL_moments 2 = .ok (.aload_n 0, 1) := by decide +kernel
theorem dL_moments_3 : decode cL_moments 3 = .ok (.iload_n 1, 1) := by decide +kernel
theorem dL_moments_4 : decode cL_moments 4 = .ok (.invokevirtual 41, 3) := by decide +kernel
theorem dL_moments_7 : decode cL_moments 7 = .ok (.i2l, 1) := by decide +kernel
theorem dL_moments_8 : decode cL_moments 8 = .ok (.lastore, 1) := by decide +kernel
theorem dL_moments_9 : decode cL_moments 9 = .ok (.goto 6, 3) := by decide +kernel
theorem dL_moments_12 : decode cL_moments 12 = .ok (.astore_n 3, 1) := by decide +kernel
theorem dL_moments_13 : decode cL_moments 13 = .ok (.iconst 1, 1) := by decide +kernel
theorem dL_moments_14 : decode cL_moments 14 = .ok (.ireturn, 1) := by decide +kernel
theorem dL_moments_15 : decode cL_moments 15 = .ok (.iconst 0, 1) := by decide +kernel
theorem dL_moments_16 : decode cL_moments 16 = .ok (.ireturn, 1) := by decide +kernel
theorem dL_say_0 : decode cL_say 0 = .ok (.aload_n 2, 1) := by decide +kernel
theorem dL_say_1 : decode cL_say 1 = .ok (.iconst 0, 1) := by decide +kernel
theorem dL_say_2 : decode cL_say 2 = .ok (.aload_n 0, 1) := by decide +kernel
theorem dL_say_3 : decode cL_say 3 = .ok (.iload_n 1, 1) := by decide +kernel
theorem dL_say_4 : decode cL_say 4 = .ok (.invokevirtual 44, 3) := by decide +kernel
theorem dL_say_7 : decode cL_say 7 = .ok (.i2l, 1) := by decide +kernel
theorem dL_say_8 : decode cL_say 8 = .ok (.lastore, 1) := by decide +kernel
theorem dL_say_9 : decode cL_say 9 = .ok (.goto 6, 3) := by decide +kernel
theorem dL_say_12 : decode cL_say 12 = .ok (.astore_n 3, 1) := by decide +kernel
theorem dL_say_13 : decode cL_say 13 = .ok (.iconst 1, 1) := by decide +kernel
theorem dL_say_14 : decode cL_say 14 = .ok (.ireturn, 1) := by decide +kernel
theorem dL_say_15 : decode cL_say 15 = .ok (.iconst 0, 1) := by decide +kernel
theorem dL_say_16 : decode cL_say 16 = .ok (.ireturn, 1) := by decide +kernel
theorem dL_change_0 : decode cL_change 0 = .ok (.aload_n 3, 1) := by decide +kernel
theorem dL_change_1 : decode cL_change 1 = .ok (.iconst 0, 1) := by decide +kernel
theorem dL_change_2 : decode cL_change 2 = .ok (.aload_n 0, 1) := by decide +kernel
theorem dL_change_3 : decode cL_change 3 = .ok (.iload_n 1, 1) := by decide +kernel
theorem dL_change_4 : decode cL_change 4 = .ok (.iload_n 2, 1) := by decide +kernel
theorem dL_change_5 : decode cL_change 5 = .ok (.invokevirtual 47, 3) := by decide +kernel
theorem dL_change_8 : decode cL_change 8 = .ok (.i2l, 1) := by decide +kernel
theorem dL_change_9 : decode cL_change 9 = .ok (.lastore, 1) := by decide +kernel
theorem dL_change_10 : decode cL_change 10 = .ok (.goto 11, 3) := by decide +kernel
theorem dL_change_13 : decode cL_change 13 = .ok (.astore 4, 2) := by decide +kernel
theorem dL_change_15 : decode cL_change 15 = .ok (.iconst 1, 1) := by decide +kernel
theorem dL_change_16 : decode cL_change 16 = .ok (.ireturn, 1) := by decide +kernel
theorem dL_change_17 : decode cL_change 17 = .ok (.astore 4, 2) := by decide +kernel
theorem dL_change_19 : decode cL_change 19 = .ok (.iconst 2, 1) := by decide +kernel
theorem dL_change_20 : decode cL_change 20 = .ok (.ireturn, 1) := by decide +kernel
theorem dL_change_21 : decode cL_change 21 = .ok (.iconst 0, 1) := by decide +kernel
theorem dL_change_22 : decode cL_change 22 = .ok (.ireturn, 1) := by decide +kernel
theorem dL_drink_0 : decode cL_drink 0 = .ok (.aload_n 3, 1) := by decide +kernel
theorem dL_drink_1 : decode cL_drink 1 = .ok (.iconst 0, 1) := by decide +kernel
theorem dL_drink_2 : decode cL_drink 2 = .ok (.aload_n 0, 1) := by decide +kernel
theorem dL_drink_3 : decode cL_drink 3 = .ok (.iload_n 1, 1) := by decide +kernel
theorem dL_drink_4 : decode cL_drink 4 = .ok (.iload_n 2, 1) := by decide +kernel
theorem dL_drink_5 : decode cL_drink 5 = .ok (.invokevirtual 50, 3) := by decide +kernel
theorem dL_drink_8 : decode cL_drink 8 = .ok (.i2l, 1) := by decide +kernel
theorem dL_drink_9 : decode cL_drink 9 = .ok (.lastore, 1) := by decide +kernel
theorem dL_drink_10 : decode cL_drink 10 = .ok (.goto 11, 3) := by decide +kernel
theorem dL_drink_13 : decode cL_drink 13 = .ok (.astore 4, 2) := by decide +kernel
theorem dL_drink_15 : decode cL_drink 15 = .ok (.iconst 1, 1) := by decide +kernel
theorem dL_drink_16 : decode cL_drink 16 = .ok (.ireturn, 1) := by decide +kernel
theorem dL_drink_17 : decode cL_drink 17 = .ok (.astore 4, 2) := by decide +kernel
theorem dL_drink_19 : decode cL_drink 19 = .ok (.iconst 2, 1) := by decide +kernel
theorem dL_drink_20 : decode cL_drink 20 = .ok (.ireturn, 1) := by decide +kernel
theorem dL_drink_21 : decode cL_drink 21 = .ok (.iconst 0, 1) := by decide +kernel
theorem dL_drink_22 : decode cL_drink 22 = .ok (.ireturn, 1) := by decide +kernel
theorem dL_heat_0 : decode cL_heat 0 = .ok (.aload_n 2, 1) := by decide +kernel
theorem dL_heat_1 : decode cL_heat 1 = .ok (.iconst 0, 1) := by decide +kernel
theorem dL_heat_2 : decode cL_heat 2 = .ok (.aload_n 0, 1) := by decide +kernel
theorem dL_heat_3 : decode cL_heat 3 = .ok (.iload_n 1, 1) := by decide +kernel
theorem dL_heat_4 : decode cL_heat 4 = .ok (.invokevirtual 53, 3) := by decide +kernel
theorem dL_heat_7 : decode cL_heat 7 = .ok (.i2l, 1) := by decide +kernel
theorem dL_heat_8 : decode cL_heat 8 = .ok (.lastore, 1) := by decide +kernel
theorem dL_heat_9 : decode cL_heat 9 = .ok (.goto 6, 3) := by decide +kernel
theorem dL_heat_12 : decode cL_heat 12 = .ok (.astore_n 3, 1) := by decide +kernel
theorem dL_heat_13 : decode cL_heat 13 = .ok (.iconst 1, 1) := by decide +kernel
theorem dL_heat_14 : decode cL_heat 14 = .ok (.ireturn, 1) := by decide +kernel
theorem dL_heat_15 : decode cL_heat 15 = .ok (.iconst 0, 1) := by decide +kernel
theorem dL_heat_16 : decode cL_heat 16 = .ok (.ireturn, 1) := by decide +kernel
theorem dL_tell_0 : decode cL_tell 0 = .ok (.aload_n 3, 1) := by decide +kernel
theorem dL_tell_1 : decode cL_tell 1 = .ok (.iconst 0, 1) := by decide +kernel
theorem dL_tell_2 : decode cL_tell 2 = .ok (.aload_n 0, 1) := by decide +kernel
theorem dL_tell_3 : decode cL_tell 3 = .ok (.iload_n 1, 1) := by decide +kernel
theorem dL_tell_4 : decode cL_tell 4 = .ok (.iload_n 2, 1) := by decide +kernel
theorem dL_tell_5 : decode cL_tell 5 = .ok (.invokevirtual 56, 3) := by decide +kernel
theorem dL_tell_8 : decode cL_tell 8 = .ok (.ifCond .eq 7, 3) := by decide +kernel
theorem dL_tell_11 : decode cL_tell 11 = .ok (.lconst 1, 1) := by decide +kernel
theorem dL_tell_12 : decode cL_tell 12 = .ok (.goto 4, 3) := by decide +kernel
theorem dL_tell_15 : decode cL_tell 15 = .ok (.lconst 0, 1) := by decide +kernel
theorem dL_tell_16 : decode cL_tell 16 = .ok (.lastore, 1) := by decide +kernel
theorem dL_tell_17 : decode cL_tell 17 = .ok (.goto 7, 3) := by decide +kernel
theorem dL_tell_20 : decode cL_tell 20 = .ok (.astore 4, 2) := by decide +kernel
theorem dL_tell_22 : decode cL_tell 22 = .ok (.iconst 1, 1) := by decide +kernel
theorem dL_tell_23 : decode cL_tell 23 = .ok (.ireturn, 1) := by decide +kernel
theorem dL_tell_24 : decode cL_tell 24 = .ok (.iconst 0, 1) := by decide +kernel
theorem dL_tell_25 : decode cL_tell 25 = .ok (.ireturn, 1) := by decide +kernel
theorem dL_words_0 : decode cL_words 0 = .ok (.aload_n 3, 1) := by decide +kernel
theorem dL_words_1 : decode cL_words 1 = .ok (.iconst 0, 1) := by decide +kernel
theorem dL_words_2 : decode cL_words 2 = .ok (.aload_n 0, 1) := by decide +kernel
theorem dL_words_3 : decode cL_words 3 = .ok (.iload_n 1, 1) := by decide +kernel
theorem dL_words_4 : decode cL_words 4 = .ok (.iload_n 2, 1) := by decide +kernel
theorem dL_words_5 : decode cL_words 5 = .ok (.invokevirtual 60, 3) := by decide +kernel
theorem dL_words_8 : decode cL_words 8 = .ok (.i2l, 1) := by decide +kernel
theorem dL_words_9 : decode cL_words 9 = .ok (.lastore, 1) := by decide +kernel
theorem dL_words_10 : decode cL_words 10 = .ok (.goto 11, 3) := by decide +kernel
theorem dL_words_13 : decode cL_words 13 = .ok (.astore 4, 2) := by decide +kernel
theorem dL_words_15 : decode cL_words 15 = .ok (.iconst 1, 1) := by decide +kernel
theorem dL_words_16 : decode cL_words 16 = .ok (.ireturn, 1) := by decide +kernel
theorem dL_words_17 : decode cL_words 17 = .ok (.astore 4, 2) := by decide +kernel
theorem dL_words_19 : decode cL_words 19 = .ok (.iconst 2, 1) := by decide +kernel
theorem dL_words_20 : decode cL_words 20 = .ok (.ireturn, 1) := by decide +kernel
theorem dL_words_21 : decode cL_words 21 = .ok (.iconst 0, 1) := by decide +kernel
theorem dL_words_22 : decode cL_words 22 = .ok (.ireturn, 1) := by decide +kernel
theorem dL_powder_0 : decode cL_powder 0 = .ok (.aload_n 2, 1) := by decide +kernel
theorem dL_powder_1 : decode cL_powder 1 = .ok (.iconst 0, 1) := by decide +kernel
theorem dL_powder_2 : decode cL_powder 2 = .ok (.aload_n 0, 1) := by decide +kernel
theorem dL_powder_3 : decode cL_powder 3 = .ok (.iload_n 1, 1) := by decide +kernel
theorem dL_powder_4 : decode cL_powder 4 = .ok (.invokevirtual 63, 3) := by decide +kernel
theorem dL_powder_7 : decode cL_powder 7 = .ok (.i2l, 1) := by decide +kernel
theorem dL_powder_8 : decode cL_powder 8 = .ok (.lastore, 1) := by decide +kernel
theorem dL_powder_9 : decode cL_powder 9 = .ok (.goto 6, 3) := by decide +kernel
theorem dL_powder_12 : decode cL_powder 12 = .ok (.astore_n 3, 1) := by decide +kernel
theorem dL_powder_13 : decode cL_powder 13 = .ok (.iconst 1, 1) := by decide +kernel
theorem dL_powder_14 : decode cL_powder 14 = .ok (.ireturn, 1) := by decide +kernel
theorem dL_powder_15 : decode cL_powder 15 = .ok (.iconst 0, 1) := by decide +kernel
theorem dL_powder_16 : decode cL_powder 16 = .ok (.ireturn, 1) := by decide +kernel
theorem dL_rises_0 : decode cL_rises 0 = .ok (.aload_n 3, 1) := by decide +kernel
theorem dL_rises_1 : decode cL_rises 1 = .ok (.iconst 0, 1) := by decide +kernel
theorem dL_rises_2 : decode cL_rises 2 = .ok (.aload_n 0, 1) := by decide +kernel
theorem dL_rises_3 : decode cL_rises 3 = .ok (.iload_n 1, 1) := by decide +kernel
theorem dL_rises_4 : decode cL_rises 4 = .ok (.iload_n 2, 1) := by decide +kernel
theorem dL_rises_5 : decode cL_rises 5 = .ok (.invokevirtual 66, 3) := by decide +kernel
theorem dL_rises_8 : decode cL_rises 8 = .ok (.i2l, 1) := by decide +kernel
theorem dL_rises_9 : decode cL_rises 9 = .ok (.lastore, 1) := by decide +kernel
theorem dL_rises_10 : decode cL_rises 10 = .ok (.goto 7, 3) := by decide +kernel
theorem dL_rises_13 : decode cL_rises 13 = .ok (.astore 4, 2) := by decide +kernel
theorem dL_rises_15 : decode cL_rises 15 = .ok (.iconst 1, 1) := by decide +kernel
theorem dL_rises_16 : decode cL_rises 16 = .ok (.ireturn, 1) := by decide +kernel
theorem dL_rises_17 : decode cL_rises 17 = .ok (.iconst 0, 1) := by decide +kernel
theorem dL_rises_18 : decode cL_rises 18 = .ok (.ireturn, 1) := by decide +kernel
theorem dL_seen_0 : decode cL_seen 0 = .ok (.aload_n 3, 1) := by decide +kernel
theorem dL_seen_1 : decode cL_seen 1 = .ok (.iconst 0, 1) := by decide +kernel
theorem dL_seen_2 : decode cL_seen 2 = .ok (.aload_n 0, 1) := by decide +kernel
theorem dL_seen_3 : decode cL_seen 3 = .ok (.iload_n 1, 1) := by decide +kernel
theorem dL_seen_4 : decode cL_seen 4 = .ok (.iload_n 2, 1) := by decide +kernel
theorem dL_seen_5 : decode cL_seen 5 = .ok (.invokevirtual 69, 3) := by decide +kernel
theorem dL_seen_8 : decode cL_seen 8 = .ok (.i2l, 1) := by decide +kernel
theorem dL_seen_9 : decode cL_seen 9 = .ok (.lastore, 1) := by decide +kernel
theorem dL_seen_10 : decode cL_seen 10 = .ok (.goto 7, 3) := by decide +kernel
theorem dL_seen_13 : decode cL_seen 13 = .ok (.astore 4, 2) := by decide +kernel
theorem dL_seen_15 : decode cL_seen 15 = .ok (.iconst 1, 1) := by decide +kernel
theorem dL_seen_16 : decode cL_seen 16 = .ok (.ireturn, 1) := by decide +kernel
theorem dL_seen_17 : decode cL_seen 17 = .ok (.iconst 0, 1) := by decide +kernel
theorem dL_seen_18 : decode cL_seen 18 = .ok (.ireturn, 1) := by decide +kernel
theorem dL_gives_0 : decode cL_gives 0 = .ok (.aload_n 2, 1) := by decide +kernel
theorem dL_gives_1 : decode cL_gives 1 = .ok (.iconst 0, 1) := by decide +kernel
theorem dL_gives_2 : decode cL_gives 2 = .ok (.aload_n 0, 1) := by decide +kernel
theorem dL_gives_3 : decode cL_gives 3 = .ok (.iload_n 1, 1) := by decide +kernel
theorem dL_gives_4 : decode cL_gives 4 = .ok (.invokevirtual 72, 3) := by decide +kernel
theorem dL_gives_7 : decode cL_gives 7 = .ok (.i2l, 1) := by decide +kernel
theorem dL_gives_8 : decode cL_gives 8 = .ok (.lastore, 1) := by decide +kernel
theorem dL_gives_9 : decode cL_gives 9 = .ok (.goto 6, 3) := by decide +kernel
theorem dL_gives_12 : decode cL_gives 12 = .ok (.astore_n 3, 1) := by decide +kernel
theorem dL_gives_13 : decode cL_gives 13 = .ok (.iconst 1, 1) := by decide +kernel
theorem dL_gives_14 : decode cL_gives 14 = .ok (.ireturn, 1) := by decide +kernel
theorem dL_gives_15 : decode cL_gives 15 = .ok (.iconst 0, 1) := by decide +kernel
theorem dL_gives_16 : decode cL_gives 16 = .ok (.ireturn, 1) := by decide +kernel
theorem dL_writes_0 : decode cL_writes 0 = .ok (.aload_n 3, 1) := by decide +kernel
theorem dL_writes_1 : decode cL_writes 1 = .ok (.iconst 0, 1) := by decide +kernel
theorem dL_writes_2 : decode cL_writes 2 = .ok (.aload_n 0, 1) := by decide +kernel
theorem dL_writes_3 : decode cL_writes 3 = .ok (.iload_n 1, 1) := by decide +kernel
theorem dL_writes_4 : decode cL_writes 4 = .ok (.iload_n 2, 1) := by decide +kernel
theorem dL_writes_5 : decode cL_writes 5 = .ok (.invokevirtual 75, 3) := by decide +kernel
theorem dL_writes_8 : decode cL_writes 8 = .ok (.i2l, 1) := by decide +kernel
theorem dL_writes_9 : decode cL_writes 9 = .ok (.lastore, 1) := by decide +kernel
theorem dL_writes_10 : decode cL_writes 10 = .ok (.goto 7, 3) := by decide +kernel
theorem dL_writes_13 : decode cL_writes 13 = .ok (.astore 4, 2) := by decide +kernel
theorem dL_writes_15 : decode cL_writes 15 = .ok (.iconst 1, 1) := by decide +kernel
theorem dL_writes_16 : decode cL_writes 16 = .ok (.ireturn, 1) := by decide +kernel
theorem dL_writes_17 : decode cL_writes 17 = .ok (.iconst 0, 1) := by decide +kernel
theorem dL_writes_18 : decode cL_writes 18 = .ok (.ireturn, 1) := by decide +kernel
theorem dL_fits_0 : decode cL_fits 0 = .ok (.aload_n 1, 1) := by decide +kernel
theorem dL_fits_1 : decode cL_fits 1 = .ok (.iconst 0, 1) := by decide +kernel
theorem dL_fits_2 : decode cL_fits 2 = .ok (.aload_n 0, 1) := by decide +kernel
theorem dL_fits_3 : decode cL_fits 3 = .ok (.invokevirtual 78, 3) := by decide +kernel
theorem dL_fits_6 : decode cL_fits 6 = .ok (.i2l, 1) := by decide +kernel
theorem dL_fits_7 : decode cL_fits 7 = .ok (.lastore, 1) := by decide +kernel
theorem dL_fits_8 : decode cL_fits 8 = .ok (.goto 6, 3) := by decide +kernel
theorem dL_fits_11 : decode cL_fits 11 = .ok (.astore_n 2, 1) := by decide +kernel
theorem dL_fits_12 : decode cL_fits 12 = .ok (.iconst 1, 1) := by decide +kernel
theorem dL_fits_13 : decode cL_fits 13 = .ok (.ireturn, 1) := by decide +kernel
theorem dL_fits_14 : decode cL_fits 14 = .ok (.iconst 0, 1) := by decide +kernel
theorem dL_fits_15 : decode cL_fits 15 = .ok (.ireturn, 1) := by decide +kernel
theorem dL_sure_0 : decode cL_sure 0 = .ok (.aload_n 1, 1) := by decide +kernel
theorem dL_sure_1 : decode cL_sure 1 = .ok (.iconst 0, 1) := by decide +kernel
theorem dL_sure_2 : decode cL_sure 2 = .ok (.aload_n 0, 1) := by decide +kernel
theorem dL_sure_3 : decode cL_sure 3 = .ok (.invokevirtual 81, 3) := by decide +kernel
theorem dL_sure_6 : decode cL_sure 6 = .ok (.i2l, 1) := by decide +kernel
theorem dL_sure_7 : decode cL_sure 7 = .ok (.lastore, 1) := by decide +kernel
theorem dL_sure_8 : decode cL_sure 8 = .ok (.goto 6, 3) := by decide +kernel
theorem dL_sure_11 : decode cL_sure 11 = .ok (.astore_n 2, 1) := by decide +kernel
theorem dL_sure_12 : decode cL_sure 12 = .ok (.iconst 1, 1) := by decide +kernel
theorem dL_sure_13 : decode cL_sure 13 = .ok (.ireturn, 1) := by decide +kernel
theorem dL_sure_14 : decode cL_sure 14 = .ok (.iconst 0, 1) := by decide +kernel
theorem dL_sure_15 : decode cL_sure 15 = .ok (.ireturn, 1) := by decide +kernel
theorem dL_never_0 : decode cL_never 0 = .ok (.aload_n 1, 1) := by decide +kernel
theorem dL_never_1 : decode cL_never 1 = .ok (.iconst 0, 1) := by decide +kernel
theorem dL_never_2 : decode cL_never 2 = .ok (.aload_n 0, 1) := by decide +kernel
theorem dL_never_3 : decode cL_never 3 = .ok (.invokevirtual 84, 3) := by decide +kernel
theorem dL_never_6 : decode cL_never 6 = .ok (.i2l, 1) := by decide +kernel
theorem dL_never_7 : decode cL_never 7 = .ok (.lastore, 1) := by decide +kernel
theorem dL_never_8 : decode cL_never 8 = .ok (.goto 6, 3) := by decide +kernel
theorem dL_never_11 : decode cL_never 11 = .ok (.astore_n 2, 1) := by decide +kernel
theorem dL_never_12 : decode cL_never 12 = .ok (.iconst 1, 1) := by decide +kernel
theorem dL_never_13 : decode cL_never 13 = .ok (.ireturn, 1) := by decide +kernel
theorem dL_never_14 : decode cL_never 14 = .ok (.iconst 0, 1) := by decide +kernel
theorem dL_never_15 : decode cL_never 15 = .ok (.ireturn, 1) := by decide +kernel
theorem dL_next_0 : decode cL_next 0 = .ok (.aload_n 1, 1) := by decide +kernel
theorem dL_next_1 : decode cL_next 1 = .ok (.iconst 0, 1) := by decide +kernel
theorem dL_next_2 : decode cL_next 2 = .ok (.aload_n 0, 1) := by decide +kernel
theorem dL_next_3 : decode cL_next 3 = .ok (.invokevirtual 87, 3) := by decide +kernel
theorem dL_next_6 : decode cL_next 6 = .ok (.i2l, 1) := by decide +kernel
theorem dL_next_7 : decode cL_next 7 = .ok (.lastore, 1) := by decide +kernel
theorem dL_next_8 : decode cL_next 8 = .ok (.goto 6, 3) := by decide +kernel
theorem dL_next_11 : decode cL_next 11 = .ok (.astore_n 2, 1) := by decide +kernel
theorem dL_next_12 : decode cL_next 12 = .ok (.iconst 1, 1) := by decide +kernel
theorem dL_next_13 : decode cL_next 13 = .ok (.ireturn, 1) := by decide +kernel
theorem dL_next_14 : decode cL_next 14 = .ok (.iconst 0, 1) := by decide +kernel
theorem dL_next_15 : decode cL_next 15 = .ok (.ireturn, 1) := by decide +kernel
theorem dL_tells_0 : decode cL_tells 0 = .ok (.aload_n 2, 1) := by decide +kernel
theorem dL_tells_1 : decode cL_tells 1 = .ok (.iconst 0, 1) := by decide +kernel
theorem dL_tells_2 : decode cL_tells 2 = .ok (.aload_n 0, 1) := by decide +kernel
theorem dL_tells_3 : decode cL_tells 3 = .ok (.iload_n 1, 1) := by decide +kernel
theorem dL_tells_4 : decode cL_tells 4 = .ok (.invokevirtual 90, 3) := by decide +kernel
theorem dL_tells_7 : decode cL_tells 7 = .ok (.i2l, 1) := by decide +kernel
theorem dL_tells_8 : decode cL_tells 8 = .ok (.lastore, 1) := by decide +kernel
theorem dL_tells_9 : decode cL_tells 9 = .ok (.goto 6, 3) := by decide +kernel
theorem dL_tells_12 : decode cL_tells 12 = .ok (.astore_n 3, 1) := by decide +kernel
theorem dL_tells_13 : decode cL_tells 13 = .ok (.iconst 1, 1) := by decide +kernel
theorem dL_tells_14 : decode cL_tells 14 = .ok (.ireturn, 1) := by decide +kernel
theorem dL_tells_15 : decode cL_tells 15 = .ok (.iconst 0, 1) := by decide +kernel
theorem dL_tells_16 : decode cL_tells 16 = .ok (.ireturn, 1) := by decide +kernel
theorem dL_shared_0 : decode cL_shared 0 = .ok (.aload_n 2, 1) := by decide +kernel
theorem dL_shared_1 : decode cL_shared 1 = .ok (.iconst 0, 1) := by decide +kernel
theorem dL_shared_2 : decode cL_shared 2 = .ok (.aload_n 0, 1) := by decide +kernel
theorem dL_shared_3 : decode cL_shared 3 = .ok (.iload_n 1, 1) := by decide +kernel
theorem dL_shared_4 : decode cL_shared 4 = .ok (.invokevirtual 93, 3) := by decide +kernel
theorem dL_shared_7 : decode cL_shared 7 = .ok (.i2l, 1) := by decide +kernel
theorem dL_shared_8 : decode cL_shared 8 = .ok (.lastore, 1) := by decide +kernel
theorem dL_shared_9 : decode cL_shared 9 = .ok (.goto 6, 3) := by decide +kernel
theorem dL_shared_12 : decode cL_shared 12 = .ok (.astore_n 3, 1) := by decide +kernel
theorem dL_shared_13 : decode cL_shared 13 = .ok (.iconst 1, 1) := by decide +kernel
theorem dL_shared_14 : decode cL_shared 14 = .ok (.ireturn, 1) := by decide +kernel
theorem dL_shared_15 : decode cL_shared 15 = .ok (.iconst 0, 1) := by decide +kernel
theorem dL_shared_16 : decode cL_shared 16 = .ok (.ireturn, 1) := by decide +kernel
theorem dL_apart_0 : decode cL_apart 0 = .ok (.aload_n 2, 1) := by decide +kernel
theorem dL_apart_1 : decode cL_apart 1 = .ok (.iconst 0, 1) := by decide +kernel
theorem dL_apart_2 : decode cL_apart 2 = .ok (.aload_n 0, 1) := by decide +kernel
theorem dL_apart_3 : decode cL_apart 3 = .ok (.iload_n 1, 1) := by decide +kernel
theorem dL_apart_4 : decode cL_apart 4 = .ok (.invokevirtual 96, 3) := by decide +kernel
theorem dL_apart_7 : decode cL_apart 7 = .ok (.i2l, 1) := by decide +kernel
theorem dL_apart_8 : decode cL_apart 8 = .ok (.lastore, 1) := by decide +kernel
theorem dL_apart_9 : decode cL_apart 9 = .ok (.goto 6, 3) := by decide +kernel
theorem dL_apart_12 : decode cL_apart 12 = .ok (.astore_n 3, 1) := by decide +kernel
theorem dL_apart_13 : decode cL_apart 13 = .ok (.iconst 1, 1) := by decide +kernel
theorem dL_apart_14 : decode cL_apart 14 = .ok (.ireturn, 1) := by decide +kernel
theorem dL_apart_15 : decode cL_apart 15 = .ok (.iconst 0, 1) := by decide +kernel
theorem dL_apart_16 : decode cL_apart 16 = .ok (.ireturn, 1) := by decide +kernel
theorem dL_row_0 : decode cL_row 0 = .ok (.aload_n 3, 1) := by decide +kernel
theorem dL_row_1 : decode cL_row 1 = .ok (.iconst 0, 1) := by decide +kernel
theorem dL_row_2 : decode cL_row 2 = .ok (.aload_n 0, 1) := by decide +kernel
theorem dL_row_3 : decode cL_row 3 = .ok (.iload_n 1, 1) := by decide +kernel
theorem dL_row_4 : decode cL_row 4 = .ok (.iload_n 2, 1) := by decide +kernel
theorem dL_row_5 : decode cL_row 5 = .ok (.invokevirtual 99, 3) := by decide +kernel
theorem dL_row_8 : decode cL_row 8 = .ok (.i2l, 1) := by decide +kernel
theorem dL_row_9 : decode cL_row 9 = .ok (.lastore, 1) := by decide +kernel
theorem dL_row_10 : decode cL_row 10 = .ok (.goto 7, 3) := by decide +kernel
theorem dL_row_13 : decode cL_row 13 = .ok (.astore 4, 2) := by decide +kernel
theorem dL_row_15 : decode cL_row 15 = .ok (.iconst 1, 1) := by decide +kernel
theorem dL_row_16 : decode cL_row 16 = .ok (.ireturn, 1) := by decide +kernel
theorem dL_row_17 : decode cL_row 17 = .ok (.iconst 0, 1) := by decide +kernel
theorem dL_row_18 : decode cL_row 18 = .ok (.ireturn, 1) := by decide +kernel
theorem dL_wrong_0 : decode cL_wrong 0 = .ok (.aload_n 1, 1) := by decide +kernel
theorem dL_wrong_1 : decode cL_wrong 1 = .ok (.iconst 0, 1) := by decide +kernel
theorem dL_wrong_2 : decode cL_wrong 2 = .ok (.aload_n 0, 1) := by decide +kernel
theorem dL_wrong_3 : decode cL_wrong 3 = .ok (.invokevirtual 102, 3) := by decide +kernel
theorem dL_wrong_6 : decode cL_wrong 6 = .ok (.i2l, 1) := by decide +kernel
theorem dL_wrong_7 : decode cL_wrong 7 = .ok (.lastore, 1) := by decide +kernel
theorem dL_wrong_8 : decode cL_wrong 8 = .ok (.goto 6, 3) := by decide +kernel
theorem dL_wrong_11 : decode cL_wrong 11 = .ok (.astore_n 2, 1) := by decide +kernel
theorem dL_wrong_12 : decode cL_wrong 12 = .ok (.iconst 1, 1) := by decide +kernel
theorem dL_wrong_13 : decode cL_wrong 13 = .ok (.ireturn, 1) := by decide +kernel
theorem dL_wrong_14 : decode cL_wrong 14 = .ok (.iconst 0, 1) := by decide +kernel
theorem dL_wrong_15 : decode cL_wrong 15 = .ok (.ireturn, 1) := by decide +kernel
theorem dL_shades_0 : decode cL_shades 0 = .ok (.aload_n 2, 1) := by decide +kernel
theorem dL_shades_1 : decode cL_shades 1 = .ok (.iconst 0, 1) := by decide +kernel
theorem dL_shades_2 : decode cL_shades 2 = .ok (.aload_n 0, 1) := by decide +kernel
theorem dL_shades_3 : decode cL_shades 3 = .ok (.iload_n 1, 1) := by decide +kernel
theorem dL_shades_4 : decode cL_shades 4 = .ok (.invokevirtual 105, 3) := by decide +kernel
theorem dL_shades_7 : decode cL_shades 7 = .ok (.i2l, 1) := by decide +kernel
theorem dL_shades_8 : decode cL_shades 8 = .ok (.lastore, 1) := by decide +kernel
theorem dL_shades_9 : decode cL_shades 9 = .ok (.goto 9, 3) := by decide +kernel
theorem dL_shades_12 : decode cL_shades 12 = .ok (.astore_n 3, 1) := by decide +kernel
theorem dL_shades_13 : decode cL_shades 13 = .ok (.iconst 1, 1) := by decide +kernel
theorem dL_shades_14 : decode cL_shades 14 = .ok (.ireturn, 1) := by decide +kernel
theorem dL_shades_15 : decode cL_shades 15 = .ok (.astore_n 3, 1) := by decide +kernel
theorem dL_shades_16 : decode cL_shades 16 = .ok (.iconst 2, 1) := by decide +kernel
theorem dL_shades_17 : decode cL_shades 17 = .ok (.ireturn, 1) := by decide +kernel
theorem dL_shades_18 : decode cL_shades 18 = .ok (.iconst 0, 1) := by decide +kernel
theorem dL_shades_19 : decode cL_shades 19 = .ok (.ireturn, 1) := by decide +kernel
theorem dL_vinegar_0 : decode cL_vinegar 0 = .ok (.aload_n 3, 1) := by decide +kernel
theorem dL_vinegar_1 : decode cL_vinegar 1 = .ok (.iconst 0, 1) := by decide +kernel
theorem dL_vinegar_2 : decode cL_vinegar 2 = .ok (.aload_n 0, 1) := by decide +kernel
theorem dL_vinegar_3 : decode cL_vinegar 3 = .ok (.iload_n 1, 1) := by decide +kernel
theorem dL_vinegar_4 : decode cL_vinegar 4 = .ok (.iload_n 2, 1) := by decide +kernel
theorem dL_vinegar_5 : decode cL_vinegar 5 = .ok (.invokevirtual 108, 3) := by decide +kernel
theorem dL_vinegar_8 : decode cL_vinegar 8 = .ok (.i2l, 1) := by decide +kernel
theorem dL_vinegar_9 : decode cL_vinegar 9 = .ok (.lastore, 1) := by decide +kernel
theorem dL_vinegar_10 : decode cL_vinegar 10 = .ok (.goto 7, 3) := by decide +kernel
theorem dL_vinegar_13 : decode cL_vinegar 13 = .ok (.astore 4, 2) := by decide +kernel
theorem dL_vinegar_15 : decode cL_vinegar 15 = .ok (.iconst 1, 1) := by decide +kernel
theorem dL_vinegar_16 : decode cL_vinegar 16 = .ok (.ireturn, 1) := by decide +kernel
theorem dL_vinegar_17 : decode cL_vinegar 17 = .ok (.iconst 0, 1) := by decide +kernel
theorem dL_vinegar_18 : decode cL_vinegar 18 = .ok (.ireturn, 1) := by decide +kernel
theorem dL_betrays_0 : decode cL_betrays 0 = .ok (.aload_n 3, 1) := by decide +kernel
theorem dL_betrays_1 : decode cL_betrays 1 = .ok (.iconst 0, 1) := by decide +kernel
theorem dL_betrays_2 : decode cL_betrays 2 = .ok (.aload_n 0, 1) := by decide +kernel
theorem dL_betrays_3 : decode cL_betrays 3 = .ok (.iload_n 1, 1) := by decide +kernel
theorem dL_betrays_4 : decode cL_betrays 4 = .ok (.iload_n 2, 1) := by decide +kernel
theorem dL_betrays_5 : decode cL_betrays 5 = .ok (.invokevirtual 111, 3) := by decide +kernel
theorem dL_betrays_8 : decode cL_betrays 8 = .ok (.ifCond .eq 7, 3) := by decide +kernel
theorem dL_betrays_11 : decode cL_betrays 11 = .ok (.lconst 1, 1) := by decide +kernel
theorem dL_betrays_12 : decode cL_betrays 12 = .ok (.goto 4, 3) := by decide +kernel
theorem dL_betrays_15 : decode cL_betrays 15 = .ok (.lconst 0, 1) := by decide +kernel
theorem dL_betrays_16 : decode cL_betrays 16 = .ok (.lastore, 1) := by decide +kernel
theorem dL_betrays_17 : decode cL_betrays 17 = .ok (.goto 11, 3) := by decide +kernel
theorem dL_betrays_20 : decode cL_betrays 20 = .ok (.astore 4, 2) := by decide +kernel
theorem dL_betrays_22 : decode cL_betrays 22 = .ok (.iconst 1, 1) := by decide +kernel
theorem dL_betrays_23 : decode cL_betrays 23 = .ok (.ireturn, 1) := by decide +kernel
theorem dL_betrays_24 : decode cL_betrays 24 = .ok (.astore 4, 2) := by decide +kernel
theorem dL_betrays_26 : decode cL_betrays 26 = .ok (.iconst 2, 1) := by decide +kernel
theorem dL_betrays_27 : decode cL_betrays 27 = .ok (.ireturn, 1) := by decide +kernel
theorem dL_betrays_28 : decode cL_betrays 28 = .ok (.iconst 0, 1) := by decide +kernel
theorem dL_betrays_29 : decode cL_betrays 29 = .ok (.ireturn, 1) := by decide +kernel
theorem dL_couples_0 : decode cL_couples 0 = .ok (.aload_n 2, 1) := by decide +kernel
theorem dL_couples_1 : decode cL_couples 1 = .ok (.iconst 0, 1) := by decide +kernel
theorem dL_couples_2 : decode cL_couples 2 = .ok (.aload_n 0, 1) := by decide +kernel
theorem dL_couples_3 : decode cL_couples 3 = .ok (.iload_n 1, 1) := by decide +kernel
theorem dL_couples_4 : decode cL_couples 4 = .ok (.invokevirtual 115, 3) := by decide +kernel
theorem dL_couples_7 : decode cL_couples 7 = .ok (.i2l, 1) := by decide +kernel
theorem dL_couples_8 : decode cL_couples 8 = .ok (.lastore, 1) := by decide +kernel
theorem dL_couples_9 : decode cL_couples 9 = .ok (.goto 6, 3) := by decide +kernel
theorem dL_couples_12 : decode cL_couples 12 = .ok (.astore_n 3, 1) := by decide +kernel
theorem dL_couples_13 : decode cL_couples 13 = .ok (.iconst 1, 1) := by decide +kernel
theorem dL_couples_14 : decode cL_couples 14 = .ok (.ireturn, 1) := by decide +kernel
theorem dL_couples_15 : decode cL_couples 15 = .ok (.iconst 0, 1) := by decide +kernel
theorem dL_couples_16 : decode cL_couples 16 = .ok (.ireturn, 1) := by decide +kernel
theorem dL_between_0 : decode cL_between 0 = .ok (.aload_n 3, 1) := by decide +kernel
theorem dL_between_1 : decode cL_between 1 = .ok (.iconst 0, 1) := by decide +kernel
theorem dL_between_2 : decode cL_between 2 = .ok (.aload_n 0, 1) := by decide +kernel
theorem dL_between_3 : decode cL_between 3 = .ok (.iload_n 1, 1) := by decide +kernel
theorem dL_between_4 : decode cL_between 4 = .ok (.iload_n 2, 1) := by decide +kernel
theorem dL_between_5 : decode cL_between 5 = .ok (.invokevirtual 118, 3) := by decide +kernel
theorem dL_between_8 : decode cL_between 8 = .ok (.i2l, 1) := by decide +kernel
theorem dL_between_9 : decode cL_between 9 = .ok (.lastore, 1) := by decide +kernel
theorem dL_between_10 : decode cL_between 10 = .ok (.goto 11, 3) := by decide +kernel
theorem dL_between_13 : decode cL_between 13 = .ok (.astore 4, 2) := by decide +kernel
theorem dL_between_15 : decode cL_between 15 = .ok (.iconst 1, 1) := by decide +kernel
theorem dL_between_16 : decode cL_between 16 = .ok (.ireturn, 1) := by decide +kernel
theorem dL_between_17 : decode cL_between 17 = .ok (.astore 4, 2) := by decide +kernel
theorem dL_between_19 : decode cL_between 19 = .ok (.iconst 2, 1) := by decide +kernel
theorem dL_between_20 : decode cL_between 20 = .ok (.ireturn, 1) := by decide +kernel
theorem dL_between_21 : decode cL_between 21 = .ok (.iconst 0, 1) := by decide +kernel
theorem dL_between_22 : decode cL_between 22 = .ok (.ireturn, 1) := by decide +kernel
theorem dL_rests_0 : decode cL_rests 0 = .ok (.aload_n 3, 1) := by decide +kernel
theorem dL_rests_1 : decode cL_rests 1 = .ok (.iconst 0, 1) := by decide +kernel
theorem dL_rests_2 : decode cL_rests 2 = .ok (.aload_n 0, 1) := by decide +kernel
theorem dL_rests_3 : decode cL_rests 3 = .ok (.iload_n 1, 1) := by decide +kernel
theorem dL_rests_4 : decode cL_rests 4 = .ok (.iload_n 2, 1) := by decide +kernel
theorem dL_rests_5 : decode cL_rests 5 = .ok (.invokevirtual 121, 3) := by decide +kernel
theorem dL_rests_8 : decode cL_rests 8 = .ok (.i2l, 1) := by decide +kernel
theorem dL_rests_9 : decode cL_rests 9 = .ok (.lastore, 1) := by decide +kernel
theorem dL_rests_10 : decode cL_rests 10 = .ok (.goto 7, 3) := by decide +kernel
theorem dL_rests_13 : decode cL_rests 13 = .ok (.astore 4, 2) := by decide +kernel
theorem dL_rests_15 : decode cL_rests 15 = .ok (.iconst 1, 1) := by decide +kernel
theorem dL_rests_16 : decode cL_rests 16 = .ok (.ireturn, 1) := by decide +kernel
theorem dL_rests_17 : decode cL_rests 17 = .ok (.iconst 0, 1) := by decide +kernel
theorem dL_rests_18 : decode cL_rests 18 = .ok (.ireturn, 1) := by decide +kernel
theorem dL_odds_0 : decode cL_odds 0 = .ok (.aload_n 3, 1) := by decide +kernel
theorem dL_odds_1 : decode cL_odds 1 = .ok (.iconst 0, 1) := by decide +kernel
theorem dL_odds_2 : decode cL_odds 2 = .ok (.aload_n 0, 1) := by decide +kernel
theorem dL_odds_3 : decode cL_odds 3 = .ok (.iload_n 1, 1) := by decide +kernel
theorem dL_odds_4 : decode cL_odds 4 = .ok (.iload_n 2, 1) := by decide +kernel
theorem dL_odds_5 : decode cL_odds 5 = .ok (.invokevirtual 124, 3) := by decide +kernel
theorem dL_odds_8 : decode cL_odds 8 = .ok (.i2l, 1) := by decide +kernel
theorem dL_odds_9 : decode cL_odds 9 = .ok (.lastore, 1) := by decide +kernel
theorem dL_odds_10 : decode cL_odds 10 = .ok (.goto 7, 3) := by decide +kernel
theorem dL_odds_13 : decode cL_odds 13 = .ok (.astore 4, 2) := by decide +kernel
theorem dL_odds_15 : decode cL_odds 15 = .ok (.iconst 1, 1) := by decide +kernel
theorem dL_odds_16 : decode cL_odds 16 = .ok (.ireturn, 1) := by decide +kernel
theorem dL_odds_17 : decode cL_odds 17 = .ok (.iconst 0, 1) := by decide +kernel
theorem dL_odds_18 : decode cL_odds 18 = .ok (.ireturn, 1) := by decide +kernel
theorem dL_ahead_0 : decode cL_ahead 0 = .ok (.aload_n 3, 1) := by decide +kernel
theorem dL_ahead_1 : decode cL_ahead 1 = .ok (.iconst 0, 1) := by decide +kernel
theorem dL_ahead_2 : decode cL_ahead 2 = .ok (.aload_n 0, 1) := by decide +kernel
theorem dL_ahead_3 : decode cL_ahead 3 = .ok (.iload_n 1, 1) := by decide +kernel
theorem dL_ahead_4 : decode cL_ahead 4 = .ok (.iload_n 2, 1) := by decide +kernel
theorem dL_ahead_5 : decode cL_ahead 5 = .ok (.invokevirtual 127, 3) := by decide +kernel
theorem dL_ahead_8 : decode cL_ahead 8 = .ok (.i2l, 1) := by decide +kernel
theorem dL_ahead_9 : decode cL_ahead 9 = .ok (.lastore, 1) := by decide +kernel
theorem dL_ahead_10 : decode cL_ahead 10 = .ok (.goto 11, 3) := by decide +kernel
theorem dL_ahead_13 : decode cL_ahead 13 = .ok (.astore 4, 2) := by decide +kernel
theorem dL_ahead_15 : decode cL_ahead 15 = .ok (.iconst 1, 1) := by decide +kernel
theorem dL_ahead_16 : decode cL_ahead 16 = .ok (.ireturn, 1) := by decide +kernel
theorem dL_ahead_17 : decode cL_ahead 17 = .ok (.astore 4, 2) := by decide +kernel
theorem dL_ahead_19 : decode cL_ahead 19 = .ok (.iconst 2, 1) := by decide +kernel
theorem dL_ahead_20 : decode cL_ahead 20 = .ok (.ireturn, 1) := by decide +kernel
theorem dL_ahead_21 : decode cL_ahead 21 = .ok (.iconst 0, 1) := by decide +kernel
theorem dL_ahead_22 : decode cL_ahead 22 = .ok (.ireturn, 1) := by decide +kernel
theorem dL_trial_0 : decode cL_trial 0 = .ok (.aload_n 3, 1) := by decide +kernel
theorem dL_trial_1 : decode cL_trial 1 = .ok (.iconst 0, 1) := by decide +kernel
theorem dL_trial_2 : decode cL_trial 2 = .ok (.aload_n 0, 1) := by decide +kernel
theorem dL_trial_3 : decode cL_trial 3 = .ok (.iload_n 1, 1) := by decide +kernel
theorem dL_trial_4 : decode cL_trial 4 = .ok (.iload_n 2, 1) := by decide +kernel
theorem dL_trial_5 : decode cL_trial 5 = .ok (.invokevirtual 130, 3) := by decide +kernel
theorem dL_trial_8 : decode cL_trial 8 = .ok (.i2l, 1) := by decide +kernel
theorem dL_trial_9 : decode cL_trial 9 = .ok (.lastore, 1) := by decide +kernel
theorem dL_trial_10 : decode cL_trial 10 = .ok (.goto 7, 3) := by decide +kernel
theorem dL_trial_13 : decode cL_trial 13 = .ok (.astore 4, 2) := by decide +kernel
theorem dL_trial_15 : decode cL_trial 15 = .ok (.iconst 1, 1) := by decide +kernel
theorem dL_trial_16 : decode cL_trial 16 = .ok (.ireturn, 1) := by decide +kernel
theorem dL_trial_17 : decode cL_trial 17 = .ok (.iconst 0, 1) := by decide +kernel
theorem dL_trial_18 : decode cL_trial 18 = .ok (.ireturn, 1) := by decide +kernel
theorem dL_span_0 : decode cL_span 0 = .ok (.aload_n 3, 1) := by decide +kernel
theorem dL_span_1 : decode cL_span 1 = .ok (.iconst 0, 1) := by decide +kernel
theorem dL_span_2 : decode cL_span 2 = .ok (.aload_n 0, 1) := by decide +kernel
theorem dL_span_3 : decode cL_span 3 = .ok (.iload_n 1, 1) := by decide +kernel
theorem dL_span_4 : decode cL_span 4 = .ok (.iload_n 2, 1) := by decide +kernel
theorem dL_span_5 : decode cL_span 5 = .ok (.invokevirtual 134, 3) := by decide +kernel
theorem dL_span_8 : decode cL_span 8 = .ok (.i2l, 1) := by decide +kernel
theorem dL_span_9 : decode cL_span 9 = .ok (.lastore, 1) := by decide +kernel
theorem dL_span_10 : decode cL_span 10 = .ok (.goto 7, 3) := by decide +kernel
theorem dL_span_13 : decode cL_span 13 = .ok (.astore 4, 2) := by decide +kernel
theorem dL_span_15 : decode cL_span 15 = .ok (.iconst 1, 1) := by decide +kernel
theorem dL_span_16 : decode cL_span 16 = .ok (.ireturn, 1) := by decide +kernel
theorem dL_span_17 : decode cL_span 17 = .ok (.iconst 0, 1) := by decide +kernel
theorem dL_span_18 : decode cL_span 18 = .ok (.ireturn, 1) := by decide +kernel
theorem dL_led_0 : decode cL_led 0 = .ok (.aload_n 3, 1) := by decide +kernel
theorem dL_led_1 : decode cL_led 1 = .ok (.iconst 0, 1) := by decide +kernel
theorem dL_led_2 : decode cL_led 2 = .ok (.aload_n 0, 1) := by decide +kernel
theorem dL_led_3 : decode cL_led 3 = .ok (.iload_n 1, 1) := by decide +kernel
theorem dL_led_4 : decode cL_led 4 = .ok (.iload_n 2, 1) := by decide +kernel
theorem dL_led_5 : decode cL_led 5 = .ok (.invokevirtual 137, 3) := by decide +kernel
theorem dL_led_8 : decode cL_led 8 = .ok (.i2l, 1) := by decide +kernel
theorem dL_led_9 : decode cL_led 9 = .ok (.lastore, 1) := by decide +kernel
theorem dL_led_10 : decode cL_led 10 = .ok (.goto 7, 3) := by decide +kernel
theorem dL_led_13 : decode cL_led 13 = .ok (.astore 4, 2) := by decide +kernel
theorem dL_led_15 : decode cL_led 15 = .ok (.iconst 1, 1) := by decide +kernel
theorem dL_led_16 : decode cL_led 16 = .ok (.ireturn, 1) := by decide +kernel
theorem dL_led_17 : decode cL_led 17 = .ok (.iconst 0, 1) := by decide +kernel
theorem dL_led_18 : decode cL_led 18 = .ok (.ireturn, 1) := by decide +kernel
theorem dL_log_0 : decode cL_log 0 = .ok (.aload_n 3, 1) := by decide +kernel
theorem dL_log_1 : decode cL_log 1 = .ok (.iconst 0, 1) := by decide +kernel
theorem dL_log_2 : decode cL_log 2 = .ok (.aload_n 0, 1) := by decide +kernel
theorem dL_log_3 : decode cL_log 3 = .ok (.iload_n 1, 1) := by decide +kernel
theorem dL_log_4 : decode cL_log 4 = .ok (.iload_n 2, 1) := by decide +kernel
theorem dL_log_5 : decode cL_log 5 = .ok (.invokevirtual 140, 3) := by decide +kernel
theorem dL_log_8 : decode cL_log 8 = .ok (.i2l, 1) := by decide +kernel
theorem dL_log_9 : decode cL_log 9 = .ok (.lastore, 1) := by decide +kernel
theorem dL_log_10 : decode cL_log 10 = .ok (.goto 7, 3) := by decide +kernel
theorem dL_log_13 : decode cL_log 13 = .ok (.astore 4, 2) := by decide +kernel
theorem dL_log_15 : decode cL_log 15 = .ok (.iconst 1, 1) := by decide +kernel
theorem dL_log_16 : decode cL_log 16 = .ok (.ireturn, 1) := by decide +kernel
theorem dL_log_17 : decode cL_log 17 = .ok (.iconst 0, 1) := by decide +kernel
theorem dL_log_18 : decode cL_log 18 = .ok (.ireturn, 1) := by decide +kernel
theorem dL_law__0 : decode cL_law_ 0 = .ok (.new 8, 3) := by decide +kernel
theorem dL_law__3 : decode cL_law_ 3 = .ok (.dup, 1) := by decide +kernel
theorem dL_law__4 : decode cL_law_ 4 = .ok (.invokespecial 143, 3) := by decide +kernel
theorem dL_law__7 : decode cL_law_ 7 = .ok (.astore_n 1, 1) := by decide +kernel
theorem dL_law__8 : decode cL_law_ 8 = .ok (.new 144, 3) := by decide +kernel
theorem dL_law__11 : decode cL_law_ 11 = .ok (.dup, 1) := by decide +kernel
theorem dL_law__12 : decode cL_law_ 12 = .ok (.invokespecial 146, 3) := by decide +kernel
theorem dL_law__15 : decode cL_law_ 15 = .ok (.astore_n 2, 1) := by decide +kernel
theorem dL_law__16 : decode cL_law_ 16 = .ok (.iconst 1, 1) := by decide +kernel
theorem dL_law__17 : decode cL_law_ 17 = .ok (.newarray .long, 2) := by decide +kernel
theorem dL_law__19 : decode cL_law_ 19 = .ok (.astore_n 3, 1) := by decide +kernel
theorem dL_law__20 : decode cL_law_ 20 = .ok (.iconst 0, 1) := by decide +kernel
theorem dL_law__21 : decode cL_law_ 21 = .ok (.istore 4, 2) := by decide +kernel
theorem dL_law__23 : decode cL_law_ 23 = .ok (.iload 4, 2) := by decide +kernel
theorem dL_law__25 : decode cL_law_ 25 = .ok (.aload_n 0, 1) := by decide +kernel
theorem dL_law__26 : decode cL_law_ 26 = .ok (.arraylength, 1) := by decide +kernel
theorem dL_law__27 : decode cL_law_ 27 = .ok (.bipush 6, 2) := by decide +kernel
theorem dL_law__29 : decode cL_law_ 29 = .ok (.isub, 1) := by decide +kernel
theorem dL_law__30 : decode cL_law_ 30 = .ok (.if_icmp .gt 3066, 3) := by decide +kernel
theorem dL_law__33 : decode cL_law_ 33 = .ok (.aload_n 0, 1) := by decide +kernel
theorem dL_law__34 : decode cL_law_ 34 = .ok (.iload 4, 2) := by decide +kernel
theorem dL_law__36 : decode cL_law_ 36 = .ok (.iaload, 1) := by decide +kernel
theorem dL_law__37 : decode cL_law_ 37 = .ok (.bipush 63, 2) := by decide +kernel
theorem dL_law__39 : decode cL_law_ 39 = .ok (.iand, 1) := by decide +kernel
theorem dL_law__40 : decode cL_law_ 40 = .ok (.tableswitch 3050 0 57 #[248, 321, 346, 390, 434, 447, 515, 583, 639, 695, 751, 807, 863, 931, 999, 1055, 1146, 1214, 1270, 1338, 1406, 1462, 1530, 1543, 1556, 1569, 1613, 1657, 1701, 1745, 1758, 1814, 1870, 1926, 1994, 2038, 2094, 2162, 2237, 2250, 2306, 2374, 2387, 2455, 2523, 2536, 2549, 2562, 2575, 2643, 2727, 2811, 2895, 2963, 2988, 3001, 3012, 3025], 248) := by decide +kernel
theorem dL_law__288 : decode cL_law_ 288 = .ok (.aload_n 1, 1) := by decide +kernel
theorem dL_law__289 : decode cL_law_ 289 = .ok (.aload_n 0, 1) := by decide +kernel
theorem dL_law__290 : decode cL_law_ 290 = .ok (.iload 4, 2) := by decide +kernel
theorem dL_law__292 : decode cL_law_ 292 = .ok (.iconst 1, 1) := by decide +kernel
theorem dL_law__293 : decode cL_law_ 293 = .ok (.iadd, 1) := by decide +kernel
theorem dL_law__294 : decode cL_law_ 294 = .ok (.iaload, 1) := by decide +kernel
theorem dL_law__295 : decode cL_law_ 295 = .ok (.aload_n 0, 1) := by decide +kernel
theorem dL_law__296 : decode cL_law_ 296 = .ok (.iload 4, 2) := by decide +kernel
theorem dL_law__298 : decode cL_law_ 298 = .ok (.iconst 2, 1) := by decide +kernel
theorem dL_law__299 : decode cL_law_ 299 = .ok (.iadd, 1) := by decide +kernel
theorem dL_law__300 : decode cL_law_ 300 = .ok (.iaload, 1) := by decide +kernel
theorem dL_law__301 : decode cL_law_ 301 = .ok (.aload_n 0, 1) := by decide +kernel
theorem dL_law__302 : decode cL_law_ 302 = .ok (.iload 4, 2) := by decide +kernel
theorem dL_law__304 : decode cL_law_ 304 = .ok (.iconst 3, 1) := by decide +kernel
theorem dL_law__305 : decode cL_law_ 305 = .ok (.iadd, 1) := by decide +kernel
theorem dL_law__306 : decode cL_law_ 306 = .ok (.iaload, 1) := by decide +kernel
theorem dL_law__307 : decode cL_law_ 307 = .ok (.aload_n 0, 1) := by decide +kernel
theorem dL_law__308 : decode cL_law_ 308 = .ok (.iload 4, 2) := by decide +kernel
theorem dL_law__310 : decode cL_law_ 310 = .ok (.iconst 4, 1) := by decide +kernel
theorem dL_law__311 : decode cL_law_ 311 = .ok (.iadd, 1) := by decide +kernel
theorem dL_law__312 : decode cL_law_ 312 = .ok (.iaload, 1) := by decide +kernel
theorem dL_law__313 : decode cL_law_ 313 = .ok (.aload_n 0, 1) := by decide +kernel
theorem dL_law__314 : decode cL_law_ 314 = .ok (.iload 4, 2) := by decide +kernel
theorem dL_law__316 : decode cL_law_ 316 = .ok (.iconst 5, 1) := by decide +kernel
theorem dL_law__317 : decode cL_law_ 317 = .ok (.iadd, 1) := by decide +kernel
theorem dL_law__318 : decode cL_law_ 318 = .ok (.iaload, 1) := by decide +kernel
theorem dL_law__319 : decode cL_law_ 319 = .ok (.invokevirtual 147, 3) := by decide +kernel
theorem dL_law__322 : decode cL_law_ 322 = .ok (.aload_n 2, 1) := by decide +kernel
theorem dL_law__323 : decode cL_law_ 323 = .ok (.aload_n 0, 1) := by decide +kernel
theorem dL_law__324 : decode cL_law_ 324 = .ok (.iload 4, 2) := by decide +kernel
theorem dL_law__326 : decode cL_law_ 326 = .ok (.iconst 1, 1) := by decide +kernel
theorem dL_law__327 : decode cL_law_ 327 = .ok (.iadd, 1) := by decide +kernel
theorem dL_law__328 : decode cL_law_ 328 = .ok (.iaload, 1) := by decide +kernel
theorem dL_law__329 : decode cL_law_ 329 = .ok (.aload_n 0, 1) := by decide +kernel
theorem dL_law__330 : decode cL_law_ 330 = .ok (.iload 4, 2) := by decide +kernel
theorem dL_law__332 : decode cL_law_ 332 = .ok (.iconst 2, 1) := by decide +kernel
theorem dL_law__333 : decode cL_law_ 333 = .ok (.iadd, 1) := by decide +kernel
theorem dL_law__334 : decode cL_law_ 334 = .ok (.iaload, 1) := by decide +kernel
theorem dL_law__335 : decode cL_law_ 335 = .ok (.aload_n 0, 1) := by decide +kernel
theorem dL_law__336 : decode cL_law_ 336 = .ok (.iload 4, 2) := by decide +kernel
theorem dL_law__338 : decode cL_law_ 338 = .ok (.iconst 3, 1) := by decide +kernel
theorem dL_law__339 : decode cL_law_ 339 = .ok (.iadd, 1) := by decide +kernel
theorem dL_law__340 : decode cL_law_ 340 = .ok (.iaload, 1) := by decide +kernel
theorem dL_law__341 : decode cL_law_ 341 = .ok (.aload_n 0, 1) := by decide +kernel
theorem dL_law__342 : decode cL_law_ 342 = .ok (.iload 4, 2) := by decide +kernel
theorem dL_law__344 : decode cL_law_ 344 = .ok (.iconst 4, 1) := by decide +kernel
theorem dL_law__345 : decode cL_law_ 345 = .ok (.iadd, 1) := by decide +kernel
theorem dL_law__346 : decode cL_law_ 346 = .ok (.iaload, 1) := by decide +kernel
theorem dL_law__347 : decode cL_law_ 347 = .ok (.aload_n 0, 1) := by decide +kernel
theorem dL_law__348 : decode cL_law_ 348 = .ok (.iload 4, 2) := by decide +kernel
theorem dL_law__350 : decode cL_law_ 350 = .ok (.iconst 5, 1) := by decide +kernel
theorem dL_law__351 : decode cL_law_ 351 = .ok (.iadd, 1) := by decide +kernel
theorem dL_law__352 : decode cL_law_ 352 = .ok (.iaload, 1) := by decide +kernel
theorem dL_law__353 : decode cL_law_ 353 = .ok (.invokevirtual 151, 3) := by decide +kernel
theorem dL_law__356 : decode cL_law_ 356 = .ok (.if_icmp .eq 2734, 3) := by decide +kernel
theorem dL_law__359 : decode cL_law_ 359 = .ok (.iconst 0, 1) := by decide +kernel
theorem dL_law__360 : decode cL_law_ 360 = .ok (.ireturn, 1) := by decide +kernel
theorem dL_law__361 : decode cL_law_ 361 = .ok (.aload_n 1, 1) := by decide +kernel
theorem dL_law__362 : decode cL_law_ 362 = .ok (.aload_n 0, 1) := by decide +kernel
theorem dL_law__363 : decode cL_law_ 363 = .ok (.iload 4, 2) := by decide +kernel
theorem dL_law__365 : decode cL_law_ 365 = .ok (.iconst 1, 1) := by decide +kernel
theorem dL_law__366 : decode cL_law_ 366 = .ok (.iadd, 1) := by decide +kernel
theorem dL_law__367 : decode cL_law_ 367 = .ok (.iaload, 1) := by decide +kernel
theorem dL_law__368 : decode cL_law_ 368 = .ok (.invokevirtual 152, 3) := by decide +kernel
theorem dL_law__371 : decode cL_law_ 371 = .ok (.aload_n 2, 1) := by decide +kernel
theorem dL_law__372 : decode cL_law_ 372 = .ok (.aload_n 0, 1) := by decide +kernel
theorem dL_law__373 : decode cL_law_ 373 = .ok (.iload 4, 2) := by decide +kernel
theorem dL_law__375 : decode cL_law_ 375 = .ok (.iconst 1, 1) := by decide +kernel
theorem dL_law__376 : decode cL_law_ 376 = .ok (.iadd, 1) := by decide +kernel
theorem dL_law__377 : decode cL_law_ 377 = .ok (.iaload, 1) := by decide +kernel
theorem dL_law__378 : decode cL_law_ 378 = .ok (.invokevirtual 156, 3) := by decide +kernel
theorem dL_law__381 : decode cL_law_ 381 = .ok (.if_icmp .eq 2709, 3) := by decide +kernel
theorem dL_law__384 : decode cL_law_ 384 = .ok (.iconst 0, 1) := by decide +kernel
theorem dL_law__385 : decode cL_law_ 385 = .ok (.ireturn, 1) := by decide +kernel
theorem dL_law__386 : decode cL_law_ 386 = .ok (.aload_n 1, 1) := by decide +kernel
theorem dL_law__387 : decode cL_law_ 387 = .ok (.aload_n 3, 1) := by decide +kernel
theorem dL_law__388 : decode cL_law_ 388 = .ok (.invokestatic 157, 3) := by decide +kernel
theorem dL_law__391 : decode cL_law_ 391 = .ok (.istore 5, 2) := by decide +kernel
theorem dL_law__393 : decode cL_law_ 393 = .ok (.aload_n 2, 1) := by decide +kernel
theorem dL_law__394 : decode cL_law_ 394 = .ok (.invokevirtual 162, 3) := by decide +kernel
theorem dL_law__397 : decode cL_law_ 397 = .ok (.istore 6, 2) := by decide +kernel
theorem dL_law__399 : decode cL_law_ 399 = .ok (.aload_n 2, 1) := by decide +kernel
theorem dL_law__400 : decode cL_law_ 400 = .ok (.invokevirtual 163, 3) := by decide +kernel
theorem dL_law__403 : decode cL_law_ 403 = .ok (.iload 5, 2) := by decide +kernel
theorem dL_law__405 : decode cL_law_ 405 = .ok (.if_icmp .eq 5, 3) := by decide +kernel
theorem dL_law__408 : decode cL_law_ 408 = .ok (.iconst 0, 1) := by decide +kernel
theorem dL_law__409 : decode cL_law_ 409 = .ok (.ireturn, 1) := by decide +kernel
theorem dL_law__410 : decode cL_law_ 410 = .ok (.iload 5, 2) := by decide +kernel
theorem dL_law__412 : decode cL_law_ 412 = .ok (.ifCond .ne 15, 3) := by decide +kernel
theorem dL_law__415 : decode cL_law_ 415 = .ok (.aload_n 3, 1) := by decide +kernel
theorem dL_law__416 : decode cL_law_ 416 = .ok (.iconst 0, 1) := by decide +kernel
theorem dL_law__417 : decode cL_law_ 417 = .ok (.laload, 1) := by decide +kernel
theorem dL_law__418 : decode cL_law_ 418 = .ok (.iload 6, 2) := by decide +kernel
theorem dL_law__420 : decode cL_law_ 420 = .ok (.i2l, 1) := by decide +kernel
theorem dL_law__421 : decode cL_law_ 421 = .ok (.lcmp, 1) := by decide +kernel
theorem dL_law__422 : decode cL_law_ 422 = .ok (.ifCond .eq 5, 3) := by decide +kernel
theorem dL_law__425 : decode cL_law_ 425 = .ok (.iconst 0, 1) := by decide +kernel
theorem dL_law__426 : decode cL_law_ 426 = .ok (.ireturn, 1) := by decide +kernel
theorem dL_law__427 : decode cL_law_ 427 = .ok (.goto 2663, 3) := by decide +kernel
theorem dL_law__430 : decode cL_law_ 430 = .ok (.aload_n 1, 1) := by decide +kernel
theorem dL_law__431 : decode cL_law_ 431 = .ok (.aload_n 3, 1) := by decide +kernel
theorem dL_law__432 : decode cL_law_ 432 = .ok (.invokestatic 166, 3) := by decide +kernel
theorem dL_law__435 : decode cL_law_ 435 = .ok (.istore 5, 2) := by decide +kernel
theorem dL_law__437 : decode cL_law_ 437 = .ok (.aload_n 2, 1) := by decide +kernel
theorem dL_law__438 : decode cL_law_ 438 = .ok (.invokevirtual 168, 3) := by decide +kernel
theorem dL_law__441 : decode cL_law_ 441 = .ok (.istore 6, 2) := by decide +kernel
theorem dL_law__443 : decode cL_law_ 443 = .ok (.aload_n 2, 1) := by decide +kernel
theorem dL_law__444 : decode cL_law_ 444 = .ok (.invokevirtual 163, 3) := by decide +kernel
theorem dL_law__447 : decode cL_law_ 447 = .ok (.iload 5, 2) := by decide +kernel
theorem dL_law__449 : decode cL_law_ 449 = .ok (.if_icmp .eq 5, 3) := by decide +kernel
theorem dL_law__452 : decode cL_law_ 452 = .ok (.iconst 0, 1) := by decide +kernel
theorem dL_law__453 : decode cL_law_ 453 = .ok (.ireturn, 1) := by decide +kernel
theorem dL_law__454 : decode cL_law_ 454 = .ok (.iload 5, 2) := by decide +kernel
theorem dL_law__456 : decode cL_law_ 456 = .ok (.ifCond .ne 15, 3) := by decide +kernel
theorem dL_law__459 : decode cL_law_ 459 = .ok (.aload_n 3, 1) := by decide +kernel
theorem dL_law__460 : decode cL_law_ 460 = .ok (.iconst 0, 1) := by decide +kernel
theorem dL_law__461 : decode cL_law_ 461 = .ok (.laload, 1) := by decide +kernel
theorem dL_law__462 : decode cL_law_ 462 = .ok (.iload 6, 2) := by decide +kernel
theorem dL_law__464 : decode cL_law_ 464 = .ok (.i2l, 1) := by decide +kernel
theorem dL_law__465 : decode cL_law_ 465 = .ok (.lcmp, 1) := by decide +kernel
theorem dL_law__466 : decode cL_law_ 466 = .ok (.ifCond .eq 5, 3) := by decide +kernel
theorem dL_law__469 : decode cL_law_ 469 = .ok (.iconst 0, 1) := by decide +kernel
theorem dL_law__470 : decode cL_law_ 470 = .ok (.ireturn, 1) := by decide +kernel
theorem dL_law__471 : decode cL_law_ 471 = .ok (.goto 2619, 3) := by decide +kernel
theorem dL_law__474 : decode cL_law_ 474 = .ok (.aload_n 1, 1) := by decide +kernel
theorem dL_law__475 : decode cL_law_ 475 = .ok (.invokevirtual 169, 3) := by decide +kernel
theorem dL_law__478 : decode cL_law_ 478 = .ok (.aload_n 2, 1) := by decide +kernel
theorem dL_law__479 : decode cL_law_ 479 = .ok (.invokevirtual 172, 3) := by decide +kernel
theorem dL_law__482 : decode cL_law_ 482 = .ok (.if_icmp .eq 2608, 3) := by decide +kernel
theorem dL_law__485 : decode cL_law_ 485 = .ok (.iconst 0, 1) := by decide +kernel
theorem dL_law__486 : decode cL_law_ 486 = .ok (.ireturn, 1) := by decide +kernel
theorem dL_law__487 : decode cL_law_ 487 = .ok (.aload_n 1, 1) := by decide +kernel
theorem dL_law__488 : decode cL_law_ 488 = .ok (.aload_n 0, 1) := by decide +kernel
theorem dL_law__489 : decode cL_law_ 489 = .ok (.iload 4, 2) := by decide +kernel
theorem dL_law__491 : decode cL_law_ 491 = .ok (.iconst 1, 1) := by decide +kernel
theorem dL_law__492 : decode cL_law_ 492 = .ok (.iadd, 1) := by decide +kernel
theorem dL_law__493 : decode cL_law_ 493 = .ok (.iaload, 1) := by decide +kernel
theorem dL_law__494 : decode cL_law_ 494 = .ok (.aload_n 0, 1) := by decide +kernel
theorem dL_law__495 : decode cL_law_ 495 = .ok (.iload 4, 2) := by decide +kernel
theorem dL_law__497 : decode cL_law_ 497 = .ok (.iconst 2, 1) := by decide +kernel
theorem dL_law__498 : decode cL_law_ 498 = .ok (.iadd, 1) := by decide +kernel
theorem dL_law__499 : decode cL_law_ 499 = .ok (.iaload, 1) := by decide +kernel
theorem dL_law__500 : decode cL_law_ 500 = .ok (.aload_n 3, 1) := by decide +kernel
theorem dL_law__501 : decode cL_law_ 501 = .ok (.invokestatic 173, 3) := by decide +kernel
theorem dL_law__504 : decode cL_law_ 504 = .ok (.istore 5, 2) := by decide +kernel
theorem dL_law__506 : decode cL_law_ 506 = .ok (.aload_n 2, 1) := by decide +kernel
theorem dL_law__507 : decode cL_law_ 507 = .ok (.aload_n 0, 1) := by decide +kernel
theorem dL_law__508 : decode cL_law_ 508 = .ok (.iload 4, 2) := by decide +kernel
theorem dL_law__510 : decode cL_law_ 510 = .ok (.iconst 1, 1) := by decide +kernel
theorem dL_law__511 : decode cL_law_ 511 = .ok (.iadd, 1) := by decide +kernel
theorem dL_law__512 : decode cL_law_ 512 = .ok (.iaload, 1) := by decide +kernel
theorem dL_law__513 : decode cL_law_ 513 = .ok (.aload_n 0, 1) := by decide +kernel
theorem dL_law__514 : decode cL_law_ 514 = .ok (.iload 4, 2) := by decide +kernel
theorem dL_law__516 : decode cL_law_ 516 = .ok (.iconst 2, 1) := by decide +kernel
theorem dL_law__517 : decode cL_law_ 517 = .ok (.iadd, 1) := by decide +kernel
theorem dL_law__518 : decode cL_law_ 518 = .ok (.iaload, 1) := by decide +kernel
theorem dL_law__519 : decode cL_law_ 519 = .ok (.invokevirtual 176, 3) := by decide +kernel
theorem dL_law__522 : decode cL_law_ 522 = .ok (.istore 6, 2) := by decide +kernel
theorem dL_law__524 : decode cL_law_ 524 = .ok (.aload_n 2, 1) := by decide +kernel
theorem dL_law__525 : decode cL_law_ 525 = .ok (.invokevirtual 163, 3) := by decide +kernel
theorem dL_law__528 : decode cL_law_ 528 = .ok (.iload 5, 2) := by decide +kernel
theorem dL_law__530 : decode cL_law_ 530 = .ok (.if_icmp .eq 5, 3) := by decide +kernel
theorem dL_law__533 : decode cL_law_ 533 = .ok (.iconst 0, 1) := by decide +kernel
theorem dL_law__534 : decode cL_law_ 534 = .ok (.ireturn, 1) := by decide +kernel
theorem dL_law__535 : decode cL_law_ 535 = .ok (.iload 5, 2) := by decide +kernel
theorem dL_law__537 : decode cL_law_ 537 = .ok (.ifCond .ne 15, 3) := by decide +kernel
theorem dL_law__540 : decode cL_law_ 540 = .ok (.aload_n 3, 1) := by decide +kernel
theorem dL_law__541 : decode cL_law_ 541 = .ok (.iconst 0, 1) := by decide +kernel
theorem dL_law__542 : decode cL_law_ 542 = .ok (.laload, 1) := by decide +kernel
theorem dL_law__543 : decode cL_law_ 543 = .ok (.iload 6, 2) := by decide +kernel
theorem dL_law__545 : decode cL_law_ 545 = .ok (.i2l, 1) := by decide +kernel
theorem dL_law__546 : decode cL_law_ 546 = .ok (.lcmp, 1) := by decide +kernel
theorem dL_law__547 : decode cL_law_ 547 = .ok (.ifCond .eq 5, 3) := by decide +kernel
theorem dL_law__550 : decode cL_law_ 550 = .ok (.iconst 0, 1) := by decide +kernel
theorem dL_law__551 : decode cL_law_ 551 = .ok (.ireturn, 1) := by decide +kernel
theorem dL_law__552 : decode cL_law_ 552 = .ok (.goto 2538, 3) := by decide +kernel
theorem dL_law__555 : decode cL_law_ 555 = .ok (.aload_n 1, 1) := by decide +kernel
theorem dL_law__556 : decode cL_law_ 556 = .ok (.aload_n 0, 1) := by decide +kernel
theorem dL_law__557 : decode cL_law_ 557 = .ok (.iload 4, 2) := by decide +kernel
theorem dL_law__559 : decode cL_law_ 559 = .ok (.iconst 1, 1) := by decide +kernel
theorem dL_law__560 : decode cL_law_ 560 = .ok (.iadd, 1) := by decide +kernel
theorem dL_law__561 : decode cL_law_ 561 = .ok (.iaload, 1) := by decide +kernel
theorem dL_law__562 : decode cL_law_ 562 = .ok (.aload_n 0, 1) := by decide +kernel
theorem dL_law__563 : decode cL_law_ 563 = .ok (.iload 4, 2) := by decide +kernel
theorem dL_law__565 : decode cL_law_ 565 = .ok (.iconst 2, 1) := by decide +kernel
theorem dL_law__566 : decode cL_law_ 566 = .ok (.iadd, 1) := by decide +kernel
theorem dL_law__567 : decode cL_law_ 567 = .ok (.iaload, 1) := by decide +kernel
theorem dL_law__568 : decode cL_law_ 568 = .ok (.aload_n 3, 1) := by decide +kernel
theorem dL_law__569 : decode cL_law_ 569 = .ok (.invokestatic 177, 3) := by decide +kernel
theorem dL_law__572 : decode cL_law_ 572 = .ok (.istore 5, 2) := by decide +kernel
theorem dL_law__574 : decode cL_law_ 574 = .ok (.aload_n 2, 1) := by decide +kernel
theorem dL_law__575 : decode cL_law_ 575 = .ok (.aload_n 0, 1) := by decide +kernel
theorem dL_law__576 : decode cL_law_ 576 = .ok (.iload 4, 2) := by decide +kernel
theorem dL_law__578 : decode cL_law_ 578 = .ok (.iconst 1, 1) := by decide +kernel
theorem dL_law__579 : decode cL_law_ 579 = .ok (.iadd, 1) := by decide +kernel
theorem dL_law__580 : decode cL_law_ 580 = .ok (.iaload, 1) := by decide +kernel
theorem dL_law__581 : decode cL_law_ 581 = .ok (.aload_n 0, 1) := by decide +kernel
theorem dL_law__582 : decode cL_law_ 582 = .ok (.iload 4, 2) := by decide +kernel
theorem dL_law__584 : decode cL_law_ 584 = .ok (.iconst 2, 1) := by decide +kernel
theorem dL_law__585 : decode cL_law_ 585 = .ok (.iadd, 1) := by decide +kernel
theorem dL_law__586 : decode cL_law_ 586 = .ok (.iaload, 1) := by decide +kernel
theorem dL_law__587 : decode cL_law_ 587 = .ok (.invokevirtual 179, 3) := by decide +kernel
theorem dL_law__590 : decode cL_law_ 590 = .ok (.istore 6, 2) := by decide +kernel
theorem dL_law__592 : decode cL_law_ 592 = .ok (.aload_n 2, 1) := by decide +kernel
theorem dL_law__593 : decode cL_law_ 593 = .ok (.invokevirtual 163, 3) := by decide +kernel
theorem dL_law__596 : decode cL_law_ 596 = .ok (.iload 5, 2) := by decide +kernel
theorem dL_law__598 : decode cL_law_ 598 = .ok (.if_icmp .eq 5, 3) := by decide +kernel
theorem dL_law__601 : decode cL_law_ 601 = .ok (.iconst 0, 1) := by decide +kernel
theorem dL_law__602 : decode cL_law_ 602 = .ok (.ireturn, 1) := by decide +kernel
theorem dL_law__603 : decode cL_law_ 603 = .ok (.iload 5, 2) := by decide +kernel
theorem dL_law__605 : decode cL_law_ 605 = .ok (.ifCond .ne 15, 3) := by decide +kernel
theorem dL_law__608 : decode cL_law_ 608 = .ok (.aload_n 3, 1) := by decide +kernel
theorem dL_law__609 : decode cL_law_ 609 = .ok (.iconst 0, 1) := by decide +kernel
theorem dL_law__610 : decode cL_law_ 610 = .ok (.laload, 1) := by decide +kernel
theorem dL_law__611 : decode cL_law_ 611 = .ok (.iload 6, 2) := by decide +kernel
theorem dL_law__613 : decode cL_law_ 613 = .ok (.i2l, 1) := by decide +kernel
theorem dL_law__614 : decode cL_law_ 614 = .ok (.lcmp, 1) := by decide +kernel
theorem dL_law__615 : decode cL_law_ 615 = .ok (.ifCond .eq 5, 3) := by decide +kernel
theorem dL_law__618 : decode cL_law_ 618 = .ok (.iconst 0, 1) := by decide +kernel
theorem dL_law__619 : decode cL_law_ 619 = .ok (.ireturn, 1) := by decide +kernel
theorem dL_law__620 : decode cL_law_ 620 = .ok (.goto 2470, 3) := by decide +kernel
theorem dL_law__623 : decode cL_law_ 623 = .ok (.aload_n 1, 1) := by decide +kernel
theorem dL_law__624 : decode cL_law_ 624 = .ok (.aload_n 0, 1) := by decide +kernel
theorem dL_law__625 : decode cL_law_ 625 = .ok (.iload 4, 2) := by decide +kernel
theorem dL_law__627 : decode cL_law_ 627 = .ok (.iconst 1, 1) := by decide +kernel
theorem dL_law__628 : decode cL_law_ 628 = .ok (.iadd, 1) := by decide +kernel
theorem dL_law__629 : decode cL_law_ 629 = .ok (.iaload, 1) := by decide +kernel
theorem dL_law__630 : decode cL_law_ 630 = .ok (.aload_n 3, 1) := by decide +kernel
theorem dL_law__631 : decode cL_law_ 631 = .ok (.invokestatic 180, 3) := by decide +kernel
theorem dL_law__634 : decode cL_law_ 634 = .ok (.istore 5, 2) := by decide +kernel
theorem dL_law__636 : decode cL_law_ 636 = .ok (.aload_n 2, 1) := by decide +kernel
theorem dL_law__637 : decode cL_law_ 637 = .ok (.aload_n 0, 1) := by decide +kernel
theorem dL_law__638 : decode cL_law_ 638 = .ok (.iload 4, 2) := by decide +kernel
theorem dL_law__640 : decode cL_law_ 640 = .ok (.iconst 1, 1) := by decide +kernel
theorem dL_law__641 : decode cL_law_ 641 = .ok (.iadd, 1) := by decide +kernel
theorem dL_law__642 : decode cL_law_ 642 = .ok (.iaload, 1) := by decide +kernel
theorem dL_law__643 : decode cL_law_ 643 = .ok (.invokevirtual 183, 3) := by decide +kernel
theorem dL_law__646 : decode cL_law_ 646 = .ok (.istore 6, 2) := by decide +kernel
theorem dL_law__648 : decode cL_law_ 648 = .ok (.aload_n 2, 1) := by decide +kernel
theorem dL_law__649 : decode cL_law_ 649 = .ok (.invokevirtual 163, 3) := by decide +kernel
theorem dL_law__652 : decode cL_law_ 652 = .ok (.iload 5, 2) := by decide +kernel
theorem dL_law__654 : decode cL_law_ 654 = .ok (.if_icmp .eq 5, 3) := by decide +kernel
theorem dL_law__657 : decode cL_law_ 657 = .ok (.iconst 0, 1) := by decide +kernel
theorem dL_law__658 : decode cL_law_ 658 = .ok (.ireturn, 1) := by decide +kernel
theorem dL_law__659 : decode cL_law_ 659 = .ok (.iload 5, 2) := by decide +kernel
theorem dL_law__661 : decode cL_law_ 661 = .ok (.ifCond .ne 15, 3) := by decide +kernel
theorem dL_law__664 : decode cL_law_ 664 = .ok (.aload_n 3, 1) := by decide +kernel
theorem dL_law__665 : decode cL_law_ 665 = .ok (.iconst 0, 1) := by decide +kernel
theorem dL_law__666 : decode cL_law_ 666 = .ok (.laload, 1) := by decide +kernel
theorem dL_law__667 : decode cL_law_ 667 = .ok (.iload 6, 2) := by decide +kernel
theorem dL_law__669 : decode cL_law_ 669 = .ok (.i2l, 1) := by decide +kernel
theorem dL_law__670 : decode cL_law_ 670 = .ok (.lcmp, 1) := by decide +kernel
theorem dL_law__671 : decode cL_law_ 671 = .ok (.ifCond .eq 5, 3) := by decide +kernel
theorem dL_law__674 : decode cL_law_ 674 = .ok (.iconst 0, 1) := by decide +kernel
theorem dL_law__675 : decode cL_law_ 675 = .ok (.ireturn, 1) := by decide +kernel
theorem dL_law__676 : decode cL_law_ 676 = .ok (.goto 2414, 3) := by decide +kernel
theorem dL_law__679 : decode cL_law_ 679 = .ok (.aload_n 1, 1) := by decide +kernel
theorem dL_law__680 : decode cL_law_ 680 = .ok (.aload_n 0, 1) := by decide +kernel
theorem dL_law__681 : decode cL_law_ 681 = .ok (.iload 4, 2) := by decide +kernel
theorem dL_law__683 : decode cL_law_ 683 = .ok (.iconst 1, 1) := by decide +kernel
theorem dL_law__684 : decode cL_law_ 684 = .ok (.iadd, 1) := by decide +kernel
theorem dL_law__685 : decode cL_law_ 685 = .ok (.iaload, 1) := by decide +kernel
theorem dL_law__686 : decode cL_law_ 686 = .ok (.aload_n 3, 1) := by decide +kernel
theorem dL_law__687 : decode cL_law_ 687 = .ok (.invokestatic 184, 3) := by decide +kernel
theorem dL_law__690 : decode cL_law_ 690 = .ok (.istore 5, 2) := by decide +kernel
theorem dL_law__692 : decode cL_law_ 692 = .ok (.aload_n 2, 1) := by decide +kernel
theorem dL_law__693 : decode cL_law_ 693 = .ok (.aload_n 0, 1) := by decide +kernel
theorem dL_law__694 : decode cL_law_ 694 = .ok (.iload 4, 2) := by decide +kernel
theorem dL_law__696 : decode cL_law_ 696 = .ok (.iconst 1, 1) := by decide +kernel
theorem dL_law__697 : decode cL_law_ 697 = .ok (.iadd, 1) := by decide +kernel
theorem dL_law__698 : decode cL_law_ 698 = .ok (.iaload, 1) := by decide +kernel
theorem dL_law__699 : decode cL_law_ 699 = .ok (.invokevirtual 186, 3) := by decide +kernel
theorem dL_law__702 : decode cL_law_ 702 = .ok (.istore 6, 2) := by decide +kernel
theorem dL_law__704 : decode cL_law_ 704 = .ok (.aload_n 2, 1) := by decide +kernel
theorem dL_law__705 : decode cL_law_ 705 = .ok (.invokevirtual 163, 3) := by decide +kernel
theorem dL_law__708 : decode cL_law_ 708 = .ok (.iload 5, 2) := by decide +kernel
theorem dL_law__710 : decode cL_law_ 710 = .ok (.if_icmp .eq 5, 3) := by decide +kernel
theorem dL_law__713 : decode cL_law_ 713 = .ok (.iconst 0, 1) := by decide +kernel
theorem dL_law__714 : decode cL_law_ 714 = .ok (.ireturn, 1) := by decide +kernel
theorem dL_law__715 : decode cL_law_ 715 = .ok (.iload 5, 2) := by decide +kernel
theorem dL_law__717 : decode cL_law_ 717 = .ok (.ifCond .ne 15, 3) := by decide +kernel
theorem dL_law__720 : decode cL_law_ 720 = .ok (.aload_n 3, 1) := by decide +kernel
theorem dL_law__721 : decode cL_law_ 721 = .ok (.iconst 0, 1) := by decide +kernel
theorem dL_law__722 : decode cL_law_ 722 = .ok (.laload, 1) := by decide +kernel
theorem dL_law__723 : decode cL_law_ 723 = .ok (.iload 6, 2) := by decide +kernel
theorem dL_law__725 : decode cL_law_ 725 = .ok (.i2l, 1) := by decide +kernel
theorem dL_law__726 : decode cL_law_ 726 = .ok (.lcmp, 1) := by decide +kernel
theorem dL_law__727 : decode cL_law_ 727 = .ok (.ifCond .eq 5, 3) := by decide +kernel
theorem dL_law__730 : decode cL_law_ 730 = .ok (.iconst 0, 1) := by decide +kernel
theorem dL_law__731 : decode cL_law_ 731 = .ok (.ireturn, 1) := by decide +kernel
theorem dL_law__732 : decode cL_law_ 732 = .ok (.goto 2358, 3) := by decide +kernel
theorem dL_law__735 : decode cL_law_ 735 = .ok (.aload_n 1, 1) := by decide +kernel
theorem dL_law__736 : decode cL_law_ 736 = .ok (.aload_n 0, 1) := by decide +kernel
theorem dL_law__737 : decode cL_law_ 737 = .ok (.iload 4, 2) := by decide +kernel
theorem dL_law__739 : decode cL_law_ 739 = .ok (.iconst 1, 1) := by decide +kernel
theorem dL_law__740 : decode cL_law_ 740 = .ok (.iadd, 1) := by decide +kernel
theorem dL_law__741 : decode cL_law_ 741 = .ok (.iaload, 1) := by decide +kernel
theorem dL_law__742 : decode cL_law_ 742 = .ok (.aload_n 3, 1) := by decide +kernel
theorem dL_law__743 : decode cL_law_ 743 = .ok (.invokestatic 187, 3) := by decide +kernel
theorem dL_law__746 : decode cL_law_ 746 = .ok (.istore 5, 2) := by decide +kernel
theorem dL_law__748 : decode cL_law_ 748 = .ok (.aload_n 2, 1) := by decide +kernel
theorem dL_law__749 : decode cL_law_ 749 = .ok (.aload_n 0, 1) := by decide +kernel
theorem dL_law__750 : decode cL_law_ 750 = .ok (.iload 4, 2) := by decide +kernel
theorem dL_law__752 : decode cL_law_ 752 = .ok (.iconst 1, 1) := by decide +kernel
theorem dL_law__753 : decode cL_law_ 753 = .ok (.iadd, 1) := by decide +kernel
theorem dL_law__754 : decode cL_law_ 754 = .ok (.iaload, 1) := by decide +kernel
theorem dL_law__755 : decode cL_law_ 755 = .ok (.invokevirtual 189, 3) := by decide +kernel
theorem dL_law__758 : decode cL_law_ 758 = .ok (.istore 6, 2) := by decide +kernel
theorem dL_law__760 : decode cL_law_ 760 = .ok (.aload_n 2, 1) := by decide +kernel
theorem dL_law__761 : decode cL_law_ 761 = .ok (.invokevirtual 163, 3) := by decide +kernel
theorem dL_law__764 : decode cL_law_ 764 = .ok (.iload 5, 2) := by decide +kernel
theorem dL_law__766 : decode cL_law_ 766 = .ok (.if_icmp .eq 5, 3) := by decide +kernel
theorem dL_law__769 : decode cL_law_ 769 = .ok (.iconst 0, 1) := by decide +kernel
theorem dL_law__770 : decode cL_law_ 770 = .ok (.ireturn, 1) := by decide +kernel
theorem dL_law__771 : decode cL_law_ 771 = .ok (.iload 5, 2) := by decide +kernel
theorem dL_law__773 : decode cL_law_ 773 = .ok (.ifCond .ne 15, 3) := by decide +kernel
theorem dL_law__776 : decode cL_law_ 776 = .ok (.aload_n 3, 1) := by decide +kernel
theorem dL_law__777 : decode cL_law_ 777 = .ok (.iconst 0, 1) := by decide +kernel
theorem dL_law__778 : decode cL_law_ 778 = .ok (.laload, 1) := by decide +kernel
theorem dL_law__779 : decode cL_law_ 779 = .ok (.iload 6, 2) := by decide +kernel
theorem dL_law__781 : decode cL_law_ 781 = .ok (.i2l, 1) := by decide +kernel
theorem dL_law__782 : decode cL_law_ 782 = .ok (.lcmp, 1) := by decide +kernel
theorem dL_law__783 : decode cL_law_ 783 = .ok (.ifCond .eq 5, 3) := by decide +kernel
theorem dL_law__786 : decode cL_law_ 786 = .ok (.iconst 0, 1) := by decide +kernel
theorem dL_law__787 : decode cL_law_ 787 = .ok (.ireturn, 1) := by decide +kernel
theorem dL_law__788 : decode cL_law_ 788 = .ok (.goto 2302, 3) := by decide +kernel
theorem dL_law__791 : decode cL_law_ 791 = .ok (.aload_n 1, 1) := by decide +kernel
theorem dL_law__792 : decode cL_law_ 792 = .ok (.aload_n 0, 1) := by decide +kernel
theorem dL_law__793 : decode cL_law_ 793 = .ok (.iload 4, 2) := by decide +kernel
theorem dL_law__795 : decode cL_law_ 795 = .ok (.iconst 1, 1) := by decide +kernel
theorem dL_law__796 : decode cL_law_ 796 = .ok (.iadd, 1) := by decide +kernel
theorem dL_law__797 : decode cL_law_ 797 = .ok (.iaload, 1) := by decide +kernel
theorem dL_law__798 : decode cL_law_ 798 = .ok (.aload_n 3, 1) := by decide +kernel
theorem dL_law__799 : decode cL_law_ 799 = .ok (.invokestatic 190, 3) := by decide +kernel
theorem dL_law__802 : decode cL_law_ 802 = .ok (.istore 5, 2) := by decide +kernel
theorem dL_law__804 : decode cL_law_ 804 = .ok (.aload_n 2, 1) := by decide +kernel
theorem dL_law__805 : decode cL_law_ 805 = .ok (.aload_n 0, 1) := by decide +kernel
theorem dL_law__806 : decode cL_law_ 806 = .ok (.iload 4, 2) := by decide +kernel
theorem dL_law__808 : decode cL_law_ 808 = .ok (.iconst 1, 1) := by decide +kernel
theorem dL_law__809 : decode cL_law_ 809 = .ok (.iadd, 1) := by decide +kernel
theorem dL_law__810 : decode cL_law_ 810 = .ok (.iaload, 1) := by decide +kernel
theorem dL_law__811 : decode cL_law_ 811 = .ok (.invokevirtual 192, 3) := by decide +kernel
theorem dL_law__814 : decode cL_law_ 814 = .ok (.istore 6, 2) := by decide +kernel
theorem dL_law__816 : decode cL_law_ 816 = .ok (.aload_n 2, 1) := by decide +kernel
theorem dL_law__817 : decode cL_law_ 817 = .ok (.invokevirtual 163, 3) := by decide +kernel
theorem dL_law__820 : decode cL_law_ 820 = .ok (.iload 5, 2) := by decide +kernel
theorem dL_law__822 : decode cL_law_ 822 = .ok (.if_icmp .eq 5, 3) := by decide +kernel
theorem dL_law__825 : decode cL_law_ 825 = .ok (.iconst 0, 1) := by decide +kernel
theorem dL_law__826 : decode cL_law_ 826 = .ok (.ireturn, 1) := by decide +kernel
theorem dL_law__827 : decode cL_law_ 827 = .ok (.iload 5, 2) := by decide +kernel
theorem dL_law__829 : decode cL_law_ 829 = .ok (.ifCond .ne 15, 3) := by decide +kernel
theorem dL_law__832 : decode cL_law_ 832 = .ok (.aload_n 3, 1) := by decide +kernel
theorem dL_law__833 : decode cL_law_ 833 = .ok (.iconst 0, 1) := by decide +kernel
theorem dL_law__834 : decode cL_law_ 834 = .ok (.laload, 1) := by decide +kernel
theorem dL_law__835 : decode cL_law_ 835 = .ok (.iload 6, 2) := by decide +kernel
theorem dL_law__837 : decode cL_law_ 837 = .ok (.i2l, 1) := by decide +kernel
theorem dL_law__838 : decode cL_law_ 838 = .ok (.lcmp, 1) := by decide +kernel
theorem dL_law__839 : decode cL_law_ 839 = .ok (.ifCond .eq 5, 3) := by decide +kernel
theorem dL_law__842 : decode cL_law_ 842 = .ok (.iconst 0, 1) := by decide +kernel
theorem dL_law__843 : decode cL_law_ 843 = .ok (.ireturn, 1) := by decide +kernel
theorem dL_law__844 : decode cL_law_ 844 = .ok (.goto 2246, 3) := by decide +kernel
theorem dL_law__847 : decode cL_law_ 847 = .ok (.aload_n 1, 1) := by decide +kernel
theorem dL_law__848 : decode cL_law_ 848 = .ok (.aload_n 0, 1) := by decide +kernel
theorem dL_law__849 : decode cL_law_ 849 = .ok (.iload 4, 2) := by decide +kernel
theorem dL_law__851 : decode cL_law_ 851 = .ok (.iconst 1, 1) := by decide +kernel
theorem dL_law__852 : decode cL_law_ 852 = .ok (.iadd, 1) := by decide +kernel
theorem dL_law__853 : decode cL_law_ 853 = .ok (.iaload, 1) := by decide +kernel
theorem dL_law__854 : decode cL_law_ 854 = .ok (.aload_n 3, 1) := by decide +kernel
theorem dL_law__855 : decode cL_law_ 855 = .ok (.invokestatic 193, 3) := by decide +kernel
theorem dL_law__858 : decode cL_law_ 858 = .ok (.istore 5, 2) := by decide +kernel
theorem dL_law__860 : decode cL_law_ 860 = .ok (.aload_n 2, 1) := by decide +kernel
theorem dL_law__861 : decode cL_law_ 861 = .ok (.aload_n 0, 1) := by decide +kernel
theorem dL_law__862 : decode cL_law_ 862 = .ok (.iload 4, 2) := by decide +kernel
theorem dL_law__864 : decode cL_law_ 864 = .ok (.iconst 1, 1) := by decide +kernel
theorem dL_law__865 : decode cL_law_ 865 = .ok (.iadd, 1) := by decide +kernel
theorem dL_law__866 : decode cL_law_ 866 = .ok (.iaload, 1) := by decide +kernel
theorem dL_law__867 : decode cL_law_ 867 = .ok (.invokevirtual 195, 3) := by decide +kernel
theorem dL_law__870 : decode cL_law_ 870 = .ok (.istore 6, 2) := by decide +kernel
theorem dL_law__872 : decode cL_law_ 872 = .ok (.aload_n 2, 1) := by decide +kernel
theorem dL_law__873 : decode cL_law_ 873 = .ok (.invokevirtual 163, 3) := by decide +kernel
theorem dL_law__876 : decode cL_law_ 876 = .ok (.iload 5, 2) := by decide +kernel
theorem dL_law__878 : decode cL_law_ 878 = .ok (.if_icmp .eq 5, 3) := by decide +kernel
theorem dL_law__881 : decode cL_law_ 881 = .ok (.iconst 0, 1) := by decide +kernel
theorem dL_law__882 : decode cL_law_ 882 = .ok (.ireturn, 1) := by decide +kernel
theorem dL_law__883 : decode cL_law_ 883 = .ok (.iload 5, 2) := by decide +kernel
theorem dL_law__885 : decode cL_law_ 885 = .ok (.ifCond .ne 15, 3) := by decide +kernel
theorem dL_law__888 : decode cL_law_ 888 = .ok (.aload_n 3, 1) := by decide +kernel
theorem dL_law__889 : decode cL_law_ 889 = .ok (.iconst 0, 1) := by decide +kernel
theorem dL_law__890 : decode cL_law_ 890 = .ok (.laload, 1) := by decide +kernel
theorem dL_law__891 : decode cL_law_ 891 = .ok (.iload 6, 2) := by decide +kernel
theorem dL_law__893 : decode cL_law_ 893 = .ok (.i2l, 1) := by decide +kernel
theorem dL_law__894 : decode cL_law_ 894 = .ok (.lcmp, 1) := by decide +kernel
theorem dL_law__895 : decode cL_law_ 895 = .ok (.ifCond .eq 5, 3) := by decide +kernel
theorem dL_law__898 : decode cL_law_ 898 = .ok (.iconst 0, 1) := by decide +kernel
theorem dL_law__899 : decode cL_law_ 899 = .ok (.ireturn, 1) := by decide +kernel
theorem dL_law__900 : decode cL_law_ 900 = .ok (.goto 2190, 3) := by decide +kernel
theorem dL_law__903 : decode cL_law_ 903 = .ok (.aload_n 1, 1) := by decide +kernel
theorem dL_law__904 : decode cL_law_ 904 = .ok (.aload_n 0, 1) := by decide +kernel
theorem dL_law__905 : decode cL_law_ 905 = .ok (.iload 4, 2) := by decide +kernel
theorem dL_law__907 : decode cL_law_ 907 = .ok (.iconst 1, 1) := by decide +kernel
theorem dL_law__908 : decode cL_law_ 908 = .ok (.iadd, 1) := by decide +kernel
theorem dL_law__909 : decode cL_law_ 909 = .ok (.iaload, 1) := by decide +kernel
theorem dL_law__910 : decode cL_law_ 910 = .ok (.aload_n 0, 1) := by decide +kernel
theorem dL_law__911 : decode cL_law_ 911 = .ok (.iload 4, 2) := by decide +kernel
theorem dL_law__913 : decode cL_law_ 913 = .ok (.iconst 2, 1) := by decide +kernel
theorem dL_law__914 : decode cL_law_ 914 = .ok (.iadd, 1) := by decide +kernel
theorem dL_law__915 : decode cL_law_ 915 = .ok (.iaload, 1) := by decide +kernel
theorem dL_law__916 : decode cL_law_ 916 = .ok (.aload_n 3, 1) := by decide +kernel
theorem dL_law__917 : decode cL_law_ 917 = .ok (.invokestatic 196, 3) := by decide +kernel
theorem dL_law__920 : decode cL_law_ 920 = .ok (.istore 5, 2) := by decide +kernel
theorem dL_law__922 : decode cL_law_ 922 = .ok (.aload_n 2, 1) := by decide +kernel
theorem dL_law__923 : decode cL_law_ 923 = .ok (.aload_n 0, 1) := by decide +kernel
theorem dL_law__924 : decode cL_law_ 924 = .ok (.iload 4, 2) := by decide +kernel
theorem dL_law__926 : decode cL_law_ 926 = .ok (.iconst 1, 1) := by decide +kernel
theorem dL_law__927 : decode cL_law_ 927 = .ok (.iadd, 1) := by decide +kernel
theorem dL_law__928 : decode cL_law_ 928 = .ok (.iaload, 1) := by decide +kernel
theorem dL_law__929 : decode cL_law_ 929 = .ok (.aload_n 0, 1) := by decide +kernel
theorem dL_law__930 : decode cL_law_ 930 = .ok (.iload 4, 2) := by decide +kernel
theorem dL_law__932 : decode cL_law_ 932 = .ok (.iconst 2, 1) := by decide +kernel
theorem dL_law__933 : decode cL_law_ 933 = .ok (.iadd, 1) := by decide +kernel
theorem dL_law__934 : decode cL_law_ 934 = .ok (.iaload, 1) := by decide +kernel
theorem dL_law__935 : decode cL_law_ 935 = .ok (.invokevirtual 198, 3) := by decide +kernel
theorem dL_law__938 : decode cL_law_ 938 = .ok (.istore 6, 2) := by decide +kernel
theorem dL_law__940 : decode cL_law_ 940 = .ok (.aload_n 2, 1) := by decide +kernel
theorem dL_law__941 : decode cL_law_ 941 = .ok (.invokevirtual 163, 3) := by decide +kernel
theorem dL_law__944 : decode cL_law_ 944 = .ok (.iload 5, 2) := by decide +kernel
theorem dL_law__946 : decode cL_law_ 946 = .ok (.if_icmp .eq 5, 3) := by decide +kernel
theorem dL_law__949 : decode cL_law_ 949 = .ok (.iconst 0, 1) := by decide +kernel
theorem dL_law__950 : decode cL_law_ 950 = .ok (.ireturn, 1) := by decide +kernel
theorem dL_law__951 : decode cL_law_ 951 = .ok (.iload 5, 2) := by decide +kernel
theorem dL_law__953 : decode cL_law_ 953 = .ok (.ifCond .ne 15, 3) := by decide +kernel
theorem dL_law__956 : decode cL_law_ 956 = .ok (.aload_n 3, 1) := by decide +kernel
theorem dL_law__957 : decode cL_law_ 957 = .ok (.iconst 0, 1) := by decide +kernel
theorem dL_law__958 : decode cL_law_ 958 = .ok (.laload, 1) := by decide +kernel
theorem dL_law__959 : decode cL_law_ 959 = .ok (.iload 6, 2) := by decide +kernel
theorem dL_law__961 : decode cL_law_ 961 = .ok (.i2l, 1) := by decide +kernel
theorem dL_law__962 : decode cL_law_ 962 = .ok (.lcmp, 1) := by decide +kernel
theorem dL_law__963 : decode cL_law_ 963 = .ok (.ifCond .eq 5, 3) := by decide +kernel
theorem dL_law__966 : decode cL_law_ 966 = .ok (.iconst 0, 1) := by decide +kernel
theorem dL_law__967 : decode cL_law_ 967 = .ok (.ireturn, 1) := by decide +kernel
theorem dL_law__968 : decode cL_law_ 968 = .ok (.goto 2122, 3) := by decide +kernel
theorem dL_law__971 : decode cL_law_ 971 = .ok (.aload_n 1, 1) := by decide +kernel
theorem dL_law__972 : decode cL_law_ 972 = .ok (.aload_n 0, 1) := by decide +kernel
theorem dL_law__973 : decode cL_law_ 973 = .ok (.iload 4, 2) := by decide +kernel
theorem dL_law__975 : decode cL_law_ 975 = .ok (.iconst 1, 1) := by decide +kernel
theorem dL_law__976 : decode cL_law_ 976 = .ok (.iadd, 1) := by decide +kernel
theorem dL_law__977 : decode cL_law_ 977 = .ok (.iaload, 1) := by decide +kernel
theorem dL_law__978 : decode cL_law_ 978 = .ok (.aload_n 0, 1) := by decide +kernel
theorem dL_law__979 : decode cL_law_ 979 = .ok (.iload 4, 2) := by decide +kernel
theorem dL_law__981 : decode cL_law_ 981 = .ok (.iconst 2, 1) := by decide +kernel
theorem dL_law__982 : decode cL_law_ 982 = .ok (.iadd, 1) := by decide +kernel
theorem dL_law__983 : decode cL_law_ 983 = .ok (.iaload, 1) := by decide +kernel
theorem dL_law__984 : decode cL_law_ 984 = .ok (.aload_n 3, 1) := by decide +kernel
theorem dL_law__985 : decode cL_law_ 985 = .ok (.invokestatic 199, 3) := by decide +kernel
theorem dL_law__988 : decode cL_law_ 988 = .ok (.istore 5, 2) := by decide +kernel
theorem dL_law__990 : decode cL_law_ 990 = .ok (.aload_n 2, 1) := by decide +kernel
theorem dL_law__991 : decode cL_law_ 991 = .ok (.aload_n 0, 1) := by decide +kernel
theorem dL_law__992 : decode cL_law_ 992 = .ok (.iload 4, 2) := by decide +kernel
theorem dL_law__994 : decode cL_law_ 994 = .ok (.iconst 1, 1) := by decide +kernel
theorem dL_law__995 : decode cL_law_ 995 = .ok (.iadd, 1) := by decide +kernel
theorem dL_law__996 : decode cL_law_ 996 = .ok (.iaload, 1) := by decide +kernel
theorem dL_law__997 : decode cL_law_ 997 = .ok (.aload_n 0, 1) := by decide +kernel
theorem dL_law__998 : decode cL_law_ 998 = .ok (.iload 4, 2) := by decide +kernel
theorem dL_law__1000 : decode cL_law_ 1000 = .ok (.iconst 2, 1) := by decide +kernel
theorem dL_law__1001 : decode cL_law_ 1001 = .ok (.iadd, 1) := by decide +kernel
theorem dL_law__1002 : decode cL_law_ 1002 = .ok (.iaload, 1) := by decide +kernel
theorem dL_law__1003 : decode cL_law_ 1003 = .ok (.invokevirtual 201, 3) := by decide +kernel
theorem dL_law__1006 : decode cL_law_ 1006 = .ok (.istore 6, 2) := by decide +kernel
theorem dL_law__1008 : decode cL_law_ 1008 = .ok (.aload_n 2, 1) := by decide +kernel
theorem dL_law__1009 : decode cL_law_ 1009 = .ok (.invokevirtual 163, 3) := by decide +kernel
theorem dL_law__1012 : decode cL_law_ 1012 = .ok (.iload 5, 2) := by decide +kernel
theorem dL_law__1014 : decode cL_law_ 1014 = .ok (.if_icmp .eq 5, 3) := by decide +kernel
theorem dL_law__1017 : decode cL_law_ 1017 = .ok (.iconst 0, 1) := by decide +kernel
theorem dL_law__1018 : decode cL_law_ 1018 = .ok (.ireturn, 1) := by decide +kernel
theorem dL_law__1019 : decode cL_law_ 1019 = .ok (.iload 5, 2) := by decide +kernel
theorem dL_law__1021 : decode cL_law_ 1021 = .ok (.ifCond .ne 15, 3) := by decide +kernel
theorem dL_law__1024 : decode cL_law_ 1024 = .ok (.aload_n 3, 1) := by decide +kernel
theorem dL_law__1025 : decode cL_law_ 1025 = .ok (.iconst 0, 1) := by decide +kernel
theorem dL_law__1026 : decode cL_law_ 1026 = .ok (.laload, 1) := by decide +kernel
theorem dL_law__1027 : decode cL_law_ 1027 = .ok (.iload 6, 2) := by decide +kernel
theorem dL_law__1029 : decode cL_law_ 1029 = .ok (.i2l, 1) := by decide +kernel
theorem dL_law__1030 : decode cL_law_ 1030 = .ok (.lcmp, 1) := by decide +kernel
theorem dL_law__1031 : decode cL_law_ 1031 = .ok (.ifCond .eq 5, 3) := by decide +kernel
theorem dL_law__1034 : decode cL_law_ 1034 = .ok (.iconst 0, 1) := by decide +kernel
theorem dL_law__1035 : decode cL_law_ 1035 = .ok (.ireturn, 1) := by decide +kernel
theorem dL_law__1036 : decode cL_law_ 1036 = .ok (.goto 2054, 3) := by decide +kernel
theorem dL_law__1039 : decode cL_law_ 1039 = .ok (.aload_n 1, 1) := by decide +kernel
theorem dL_law__1040 : decode cL_law_ 1040 = .ok (.aload_n 0, 1) := by decide +kernel
theorem dL_law__1041 : decode cL_law_ 1041 = .ok (.iload 4, 2) := by decide +kernel
theorem dL_law__1043 : decode cL_law_ 1043 = .ok (.iconst 1, 1) := by decide +kernel
theorem dL_law__1044 : decode cL_law_ 1044 = .ok (.iadd, 1) := by decide +kernel
theorem dL_law__1045 : decode cL_law_ 1045 = .ok (.iaload, 1) := by decide +kernel
theorem dL_law__1046 : decode cL_law_ 1046 = .ok (.aload_n 3, 1) := by decide +kernel
theorem dL_law__1047 : decode cL_law_ 1047 = .ok (.invokestatic 202, 3) := by decide +kernel
theorem dL_law__1050 : decode cL_law_ 1050 = .ok (.istore 5, 2) := by decide +kernel
theorem dL_law__1052 : decode cL_law_ 1052 = .ok (.aload_n 2, 1) := by decide +kernel
theorem dL_law__1053 : decode cL_law_ 1053 = .ok (.aload_n 0, 1) := by decide +kernel
theorem dL_law__1054 : decode cL_law_ 1054 = .ok (.iload 4, 2) := by decide +kernel
theorem dL_law__1056 : decode cL_law_ 1056 = .ok (.iconst 1, 1) := by decide +kernel
theorem dL_law__1057 : decode cL_law_ 1057 = .ok (.iadd, 1) := by decide +kernel
theorem dL_law__1058 : decode cL_law_ 1058 = .ok (.iaload, 1) := by decide +kernel
theorem dL_law__1059 : decode cL_law_ 1059 = .ok (.invokevirtual 204, 3) := by decide +kernel
theorem dL_law__1062 : decode cL_law_ 1062 = .ok (.istore 6, 2) := by decide +kernel
theorem dL_law__1064 : decode cL_law_ 1064 = .ok (.aload_n 2, 1) := by decide +kernel
theorem dL_law__1065 : decode cL_law_ 1065 = .ok (.invokevirtual 163, 3) := by decide +kernel
theorem dL_law__1068 : decode cL_law_ 1068 = .ok (.iload 5, 2) := by decide +kernel
theorem dL_law__1070 : decode cL_law_ 1070 = .ok (.if_icmp .eq 5, 3) := by decide +kernel
theorem dL_law__1073 : decode cL_law_ 1073 = .ok (.iconst 0, 1) := by decide +kernel
theorem dL_law__1074 : decode cL_law_ 1074 = .ok (.ireturn, 1) := by decide +kernel
theorem dL_law__1075 : decode cL_law_ 1075 = .ok (.iload 5, 2) := by decide +kernel
theorem dL_law__1077 : decode cL_law_ 1077 = .ok (.ifCond .ne 15, 3) := by decide +kernel
theorem dL_law__1080 : decode cL_law_ 1080 = .ok (.aload_n 3, 1) := by decide +kernel
theorem dL_law__1081 : decode cL_law_ 1081 = .ok (.iconst 0, 1) := by decide +kernel
theorem dL_law__1082 : decode cL_law_ 1082 = .ok (.laload, 1) := by decide +kernel
theorem dL_law__1083 : decode cL_law_ 1083 = .ok (.iload 6, 2) := by decide +kernel
theorem dL_law__1085 : decode cL_law_ 1085 = .ok (.i2l, 1) := by decide +kernel
theorem dL_law__1086 : decode cL_law_ 1086 = .ok (.lcmp, 1) := by decide +kernel
theorem dL_law__1087 : decode cL_law_ 1087 = .ok (.ifCond .eq 5, 3) := by decide +kernel
theorem dL_law__1090 : decode cL_law_ 1090 = .ok (.iconst 0, 1) := by decide +kernel
theorem dL_law__1091 : decode cL_law_ 1091 = .ok (.ireturn, 1) := by decide +kernel
theorem dL_law__1092 : decode cL_law_ 1092 = .ok (.goto 1998, 3) := by decide +kernel
theorem dL_law__1095 : decode cL_law_ 1095 = .ok (.aload_n 1, 1) := by decide +kernel
theorem dL_law__1096 : decode cL_law_ 1096 = .ok (.aload_n 0, 1) := by decide +kernel
theorem dL_law__1097 : decode cL_law_ 1097 = .ok (.iload 4, 2) := by decide +kernel
theorem dL_law__1099 : decode cL_law_ 1099 = .ok (.iconst 1, 1) := by decide +kernel
theorem dL_law__1100 : decode cL_law_ 1100 = .ok (.iadd, 1) := by decide +kernel
theorem dL_law__1101 : decode cL_law_ 1101 = .ok (.iaload, 1) := by decide +kernel
theorem dL_law__1102 : decode cL_law_ 1102 = .ok (.aload_n 0, 1) := by decide +kernel
theorem dL_law__1103 : decode cL_law_ 1103 = .ok (.iload 4, 2) := by decide +kernel
theorem dL_law__1105 : decode cL_law_ 1105 = .ok (.iconst 2, 1) := by decide +kernel
theorem dL_law__1106 : decode cL_law_ 1106 = .ok (.iadd, 1) := by decide +kernel
theorem dL_law__1107 : decode cL_law_ 1107 = .ok (.iaload, 1) := by decide +kernel
theorem dL_law__1108 : decode cL_law_ 1108 = .ok (.ifCond .eq 7, 3) := by decide +kernel
theorem dL_law__1111 : decode cL_law_ 1111 = .ok (.iconst 1, 1) := by decide +kernel
theorem dL_law__1112 : decode cL_law_ 1112 = .ok (.goto 4, 3) := by decide +kernel
theorem dL_law__1115 : decode cL_law_ 1115 = .ok (.iconst 0, 1) := by decide +kernel
theorem dL_law__1116 : decode cL_law_ 1116 = .ok (.aload_n 3, 1) := by decide +kernel
theorem dL_law__1117 : decode cL_law_ 1117 = .ok (.invokestatic 205, 3) := by decide +kernel
theorem dL_law__1120 : decode cL_law_ 1120 = .ok (.istore 5, 2) := by decide +kernel
theorem dL_law__1122 : decode cL_law_ 1122 = .ok (.aload_n 2, 1) := by decide +kernel
theorem dL_law__1123 : decode cL_law_ 1123 = .ok (.aload_n 0, 1) := by decide +kernel
theorem dL_law__1124 : decode cL_law_ 1124 = .ok (.iload 4, 2) := by decide +kernel
theorem dL_law__1126 : decode cL_law_ 1126 = .ok (.iconst 1, 1) := by decide +kernel
theorem dL_law__1127 : decode cL_law_ 1127 = .ok (.iadd, 1) := by decide +kernel
theorem dL_law__1128 : decode cL_law_ 1128 = .ok (.iaload, 1) := by decide +kernel
theorem dL_law__1129 : decode cL_law_ 1129 = .ok (.aload_n 0, 1) := by decide +kernel
theorem dL_law__1130 : decode cL_law_ 1130 = .ok (.iload 4, 2) := by decide +kernel
theorem dL_law__1132 : decode cL_law_ 1132 = .ok (.iconst 2, 1) := by decide +kernel
theorem dL_law__1133 : decode cL_law_ 1133 = .ok (.iadd, 1) := by decide +kernel
theorem dL_law__1134 : decode cL_law_ 1134 = .ok (.iaload, 1) := by decide +kernel
theorem dL_law__1135 : decode cL_law_ 1135 = .ok (.ifCond .eq 7, 3) := by decide +kernel
theorem dL_law__1138 : decode cL_law_ 1138 = .ok (.iconst 1, 1) := by decide +kernel
theorem dL_law__1139 : decode cL_law_ 1139 = .ok (.goto 4, 3) := by decide +kernel
theorem dL_law__1142 : decode cL_law_ 1142 = .ok (.iconst 0, 1) := by decide +kernel
theorem dL_law__1143 : decode cL_law_ 1143 = .ok (.invokevirtual 208, 3) := by decide +kernel
theorem dL_law__1146 : decode cL_law_ 1146 = .ok (.istore 6, 2) := by decide +kernel
theorem dL_law__1148 : decode cL_law_ 1148 = .ok (.aload_n 2, 1) := by decide +kernel
theorem dL_law__1149 : decode cL_law_ 1149 = .ok (.invokevirtual 163, 3) := by decide +kernel
theorem dL_law__1152 : decode cL_law_ 1152 = .ok (.iload 5, 2) := by decide +kernel
theorem dL_law__1154 : decode cL_law_ 1154 = .ok (.if_icmp .eq 5, 3) := by decide +kernel
theorem dL_law__1157 : decode cL_law_ 1157 = .ok (.iconst 0, 1) := by decide +kernel
theorem dL_law__1158 : decode cL_law_ 1158 = .ok (.ireturn, 1) := by decide +kernel
theorem dL_law__1159 : decode cL_law_ 1159 = .ok (.iload 5, 2) := by decide +kernel
theorem dL_law__1161 : decode cL_law_ 1161 = .ok (.ifCond .ne 22, 3) := by decide +kernel
theorem dL_law__1164 : decode cL_law_ 1164 = .ok (.aload_n 3, 1) := by decide +kernel
theorem dL_law__1165 : decode cL_law_ 1165 = .ok (.iconst 0, 1) := by decide +kernel
theorem dL_law__1166 : decode cL_law_ 1166 = .ok (.laload, 1) := by decide +kernel
theorem dL_law__1167 : decode cL_law_ 1167 = .ok (.iload 6, 2) := by decide +kernel
theorem dL_law__1169 : decode cL_law_ 1169 = .ok (.ifCond .eq 7, 3) := by decide +kernel
theorem dL_law__1172 : decode cL_law_ 1172 = .ok (.lconst 1, 1) := by decide +kernel
theorem dL_law__1173 : decode cL_law_ 1173 = .ok (.goto 4, 3) := by decide +kernel
theorem dL_law__1176 : decode cL_law_ 1176 = .ok (.lconst 0, 1) := by decide +kernel
theorem dL_law__1177 : decode cL_law_ 1177 = .ok (.lcmp, 1) := by decide +kernel
theorem dL_law__1178 : decode cL_law_ 1178 = .ok (.ifCond .eq 5, 3) := by decide +kernel
theorem dL_law__1181 : decode cL_law_ 1181 = .ok (.iconst 0, 1) := by decide +kernel
theorem dL_law__1182 : decode cL_law_ 1182 = .ok (.ireturn, 1) := by decide +kernel
theorem dL_law__1183 : decode cL_law_ 1183 = .ok (.goto 1907, 3) := by decide +kernel
theorem dL_law__1186 : decode cL_law_ 1186 = .ok (.aload_n 1, 1) := by decide +kernel
theorem dL_law__1187 : decode cL_law_ 1187 = .ok (.aload_n 0, 1) := by decide +kernel
theorem dL_law__1188 : decode cL_law_ 1188 = .ok (.iload 4, 2) := by decide +kernel
theorem dL_law__1190 : decode cL_law_ 1190 = .ok (.iconst 1, 1) := by decide +kernel
theorem dL_law__1191 : decode cL_law_ 1191 = .ok (.iadd, 1) := by decide +kernel
theorem dL_law__1192 : decode cL_law_ 1192 = .ok (.iaload, 1) := by decide +kernel
theorem dL_law__1193 : decode cL_law_ 1193 = .ok (.aload_n 0, 1) := by decide +kernel
theorem dL_law__1194 : decode cL_law_ 1194 = .ok (.iload 4, 2) := by decide +kernel
theorem dL_law__1196 : decode cL_law_ 1196 = .ok (.iconst 2, 1) := by decide +kernel
theorem dL_law__1197 : decode cL_law_ 1197 = .ok (.iadd, 1) := by decide +kernel
theorem dL_law__1198 : decode cL_law_ 1198 = .ok (.iaload, 1) := by decide +kernel
theorem dL_law__1199 : decode cL_law_ 1199 = .ok (.aload_n 3, 1) := by decide +kernel
theorem dL_law__1200 : decode cL_law_ 1200 = .ok (.invokestatic 209, 3) := by decide +kernel
theorem dL_law__1203 : decode cL_law_ 1203 = .ok (.istore 5, 2) := by decide +kernel
theorem dL_law__1205 : decode cL_law_ 1205 = .ok (.aload_n 2, 1) := by decide +kernel
theorem dL_law__1206 : decode cL_law_ 1206 = .ok (.aload_n 0, 1) := by decide +kernel
theorem dL_law__1207 : decode cL_law_ 1207 = .ok (.iload 4, 2) := by decide +kernel
theorem dL_law__1209 : decode cL_law_ 1209 = .ok (.iconst 1, 1) := by decide +kernel
theorem dL_law__1210 : decode cL_law_ 1210 = .ok (.iadd, 1) := by decide +kernel
theorem dL_law__1211 : decode cL_law_ 1211 = .ok (.iaload, 1) := by decide +kernel
theorem dL_law__1212 : decode cL_law_ 1212 = .ok (.aload_n 0, 1) := by decide +kernel
theorem dL_law__1213 : decode cL_law_ 1213 = .ok (.iload 4, 2) := by decide +kernel
theorem dL_law__1215 : decode cL_law_ 1215 = .ok (.iconst 2, 1) := by decide +kernel
theorem dL_law__1216 : decode cL_law_ 1216 = .ok (.iadd, 1) := by decide +kernel
theorem dL_law__1217 : decode cL_law_ 1217 = .ok (.iaload, 1) := by decide +kernel
theorem dL_law__1218 : decode cL_law_ 1218 = .ok (.invokevirtual 211, 3) := by decide +kernel
theorem dL_law__1221 : decode cL_law_ 1221 = .ok (.istore 6, 2) := by decide +kernel
theorem dL_law__1223 : decode cL_law_ 1223 = .ok (.aload_n 2, 1) := by decide +kernel
theorem dL_law__1224 : decode cL_law_ 1224 = .ok (.invokevirtual 163, 3) := by decide +kernel
theorem dL_law__1227 : decode cL_law_ 1227 = .ok (.iload 5, 2) := by decide +kernel
theorem dL_law__1229 : decode cL_law_ 1229 = .ok (.if_icmp .eq 5, 3) := by decide +kernel
theorem dL_law__1232 : decode cL_law_ 1232 = .ok (.iconst 0, 1) := by decide +kernel
theorem dL_law__1233 : decode cL_law_ 1233 = .ok (.ireturn, 1) := by decide +kernel
theorem dL_law__1234 : decode cL_law_ 1234 = .ok (.iload 5, 2) := by decide +kernel
theorem dL_law__1236 : decode cL_law_ 1236 = .ok (.ifCond .ne 15, 3) := by decide +kernel
theorem dL_law__1239 : decode cL_law_ 1239 = .ok (.aload_n 3, 1) := by decide +kernel
theorem dL_law__1240 : decode cL_law_ 1240 = .ok (.iconst 0, 1) := by decide +kernel
theorem dL_law__1241 : decode cL_law_ 1241 = .ok (.laload, 1) := by decide +kernel
theorem dL_law__1242 : decode cL_law_ 1242 = .ok (.iload 6, 2) := by decide +kernel
theorem dL_law__1244 : decode cL_law_ 1244 = .ok (.i2l, 1) := by decide +kernel
theorem dL_law__1245 : decode cL_law_ 1245 = .ok (.lcmp, 1) := by decide +kernel
theorem dL_law__1246 : decode cL_law_ 1246 = .ok (.ifCond .eq 5, 3) := by decide +kernel
theorem dL_law__1249 : decode cL_law_ 1249 = .ok (.iconst 0, 1) := by decide +kernel
theorem dL_law__1250 : decode cL_law_ 1250 = .ok (.ireturn, 1) := by decide +kernel
theorem dL_law__1251 : decode cL_law_ 1251 = .ok (.goto 1839, 3) := by decide +kernel
theorem dL_law__1254 : decode cL_law_ 1254 = .ok (.aload_n 1, 1) := by decide +kernel
theorem dL_law__1255 : decode cL_law_ 1255 = .ok (.aload_n 0, 1) := by decide +kernel
theorem dL_law__1256 : decode cL_law_ 1256 = .ok (.iload 4, 2) := by decide +kernel
theorem dL_law__1258 : decode cL_law_ 1258 = .ok (.iconst 1, 1) := by decide +kernel
theorem dL_law__1259 : decode cL_law_ 1259 = .ok (.iadd, 1) := by decide +kernel
theorem dL_law__1260 : decode cL_law_ 1260 = .ok (.iaload, 1) := by decide +kernel
theorem dL_law__1261 : decode cL_law_ 1261 = .ok (.aload_n 3, 1) := by decide +kernel
theorem dL_law__1262 : decode cL_law_ 1262 = .ok (.invokestatic 212, 3) := by decide +kernel
theorem dL_law__1265 : decode cL_law_ 1265 = .ok (.istore 5, 2) := by decide +kernel
theorem dL_law__1267 : decode cL_law_ 1267 = .ok (.aload_n 2, 1) := by decide +kernel
theorem dL_law__1268 : decode cL_law_ 1268 = .ok (.aload_n 0, 1) := by decide +kernel
theorem dL_law__1269 : decode cL_law_ 1269 = .ok (.iload 4, 2) := by decide +kernel
theorem dL_law__1271 : decode cL_law_ 1271 = .ok (.iconst 1, 1) := by decide +kernel
theorem dL_law__1272 : decode cL_law_ 1272 = .ok (.iadd, 1) := by decide +kernel
theorem dL_law__1273 : decode cL_law_ 1273 = .ok (.iaload, 1) := by decide +kernel
theorem dL_law__1274 : decode cL_law_ 1274 = .ok (.invokevirtual 214, 3) := by decide +kernel
theorem dL_law__1277 : decode cL_law_ 1277 = .ok (.istore 6, 2) := by decide +kernel
theorem dL_law__1279 : decode cL_law_ 1279 = .ok (.aload_n 2, 1) := by decide +kernel
theorem dL_law__1280 : decode cL_law_ 1280 = .ok (.invokevirtual 163, 3) := by decide +kernel
theorem dL_law__1283 : decode cL_law_ 1283 = .ok (.iload 5, 2) := by decide +kernel
theorem dL_law__1285 : decode cL_law_ 1285 = .ok (.if_icmp .eq 5, 3) := by decide +kernel
theorem dL_law__1288 : decode cL_law_ 1288 = .ok (.iconst 0, 1) := by decide +kernel
theorem dL_law__1289 : decode cL_law_ 1289 = .ok (.ireturn, 1) := by decide +kernel
theorem dL_law__1290 : decode cL_law_ 1290 = .ok (.iload 5, 2) := by decide +kernel
theorem dL_law__1292 : decode cL_law_ 1292 = .ok (.ifCond .ne 15, 3) := by decide +kernel
theorem dL_law__1295 : decode cL_law_ 1295 = .ok (.aload_n 3, 1) := by decide +kernel
theorem dL_law__1296 : decode cL_law_ 1296 = .ok (.iconst 0, 1) := by decide +kernel
theorem dL_law__1297 : decode cL_law_ 1297 = .ok (.laload, 1) := by decide +kernel
theorem dL_law__1298 : decode cL_law_ 1298 = .ok (.iload 6, 2) := by decide +kernel
theorem dL_law__1300 : decode cL_law_ 1300 = .ok (.i2l, 1) := by decide +kernel
theorem dL_law__1301 : decode cL_law_ 1301 = .ok (.lcmp, 1) := by decide +kernel
theorem dL_law__1302 : decode cL_law_ 1302 = .ok (.ifCond .eq 5, 3) := by decide +kernel
theorem dL_law__1305 : decode cL_law_ 1305 = .ok (.iconst 0, 1) := by decide +kernel
theorem dL_law__1306 : decode cL_law_ 1306 = .ok (.ireturn, 1) := by decide +kernel
theorem dL_law__1307 : decode cL_law_ 1307 = .ok (.goto 1783, 3) := by decide +kernel
theorem dL_law__1310 : decode cL_law_ 1310 = .ok (.aload_n 1, 1) := by decide +kernel
theorem dL_law__1311 : decode cL_law_ 1311 = .ok (.aload_n 0, 1) := by decide +kernel
theorem dL_law__1312 : decode cL_law_ 1312 = .ok (.iload 4, 2) := by decide +kernel
theorem dL_law__1314 : decode cL_law_ 1314 = .ok (.iconst 1, 1) := by decide +kernel
theorem dL_law__1315 : decode cL_law_ 1315 = .ok (.iadd, 1) := by decide +kernel
theorem dL_law__1316 : decode cL_law_ 1316 = .ok (.iaload, 1) := by decide +kernel
theorem dL_law__1317 : decode cL_law_ 1317 = .ok (.aload_n 0, 1) := by decide +kernel
theorem dL_law__1318 : decode cL_law_ 1318 = .ok (.iload 4, 2) := by decide +kernel
theorem dL_law__1320 : decode cL_law_ 1320 = .ok (.iconst 2, 1) := by decide +kernel
theorem dL_law__1321 : decode cL_law_ 1321 = .ok (.iadd, 1) := by decide +kernel
theorem dL_law__1322 : decode cL_law_ 1322 = .ok (.iaload, 1) := by decide +kernel
theorem dL_law__1323 : decode cL_law_ 1323 = .ok (.aload_n 3, 1) := by decide +kernel
theorem dL_law__1324 : decode cL_law_ 1324 = .ok (.invokestatic 215, 3) := by decide +kernel
theorem dL_law__1327 : decode cL_law_ 1327 = .ok (.istore 5, 2) := by decide +kernel
theorem dL_law__1329 : decode cL_law_ 1329 = .ok (.aload_n 2, 1) := by decide +kernel
theorem dL_law__1330 : decode cL_law_ 1330 = .ok (.aload_n 0, 1) := by decide +kernel
theorem dL_law__1331 : decode cL_law_ 1331 = .ok (.iload 4, 2) := by decide +kernel
theorem dL_law__1333 : decode cL_law_ 1333 = .ok (.iconst 1, 1) := by decide +kernel
theorem dL_law__1334 : decode cL_law_ 1334 = .ok (.iadd, 1) := by decide +kernel
theorem dL_law__1335 : decode cL_law_ 1335 = .ok (.iaload, 1) := by decide +kernel
theorem dL_law__1336 : decode cL_law_ 1336 = .ok (.aload_n 0, 1) := by decide +kernel
theorem dL_law__1337 : decode cL_law_ 1337 = .ok (.iload 4, 2) := by decide +kernel
theorem dL_law__1339 : decode cL_law_ 1339 = .ok (.iconst 2, 1) := by decide +kernel
theorem dL_law__1340 : decode cL_law_ 1340 = .ok (.iadd, 1) := by decide +kernel
theorem dL_law__1341 : decode cL_law_ 1341 = .ok (.iaload, 1) := by decide +kernel
theorem dL_law__1342 : decode cL_law_ 1342 = .ok (.invokevirtual 217, 3) := by decide +kernel
theorem dL_law__1345 : decode cL_law_ 1345 = .ok (.istore 6, 2) := by decide +kernel
theorem dL_law__1347 : decode cL_law_ 1347 = .ok (.aload_n 2, 1) := by decide +kernel
theorem dL_law__1348 : decode cL_law_ 1348 = .ok (.invokevirtual 163, 3) := by decide +kernel
theorem dL_law__1351 : decode cL_law_ 1351 = .ok (.iload 5, 2) := by decide +kernel
theorem dL_law__1353 : decode cL_law_ 1353 = .ok (.if_icmp .eq 5, 3) := by decide +kernel
theorem dL_law__1356 : decode cL_law_ 1356 = .ok (.iconst 0, 1) := by decide +kernel
theorem dL_law__1357 : decode cL_law_ 1357 = .ok (.ireturn, 1) := by decide +kernel
theorem dL_law__1358 : decode cL_law_ 1358 = .ok (.iload 5, 2) := by decide +kernel
theorem dL_law__1360 : decode cL_law_ 1360 = .ok (.ifCond .ne 15, 3) := by decide +kernel
theorem dL_law__1363 : decode cL_law_ 1363 = .ok (.aload_n 3, 1) := by decide +kernel
theorem dL_law__1364 : decode cL_law_ 1364 = .ok (.iconst 0, 1) := by decide +kernel
theorem dL_law__1365 : decode cL_law_ 1365 = .ok (.laload, 1) := by decide +kernel
theorem dL_law__1366 : decode cL_law_ 1366 = .ok (.iload 6, 2) := by decide +kernel
theorem dL_law__1368 : decode cL_law_ 1368 = .ok (.i2l, 1) := by decide +kernel
theorem dL_law__1369 : decode cL_law_ 1369 = .ok (.lcmp, 1) := by decide +kernel
theorem dL_law__1370 : decode cL_law_ 1370 = .ok (.ifCond .eq 5, 3) := by decide +kernel
theorem dL_law__1373 : decode cL_law_ 1373 = .ok (.iconst 0, 1) := by decide +kernel
theorem dL_law__1374 : decode cL_law_ 1374 = .ok (.ireturn, 1) := by decide +kernel
theorem dL_law__1375 : decode cL_law_ 1375 = .ok (.goto 1715, 3) := by decide +kernel
theorem dL_law__1378 : decode cL_law_ 1378 = .ok (.aload_n 1, 1) := by decide +kernel
theorem dL_law__1379 : decode cL_law_ 1379 = .ok (.aload_n 0, 1) := by decide +kernel
theorem dL_law__1380 : decode cL_law_ 1380 = .ok (.iload 4, 2) := by decide +kernel
theorem dL_law__1382 : decode cL_law_ 1382 = .ok (.iconst 1, 1) := by decide +kernel
theorem dL_law__1383 : decode cL_law_ 1383 = .ok (.iadd, 1) := by decide +kernel
theorem dL_law__1384 : decode cL_law_ 1384 = .ok (.iaload, 1) := by decide +kernel
theorem dL_law__1385 : decode cL_law_ 1385 = .ok (.aload_n 0, 1) := by decide +kernel
theorem dL_law__1386 : decode cL_law_ 1386 = .ok (.iload 4, 2) := by decide +kernel
theorem dL_law__1388 : decode cL_law_ 1388 = .ok (.iconst 2, 1) := by decide +kernel
theorem dL_law__1389 : decode cL_law_ 1389 = .ok (.iadd, 1) := by decide +kernel
theorem dL_law__1390 : decode cL_law_ 1390 = .ok (.iaload, 1) := by decide +kernel
theorem dL_law__1391 : decode cL_law_ 1391 = .ok (.aload_n 3, 1) := by decide +kernel
theorem dL_law__1392 : decode cL_law_ 1392 = .ok (.invokestatic 218, 3) := by decide +kernel
theorem dL_law__1395 : decode cL_law_ 1395 = .ok (.istore 5, 2) := by decide +kernel
theorem dL_law__1397 : decode cL_law_ 1397 = .ok (.aload_n 2, 1) := by decide +kernel
theorem dL_law__1398 : decode cL_law_ 1398 = .ok (.aload_n 0, 1) := by decide +kernel
theorem dL_law__1399 : decode cL_law_ 1399 = .ok (.iload 4, 2) := by decide +kernel
theorem dL_law__1401 : decode cL_law_ 1401 = .ok (.iconst 1, 1) := by decide +kernel
theorem dL_law__1402 : decode cL_law_ 1402 = .ok (.iadd, 1) := by decide +kernel
theorem dL_law__1403 : decode cL_law_ 1403 = .ok (.iaload, 1) := by decide +kernel
theorem dL_law__1404 : decode cL_law_ 1404 = .ok (.aload_n 0, 1) := by decide +kernel
theorem dL_law__1405 : decode cL_law_ 1405 = .ok (.iload 4, 2) := by decide +kernel
theorem dL_law__1407 : decode cL_law_ 1407 = .ok (.iconst 2, 1) := by decide +kernel
theorem dL_law__1408 : decode cL_law_ 1408 = .ok (.iadd, 1) := by decide +kernel
theorem dL_law__1409 : decode cL_law_ 1409 = .ok (.iaload, 1) := by decide +kernel
theorem dL_law__1410 : decode cL_law_ 1410 = .ok (.invokevirtual 220, 3) := by decide +kernel
theorem dL_law__1413 : decode cL_law_ 1413 = .ok (.istore 6, 2) := by decide +kernel
theorem dL_law__1415 : decode cL_law_ 1415 = .ok (.aload_n 2, 1) := by decide +kernel
theorem dL_law__1416 : decode cL_law_ 1416 = .ok (.invokevirtual 163, 3) := by decide +kernel
theorem dL_law__1419 : decode cL_law_ 1419 = .ok (.iload 5, 2) := by decide +kernel
theorem dL_law__1421 : decode cL_law_ 1421 = .ok (.if_icmp .eq 5, 3) := by decide +kernel
theorem dL_law__1424 : decode cL_law_ 1424 = .ok (.iconst 0, 1) := by decide +kernel
theorem dL_law__1425 : decode cL_law_ 1425 = .ok (.ireturn, 1) := by decide +kernel
theorem dL_law__1426 : decode cL_law_ 1426 = .ok (.iload 5, 2) := by decide +kernel
theorem dL_law__1428 : decode cL_law_ 1428 = .ok (.ifCond .ne 15, 3) := by decide +kernel
theorem dL_law__1431 : decode cL_law_ 1431 = .ok (.aload_n 3, 1) := by decide +kernel
theorem dL_law__1432 : decode cL_law_ 1432 = .ok (.iconst 0, 1) := by decide +kernel
theorem dL_law__1433 : decode cL_law_ 1433 = .ok (.laload, 1) := by decide +kernel
theorem dL_law__1434 : decode cL_law_ 1434 = .ok (.iload 6, 2) := by decide +kernel
theorem dL_law__1436 : decode cL_law_ 1436 = .ok (.i2l, 1) := by decide +kernel
theorem dL_law__1437 : decode cL_law_ 1437 = .ok (.lcmp, 1) := by decide +kernel
theorem dL_law__1438 : decode cL_law_ 1438 = .ok (.ifCond .eq 5, 3) := by decide +kernel
theorem dL_law__1441 : decode cL_law_ 1441 = .ok (.iconst 0, 1) := by decide +kernel
theorem dL_law__1442 : decode cL_law_ 1442 = .ok (.ireturn, 1) := by decide +kernel
theorem dL_law__1443 : decode cL_law_ 1443 = .ok (.goto 1647, 3) := by decide +kernel
theorem dL_law__1446 : decode cL_law_ 1446 = .ok (.aload_n 1, 1) := by decide +kernel
theorem dL_law__1447 : decode cL_law_ 1447 = .ok (.aload_n 0, 1) := by decide +kernel
theorem dL_law__1448 : decode cL_law_ 1448 = .ok (.iload 4, 2) := by decide +kernel
theorem dL_law__1450 : decode cL_law_ 1450 = .ok (.iconst 1, 1) := by decide +kernel
theorem dL_law__1451 : decode cL_law_ 1451 = .ok (.iadd, 1) := by decide +kernel
theorem dL_law__1452 : decode cL_law_ 1452 = .ok (.iaload, 1) := by decide +kernel
theorem dL_law__1453 : decode cL_law_ 1453 = .ok (.aload_n 3, 1) := by decide +kernel
theorem dL_law__1454 : decode cL_law_ 1454 = .ok (.invokestatic 221, 3) := by decide +kernel
theorem dL_law__1457 : decode cL_law_ 1457 = .ok (.istore 5, 2) := by decide +kernel
theorem dL_law__1459 : decode cL_law_ 1459 = .ok (.aload_n 2, 1) := by decide +kernel
theorem dL_law__1460 : decode cL_law_ 1460 = .ok (.aload_n 0, 1) := by decide +kernel
theorem dL_law__1461 : decode cL_law_ 1461 = .ok (.iload 4, 2) := by decide +kernel
theorem dL_law__1463 : decode cL_law_ 1463 = .ok (.iconst 1, 1) := by decide +kernel
theorem dL_law__1464 : decode cL_law_ 1464 = .ok (.iadd, 1) := by decide +kernel
theorem dL_law__1465 : decode cL_law_ 1465 = .ok (.iaload, 1) := by decide +kernel
theorem dL_law__1466 : decode cL_law_ 1466 = .ok (.invokevirtual 223, 3) := by decide +kernel
theorem dL_law__1469 : decode cL_law_ 1469 = .ok (.istore 6, 2) := by decide +kernel
theorem dL_law__1471 : decode cL_law_ 1471 = .ok (.aload_n 2, 1) := by decide +kernel
theorem dL_law__1472 : decode cL_law_ 1472 = .ok (.invokevirtual 163, 3) := by decide +kernel
theorem dL_law__1475 : decode cL_law_ 1475 = .ok (.iload 5, 2) := by decide +kernel
theorem dL_law__1477 : decode cL_law_ 1477 = .ok (.if_icmp .eq 5, 3) := by decide +kernel
theorem dL_law__1480 : decode cL_law_ 1480 = .ok (.iconst 0, 1) := by decide +kernel
theorem dL_law__1481 : decode cL_law_ 1481 = .ok (.ireturn, 1) := by decide +kernel
theorem dL_law__1482 : decode cL_law_ 1482 = .ok (.iload 5, 2) := by decide +kernel
theorem dL_law__1484 : decode cL_law_ 1484 = .ok (.ifCond .ne 15, 3) := by decide +kernel
theorem dL_law__1487 : decode cL_law_ 1487 = .ok (.aload_n 3, 1) := by decide +kernel
theorem dL_law__1488 : decode cL_law_ 1488 = .ok (.iconst 0, 1) := by decide +kernel
theorem dL_law__1489 : decode cL_law_ 1489 = .ok (.laload, 1) := by decide +kernel
theorem dL_law__1490 : decode cL_law_ 1490 = .ok (.iload 6, 2) := by decide +kernel
theorem dL_law__1492 : decode cL_law_ 1492 = .ok (.i2l, 1) := by decide +kernel
theorem dL_law__1493 : decode cL_law_ 1493 = .ok (.lcmp, 1) := by decide +kernel
theorem dL_law__1494 : decode cL_law_ 1494 = .ok (.ifCond .eq 5, 3) := by decide +kernel
theorem dL_law__1497 : decode cL_law_ 1497 = .ok (.iconst 0, 1) := by decide +kernel
theorem dL_law__1498 : decode cL_law_ 1498 = .ok (.ireturn, 1) := by decide +kernel
theorem dL_law__1499 : decode cL_law_ 1499 = .ok (.goto 1591, 3) := by decide +kernel
theorem dL_law__1502 : decode cL_law_ 1502 = .ok (.aload_n 1, 1) := by decide +kernel
theorem dL_law__1503 : decode cL_law_ 1503 = .ok (.aload_n 0, 1) := by decide +kernel
theorem dL_law__1504 : decode cL_law_ 1504 = .ok (.iload 4, 2) := by decide +kernel
theorem dL_law__1506 : decode cL_law_ 1506 = .ok (.iconst 1, 1) := by decide +kernel
theorem dL_law__1507 : decode cL_law_ 1507 = .ok (.iadd, 1) := by decide +kernel
theorem dL_law__1508 : decode cL_law_ 1508 = .ok (.iaload, 1) := by decide +kernel
theorem dL_law__1509 : decode cL_law_ 1509 = .ok (.aload_n 0, 1) := by decide +kernel
theorem dL_law__1510 : decode cL_law_ 1510 = .ok (.iload 4, 2) := by decide +kernel
theorem dL_law__1512 : decode cL_law_ 1512 = .ok (.iconst 2, 1) := by decide +kernel
theorem dL_law__1513 : decode cL_law_ 1513 = .ok (.iadd, 1) := by decide +kernel
theorem dL_law__1514 : decode cL_law_ 1514 = .ok (.iaload, 1) := by decide +kernel
theorem dL_law__1515 : decode cL_law_ 1515 = .ok (.aload_n 3, 1) := by decide +kernel
theorem dL_law__1516 : decode cL_law_ 1516 = .ok (.invokestatic 224, 3) := by decide +kernel
theorem dL_law__1519 : decode cL_law_ 1519 = .ok (.istore 5, 2) := by decide +kernel
theorem dL_law__1521 : decode cL_law_ 1521 = .ok (.aload_n 2, 1) := by decide +kernel
theorem dL_law__1522 : decode cL_law_ 1522 = .ok (.aload_n 0, 1) := by decide +kernel
theorem dL_law__1523 : decode cL_law_ 1523 = .ok (.iload 4, 2) := by decide +kernel
theorem dL_law__1525 : decode cL_law_ 1525 = .ok (.iconst 1, 1) := by decide +kernel
theorem dL_law__1526 : decode cL_law_ 1526 = .ok (.iadd, 1) := by decide +kernel
theorem dL_law__1527 : decode cL_law_ 1527 = .ok (.iaload, 1) := by decide +kernel
theorem dL_law__1528 : decode cL_law_ 1528 = .ok (.aload_n 0, 1) := by decide +kernel
theorem dL_law__1529 : decode cL_law_ 1529 = .ok (.iload 4, 2) := by decide +kernel
theorem dL_law__1531 : decode cL_law_ 1531 = .ok (.iconst 2, 1) := by decide +kernel
theorem dL_law__1532 : decode cL_law_ 1532 = .ok (.iadd, 1) := by decide +kernel
theorem dL_law__1533 : decode cL_law_ 1533 = .ok (.iaload, 1) := by decide +kernel
theorem dL_law__1534 : decode cL_law_ 1534 = .ok (.invokevirtual 226, 3) := by decide +kernel
theorem dL_law__1537 : decode cL_law_ 1537 = .ok (.istore 6, 2) := by decide +kernel
theorem dL_law__1539 : decode cL_law_ 1539 = .ok (.aload_n 2, 1) := by decide +kernel
theorem dL_law__1540 : decode cL_law_ 1540 = .ok (.invokevirtual 163, 3) := by decide +kernel
theorem dL_law__1543 : decode cL_law_ 1543 = .ok (.iload 5, 2) := by decide +kernel
theorem dL_law__1545 : decode cL_law_ 1545 = .ok (.if_icmp .eq 5, 3) := by decide +kernel
theorem dL_law__1548 : decode cL_law_ 1548 = .ok (.iconst 0, 1) := by decide +kernel
theorem dL_law__1549 : decode cL_law_ 1549 = .ok (.ireturn, 1) := by decide +kernel
theorem dL_law__1550 : decode cL_law_ 1550 = .ok (.iload 5, 2) := by decide +kernel
theorem dL_law__1552 : decode cL_law_ 1552 = .ok (.ifCond .ne 15, 3) := by decide +kernel
theorem dL_law__1555 : decode cL_law_ 1555 = .ok (.aload_n 3, 1) := by decide +kernel
theorem dL_law__1556 : decode cL_law_ 1556 = .ok (.iconst 0, 1) := by decide +kernel
theorem dL_law__1557 : decode cL_law_ 1557 = .ok (.laload, 1) := by decide +kernel
theorem dL_law__1558 : decode cL_law_ 1558 = .ok (.iload 6, 2) := by decide +kernel
theorem dL_law__1560 : decode cL_law_ 1560 = .ok (.i2l, 1) := by decide +kernel
theorem dL_law__1561 : decode cL_law_ 1561 = .ok (.lcmp, 1) := by decide +kernel
theorem dL_law__1562 : decode cL_law_ 1562 = .ok (.ifCond .eq 5, 3) := by decide +kernel
theorem dL_law__1565 : decode cL_law_ 1565 = .ok (.iconst 0, 1) := by decide +kernel
theorem dL_law__1566 : decode cL_law_ 1566 = .ok (.ireturn, 1) := by decide +kernel
theorem dL_law__1567 : decode cL_law_ 1567 = .ok (.goto 1523, 3) := by decide +kernel
theorem dL_law__1570 : decode cL_law_ 1570 = .ok (.aload_n 1, 1) := by decide +kernel
theorem dL_law__1571 : decode cL_law_ 1571 = .ok (.invokevirtual 227, 3) := by decide +kernel
theorem dL_law__1574 : decode cL_law_ 1574 = .ok (.aload_n 2, 1) := by decide +kernel
theorem dL_law__1575 : decode cL_law_ 1575 = .ok (.invokevirtual 230, 3) := by decide +kernel
theorem dL_law__1578 : decode cL_law_ 1578 = .ok (.if_icmp .eq 1512, 3) := by decide +kernel
theorem dL_law__1581 : decode cL_law_ 1581 = .ok (.iconst 0, 1) := by decide +kernel
theorem dL_law__1582 : decode cL_law_ 1582 = .ok (.ireturn, 1) := by decide +kernel
theorem dL_law__1583 : decode cL_law_ 1583 = .ok (.aload_n 1, 1) := by decide +kernel
theorem dL_law__1584 : decode cL_law_ 1584 = .ok (.invokevirtual 231, 3) := by decide +kernel
theorem dL_law__1587 : decode cL_law_ 1587 = .ok (.aload_n 2, 1) := by decide +kernel
theorem dL_law__1588 : decode cL_law_ 1588 = .ok (.invokevirtual 234, 3) := by decide +kernel
theorem dL_law__1591 : decode cL_law_ 1591 = .ok (.if_icmp .eq 1499, 3) := by decide +kernel
theorem dL_law__1594 : decode cL_law_ 1594 = .ok (.iconst 0, 1) := by decide +kernel
theorem dL_law__1595 : decode cL_law_ 1595 = .ok (.ireturn, 1) := by decide +kernel
theorem dL_law__1596 : decode cL_law_ 1596 = .ok (.aload_n 1, 1) := by decide +kernel
theorem dL_law__1597 : decode cL_law_ 1597 = .ok (.invokevirtual 235, 3) := by decide +kernel
theorem dL_law__1600 : decode cL_law_ 1600 = .ok (.aload_n 2, 1) := by decide +kernel
theorem dL_law__1601 : decode cL_law_ 1601 = .ok (.invokevirtual 238, 3) := by decide +kernel
theorem dL_law__1604 : decode cL_law_ 1604 = .ok (.if_icmp .eq 1486, 3) := by decide +kernel
theorem dL_law__1607 : decode cL_law_ 1607 = .ok (.iconst 0, 1) := by decide +kernel
theorem dL_law__1608 : decode cL_law_ 1608 = .ok (.ireturn, 1) := by decide +kernel
theorem dL_law__1609 : decode cL_law_ 1609 = .ok (.aload_n 1, 1) := by decide +kernel
theorem dL_law__1610 : decode cL_law_ 1610 = .ok (.aload_n 3, 1) := by decide +kernel
theorem dL_law__1611 : decode cL_law_ 1611 = .ok (.invokestatic 239, 3) := by decide +kernel
theorem dL_law__1614 : decode cL_law_ 1614 = .ok (.istore 5, 2) := by decide +kernel
theorem dL_law__1616 : decode cL_law_ 1616 = .ok (.aload_n 2, 1) := by decide +kernel
theorem dL_law__1617 : decode cL_law_ 1617 = .ok (.invokevirtual 241, 3) := by decide +kernel
theorem dL_law__1620 : decode cL_law_ 1620 = .ok (.istore 6, 2) := by decide +kernel
theorem dL_law__1622 : decode cL_law_ 1622 = .ok (.aload_n 2, 1) := by decide +kernel
theorem dL_law__1623 : decode cL_law_ 1623 = .ok (.invokevirtual 163, 3) := by decide +kernel
theorem dL_law__1626 : decode cL_law_ 1626 = .ok (.iload 5, 2) := by decide +kernel
theorem dL_law__1628 : decode cL_law_ 1628 = .ok (.if_icmp .eq 5, 3) := by decide +kernel
theorem dL_law__1631 : decode cL_law_ 1631 = .ok (.iconst 0, 1) := by decide +kernel
theorem dL_law__1632 : decode cL_law_ 1632 = .ok (.ireturn, 1) := by decide +kernel
theorem dL_law__1633 : decode cL_law_ 1633 = .ok (.iload 5, 2) := by decide +kernel
theorem dL_law__1635 : decode cL_law_ 1635 = .ok (.ifCond .ne 15, 3) := by decide +kernel
theorem dL_law__1638 : decode cL_law_ 1638 = .ok (.aload_n 3, 1) := by decide +kernel
theorem dL_law__1639 : decode cL_law_ 1639 = .ok (.iconst 0, 1) := by decide +kernel
theorem dL_law__1640 : decode cL_law_ 1640 = .ok (.laload, 1) := by decide +kernel
theorem dL_law__1641 : decode cL_law_ 1641 = .ok (.iload 6, 2) := by decide +kernel
theorem dL_law__1643 : decode cL_law_ 1643 = .ok (.i2l, 1) := by decide +kernel
theorem dL_law__1644 : decode cL_law_ 1644 = .ok (.lcmp, 1) := by decide +kernel
theorem dL_law__1645 : decode cL_law_ 1645 = .ok (.ifCond .eq 5, 3) := by decide +kernel
theorem dL_law__1648 : decode cL_law_ 1648 = .ok (.iconst 0, 1) := by decide +kernel
theorem dL_law__1649 : decode cL_law_ 1649 = .ok (.ireturn, 1) := by decide +kernel
theorem dL_law__1650 : decode cL_law_ 1650 = .ok (.goto 1440, 3) := by decide +kernel
theorem dL_law__1653 : decode cL_law_ 1653 = .ok (.aload_n 1, 1) := by decide +kernel
theorem dL_law__1654 : decode cL_law_ 1654 = .ok (.aload_n 3, 1) := by decide +kernel
theorem dL_law__1655 : decode cL_law_ 1655 = .ok (.invokestatic 242, 3) := by decide +kernel
theorem dL_law__1658 : decode cL_law_ 1658 = .ok (.istore 5, 2) := by decide +kernel
theorem dL_law__1660 : decode cL_law_ 1660 = .ok (.aload_n 2, 1) := by decide +kernel
theorem dL_law__1661 : decode cL_law_ 1661 = .ok (.invokevirtual 244, 3) := by decide +kernel
theorem dL_law__1664 : decode cL_law_ 1664 = .ok (.istore 6, 2) := by decide +kernel
theorem dL_law__1666 : decode cL_law_ 1666 = .ok (.aload_n 2, 1) := by decide +kernel
theorem dL_law__1667 : decode cL_law_ 1667 = .ok (.invokevirtual 163, 3) := by decide +kernel
theorem dL_law__1670 : decode cL_law_ 1670 = .ok (.iload 5, 2) := by decide +kernel
theorem dL_law__1672 : decode cL_law_ 1672 = .ok (.if_icmp .eq 5, 3) := by decide +kernel
theorem dL_law__1675 : decode cL_law_ 1675 = .ok (.iconst 0, 1) := by decide +kernel
theorem dL_law__1676 : decode cL_law_ 1676 = .ok (.ireturn, 1) := by decide +kernel
theorem dL_law__1677 : decode cL_law_ 1677 = .ok (.iload 5, 2) := by decide +kernel
theorem dL_law__1679 : decode cL_law_ 1679 = .ok (.ifCond .ne 15, 3) := by decide +kernel
theorem dL_law__1682 : decode cL_law_ 1682 = .ok (.aload_n 3, 1) := by decide +kernel
theorem dL_law__1683 : decode cL_law_ 1683 = .ok (.iconst 0, 1) := by decide +kernel
theorem dL_law__1684 : decode cL_law_ 1684 = .ok (.laload, 1) := by decide +kernel
theorem dL_law__1685 : decode cL_law_ 1685 = .ok (.iload 6, 2) := by decide +kernel
theorem dL_law__1687 : decode cL_law_ 1687 = .ok (.i2l, 1) := by decide +kernel
theorem dL_law__1688 : decode cL_law_ 1688 = .ok (.lcmp, 1) := by decide +kernel
theorem dL_law__1689 : decode cL_law_ 1689 = .ok (.ifCond .eq 5, 3) := by decide +kernel
theorem dL_law__1692 : decode cL_law_ 1692 = .ok (.iconst 0, 1) := by decide +kernel
theorem dL_law__1693 : decode cL_law_ 1693 = .ok (.ireturn, 1) := by decide +kernel
theorem dL_law__1694 : decode cL_law_ 1694 = .ok (.goto 1396, 3) := by decide +kernel
theorem dL_law__1697 : decode cL_law_ 1697 = .ok (.aload_n 1, 1) := by decide +kernel
theorem dL_law__1698 : decode cL_law_ 1698 = .ok (.aload_n 3, 1) := by decide +kernel
theorem dL_law__1699 : decode cL_law_ 1699 = .ok (.invokestatic 245, 3) := by decide +kernel
theorem dL_law__1702 : decode cL_law_ 1702 = .ok (.istore 5, 2) := by decide +kernel
theorem dL_law__1704 : decode cL_law_ 1704 = .ok (.aload_n 2, 1) := by decide +kernel
theorem dL_law__1705 : decode cL_law_ 1705 = .ok (.invokevirtual 247, 3) := by decide +kernel
theorem dL_law__1708 : decode cL_law_ 1708 = .ok (.istore 6, 2) := by decide +kernel
theorem dL_law__1710 : decode cL_law_ 1710 = .ok (.aload_n 2, 1) := by decide +kernel
theorem dL_law__1711 : decode cL_law_ 1711 = .ok (.invokevirtual 163, 3) := by decide +kernel
theorem dL_law__1714 : decode cL_law_ 1714 = .ok (.iload 5, 2) := by decide +kernel
theorem dL_law__1716 : decode cL_law_ 1716 = .ok (.if_icmp .eq 5, 3) := by decide +kernel
theorem dL_law__1719 : decode cL_law_ 1719 = .ok (.iconst 0, 1) := by decide +kernel
theorem dL_law__1720 : decode cL_law_ 1720 = .ok (.ireturn, 1) := by decide +kernel
theorem dL_law__1721 : decode cL_law_ 1721 = .ok (.iload 5, 2) := by decide +kernel
theorem dL_law__1723 : decode cL_law_ 1723 = .ok (.ifCond .ne 15, 3) := by decide +kernel
theorem dL_law__1726 : decode cL_law_ 1726 = .ok (.aload_n 3, 1) := by decide +kernel
theorem dL_law__1727 : decode cL_law_ 1727 = .ok (.iconst 0, 1) := by decide +kernel
theorem dL_law__1728 : decode cL_law_ 1728 = .ok (.laload, 1) := by decide +kernel
theorem dL_law__1729 : decode cL_law_ 1729 = .ok (.iload 6, 2) := by decide +kernel
theorem dL_law__1731 : decode cL_law_ 1731 = .ok (.i2l, 1) := by decide +kernel
theorem dL_law__1732 : decode cL_law_ 1732 = .ok (.lcmp, 1) := by decide +kernel
theorem dL_law__1733 : decode cL_law_ 1733 = .ok (.ifCond .eq 5, 3) := by decide +kernel
theorem dL_law__1736 : decode cL_law_ 1736 = .ok (.iconst 0, 1) := by decide +kernel
theorem dL_law__1737 : decode cL_law_ 1737 = .ok (.ireturn, 1) := by decide +kernel
theorem dL_law__1738 : decode cL_law_ 1738 = .ok (.goto 1352, 3) := by decide +kernel
theorem dL_law__1741 : decode cL_law_ 1741 = .ok (.aload_n 1, 1) := by decide +kernel
theorem dL_law__1742 : decode cL_law_ 1742 = .ok (.aload_n 3, 1) := by decide +kernel
theorem dL_law__1743 : decode cL_law_ 1743 = .ok (.invokestatic 248, 3) := by decide +kernel
theorem dL_law__1746 : decode cL_law_ 1746 = .ok (.istore 5, 2) := by decide +kernel
theorem dL_law__1748 : decode cL_law_ 1748 = .ok (.aload_n 2, 1) := by decide +kernel
theorem dL_law__1749 : decode cL_law_ 1749 = .ok (.invokevirtual 250, 3) := by decide +kernel
theorem dL_law__1752 : decode cL_law_ 1752 = .ok (.istore 6, 2) := by decide +kernel
theorem dL_law__1754 : decode cL_law_ 1754 = .ok (.aload_n 2, 1) := by decide +kernel
theorem dL_law__1755 : decode cL_law_ 1755 = .ok (.invokevirtual 163, 3) := by decide +kernel
theorem dL_law__1758 : decode cL_law_ 1758 = .ok (.iload 5, 2) := by decide +kernel
theorem dL_law__1760 : decode cL_law_ 1760 = .ok (.if_icmp .eq 5, 3) := by decide +kernel
theorem dL_law__1763 : decode cL_law_ 1763 = .ok (.iconst 0, 1) := by decide +kernel
theorem dL_law__1764 : decode cL_law_ 1764 = .ok (.ireturn, 1) := by decide +kernel
theorem dL_law__1765 : decode cL_law_ 1765 = .ok (.iload 5, 2) := by decide +kernel
theorem dL_law__1767 : decode cL_law_ 1767 = .ok (.ifCond .ne 15, 3) := by decide +kernel
theorem dL_law__1770 : decode cL_law_ 1770 = .ok (.aload_n 3, 1) := by decide +kernel
theorem dL_law__1771 : decode cL_law_ 1771 = .ok (.iconst 0, 1) := by decide +kernel
theorem dL_law__1772 : decode cL_law_ 1772 = .ok (.laload, 1) := by decide +kernel
theorem dL_law__1773 : decode cL_law_ 1773 = .ok (.iload 6, 2) := by decide +kernel
theorem dL_law__1775 : decode cL_law_ 1775 = .ok (.i2l, 1) := by decide +kernel
theorem dL_law__1776 : decode cL_law_ 1776 = .ok (.lcmp, 1) := by decide +kernel
theorem dL_law__1777 : decode cL_law_ 1777 = .ok (.ifCond .eq 5, 3) := by decide +kernel
theorem dL_law__1780 : decode cL_law_ 1780 = .ok (.iconst 0, 1) := by decide +kernel
theorem dL_law__1781 : decode cL_law_ 1781 = .ok (.ireturn, 1) := by decide +kernel
theorem dL_law__1782 : decode cL_law_ 1782 = .ok (.goto 1308, 3) := by decide +kernel
theorem dL_law__1785 : decode cL_law_ 1785 = .ok (.aload_n 1, 1) := by decide +kernel
theorem dL_law__1786 : decode cL_law_ 1786 = .ok (.invokevirtual 251, 3) := by decide +kernel
theorem dL_law__1789 : decode cL_law_ 1789 = .ok (.aload_n 2, 1) := by decide +kernel
theorem dL_law__1790 : decode cL_law_ 1790 = .ok (.invokevirtual 254, 3) := by decide +kernel
theorem dL_law__1793 : decode cL_law_ 1793 = .ok (.if_icmp .eq 1297, 3) := by decide +kernel
theorem dL_law__1796 : decode cL_law_ 1796 = .ok (.iconst 0, 1) := by decide +kernel
theorem dL_law__1797 : decode cL_law_ 1797 = .ok (.ireturn, 1) := by decide +kernel
theorem dL_law__1798 : decode cL_law_ 1798 = .ok (.aload_n 1, 1) := by decide +kernel
theorem dL_law__1799 : decode cL_law_ 1799 = .ok (.aload_n 0, 1) := by decide +kernel
theorem dL_law__1800 : decode cL_law_ 1800 = .ok (.iload 4, 2) := by decide +kernel
theorem dL_law__1802 : decode cL_law_ 1802 = .ok (.iconst 1, 1) := by decide +kernel
theorem dL_law__1803 : decode cL_law_ 1803 = .ok (.iadd, 1) := by decide +kernel
theorem dL_law__1804 : decode cL_law_ 1804 = .ok (.iaload, 1) := by decide +kernel
theorem dL_law__1805 : decode cL_law_ 1805 = .ok (.aload_n 3, 1) := by decide +kernel
theorem dL_law__1806 : decode cL_law_ 1806 = .ok (.invokestatic 255, 3) := by decide +kernel
theorem dL_law__1809 : decode cL_law_ 1809 = .ok (.istore 5, 2) := by decide +kernel
theorem dL_law__1811 : decode cL_law_ 1811 = .ok (.aload_n 2, 1) := by decide +kernel
theorem dL_law__1812 : decode cL_law_ 1812 = .ok (.aload_n 0, 1) := by decide +kernel
theorem dL_law__1813 : decode cL_law_ 1813 = .ok (.iload 4, 2) := by decide +kernel
theorem dL_law__1815 : decode cL_law_ 1815 = .ok (.iconst 1, 1) := by decide +kernel
theorem dL_law__1816 : decode cL_law_ 1816 = .ok (.iadd, 1) := by decide +kernel
theorem dL_law__1817 : decode cL_law_ 1817 = .ok (.iaload, 1) := by decide +kernel
theorem dL_law__1818 : decode cL_law_ 1818 = .ok (.invokevirtual 257, 3) := by decide +kernel
theorem dL_law__1821 : decode cL_law_ 1821 = .ok (.istore 6, 2) := by decide +kernel
theorem dL_law__1823 : decode cL_law_ 1823 = .ok (.aload_n 2, 1) := by decide +kernel
theorem dL_law__1824 : decode cL_law_ 1824 = .ok (.invokevirtual 163, 3) := by decide +kernel
theorem dL_law__1827 : decode cL_law_ 1827 = .ok (.iload 5, 2) := by decide +kernel
theorem dL_law__1829 : decode cL_law_ 1829 = .ok (.if_icmp .eq 5, 3) := by decide +kernel
theorem dL_law__1832 : decode cL_law_ 1832 = .ok (.iconst 0, 1) := by decide +kernel
theorem dL_law__1833 : decode cL_law_ 1833 = .ok (.ireturn, 1) := by decide +kernel
theorem dL_law__1834 : decode cL_law_ 1834 = .ok (.iload 5, 2) := by decide +kernel
theorem dL_law__1836 : decode cL_law_ 1836 = .ok (.ifCond .ne 15, 3) := by decide +kernel
theorem dL_law__1839 : decode cL_law_ 1839 = .ok (.aload_n 3, 1) := by decide +kernel
theorem dL_law__1840 : decode cL_law_ 1840 = .ok (.iconst 0, 1) := by decide +kernel
theorem dL_law__1841 : decode cL_law_ 1841 = .ok (.laload, 1) := by decide +kernel
theorem dL_law__1842 : decode cL_law_ 1842 = .ok (.iload 6, 2) := by decide +kernel
theorem dL_law__1844 : decode cL_law_ 1844 = .ok (.i2l, 1) := by decide +kernel
theorem dL_law__1845 : decode cL_law_ 1845 = .ok (.lcmp, 1) := by decide +kernel
theorem dL_law__1846 : decode cL_law_ 1846 = .ok (.ifCond .eq 5, 3) := by decide +kernel
theorem dL_law__1849 : decode cL_law_ 1849 = .ok (.iconst 0, 1) := by decide +kernel
theorem dL_law__1850 : decode cL_law_ 1850 = .ok (.ireturn, 1) := by decide +kernel
theorem dL_law__1851 : decode cL_law_ 1851 = .ok (.goto 1239, 3) := by decide +kernel
theorem dL_law__1854 : decode cL_law_ 1854 = .ok (.aload_n 1, 1) := by decide +kernel
theorem dL_law__1855 : decode cL_law_ 1855 = .ok (.aload_n 0, 1) := by decide +kernel
theorem dL_law__1856 : decode cL_law_ 1856 = .ok (.iload 4, 2) := by decide +kernel
theorem dL_law__1858 : decode cL_law_ 1858 = .ok (.iconst 1, 1) := by decide +kernel
theorem dL_law__1859 : decode cL_law_ 1859 = .ok (.iadd, 1) := by decide +kernel
theorem dL_law__1860 : decode cL_law_ 1860 = .ok (.iaload, 1) := by decide +kernel
theorem dL_law__1861 : decode cL_law_ 1861 = .ok (.aload_n 3, 1) := by decide +kernel
theorem dL_law__1862 : decode cL_law_ 1862 = .ok (.invokestatic 258, 3) := by decide +kernel
theorem dL_law__1865 : decode cL_law_ 1865 = .ok (.istore 5, 2) := by decide +kernel
theorem dL_law__1867 : decode cL_law_ 1867 = .ok (.aload_n 2, 1) := by decide +kernel
theorem dL_law__1868 : decode cL_law_ 1868 = .ok (.aload_n 0, 1) := by decide +kernel
theorem dL_law__1869 : decode cL_law_ 1869 = .ok (.iload 4, 2) := by decide +kernel
theorem dL_law__1871 : decode cL_law_ 1871 = .ok (.iconst 1, 1) := by decide +kernel
theorem dL_law__1872 : decode cL_law_ 1872 = .ok (.iadd, 1) := by decide +kernel
theorem dL_law__1873 : decode cL_law_ 1873 = .ok (.iaload, 1) := by decide +kernel
theorem dL_law__1874 : decode cL_law_ 1874 = .ok (.invokevirtual 260, 3) := by decide +kernel
theorem dL_law__1877 : decode cL_law_ 1877 = .ok (.istore 6, 2) := by decide +kernel
theorem dL_law__1879 : decode cL_law_ 1879 = .ok (.aload_n 2, 1) := by decide +kernel
theorem dL_law__1880 : decode cL_law_ 1880 = .ok (.invokevirtual 163, 3) := by decide +kernel
theorem dL_law__1883 : decode cL_law_ 1883 = .ok (.iload 5, 2) := by decide +kernel
theorem dL_law__1885 : decode cL_law_ 1885 = .ok (.if_icmp .eq 5, 3) := by decide +kernel
theorem dL_law__1888 : decode cL_law_ 1888 = .ok (.iconst 0, 1) := by decide +kernel
theorem dL_law__1889 : decode cL_law_ 1889 = .ok (.ireturn, 1) := by decide +kernel
theorem dL_law__1890 : decode cL_law_ 1890 = .ok (.iload 5, 2) := by decide +kernel
theorem dL_law__1892 : decode cL_law_ 1892 = .ok (.ifCond .ne 15, 3) := by decide +kernel
theorem dL_law__1895 : decode cL_law_ 1895 = .ok (.aload_n 3, 1) := by decide +kernel
theorem dL_law__1896 : decode cL_law_ 1896 = .ok (.iconst 0, 1) := by decide +kernel
theorem dL_law__1897 : decode cL_law_ 1897 = .ok (.laload, 1) := by decide +kernel
theorem dL_law__1898 : decode cL_law_ 1898 = .ok (.iload 6, 2) := by decide +kernel
theorem dL_law__1900 : decode cL_law_ 1900 = .ok (.i2l, 1) := by decide +kernel
theorem dL_law__1901 : decode cL_law_ 1901 = .ok (.lcmp, 1) := by decide +kernel
theorem dL_law__1902 : decode cL_law_ 1902 = .ok (.ifCond .eq 5, 3) := by decide +kernel
theorem dL_law__1905 : decode cL_law_ 1905 = .ok (.iconst 0, 1) := by decide +kernel
theorem dL_law__1906 : decode cL_law_ 1906 = .ok (.ireturn, 1) := by decide +kernel
theorem dL_law__1907 : decode cL_law_ 1907 = .ok (.goto 1183, 3) := by decide +kernel
theorem dL_law__1910 : decode cL_law_ 1910 = .ok (.aload_n 1, 1) := by decide +kernel
theorem dL_law__1911 : decode cL_law_ 1911 = .ok (.aload_n 0, 1) := by decide +kernel
theorem dL_law__1912 : decode cL_law_ 1912 = .ok (.iload 4, 2) := by decide +kernel
theorem dL_law__1914 : decode cL_law_ 1914 = .ok (.iconst 1, 1) := by decide +kernel
theorem dL_law__1915 : decode cL_law_ 1915 = .ok (.iadd, 1) := by decide +kernel
theorem dL_law__1916 : decode cL_law_ 1916 = .ok (.iaload, 1) := by decide +kernel
theorem dL_law__1917 : decode cL_law_ 1917 = .ok (.aload_n 3, 1) := by decide +kernel
theorem dL_law__1918 : decode cL_law_ 1918 = .ok (.invokestatic 261, 3) := by decide +kernel
theorem dL_law__1921 : decode cL_law_ 1921 = .ok (.istore 5, 2) := by decide +kernel
theorem dL_law__1923 : decode cL_law_ 1923 = .ok (.aload_n 2, 1) := by decide +kernel
theorem dL_law__1924 : decode cL_law_ 1924 = .ok (.aload_n 0, 1) := by decide +kernel
theorem dL_law__1925 : decode cL_law_ 1925 = .ok (.iload 4, 2) := by decide +kernel
theorem dL_law__1927 : decode cL_law_ 1927 = .ok (.iconst 1, 1) := by decide +kernel
theorem dL_law__1928 : decode cL_law_ 1928 = .ok (.iadd, 1) := by decide +kernel
theorem dL_law__1929 : decode cL_law_ 1929 = .ok (.iaload, 1) := by decide +kernel
theorem dL_law__1930 : decode cL_law_ 1930 = .ok (.invokevirtual 263, 3) := by decide +kernel
theorem dL_law__1933 : decode cL_law_ 1933 = .ok (.istore 6, 2) := by decide +kernel
theorem dL_law__1935 : decode cL_law_ 1935 = .ok (.aload_n 2, 1) := by decide +kernel
theorem dL_law__1936 : decode cL_law_ 1936 = .ok (.invokevirtual 163, 3) := by decide +kernel
theorem dL_law__1939 : decode cL_law_ 1939 = .ok (.iload 5, 2) := by decide +kernel
theorem dL_law__1941 : decode cL_law_ 1941 = .ok (.if_icmp .eq 5, 3) := by decide +kernel
theorem dL_law__1944 : decode cL_law_ 1944 = .ok (.iconst 0, 1) := by decide +kernel
theorem dL_law__1945 : decode cL_law_ 1945 = .ok (.ireturn, 1) := by decide +kernel
theorem dL_law__1946 : decode cL_law_ 1946 = .ok (.iload 5, 2) := by decide +kernel
theorem dL_law__1948 : decode cL_law_ 1948 = .ok (.ifCond .ne 15, 3) := by decide +kernel
theorem dL_law__1951 : decode cL_law_ 1951 = .ok (.aload_n 3, 1) := by decide +kernel
theorem dL_law__1952 : decode cL_law_ 1952 = .ok (.iconst 0, 1) := by decide +kernel
theorem dL_law__1953 : decode cL_law_ 1953 = .ok (.laload, 1) := by decide +kernel
theorem dL_law__1954 : decode cL_law_ 1954 = .ok (.iload 6, 2) := by decide +kernel
theorem dL_law__1956 : decode cL_law_ 1956 = .ok (.i2l, 1) := by decide +kernel
theorem dL_law__1957 : decode cL_law_ 1957 = .ok (.lcmp, 1) := by decide +kernel
theorem dL_law__1958 : decode cL_law_ 1958 = .ok (.ifCond .eq 5, 3) := by decide +kernel
theorem dL_law__1961 : decode cL_law_ 1961 = .ok (.iconst 0, 1) := by decide +kernel
theorem dL_law__1962 : decode cL_law_ 1962 = .ok (.ireturn, 1) := by decide +kernel
theorem dL_law__1963 : decode cL_law_ 1963 = .ok (.goto 1127, 3) := by decide +kernel
theorem dL_law__1966 : decode cL_law_ 1966 = .ok (.aload_n 1, 1) := by decide +kernel
theorem dL_law__1967 : decode cL_law_ 1967 = .ok (.aload_n 0, 1) := by decide +kernel
theorem dL_law__1968 : decode cL_law_ 1968 = .ok (.iload 4, 2) := by decide +kernel
theorem dL_law__1970 : decode cL_law_ 1970 = .ok (.iconst 1, 1) := by decide +kernel
theorem dL_law__1971 : decode cL_law_ 1971 = .ok (.iadd, 1) := by decide +kernel
theorem dL_law__1972 : decode cL_law_ 1972 = .ok (.iaload, 1) := by decide +kernel
theorem dL_law__1973 : decode cL_law_ 1973 = .ok (.aload_n 0, 1) := by decide +kernel
theorem dL_law__1974 : decode cL_law_ 1974 = .ok (.iload 4, 2) := by decide +kernel
theorem dL_law__1976 : decode cL_law_ 1976 = .ok (.iconst 2, 1) := by decide +kernel
theorem dL_law__1977 : decode cL_law_ 1977 = .ok (.iadd, 1) := by decide +kernel
theorem dL_law__1978 : decode cL_law_ 1978 = .ok (.iaload, 1) := by decide +kernel
theorem dL_law__1979 : decode cL_law_ 1979 = .ok (.aload_n 3, 1) := by decide +kernel
theorem dL_law__1980 : decode cL_law_ 1980 = .ok (.invokestatic 264, 3) := by decide +kernel
theorem dL_law__1983 : decode cL_law_ 1983 = .ok (.istore 5, 2) := by decide +kernel
theorem dL_law__1985 : decode cL_law_ 1985 = .ok (.aload_n 2, 1) := by decide +kernel
theorem dL_law__1986 : decode cL_law_ 1986 = .ok (.aload_n 0, 1) := by decide +kernel
theorem dL_law__1987 : decode cL_law_ 1987 = .ok (.iload 4, 2) := by decide +kernel
theorem dL_law__1989 : decode cL_law_ 1989 = .ok (.iconst 1, 1) := by decide +kernel
theorem dL_law__1990 : decode cL_law_ 1990 = .ok (.iadd, 1) := by decide +kernel
theorem dL_law__1991 : decode cL_law_ 1991 = .ok (.iaload, 1) := by decide +kernel
theorem dL_law__1992 : decode cL_law_ 1992 = .ok (.aload_n 0, 1) := by decide +kernel
theorem dL_law__1993 : decode cL_law_ 1993 = .ok (.iload 4, 2) := by decide +kernel
theorem dL_law__1995 : decode cL_law_ 1995 = .ok (.iconst 2, 1) := by decide +kernel
theorem dL_law__1996 : decode cL_law_ 1996 = .ok (.iadd, 1) := by decide +kernel
theorem dL_law__1997 : decode cL_law_ 1997 = .ok (.iaload, 1) := by decide +kernel
theorem dL_law__1998 : decode cL_law_ 1998 = .ok (.invokevirtual 266, 3) := by decide +kernel
theorem dL_law__2001 : decode cL_law_ 2001 = .ok (.istore 6, 2) := by decide +kernel
theorem dL_law__2003 : decode cL_law_ 2003 = .ok (.aload_n 2, 1) := by decide +kernel
theorem dL_law__2004 : decode cL_law_ 2004 = .ok (.invokevirtual 163, 3) := by decide +kernel
theorem dL_law__2007 : decode cL_law_ 2007 = .ok (.iload 5, 2) := by decide +kernel
theorem dL_law__2009 : decode cL_law_ 2009 = .ok (.if_icmp .eq 5, 3) := by decide +kernel
theorem dL_law__2012 : decode cL_law_ 2012 = .ok (.iconst 0, 1) := by decide +kernel
theorem dL_law__2013 : decode cL_law_ 2013 = .ok (.ireturn, 1) := by decide +kernel
theorem dL_law__2014 : decode cL_law_ 2014 = .ok (.iload 5, 2) := by decide +kernel
theorem dL_law__2016 : decode cL_law_ 2016 = .ok (.ifCond .ne 15, 3) := by decide +kernel
theorem dL_law__2019 : decode cL_law_ 2019 = .ok (.aload_n 3, 1) := by decide +kernel
theorem dL_law__2020 : decode cL_law_ 2020 = .ok (.iconst 0, 1) := by decide +kernel
theorem dL_law__2021 : decode cL_law_ 2021 = .ok (.laload, 1) := by decide +kernel
theorem dL_law__2022 : decode cL_law_ 2022 = .ok (.iload 6, 2) := by decide +kernel
theorem dL_law__2024 : decode cL_law_ 2024 = .ok (.i2l, 1) := by decide +kernel
theorem dL_law__2025 : decode cL_law_ 2025 = .ok (.lcmp, 1) := by decide +kernel
theorem dL_law__2026 : decode cL_law_ 2026 = .ok (.ifCond .eq 5, 3) := by decide +kernel
theorem dL_law__2029 : decode cL_law_ 2029 = .ok (.iconst 0, 1) := by decide +kernel
theorem dL_law__2030 : decode cL_law_ 2030 = .ok (.ireturn, 1) := by decide +kernel
theorem dL_law__2031 : decode cL_law_ 2031 = .ok (.goto 1059, 3) := by decide +kernel
theorem dL_law__2034 : decode cL_law_ 2034 = .ok (.aload_n 1, 1) := by decide +kernel
theorem dL_law__2035 : decode cL_law_ 2035 = .ok (.aload_n 3, 1) := by decide +kernel
theorem dL_law__2036 : decode cL_law_ 2036 = .ok (.invokestatic 267, 3) := by decide +kernel
theorem dL_law__2039 : decode cL_law_ 2039 = .ok (.istore 5, 2) := by decide +kernel
theorem dL_law__2041 : decode cL_law_ 2041 = .ok (.aload_n 2, 1) := by decide +kernel
theorem dL_law__2042 : decode cL_law_ 2042 = .ok (.invokevirtual 269, 3) := by decide +kernel
theorem dL_law__2045 : decode cL_law_ 2045 = .ok (.istore 6, 2) := by decide +kernel
theorem dL_law__2047 : decode cL_law_ 2047 = .ok (.aload_n 2, 1) := by decide +kernel
theorem dL_law__2048 : decode cL_law_ 2048 = .ok (.invokevirtual 163, 3) := by decide +kernel
theorem dL_law__2051 : decode cL_law_ 2051 = .ok (.iload 5, 2) := by decide +kernel
theorem dL_law__2053 : decode cL_law_ 2053 = .ok (.if_icmp .eq 5, 3) := by decide +kernel
theorem dL_law__2056 : decode cL_law_ 2056 = .ok (.iconst 0, 1) := by decide +kernel
theorem dL_law__2057 : decode cL_law_ 2057 = .ok (.ireturn, 1) := by decide +kernel
theorem dL_law__2058 : decode cL_law_ 2058 = .ok (.iload 5, 2) := by decide +kernel
theorem dL_law__2060 : decode cL_law_ 2060 = .ok (.ifCond .ne 15, 3) := by decide +kernel
theorem dL_law__2063 : decode cL_law_ 2063 = .ok (.aload_n 3, 1) := by decide +kernel
theorem dL_law__2064 : decode cL_law_ 2064 = .ok (.iconst 0, 1) := by decide +kernel
theorem dL_law__2065 : decode cL_law_ 2065 = .ok (.laload, 1) := by decide +kernel
theorem dL_law__2066 : decode cL_law_ 2066 = .ok (.iload 6, 2) := by decide +kernel
theorem dL_law__2068 : decode cL_law_ 2068 = .ok (.i2l, 1) := by decide +kernel
theorem dL_law__2069 : decode cL_law_ 2069 = .ok (.lcmp, 1) := by decide +kernel
theorem dL_law__2070 : decode cL_law_ 2070 = .ok (.ifCond .eq 5, 3) := by decide +kernel
theorem dL_law__2073 : decode cL_law_ 2073 = .ok (.iconst 0, 1) := by decide +kernel
theorem dL_law__2074 : decode cL_law_ 2074 = .ok (.ireturn, 1) := by decide +kernel
theorem dL_law__2075 : decode cL_law_ 2075 = .ok (.goto 1015, 3) := by decide +kernel
theorem dL_law__2078 : decode cL_law_ 2078 = .ok (.aload_n 1, 1) := by decide +kernel
theorem dL_law__2079 : decode cL_law_ 2079 = .ok (.aload_n 0, 1) := by decide +kernel
theorem dL_law__2080 : decode cL_law_ 2080 = .ok (.iload 4, 2) := by decide +kernel
theorem dL_law__2082 : decode cL_law_ 2082 = .ok (.iconst 1, 1) := by decide +kernel
theorem dL_law__2083 : decode cL_law_ 2083 = .ok (.iadd, 1) := by decide +kernel
theorem dL_law__2084 : decode cL_law_ 2084 = .ok (.iaload, 1) := by decide +kernel
theorem dL_law__2085 : decode cL_law_ 2085 = .ok (.aload_n 3, 1) := by decide +kernel
theorem dL_law__2086 : decode cL_law_ 2086 = .ok (.invokestatic 270, 3) := by decide +kernel
theorem dL_law__2089 : decode cL_law_ 2089 = .ok (.istore 5, 2) := by decide +kernel
theorem dL_law__2091 : decode cL_law_ 2091 = .ok (.aload_n 2, 1) := by decide +kernel
theorem dL_law__2092 : decode cL_law_ 2092 = .ok (.aload_n 0, 1) := by decide +kernel
theorem dL_law__2093 : decode cL_law_ 2093 = .ok (.iload 4, 2) := by decide +kernel
theorem dL_law__2095 : decode cL_law_ 2095 = .ok (.iconst 1, 1) := by decide +kernel
theorem dL_law__2096 : decode cL_law_ 2096 = .ok (.iadd, 1) := by decide +kernel
theorem dL_law__2097 : decode cL_law_ 2097 = .ok (.iaload, 1) := by decide +kernel
theorem dL_law__2098 : decode cL_law_ 2098 = .ok (.invokevirtual 272, 3) := by decide +kernel
theorem dL_law__2101 : decode cL_law_ 2101 = .ok (.istore 6, 2) := by decide +kernel
theorem dL_law__2103 : decode cL_law_ 2103 = .ok (.aload_n 2, 1) := by decide +kernel
theorem dL_law__2104 : decode cL_law_ 2104 = .ok (.invokevirtual 163, 3) := by decide +kernel
theorem dL_law__2107 : decode cL_law_ 2107 = .ok (.iload 5, 2) := by decide +kernel
theorem dL_law__2109 : decode cL_law_ 2109 = .ok (.if_icmp .eq 5, 3) := by decide +kernel
theorem dL_law__2112 : decode cL_law_ 2112 = .ok (.iconst 0, 1) := by decide +kernel
theorem dL_law__2113 : decode cL_law_ 2113 = .ok (.ireturn, 1) := by decide +kernel
theorem dL_law__2114 : decode cL_law_ 2114 = .ok (.iload 5, 2) := by decide +kernel
theorem dL_law__2116 : decode cL_law_ 2116 = .ok (.ifCond .ne 15, 3) := by decide +kernel
theorem dL_law__2119 : decode cL_law_ 2119 = .ok (.aload_n 3, 1) := by decide +kernel
theorem dL_law__2120 : decode cL_law_ 2120 = .ok (.iconst 0, 1) := by decide +kernel
theorem dL_law__2121 : decode cL_law_ 2121 = .ok (.laload, 1) := by decide +kernel
theorem dL_law__2122 : decode cL_law_ 2122 = .ok (.iload 6, 2) := by decide +kernel
theorem dL_law__2124 : decode cL_law_ 2124 = .ok (.i2l, 1) := by decide +kernel
theorem dL_law__2125 : decode cL_law_ 2125 = .ok (.lcmp, 1) := by decide +kernel
theorem dL_law__2126 : decode cL_law_ 2126 = .ok (.ifCond .eq 5, 3) := by decide +kernel
theorem dL_law__2129 : decode cL_law_ 2129 = .ok (.iconst 0, 1) := by decide +kernel
theorem dL_law__2130 : decode cL_law_ 2130 = .ok (.ireturn, 1) := by decide +kernel
theorem dL_law__2131 : decode cL_law_ 2131 = .ok (.goto 959, 3) := by decide +kernel
theorem dL_law__2134 : decode cL_law_ 2134 = .ok (.aload_n 1, 1) := by decide +kernel
theorem dL_law__2135 : decode cL_law_ 2135 = .ok (.aload_n 0, 1) := by decide +kernel
theorem dL_law__2136 : decode cL_law_ 2136 = .ok (.iload 4, 2) := by decide +kernel
theorem dL_law__2138 : decode cL_law_ 2138 = .ok (.iconst 1, 1) := by decide +kernel
theorem dL_law__2139 : decode cL_law_ 2139 = .ok (.iadd, 1) := by decide +kernel
theorem dL_law__2140 : decode cL_law_ 2140 = .ok (.iaload, 1) := by decide +kernel
theorem dL_law__2141 : decode cL_law_ 2141 = .ok (.aload_n 0, 1) := by decide +kernel
theorem dL_law__2142 : decode cL_law_ 2142 = .ok (.iload 4, 2) := by decide +kernel
theorem dL_law__2144 : decode cL_law_ 2144 = .ok (.iconst 2, 1) := by decide +kernel
theorem dL_law__2145 : decode cL_law_ 2145 = .ok (.iadd, 1) := by decide +kernel
theorem dL_law__2146 : decode cL_law_ 2146 = .ok (.iaload, 1) := by decide +kernel
theorem dL_law__2147 : decode cL_law_ 2147 = .ok (.aload_n 3, 1) := by decide +kernel
theorem dL_law__2148 : decode cL_law_ 2148 = .ok (.invokestatic 273, 3) := by decide +kernel
theorem dL_law__2151 : decode cL_law_ 2151 = .ok (.istore 5, 2) := by decide +kernel
theorem dL_law__2153 : decode cL_law_ 2153 = .ok (.aload_n 2, 1) := by decide +kernel
theorem dL_law__2154 : decode cL_law_ 2154 = .ok (.aload_n 0, 1) := by decide +kernel
theorem dL_law__2155 : decode cL_law_ 2155 = .ok (.iload 4, 2) := by decide +kernel
theorem dL_law__2157 : decode cL_law_ 2157 = .ok (.iconst 1, 1) := by decide +kernel
theorem dL_law__2158 : decode cL_law_ 2158 = .ok (.iadd, 1) := by decide +kernel
theorem dL_law__2159 : decode cL_law_ 2159 = .ok (.iaload, 1) := by decide +kernel
theorem dL_law__2160 : decode cL_law_ 2160 = .ok (.aload_n 0, 1) := by decide +kernel
theorem dL_law__2161 : decode cL_law_ 2161 = .ok (.iload 4, 2) := by decide +kernel
theorem dL_law__2163 : decode cL_law_ 2163 = .ok (.iconst 2, 1) := by decide +kernel
theorem dL_law__2164 : decode cL_law_ 2164 = .ok (.iadd, 1) := by decide +kernel
theorem dL_law__2165 : decode cL_law_ 2165 = .ok (.iaload, 1) := by decide +kernel
theorem dL_law__2166 : decode cL_law_ 2166 = .ok (.invokevirtual 275, 3) := by decide +kernel
theorem dL_law__2169 : decode cL_law_ 2169 = .ok (.istore 6, 2) := by decide +kernel
theorem dL_law__2171 : decode cL_law_ 2171 = .ok (.aload_n 2, 1) := by decide +kernel
theorem dL_law__2172 : decode cL_law_ 2172 = .ok (.invokevirtual 163, 3) := by decide +kernel
theorem dL_law__2175 : decode cL_law_ 2175 = .ok (.iload 5, 2) := by decide +kernel
theorem dL_law__2177 : decode cL_law_ 2177 = .ok (.if_icmp .eq 5, 3) := by decide +kernel
theorem dL_law__2180 : decode cL_law_ 2180 = .ok (.iconst 0, 1) := by decide +kernel
theorem dL_law__2181 : decode cL_law_ 2181 = .ok (.ireturn, 1) := by decide +kernel
theorem dL_law__2182 : decode cL_law_ 2182 = .ok (.iload 5, 2) := by decide +kernel
theorem dL_law__2184 : decode cL_law_ 2184 = .ok (.ifCond .ne 15, 3) := by decide +kernel
theorem dL_law__2187 : decode cL_law_ 2187 = .ok (.aload_n 3, 1) := by decide +kernel
theorem dL_law__2188 : decode cL_law_ 2188 = .ok (.iconst 0, 1) := by decide +kernel
theorem dL_law__2189 : decode cL_law_ 2189 = .ok (.laload, 1) := by decide +kernel
theorem dL_law__2190 : decode cL_law_ 2190 = .ok (.iload 6, 2) := by decide +kernel
theorem dL_law__2192 : decode cL_law_ 2192 = .ok (.i2l, 1) := by decide +kernel
theorem dL_law__2193 : decode cL_law_ 2193 = .ok (.lcmp, 1) := by decide +kernel
theorem dL_law__2194 : decode cL_law_ 2194 = .ok (.ifCond .eq 5, 3) := by decide +kernel
theorem dL_law__2197 : decode cL_law_ 2197 = .ok (.iconst 0, 1) := by decide +kernel
theorem dL_law__2198 : decode cL_law_ 2198 = .ok (.ireturn, 1) := by decide +kernel
theorem dL_law__2199 : decode cL_law_ 2199 = .ok (.goto 891, 3) := by decide +kernel
theorem dL_law__2202 : decode cL_law_ 2202 = .ok (.aload_n 1, 1) := by decide +kernel
theorem dL_law__2203 : decode cL_law_ 2203 = .ok (.aload_n 0, 1) := by decide +kernel
theorem dL_law__2204 : decode cL_law_ 2204 = .ok (.iload 4, 2) := by decide +kernel
theorem dL_law__2206 : decode cL_law_ 2206 = .ok (.iconst 1, 1) := by decide +kernel
theorem dL_law__2207 : decode cL_law_ 2207 = .ok (.iadd, 1) := by decide +kernel
theorem dL_law__2208 : decode cL_law_ 2208 = .ok (.iaload, 1) := by decide +kernel
theorem dL_law__2209 : decode cL_law_ 2209 = .ok (.aload_n 0, 1) := by decide +kernel
theorem dL_law__2210 : decode cL_law_ 2210 = .ok (.iload 4, 2) := by decide +kernel
theorem dL_law__2212 : decode cL_law_ 2212 = .ok (.iconst 2, 1) := by decide +kernel
theorem dL_law__2213 : decode cL_law_ 2213 = .ok (.iadd, 1) := by decide +kernel
theorem dL_law__2214 : decode cL_law_ 2214 = .ok (.iaload, 1) := by decide +kernel
theorem dL_law__2215 : decode cL_law_ 2215 = .ok (.aload_n 3, 1) := by decide +kernel
theorem dL_law__2216 : decode cL_law_ 2216 = .ok (.invokestatic 276, 3) := by decide +kernel
theorem dL_law__2219 : decode cL_law_ 2219 = .ok (.istore 5, 2) := by decide +kernel
theorem dL_law__2221 : decode cL_law_ 2221 = .ok (.aload_n 2, 1) := by decide +kernel
theorem dL_law__2222 : decode cL_law_ 2222 = .ok (.aload_n 0, 1) := by decide +kernel
theorem dL_law__2223 : decode cL_law_ 2223 = .ok (.iload 4, 2) := by decide +kernel
theorem dL_law__2225 : decode cL_law_ 2225 = .ok (.iconst 1, 1) := by decide +kernel
theorem dL_law__2226 : decode cL_law_ 2226 = .ok (.iadd, 1) := by decide +kernel
theorem dL_law__2227 : decode cL_law_ 2227 = .ok (.iaload, 1) := by decide +kernel
theorem dL_law__2228 : decode cL_law_ 2228 = .ok (.aload_n 0, 1) := by decide +kernel
theorem dL_law__2229 : decode cL_law_ 2229 = .ok (.iload 4, 2) := by decide +kernel
theorem dL_law__2231 : decode cL_law_ 2231 = .ok (.iconst 2, 1) := by decide +kernel
theorem dL_law__2232 : decode cL_law_ 2232 = .ok (.iadd, 1) := by decide +kernel
theorem dL_law__2233 : decode cL_law_ 2233 = .ok (.iaload, 1) := by decide +kernel
theorem dL_law__2234 : decode cL_law_ 2234 = .ok (.invokevirtual 278, 3) := by decide +kernel
theorem dL_law__2237 : decode cL_law_ 2237 = .ok (.istore 6, 2) := by decide +kernel
theorem dL_law__2239 : decode cL_law_ 2239 = .ok (.aload_n 2, 1) := by decide +kernel
theorem dL_law__2240 : decode cL_law_ 2240 = .ok (.invokevirtual 163, 3) := by decide +kernel
theorem dL_law__2243 : decode cL_law_ 2243 = .ok (.iload 5, 2) := by decide +kernel
theorem dL_law__2245 : decode cL_law_ 2245 = .ok (.if_icmp .eq 5, 3) := by decide +kernel
theorem dL_law__2248 : decode cL_law_ 2248 = .ok (.iconst 0, 1) := by decide +kernel
theorem dL_law__2249 : decode cL_law_ 2249 = .ok (.ireturn, 1) := by decide +kernel
theorem dL_law__2250 : decode cL_law_ 2250 = .ok (.iload 5, 2) := by decide +kernel
theorem dL_law__2252 : decode cL_law_ 2252 = .ok (.ifCond .ne 22, 3) := by decide +kernel
theorem dL_law__2255 : decode cL_law_ 2255 = .ok (.aload_n 3, 1) := by decide +kernel
theorem dL_law__2256 : decode cL_law_ 2256 = .ok (.iconst 0, 1) := by decide +kernel
theorem dL_law__2257 : decode cL_law_ 2257 = .ok (.laload, 1) := by decide +kernel
theorem dL_law__2258 : decode cL_law_ 2258 = .ok (.iload 6, 2) := by decide +kernel
theorem dL_law__2260 : decode cL_law_ 2260 = .ok (.ifCond .eq 7, 3) := by decide +kernel
theorem dL_law__2263 : decode cL_law_ 2263 = .ok (.lconst 1, 1) := by decide +kernel
theorem dL_law__2264 : decode cL_law_ 2264 = .ok (.goto 4, 3) := by decide +kernel
theorem dL_law__2267 : decode cL_law_ 2267 = .ok (.lconst 0, 1) := by decide +kernel
theorem dL_law__2268 : decode cL_law_ 2268 = .ok (.lcmp, 1) := by decide +kernel
theorem dL_law__2269 : decode cL_law_ 2269 = .ok (.ifCond .eq 5, 3) := by decide +kernel
theorem dL_law__2272 : decode cL_law_ 2272 = .ok (.iconst 0, 1) := by decide +kernel
theorem dL_law__2273 : decode cL_law_ 2273 = .ok (.ireturn, 1) := by decide +kernel
theorem dL_law__2274 : decode cL_law_ 2274 = .ok (.goto 816, 3) := by decide +kernel
theorem dL_law__2277 : decode cL_law_ 2277 = .ok (.aload_n 1, 1) := by decide +kernel
theorem dL_law__2278 : decode cL_law_ 2278 = .ok (.invokevirtual 279, 3) := by decide +kernel
theorem dL_law__2281 : decode cL_law_ 2281 = .ok (.aload_n 2, 1) := by decide +kernel
theorem dL_law__2282 : decode cL_law_ 2282 = .ok (.invokevirtual 282, 3) := by decide +kernel
theorem dL_law__2285 : decode cL_law_ 2285 = .ok (.if_icmp .eq 805, 3) := by decide +kernel
theorem dL_law__2288 : decode cL_law_ 2288 = .ok (.iconst 0, 1) := by decide +kernel
theorem dL_law__2289 : decode cL_law_ 2289 = .ok (.ireturn, 1) := by decide +kernel
theorem dL_law__2290 : decode cL_law_ 2290 = .ok (.aload_n 1, 1) := by decide +kernel
theorem dL_law__2291 : decode cL_law_ 2291 = .ok (.aload_n 0, 1) := by decide +kernel
theorem dL_law__2292 : decode cL_law_ 2292 = .ok (.iload 4, 2) := by decide +kernel
theorem dL_law__2294 : decode cL_law_ 2294 = .ok (.iconst 1, 1) := by decide +kernel
theorem dL_law__2295 : decode cL_law_ 2295 = .ok (.iadd, 1) := by decide +kernel
theorem dL_law__2296 : decode cL_law_ 2296 = .ok (.iaload, 1) := by decide +kernel
theorem dL_law__2297 : decode cL_law_ 2297 = .ok (.aload_n 3, 1) := by decide +kernel
theorem dL_law__2298 : decode cL_law_ 2298 = .ok (.invokestatic 283, 3) := by decide +kernel
theorem dL_law__2301 : decode cL_law_ 2301 = .ok (.istore 5, 2) := by decide +kernel
theorem dL_law__2303 : decode cL_law_ 2303 = .ok (.aload_n 2, 1) := by decide +kernel
theorem dL_law__2304 : decode cL_law_ 2304 = .ok (.aload_n 0, 1) := by decide +kernel
theorem dL_law__2305 : decode cL_law_ 2305 = .ok (.iload 4, 2) := by decide +kernel
theorem dL_law__2307 : decode cL_law_ 2307 = .ok (.iconst 1, 1) := by decide +kernel
theorem dL_law__2308 : decode cL_law_ 2308 = .ok (.iadd, 1) := by decide +kernel
theorem dL_law__2309 : decode cL_law_ 2309 = .ok (.iaload, 1) := by decide +kernel
theorem dL_law__2310 : decode cL_law_ 2310 = .ok (.invokevirtual 285, 3) := by decide +kernel
theorem dL_law__2313 : decode cL_law_ 2313 = .ok (.istore 6, 2) := by decide +kernel
theorem dL_law__2315 : decode cL_law_ 2315 = .ok (.aload_n 2, 1) := by decide +kernel
theorem dL_law__2316 : decode cL_law_ 2316 = .ok (.invokevirtual 163, 3) := by decide +kernel
theorem dL_law__2319 : decode cL_law_ 2319 = .ok (.iload 5, 2) := by decide +kernel
theorem dL_law__2321 : decode cL_law_ 2321 = .ok (.if_icmp .eq 5, 3) := by decide +kernel
theorem dL_law__2324 : decode cL_law_ 2324 = .ok (.iconst 0, 1) := by decide +kernel
theorem dL_law__2325 : decode cL_law_ 2325 = .ok (.ireturn, 1) := by decide +kernel
theorem dL_law__2326 : decode cL_law_ 2326 = .ok (.iload 5, 2) := by decide +kernel
theorem dL_law__2328 : decode cL_law_ 2328 = .ok (.ifCond .ne 15, 3) := by decide +kernel
theorem dL_law__2331 : decode cL_law_ 2331 = .ok (.aload_n 3, 1) := by decide +kernel
theorem dL_law__2332 : decode cL_law_ 2332 = .ok (.iconst 0, 1) := by decide +kernel
theorem dL_law__2333 : decode cL_law_ 2333 = .ok (.laload, 1) := by decide +kernel
theorem dL_law__2334 : decode cL_law_ 2334 = .ok (.iload 6, 2) := by decide +kernel
theorem dL_law__2336 : decode cL_law_ 2336 = .ok (.i2l, 1) := by decide +kernel
theorem dL_law__2337 : decode cL_law_ 2337 = .ok (.lcmp, 1) := by decide +kernel
theorem dL_law__2338 : decode cL_law_ 2338 = .ok (.ifCond .eq 5, 3) := by decide +kernel
theorem dL_law__2341 : decode cL_law_ 2341 = .ok (.iconst 0, 1) := by decide +kernel
theorem dL_law__2342 : decode cL_law_ 2342 = .ok (.ireturn, 1) := by decide +kernel
theorem dL_law__2343 : decode cL_law_ 2343 = .ok (.goto 747, 3) := by decide +kernel
theorem dL_law__2346 : decode cL_law_ 2346 = .ok (.aload_n 1, 1) := by decide +kernel
theorem dL_law__2347 : decode cL_law_ 2347 = .ok (.aload_n 0, 1) := by decide +kernel
theorem dL_law__2348 : decode cL_law_ 2348 = .ok (.iload 4, 2) := by decide +kernel
theorem dL_law__2350 : decode cL_law_ 2350 = .ok (.iconst 1, 1) := by decide +kernel
theorem dL_law__2351 : decode cL_law_ 2351 = .ok (.iadd, 1) := by decide +kernel
theorem dL_law__2352 : decode cL_law_ 2352 = .ok (.iaload, 1) := by decide +kernel
theorem dL_law__2353 : decode cL_law_ 2353 = .ok (.aload_n 0, 1) := by decide +kernel
theorem dL_law__2354 : decode cL_law_ 2354 = .ok (.iload 4, 2) := by decide +kernel
theorem dL_law__2356 : decode cL_law_ 2356 = .ok (.iconst 2, 1) := by decide +kernel
theorem dL_law__2357 : decode cL_law_ 2357 = .ok (.iadd, 1) := by decide +kernel
theorem dL_law__2358 : decode cL_law_ 2358 = .ok (.iaload, 1) := by decide +kernel
theorem dL_law__2359 : decode cL_law_ 2359 = .ok (.aload_n 3, 1) := by decide +kernel
theorem dL_law__2360 : decode cL_law_ 2360 = .ok (.invokestatic 286, 3) := by decide +kernel
theorem dL_law__2363 : decode cL_law_ 2363 = .ok (.istore 5, 2) := by decide +kernel
theorem dL_law__2365 : decode cL_law_ 2365 = .ok (.aload_n 2, 1) := by decide +kernel
theorem dL_law__2366 : decode cL_law_ 2366 = .ok (.aload_n 0, 1) := by decide +kernel
theorem dL_law__2367 : decode cL_law_ 2367 = .ok (.iload 4, 2) := by decide +kernel
theorem dL_law__2369 : decode cL_law_ 2369 = .ok (.iconst 1, 1) := by decide +kernel
theorem dL_law__2370 : decode cL_law_ 2370 = .ok (.iadd, 1) := by decide +kernel
theorem dL_law__2371 : decode cL_law_ 2371 = .ok (.iaload, 1) := by decide +kernel
theorem dL_law__2372 : decode cL_law_ 2372 = .ok (.aload_n 0, 1) := by decide +kernel
theorem dL_law__2373 : decode cL_law_ 2373 = .ok (.iload 4, 2) := by decide +kernel
theorem dL_law__2375 : decode cL_law_ 2375 = .ok (.iconst 2, 1) := by decide +kernel
theorem dL_law__2376 : decode cL_law_ 2376 = .ok (.iadd, 1) := by decide +kernel
theorem dL_law__2377 : decode cL_law_ 2377 = .ok (.iaload, 1) := by decide +kernel
theorem dL_law__2378 : decode cL_law_ 2378 = .ok (.invokevirtual 288, 3) := by decide +kernel
theorem dL_law__2381 : decode cL_law_ 2381 = .ok (.istore 6, 2) := by decide +kernel
theorem dL_law__2383 : decode cL_law_ 2383 = .ok (.aload_n 2, 1) := by decide +kernel
theorem dL_law__2384 : decode cL_law_ 2384 = .ok (.invokevirtual 163, 3) := by decide +kernel
theorem dL_law__2387 : decode cL_law_ 2387 = .ok (.iload 5, 2) := by decide +kernel
theorem dL_law__2389 : decode cL_law_ 2389 = .ok (.if_icmp .eq 5, 3) := by decide +kernel
theorem dL_law__2392 : decode cL_law_ 2392 = .ok (.iconst 0, 1) := by decide +kernel
theorem dL_law__2393 : decode cL_law_ 2393 = .ok (.ireturn, 1) := by decide +kernel
theorem dL_law__2394 : decode cL_law_ 2394 = .ok (.iload 5, 2) := by decide +kernel
theorem dL_law__2396 : decode cL_law_ 2396 = .ok (.ifCond .ne 15, 3) := by decide +kernel
theorem dL_law__2399 : decode cL_law_ 2399 = .ok (.aload_n 3, 1) := by decide +kernel
theorem dL_law__2400 : decode cL_law_ 2400 = .ok (.iconst 0, 1) := by decide +kernel
theorem dL_law__2401 : decode cL_law_ 2401 = .ok (.laload, 1) := by decide +kernel
theorem dL_law__2402 : decode cL_law_ 2402 = .ok (.iload 6, 2) := by decide +kernel
theorem dL_law__2404 : decode cL_law_ 2404 = .ok (.i2l, 1) := by decide +kernel
theorem dL_law__2405 : decode cL_law_ 2405 = .ok (.lcmp, 1) := by decide +kernel
theorem dL_law__2406 : decode cL_law_ 2406 = .ok (.ifCond .eq 5, 3) := by decide +kernel
theorem dL_law__2409 : decode cL_law_ 2409 = .ok (.iconst 0, 1) := by decide +kernel
theorem dL_law__2410 : decode cL_law_ 2410 = .ok (.ireturn, 1) := by decide +kernel
theorem dL_law__2411 : decode cL_law_ 2411 = .ok (.goto 679, 3) := by decide +kernel
theorem dL_law__2414 : decode cL_law_ 2414 = .ok (.aload_n 1, 1) := by decide +kernel
theorem dL_law__2415 : decode cL_law_ 2415 = .ok (.invokevirtual 289, 3) := by decide +kernel
theorem dL_law__2418 : decode cL_law_ 2418 = .ok (.aload_n 2, 1) := by decide +kernel
theorem dL_law__2419 : decode cL_law_ 2419 = .ok (.invokevirtual 292, 3) := by decide +kernel
theorem dL_law__2422 : decode cL_law_ 2422 = .ok (.if_icmp .eq 668, 3) := by decide +kernel
theorem dL_law__2425 : decode cL_law_ 2425 = .ok (.iconst 0, 1) := by decide +kernel
theorem dL_law__2426 : decode cL_law_ 2426 = .ok (.ireturn, 1) := by decide +kernel
theorem dL_law__2427 : decode cL_law_ 2427 = .ok (.aload_n 1, 1) := by decide +kernel
theorem dL_law__2428 : decode cL_law_ 2428 = .ok (.aload_n 0, 1) := by decide +kernel
theorem dL_law__2429 : decode cL_law_ 2429 = .ok (.iload 4, 2) := by decide +kernel
theorem dL_law__2431 : decode cL_law_ 2431 = .ok (.iconst 1, 1) := by decide +kernel
theorem dL_law__2432 : decode cL_law_ 2432 = .ok (.iadd, 1) := by decide +kernel
theorem dL_law__2433 : decode cL_law_ 2433 = .ok (.iaload, 1) := by decide +kernel
theorem dL_law__2434 : decode cL_law_ 2434 = .ok (.aload_n 0, 1) := by decide +kernel
theorem dL_law__2435 : decode cL_law_ 2435 = .ok (.iload 4, 2) := by decide +kernel
theorem dL_law__2437 : decode cL_law_ 2437 = .ok (.iconst 2, 1) := by decide +kernel
theorem dL_law__2438 : decode cL_law_ 2438 = .ok (.iadd, 1) := by decide +kernel
theorem dL_law__2439 : decode cL_law_ 2439 = .ok (.iaload, 1) := by decide +kernel
theorem dL_law__2440 : decode cL_law_ 2440 = .ok (.aload_n 3, 1) := by decide +kernel
theorem dL_law__2441 : decode cL_law_ 2441 = .ok (.invokestatic 293, 3) := by decide +kernel
theorem dL_law__2444 : decode cL_law_ 2444 = .ok (.istore 5, 2) := by decide +kernel
theorem dL_law__2446 : decode cL_law_ 2446 = .ok (.aload_n 2, 1) := by decide +kernel
theorem dL_law__2447 : decode cL_law_ 2447 = .ok (.aload_n 0, 1) := by decide +kernel
theorem dL_law__2448 : decode cL_law_ 2448 = .ok (.iload 4, 2) := by decide +kernel
theorem dL_law__2450 : decode cL_law_ 2450 = .ok (.iconst 1, 1) := by decide +kernel
theorem dL_law__2451 : decode cL_law_ 2451 = .ok (.iadd, 1) := by decide +kernel
theorem dL_law__2452 : decode cL_law_ 2452 = .ok (.iaload, 1) := by decide +kernel
theorem dL_law__2453 : decode cL_law_ 2453 = .ok (.aload_n 0, 1) := by decide +kernel
theorem dL_law__2454 : decode cL_law_ 2454 = .ok (.iload 4, 2) := by decide +kernel
theorem dL_law__2456 : decode cL_law_ 2456 = .ok (.iconst 2, 1) := by decide +kernel
theorem dL_law__2457 : decode cL_law_ 2457 = .ok (.iadd, 1) := by decide +kernel
theorem dL_law__2458 : decode cL_law_ 2458 = .ok (.iaload, 1) := by decide +kernel
theorem dL_law__2459 : decode cL_law_ 2459 = .ok (.invokevirtual 295, 3) := by decide +kernel
theorem dL_law__2462 : decode cL_law_ 2462 = .ok (.istore 6, 2) := by decide +kernel
theorem dL_law__2464 : decode cL_law_ 2464 = .ok (.aload_n 2, 1) := by decide +kernel
theorem dL_law__2465 : decode cL_law_ 2465 = .ok (.invokevirtual 163, 3) := by decide +kernel
theorem dL_law__2468 : decode cL_law_ 2468 = .ok (.iload 5, 2) := by decide +kernel
theorem dL_law__2470 : decode cL_law_ 2470 = .ok (.if_icmp .eq 5, 3) := by decide +kernel
theorem dL_law__2473 : decode cL_law_ 2473 = .ok (.iconst 0, 1) := by decide +kernel
theorem dL_law__2474 : decode cL_law_ 2474 = .ok (.ireturn, 1) := by decide +kernel
theorem dL_law__2475 : decode cL_law_ 2475 = .ok (.iload 5, 2) := by decide +kernel
theorem dL_law__2477 : decode cL_law_ 2477 = .ok (.ifCond .ne 15, 3) := by decide +kernel
theorem dL_law__2480 : decode cL_law_ 2480 = .ok (.aload_n 3, 1) := by decide +kernel
theorem dL_law__2481 : decode cL_law_ 2481 = .ok (.iconst 0, 1) := by decide +kernel
theorem dL_law__2482 : decode cL_law_ 2482 = .ok (.laload, 1) := by decide +kernel
theorem dL_law__2483 : decode cL_law_ 2483 = .ok (.iload 6, 2) := by decide +kernel
theorem dL_law__2485 : decode cL_law_ 2485 = .ok (.i2l, 1) := by decide +kernel
theorem dL_law__2486 : decode cL_law_ 2486 = .ok (.lcmp, 1) := by decide +kernel
theorem dL_law__2487 : decode cL_law_ 2487 = .ok (.ifCond .eq 5, 3) := by decide +kernel
theorem dL_law__2490 : decode cL_law_ 2490 = .ok (.iconst 0, 1) := by decide +kernel
theorem dL_law__2491 : decode cL_law_ 2491 = .ok (.ireturn, 1) := by decide +kernel
theorem dL_law__2492 : decode cL_law_ 2492 = .ok (.goto 598, 3) := by decide +kernel
theorem dL_law__2495 : decode cL_law_ 2495 = .ok (.aload_n 1, 1) := by decide +kernel
theorem dL_law__2496 : decode cL_law_ 2496 = .ok (.aload_n 0, 1) := by decide +kernel
theorem dL_law__2497 : decode cL_law_ 2497 = .ok (.iload 4, 2) := by decide +kernel
theorem dL_law__2499 : decode cL_law_ 2499 = .ok (.iconst 1, 1) := by decide +kernel
theorem dL_law__2500 : decode cL_law_ 2500 = .ok (.iadd, 1) := by decide +kernel
theorem dL_law__2501 : decode cL_law_ 2501 = .ok (.iaload, 1) := by decide +kernel
theorem dL_law__2502 : decode cL_law_ 2502 = .ok (.aload_n 0, 1) := by decide +kernel
theorem dL_law__2503 : decode cL_law_ 2503 = .ok (.iload 4, 2) := by decide +kernel
theorem dL_law__2505 : decode cL_law_ 2505 = .ok (.iconst 2, 1) := by decide +kernel
theorem dL_law__2506 : decode cL_law_ 2506 = .ok (.iadd, 1) := by decide +kernel
theorem dL_law__2507 : decode cL_law_ 2507 = .ok (.iaload, 1) := by decide +kernel
theorem dL_law__2508 : decode cL_law_ 2508 = .ok (.aload_n 3, 1) := by decide +kernel
theorem dL_law__2509 : decode cL_law_ 2509 = .ok (.invokestatic 296, 3) := by decide +kernel
theorem dL_law__2512 : decode cL_law_ 2512 = .ok (.istore 5, 2) := by decide +kernel
theorem dL_law__2514 : decode cL_law_ 2514 = .ok (.aload_n 2, 1) := by decide +kernel
theorem dL_law__2515 : decode cL_law_ 2515 = .ok (.aload_n 0, 1) := by decide +kernel
theorem dL_law__2516 : decode cL_law_ 2516 = .ok (.iload 4, 2) := by decide +kernel
theorem dL_law__2518 : decode cL_law_ 2518 = .ok (.iconst 1, 1) := by decide +kernel
theorem dL_law__2519 : decode cL_law_ 2519 = .ok (.iadd, 1) := by decide +kernel
theorem dL_law__2520 : decode cL_law_ 2520 = .ok (.iaload, 1) := by decide +kernel
theorem dL_law__2521 : decode cL_law_ 2521 = .ok (.aload_n 0, 1) := by decide +kernel
theorem dL_law__2522 : decode cL_law_ 2522 = .ok (.iload 4, 2) := by decide +kernel
theorem dL_law__2524 : decode cL_law_ 2524 = .ok (.iconst 2, 1) := by decide +kernel
theorem dL_law__2525 : decode cL_law_ 2525 = .ok (.iadd, 1) := by decide +kernel
theorem dL_law__2526 : decode cL_law_ 2526 = .ok (.iaload, 1) := by decide +kernel
theorem dL_law__2527 : decode cL_law_ 2527 = .ok (.invokevirtual 298, 3) := by decide +kernel
theorem dL_law__2530 : decode cL_law_ 2530 = .ok (.istore 6, 2) := by decide +kernel
theorem dL_law__2532 : decode cL_law_ 2532 = .ok (.aload_n 2, 1) := by decide +kernel
theorem dL_law__2533 : decode cL_law_ 2533 = .ok (.invokevirtual 163, 3) := by decide +kernel
theorem dL_law__2536 : decode cL_law_ 2536 = .ok (.iload 5, 2) := by decide +kernel
theorem dL_law__2538 : decode cL_law_ 2538 = .ok (.if_icmp .eq 5, 3) := by decide +kernel
theorem dL_law__2541 : decode cL_law_ 2541 = .ok (.iconst 0, 1) := by decide +kernel
theorem dL_law__2542 : decode cL_law_ 2542 = .ok (.ireturn, 1) := by decide +kernel
theorem dL_law__2543 : decode cL_law_ 2543 = .ok (.iload 5, 2) := by decide +kernel
theorem dL_law__2545 : decode cL_law_ 2545 = .ok (.ifCond .ne 15, 3) := by decide +kernel
theorem dL_law__2548 : decode cL_law_ 2548 = .ok (.aload_n 3, 1) := by decide +kernel
theorem dL_law__2549 : decode cL_law_ 2549 = .ok (.iconst 0, 1) := by decide +kernel
theorem dL_law__2550 : decode cL_law_ 2550 = .ok (.laload, 1) := by decide +kernel
theorem dL_law__2551 : decode cL_law_ 2551 = .ok (.iload 6, 2) := by decide +kernel
theorem dL_law__2553 : decode cL_law_ 2553 = .ok (.i2l, 1) := by decide +kernel
theorem dL_law__2554 : decode cL_law_ 2554 = .ok (.lcmp, 1) := by decide +kernel
theorem dL_law__2555 : decode cL_law_ 2555 = .ok (.ifCond .eq 5, 3) := by decide +kernel
theorem dL_law__2558 : decode cL_law_ 2558 = .ok (.iconst 0, 1) := by decide +kernel
theorem dL_law__2559 : decode cL_law_ 2559 = .ok (.ireturn, 1) := by decide +kernel
theorem dL_law__2560 : decode cL_law_ 2560 = .ok (.goto 530, 3) := by decide +kernel
theorem dL_law__2563 : decode cL_law_ 2563 = .ok (.aload_n 1, 1) := by decide +kernel
theorem dL_law__2564 : decode cL_law_ 2564 = .ok (.invokevirtual 299, 3) := by decide +kernel
theorem dL_law__2567 : decode cL_law_ 2567 = .ok (.aload_n 2, 1) := by decide +kernel
theorem dL_law__2568 : decode cL_law_ 2568 = .ok (.invokevirtual 302, 3) := by decide +kernel
theorem dL_law__2571 : decode cL_law_ 2571 = .ok (.if_icmp .eq 519, 3) := by decide +kernel
theorem dL_law__2574 : decode cL_law_ 2574 = .ok (.iconst 0, 1) := by decide +kernel
theorem dL_law__2575 : decode cL_law_ 2575 = .ok (.ireturn, 1) := by decide +kernel
theorem dL_law__2576 : decode cL_law_ 2576 = .ok (.aload_n 1, 1) := by decide +kernel
theorem dL_law__2577 : decode cL_law_ 2577 = .ok (.invokevirtual 303, 3) := by decide +kernel
theorem dL_law__2580 : decode cL_law_ 2580 = .ok (.aload_n 2, 1) := by decide +kernel
theorem dL_law__2581 : decode cL_law_ 2581 = .ok (.invokevirtual 306, 3) := by decide +kernel
theorem dL_law__2584 : decode cL_law_ 2584 = .ok (.if_icmp .eq 506, 3) := by decide +kernel
theorem dL_law__2587 : decode cL_law_ 2587 = .ok (.iconst 0, 1) := by decide +kernel
theorem dL_law__2588 : decode cL_law_ 2588 = .ok (.ireturn, 1) := by decide +kernel
theorem dL_law__2589 : decode cL_law_ 2589 = .ok (.aload_n 1, 1) := by decide +kernel
theorem dL_law__2590 : decode cL_law_ 2590 = .ok (.invokevirtual 307, 3) := by decide +kernel
theorem dL_law__2593 : decode cL_law_ 2593 = .ok (.aload_n 2, 1) := by decide +kernel
theorem dL_law__2594 : decode cL_law_ 2594 = .ok (.invokevirtual 310, 3) := by decide +kernel
theorem dL_law__2597 : decode cL_law_ 2597 = .ok (.if_icmp .eq 493, 3) := by decide +kernel
theorem dL_law__2600 : decode cL_law_ 2600 = .ok (.iconst 0, 1) := by decide +kernel
theorem dL_law__2601 : decode cL_law_ 2601 = .ok (.ireturn, 1) := by decide +kernel
theorem dL_law__2602 : decode cL_law_ 2602 = .ok (.aload_n 1, 1) := by decide +kernel
theorem dL_law__2603 : decode cL_law_ 2603 = .ok (.invokevirtual 311, 3) := by decide +kernel
theorem dL_law__2606 : decode cL_law_ 2606 = .ok (.aload_n 2, 1) := by decide +kernel
theorem dL_law__2607 : decode cL_law_ 2607 = .ok (.invokevirtual 314, 3) := by decide +kernel
theorem dL_law__2610 : decode cL_law_ 2610 = .ok (.if_icmp .eq 480, 3) := by decide +kernel
theorem dL_law__2613 : decode cL_law_ 2613 = .ok (.iconst 0, 1) := by decide +kernel
theorem dL_law__2614 : decode cL_law_ 2614 = .ok (.ireturn, 1) := by decide +kernel
theorem dL_law__2615 : decode cL_law_ 2615 = .ok (.aload_n 1, 1) := by decide +kernel
theorem dL_law__2616 : decode cL_law_ 2616 = .ok (.aload_n 0, 1) := by decide +kernel
theorem dL_law__2617 : decode cL_law_ 2617 = .ok (.iload 4, 2) := by decide +kernel
theorem dL_law__2619 : decode cL_law_ 2619 = .ok (.iconst 1, 1) := by decide +kernel
theorem dL_law__2620 : decode cL_law_ 2620 = .ok (.iadd, 1) := by decide +kernel
theorem dL_law__2621 : decode cL_law_ 2621 = .ok (.iaload, 1) := by decide +kernel
theorem dL_law__2622 : decode cL_law_ 2622 = .ok (.aload_n 0, 1) := by decide +kernel
theorem dL_law__2623 : decode cL_law_ 2623 = .ok (.iload 4, 2) := by decide +kernel
theorem dL_law__2625 : decode cL_law_ 2625 = .ok (.iconst 2, 1) := by decide +kernel
theorem dL_law__2626 : decode cL_law_ 2626 = .ok (.iadd, 1) := by decide +kernel
theorem dL_law__2627 : decode cL_law_ 2627 = .ok (.iaload, 1) := by decide +kernel
theorem dL_law__2628 : decode cL_law_ 2628 = .ok (.aload_n 3, 1) := by decide +kernel
theorem dL_law__2629 : decode cL_law_ 2629 = .ok (.invokestatic 315, 3) := by decide +kernel
theorem dL_law__2632 : decode cL_law_ 2632 = .ok (.istore 5, 2) := by decide +kernel
theorem dL_law__2634 : decode cL_law_ 2634 = .ok (.aload_n 2, 1) := by decide +kernel
theorem dL_law__2635 : decode cL_law_ 2635 = .ok (.aload_n 0, 1) := by decide +kernel
theorem dL_law__2636 : decode cL_law_ 2636 = .ok (.iload 4, 2) := by decide +kernel
theorem dL_law__2638 : decode cL_law_ 2638 = .ok (.iconst 1, 1) := by decide +kernel
theorem dL_law__2639 : decode cL_law_ 2639 = .ok (.iadd, 1) := by decide +kernel
theorem dL_law__2640 : decode cL_law_ 2640 = .ok (.iaload, 1) := by decide +kernel
theorem dL_law__2641 : decode cL_law_ 2641 = .ok (.aload_n 0, 1) := by decide +kernel
theorem dL_law__2642 : decode cL_law_ 2642 = .ok (.iload 4, 2) := by decide +kernel
theorem dL_law__2644 : decode cL_law_ 2644 = .ok (.iconst 2, 1) := by decide +kernel
theorem dL_law__2645 : decode cL_law_ 2645 = .ok (.iadd, 1) := by decide +kernel
theorem dL_law__2646 : decode cL_law_ 2646 = .ok (.iaload, 1) := by decide +kernel
theorem dL_law__2647 : decode cL_law_ 2647 = .ok (.invokevirtual 317, 3) := by decide +kernel
theorem dL_law__2650 : decode cL_law_ 2650 = .ok (.istore 6, 2) := by decide +kernel
theorem dL_law__2652 : decode cL_law_ 2652 = .ok (.aload_n 2, 1) := by decide +kernel
theorem dL_law__2653 : decode cL_law_ 2653 = .ok (.invokevirtual 163, 3) := by decide +kernel
theorem dL_law__2656 : decode cL_law_ 2656 = .ok (.iload 5, 2) := by decide +kernel
theorem dL_law__2658 : decode cL_law_ 2658 = .ok (.if_icmp .eq 5, 3) := by decide +kernel
theorem dL_law__2661 : decode cL_law_ 2661 = .ok (.iconst 0, 1) := by decide +kernel
theorem dL_law__2662 : decode cL_law_ 2662 = .ok (.ireturn, 1) := by decide +kernel
theorem dL_law__2663 : decode cL_law_ 2663 = .ok (.iload 5, 2) := by decide +kernel
theorem dL_law__2665 : decode cL_law_ 2665 = .ok (.ifCond .ne 15, 3) := by decide +kernel
theorem dL_law__2668 : decode cL_law_ 2668 = .ok (.aload_n 3, 1) := by decide +kernel
theorem dL_law__2669 : decode cL_law_ 2669 = .ok (.iconst 0, 1) := by decide +kernel
theorem dL_law__2670 : decode cL_law_ 2670 = .ok (.laload, 1) := by decide +kernel
theorem dL_law__2671 : decode cL_law_ 2671 = .ok (.iload 6, 2) := by decide +kernel
theorem dL_law__2673 : decode cL_law_ 2673 = .ok (.i2l, 1) := by decide +kernel
theorem dL_law__2674 : decode cL_law_ 2674 = .ok (.lcmp, 1) := by decide +kernel
theorem dL_law__2675 : decode cL_law_ 2675 = .ok (.ifCond .eq 5, 3) := by decide +kernel
theorem dL_law__2678 : decode cL_law_ 2678 = .ok (.iconst 0, 1) := by decide +kernel
theorem dL_law__2679 : decode cL_law_ 2679 = .ok (.ireturn, 1) := by decide +kernel
theorem dL_law__2680 : decode cL_law_ 2680 = .ok (.goto 410, 3) := by decide +kernel
theorem dL_law__2683 : decode cL_law_ 2683 = .ok (.aload_n 1, 1) := by decide +kernel
theorem dL_law__2684 : decode cL_law_ 2684 = .ok (.aload_n 0, 1) := by decide +kernel
theorem dL_law__2685 : decode cL_law_ 2685 = .ok (.iload 4, 2) := by decide +kernel
theorem dL_law__2687 : decode cL_law_ 2687 = .ok (.iconst 1, 1) := by decide +kernel
theorem dL_law__2688 : decode cL_law_ 2688 = .ok (.iadd, 1) := by decide +kernel
theorem dL_law__2689 : decode cL_law_ 2689 = .ok (.iaload, 1) := by decide +kernel
theorem dL_law__2690 : decode cL_law_ 2690 = .ok (.aload_n 0, 1) := by decide +kernel
theorem dL_law__2691 : decode cL_law_ 2691 = .ok (.iload 4, 2) := by decide +kernel
theorem dL_law__2693 : decode cL_law_ 2693 = .ok (.iconst 2, 1) := by decide +kernel
theorem dL_law__2694 : decode cL_law_ 2694 = .ok (.iadd, 1) := by decide +kernel
theorem dL_law__2695 : decode cL_law_ 2695 = .ok (.iaload, 1) := by decide +kernel
theorem dL_law__2696 : decode cL_law_ 2696 = .ok (.ifCond .eq 7, 3) := by decide +kernel
theorem dL_law__2699 : decode cL_law_ 2699 = .ok (.iconst 1, 1) := by decide +kernel
theorem dL_law__2700 : decode cL_law_ 2700 = .ok (.goto 4, 3) := by decide +kernel
theorem dL_law__2703 : decode cL_law_ 2703 = .ok (.iconst 0, 1) := by decide +kernel
theorem dL_law__2704 : decode cL_law_ 2704 = .ok (.aload_n 3, 1) := by decide +kernel
theorem dL_law__2705 : decode cL_law_ 2705 = .ok (.invokestatic 318, 3) := by decide +kernel
theorem dL_law__2708 : decode cL_law_ 2708 = .ok (.istore 5, 2) := by decide +kernel
theorem dL_law__2710 : decode cL_law_ 2710 = .ok (.aload_n 2, 1) := by decide +kernel
theorem dL_law__2711 : decode cL_law_ 2711 = .ok (.aload_n 0, 1) := by decide +kernel
theorem dL_law__2712 : decode cL_law_ 2712 = .ok (.iload 4, 2) := by decide +kernel
theorem dL_law__2714 : decode cL_law_ 2714 = .ok (.iconst 1, 1) := by decide +kernel
theorem dL_law__2715 : decode cL_law_ 2715 = .ok (.iadd, 1) := by decide +kernel
theorem dL_law__2716 : decode cL_law_ 2716 = .ok (.iaload, 1) := by decide +kernel
theorem dL_law__2717 : decode cL_law_ 2717 = .ok (.aload_n 0, 1) := by decide +kernel
theorem dL_law__2718 : decode cL_law_ 2718 = .ok (.iload 4, 2) := by decide +kernel
theorem dL_law__2720 : decode cL_law_ 2720 = .ok (.iconst 2, 1) := by decide +kernel
theorem dL_law__2721 : decode cL_law_ 2721 = .ok (.iadd, 1) := by decide +kernel
theorem dL_law__2722 : decode cL_law_ 2722 = .ok (.iaload, 1) := by decide +kernel
theorem dL_law__2723 : decode cL_law_ 2723 = .ok (.ifCond .eq 7, 3) := by decide +kernel
theorem dL_law__2726 : decode cL_law_ 2726 = .ok (.iconst 1, 1) := by decide +kernel
theorem dL_law__2727 : decode cL_law_ 2727 = .ok (.goto 4, 3) := by decide +kernel
theorem dL_law__2730 : decode cL_law_ 2730 = .ok (.iconst 0, 1) := by decide +kernel
theorem dL_law__2731 : decode cL_law_ 2731 = .ok (.invokevirtual 320, 3) := by decide +kernel
theorem dL_law__2734 : decode cL_law_ 2734 = .ok (.istore 6, 2) := by decide +kernel
theorem dL_law__2736 : decode cL_law_ 2736 = .ok (.aload_n 2, 1) := by decide +kernel
theorem dL_law__2737 : decode cL_law_ 2737 = .ok (.invokevirtual 163, 3) := by decide +kernel
theorem dL_law__2740 : decode cL_law_ 2740 = .ok (.iload 5, 2) := by decide +kernel
theorem dL_law__2742 : decode cL_law_ 2742 = .ok (.if_icmp .eq 5, 3) := by decide +kernel
theorem dL_law__2745 : decode cL_law_ 2745 = .ok (.iconst 0, 1) := by decide +kernel
theorem dL_law__2746 : decode cL_law_ 2746 = .ok (.ireturn, 1) := by decide +kernel
theorem dL_law__2747 : decode cL_law_ 2747 = .ok (.iload 5, 2) := by decide +kernel
theorem dL_law__2749 : decode cL_law_ 2749 = .ok (.ifCond .ne 15, 3) := by decide +kernel
theorem dL_law__2752 : decode cL_law_ 2752 = .ok (.aload_n 3, 1) := by decide +kernel
theorem dL_law__2753 : decode cL_law_ 2753 = .ok (.iconst 0, 1) := by decide +kernel
theorem dL_law__2754 : decode cL_law_ 2754 = .ok (.laload, 1) := by decide +kernel
theorem dL_law__2755 : decode cL_law_ 2755 = .ok (.iload 6, 2) := by decide +kernel
theorem dL_law__2757 : decode cL_law_ 2757 = .ok (.i2l, 1) := by decide +kernel
theorem dL_law__2758 : decode cL_law_ 2758 = .ok (.lcmp, 1) := by decide +kernel
theorem dL_law__2759 : decode cL_law_ 2759 = .ok (.ifCond .eq 5, 3) := by decide +kernel
theorem dL_law__2762 : decode cL_law_ 2762 = .ok (.iconst 0, 1) := by decide +kernel
theorem dL_law__2763 : decode cL_law_ 2763 = .ok (.ireturn, 1) := by decide +kernel
theorem dL_law__2764 : decode cL_law_ 2764 = .ok (.goto 326, 3) := by decide +kernel
theorem dL_law__2767 : decode cL_law_ 2767 = .ok (.aload_n 1, 1) := by decide +kernel
theorem dL_law__2768 : decode cL_law_ 2768 = .ok (.aload_n 0, 1) := by decide +kernel
theorem dL_law__2769 : decode cL_law_ 2769 = .ok (.iload 4, 2) := by decide +kernel
theorem dL_law__2771 : decode cL_law_ 2771 = .ok (.iconst 1, 1) := by decide +kernel
theorem dL_law__2772 : decode cL_law_ 2772 = .ok (.iadd, 1) := by decide +kernel
theorem dL_law__2773 : decode cL_law_ 2773 = .ok (.iaload, 1) := by decide +kernel
theorem dL_law__2774 : decode cL_law_ 2774 = .ok (.aload_n 0, 1) := by decide +kernel
theorem dL_law__2775 : decode cL_law_ 2775 = .ok (.iload 4, 2) := by decide +kernel
theorem dL_law__2777 : decode cL_law_ 2777 = .ok (.iconst 2, 1) := by decide +kernel
theorem dL_law__2778 : decode cL_law_ 2778 = .ok (.iadd, 1) := by decide +kernel
theorem dL_law__2779 : decode cL_law_ 2779 = .ok (.iaload, 1) := by decide +kernel
theorem dL_law__2780 : decode cL_law_ 2780 = .ok (.ifCond .eq 7, 3) := by decide +kernel
theorem dL_law__2783 : decode cL_law_ 2783 = .ok (.iconst 1, 1) := by decide +kernel
theorem dL_law__2784 : decode cL_law_ 2784 = .ok (.goto 4, 3) := by decide +kernel
theorem dL_law__2787 : decode cL_law_ 2787 = .ok (.iconst 0, 1) := by decide +kernel
theorem dL_law__2788 : decode cL_law_ 2788 = .ok (.aload_n 3, 1) := by decide +kernel
theorem dL_law__2789 : decode cL_law_ 2789 = .ok (.invokestatic 321, 3) := by decide +kernel
theorem dL_law__2792 : decode cL_law_ 2792 = .ok (.istore 5, 2) := by decide +kernel
theorem dL_law__2794 : decode cL_law_ 2794 = .ok (.aload_n 2, 1) := by decide +kernel
theorem dL_law__2795 : decode cL_law_ 2795 = .ok (.aload_n 0, 1) := by decide +kernel
theorem dL_law__2796 : decode cL_law_ 2796 = .ok (.iload 4, 2) := by decide +kernel
theorem dL_law__2798 : decode cL_law_ 2798 = .ok (.iconst 1, 1) := by decide +kernel
theorem dL_law__2799 : decode cL_law_ 2799 = .ok (.iadd, 1) := by decide +kernel
theorem dL_law__2800 : decode cL_law_ 2800 = .ok (.iaload, 1) := by decide +kernel
theorem dL_law__2801 : decode cL_law_ 2801 = .ok (.aload_n 0, 1) := by decide +kernel
theorem dL_law__2802 : decode cL_law_ 2802 = .ok (.iload 4, 2) := by decide +kernel
theorem dL_law__2804 : decode cL_law_ 2804 = .ok (.iconst 2, 1) := by decide +kernel
theorem dL_law__2805 : decode cL_law_ 2805 = .ok (.iadd, 1) := by decide +kernel
theorem dL_law__2806 : decode cL_law_ 2806 = .ok (.iaload, 1) := by decide +kernel
theorem dL_law__2807 : decode cL_law_ 2807 = .ok (.ifCond .eq 7, 3) := by decide +kernel
theorem dL_law__2810 : decode cL_law_ 2810 = .ok (.iconst 1, 1) := by decide +kernel
theorem dL_law__2811 : decode cL_law_ 2811 = .ok (.goto 4, 3) := by decide +kernel
theorem dL_law__2814 : decode cL_law_ 2814 = .ok (.iconst 0, 1) := by decide +kernel
theorem dL_law__2815 : decode cL_law_ 2815 = .ok (.invokevirtual 323, 3) := by decide +kernel
theorem dL_law__2818 : decode cL_law_ 2818 = .ok (.istore 6, 2) := by decide +kernel
theorem dL_law__2820 : decode cL_law_ 2820 = .ok (.aload_n 2, 1) := by decide +kernel
theorem dL_law__2821 : decode cL_law_ 2821 = .ok (.invokevirtual 163, 3) := by decide +kernel
theorem dL_law__2824 : decode cL_law_ 2824 = .ok (.iload 5, 2) := by decide +kernel
theorem dL_law__2826 : decode cL_law_ 2826 = .ok (.if_icmp .eq 5, 3) := by decide +kernel
theorem dL_law__2829 : decode cL_law_ 2829 = .ok (.iconst 0, 1) := by decide +kernel
theorem dL_law__2830 : decode cL_law_ 2830 = .ok (.ireturn, 1) := by decide +kernel
theorem dL_law__2831 : decode cL_law_ 2831 = .ok (.iload 5, 2) := by decide +kernel
theorem dL_law__2833 : decode cL_law_ 2833 = .ok (.ifCond .ne 15, 3) := by decide +kernel
theorem dL_law__2836 : decode cL_law_ 2836 = .ok (.aload_n 3, 1) := by decide +kernel
theorem dL_law__2837 : decode cL_law_ 2837 = .ok (.iconst 0, 1) := by decide +kernel
theorem dL_law__2838 : decode cL_law_ 2838 = .ok (.laload, 1) := by decide +kernel
theorem dL_law__2839 : decode cL_law_ 2839 = .ok (.iload 6, 2) := by decide +kernel
theorem dL_law__2841 : decode cL_law_ 2841 = .ok (.i2l, 1) := by decide +kernel
theorem dL_law__2842 : decode cL_law_ 2842 = .ok (.lcmp, 1) := by decide +kernel
theorem dL_law__2843 : decode cL_law_ 2843 = .ok (.ifCond .eq 5, 3) := by decide +kernel
theorem dL_law__2846 : decode cL_law_ 2846 = .ok (.iconst 0, 1) := by decide +kernel
theorem dL_law__2847 : decode cL_law_ 2847 = .ok (.ireturn, 1) := by decide +kernel
theorem dL_law__2848 : decode cL_law_ 2848 = .ok (.goto 242, 3) := by decide +kernel
theorem dL_law__2851 : decode cL_law_ 2851 = .ok (.aload_n 1, 1) := by decide +kernel
theorem dL_law__2852 : decode cL_law_ 2852 = .ok (.aload_n 0, 1) := by decide +kernel
theorem dL_law__2853 : decode cL_law_ 2853 = .ok (.iload 4, 2) := by decide +kernel
theorem dL_law__2855 : decode cL_law_ 2855 = .ok (.iconst 1, 1) := by decide +kernel
theorem dL_law__2856 : decode cL_law_ 2856 = .ok (.iadd, 1) := by decide +kernel
theorem dL_law__2857 : decode cL_law_ 2857 = .ok (.iaload, 1) := by decide +kernel
theorem dL_law__2858 : decode cL_law_ 2858 = .ok (.aload_n 0, 1) := by decide +kernel
theorem dL_law__2859 : decode cL_law_ 2859 = .ok (.iload 4, 2) := by decide +kernel
theorem dL_law__2861 : decode cL_law_ 2861 = .ok (.iconst 2, 1) := by decide +kernel
theorem dL_law__2862 : decode cL_law_ 2862 = .ok (.iadd, 1) := by decide +kernel
theorem dL_law__2863 : decode cL_law_ 2863 = .ok (.iaload, 1) := by decide +kernel
theorem dL_law__2864 : decode cL_law_ 2864 = .ok (.ifCond .eq 7, 3) := by decide +kernel
theorem dL_law__2867 : decode cL_law_ 2867 = .ok (.iconst 1, 1) := by decide +kernel
theorem dL_law__2868 : decode cL_law_ 2868 = .ok (.goto 4, 3) := by decide +kernel
theorem dL_law__2871 : decode cL_law_ 2871 = .ok (.iconst 0, 1) := by decide +kernel
theorem dL_law__2872 : decode cL_law_ 2872 = .ok (.aload_n 3, 1) := by decide +kernel
theorem dL_law__2873 : decode cL_law_ 2873 = .ok (.invokestatic 324, 3) := by decide +kernel
theorem dL_law__2876 : decode cL_law_ 2876 = .ok (.istore 5, 2) := by decide +kernel
theorem dL_law__2878 : decode cL_law_ 2878 = .ok (.aload_n 2, 1) := by decide +kernel
theorem dL_law__2879 : decode cL_law_ 2879 = .ok (.aload_n 0, 1) := by decide +kernel
theorem dL_law__2880 : decode cL_law_ 2880 = .ok (.iload 4, 2) := by decide +kernel
theorem dL_law__2882 : decode cL_law_ 2882 = .ok (.iconst 1, 1) := by decide +kernel
theorem dL_law__2883 : decode cL_law_ 2883 = .ok (.iadd, 1) := by decide +kernel
theorem dL_law__2884 : decode cL_law_ 2884 = .ok (.iaload, 1) := by decide +kernel
theorem dL_law__2885 : decode cL_law_ 2885 = .ok (.aload_n 0, 1) := by decide +kernel
theorem dL_law__2886 : decode cL_law_ 2886 = .ok (.iload 4, 2) := by decide +kernel
theorem dL_law__2888 : decode cL_law_ 2888 = .ok (.iconst 2, 1) := by decide +kernel
theorem dL_law__2889 : decode cL_law_ 2889 = .ok (.iadd, 1) := by decide +kernel
theorem dL_law__2890 : decode cL_law_ 2890 = .ok (.iaload, 1) := by decide +kernel
theorem dL_law__2891 : decode cL_law_ 2891 = .ok (.ifCond .eq 7, 3) := by decide +kernel
theorem dL_law__2894 : decode cL_law_ 2894 = .ok (.iconst 1, 1) := by decide +kernel
theorem dL_law__2895 : decode cL_law_ 2895 = .ok (.goto 4, 3) := by decide +kernel
theorem dL_law__2898 : decode cL_law_ 2898 = .ok (.iconst 0, 1) := by decide +kernel
theorem dL_law__2899 : decode cL_law_ 2899 = .ok (.invokevirtual 326, 3) := by decide +kernel
theorem dL_law__2902 : decode cL_law_ 2902 = .ok (.istore 6, 2) := by decide +kernel
theorem dL_law__2904 : decode cL_law_ 2904 = .ok (.aload_n 2, 1) := by decide +kernel
theorem dL_law__2905 : decode cL_law_ 2905 = .ok (.invokevirtual 163, 3) := by decide +kernel
theorem dL_law__2908 : decode cL_law_ 2908 = .ok (.iload 5, 2) := by decide +kernel
theorem dL_law__2910 : decode cL_law_ 2910 = .ok (.if_icmp .eq 5, 3) := by decide +kernel
theorem dL_law__2913 : decode cL_law_ 2913 = .ok (.iconst 0, 1) := by decide +kernel
theorem dL_law__2914 : decode cL_law_ 2914 = .ok (.ireturn, 1) := by decide +kernel
theorem dL_law__2915 : decode cL_law_ 2915 = .ok (.iload 5, 2) := by decide +kernel
theorem dL_law__2917 : decode cL_law_ 2917 = .ok (.ifCond .ne 15, 3) := by decide +kernel
theorem dL_law__2920 : decode cL_law_ 2920 = .ok (.aload_n 3, 1) := by decide +kernel
theorem dL_law__2921 : decode cL_law_ 2921 = .ok (.iconst 0, 1) := by decide +kernel
theorem dL_law__2922 : decode cL_law_ 2922 = .ok (.laload, 1) := by decide +kernel
theorem dL_law__2923 : decode cL_law_ 2923 = .ok (.iload 6, 2) := by decide +kernel
theorem dL_law__2925 : decode cL_law_ 2925 = .ok (.i2l, 1) := by decide +kernel
theorem dL_law__2926 : decode cL_law_ 2926 = .ok (.lcmp, 1) := by decide +kernel
theorem dL_law__2927 : decode cL_law_ 2927 = .ok (.ifCond .eq 5, 3) := by decide +kernel
theorem dL_law__2930 : decode cL_law_ 2930 = .ok (.iconst 0, 1) := by decide +kernel
theorem dL_law__2931 : decode cL_law_ 2931 = .ok (.ireturn, 1) := by decide +kernel
theorem dL_law__2932 : decode cL_law_ 2932 = .ok (.goto 158, 3) := by decide +kernel
theorem dL_law__2935 : decode cL_law_ 2935 = .ok (.aload_n 1, 1) := by decide +kernel
theorem dL_law__2936 : decode cL_law_ 2936 = .ok (.aload_n 0, 1) := by decide +kernel
theorem dL_law__2937 : decode cL_law_ 2937 = .ok (.iload 4, 2) := by decide +kernel
theorem dL_law__2939 : decode cL_law_ 2939 = .ok (.iconst 1, 1) := by decide +kernel
theorem dL_law__2940 : decode cL_law_ 2940 = .ok (.iadd, 1) := by decide +kernel
theorem dL_law__2941 : decode cL_law_ 2941 = .ok (.iaload, 1) := by decide +kernel
theorem dL_law__2942 : decode cL_law_ 2942 = .ok (.aload_n 0, 1) := by decide +kernel
theorem dL_law__2943 : decode cL_law_ 2943 = .ok (.iload 4, 2) := by decide +kernel
theorem dL_law__2945 : decode cL_law_ 2945 = .ok (.iconst 2, 1) := by decide +kernel
theorem dL_law__2946 : decode cL_law_ 2946 = .ok (.iadd, 1) := by decide +kernel
theorem dL_law__2947 : decode cL_law_ 2947 = .ok (.iaload, 1) := by decide +kernel
theorem dL_law__2948 : decode cL_law_ 2948 = .ok (.aload_n 3, 1) := by decide +kernel
theorem dL_law__2949 : decode cL_law_ 2949 = .ok (.invokestatic 327, 3) := by decide +kernel
theorem dL_law__2952 : decode cL_law_ 2952 = .ok (.istore 5, 2) := by decide +kernel
theorem dL_law__2954 : decode cL_law_ 2954 = .ok (.aload_n 2, 1) := by decide +kernel
theorem dL_law__2955 : decode cL_law_ 2955 = .ok (.aload_n 0, 1) := by decide +kernel
theorem dL_law__2956 : decode cL_law_ 2956 = .ok (.iload 4, 2) := by decide +kernel
theorem dL_law__2958 : decode cL_law_ 2958 = .ok (.iconst 1, 1) := by decide +kernel
theorem dL_law__2959 : decode cL_law_ 2959 = .ok (.iadd, 1) := by decide +kernel
theorem dL_law__2960 : decode cL_law_ 2960 = .ok (.iaload, 1) := by decide +kernel
theorem dL_law__2961 : decode cL_law_ 2961 = .ok (.aload_n 0, 1) := by decide +kernel
theorem dL_law__2962 : decode cL_law_ 2962 = .ok (.iload 4, 2) := by decide +kernel
theorem dL_law__2964 : decode cL_law_ 2964 = .ok (.iconst 2, 1) := by decide +kernel
theorem dL_law__2965 : decode cL_law_ 2965 = .ok (.iadd, 1) := by decide +kernel
theorem dL_law__2966 : decode cL_law_ 2966 = .ok (.iaload, 1) := by decide +kernel
theorem dL_law__2967 : decode cL_law_ 2967 = .ok (.invokevirtual 329, 3) := by decide +kernel
theorem dL_law__2970 : decode cL_law_ 2970 = .ok (.istore 6, 2) := by decide +kernel
theorem dL_law__2972 : decode cL_law_ 2972 = .ok (.aload_n 2, 1) := by decide +kernel
theorem dL_law__2973 : decode cL_law_ 2973 = .ok (.invokevirtual 163, 3) := by decide +kernel
theorem dL_law__2976 : decode cL_law_ 2976 = .ok (.iload 5, 2) := by decide +kernel
theorem dL_law__2978 : decode cL_law_ 2978 = .ok (.if_icmp .eq 5, 3) := by decide +kernel
theorem dL_law__2981 : decode cL_law_ 2981 = .ok (.iconst 0, 1) := by decide +kernel
theorem dL_law__2982 : decode cL_law_ 2982 = .ok (.ireturn, 1) := by decide +kernel
theorem dL_law__2983 : decode cL_law_ 2983 = .ok (.iload 5, 2) := by decide +kernel
theorem dL_law__2985 : decode cL_law_ 2985 = .ok (.ifCond .ne 15, 3) := by decide +kernel
theorem dL_law__2988 : decode cL_law_ 2988 = .ok (.aload_n 3, 1) := by decide +kernel
theorem dL_law__2989 : decode cL_law_ 2989 = .ok (.iconst 0, 1) := by decide +kernel
theorem dL_law__2990 : decode cL_law_ 2990 = .ok (.laload, 1) := by decide +kernel
theorem dL_law__2991 : decode cL_law_ 2991 = .ok (.iload 6, 2) := by decide +kernel
theorem dL_law__2993 : decode cL_law_ 2993 = .ok (.i2l, 1) := by decide +kernel
theorem dL_law__2994 : decode cL_law_ 2994 = .ok (.lcmp, 1) := by decide +kernel
theorem dL_law__2995 : decode cL_law_ 2995 = .ok (.ifCond .eq 5, 3) := by decide +kernel
theorem dL_law__2998 : decode cL_law_ 2998 = .ok (.iconst 0, 1) := by decide +kernel
theorem dL_law__2999 : decode cL_law_ 2999 = .ok (.ireturn, 1) := by decide +kernel
theorem dL_law__3000 : decode cL_law_ 3000 = .ok (.goto 90, 3) := by decide +kernel
theorem dL_law__3003 : decode cL_law_ 3003 = .ok (.aload_n 1, 1) := by decide +kernel
theorem dL_law__3004 : decode cL_law_ 3004 = .ok (.aload_n 0, 1) := by decide +kernel
theorem dL_law__3005 : decode cL_law_ 3005 = .ok (.iload 4, 2) := by decide +kernel
theorem dL_law__3007 : decode cL_law_ 3007 = .ok (.iconst 1, 1) := by decide +kernel
theorem dL_law__3008 : decode cL_law_ 3008 = .ok (.iadd, 1) := by decide +kernel
theorem dL_law__3009 : decode cL_law_ 3009 = .ok (.iaload, 1) := by decide +kernel
theorem dL_law__3010 : decode cL_law_ 3010 = .ok (.invokevirtual 330, 3) := by decide +kernel
theorem dL_law__3013 : decode cL_law_ 3013 = .ok (.aload_n 2, 1) := by decide +kernel
theorem dL_law__3014 : decode cL_law_ 3014 = .ok (.aload_n 0, 1) := by decide +kernel
theorem dL_law__3015 : decode cL_law_ 3015 = .ok (.iload 4, 2) := by decide +kernel
theorem dL_law__3017 : decode cL_law_ 3017 = .ok (.iconst 1, 1) := by decide +kernel
theorem dL_law__3018 : decode cL_law_ 3018 = .ok (.iadd, 1) := by decide +kernel
theorem dL_law__3019 : decode cL_law_ 3019 = .ok (.iaload, 1) := by decide +kernel
theorem dL_law__3020 : decode cL_law_ 3020 = .ok (.invokevirtual 333, 3) := by decide +kernel
theorem dL_law__3023 : decode cL_law_ 3023 = .ok (.if_icmp .eq 67, 3) := by decide +kernel
theorem dL_law__3026 : decode cL_law_ 3026 = .ok (.iconst 0, 1) := by decide +kernel
theorem dL_law__3027 : decode cL_law_ 3027 = .ok (.ireturn, 1) := by decide +kernel
theorem dL_law__3028 : decode cL_law_ 3028 = .ok (.aload_n 1, 1) := by decide +kernel
theorem dL_law__3029 : decode cL_law_ 3029 = .ok (.invokevirtual 334, 3) := by decide +kernel
theorem dL_law__3032 : decode cL_law_ 3032 = .ok (.aload_n 2, 1) := by decide +kernel
theorem dL_law__3033 : decode cL_law_ 3033 = .ok (.invokevirtual 338, 3) := by decide +kernel
theorem dL_law__3036 : decode cL_law_ 3036 = .ok (.if_icmp .eq 54, 3) := by decide +kernel
theorem dL_law__3039 : decode cL_law_ 3039 = .ok (.iconst 0, 1) := by decide +kernel
theorem dL_law__3040 : decode cL_law_ 3040 = .ok (.ireturn, 1) := by decide +kernel
theorem dL_law__3041 : decode cL_law_ 3041 = .ok (.aload_n 1, 1) := by decide +kernel
theorem dL_law__3042 : decode cL_law_ 3042 = .ok (.invokevirtual 339, 3) := by decide +kernel
theorem dL_law__3045 : decode cL_law_ 3045 = .ok (.aload_n 2, 1) := by decide +kernel
theorem dL_law__3046 : decode cL_law_ 3046 = .ok (.invokevirtual 342, 3) := by decide +kernel
theorem dL_law__3049 : decode cL_law_ 3049 = .ok (.goto 41, 3) := by decide +kernel
theorem dL_law__3052 : decode cL_law_ 3052 = .ok (.aload_n 1, 1) := by decide +kernel
theorem dL_law__3053 : decode cL_law_ 3053 = .ok (.invokevirtual 343, 3) := by decide +kernel
theorem dL_law__3056 : decode cL_law_ 3056 = .ok (.aload_n 2, 1) := by decide +kernel
theorem dL_law__3057 : decode cL_law_ 3057 = .ok (.invokevirtual 346, 3) := by decide +kernel
theorem dL_law__3060 : decode cL_law_ 3060 = .ok (.if_icmp .eq 30, 3) := by decide +kernel
theorem dL_law__3063 : decode cL_law_ 3063 = .ok (.iconst 0, 1) := by decide +kernel
theorem dL_law__3064 : decode cL_law_ 3064 = .ok (.ireturn, 1) := by decide +kernel
theorem dL_law__3065 : decode cL_law_ 3065 = .ok (.aload_n 1, 1) := by decide +kernel
theorem dL_law__3066 : decode cL_law_ 3066 = .ok (.aload_n 0, 1) := by decide +kernel
theorem dL_law__3067 : decode cL_law_ 3067 = .ok (.iload 4, 2) := by decide +kernel
theorem dL_law__3069 : decode cL_law_ 3069 = .ok (.iconst 1, 1) := by decide +kernel
theorem dL_law__3070 : decode cL_law_ 3070 = .ok (.iadd, 1) := by decide +kernel
theorem dL_law__3071 : decode cL_law_ 3071 = .ok (.iaload, 1) := by decide +kernel
theorem dL_law__3072 : decode cL_law_ 3072 = .ok (.invokevirtual 347, 3) := by decide +kernel
theorem dL_law__3075 : decode cL_law_ 3075 = .ok (.aload_n 2, 1) := by decide +kernel
theorem dL_law__3076 : decode cL_law_ 3076 = .ok (.aload_n 0, 1) := by decide +kernel
theorem dL_law__3077 : decode cL_law_ 3077 = .ok (.iload 4, 2) := by decide +kernel
theorem dL_law__3079 : decode cL_law_ 3079 = .ok (.iconst 1, 1) := by decide +kernel
theorem dL_law__3080 : decode cL_law_ 3080 = .ok (.iadd, 1) := by decide +kernel
theorem dL_law__3081 : decode cL_law_ 3081 = .ok (.iaload, 1) := by decide +kernel
theorem dL_law__3082 : decode cL_law_ 3082 = .ok (.invokevirtual 350, 3) := by decide +kernel
theorem dL_law__3085 : decode cL_law_ 3085 = .ok (.if_icmp .eq 5, 3) := by decide +kernel
theorem dL_law__3088 : decode cL_law_ 3088 = .ok (.iconst 0, 1) := by decide +kernel
theorem dL_law__3089 : decode cL_law_ 3089 = .ok (.ireturn, 1) := by decide +kernel
theorem dL_law__3090 : decode cL_law_ 3090 = .ok (.iinc 4 6, 3) := by decide +kernel
theorem dL_law__3093 : decode cL_law_ 3093 = .ok (.goto (-3070), 3) := by decide +kernel
theorem dL_law__3096 : decode cL_law_ 3096 = .ok (.iconst 1, 1) := by decide +kernel
theorem dL_law__3097 : decode cL_law_ 3097 = .ok (.ireturn, 1) := by decide +kernel
