theorem dX0_init_0 : decode cX0_init 0 = .ok (.aload_n 0, 1) := by decide +kernel
theorem dX0_init_1 : decode cX0_init 1 = .ok (.invokespecial 3, 3) := by decide +kernel
theorem dX0_init_4 : decode cX0_init 4 = .ok (.aload_n 0, 1) := by decide +kernel
theorem dX0_init_5 : decode cX0_init 5 = .ok (.bipush 40, 2) := by decide +kernel
theorem dX0_init_7 : decode cX0_init 7 = .ok (.newarray .int, 2) := by decide +kernel
theorem dX0_init_9 : decode cX0_init 9 = .ok (.putfield 9, 3) := by decide +kernel
theorem dX0_init_12 : decode cX0_init 12 = .ok (.aload_n 0, 1) := by decide +kernel
theorem dX0_init_13 : decode cX0_init 13 = .ok (.bipush 6, 2) := by decide +kernel
theorem dX0_init_15 : decode cX0_init 15 = .ok (.newarray .int, 2) := by decide +kernel
theorem dX0_init_17 : decode cX0_init 17 = .ok (.putfield 15, 3) := by decide +kernel
theorem dX0_init_20 : decode cX0_init 20 = .ok (.aload_n 0, 1) := by decide +kernel
theorem dX0_init_21 : decode cX0_init 21 = .ok (.bipush (-9), 2) := by decide +kernel
theorem dX0_init_23 : decode cX0_init 23 = .ok (.putfield 18, 3) := by decide +kernel
theorem dX0_init_26 : decode cX0_init 26 = .ok (.aload_n 0, 1) := by decide +kernel
theorem dX0_init_27 : decode cX0_init 27 = .ok (.iconst 0, 1) := by decide +kernel
theorem dX0_init_28 : decode cX0_init 28 = .ok (.putfield 22, 3) := by decide +kernel
theorem dX0_init_31 : decode cX0_init 31 = .ok (.aload_n 0, 1) := by decide +kernel
theorem dX0_init_32 : decode cX0_init 32 = .ok (.iconst 0, 1) := by decide +kernel
theorem dX0_init_33 : decode cX0_init 33 = .ok (.putfield 25, 3) := by decide +kernel
theorem dX0_init_36 : decode cX0_init 36 = .ok (.aload_n 0, 1) := by decide +kernel
theorem dX0_init_37 : decode cX0_init 37 = .ok (.getfield 9, 3) := by decide +kernel
theorem dX0_init_40 : decode cX0_init 40 = .ok (.bipush (-9), 2) := by decide +kernel
theorem dX0_init_42 : decode cX0_init 42 = .ok (.invokestatic 28, 3) := by decide +kernel
theorem dX0_init_45 : decode cX0_init 45 = .ok (.aload_n 0, 1) := by decide +kernel
theorem dX0_init_46 : decode cX0_init 46 = .ok (.getfield 15, 3) := by decide +kernel
theorem dX0_init_49 : decode cX0_init 49 = .ok (.bipush (-9), 2) := by decide +kernel
theorem dX0_init_51 : decode cX0_init 51 = .ok (.invokestatic 28, 3) := by decide +kernel
theorem dX0_init_54 : decode cX0_init 54 = .ok (.return_, 1) := by decide +kernel
theorem dX0_answerTo_0 : decode cX0_answerTo 0 = .ok (.aload_n 0, 1) := by decide +kernel
theorem dX0_answerTo_1 : decode cX0_answerTo 1 = .ok (.getfield 9, 3) := by decide +kernel
theorem dX0_answerTo_4 : decode cX0_answerTo 4 = .ok (.iload_n 1, 1) := by decide +kernel
theorem dX0_answerTo_5 : decode cX0_answerTo 5 = .ok (.bipush 8, 2) := by decide +kernel
theorem dX0_answerTo_7 : decode cX0_answerTo 7 = .ok (.imul, 1) := by decide +kernel
theorem dX0_answerTo_8 : decode cX0_answerTo 8 = .ok (.iload_n 2, 1) := by decide +kernel
theorem dX0_answerTo_9 : decode cX0_answerTo 9 = .ok (.iadd, 1) := by decide +kernel
theorem dX0_answerTo_10 : decode cX0_answerTo 10 = .ok (.iaload, 1) := by decide +kernel
theorem dX0_answerTo_11 : decode cX0_answerTo 11 = .ok (.ireturn, 1) := by decide +kernel
theorem dX0_copyAnswers_0 : decode cX0_copyAnswers 0 = .ok (.aload_n 0, 1) := by decide +kernel
theorem dX0_copyAnswers_1 : decode cX0_copyAnswers 1 = .ok (.getfield 9, 3) := by decide +kernel
theorem dX0_copyAnswers_4 : decode cX0_copyAnswers 4 = .ok (.iload_n 1, 1) := by decide +kernel
theorem dX0_copyAnswers_5 : decode cX0_copyAnswers 5 = .ok (.bipush 8, 2) := by decide +kernel
theorem dX0_copyAnswers_7 : decode cX0_copyAnswers 7 = .ok (.imul, 1) := by decide +kernel
theorem dX0_copyAnswers_8 : decode cX0_copyAnswers 8 = .ok (.aload_n 0, 1) := by decide +kernel
theorem dX0_copyAnswers_9 : decode cX0_copyAnswers 9 = .ok (.getfield 9, 3) := by decide +kernel
theorem dX0_copyAnswers_12 : decode cX0_copyAnswers 12 = .ok (.iload_n 2, 1) := by decide +kernel
theorem dX0_copyAnswers_13 : decode cX0_copyAnswers 13 = .ok (.bipush 8, 2) := by decide +kernel
theorem dX0_copyAnswers_15 : decode cX0_copyAnswers 15 = .ok (.imul, 1) := by decide +kernel
theorem dX0_copyAnswers_16 : decode cX0_copyAnswers 16 = .ok (.bipush 8, 2) := by decide +kernel
theorem dX0_copyAnswers_18 : decode cX0_copyAnswers 18 = .ok (.invokestatic 34, 3) := by decide +kernel
theorem dX0_copyAnswers_21 : decode cX0_copyAnswers 21 = .ok (.return_, 1) := by decide +kernel
theorem dX0_differing_0 : decode cX0_differing 0 = .ok (.iconst 0, 1) := by decide +kernel
theorem dX0_differing_1 : decode cX0_differing 1 = .ok (.istore_n 3, 1) := by decide +kernel
theorem dX0_differing_2 : decode cX0_differing 2 = .ok (.iconst 0, 1) := by decide +kernel
theorem dX0_differing_3 : decode cX0_differing 3 = .ok (.istore 4, 2) := by decide +kernel
theorem dX0_differing_5 : decode cX0_differing 5 = .ok (.iload 4, 2) := by decide +kernel
theorem dX0_differing_7 : decode cX0_differing 7 = .ok (.bipush 8, 2) := by decide +kernel
theorem dX0_differing_9 : decode cX0_differing 9 = .ok (.if_icmp .ge 33, 3) := by decide +kernel
theorem dX0_differing_12 : decode cX0_differing 12 = .ok (.aload_n 0, 1) := by decide +kernel
theorem dX0_differing_13 : decode cX0_differing 13 = .ok (.iload_n 1, 1) := by decide +kernel
theorem dX0_differing_14 : decode cX0_differing 14 = .ok (.iload 4, 2) := by decide +kernel
theorem dX0_differing_16 : decode cX0_differing 16 = .ok (.invokevirtual 40, 3) := by decide +kernel
theorem dX0_differing_19 : decode cX0_differing 19 = .ok (.aload_n 0, 1) := by decide +kernel
theorem dX0_differing_20 : decode cX0_differing 20 = .ok (.iload_n 2, 1) := by decide +kernel
theorem dX0_differing_21 : decode cX0_differing 21 = .ok (.iload 4, 2) := by decide +kernel
theorem dX0_differing_23 : decode cX0_differing 23 = .ok (.invokevirtual 40, 3) := by decide +kernel
theorem dX0_differing_26 : decode cX0_differing 26 = .ok (.if_icmp .eq 10, 3) := by decide +kernel
theorem dX0_differing_29 : decode cX0_differing 29 = .ok (.iload_n 3, 1) := by decide +kernel
theorem dX0_differing_30 : decode cX0_differing 30 = .ok (.iconst 1, 1) := by decide +kernel
theorem dX0_differing_31 : decode cX0_differing 31 = .ok (.iload 4, 2) := by decide +kernel
theorem dX0_differing_33 : decode cX0_differing 33 = .ok (.ishl, 1) := by decide +kernel
theorem dX0_differing_34 : decode cX0_differing 34 = .ok (.ior, 1) := by decide +kernel
theorem dX0_differing_35 : decode cX0_differing 35 = .ok (.istore_n 3, 1) := by decide +kernel
theorem dX0_differing_36 : decode cX0_differing 36 = .ok (.iinc 4 1, 3) := by decide +kernel
theorem dX0_differing_39 : decode cX0_differing 39 = .ok (.goto (-34), 3) := by decide +kernel
theorem dX0_differing_42 : decode cX0_differing 42 = .ok (.iload_n 3, 1) := by decide +kernel
theorem dX0_differing_43 : decode cX0_differing 43 = .ok (.ireturn, 1) := by decide +kernel
theorem dX0_latestPromise_0 : decode cX0_latestPromise 0 = .ok (.bipush (-9), 2) := by decide +kernel
theorem dX0_latestPromise_2 : decode cX0_latestPromise 2 = .ok (.istore_n 1, 1) := by decide +kernel
theorem dX0_latestPromise_3 : decode cX0_latestPromise 3 = .ok (.aload_n 0, 1) := by decide +kernel
theorem dX0_latestPromise_4 : decode cX0_latestPromise 4 = .ok (.getfield 15, 3) := by decide +kernel
theorem dX0_latestPromise_7 : decode cX0_latestPromise 7 = .ok (.astore_n 2, 1) := by decide +kernel
theorem dX0_latestPromise_8 : decode cX0_latestPromise 8 = .ok (.aload_n 2, 1) := by decide +kernel
theorem dX0_latestPromise_9 : decode cX0_latestPromise 9 = .ok (.arraylength, 1) := by decide +kernel
theorem dX0_latestPromise_10 : decode cX0_latestPromise 10 = .ok (.istore_n 3, 1) := by decide +kernel
theorem dX0_latestPromise_11 : decode cX0_latestPromise 11 = .ok (.iconst 0, 1) := by decide +kernel
theorem dX0_latestPromise_12 : decode cX0_latestPromise 12 = .ok (.istore 4, 2) := by decide +kernel
theorem dX0_latestPromise_14 : decode cX0_latestPromise 14 = .ok (.iload 4, 2) := by decide +kernel
theorem dX0_latestPromise_16 : decode cX0_latestPromise 16 = .ok (.iload_n 3, 1) := by decide +kernel
theorem dX0_latestPromise_17 : decode cX0_latestPromise 17 = .ok (.if_icmp .ge 22, 3) := by decide +kernel
theorem dX0_latestPromise_20 : decode cX0_latestPromise 20 = .ok (.aload_n 2, 1) := by decide +kernel
theorem dX0_latestPromise_21 : decode cX0_latestPromise 21 = .ok (.iload 4, 2) := by decide +kernel
theorem dX0_latestPromise_23 : decode cX0_latestPromise 23 = .ok (.iaload, 1) := by decide +kernel
theorem dX0_latestPromise_24 : decode cX0_latestPromise 24 = .ok (.istore 5, 2) := by decide +kernel
theorem dX0_latestPromise_26 : decode cX0_latestPromise 26 = .ok (.iload_n 1, 1) := by decide +kernel
theorem dX0_latestPromise_27 : decode cX0_latestPromise 27 = .ok (.iload 5, 2) := by decide +kernel
theorem dX0_latestPromise_29 : decode cX0_latestPromise 29 = .ok (.invokestatic 44, 3) := by decide +kernel
theorem dX0_latestPromise_32 : decode cX0_latestPromise 32 = .ok (.istore_n 1, 1) := by decide +kernel
theorem dX0_latestPromise_33 : decode cX0_latestPromise 33 = .ok (.iinc 4 1, 3) := by decide +kernel
theorem dX0_latestPromise_36 : decode cX0_latestPromise 36 = .ok (.goto (-22), 3) := by decide +kernel
theorem dX0_latestPromise_39 : decode cX0_latestPromise 39 = .ok (.iload_n 1, 1) := by decide +kernel
theorem dX0_latestPromise_40 : decode cX0_latestPromise 40 = .ok (.ireturn, 1) := by decide +kernel
theorem dX0_isPromised_0 : decode cX0_isPromised 0 = .ok (.aload_n 0, 1) := by decide +kernel
theorem dX0_isPromised_1 : decode cX0_isPromised 1 = .ok (.invokevirtual 49, 3) := by decide +kernel
theorem dX0_isPromised_4 : decode cX0_isPromised 4 = .ok (.iload_n 1, 1) := by decide +kernel
theorem dX0_isPromised_5 : decode cX0_isPromised 5 = .ok (.if_icmp .lt 7, 3) := by decide +kernel
theorem dX0_isPromised_8 : decode cX0_isPromised 8 = .ok (.iconst 1, 1) := by decide +kernel
theorem dX0_isPromised_9 : decode cX0_isPromised 9 = .ok (.goto 4, 3) := by decide +kernel
theorem dX0_isPromised_12 : decode cX0_isPromised 12 = .ok (.iconst 0, 1) := by decide +kernel
theorem dX0_isPromised_13 : decode cX0_isPromised 13 = .ok (.ireturn, 1) := by decide +kernel
theorem dX0_isShutOn_0 : decode cX0_isShutOn 0 = .ok (.aload_n 0, 1) := by decide +kernel
theorem dX0_isShutOn_1 : decode cX0_isShutOn 1 = .ok (.getfield 18, 3) := by decide +kernel
theorem dX0_isShutOn_4 : decode cX0_isShutOn 4 = .ok (.bipush (-9), 2) := by decide +kernel
theorem dX0_isShutOn_6 : decode cX0_isShutOn 6 = .ok (.if_icmp .eq 15, 3) := by decide +kernel
theorem dX0_isShutOn_9 : decode cX0_isShutOn 9 = .ok (.aload_n 0, 1) := by decide +kernel
theorem dX0_isShutOn_10 : decode cX0_isShutOn 10 = .ok (.getfield 18, 3) := by decide +kernel
theorem dX0_isShutOn_13 : decode cX0_isShutOn 13 = .ok (.iload_n 1, 1) := by decide +kernel
theorem dX0_isShutOn_14 : decode cX0_isShutOn 14 = .ok (.if_icmp .gt 7, 3) := by decide +kernel
theorem dX0_isShutOn_17 : decode cX0_isShutOn 17 = .ok (.iconst 1, 1) := by decide +kernel
theorem dX0_isShutOn_18 : decode cX0_isShutOn 18 = .ok (.goto 4, 3) := by decide +kernel
theorem dX0_isShutOn_21 : decode cX0_isShutOn 21 = .ok (.iconst 0, 1) := by decide +kernel
theorem dX0_isShutOn_22 : decode cX0_isShutOn 22 = .ok (.ireturn, 1) := by decide +kernel
theorem dX1_init_0 : decode cX1_init 0 = .ok (.aload_n 0, 1) := by decide +kernel
theorem dX1_init_1 : decode cX1_init 1 = .ok (.invokespecial 3, 3) := by decide +kernel
theorem dX1_init_4 : decode cX1_init 4 = .ok (.aload_n 0, 1) := by decide +kernel
theorem dX1_init_5 : decode cX1_init 5 = .ok (.new 9, 3) := by decide +kernel
theorem dX1_init_8 : decode cX1_init 8 = .ok (.dup, 1) := by decide +kernel
theorem dX1_init_9 : decode cX1_init 9 = .ok (.invokespecial 11, 3) := by decide +kernel
theorem dX1_init_12 : decode cX1_init 12 = .ok (.putfield 12, 3) := by decide +kernel
theorem dX1_init_15 : decode cX1_init 15 = .ok (.aload_n 0, 1) := by decide +kernel
theorem dX1_init_16 : decode cX1_init 16 = .ok (.sipush 320, 3) := by decide +kernel
theorem dX1_init_19 : decode cX1_init 19 = .ok (.newarray .int, 2) := by decide +kernel
theorem dX1_init_21 : decode cX1_init 21 = .ok (.putfield 18, 3) := by decide +kernel
theorem dX1_init_24 : decode cX1_init 24 = .ok (.aload_n 0, 1) := by decide +kernel
theorem dX1_init_25 : decode cX1_init 25 = .ok (.bipush 100, 2) := by decide +kernel
theorem dX1_init_27 : decode cX1_init 27 = .ok (.newarray .boolean, 2) := by decide +kernel
theorem dX1_init_29 : decode cX1_init 29 = .ok (.putfield 22, 3) := by decide +kernel
theorem dX1_init_32 : decode cX1_init 32 = .ok (.aload_n 0, 1) := by decide +kernel
theorem dX1_init_33 : decode cX1_init 33 = .ok (.iconst 0, 1) := by decide +kernel
theorem dX1_init_34 : decode cX1_init 34 = .ok (.putfield 26, 3) := by decide +kernel
theorem dX1_init_37 : decode cX1_init 37 = .ok (.aload_n 0, 1) := by decide +kernel
theorem dX1_init_38 : decode cX1_init 38 = .ok (.iconst 0, 1) := by decide +kernel
theorem dX1_init_39 : decode cX1_init 39 = .ok (.putfield 30, 3) := by decide +kernel
theorem dX1_init_42 : decode cX1_init 42 = .ok (.aload_n 0, 1) := by decide +kernel
theorem dX1_init_43 : decode cX1_init 43 = .ok (.iconst 0, 1) := by decide +kernel
theorem dX1_init_44 : decode cX1_init 44 = .ok (.putfield 34, 3) := by decide +kernel
theorem dX1_init_47 : decode cX1_init 47 = .ok (.return_, 1) := by decide +kernel
theorem dX1_addCount_0 : decode cX1_addCount 0 = .ok (.aload_n 0, 1) := by decide +kernel
theorem dX1_addCount_1 : decode cX1_addCount 1 = .ok (.getfield 22, 3) := by decide +kernel
theorem dX1_addCount_4 : decode cX1_addCount 4 = .ok (.iload 4, 2) := by decide +kernel
theorem dX1_addCount_6 : decode cX1_addCount 6 = .ok (.iconst 1, 1) := by decide +kernel
theorem dX1_addCount_7 : decode cX1_addCount 7 = .ok (.bastore, 1) := by decide +kernel
theorem dX1_addCount_8 : decode cX1_addCount 8 = .ok (.aload_n 0, 1) := by decide +kernel
theorem dX1_addCount_9 : decode cX1_addCount 9 = .ok (.iconst 1, 1) := by decide +kernel
theorem dX1_addCount_10 : decode cX1_addCount 10 = .ok (.putfield 26, 3) := by decide +kernel
theorem dX1_addCount_13 : decode cX1_addCount 13 = .ok (.aload_n 0, 1) := by decide +kernel
theorem dX1_addCount_14 : decode cX1_addCount 14 = .ok (.getfield 18, 3) := by decide +kernel
theorem dX1_addCount_17 : decode cX1_addCount 17 = .ok (.iload_n 1, 1) := by decide +kernel
theorem dX1_addCount_18 : decode cX1_addCount 18 = .ok (.bipush 40, 2) := by decide +kernel
theorem dX1_addCount_20 : decode cX1_addCount 20 = .ok (.imul, 1) := by decide +kernel
theorem dX1_addCount_21 : decode cX1_addCount 21 = .ok (.iload_n 2, 1) := by decide +kernel
theorem dX1_addCount_22 : decode cX1_addCount 22 = .ok (.iadd, 1) := by decide +kernel
theorem dX1_addCount_23 : decode cX1_addCount 23 = .ok (.dup2, 1) := by decide +kernel
theorem dX1_addCount_24 : decode cX1_addCount 24 = .ok (.iaload, 1) := by decide +kernel
theorem dX1_addCount_25 : decode cX1_addCount 25 = .ok (.iload_n 3, 1) := by decide +kernel
theorem dX1_addCount_26 : decode cX1_addCount 26 = .ok (.iadd, 1) := by decide +kernel
theorem dX1_addCount_27 : decode cX1_addCount 27 = .ok (.iastore, 1) := by decide +kernel
theorem dX1_addCount_28 : decode cX1_addCount 28 = .ok (.return_, 1) := by decide +kernel
theorem dX1_counted_0 : decode cX1_counted 0 = .ok (.iconst 0, 1) := by decide +kernel
theorem dX1_counted_1 : decode cX1_counted 1 = .ok (.istore 4, 2) := by decide +kernel
theorem dX1_counted_3 : decode cX1_counted 3 = .ok (.iload_n 2, 1) := by decide +kernel
theorem dX1_counted_4 : decode cX1_counted 4 = .ok (.istore 5, 2) := by decide +kernel
theorem dX1_counted_6 : decode cX1_counted 6 = .ok (.iload 5, 2) := by decide +kernel
theorem dX1_counted_8 : decode cX1_counted 8 = .ok (.iload_n 3, 1) := by decide +kernel
theorem dX1_counted_9 : decode cX1_counted 9 = .ok (.if_icmp .gt 26, 3) := by decide +kernel
theorem dX1_counted_12 : decode cX1_counted 12 = .ok (.iload 4, 2) := by decide +kernel
theorem dX1_counted_14 : decode cX1_counted 14 = .ok (.aload_n 0, 1) := by decide +kernel
theorem dX1_counted_15 : decode cX1_counted 15 = .ok (.getfield 18, 3) := by decide +kernel
theorem dX1_counted_18 : decode cX1_counted 18 = .ok (.iload_n 1, 1) := by decide +kernel
theorem dX1_counted_19 : decode cX1_counted 19 = .ok (.bipush 40, 2) := by decide +kernel
theorem dX1_counted_21 : decode cX1_counted 21 = .ok (.imul, 1) := by decide +kernel
theorem dX1_counted_22 : decode cX1_counted 22 = .ok (.iload 5, 2) := by decide +kernel
theorem dX1_counted_24 : decode cX1_counted 24 = .ok (.iadd, 1) := by decide +kernel
theorem dX1_counted_25 : decode cX1_counted 25 = .ok (.iaload, 1) := by decide +kernel
theorem dX1_counted_26 : decode cX1_counted 26 = .ok (.iadd, 1) := by decide +kernel
theorem dX1_counted_27 : decode cX1_counted 27 = .ok (.istore 4, 2) := by decide +kernel
theorem dX1_counted_29 : decode cX1_counted 29 = .ok (.iinc 5 1, 3) := by decide +kernel
theorem dX1_counted_32 : decode cX1_counted 32 = .ok (.goto (-26), 3) := by decide +kernel
theorem dX1_counted_35 : decode cX1_counted 35 = .ok (.iload 4, 2) := by decide +kernel
theorem dX1_counted_37 : decode cX1_counted 37 = .ok (.ireturn, 1) := by decide +kernel
theorem dX1_calledAround_0 : decode cX1_calledAround 0 = .ok (.aload_n 0, 1) := by decide +kernel
theorem dX1_calledAround_1 : decode cX1_calledAround 1 = .ok (.iload_n 1, 1) := by decide +kernel
theorem dX1_calledAround_2 : decode cX1_calledAround 2 = .ok (.iload_n 2, 1) := by decide +kernel
theorem dX1_calledAround_3 : decode cX1_calledAround 3 = .ok (.bipush 7, 2) := by decide +kernel
theorem dX1_calledAround_5 : decode cX1_calledAround 5 = .ok (.isub, 1) := by decide +kernel
theorem dX1_calledAround_6 : decode cX1_calledAround 6 = .ok (.iconst 0, 1) := by decide +kernel
theorem dX1_calledAround_7 : decode cX1_calledAround 7 = .ok (.invokestatic 37, 3) := by decide +kernel
theorem dX1_calledAround_10 : decode cX1_calledAround 10 = .ok (.iload_n 2, 1) := by decide +kernel
theorem dX1_calledAround_11 : decode cX1_calledAround 11 = .ok (.bipush 39, 2) := by decide +kernel
theorem dX1_calledAround_13 : decode cX1_calledAround 13 = .ok (.invokestatic 43, 3) := by decide +kernel
theorem dX1_calledAround_16 : decode cX1_calledAround 16 = .ok (.invokevirtual 46, 3) := by decide +kernel
theorem dX1_calledAround_19 : decode cX1_calledAround 19 = .ok (.ifCond .le 7, 3) := by decide +kernel
theorem dX1_calledAround_22 : decode cX1_calledAround 22 = .ok (.iconst 1, 1) := by decide +kernel
theorem dX1_calledAround_23 : decode cX1_calledAround 23 = .ok (.goto 4, 3) := by decide +kernel
theorem dX1_calledAround_26 : decode cX1_calledAround 26 = .ok (.iconst 0, 1) := by decide +kernel
theorem dX1_calledAround_27 : decode cX1_calledAround 27 = .ok (.ireturn, 1) := by decide +kernel
theorem dX1_isSilent_0 : decode cX1_isSilent 0 = .ok (.aload_n 0, 1) := by decide +kernel
theorem dX1_isSilent_1 : decode cX1_isSilent 1 = .ok (.getfield 12, 3) := by decide +kernel
theorem dX1_isSilent_4 : decode cX1_isSilent 4 = .ok (.getfield 50, 3) := by decide +kernel
theorem dX1_isSilent_7 : decode cX1_isSilent 7 = .ok (.ifCond .ne 14, 3) := by decide +kernel
theorem dX1_isSilent_10 : decode cX1_isSilent 10 = .ok (.aload_n 0, 1) := by decide +kernel
theorem dX1_isSilent_11 : decode cX1_isSilent 11 = .ok (.getfield 26, 3) := by decide +kernel
theorem dX1_isSilent_14 : decode cX1_isSilent 14 = .ok (.ifCond .ne 7, 3) := by decide +kernel
theorem dX1_isSilent_17 : decode cX1_isSilent 17 = .ok (.iconst 1, 1) := by decide +kernel
theorem dX1_isSilent_18 : decode cX1_isSilent 18 = .ok (.goto 4, 3) := by decide +kernel
theorem dX1_isSilent_21 : decode cX1_isSilent 21 = .ok (.iconst 0, 1) := by decide +kernel
theorem dX1_isSilent_22 : decode cX1_isSilent 22 = .ok (.ireturn, 1) := by decide +kernel
theorem dX2_init_0 : decode cX2_init 0 = .ok (.aload_n 0, 1) := by decide +kernel
theorem dX2_init_1 : decode cX2_init 1 = .ok (.invokespecial 1, 3) := by decide +kernel
theorem dX2_init_4 : decode cX2_init 4 = .ok (.aload_n 0, 1) := by decide +kernel
theorem dX2_init_5 : decode cX2_init 5 = .ok (.iload_n 1, 1) := by decide +kernel
theorem dX2_init_6 : decode cX2_init 6 = .ok (.putfield 7, 3) := by decide +kernel
theorem dX2_init_9 : decode cX2_init 9 = .ok (.aload_n 0, 1) := by decide +kernel
theorem dX2_init_10 : decode cX2_init 10 = .ok (.iload_n 2, 1) := by decide +kernel
theorem dX2_init_11 : decode cX2_init 11 = .ok (.putfield 13, 3) := by decide +kernel
theorem dX2_init_14 : decode cX2_init 14 = .ok (.aload_n 0, 1) := by decide +kernel
theorem dX2_init_15 : decode cX2_init 15 = .ok (.iload_n 3, 1) := by decide +kernel
theorem dX2_init_16 : decode cX2_init 16 = .ok (.putfield 16, 3) := by decide +kernel
theorem dX2_init_19 : decode cX2_init 19 = .ok (.aload_n 0, 1) := by decide +kernel
theorem dX2_init_20 : decode cX2_init 20 = .ok (.iload 4, 2) := by decide +kernel
theorem dX2_init_22 : decode cX2_init 22 = .ok (.putfield 19, 3) := by decide +kernel
theorem dX2_init_25 : decode cX2_init 25 = .ok (.return_, 1) := by decide +kernel
theorem dX3_init_0 : decode cX3_init 0 = .ok (.aload_n 0, 1) := by decide +kernel
theorem dX3_init_1 : decode cX3_init 1 = .ok (.invokespecial 3, 3) := by decide +kernel
theorem dX3_init_4 : decode cX3_init 4 = .ok (.aload_n 0, 1) := by decide +kernel
theorem dX3_init_5 : decode cX3_init 5 = .ok (.bipush 12, 2) := by decide +kernel
theorem dX3_init_7 : decode cX3_init 7 = .ok (.newarray .int, 2) := by decide +kernel
theorem dX3_init_9 : decode cX3_init 9 = .ok (.putfield 9, 3) := by decide +kernel
theorem dX3_init_12 : decode cX3_init 12 = .ok (.aload_n 0, 1) := by decide +kernel
theorem dX3_init_13 : decode cX3_init 13 = .ok (.bipush 12, 2) := by decide +kernel
theorem dX3_init_15 : decode cX3_init 15 = .ok (.newarray .int, 2) := by decide +kernel
theorem dX3_init_17 : decode cX3_init 17 = .ok (.putfield 15, 3) := by decide +kernel
theorem dX3_init_20 : decode cX3_init 20 = .ok (.aload_n 0, 1) := by decide +kernel
theorem dX3_init_21 : decode cX3_init 21 = .ok (.bipush 12, 2) := by decide +kernel
theorem dX3_init_23 : decode cX3_init 23 = .ok (.newarray .int, 2) := by decide +kernel
theorem dX3_init_25 : decode cX3_init 25 = .ok (.putfield 18, 3) := by decide +kernel
theorem dX3_init_28 : decode cX3_init 28 = .ok (.aload_n 0, 1) := by decide +kernel
theorem dX3_init_29 : decode cX3_init 29 = .ok (.bipush 12, 2) := by decide +kernel
theorem dX3_init_31 : decode cX3_init 31 = .ok (.newarray .int, 2) := by decide +kernel
theorem dX3_init_33 : decode cX3_init 33 = .ok (.putfield 21, 3) := by decide +kernel
theorem dX3_init_36 : decode cX3_init 36 = .ok (.aload_n 0, 1) := by decide +kernel
theorem dX3_init_37 : decode cX3_init 37 = .ok (.bipush 12, 2) := by decide +kernel
theorem dX3_init_39 : decode cX3_init 39 = .ok (.newarray .int, 2) := by decide +kernel
theorem dX3_init_41 : decode cX3_init 41 = .ok (.putfield 24, 3) := by decide +kernel
theorem dX3_init_44 : decode cX3_init 44 = .ok (.aload_n 0, 1) := by decide +kernel
theorem dX3_init_45 : decode cX3_init 45 = .ok (.bipush 96, 2) := by decide +kernel
theorem dX3_init_47 : decode cX3_init 47 = .ok (.newarray .int, 2) := by decide +kernel
theorem dX3_init_49 : decode cX3_init 49 = .ok (.putfield 27, 3) := by decide +kernel
theorem dX3_init_52 : decode cX3_init 52 = .ok (.aload_n 0, 1) := by decide +kernel
theorem dX3_init_53 : decode cX3_init 53 = .ok (.iconst 0, 1) := by decide +kernel
theorem dX3_init_54 : decode cX3_init 54 = .ok (.putfield 30, 3) := by decide +kernel
theorem dX3_init_57 : decode cX3_init 57 = .ok (.return_, 1) := by decide +kernel
theorem dX3_has_0 : decode cX3_has 0 = .ok (.iload_n 1, 1) := by decide +kernel
theorem dX3_has_1 : decode cX3_has 1 = .ok (.aload_n 0, 1) := by decide +kernel
theorem dX3_has_2 : decode cX3_has 2 = .ok (.getfield 30, 3) := by decide +kernel
theorem dX3_has_5 : decode cX3_has 5 = .ok (.iconst 1, 1) := by decide +kernel
theorem dX3_has_6 : decode cX3_has 6 = .ok (.isub, 1) := by decide +kernel
theorem dX3_has_7 : decode cX3_has 7 = .ok (.invokestatic 34, 3) := by decide +kernel
theorem dX3_has_10 : decode cX3_has 10 = .ok (.ireturn, 1) := by decide +kernel
theorem dX3_addCall_0 : decode cX3_addCall 0 = .ok (.aload_n 0, 1) := by decide +kernel
theorem dX3_addCall_1 : decode cX3_addCall 1 = .ok (.getfield 30, 3) := by decide +kernel
theorem dX3_addCall_4 : decode cX3_addCall 4 = .ok (.bipush 12, 2) := by decide +kernel
theorem dX3_addCall_6 : decode cX3_addCall 6 = .ok (.if_icmp .lt 6, 3) := by decide +kernel
theorem dX3_addCall_9 : decode cX3_addCall 9 = .ok (.bipush (-3), 2) := by decide +kernel
theorem dX3_addCall_11 : decode cX3_addCall 11 = .ok (.ireturn, 1) := by decide +kernel
theorem dX3_addCall_12 : decode cX3_addCall 12 = .ok (.iconst 0, 1) := by decide +kernel
theorem dX3_addCall_13 : decode cX3_addCall 13 = .ok (.istore_n 3, 1) := by decide +kernel
theorem dX3_addCall_14 : decode cX3_addCall 14 = .ok (.iload_n 3, 1) := by decide +kernel
theorem dX3_addCall_15 : decode cX3_addCall 15 = .ok (.bipush 8, 2) := by decide +kernel
theorem dX3_addCall_17 : decode cX3_addCall 17 = .ok (.if_icmp .ge 29, 3) := by decide +kernel
theorem dX3_addCall_20 : decode cX3_addCall 20 = .ok (.aload_n 0, 1) := by decide +kernel
theorem dX3_addCall_21 : decode cX3_addCall 21 = .ok (.getfield 27, 3) := by decide +kernel
theorem dX3_addCall_24 : decode cX3_addCall 24 = .ok (.aload_n 0, 1) := by decide +kernel
theorem dX3_addCall_25 : decode cX3_addCall 25 = .ok (.getfield 30, 3) := by decide +kernel
theorem dX3_addCall_28 : decode cX3_addCall 28 = .ok (.bipush 8, 2) := by decide +kernel
theorem dX3_addCall_30 : decode cX3_addCall 30 = .ok (.imul, 1) := by decide +kernel
theorem dX3_addCall_31 : decode cX3_addCall 31 = .ok (.iload_n 3, 1) := by decide +kernel
theorem dX3_addCall_32 : decode cX3_addCall 32 = .ok (.iadd, 1) := by decide +kernel
theorem dX3_addCall_33 : decode cX3_addCall 33 = .ok (.iload_n 1, 1) := by decide +kernel
theorem dX3_addCall_34 : decode cX3_addCall 34 = .ok (.bipush 8, 2) := by decide +kernel
theorem dX3_addCall_36 : decode cX3_addCall 36 = .ok (.imul, 1) := by decide +kernel
theorem dX3_addCall_37 : decode cX3_addCall 37 = .ok (.iload_n 3, 1) := by decide +kernel
theorem dX3_addCall_38 : decode cX3_addCall 38 = .ok (.iadd, 1) := by decide +kernel
theorem dX3_addCall_39 : decode cX3_addCall 39 = .ok (.iastore, 1) := by decide +kernel
theorem dX3_addCall_40 : decode cX3_addCall 40 = .ok (.iinc 3 1, 3) := by decide +kernel
theorem dX3_addCall_43 : decode cX3_addCall 43 = .ok (.goto (-29), 3) := by decide +kernel
theorem dX3_addCall_46 : decode cX3_addCall 46 = .ok (.aload_n 0, 1) := by decide +kernel
theorem dX3_addCall_47 : decode cX3_addCall 47 = .ok (.iconst 0, 1) := by decide +kernel
theorem dX3_addCall_48 : decode cX3_addCall 48 = .ok (.iconst 0, 1) := by decide +kernel
theorem dX3_addCall_49 : decode cX3_addCall 49 = .ok (.iconst 0, 1) := by decide +kernel
theorem dX3_addCall_50 : decode cX3_addCall 50 = .ok (.iconst 0, 1) := by decide +kernel
theorem dX3_addCall_51 : decode cX3_addCall 51 = .ok (.iload_n 2, 1) := by decide +kernel
theorem dX3_addCall_52 : decode cX3_addCall 52 = .ok (.invokevirtual 38, 3) := by decide +kernel
theorem dX3_addCall_55 : decode cX3_addCall 55 = .ok (.ireturn, 1) := by decide +kernel
theorem dX3_addWrap_0 : decode cX3_addWrap 0 = .ok (.aload_n 0, 1) := by decide +kernel
theorem dX3_addWrap_1 : decode cX3_addWrap 1 = .ok (.getfield 30, 3) := by decide +kernel
theorem dX3_addWrap_4 : decode cX3_addWrap 4 = .ok (.bipush 12, 2) := by decide +kernel
theorem dX3_addWrap_6 : decode cX3_addWrap 6 = .ok (.if_icmp .lt 6, 3) := by decide +kernel
theorem dX3_addWrap_9 : decode cX3_addWrap 9 = .ok (.bipush (-3), 2) := by decide +kernel
theorem dX3_addWrap_11 : decode cX3_addWrap 11 = .ok (.ireturn, 1) := by decide +kernel
theorem dX3_addWrap_12 : decode cX3_addWrap 12 = .ok (.iconst 0, 1) := by decide +kernel
theorem dX3_addWrap_13 : decode cX3_addWrap 13 = .ok (.istore 4, 2) := by decide +kernel
theorem dX3_addWrap_15 : decode cX3_addWrap 15 = .ok (.iload 4, 2) := by decide +kernel
theorem dX3_addWrap_17 : decode cX3_addWrap 17 = .ok (.bipush 8, 2) := by decide +kernel
theorem dX3_addWrap_19 : decode cX3_addWrap 19 = .ok (.if_icmp .ge 41, 3) := by decide +kernel
theorem dX3_addWrap_22 : decode cX3_addWrap 22 = .ok (.aload_n 0, 1) := by decide +kernel
theorem dX3_addWrap_23 : decode cX3_addWrap 23 = .ok (.getfield 27, 3) := by decide +kernel
theorem dX3_addWrap_26 : decode cX3_addWrap 26 = .ok (.aload_n 0, 1) := by decide +kernel
theorem dX3_addWrap_27 : decode cX3_addWrap 27 = .ok (.getfield 30, 3) := by decide +kernel
theorem dX3_addWrap_30 : decode cX3_addWrap 30 = .ok (.bipush 8, 2) := by decide +kernel
theorem dX3_addWrap_32 : decode cX3_addWrap 32 = .ok (.imul, 1) := by decide +kernel
theorem dX3_addWrap_33 : decode cX3_addWrap 33 = .ok (.iload 4, 2) := by decide +kernel
theorem dX3_addWrap_35 : decode cX3_addWrap 35 = .ok (.iadd, 1) := by decide +kernel
theorem dX3_addWrap_36 : decode cX3_addWrap 36 = .ok (.aload_n 0, 1) := by decide +kernel
theorem dX3_addWrap_37 : decode cX3_addWrap 37 = .ok (.getfield 27, 3) := by decide +kernel
theorem dX3_addWrap_40 : decode cX3_addWrap 40 = .ok (.iload_n 1, 1) := by decide +kernel
theorem dX3_addWrap_41 : decode cX3_addWrap 41 = .ok (.bipush 8, 2) := by decide +kernel
theorem dX3_addWrap_43 : decode cX3_addWrap 43 = .ok (.imul, 1) := by decide +kernel
theorem dX3_addWrap_44 : decode cX3_addWrap 44 = .ok (.iload 4, 2) := by decide +kernel
theorem dX3_addWrap_46 : decode cX3_addWrap 46 = .ok (.iload_n 2, 1) := by decide +kernel
theorem dX3_addWrap_47 : decode cX3_addWrap 47 = .ok (.iadd, 1) := by decide +kernel
theorem dX3_addWrap_48 : decode cX3_addWrap 48 = .ok (.bipush 8, 2) := by decide +kernel
theorem dX3_addWrap_50 : decode cX3_addWrap 50 = .ok (.irem, 1) := by decide +kernel
theorem dX3_addWrap_51 : decode cX3_addWrap 51 = .ok (.iadd, 1) := by decide +kernel
theorem dX3_addWrap_52 : decode cX3_addWrap 52 = .ok (.iaload, 1) := by decide +kernel
theorem dX3_addWrap_53 : decode cX3_addWrap 53 = .ok (.iastore, 1) := by decide +kernel
theorem dX3_addWrap_54 : decode cX3_addWrap 54 = .ok (.iinc 4 1, 3) := by decide +kernel
theorem dX3_addWrap_57 : decode cX3_addWrap 57 = .ok (.goto (-42), 3) := by decide +kernel
theorem dX3_addWrap_60 : decode cX3_addWrap 60 = .ok (.aload_n 0, 1) := by decide +kernel
theorem dX3_addWrap_61 : decode cX3_addWrap 61 = .ok (.iconst 1, 1) := by decide +kernel
theorem dX3_addWrap_62 : decode cX3_addWrap 62 = .ok (.iload_n 1, 1) := by decide +kernel
theorem dX3_addWrap_63 : decode cX3_addWrap 63 = .ok (.iload_n 1, 1) := by decide +kernel
theorem dX3_addWrap_64 : decode cX3_addWrap 64 = .ok (.iload_n 2, 1) := by decide +kernel
theorem dX3_addWrap_65 : decode cX3_addWrap 65 = .ok (.iload_n 3, 1) := by decide +kernel
theorem dX3_addWrap_66 : decode cX3_addWrap 66 = .ok (.invokevirtual 38, 3) := by decide +kernel
theorem dX3_addWrap_69 : decode cX3_addWrap 69 = .ok (.ireturn, 1) := by decide +kernel
theorem dX3_addSplit_0 : decode cX3_addSplit 0 = .ok (.aload_n 0, 1) := by decide +kernel
theorem dX3_addSplit_1 : decode cX3_addSplit 1 = .ok (.getfield 30, 3) := by decide +kernel
theorem dX3_addSplit_4 : decode cX3_addSplit 4 = .ok (.bipush 12, 2) := by decide +kernel
theorem dX3_addSplit_6 : decode cX3_addSplit 6 = .ok (.if_icmp .lt 6, 3) := by decide +kernel
theorem dX3_addSplit_9 : decode cX3_addSplit 9 = .ok (.bipush (-3), 2) := by decide +kernel
theorem dX3_addSplit_11 : decode cX3_addSplit 11 = .ok (.ireturn, 1) := by decide +kernel
theorem dX3_addSplit_12 : decode cX3_addSplit 12 = .ok (.iconst 0, 1) := by decide +kernel
theorem dX3_addSplit_13 : decode cX3_addSplit 13 = .ok (.istore 5, 2) := by decide +kernel
theorem dX3_addSplit_15 : decode cX3_addSplit 15 = .ok (.iload 5, 2) := by decide +kernel
theorem dX3_addSplit_17 : decode cX3_addSplit 17 = .ok (.bipush 8, 2) := by decide +kernel
theorem dX3_addSplit_19 : decode cX3_addSplit 19 = .ok (.if_icmp .ge 46, 3) := by decide +kernel
theorem dX3_addSplit_22 : decode cX3_addSplit 22 = .ok (.aload_n 0, 1) := by decide +kernel
theorem dX3_addSplit_23 : decode cX3_addSplit 23 = .ok (.getfield 27, 3) := by decide +kernel
theorem dX3_addSplit_26 : decode cX3_addSplit 26 = .ok (.aload_n 0, 1) := by decide +kernel
theorem dX3_addSplit_27 : decode cX3_addSplit 27 = .ok (.getfield 30, 3) := by decide +kernel
theorem dX3_addSplit_30 : decode cX3_addSplit 30 = .ok (.bipush 8, 2) := by decide +kernel
theorem dX3_addSplit_32 : decode cX3_addSplit 32 = .ok (.imul, 1) := by decide +kernel
theorem dX3_addSplit_33 : decode cX3_addSplit 33 = .ok (.iload 5, 2) := by decide +kernel
theorem dX3_addSplit_35 : decode cX3_addSplit 35 = .ok (.iadd, 1) := by decide +kernel
theorem dX3_addSplit_36 : decode cX3_addSplit 36 = .ok (.aload_n 0, 1) := by decide +kernel
theorem dX3_addSplit_37 : decode cX3_addSplit 37 = .ok (.getfield 27, 3) := by decide +kernel
theorem dX3_addSplit_40 : decode cX3_addSplit 40 = .ok (.iload 5, 2) := by decide +kernel
theorem dX3_addSplit_42 : decode cX3_addSplit 42 = .ok (.iload_n 3, 1) := by decide +kernel
theorem dX3_addSplit_43 : decode cX3_addSplit 43 = .ok (.if_icmp .ge 7, 3) := by decide +kernel
theorem dX3_addSplit_46 : decode cX3_addSplit 46 = .ok (.iload_n 1, 1) := by decide +kernel
theorem dX3_addSplit_47 : decode cX3_addSplit 47 = .ok (.goto 4, 3) := by decide +kernel
theorem dX3_addSplit_50 : decode cX3_addSplit 50 = .ok (.iload_n 2, 1) := by decide +kernel
theorem dX3_addSplit_51 : decode cX3_addSplit 51 = .ok (.bipush 8, 2) := by decide +kernel
theorem dX3_addSplit_53 : decode cX3_addSplit 53 = .ok (.imul, 1) := by decide +kernel
theorem dX3_addSplit_54 : decode cX3_addSplit 54 = .ok (.iload 5, 2) := by decide +kernel
theorem dX3_addSplit_56 : decode cX3_addSplit 56 = .ok (.iadd, 1) := by decide +kernel
theorem dX3_addSplit_57 : decode cX3_addSplit 57 = .ok (.iaload, 1) := by decide +kernel
theorem dX3_addSplit_58 : decode cX3_addSplit 58 = .ok (.iastore, 1) := by decide +kernel
theorem dX3_addSplit_59 : decode cX3_addSplit 59 = .ok (.iinc 5 1, 3) := by decide +kernel
theorem dX3_addSplit_62 : decode cX3_addSplit 62 = .ok (.goto (-47), 3) := by decide +kernel
theorem dX3_addSplit_65 : decode cX3_addSplit 65 = .ok (.aload_n 0, 1) := by decide +kernel
theorem dX3_addSplit_66 : decode cX3_addSplit 66 = .ok (.iconst 2, 1) := by decide +kernel
theorem dX3_addSplit_67 : decode cX3_addSplit 67 = .ok (.iload_n 1, 1) := by decide +kernel
theorem dX3_addSplit_68 : decode cX3_addSplit 68 = .ok (.iload_n 2, 1) := by decide +kernel
theorem dX3_addSplit_69 : decode cX3_addSplit 69 = .ok (.iload_n 3, 1) := by decide +kernel
theorem dX3_addSplit_70 : decode cX3_addSplit 70 = .ok (.iload 4, 2) := by decide +kernel
theorem dX3_addSplit_72 : decode cX3_addSplit 72 = .ok (.invokevirtual 38, 3) := by decide +kernel
theorem dX3_addSplit_75 : decode cX3_addSplit 75 = .ok (.ireturn, 1) := by decide +kernel
theorem dX3_added_0 : decode cX3_added 0 = .ok (.aload_n 0, 1) := by decide +kernel
theorem dX3_added_1 : decode cX3_added 1 = .ok (.getfield 9, 3) := by decide +kernel
theorem dX3_added_4 : decode cX3_added 4 = .ok (.aload_n 0, 1) := by decide +kernel
theorem dX3_added_5 : decode cX3_added 5 = .ok (.getfield 30, 3) := by decide +kernel
theorem dX3_added_8 : decode cX3_added 8 = .ok (.iload_n 1, 1) := by decide +kernel
theorem dX3_added_9 : decode cX3_added 9 = .ok (.iastore, 1) := by decide +kernel
theorem dX3_added_10 : decode cX3_added 10 = .ok (.aload_n 0, 1) := by decide +kernel
theorem dX3_added_11 : decode cX3_added 11 = .ok (.getfield 15, 3) := by decide +kernel
theorem dX3_added_14 : decode cX3_added 14 = .ok (.aload_n 0, 1) := by decide +kernel
theorem dX3_added_15 : decode cX3_added 15 = .ok (.getfield 30, 3) := by decide +kernel
theorem dX3_added_18 : decode cX3_added 18 = .ok (.iload_n 2, 1) := by decide +kernel
theorem dX3_added_19 : decode cX3_added 19 = .ok (.iastore, 1) := by decide +kernel
theorem dX3_added_20 : decode cX3_added 20 = .ok (.aload_n 0, 1) := by decide +kernel
theorem dX3_added_21 : decode cX3_added 21 = .ok (.getfield 18, 3) := by decide +kernel
theorem dX3_added_24 : decode cX3_added 24 = .ok (.aload_n 0, 1) := by decide +kernel
theorem dX3_added_25 : decode cX3_added 25 = .ok (.getfield 30, 3) := by decide +kernel
theorem dX3_added_28 : decode cX3_added 28 = .ok (.iload_n 3, 1) := by decide +kernel
theorem dX3_added_29 : decode cX3_added 29 = .ok (.iastore, 1) := by decide +kernel
theorem dX3_added_30 : decode cX3_added 30 = .ok (.aload_n 0, 1) := by decide +kernel
theorem dX3_added_31 : decode cX3_added 31 = .ok (.getfield 21, 3) := by decide +kernel
theorem dX3_added_34 : decode cX3_added 34 = .ok (.aload_n 0, 1) := by decide +kernel
theorem dX3_added_35 : decode cX3_added 35 = .ok (.getfield 30, 3) := by decide +kernel
theorem dX3_added_38 : decode cX3_added 38 = .ok (.iload 4, 2) := by decide +kernel
theorem dX3_added_40 : decode cX3_added 40 = .ok (.iastore, 1) := by decide +kernel
theorem dX3_added_41 : decode cX3_added 41 = .ok (.aload_n 0, 1) := by decide +kernel
theorem dX3_added_42 : decode cX3_added 42 = .ok (.getfield 24, 3) := by decide +kernel
theorem dX3_added_45 : decode cX3_added 45 = .ok (.aload_n 0, 1) := by decide +kernel
theorem dX3_added_46 : decode cX3_added 46 = .ok (.getfield 30, 3) := by decide +kernel
theorem dX3_added_49 : decode cX3_added 49 = .ok (.iload 5, 2) := by decide +kernel
theorem dX3_added_51 : decode cX3_added 51 = .ok (.iastore, 1) := by decide +kernel
theorem dX3_added_52 : decode cX3_added 52 = .ok (.aload_n 0, 1) := by decide +kernel
theorem dX3_added_53 : decode cX3_added 53 = .ok (.dup, 1) := by decide +kernel
theorem dX3_added_54 : decode cX3_added 54 = .ok (.getfield 30, 3) := by decide +kernel
theorem dX3_added_57 : decode cX3_added 57 = .ok (.iconst 1, 1) := by decide +kernel
theorem dX3_added_58 : decode cX3_added 58 = .ok (.iadd, 1) := by decide +kernel
theorem dX3_added_59 : decode cX3_added 59 = .ok (.putfield 30, 3) := by decide +kernel
theorem dX3_added_62 : decode cX3_added 62 = .ok (.aload_n 0, 1) := by decide +kernel
theorem dX3_added_63 : decode cX3_added 63 = .ok (.getfield 30, 3) := by decide +kernel
theorem dX3_added_66 : decode cX3_added 66 = .ok (.iconst 1, 1) := by decide +kernel
theorem dX3_added_67 : decode cX3_added 67 = .ok (.isub, 1) := by decide +kernel
theorem dX3_added_68 : decode cX3_added 68 = .ok (.ireturn, 1) := by decide +kernel
theorem dX3_seenBy_0 : decode cX3_seenBy 0 = .ok (.iconst 0, 1) := by decide +kernel
theorem dX3_seenBy_1 : decode cX3_seenBy 1 = .ok (.istore_n 3, 1) := by decide +kernel
theorem dX3_seenBy_2 : decode cX3_seenBy 2 = .ok (.iconst 0, 1) := by decide +kernel
theorem dX3_seenBy_3 : decode cX3_seenBy 3 = .ok (.istore 4, 2) := by decide +kernel
theorem dX3_seenBy_5 : decode cX3_seenBy 5 = .ok (.iload 4, 2) := by decide +kernel
theorem dX3_seenBy_7 : decode cX3_seenBy 7 = .ok (.bipush 8, 2) := by decide +kernel
theorem dX3_seenBy_9 : decode cX3_seenBy 9 = .ok (.if_icmp .ge 56, 3) := by decide +kernel
theorem dX3_seenBy_12 : decode cX3_seenBy 12 = .ok (.aload_n 0, 1) := by decide +kernel
theorem dX3_seenBy_13 : decode cX3_seenBy 13 = .ok (.getfield 27, 3) := by decide +kernel
theorem dX3_seenBy_16 : decode cX3_seenBy 16 = .ok (.iload_n 1, 1) := by decide +kernel
theorem dX3_seenBy_17 : decode cX3_seenBy 17 = .ok (.bipush 8, 2) := by decide +kernel
theorem dX3_seenBy_19 : decode cX3_seenBy 19 = .ok (.imul, 1) := by decide +kernel
theorem dX3_seenBy_20 : decode cX3_seenBy 20 = .ok (.iload 4, 2) := by decide +kernel
theorem dX3_seenBy_22 : decode cX3_seenBy 22 = .ok (.iadd, 1) := by decide +kernel
theorem dX3_seenBy_23 : decode cX3_seenBy 23 = .ok (.iaload, 1) := by decide +kernel
theorem dX3_seenBy_24 : decode cX3_seenBy 24 = .ok (.istore 5, 2) := by decide +kernel
theorem dX3_seenBy_26 : decode cX3_seenBy 26 = .ok (.aload_n 0, 1) := by decide +kernel
theorem dX3_seenBy_27 : decode cX3_seenBy 27 = .ok (.getfield 24, 3) := by decide +kernel
theorem dX3_seenBy_30 : decode cX3_seenBy 30 = .ok (.iload_n 1, 1) := by decide +kernel
theorem dX3_seenBy_31 : decode cX3_seenBy 31 = .ok (.iaload, 1) := by decide +kernel
theorem dX3_seenBy_32 : decode cX3_seenBy 32 = .ok (.iload 4, 2) := by decide +kernel
theorem dX3_seenBy_34 : decode cX3_seenBy 34 = .ok (.ishr, 1) := by decide +kernel
theorem dX3_seenBy_35 : decode cX3_seenBy 35 = .ok (.iconst 1, 1) := by decide +kernel
theorem dX3_seenBy_36 : decode cX3_seenBy 36 = .ok (.iand, 1) := by decide +kernel
theorem dX3_seenBy_37 : decode cX3_seenBy 37 = .ok (.ifCond .eq 22, 3) := by decide +kernel
theorem dX3_seenBy_40 : decode cX3_seenBy 40 = .ok (.iload 5, 2) := by decide +kernel
theorem dX3_seenBy_42 : decode cX3_seenBy 42 = .ok (.bipush 8, 2) := by decide +kernel
theorem dX3_seenBy_44 : decode cX3_seenBy 44 = .ok (.idiv, 1) := by decide +kernel
theorem dX3_seenBy_45 : decode cX3_seenBy 45 = .ok (.iload_n 2, 1) := by decide +kernel
theorem dX3_seenBy_46 : decode cX3_seenBy 46 = .ok (.if_icmp .ne 13, 3) := by decide +kernel
theorem dX3_seenBy_49 : decode cX3_seenBy 49 = .ok (.iload_n 3, 1) := by decide +kernel
theorem dX3_seenBy_50 : decode cX3_seenBy 50 = .ok (.iconst 1, 1) := by decide +kernel
theorem dX3_seenBy_51 : decode cX3_seenBy 51 = .ok (.iload 5, 2) := by decide +kernel
theorem dX3_seenBy_53 : decode cX3_seenBy 53 = .ok (.bipush 8, 2) := by decide +kernel
theorem dX3_seenBy_55 : decode cX3_seenBy 55 = .ok (.irem, 1) := by decide +kernel
theorem dX3_seenBy_56 : decode cX3_seenBy 56 = .ok (.ishl, 1) := by decide +kernel
theorem dX3_seenBy_57 : decode cX3_seenBy 57 = .ok (.ior, 1) := by decide +kernel
theorem dX3_seenBy_58 : decode cX3_seenBy 58 = .ok (.istore_n 3, 1) := by decide +kernel
theorem dX3_seenBy_59 : decode cX3_seenBy 59 = .ok (.iinc 4 1, 3) := by decide +kernel
theorem dX3_seenBy_62 : decode cX3_seenBy 62 = .ok (.goto (-57), 3) := by decide +kernel
theorem dX3_seenBy_65 : decode cX3_seenBy 65 = .ok (.iload_n 3, 1) := by decide +kernel
theorem dX3_seenBy_66 : decode cX3_seenBy 66 = .ok (.ireturn, 1) := by decide +kernel
theorem dX3_used_0 : decode cX3_used 0 = .ok (.iconst 0, 1) := by decide +kernel
theorem dX3_used_1 : decode cX3_used 1 = .ok (.istore_n 2, 1) := by decide +kernel
theorem dX3_used_2 : decode cX3_used 2 = .ok (.iconst 0, 1) := by decide +kernel
theorem dX3_used_3 : decode cX3_used 3 = .ok (.istore_n 3, 1) := by decide +kernel
theorem dX3_used_4 : decode cX3_used 4 = .ok (.iload_n 3, 1) := by decide +kernel
theorem dX3_used_5 : decode cX3_used 5 = .ok (.aload_n 0, 1) := by decide +kernel
theorem dX3_used_6 : decode cX3_used 6 = .ok (.getfield 30, 3) := by decide +kernel
theorem dX3_used_9 : decode cX3_used 9 = .ok (.if_icmp .ge 18, 3) := by decide +kernel
theorem dX3_used_12 : decode cX3_used 12 = .ok (.iload_n 2, 1) := by decide +kernel
theorem dX3_used_13 : decode cX3_used 13 = .ok (.aload_n 0, 1) := by decide +kernel
theorem dX3_used_14 : decode cX3_used 14 = .ok (.iload_n 3, 1) := by decide +kernel
theorem dX3_used_15 : decode cX3_used 15 = .ok (.iload_n 1, 1) := by decide +kernel
theorem dX3_used_16 : decode cX3_used 16 = .ok (.invokevirtual 42, 3) := by decide +kernel
theorem dX3_used_19 : decode cX3_used 19 = .ok (.ior, 1) := by decide +kernel
theorem dX3_used_20 : decode cX3_used 20 = .ok (.istore_n 2, 1) := by decide +kernel
theorem dX3_used_21 : decode cX3_used 21 = .ok (.iinc 3 1, 3) := by decide +kernel
theorem dX3_used_24 : decode cX3_used 24 = .ok (.goto (-20), 3) := by decide +kernel
theorem dX3_used_27 : decode cX3_used 27 = .ok (.iload_n 2, 1) := by decide +kernel
theorem dX3_used_28 : decode cX3_used 28 = .ok (.ireturn, 1) := by decide +kernel
theorem dX3_someSeesOnly_0 : decode cX3_someSeesOnly 0 = .ok (.iconst 0, 1) := by decide +kernel
theorem dX3_someSeesOnly_1 : decode cX3_someSeesOnly 1 = .ok (.istore_n 3, 1) := by decide +kernel
theorem dX3_someSeesOnly_2 : decode cX3_someSeesOnly 2 = .ok (.iload_n 3, 1) := by decide +kernel
theorem dX3_someSeesOnly_3 : decode cX3_someSeesOnly 3 = .ok (.aload_n 0, 1) := by decide +kernel
theorem dX3_someSeesOnly_4 : decode cX3_someSeesOnly 4 = .ok (.getfield 30, 3) := by decide +kernel
theorem dX3_someSeesOnly_7 : decode cX3_someSeesOnly 7 = .ok (.if_icmp .ge 33, 3) := by decide +kernel
theorem dX3_someSeesOnly_10 : decode cX3_someSeesOnly 10 = .ok (.aload_n 0, 1) := by decide +kernel
theorem dX3_someSeesOnly_11 : decode cX3_someSeesOnly 11 = .ok (.iload_n 3, 1) := by decide +kernel
theorem dX3_someSeesOnly_12 : decode cX3_someSeesOnly 12 = .ok (.iload_n 1, 1) := by decide +kernel
theorem dX3_someSeesOnly_13 : decode cX3_someSeesOnly 13 = .ok (.invokevirtual 42, 3) := by decide +kernel
theorem dX3_someSeesOnly_16 : decode cX3_someSeesOnly 16 = .ok (.istore 4, 2) := by decide +kernel
theorem dX3_someSeesOnly_18 : decode cX3_someSeesOnly 18 = .ok (.iload 4, 2) := by decide +kernel
theorem dX3_someSeesOnly_20 : decode cX3_someSeesOnly 20 = .ok (.ifCond .eq 14, 3) := by decide +kernel
theorem dX3_someSeesOnly_23 : decode cX3_someSeesOnly 23 = .ok (.iload 4, 2) := by decide +kernel
theorem dX3_someSeesOnly_25 : decode cX3_someSeesOnly 25 = .ok (.iload_n 2, 1) := by decide +kernel
theorem dX3_someSeesOnly_26 : decode cX3_someSeesOnly 26 = .ok (.iconst (-1), 1) := by decide +kernel
theorem dX3_someSeesOnly_27 : decode cX3_someSeesOnly 27 = .ok (.ixor, 1) := by decide +kernel
theorem dX3_someSeesOnly_28 : decode cX3_someSeesOnly 28 = .ok (.iand, 1) := by decide +kernel
theorem dX3_someSeesOnly_29 : decode cX3_someSeesOnly 29 = .ok (.ifCond .ne 5, 3) := by decide +kernel
theorem dX3_someSeesOnly_32 : decode cX3_someSeesOnly 32 = .ok (.iconst 1, 1) := by decide +kernel
theorem dX3_someSeesOnly_33 : decode cX3_someSeesOnly 33 = .ok (.ireturn, 1) := by decide +kernel
theorem dX3_someSeesOnly_34 : decode cX3_someSeesOnly 34 = .ok (.iinc 3 1, 3) := by decide +kernel
theorem dX3_someSeesOnly_37 : decode cX3_someSeesOnly 37 = .ok (.goto (-35), 3) := by decide +kernel
theorem dX3_someSeesOnly_40 : decode cX3_someSeesOnly 40 = .ok (.iconst 0, 1) := by decide +kernel
theorem dX3_someSeesOnly_41 : decode cX3_someSeesOnly 41 = .ok (.ireturn, 1) := by decide +kernel
theorem dX3_stepsOf_0 : decode cX3_stepsOf 0 = .ok (.aload_n 0, 1) := by decide +kernel
theorem dX3_stepsOf_1 : decode cX3_stepsOf 1 = .ok (.iload_n 1, 1) := by decide +kernel
theorem dX3_stepsOf_2 : decode cX3_stepsOf 2 = .ok (.aload_n 0, 1) := by decide +kernel
theorem dX3_stepsOf_3 : decode cX3_stepsOf 3 = .ok (.getfield 24, 3) := by decide +kernel
theorem dX3_stepsOf_6 : decode cX3_stepsOf 6 = .ok (.iload_n 1, 1) := by decide +kernel
theorem dX3_stepsOf_7 : decode cX3_stepsOf 7 = .ok (.iaload, 1) := by decide +kernel
theorem dX3_stepsOf_8 : decode cX3_stepsOf 8 = .ok (.iconst 0, 1) := by decide +kernel
theorem dX3_stepsOf_9 : decode cX3_stepsOf 9 = .ok (.invokestatic 46, 3) := by decide +kernel
theorem dX3_stepsOf_12 : decode cX3_stepsOf 12 = .ok (.ireturn, 1) := by decide +kernel
theorem dX3_steps_0 : decode cX3_steps 0 = .ok (.iload_n 2, 1) := by decide +kernel
theorem dX3_steps_1 : decode cX3_steps 1 = .ok (.ifCond .eq 17, 3) := by decide +kernel
theorem dX3_steps_4 : decode cX3_steps 4 = .ok (.iload_n 3, 1) := by decide +kernel
theorem dX3_steps_5 : decode cX3_steps 5 = .ok (.bipush 12, 2) := by decide +kernel
theorem dX3_steps_7 : decode cX3_steps 7 = .ok (.if_icmp .ge 11, 3) := by decide +kernel
theorem dX3_steps_10 : decode cX3_steps 10 = .ok (.aload_n 0, 1) := by decide +kernel
theorem dX3_steps_11 : decode cX3_steps 11 = .ok (.iload_n 1, 1) := by decide +kernel
theorem dX3_steps_12 : decode cX3_steps 12 = .ok (.invokevirtual 50, 3) := by decide +kernel
theorem dX3_steps_15 : decode cX3_steps 15 = .ok (.ifCond .ne 5, 3) := by decide +kernel
theorem dX3_steps_18 : decode cX3_steps 18 = .ok (.iconst 0, 1) := by decide +kernel
theorem dX3_steps_19 : decode cX3_steps 19 = .ok (.ireturn, 1) := by decide +kernel
theorem dX3_steps_20 : decode cX3_steps 20 = .ok (.aload_n 0, 1) := by decide +kernel
theorem dX3_steps_21 : decode cX3_steps 21 = .ok (.getfield 21, 3) := by decide +kernel
theorem dX3_steps_24 : decode cX3_steps 24 = .ok (.iload_n 1, 1) := by decide +kernel
theorem dX3_steps_25 : decode cX3_steps 25 = .ok (.iaload, 1) := by decide +kernel
theorem dX3_steps_26 : decode cX3_steps 26 = .ok (.istore 4, 2) := by decide +kernel
theorem dX3_steps_28 : decode cX3_steps 28 = .ok (.aload_n 0, 1) := by decide +kernel
theorem dX3_steps_29 : decode cX3_steps 29 = .ok (.getfield 9, 3) := by decide +kernel
theorem dX3_steps_32 : decode cX3_steps 32 = .ok (.iload_n 1, 1) := by decide +kernel
theorem dX3_steps_33 : decode cX3_steps 33 = .ok (.iaload, 1) := by decide +kernel
theorem dX3_steps_34 : decode cX3_steps 34 = .ok (.lookupswitch 51 #[(0, 26), (1, 28)], 26) := by decide +kernel
theorem dX3_steps_60 : decode cX3_steps 60 = .ok (.iconst 1, 1) := by decide +kernel
theorem dX3_steps_61 : decode cX3_steps 61 = .ok (.ireturn, 1) := by decide +kernel
theorem dX3_steps_62 : decode cX3_steps 62 = .ok (.bipush 10, 2) := by decide +kernel
theorem dX3_steps_64 : decode cX3_steps 64 = .ok (.aload_n 0, 1) := by decide +kernel
theorem dX3_steps_65 : decode cX3_steps 65 = .ok (.aload_n 0, 1) := by decide +kernel
theorem dX3_steps_66 : decode cX3_steps 66 = .ok (.getfield 15, 3) := by decide +kernel
theorem dX3_steps_69 : decode cX3_steps 69 = .ok (.iload_n 1, 1) := by decide +kernel
theorem dX3_steps_70 : decode cX3_steps 70 = .ok (.iaload, 1) := by decide +kernel
theorem dX3_steps_71 : decode cX3_steps 71 = .ok (.iload_n 2, 1) := by decide +kernel
theorem dX3_steps_72 : decode cX3_steps 72 = .ok (.iload 4, 2) := by decide +kernel
theorem dX3_steps_74 : decode cX3_steps 74 = .ok (.invokestatic 54, 3) := by decide +kernel
theorem dX3_steps_77 : decode cX3_steps 77 = .ok (.iload_n 3, 1) := by decide +kernel
theorem dX3_steps_78 : decode cX3_steps 78 = .ok (.iconst 1, 1) := by decide +kernel
theorem dX3_steps_79 : decode cX3_steps 79 = .ok (.iadd, 1) := by decide +kernel
theorem dX3_steps_80 : decode cX3_steps 80 = .ok (.invokestatic 46, 3) := by decide +kernel
theorem dX3_steps_83 : decode cX3_steps 83 = .ok (.iadd, 1) := by decide +kernel
theorem dX3_steps_84 : decode cX3_steps 84 = .ok (.ireturn, 1) := by decide +kernel
theorem dX3_steps_85 : decode cX3_steps 85 = .ok (.iconst 1, 1) := by decide +kernel
theorem dX3_steps_86 : decode cX3_steps 86 = .ok (.iload 4, 2) := by decide +kernel
theorem dX3_steps_88 : decode cX3_steps 88 = .ok (.ishl, 1) := by decide +kernel
theorem dX3_steps_89 : decode cX3_steps 89 = .ok (.iconst 1, 1) := by decide +kernel
theorem dX3_steps_90 : decode cX3_steps 90 = .ok (.isub, 1) := by decide +kernel
theorem dX3_steps_91 : decode cX3_steps 91 = .ok (.istore 5, 2) := by decide +kernel
theorem dX3_steps_93 : decode cX3_steps 93 = .ok (.bipush 100, 2) := by decide +kernel
theorem dX3_steps_95 : decode cX3_steps 95 = .ok (.aload_n 0, 1) := by decide +kernel
theorem dX3_steps_96 : decode cX3_steps 96 = .ok (.aload_n 0, 1) := by decide +kernel
theorem dX3_steps_97 : decode cX3_steps 97 = .ok (.getfield 15, 3) := by decide +kernel
theorem dX3_steps_100 : decode cX3_steps 100 = .ok (.iload_n 1, 1) := by decide +kernel
theorem dX3_steps_101 : decode cX3_steps 101 = .ok (.iaload, 1) := by decide +kernel
theorem dX3_steps_102 : decode cX3_steps 102 = .ok (.iload_n 2, 1) := by decide +kernel
theorem dX3_steps_103 : decode cX3_steps 103 = .ok (.iload 5, 2) := by decide +kernel
theorem dX3_steps_105 : decode cX3_steps 105 = .ok (.iand, 1) := by decide +kernel
theorem dX3_steps_106 : decode cX3_steps 106 = .ok (.iload_n 3, 1) := by decide +kernel
theorem dX3_steps_107 : decode cX3_steps 107 = .ok (.iconst 1, 1) := by decide +kernel
theorem dX3_steps_108 : decode cX3_steps 108 = .ok (.iadd, 1) := by decide +kernel
theorem dX3_steps_109 : decode cX3_steps 109 = .ok (.invokestatic 46, 3) := by decide +kernel
theorem dX3_steps_112 : decode cX3_steps 112 = .ok (.iadd, 1) := by decide +kernel
theorem dX3_steps_113 : decode cX3_steps 113 = .ok (.aload_n 0, 1) := by decide +kernel
theorem dX3_steps_114 : decode cX3_steps 114 = .ok (.aload_n 0, 1) := by decide +kernel
theorem dX3_steps_115 : decode cX3_steps 115 = .ok (.getfield 18, 3) := by decide +kernel
theorem dX3_steps_118 : decode cX3_steps 118 = .ok (.iload_n 1, 1) := by decide +kernel
theorem dX3_steps_119 : decode cX3_steps 119 = .ok (.iaload, 1) := by decide +kernel
theorem dX3_steps_120 : decode cX3_steps 120 = .ok (.iload_n 2, 1) := by decide +kernel
theorem dX3_steps_121 : decode cX3_steps 121 = .ok (.iload 5, 2) := by decide +kernel
theorem dX3_steps_123 : decode cX3_steps 123 = .ok (.iconst (-1), 1) := by decide +kernel
theorem dX3_steps_124 : decode cX3_steps 124 = .ok (.ixor, 1) := by decide +kernel
theorem dX3_steps_125 : decode cX3_steps 125 = .ok (.iand, 1) := by decide +kernel
theorem dX3_steps_126 : decode cX3_steps 126 = .ok (.iload_n 3, 1) := by decide +kernel
theorem dX3_steps_127 : decode cX3_steps 127 = .ok (.iconst 1, 1) := by decide +kernel
theorem dX3_steps_128 : decode cX3_steps 128 = .ok (.iadd, 1) := by decide +kernel
theorem dX3_steps_129 : decode cX3_steps 129 = .ok (.invokestatic 46, 3) := by decide +kernel
theorem dX3_steps_132 : decode cX3_steps 132 = .ok (.iadd, 1) := by decide +kernel
theorem dX3_steps_133 : decode cX3_steps 133 = .ok (.ireturn, 1) := by decide +kernel
theorem dX3_turned_0 : decode cX3_turned 0 = .ok (.iload_n 0, 1) := by decide +kernel
theorem dX3_turned_1 : decode cX3_turned 1 = .ok (.iload_n 1, 1) := by decide +kernel
theorem dX3_turned_2 : decode cX3_turned 2 = .ok (.ishl, 1) := by decide +kernel
theorem dX3_turned_3 : decode cX3_turned 3 = .ok (.iload_n 0, 1) := by decide +kernel
theorem dX3_turned_4 : decode cX3_turned 4 = .ok (.bipush 8, 2) := by decide +kernel
theorem dX3_turned_6 : decode cX3_turned 6 = .ok (.iload_n 1, 1) := by decide +kernel
theorem dX3_turned_7 : decode cX3_turned 7 = .ok (.isub, 1) := by decide +kernel
theorem dX3_turned_8 : decode cX3_turned 8 = .ok (.ishr, 1) := by decide +kernel
theorem dX3_turned_9 : decode cX3_turned 9 = .ok (.ior, 1) := by decide +kernel
theorem dX3_turned_10 : decode cX3_turned 10 = .ok (.sipush 255, 3) := by decide +kernel
theorem dX3_turned_13 : decode cX3_turned 13 = .ok (.iand, 1) := by decide +kernel
theorem dX3_turned_14 : decode cX3_turned 14 = .ok (.ireturn, 1) := by decide +kernel
theorem dX4_init_0 : decode cX4_init 0 = .ok (.aload_n 0, 1) := by decide +kernel
theorem dX4_init_1 : decode cX4_init 1 = .ok (.invokespecial 1, 3) := by decide +kernel
theorem dX4_init_4 : decode cX4_init 4 = .ok (.aload_n 0, 1) := by decide +kernel
theorem dX4_init_5 : decode cX4_init 5 = .ok (.bipush 8, 2) := by decide +kernel
theorem dX4_init_7 : decode cX4_init 7 = .ok (.anewarray 9, 3) := by decide +kernel
theorem dX4_init_10 : decode cX4_init 10 = .ok (.putfield 11, 3) := by decide +kernel
theorem dX4_init_13 : decode cX4_init 13 = .ok (.aload_n 0, 1) := by decide +kernel
theorem dX4_init_14 : decode cX4_init 14 = .ok (.bipush 6, 2) := by decide +kernel
theorem dX4_init_16 : decode cX4_init 16 = .ok (.anewarray 15, 3) := by decide +kernel
theorem dX4_init_19 : decode cX4_init 19 = .ok (.putfield 17, 3) := by decide +kernel
theorem dX4_init_22 : decode cX4_init 22 = .ok (.aload_n 0, 1) := by decide +kernel
theorem dX4_init_23 : decode cX4_init 23 = .ok (.bipush 12, 2) := by decide +kernel
theorem dX4_init_25 : decode cX4_init 25 = .ok (.anewarray 21, 3) := by decide +kernel
theorem dX4_init_28 : decode cX4_init 28 = .ok (.putfield 23, 3) := by decide +kernel
theorem dX4_init_31 : decode cX4_init 31 = .ok (.aload_n 0, 1) := by decide +kernel
theorem dX4_init_32 : decode cX4_init 32 = .ok (.iconst 0, 1) := by decide +kernel
theorem dX4_init_33 : decode cX4_init 33 = .ok (.putfield 27, 3) := by decide +kernel
theorem dX4_init_36 : decode cX4_init 36 = .ok (.aload_n 0, 1) := by decide +kernel
theorem dX4_init_37 : decode cX4_init 37 = .ok (.iconst 1, 1) := by decide +kernel
theorem dX4_init_38 : decode cX4_init 38 = .ok (.putfield 31, 3) := by decide +kernel
theorem dX4_init_41 : decode cX4_init 41 = .ok (.aload_n 0, 1) := by decide +kernel
theorem dX4_init_42 : decode cX4_init 42 = .ok (.iconst 0, 1) := by decide +kernel
theorem dX4_init_43 : decode cX4_init 43 = .ok (.putfield 34, 3) := by decide +kernel
theorem dX4_init_46 : decode cX4_init 46 = .ok (.aload_n 0, 1) := by decide +kernel
theorem dX4_init_47 : decode cX4_init 47 = .ok (.bipush 100, 2) := by decide +kernel
theorem dX4_init_49 : decode cX4_init 49 = .ok (.putfield 37, 3) := by decide +kernel
theorem dX4_init_52 : decode cX4_init 52 = .ok (.aload_n 0, 1) := by decide +kernel
theorem dX4_init_53 : decode cX4_init 53 = .ok (.lconst 0, 1) := by decide +kernel
theorem dX4_init_54 : decode cX4_init 54 = .ok (.putfield 40, 3) := by decide +kernel
theorem dX4_init_57 : decode cX4_init 57 = .ok (.iconst 0, 1) := by decide +kernel
theorem dX4_init_58 : decode cX4_init 58 = .ok (.istore_n 1, 1) := by decide +kernel
theorem dX4_init_59 : decode cX4_init 59 = .ok (.iload_n 1, 1) := by decide +kernel
theorem dX4_init_60 : decode cX4_init 60 = .ok (.bipush 8, 2) := by decide +kernel
theorem dX4_init_62 : decode cX4_init 62 = .ok (.if_icmp .ge 22, 3) := by decide +kernel
theorem dX4_init_65 : decode cX4_init 65 = .ok (.aload_n 0, 1) := by decide +kernel
theorem dX4_init_66 : decode cX4_init 66 = .ok (.getfield 11, 3) := by decide +kernel
theorem dX4_init_69 : decode cX4_init 69 = .ok (.iload_n 1, 1) := by decide +kernel
theorem dX4_init_70 : decode cX4_init 70 = .ok (.new 9, 3) := by decide +kernel
theorem dX4_init_73 : decode cX4_init 73 = .ok (.dup, 1) := by decide +kernel
theorem dX4_init_74 : decode cX4_init 74 = .ok (.invokespecial 44, 3) := by decide +kernel
theorem dX4_init_77 : decode cX4_init 77 = .ok (.aastore, 1) := by decide +kernel
theorem dX4_init_78 : decode cX4_init 78 = .ok (.iinc 1 1, 3) := by decide +kernel
theorem dX4_init_81 : decode cX4_init 81 = .ok (.goto (-22), 3) := by decide +kernel
theorem dX4_init_84 : decode cX4_init 84 = .ok (.iconst 0, 1) := by decide +kernel
theorem dX4_init_85 : decode cX4_init 85 = .ok (.istore_n 1, 1) := by decide +kernel
theorem dX4_init_86 : decode cX4_init 86 = .ok (.iload_n 1, 1) := by decide +kernel
theorem dX4_init_87 : decode cX4_init 87 = .ok (.bipush 6, 2) := by decide +kernel
theorem dX4_init_89 : decode cX4_init 89 = .ok (.if_icmp .ge 22, 3) := by decide +kernel
theorem dX4_init_92 : decode cX4_init 92 = .ok (.aload_n 0, 1) := by decide +kernel
theorem dX4_init_93 : decode cX4_init 93 = .ok (.getfield 17, 3) := by decide +kernel
theorem dX4_init_96 : decode cX4_init 96 = .ok (.iload_n 1, 1) := by decide +kernel
theorem dX4_init_97 : decode cX4_init 97 = .ok (.new 15, 3) := by decide +kernel
theorem dX4_init_100 : decode cX4_init 100 = .ok (.dup, 1) := by decide +kernel
theorem dX4_init_101 : decode cX4_init 101 = .ok (.invokespecial 45, 3) := by decide +kernel
theorem dX4_init_104 : decode cX4_init 104 = .ok (.aastore, 1) := by decide +kernel
theorem dX4_init_105 : decode cX4_init 105 = .ok (.iinc 1 1, 3) := by decide +kernel
theorem dX4_init_108 : decode cX4_init 108 = .ok (.goto (-22), 3) := by decide +kernel
theorem dX4_init_111 : decode cX4_init 111 = .ok (.return_, 1) := by decide +kernel
theorem dX4_version_0 : decode cX4_version 0 = .ok (.aload_n 0, 1) := by decide +kernel
theorem dX4_version_1 : decode cX4_version 1 = .ok (.getfield 31, 3) := by decide +kernel
theorem dX4_version_4 : decode cX4_version 4 = .ok (.iconst 5, 1) := by decide +kernel
theorem dX4_version_5 : decode cX4_version 5 = .ok (.if_icmp .lt 6, 3) := by decide +kernel
theorem dX4_version_8 : decode cX4_version 8 = .ok (.bipush (-3), 2) := by decide +kernel
theorem dX4_version_10 : decode cX4_version 10 = .ok (.ireturn, 1) := by decide +kernel
theorem dX4_version_11 : decode cX4_version 11 = .ok (.aload_n 0, 1) := by decide +kernel
theorem dX4_version_12 : decode cX4_version 12 = .ok (.getfield 11, 3) := by decide +kernel
theorem dX4_version_15 : decode cX4_version 15 = .ok (.astore_n 1, 1) := by decide +kernel
theorem dX4_version_16 : decode cX4_version 16 = .ok (.aload_n 1, 1) := by decide +kernel
theorem dX4_version_17 : decode cX4_version 17 = .ok (.arraylength, 1) := by decide +kernel
theorem dX4_version_18 : decode cX4_version 18 = .ok (.istore_n 2, 1) := by decide +kernel
theorem dX4_version_19 : decode cX4_version 19 = .ok (.iconst 0, 1) := by decide +kernel
theorem dX4_version_20 : decode cX4_version 20 = .ok (.istore_n 3, 1) := by decide +kernel
theorem dX4_version_21 : decode cX4_version 21 = .ok (.iload_n 3, 1) := by decide +kernel
theorem dX4_version_22 : decode cX4_version 22 = .ok (.iload_n 2, 1) := by decide +kernel
theorem dX4_version_23 : decode cX4_version 23 = .ok (.if_icmp .ge 29, 3) := by decide +kernel
theorem dX4_version_26 : decode cX4_version 26 = .ok (.aload_n 1, 1) := by decide +kernel
theorem dX4_version_27 : decode cX4_version 27 = .ok (.iload_n 3, 1) := by decide +kernel
theorem dX4_version_28 : decode cX4_version 28 = .ok (.aaload, 1) := by decide +kernel
theorem dX4_version_29 : decode cX4_version 29 = .ok (.astore 4, 2) := by decide +kernel
theorem dX4_version_31 : decode cX4_version 31 = .ok (.aload 4, 2) := by decide +kernel
theorem dX4_version_33 : decode cX4_version 33 = .ok (.aload_n 0, 1) := by decide +kernel
theorem dX4_version_34 : decode cX4_version 34 = .ok (.getfield 31, 3) := by decide +kernel
theorem dX4_version_37 : decode cX4_version 37 = .ok (.iconst 1, 1) := by decide +kernel
theorem dX4_version_38 : decode cX4_version 38 = .ok (.isub, 1) := by decide +kernel
theorem dX4_version_39 : decode cX4_version 39 = .ok (.aload_n 0, 1) := by decide +kernel
theorem dX4_version_40 : decode cX4_version 40 = .ok (.getfield 31, 3) := by decide +kernel
theorem dX4_version_43 : decode cX4_version 43 = .ok (.invokevirtual 46, 3) := by decide +kernel
theorem dX4_version_46 : decode cX4_version 46 = .ok (.iinc 3 1, 3) := by decide +kernel
theorem dX4_version_49 : decode cX4_version 49 = .ok (.goto (-28), 3) := by decide +kernel
theorem dX4_version_52 : decode cX4_version 52 = .ok (.aload_n 0, 1) := by decide +kernel
theorem dX4_version_53 : decode cX4_version 53 = .ok (.dup, 1) := by decide +kernel
theorem dX4_version_54 : decode cX4_version 54 = .ok (.getfield 31, 3) := by decide +kernel
theorem dX4_version_57 : decode cX4_version 57 = .ok (.iconst 1, 1) := by decide +kernel
theorem dX4_version_58 : decode cX4_version 58 = .ok (.iadd, 1) := by decide +kernel
theorem dX4_version_59 : decode cX4_version 59 = .ok (.putfield 31, 3) := by decide +kernel
theorem dX4_version_62 : decode cX4_version 62 = .ok (.aload_n 0, 1) := by decide +kernel
theorem dX4_version_63 : decode cX4_version 63 = .ok (.getfield 31, 3) := by decide +kernel
theorem dX4_version_66 : decode cX4_version 66 = .ok (.iconst 1, 1) := by decide +kernel
theorem dX4_version_67 : decode cX4_version 67 = .ok (.isub, 1) := by decide +kernel
theorem dX4_version_68 : decode cX4_version 68 = .ok (.ireturn, 1) := by decide +kernel
theorem dX4_answer_0 : decode cX4_answer 0 = .ok (.aload_n 0, 1) := by decide +kernel
theorem dX4_answer_1 : decode cX4_answer 1 = .ok (.iload_n 1, 1) := by decide +kernel
theorem dX4_answer_2 : decode cX4_answer 2 = .ok (.invokevirtual 50, 3) := by decide +kernel
theorem dX4_answer_5 : decode cX4_answer 5 = .ok (.astore 5, 2) := by decide +kernel
theorem dX4_answer_7 : decode cX4_answer 7 = .ok (.aload 5, 2) := by decide +kernel
theorem dX4_answer_9 : decode cX4_answer 9 = .ok (.ifnull 20, 3) := by decide +kernel
theorem dX4_answer_12 : decode cX4_answer 12 = .ok (.aload_n 0, 1) := by decide +kernel
theorem dX4_answer_13 : decode cX4_answer 13 = .ok (.iload_n 2, 1) := by decide +kernel
theorem dX4_answer_14 : decode cX4_answer 14 = .ok (.invokevirtual 54, 3) := by decide +kernel
theorem dX4_answer_17 : decode cX4_answer 17 = .ok (.ifCond .eq 12, 3) := by decide +kernel
theorem dX4_answer_20 : decode cX4_answer 20 = .ok (.iload_n 3, 1) := by decide +kernel
theorem dX4_answer_21 : decode cX4_answer 21 = .ok (.bipush 7, 2) := by decide +kernel
theorem dX4_answer_23 : decode cX4_answer 23 = .ok (.invokestatic 58, 3) := by decide +kernel
theorem dX4_answer_26 : decode cX4_answer 26 = .ok (.ifCond .ne 6, 3) := by decide +kernel
theorem dX4_answer_29 : decode cX4_answer 29 = .ok (.bipush (-2), 2) := by decide +kernel
theorem dX4_answer_31 : decode cX4_answer 31 = .ok (.ireturn, 1) := by decide +kernel
theorem dX4_answer_32 : decode cX4_answer 32 = .ok (.iload 4, 2) := by decide +kernel
theorem dX4_answer_34 : decode cX4_answer 34 = .ok (.bipush (-9), 2) := by decide +kernel
theorem dX4_answer_36 : decode cX4_answer 36 = .ok (.if_icmp .eq 16, 3) := by decide +kernel
theorem dX4_answer_39 : decode cX4_answer 39 = .ok (.iload 4, 2) := by decide +kernel
theorem dX4_answer_41 : decode cX4_answer 41 = .ok (.bipush 9, 2) := by decide +kernel
theorem dX4_answer_43 : decode cX4_answer 43 = .ok (.invokestatic 58, 3) := by decide +kernel
theorem dX4_answer_46 : decode cX4_answer 46 = .ok (.ifCond .ne 6, 3) := by decide +kernel
theorem dX4_answer_49 : decode cX4_answer 49 = .ok (.bipush (-2), 2) := by decide +kernel
theorem dX4_answer_51 : decode cX4_answer 51 = .ok (.ireturn, 1) := by decide +kernel
theorem dX4_answer_52 : decode cX4_answer 52 = .ok (.aload 5, 2) := by decide +kernel
theorem dX4_answer_54 : decode cX4_answer 54 = .ok (.iload_n 2, 1) := by decide +kernel
theorem dX4_answer_55 : decode cX4_answer 55 = .ok (.iload_n 3, 1) := by decide +kernel
theorem dX4_answer_56 : decode cX4_answer 56 = .ok (.invokevirtual 62, 3) := by decide +kernel
theorem dX4_answer_59 : decode cX4_answer 59 = .ok (.istore 6, 2) := by decide +kernel
theorem dX4_answer_61 : decode cX4_answer 61 = .ok (.aload 5, 2) := by decide +kernel
theorem dX4_answer_63 : decode cX4_answer 63 = .ok (.getfield 66, 3) := by decide +kernel
theorem dX4_answer_66 : decode cX4_answer 66 = .ok (.iload_n 2, 1) := by decide +kernel
theorem dX4_answer_67 : decode cX4_answer 67 = .ok (.bipush 8, 2) := by decide +kernel
theorem dX4_answer_69 : decode cX4_answer 69 = .ok (.imul, 1) := by decide +kernel
theorem dX4_answer_70 : decode cX4_answer 70 = .ok (.iload_n 3, 1) := by decide +kernel
theorem dX4_answer_71 : decode cX4_answer 71 = .ok (.iadd, 1) := by decide +kernel
theorem dX4_answer_72 : decode cX4_answer 72 = .ok (.iload 4, 2) := by decide +kernel
theorem dX4_answer_74 : decode cX4_answer 74 = .ok (.iastore, 1) := by decide +kernel
theorem dX4_answer_75 : decode cX4_answer 75 = .ok (.iload 6, 2) := by decide +kernel
theorem dX4_answer_77 : decode cX4_answer 77 = .ok (.ireturn, 1) := by decide +kernel
theorem dX4_differ_0 : decode cX4_differ 0 = .ok (.aload_n 0, 1) := by decide +kernel
theorem dX4_differ_1 : decode cX4_differ 1 = .ok (.iload_n 1, 1) := by decide +kernel
theorem dX4_differ_2 : decode cX4_differ 2 = .ok (.invokevirtual 50, 3) := by decide +kernel
theorem dX4_differ_5 : decode cX4_differ 5 = .ok (.astore 4, 2) := by decide +kernel
theorem dX4_differ_7 : decode cX4_differ 7 = .ok (.aload 4, 2) := by decide +kernel
theorem dX4_differ_9 : decode cX4_differ 9 = .ok (.ifnull 19, 3) := by decide +kernel
theorem dX4_differ_12 : decode cX4_differ 12 = .ok (.aload_n 0, 1) := by decide +kernel
theorem dX4_differ_13 : decode cX4_differ 13 = .ok (.iload_n 2, 1) := by decide +kernel
theorem dX4_differ_14 : decode cX4_differ 14 = .ok (.invokevirtual 54, 3) := by decide +kernel
theorem dX4_differ_17 : decode cX4_differ 17 = .ok (.ifCond .eq 11, 3) := by decide +kernel
theorem dX4_differ_20 : decode cX4_differ 20 = .ok (.aload_n 0, 1) := by decide +kernel
theorem dX4_differ_21 : decode cX4_differ 21 = .ok (.iload_n 3, 1) := by decide +kernel
theorem dX4_differ_22 : decode cX4_differ 22 = .ok (.invokevirtual 54, 3) := by decide +kernel
theorem dX4_differ_25 : decode cX4_differ 25 = .ok (.ifCond .ne 5, 3) := by decide +kernel
theorem dX4_differ_28 : decode cX4_differ 28 = .ok (.iconst (-1), 1) := by decide +kernel
theorem dX4_differ_29 : decode cX4_differ 29 = .ok (.ireturn, 1) := by decide +kernel
theorem dX4_differ_30 : decode cX4_differ 30 = .ok (.aload 4, 2) := by decide +kernel
theorem dX4_differ_32 : decode cX4_differ 32 = .ok (.iload_n 2, 1) := by decide +kernel
theorem dX4_differ_33 : decode cX4_differ 33 = .ok (.iload_n 3, 1) := by decide +kernel
theorem dX4_differ_34 : decode cX4_differ 34 = .ok (.invokevirtual 70, 3) := by decide +kernel
theorem dX4_differ_37 : decode cX4_differ 37 = .ok (.ireturn, 1) := by decide +kernel
theorem dX4_goes_0 : decode cX4_goes 0 = .ok (.aload_n 0, 1) := by decide +kernel
theorem dX4_goes_1 : decode cX4_goes 1 = .ok (.iload_n 1, 1) := by decide +kernel
theorem dX4_goes_2 : decode cX4_goes 2 = .ok (.invokevirtual 73, 3) := by decide +kernel
theorem dX4_goes_5 : decode cX4_goes 5 = .ok (.astore_n 3, 1) := by decide +kernel
theorem dX4_goes_6 : decode cX4_goes 6 = .ok (.aload_n 3, 1) := by decide +kernel
theorem dX4_goes_7 : decode cX4_goes 7 = .ok (.ifnull 11, 3) := by decide +kernel
theorem dX4_goes_10 : decode cX4_goes 10 = .ok (.aload_n 0, 1) := by decide +kernel
theorem dX4_goes_11 : decode cX4_goes 11 = .ok (.iload_n 2, 1) := by decide +kernel
theorem dX4_goes_12 : decode cX4_goes 12 = .ok (.invokevirtual 54, 3) := by decide +kernel
theorem dX4_goes_15 : decode cX4_goes 15 = .ok (.ifCond .ne 5, 3) := by decide +kernel
theorem dX4_goes_18 : decode cX4_goes 18 = .ok (.iconst (-1), 1) := by decide +kernel
theorem dX4_goes_19 : decode cX4_goes 19 = .ok (.ireturn, 1) := by decide +kernel
theorem dX4_goes_20 : decode cX4_goes 20 = .ok (.aload_n 3, 1) := by decide +kernel
theorem dX4_goes_21 : decode cX4_goes 21 = .ok (.getfield 77, 3) := by decide +kernel
theorem dX4_goes_24 : decode cX4_goes 24 = .ok (.istore 4, 2) := by decide +kernel
theorem dX4_goes_26 : decode cX4_goes 26 = .ok (.aload_n 3, 1) := by decide +kernel
theorem dX4_goes_27 : decode cX4_goes 27 = .ok (.iload_n 2, 1) := by decide +kernel
theorem dX4_goes_28 : decode cX4_goes 28 = .ok (.putfield 77, 3) := by decide +kernel
theorem dX4_goes_31 : decode cX4_goes 31 = .ok (.iload 4, 2) := by decide +kernel
theorem dX4_goes_33 : decode cX4_goes 33 = .ok (.ireturn, 1) := by decide +kernel
theorem dX4_call_0 : decode cX4_call 0 = .ok (.aload_n 0, 1) := by decide +kernel
theorem dX4_call_1 : decode cX4_call 1 = .ok (.iload_n 1, 1) := by decide +kernel
theorem dX4_call_2 : decode cX4_call 2 = .ok (.invokevirtual 73, 3) := by decide +kernel
theorem dX4_call_5 : decode cX4_call 5 = .ok (.astore 4, 2) := by decide +kernel
theorem dX4_call_7 : decode cX4_call 7 = .ok (.aload 4, 2) := by decide +kernel
theorem dX4_call_9 : decode cX4_call 9 = .ok (.ifnull 20, 3) := by decide +kernel
theorem dX4_call_12 : decode cX4_call 12 = .ok (.iload_n 2, 1) := by decide +kernel
theorem dX4_call_13 : decode cX4_call 13 = .ok (.invokestatic 80, 3) := by decide +kernel
theorem dX4_call_16 : decode cX4_call 16 = .ok (.ifCond .eq 13, 3) := by decide +kernel
theorem dX4_call_19 : decode cX4_call 19 = .ok (.iload_n 3, 1) := by decide +kernel
theorem dX4_call_20 : decode cX4_call 20 = .ok (.sipush 255, 3) := by decide +kernel
theorem dX4_call_23 : decode cX4_call 23 = .ok (.invokestatic 58, 3) := by decide +kernel
theorem dX4_call_26 : decode cX4_call 26 = .ok (.ifCond .ne 5, 3) := by decide +kernel
theorem dX4_call_29 : decode cX4_call 29 = .ok (.iconst (-1), 1) := by decide +kernel
theorem dX4_call_30 : decode cX4_call 30 = .ok (.ireturn, 1) := by decide +kernel
theorem dX4_call_31 : decode cX4_call 31 = .ok (.aload 4, 2) := by decide +kernel
theorem dX4_call_33 : decode cX4_call 33 = .ok (.getfield 83, 3) := by decide +kernel
theorem dX4_call_36 : decode cX4_call 36 = .ok (.iload_n 2, 1) := by decide +kernel
theorem dX4_call_37 : decode cX4_call 37 = .ok (.iload_n 3, 1) := by decide +kernel
theorem dX4_call_38 : decode cX4_call 38 = .ok (.invokevirtual 87, 3) := by decide +kernel
theorem dX4_call_41 : decode cX4_call 41 = .ok (.ireturn, 1) := by decide +kernel
theorem dX4_wrap_0 : decode cX4_wrap 0 = .ok (.aload_n 0, 1) := by decide +kernel
theorem dX4_wrap_1 : decode cX4_wrap 1 = .ok (.iload_n 1, 1) := by decide +kernel
theorem dX4_wrap_2 : decode cX4_wrap 2 = .ok (.invokevirtual 73, 3) := by decide +kernel
theorem dX4_wrap_5 : decode cX4_wrap 5 = .ok (.astore 5, 2) := by decide +kernel
theorem dX4_wrap_7 : decode cX4_wrap 7 = .ok (.aload 5, 2) := by decide +kernel
theorem dX4_wrap_9 : decode cX4_wrap 9 = .ok (.ifnull 35, 3) := by decide +kernel
theorem dX4_wrap_12 : decode cX4_wrap 12 = .ok (.aload 5, 2) := by decide +kernel
theorem dX4_wrap_14 : decode cX4_wrap 14 = .ok (.getfield 83, 3) := by decide +kernel
theorem dX4_wrap_17 : decode cX4_wrap 17 = .ok (.iload_n 2, 1) := by decide +kernel
theorem dX4_wrap_18 : decode cX4_wrap 18 = .ok (.invokevirtual 92, 3) := by decide +kernel
theorem dX4_wrap_21 : decode cX4_wrap 21 = .ok (.ifCond .eq 23, 3) := by decide +kernel
theorem dX4_wrap_24 : decode cX4_wrap 24 = .ok (.iload_n 3, 1) := by decide +kernel
theorem dX4_wrap_25 : decode cX4_wrap 25 = .ok (.bipush 7, 2) := by decide +kernel
theorem dX4_wrap_27 : decode cX4_wrap 27 = .ok (.invokestatic 58, 3) := by decide +kernel
theorem dX4_wrap_30 : decode cX4_wrap 30 = .ok (.ifCond .eq 14, 3) := by decide +kernel
theorem dX4_wrap_33 : decode cX4_wrap 33 = .ok (.iload 4, 2) := by decide +kernel
theorem dX4_wrap_35 : decode cX4_wrap 35 = .ok (.sipush 255, 3) := by decide +kernel
theorem dX4_wrap_38 : decode cX4_wrap 38 = .ok (.invokestatic 58, 3) := by decide +kernel
theorem dX4_wrap_41 : decode cX4_wrap 41 = .ok (.ifCond .ne 5, 3) := by decide +kernel
theorem dX4_wrap_44 : decode cX4_wrap 44 = .ok (.iconst (-1), 1) := by decide +kernel
theorem dX4_wrap_45 : decode cX4_wrap 45 = .ok (.ireturn, 1) := by decide +kernel
theorem dX4_wrap_46 : decode cX4_wrap 46 = .ok (.aload 5, 2) := by decide +kernel
theorem dX4_wrap_48 : decode cX4_wrap 48 = .ok (.getfield 83, 3) := by decide +kernel
theorem dX4_wrap_51 : decode cX4_wrap 51 = .ok (.iload_n 2, 1) := by decide +kernel
theorem dX4_wrap_52 : decode cX4_wrap 52 = .ok (.iload_n 3, 1) := by decide +kernel
theorem dX4_wrap_53 : decode cX4_wrap 53 = .ok (.iload 4, 2) := by decide +kernel
theorem dX4_wrap_55 : decode cX4_wrap 55 = .ok (.invokevirtual 95, 3) := by decide +kernel
theorem dX4_wrap_58 : decode cX4_wrap 58 = .ok (.ireturn, 1) := by decide +kernel
theorem dX4_split_0 : decode cX4_split 0 = .ok (.aload_n 0, 1) := by decide +kernel
theorem dX4_split_1 : decode cX4_split 1 = .ok (.iload_n 1, 1) := by decide +kernel
theorem dX4_split_2 : decode cX4_split 2 = .ok (.invokevirtual 73, 3) := by decide +kernel
theorem dX4_split_5 : decode cX4_split 5 = .ok (.astore 6, 2) := by decide +kernel
theorem dX4_split_7 : decode cX4_split 7 = .ok (.aload 6, 2) := by decide +kernel
theorem dX4_split_9 : decode cX4_split 9 = .ok (.ifnull 27, 3) := by decide +kernel
theorem dX4_split_12 : decode cX4_split 12 = .ok (.aload 6, 2) := by decide +kernel
theorem dX4_split_14 : decode cX4_split 14 = .ok (.getfield 83, 3) := by decide +kernel
theorem dX4_split_17 : decode cX4_split 17 = .ok (.iload_n 2, 1) := by decide +kernel
theorem dX4_split_18 : decode cX4_split 18 = .ok (.invokevirtual 92, 3) := by decide +kernel
theorem dX4_split_21 : decode cX4_split 21 = .ok (.ifCond .eq 15, 3) := by decide +kernel
theorem dX4_split_24 : decode cX4_split 24 = .ok (.aload 6, 2) := by decide +kernel
theorem dX4_split_26 : decode cX4_split 26 = .ok (.getfield 83, 3) := by decide +kernel
theorem dX4_split_29 : decode cX4_split 29 = .ok (.iload_n 3, 1) := by decide +kernel
theorem dX4_split_30 : decode cX4_split 30 = .ok (.invokevirtual 92, 3) := by decide +kernel
theorem dX4_split_33 : decode cX4_split 33 = .ok (.ifCond .ne 5, 3) := by decide +kernel
theorem dX4_split_36 : decode cX4_split 36 = .ok (.iconst (-1), 1) := by decide +kernel
theorem dX4_split_37 : decode cX4_split 37 = .ok (.ireturn, 1) := by decide +kernel
theorem dX4_split_38 : decode cX4_split 38 = .ok (.iload 4, 2) := by decide +kernel
theorem dX4_split_40 : decode cX4_split 40 = .ok (.iconst 1, 1) := by decide +kernel
theorem dX4_split_41 : decode cX4_split 41 = .ok (.if_icmp .lt 21, 3) := by decide +kernel
theorem dX4_split_44 : decode cX4_split 44 = .ok (.iload 4, 2) := by decide +kernel
theorem dX4_split_46 : decode cX4_split 46 = .ok (.bipush 7, 2) := by decide +kernel
theorem dX4_split_48 : decode cX4_split 48 = .ok (.if_icmp .gt 14, 3) := by decide +kernel
theorem dX4_split_51 : decode cX4_split 51 = .ok (.iload 5, 2) := by decide +kernel
theorem dX4_split_53 : decode cX4_split 53 = .ok (.sipush 255, 3) := by decide +kernel
theorem dX4_split_56 : decode cX4_split 56 = .ok (.invokestatic 58, 3) := by decide +kernel
theorem dX4_split_59 : decode cX4_split 59 = .ok (.ifCond .ne 5, 3) := by decide +kernel
theorem dX4_split_62 : decode cX4_split 62 = .ok (.iconst (-1), 1) := by decide +kernel
theorem dX4_split_63 : decode cX4_split 63 = .ok (.ireturn, 1) := by decide +kernel
theorem dX4_split_64 : decode cX4_split 64 = .ok (.aload 6, 2) := by decide +kernel
theorem dX4_split_66 : decode cX4_split 66 = .ok (.getfield 83, 3) := by decide +kernel
theorem dX4_split_69 : decode cX4_split 69 = .ok (.iload_n 2, 1) := by decide +kernel
theorem dX4_split_70 : decode cX4_split 70 = .ok (.iload_n 3, 1) := by decide +kernel
theorem dX4_split_71 : decode cX4_split 71 = .ok (.iload 4, 2) := by decide +kernel
theorem dX4_split_73 : decode cX4_split 73 = .ok (.iload 5, 2) := by decide +kernel
theorem dX4_split_75 : decode cX4_split 75 = .ok (.invokevirtual 99, 3) := by decide +kernel
theorem dX4_split_78 : decode cX4_split 78 = .ok (.ireturn, 1) := by decide +kernel
theorem dX4_clear_0 : decode cX4_clear 0 = .ok (.aload_n 0, 1) := by decide +kernel
theorem dX4_clear_1 : decode cX4_clear 1 = .ok (.iload_n 1, 1) := by decide +kernel
theorem dX4_clear_2 : decode cX4_clear 2 = .ok (.invokevirtual 73, 3) := by decide +kernel
theorem dX4_clear_5 : decode cX4_clear 5 = .ok (.astore_n 2, 1) := by decide +kernel
theorem dX4_clear_6 : decode cX4_clear 6 = .ok (.aload_n 2, 1) := by decide +kernel
theorem dX4_clear_7 : decode cX4_clear 7 = .ok (.ifnonnull 5, 3) := by decide +kernel
theorem dX4_clear_10 : decode cX4_clear 10 = .ok (.iconst (-1), 1) := by decide +kernel
theorem dX4_clear_11 : decode cX4_clear 11 = .ok (.ireturn, 1) := by decide +kernel
theorem dX4_clear_12 : decode cX4_clear 12 = .ok (.aload_n 2, 1) := by decide +kernel
theorem dX4_clear_13 : decode cX4_clear 13 = .ok (.getfield 83, 3) := by decide +kernel
theorem dX4_clear_16 : decode cX4_clear 16 = .ok (.getfield 103, 3) := by decide +kernel
theorem dX4_clear_19 : decode cX4_clear 19 = .ok (.istore_n 3, 1) := by decide +kernel
theorem dX4_clear_20 : decode cX4_clear 20 = .ok (.aload_n 2, 1) := by decide +kernel
theorem dX4_clear_21 : decode cX4_clear 21 = .ok (.getfield 83, 3) := by decide +kernel
theorem dX4_clear_24 : decode cX4_clear 24 = .ok (.iconst 0, 1) := by decide +kernel
theorem dX4_clear_25 : decode cX4_clear 25 = .ok (.putfield 103, 3) := by decide +kernel
theorem dX4_clear_28 : decode cX4_clear 28 = .ok (.iload_n 3, 1) := by decide +kernel
theorem dX4_clear_29 : decode cX4_clear 29 = .ok (.ireturn, 1) := by decide +kernel
theorem dX4_sees_0 : decode cX4_sees 0 = .ok (.aload_n 0, 1) := by decide +kernel
theorem dX4_sees_1 : decode cX4_sees 1 = .ok (.iload_n 1, 1) := by decide +kernel
theorem dX4_sees_2 : decode cX4_sees 2 = .ok (.invokevirtual 73, 3) := by decide +kernel
theorem dX4_sees_5 : decode cX4_sees 5 = .ok (.astore 4, 2) := by decide +kernel
theorem dX4_sees_7 : decode cX4_sees 7 = .ok (.aload 4, 2) := by decide +kernel
theorem dX4_sees_9 : decode cX4_sees 9 = .ok (.ifnull 22, 3) := by decide +kernel
theorem dX4_sees_12 : decode cX4_sees 12 = .ok (.aload 4, 2) := by decide +kernel
theorem dX4_sees_14 : decode cX4_sees 14 = .ok (.getfield 83, 3) := by decide +kernel
theorem dX4_sees_17 : decode cX4_sees 17 = .ok (.iload_n 2, 1) := by decide +kernel
theorem dX4_sees_18 : decode cX4_sees 18 = .ok (.invokevirtual 92, 3) := by decide +kernel
theorem dX4_sees_21 : decode cX4_sees 21 = .ok (.ifCond .eq 10, 3) := by decide +kernel
theorem dX4_sees_24 : decode cX4_sees 24 = .ok (.iload_n 3, 1) := by decide +kernel
theorem dX4_sees_25 : decode cX4_sees 25 = .ok (.invokestatic 80, 3) := by decide +kernel
theorem dX4_sees_28 : decode cX4_sees 28 = .ok (.ifCond .ne 5, 3) := by decide +kernel
theorem dX4_sees_31 : decode cX4_sees 31 = .ok (.iconst (-1), 1) := by decide +kernel
theorem dX4_sees_32 : decode cX4_sees 32 = .ok (.ireturn, 1) := by decide +kernel
theorem dX4_sees_33 : decode cX4_sees 33 = .ok (.aload_n 0, 1) := by decide +kernel
theorem dX4_sees_34 : decode cX4_sees 34 = .ok (.dup, 1) := by decide +kernel
theorem dX4_sees_35 : decode cX4_sees 35 = .ok (.getfield 40, 3) := by decide +kernel
theorem dX4_sees_38 : decode cX4_sees 38 = .ok (.aload 4, 2) := by decide +kernel
theorem dX4_sees_40 : decode cX4_sees 40 = .ok (.getfield 83, 3) := by decide +kernel
theorem dX4_sees_43 : decode cX4_sees 43 = .ok (.iload_n 2, 1) := by decide +kernel
theorem dX4_sees_44 : decode cX4_sees 44 = .ok (.invokevirtual 106, 3) := by decide +kernel
theorem dX4_sees_47 : decode cX4_sees 47 = .ok (.i2l, 1) := by decide +kernel
theorem dX4_sees_48 : decode cX4_sees 48 = .ok (.ladd, 1) := by decide +kernel
theorem dX4_sees_49 : decode cX4_sees 49 = .ok (.putfield 40, 3) := by decide +kernel
theorem dX4_sees_52 : decode cX4_sees 52 = .ok (.aload 4, 2) := by decide +kernel
theorem dX4_sees_54 : decode cX4_sees 54 = .ok (.getfield 83, 3) := by decide +kernel
theorem dX4_sees_57 : decode cX4_sees 57 = .ok (.iload_n 2, 1) := by decide +kernel
theorem dX4_sees_58 : decode cX4_sees 58 = .ok (.iload_n 3, 1) := by decide +kernel
theorem dX4_sees_59 : decode cX4_sees 59 = .ok (.invokevirtual 110, 3) := by decide +kernel
theorem dX4_sees_62 : decode cX4_sees 62 = .ok (.ireturn, 1) := by decide +kernel
theorem dX4_uses_0 : decode cX4_uses 0 = .ok (.aload_n 0, 1) := by decide +kernel
theorem dX4_uses_1 : decode cX4_uses 1 = .ok (.iload_n 1, 1) := by decide +kernel
theorem dX4_uses_2 : decode cX4_uses 2 = .ok (.invokevirtual 73, 3) := by decide +kernel
theorem dX4_uses_5 : decode cX4_uses 5 = .ok (.astore_n 3, 1) := by decide +kernel
theorem dX4_uses_6 : decode cX4_uses 6 = .ok (.aload_n 3, 1) := by decide +kernel
theorem dX4_uses_7 : decode cX4_uses 7 = .ok (.ifnull 10, 3) := by decide +kernel
theorem dX4_uses_10 : decode cX4_uses 10 = .ok (.iload_n 2, 1) := by decide +kernel
theorem dX4_uses_11 : decode cX4_uses 11 = .ok (.invokestatic 80, 3) := by decide +kernel
theorem dX4_uses_14 : decode cX4_uses 14 = .ok (.ifCond .ne 5, 3) := by decide +kernel
theorem dX4_uses_17 : decode cX4_uses 17 = .ok (.iconst (-1), 1) := by decide +kernel
theorem dX4_uses_18 : decode cX4_uses 18 = .ok (.ireturn, 1) := by decide +kernel
theorem dX4_uses_19 : decode cX4_uses 19 = .ok (.aload_n 3, 1) := by decide +kernel
theorem dX4_uses_20 : decode cX4_uses 20 = .ok (.getfield 83, 3) := by decide +kernel
theorem dX4_uses_23 : decode cX4_uses 23 = .ok (.iload_n 2, 1) := by decide +kernel
theorem dX4_uses_24 : decode cX4_uses 24 = .ok (.invokevirtual 113, 3) := by decide +kernel
theorem dX4_uses_27 : decode cX4_uses 27 = .ok (.ireturn, 1) := by decide +kernel
theorem dX4_shape_0 : decode cX4_shape 0 = .ok (.aload_n 0, 1) := by decide +kernel
theorem dX4_shape_1 : decode cX4_shape 1 = .ok (.iload_n 1, 1) := by decide +kernel
theorem dX4_shape_2 : decode cX4_shape 2 = .ok (.invokevirtual 73, 3) := by decide +kernel
theorem dX4_shape_5 : decode cX4_shape 5 = .ok (.astore_n 3, 1) := by decide +kernel
theorem dX4_shape_6 : decode cX4_shape 6 = .ok (.aload_n 3, 1) := by decide +kernel
theorem dX4_shape_7 : decode cX4_shape 7 = .ok (.ifnull 10, 3) := by decide +kernel
theorem dX4_shape_10 : decode cX4_shape 10 = .ok (.iload_n 2, 1) := by decide +kernel
theorem dX4_shape_11 : decode cX4_shape 11 = .ok (.invokestatic 80, 3) := by decide +kernel
theorem dX4_shape_14 : decode cX4_shape 14 = .ok (.ifCond .ne 5, 3) := by decide +kernel
theorem dX4_shape_17 : decode cX4_shape 17 = .ok (.iconst (-1), 1) := by decide +kernel
theorem dX4_shape_18 : decode cX4_shape 18 = .ok (.ireturn, 1) := by decide +kernel
theorem dX4_shape_19 : decode cX4_shape 19 = .ok (.aload_n 3, 1) := by decide +kernel
theorem dX4_shape_20 : decode cX4_shape 20 = .ok (.getfield 83, 3) := by decide +kernel
theorem dX4_shape_23 : decode cX4_shape 23 = .ok (.iload_n 2, 1) := by decide +kernel
theorem dX4_shape_24 : decode cX4_shape 24 = .ok (.invokevirtual 113, 3) := by decide +kernel
theorem dX4_shape_27 : decode cX4_shape 27 = .ok (.invokestatic 116, 3) := by decide +kernel
theorem dX4_shape_30 : decode cX4_shape 30 = .ok (.istore 4, 2) := by decide +kernel
theorem dX4_shape_32 : decode cX4_shape 32 = .ok (.iload 4, 2) := by decide +kernel
theorem dX4_shape_34 : decode cX4_shape 34 = .ok (.ifCond .ne 5, 3) := by decide +kernel
theorem dX4_shape_37 : decode cX4_shape 37 = .ok (.iconst 0, 1) := by decide +kernel
theorem dX4_shape_38 : decode cX4_shape 38 = .ok (.ireturn, 1) := by decide +kernel
theorem dX4_shape_39 : decode cX4_shape 39 = .ok (.iload 4, 2) := by decide +kernel
theorem dX4_shape_41 : decode cX4_shape 41 = .ok (.iconst 1, 1) := by decide +kernel
theorem dX4_shape_42 : decode cX4_shape 42 = .ok (.if_icmp .ne 5, 3) := by decide +kernel
theorem dX4_shape_45 : decode cX4_shape 45 = .ok (.iconst 1, 1) := by decide +kernel
theorem dX4_shape_46 : decode cX4_shape 46 = .ok (.ireturn, 1) := by decide +kernel
theorem dX4_shape_47 : decode cX4_shape 47 = .ok (.iload 4, 2) := by decide +kernel
theorem dX4_shape_49 : decode cX4_shape 49 = .ok (.bipush 8, 2) := by decide +kernel
theorem dX4_shape_51 : decode cX4_shape 51 = .ok (.if_icmp .ge 7, 3) := by decide +kernel
theorem dX4_shape_54 : decode cX4_shape 54 = .ok (.iconst 2, 1) := by decide +kernel
theorem dX4_shape_55 : decode cX4_shape 55 = .ok (.goto 4, 3) := by decide +kernel
theorem dX4_shape_58 : decode cX4_shape 58 = .ok (.iconst 3, 1) := by decide +kernel
theorem dX4_shape_59 : decode cX4_shape 59 = .ok (.ireturn, 1) := by decide +kernel
theorem dX4_count_0 : decode cX4_count 0 = .ok (.aload_n 0, 1) := by decide +kernel
theorem dX4_count_1 : decode cX4_count 1 = .ok (.iload_n 1, 1) := by decide +kernel
theorem dX4_count_2 : decode cX4_count 2 = .ok (.invokevirtual 73, 3) := by decide +kernel
theorem dX4_count_5 : decode cX4_count 5 = .ok (.astore 6, 2) := by decide +kernel
theorem dX4_count_7 : decode cX4_count 7 = .ok (.aload_n 0, 1) := by decide +kernel
theorem dX4_count_8 : decode cX4_count 8 = .ok (.iload_n 2, 1) := by decide +kernel
theorem dX4_count_9 : decode cX4_count 9 = .ok (.invokevirtual 50, 3) := by decide +kernel
theorem dX4_count_12 : decode cX4_count 12 = .ok (.astore 7, 2) := by decide +kernel
theorem dX4_count_14 : decode cX4_count 14 = .ok (.aload 6, 2) := by decide +kernel
theorem dX4_count_16 : decode cX4_count 16 = .ok (.ifnull 23, 3) := by decide +kernel
theorem dX4_count_19 : decode cX4_count 19 = .ok (.aload 7, 2) := by decide +kernel
theorem dX4_count_21 : decode cX4_count 21 = .ok (.ifnull 18, 3) := by decide +kernel
theorem dX4_count_24 : decode cX4_count 24 = .ok (.iload_n 3, 1) := by decide +kernel
theorem dX4_count_25 : decode cX4_count 25 = .ok (.invokestatic 121, 3) := by decide +kernel
theorem dX4_count_28 : decode cX4_count 28 = .ok (.ifCond .eq 11, 3) := by decide +kernel
theorem dX4_count_31 : decode cX4_count 31 = .ok (.iload_n 3, 1) := by decide +kernel
theorem dX4_count_32 : decode cX4_count 32 = .ok (.aload_n 0, 1) := by decide +kernel
theorem dX4_count_33 : decode cX4_count 33 = .ok (.getfield 34, 3) := by decide +kernel
theorem dX4_count_36 : decode cX4_count 36 = .ok (.if_icmp .le 5, 3) := by decide +kernel
theorem dX4_count_39 : decode cX4_count 39 = .ok (.iconst (-1), 1) := by decide +kernel
theorem dX4_count_40 : decode cX4_count 40 = .ok (.ireturn, 1) := by decide +kernel
theorem dX4_count_41 : decode cX4_count 41 = .ok (.iload 4, 2) := by decide +kernel
theorem dX4_count_43 : decode cX4_count 43 = .ok (.sipush 1000, 3) := by decide +kernel
theorem dX4_count_46 : decode cX4_count 46 = .ok (.invokestatic 58, 3) := by decide +kernel
theorem dX4_count_49 : decode cX4_count 49 = .ok (.ifCond .eq 13, 3) := by decide +kernel
theorem dX4_count_52 : decode cX4_count 52 = .ok (.iload 5, 2) := by decide +kernel
theorem dX4_count_54 : decode cX4_count 54 = .ok (.bipush 99, 2) := by decide +kernel
theorem dX4_count_56 : decode cX4_count 56 = .ok (.invokestatic 58, 3) := by decide +kernel
theorem dX4_count_59 : decode cX4_count 59 = .ok (.ifCond .ne 5, 3) := by decide +kernel
theorem dX4_count_62 : decode cX4_count 62 = .ok (.iconst (-1), 1) := by decide +kernel
theorem dX4_count_63 : decode cX4_count 63 = .ok (.ireturn, 1) := by decide +kernel
theorem dX4_count_64 : decode cX4_count 64 = .ok (.aload 6, 2) := by decide +kernel
theorem dX4_count_66 : decode cX4_count 66 = .ok (.getfield 124, 3) := by decide +kernel
theorem dX4_count_69 : decode cX4_count 69 = .ok (.iload 5, 2) := by decide +kernel
theorem dX4_count_71 : decode cX4_count 71 = .ok (.baload, 1) := by decide +kernel
theorem dX4_count_72 : decode cX4_count 72 = .ok (.ifCond .eq 5, 3) := by decide +kernel
theorem dX4_count_75 : decode cX4_count 75 = .ok (.iconst 0, 1) := by decide +kernel
theorem dX4_count_76 : decode cX4_count 76 = .ok (.ireturn, 1) := by decide +kernel
theorem dX4_count_77 : decode cX4_count 77 = .ok (.aload 6, 2) := by decide +kernel
theorem dX4_count_79 : decode cX4_count 79 = .ok (.iload_n 2, 1) := by decide +kernel
theorem dX4_count_80 : decode cX4_count 80 = .ok (.iload_n 3, 1) := by decide +kernel
theorem dX4_count_81 : decode cX4_count 81 = .ok (.iload 4, 2) := by decide +kernel
theorem dX4_count_83 : decode cX4_count 83 = .ok (.iload 5, 2) := by decide +kernel
theorem dX4_count_85 : decode cX4_count 85 = .ok (.invokevirtual 128, 3) := by decide +kernel
theorem dX4_count_88 : decode cX4_count 88 = .ok (.iload 4, 2) := by decide +kernel
theorem dX4_count_90 : decode cX4_count 90 = .ok (.ifCond .le 30, 3) := by decide +kernel
theorem dX4_count_93 : decode cX4_count 93 = .ok (.aload 7, 2) := by decide +kernel
theorem dX4_count_95 : decode cX4_count 95 = .ok (.iload_n 3, 1) := by decide +kernel
theorem dX4_count_96 : decode cX4_count 96 = .ok (.invokevirtual 132, 3) := by decide +kernel
theorem dX4_count_99 : decode cX4_count 99 = .ok (.ifCond .eq 21, 3) := by decide +kernel
theorem dX4_count_102 : decode cX4_count 102 = .ok (.aload 7, 2) := by decide +kernel
theorem dX4_count_104 : decode cX4_count 104 = .ok (.bipush (-9), 2) := by decide +kernel
theorem dX4_count_106 : decode cX4_count 106 = .ok (.putfield 135, 3) := by decide +kernel
theorem dX4_count_109 : decode cX4_count 109 = .ok (.aload 7, 2) := by decide +kernel
theorem dX4_count_111 : decode cX4_count 111 = .ok (.dup, 1) := by decide +kernel
theorem dX4_count_112 : decode cX4_count 112 = .ok (.getfield 138, 3) := by decide +kernel
theorem dX4_count_115 : decode cX4_count 115 = .ok (.iconst 1, 1) := by decide +kernel
theorem dX4_count_116 : decode cX4_count 116 = .ok (.iadd, 1) := by decide +kernel
theorem dX4_count_117 : decode cX4_count 117 = .ok (.putfield 138, 3) := by decide +kernel
theorem dX4_count_120 : decode cX4_count 120 = .ok (.iconst 1, 1) := by decide +kernel
theorem dX4_count_121 : decode cX4_count 121 = .ok (.ireturn, 1) := by decide +kernel
theorem dX4_sum_0 : decode cX4_sum 0 = .ok (.aload_n 0, 1) := by decide +kernel
theorem dX4_sum_1 : decode cX4_sum 1 = .ok (.iload_n 1, 1) := by decide +kernel
theorem dX4_sum_2 : decode cX4_sum 2 = .ok (.invokevirtual 73, 3) := by decide +kernel
theorem dX4_sum_5 : decode cX4_sum 5 = .ok (.astore 5, 2) := by decide +kernel
theorem dX4_sum_7 : decode cX4_sum 7 = .ok (.aload 5, 2) := by decide +kernel
theorem dX4_sum_9 : decode cX4_sum 9 = .ok (.ifnull 19, 3) := by decide +kernel
theorem dX4_sum_12 : decode cX4_sum 12 = .ok (.iload_n 2, 1) := by decide +kernel
theorem dX4_sum_13 : decode cX4_sum 13 = .ok (.invokestatic 80, 3) := by decide +kernel
theorem dX4_sum_16 : decode cX4_sum 16 = .ok (.ifCond .eq 12, 3) := by decide +kernel
theorem dX4_sum_19 : decode cX4_sum 19 = .ok (.iload_n 3, 1) := by decide +kernel
theorem dX4_sum_20 : decode cX4_sum 20 = .ok (.iload 4, 2) := by decide +kernel
theorem dX4_sum_22 : decode cX4_sum 22 = .ok (.invokestatic 141, 3) := by decide +kernel
theorem dX4_sum_25 : decode cX4_sum 25 = .ok (.ifCond .ne 5, 3) := by decide +kernel
theorem dX4_sum_28 : decode cX4_sum 28 = .ok (.iconst (-1), 1) := by decide +kernel
theorem dX4_sum_29 : decode cX4_sum 29 = .ok (.ireturn, 1) := by decide +kernel
theorem dX4_sum_30 : decode cX4_sum 30 = .ok (.aload 5, 2) := by decide +kernel
theorem dX4_sum_32 : decode cX4_sum 32 = .ok (.iload_n 2, 1) := by decide +kernel
theorem dX4_sum_33 : decode cX4_sum 33 = .ok (.iload_n 3, 1) := by decide +kernel
theorem dX4_sum_34 : decode cX4_sum 34 = .ok (.iload 4, 2) := by decide +kernel
theorem dX4_sum_36 : decode cX4_sum 36 = .ok (.invokevirtual 144, 3) := by decide +kernel
theorem dX4_sum_39 : decode cX4_sum 39 = .ok (.ireturn, 1) := by decide +kernel
theorem dX4_silent_0 : decode cX4_silent 0 = .ok (.aload_n 0, 1) := by decide +kernel
theorem dX4_silent_1 : decode cX4_silent 1 = .ok (.iload_n 1, 1) := by decide +kernel
theorem dX4_silent_2 : decode cX4_silent 2 = .ok (.invokevirtual 73, 3) := by decide +kernel
theorem dX4_silent_5 : decode cX4_silent 5 = .ok (.astore_n 2, 1) := by decide +kernel
theorem dX4_silent_6 : decode cX4_silent 6 = .ok (.aload_n 2, 1) := by decide +kernel
theorem dX4_silent_7 : decode cX4_silent 7 = .ok (.ifnonnull 5, 3) := by decide +kernel
theorem dX4_silent_10 : decode cX4_silent 10 = .ok (.iconst (-1), 1) := by decide +kernel
theorem dX4_silent_11 : decode cX4_silent 11 = .ok (.ireturn, 1) := by decide +kernel
theorem dX4_silent_12 : decode cX4_silent 12 = .ok (.aload_n 2, 1) := by decide +kernel
theorem dX4_silent_13 : decode cX4_silent 13 = .ok (.invokevirtual 147, 3) := by decide +kernel
theorem dX4_silent_16 : decode cX4_silent 16 = .ok (.ifCond .eq 7, 3) := by decide +kernel
theorem dX4_silent_19 : decode cX4_silent 19 = .ok (.iconst 1, 1) := by decide +kernel
theorem dX4_silent_20 : decode cX4_silent 20 = .ok (.goto 4, 3) := by decide +kernel
theorem dX4_silent_23 : decode cX4_silent 23 = .ok (.iconst 0, 1) := by decide +kernel
theorem dX4_silent_24 : decode cX4_silent 24 = .ok (.ireturn, 1) := by decide +kernel
theorem dX4_most_0 : decode cX4_most 0 = .ok (.iload_n 1, 1) := by decide +kernel
theorem dX4_most_1 : decode cX4_most 1 = .ok (.invokestatic 80, 3) := by decide +kernel
theorem dX4_most_4 : decode cX4_most 4 = .ok (.ifCond .eq 11, 3) := by decide +kernel
theorem dX4_most_7 : decode cX4_most 7 = .ok (.iload_n 2, 1) := by decide +kernel
theorem dX4_most_8 : decode cX4_most 8 = .ok (.iload_n 3, 1) := by decide +kernel
theorem dX4_most_9 : decode cX4_most 9 = .ok (.invokestatic 141, 3) := by decide +kernel
theorem dX4_most_12 : decode cX4_most 12 = .ok (.ifCond .ne 5, 3) := by decide +kernel
theorem dX4_most_15 : decode cX4_most 15 = .ok (.iconst (-1), 1) := by decide +kernel
theorem dX4_most_16 : decode cX4_most 16 = .ok (.ireturn, 1) := by decide +kernel
theorem dX4_most_17 : decode cX4_most 17 = .ok (.aload_n 0, 1) := by decide +kernel
theorem dX4_most_18 : decode cX4_most 18 = .ok (.invokevirtual 151, 3) := by decide +kernel
theorem dX4_most_21 : decode cX4_most 21 = .ok (.aload_n 0, 1) := by decide +kernel
theorem dX4_most_22 : decode cX4_most 22 = .ok (.getfield 37, 3) := by decide +kernel
theorem dX4_most_25 : decode cX4_most 25 = .ok (.imul, 1) := by decide +kernel
theorem dX4_most_26 : decode cX4_most 26 = .ok (.iload_n 3, 1) := by decide +kernel
theorem dX4_most_27 : decode cX4_most 27 = .ok (.iload_n 2, 1) := by decide +kernel
theorem dX4_most_28 : decode cX4_most 28 = .ok (.isub, 1) := by decide +kernel
theorem dX4_most_29 : decode cX4_most 29 = .ok (.iconst 1, 1) := by decide +kernel
theorem dX4_most_30 : decode cX4_most 30 = .ok (.iadd, 1) := by decide +kernel
theorem dX4_most_31 : decode cX4_most 31 = .ok (.imul, 1) := by decide +kernel
theorem dX4_most_32 : decode cX4_most 32 = .ok (.istore 4, 2) := by decide +kernel
theorem dX4_most_34 : decode cX4_most 34 = .ok (.aload_n 0, 1) := by decide +kernel
theorem dX4_most_35 : decode cX4_most 35 = .ok (.getfield 17, 3) := by decide +kernel
theorem dX4_most_38 : decode cX4_most 38 = .ok (.astore 5, 2) := by decide +kernel
theorem dX4_most_40 : decode cX4_most 40 = .ok (.aload 5, 2) := by decide +kernel
theorem dX4_most_42 : decode cX4_most 42 = .ok (.arraylength, 1) := by decide +kernel
theorem dX4_most_43 : decode cX4_most 43 = .ok (.istore 6, 2) := by decide +kernel
theorem dX4_most_45 : decode cX4_most 45 = .ok (.iconst 0, 1) := by decide +kernel
theorem dX4_most_46 : decode cX4_most 46 = .ok (.istore 7, 2) := by decide +kernel
theorem dX4_most_48 : decode cX4_most 48 = .ok (.iload 7, 2) := by decide +kernel
theorem dX4_most_50 : decode cX4_most 50 = .ok (.iload 6, 2) := by decide +kernel
theorem dX4_most_52 : decode cX4_most 52 = .ok (.if_icmp .ge 29, 3) := by decide +kernel
theorem dX4_most_55 : decode cX4_most 55 = .ok (.aload 5, 2) := by decide +kernel
theorem dX4_most_57 : decode cX4_most 57 = .ok (.iload 7, 2) := by decide +kernel
theorem dX4_most_59 : decode cX4_most 59 = .ok (.aaload, 1) := by decide +kernel
theorem dX4_most_60 : decode cX4_most 60 = .ok (.astore 8, 2) := by decide +kernel
theorem dX4_most_62 : decode cX4_most 62 = .ok (.iload 4, 2) := by decide +kernel
theorem dX4_most_64 : decode cX4_most 64 = .ok (.aload 8, 2) := by decide +kernel
theorem dX4_most_66 : decode cX4_most 66 = .ok (.iload_n 1, 1) := by decide +kernel
theorem dX4_most_67 : decode cX4_most 67 = .ok (.iload_n 2, 1) := by decide +kernel
theorem dX4_most_68 : decode cX4_most 68 = .ok (.iload_n 3, 1) := by decide +kernel
theorem dX4_most_69 : decode cX4_most 69 = .ok (.invokevirtual 144, 3) := by decide +kernel
theorem dX4_most_72 : decode cX4_most 72 = .ok (.iadd, 1) := by decide +kernel
theorem dX4_most_73 : decode cX4_most 73 = .ok (.istore 4, 2) := by decide +kernel
theorem dX4_most_75 : decode cX4_most 75 = .ok (.iinc 7 1, 3) := by decide +kernel
theorem dX4_most_78 : decode cX4_most 78 = .ok (.goto (-30), 3) := by decide +kernel
theorem dX4_most_81 : decode cX4_most 81 = .ok (.iload 4, 2) := by decide +kernel
theorem dX4_most_83 : decode cX4_most 83 = .ok (.ireturn, 1) := by decide +kernel
theorem dX4_harm_0 : decode cX4_harm 0 = .ok (.aload_n 0, 1) := by decide +kernel
theorem dX4_harm_1 : decode cX4_harm 1 = .ok (.iload_n 1, 1) := by decide +kernel
theorem dX4_harm_2 : decode cX4_harm 2 = .ok (.invokevirtual 73, 3) := by decide +kernel
theorem dX4_harm_5 : decode cX4_harm 5 = .ok (.astore 4, 2) := by decide +kernel
theorem dX4_harm_7 : decode cX4_harm 7 = .ok (.aload_n 0, 1) := by decide +kernel
theorem dX4_harm_8 : decode cX4_harm 8 = .ok (.iload_n 2, 1) := by decide +kernel
theorem dX4_harm_9 : decode cX4_harm 9 = .ok (.invokevirtual 50, 3) := by decide +kernel
theorem dX4_harm_12 : decode cX4_harm 12 = .ok (.astore 5, 2) := by decide +kernel
theorem dX4_harm_14 : decode cX4_harm 14 = .ok (.aload 4, 2) := by decide +kernel
theorem dX4_harm_16 : decode cX4_harm 16 = .ok (.ifnull 16, 3) := by decide +kernel
theorem dX4_harm_19 : decode cX4_harm 19 = .ok (.aload 5, 2) := by decide +kernel
theorem dX4_harm_21 : decode cX4_harm 21 = .ok (.ifnull 11, 3) := by decide +kernel
theorem dX4_harm_24 : decode cX4_harm 24 = .ok (.aload_n 0, 1) := by decide +kernel
theorem dX4_harm_25 : decode cX4_harm 25 = .ok (.iload_n 3, 1) := by decide +kernel
theorem dX4_harm_26 : decode cX4_harm 26 = .ok (.invokevirtual 54, 3) := by decide +kernel
theorem dX4_harm_29 : decode cX4_harm 29 = .ok (.ifCond .ne 5, 3) := by decide +kernel
theorem dX4_harm_32 : decode cX4_harm 32 = .ok (.iconst (-1), 1) := by decide +kernel
theorem dX4_harm_33 : decode cX4_harm 33 = .ok (.ireturn, 1) := by decide +kernel
theorem dX4_harm_34 : decode cX4_harm 34 = .ok (.aload 4, 2) := by decide +kernel
theorem dX4_harm_36 : decode cX4_harm 36 = .ok (.invokevirtual 147, 3) := by decide +kernel
theorem dX4_harm_39 : decode cX4_harm 39 = .ok (.ifCond .eq 5, 3) := by decide +kernel
theorem dX4_harm_42 : decode cX4_harm 42 = .ok (.iconst 3, 1) := by decide +kernel
theorem dX4_harm_43 : decode cX4_harm 43 = .ok (.ireturn, 1) := by decide +kernel
theorem dX4_harm_44 : decode cX4_harm 44 = .ok (.aload 5, 2) := by decide +kernel
theorem dX4_harm_46 : decode cX4_harm 46 = .ok (.aload 4, 2) := by decide +kernel
theorem dX4_harm_48 : decode cX4_harm 48 = .ok (.getfield 77, 3) := by decide +kernel
theorem dX4_harm_51 : decode cX4_harm 51 = .ok (.iload_n 3, 1) := by decide +kernel
theorem dX4_harm_52 : decode cX4_harm 52 = .ok (.invokevirtual 70, 3) := by decide +kernel
theorem dX4_harm_55 : decode cX4_harm 55 = .ok (.istore 6, 2) := by decide +kernel
theorem dX4_harm_57 : decode cX4_harm 57 = .ok (.aload 4, 2) := by decide +kernel
theorem dX4_harm_59 : decode cX4_harm 59 = .ok (.getfield 83, 3) := by decide +kernel
theorem dX4_harm_62 : decode cX4_harm 62 = .ok (.iload_n 2, 1) := by decide +kernel
theorem dX4_harm_63 : decode cX4_harm 63 = .ok (.invokevirtual 113, 3) := by decide +kernel
theorem dX4_harm_66 : decode cX4_harm 66 = .ok (.iload 6, 2) := by decide +kernel
theorem dX4_harm_68 : decode cX4_harm 68 = .ok (.iand, 1) := by decide +kernel
theorem dX4_harm_69 : decode cX4_harm 69 = .ok (.ifCond .ne 5, 3) := by decide +kernel
theorem dX4_harm_72 : decode cX4_harm 72 = .ok (.iconst 0, 1) := by decide +kernel
theorem dX4_harm_73 : decode cX4_harm 73 = .ok (.ireturn, 1) := by decide +kernel
theorem dX4_harm_74 : decode cX4_harm 74 = .ok (.aload 4, 2) := by decide +kernel
theorem dX4_harm_76 : decode cX4_harm 76 = .ok (.getfield 83, 3) := by decide +kernel
theorem dX4_harm_79 : decode cX4_harm 79 = .ok (.iload_n 2, 1) := by decide +kernel
theorem dX4_harm_80 : decode cX4_harm 80 = .ok (.iload 6, 2) := by decide +kernel
theorem dX4_harm_82 : decode cX4_harm 82 = .ok (.invokevirtual 155, 3) := by decide +kernel
theorem dX4_harm_85 : decode cX4_harm 85 = .ok (.ifCond .eq 7, 3) := by decide +kernel
theorem dX4_harm_88 : decode cX4_harm 88 = .ok (.iconst 2, 1) := by decide +kernel
theorem dX4_harm_89 : decode cX4_harm 89 = .ok (.goto 4, 3) := by decide +kernel
theorem dX4_harm_92 : decode cX4_harm 92 = .ok (.iconst 1, 1) := by decide +kernel
theorem dX4_harm_93 : decode cX4_harm 93 = .ok (.ireturn, 1) := by decide +kernel
theorem dX4_rule_0 : decode cX4_rule 0 = .ok (.iload_n 1, 1) := by decide +kernel
theorem dX4_rule_1 : decode cX4_rule 1 = .ok (.invokestatic 80, 3) := by decide +kernel
theorem dX4_rule_4 : decode cX4_rule 4 = .ok (.ifCond .eq 20, 3) := by decide +kernel
theorem dX4_rule_7 : decode cX4_rule 7 = .ok (.iload_n 3, 1) := by decide +kernel
theorem dX4_rule_8 : decode cX4_rule 8 = .ok (.invokestatic 80, 3) := by decide +kernel
theorem dX4_rule_11 : decode cX4_rule 11 = .ok (.ifCond .eq 13, 3) := by decide +kernel
theorem dX4_rule_14 : decode cX4_rule 14 = .ok (.iload 4, 2) := by decide +kernel
theorem dX4_rule_16 : decode cX4_rule 16 = .ok (.bipush 7, 2) := by decide +kernel
theorem dX4_rule_18 : decode cX4_rule 18 = .ok (.invokestatic 58, 3) := by decide +kernel
theorem dX4_rule_21 : decode cX4_rule 21 = .ok (.ifCond .ne 5, 3) := by decide +kernel
theorem dX4_rule_24 : decode cX4_rule 24 = .ok (.iconst (-1), 1) := by decide +kernel
theorem dX4_rule_25 : decode cX4_rule 25 = .ok (.ireturn, 1) := by decide +kernel
theorem dX4_rule_26 : decode cX4_rule 26 = .ok (.iload_n 2, 1) := by decide +kernel
theorem dX4_rule_27 : decode cX4_rule 27 = .ok (.ifCond .eq 13, 3) := by decide +kernel
theorem dX4_rule_30 : decode cX4_rule 30 = .ok (.iload_n 2, 1) := by decide +kernel
theorem dX4_rule_31 : decode cX4_rule 31 = .ok (.sipush 255, 3) := by decide +kernel
theorem dX4_rule_34 : decode cX4_rule 34 = .ok (.invokestatic 58, 3) := by decide +kernel
theorem dX4_rule_37 : decode cX4_rule 37 = .ok (.ifCond .ne 5, 3) := by decide +kernel
theorem dX4_rule_40 : decode cX4_rule 40 = .ok (.iconst (-1), 1) := by decide +kernel
theorem dX4_rule_41 : decode cX4_rule 41 = .ok (.ireturn, 1) := by decide +kernel
theorem dX4_rule_42 : decode cX4_rule 42 = .ok (.aload_n 0, 1) := by decide +kernel
theorem dX4_rule_43 : decode cX4_rule 43 = .ok (.getfield 27, 3) := by decide +kernel
theorem dX4_rule_46 : decode cX4_rule 46 = .ok (.bipush 12, 2) := by decide +kernel
theorem dX4_rule_48 : decode cX4_rule 48 = .ok (.if_icmp .lt 6, 3) := by decide +kernel
theorem dX4_rule_51 : decode cX4_rule 51 = .ok (.bipush (-3), 2) := by decide +kernel
theorem dX4_rule_53 : decode cX4_rule 53 = .ok (.ireturn, 1) := by decide +kernel
theorem dX4_rule_54 : decode cX4_rule 54 = .ok (.aload_n 0, 1) := by decide +kernel
theorem dX4_rule_55 : decode cX4_rule 55 = .ok (.getfield 23, 3) := by decide +kernel
theorem dX4_rule_58 : decode cX4_rule 58 = .ok (.aload_n 0, 1) := by decide +kernel
theorem dX4_rule_59 : decode cX4_rule 59 = .ok (.getfield 27, 3) := by decide +kernel
theorem dX4_rule_62 : decode cX4_rule 62 = .ok (.new 21, 3) := by decide +kernel
theorem dX4_rule_65 : decode cX4_rule 65 = .ok (.dup, 1) := by decide +kernel
theorem dX4_rule_66 : decode cX4_rule 66 = .ok (.iload_n 1, 1) := by decide +kernel
theorem dX4_rule_67 : decode cX4_rule 67 = .ok (.iload_n 2, 1) := by decide +kernel
theorem dX4_rule_68 : decode cX4_rule 68 = .ok (.iload_n 3, 1) := by decide +kernel
theorem dX4_rule_69 : decode cX4_rule 69 = .ok (.iload 4, 2) := by decide +kernel
theorem dX4_rule_71 : decode cX4_rule 71 = .ok (.invokespecial 158, 3) := by decide +kernel
theorem dX4_rule_74 : decode cX4_rule 74 = .ok (.aastore, 1) := by decide +kernel
theorem dX4_rule_75 : decode cX4_rule 75 = .ok (.aload_n 0, 1) := by decide +kernel
theorem dX4_rule_76 : decode cX4_rule 76 = .ok (.dup, 1) := by decide +kernel
theorem dX4_rule_77 : decode cX4_rule 77 = .ok (.getfield 27, 3) := by decide +kernel
theorem dX4_rule_80 : decode cX4_rule 80 = .ok (.iconst 1, 1) := by decide +kernel
theorem dX4_rule_81 : decode cX4_rule 81 = .ok (.iadd, 1) := by decide +kernel
theorem dX4_rule_82 : decode cX4_rule 82 = .ok (.putfield 27, 3) := by decide +kernel
theorem dX4_rule_85 : decode cX4_rule 85 = .ok (.aload_n 0, 1) := by decide +kernel
theorem dX4_rule_86 : decode cX4_rule 86 = .ok (.getfield 27, 3) := by decide +kernel
theorem dX4_rule_89 : decode cX4_rule 89 = .ok (.iconst 1, 1) := by decide +kernel
theorem dX4_rule_90 : decode cX4_rule 90 = .ok (.isub, 1) := by decide +kernel
theorem dX4_rule_91 : decode cX4_rule 91 = .ok (.ireturn, 1) := by decide +kernel
theorem dX4_holds_0 : decode cX4_holds 0 = .ok (.aload_n 0, 1) := by decide +kernel
theorem dX4_holds_1 : decode cX4_holds 1 = .ok (.iload_n 1, 1) := by decide +kernel
theorem dX4_holds_2 : decode cX4_holds 2 = .ok (.invokevirtual 160, 3) := by decide +kernel
theorem dX4_holds_5 : decode cX4_holds 5 = .ok (.astore 4, 2) := by decide +kernel
theorem dX4_holds_7 : decode cX4_holds 7 = .ok (.aload 4, 2) := by decide +kernel
theorem dX4_holds_9 : decode cX4_holds 9 = .ok (.ifnull 19, 3) := by decide +kernel
theorem dX4_holds_12 : decode cX4_holds 12 = .ok (.aload_n 0, 1) := by decide +kernel
theorem dX4_holds_13 : decode cX4_holds 13 = .ok (.iload_n 2, 1) := by decide +kernel
theorem dX4_holds_14 : decode cX4_holds 14 = .ok (.invokevirtual 54, 3) := by decide +kernel
theorem dX4_holds_17 : decode cX4_holds 17 = .ok (.ifCond .eq 11, 3) := by decide +kernel
theorem dX4_holds_20 : decode cX4_holds 20 = .ok (.aload_n 0, 1) := by decide +kernel
theorem dX4_holds_21 : decode cX4_holds 21 = .ok (.iload_n 3, 1) := by decide +kernel
theorem dX4_holds_22 : decode cX4_holds 22 = .ok (.invokevirtual 54, 3) := by decide +kernel
theorem dX4_holds_25 : decode cX4_holds 25 = .ok (.ifCond .ne 5, 3) := by decide +kernel
theorem dX4_holds_28 : decode cX4_holds 28 = .ok (.iconst (-1), 1) := by decide +kernel
theorem dX4_holds_29 : decode cX4_holds 29 = .ok (.ireturn, 1) := by decide +kernel
theorem dX4_holds_30 : decode cX4_holds 30 = .ok (.aload_n 0, 1) := by decide +kernel
theorem dX4_holds_31 : decode cX4_holds 31 = .ok (.aload 4, 2) := by decide +kernel
theorem dX4_holds_33 : decode cX4_holds 33 = .ok (.iload_n 2, 1) := by decide +kernel
theorem dX4_holds_34 : decode cX4_holds 34 = .ok (.iload_n 3, 1) := by decide +kernel
theorem dX4_holds_35 : decode cX4_holds 35 = .ok (.invokevirtual 164, 3) := by decide +kernel
theorem dX4_holds_38 : decode cX4_holds 38 = .ok (.ifCond .eq 7, 3) := by decide +kernel
theorem dX4_holds_41 : decode cX4_holds 41 = .ok (.iconst 1, 1) := by decide +kernel
theorem dX4_holds_42 : decode cX4_holds 42 = .ok (.goto 4, 3) := by decide +kernel
theorem dX4_holds_45 : decode cX4_holds 45 = .ok (.iconst 0, 1) := by decide +kernel
theorem dX4_holds_46 : decode cX4_holds 46 = .ok (.ireturn, 1) := by decide +kernel
theorem dX4_clash_0 : decode cX4_clash 0 = .ok (.aload_n 0, 1) := by decide +kernel
theorem dX4_clash_1 : decode cX4_clash 1 = .ok (.iload_n 1, 1) := by decide +kernel
theorem dX4_clash_2 : decode cX4_clash 2 = .ok (.invokevirtual 160, 3) := by decide +kernel
theorem dX4_clash_5 : decode cX4_clash 5 = .ok (.astore_n 3, 1) := by decide +kernel
theorem dX4_clash_6 : decode cX4_clash 6 = .ok (.aload_n 0, 1) := by decide +kernel
theorem dX4_clash_7 : decode cX4_clash 7 = .ok (.iload_n 2, 1) := by decide +kernel
theorem dX4_clash_8 : decode cX4_clash 8 = .ok (.invokevirtual 160, 3) := by decide +kernel
theorem dX4_clash_11 : decode cX4_clash 11 = .ok (.astore 4, 2) := by decide +kernel
theorem dX4_clash_13 : decode cX4_clash 13 = .ok (.aload_n 3, 1) := by decide +kernel
theorem dX4_clash_14 : decode cX4_clash 14 = .ok (.ifnull 8, 3) := by decide +kernel
theorem dX4_clash_17 : decode cX4_clash 17 = .ok (.aload 4, 2) := by decide +kernel
theorem dX4_clash_19 : decode cX4_clash 19 = .ok (.ifnonnull 5, 3) := by decide +kernel
theorem dX4_clash_22 : decode cX4_clash 22 = .ok (.iconst (-1), 1) := by decide +kernel
theorem dX4_clash_23 : decode cX4_clash 23 = .ok (.ireturn, 1) := by decide +kernel
theorem dX4_clash_24 : decode cX4_clash 24 = .ok (.aload_n 3, 1) := by decide +kernel
theorem dX4_clash_25 : decode cX4_clash 25 = .ok (.getfield 168, 3) := by decide +kernel
theorem dX4_clash_28 : decode cX4_clash 28 = .ok (.aload 4, 2) := by decide +kernel
theorem dX4_clash_30 : decode cX4_clash 30 = .ok (.getfield 168, 3) := by decide +kernel
theorem dX4_clash_33 : decode cX4_clash 33 = .ok (.if_icmp .ne 20, 3) := by decide +kernel
theorem dX4_clash_36 : decode cX4_clash 36 = .ok (.aload_n 3, 1) := by decide +kernel
theorem dX4_clash_37 : decode cX4_clash 37 = .ok (.getfield 171, 3) := by decide +kernel
theorem dX4_clash_40 : decode cX4_clash 40 = .ok (.aload 4, 2) := by decide +kernel
theorem dX4_clash_42 : decode cX4_clash 42 = .ok (.getfield 171, 3) := by decide +kernel
theorem dX4_clash_45 : decode cX4_clash 45 = .ok (.iand, 1) := by decide +kernel
theorem dX4_clash_46 : decode cX4_clash 46 = .ok (.ifCond .eq 7, 3) := by decide +kernel
theorem dX4_clash_49 : decode cX4_clash 49 = .ok (.iconst 1, 1) := by decide +kernel
theorem dX4_clash_50 : decode cX4_clash 50 = .ok (.goto 4, 3) := by decide +kernel
theorem dX4_clash_53 : decode cX4_clash 53 = .ok (.iconst 0, 1) := by decide +kernel
theorem dX4_clash_54 : decode cX4_clash 54 = .ok (.istore 5, 2) := by decide +kernel
theorem dX4_clash_56 : decode cX4_clash 56 = .ok (.iload 5, 2) := by decide +kernel
theorem dX4_clash_58 : decode cX4_clash 58 = .ok (.ifCond .eq 31, 3) := by decide +kernel
theorem dX4_clash_61 : decode cX4_clash 61 = .ok (.aload_n 3, 1) := by decide +kernel
theorem dX4_clash_62 : decode cX4_clash 62 = .ok (.getfield 174, 3) := by decide +kernel
theorem dX4_clash_65 : decode cX4_clash 65 = .ok (.aload 4, 2) := by decide +kernel
theorem dX4_clash_67 : decode cX4_clash 67 = .ok (.getfield 174, 3) := by decide +kernel
theorem dX4_clash_70 : decode cX4_clash 70 = .ok (.if_icmp .ne 15, 3) := by decide +kernel
theorem dX4_clash_73 : decode cX4_clash 73 = .ok (.aload_n 3, 1) := by decide +kernel
theorem dX4_clash_74 : decode cX4_clash 74 = .ok (.getfield 177, 3) := by decide +kernel
theorem dX4_clash_77 : decode cX4_clash 77 = .ok (.aload 4, 2) := by decide +kernel
theorem dX4_clash_79 : decode cX4_clash 79 = .ok (.getfield 177, 3) := by decide +kernel
theorem dX4_clash_82 : decode cX4_clash 82 = .ok (.if_icmp .eq 7, 3) := by decide +kernel
theorem dX4_clash_85 : decode cX4_clash 85 = .ok (.iconst 1, 1) := by decide +kernel
theorem dX4_clash_86 : decode cX4_clash 86 = .ok (.goto 4, 3) := by decide +kernel
theorem dX4_clash_89 : decode cX4_clash 89 = .ok (.iconst 0, 1) := by decide +kernel
theorem dX4_clash_90 : decode cX4_clash 90 = .ok (.ireturn, 1) := by decide +kernel
theorem dX4_left_0 : decode cX4_left 0 = .ok (.aload_n 0, 1) := by decide +kernel
theorem dX4_left_1 : decode cX4_left 1 = .ok (.iload_n 1, 1) := by decide +kernel
theorem dX4_left_2 : decode cX4_left 2 = .ok (.invokevirtual 73, 3) := by decide +kernel
theorem dX4_left_5 : decode cX4_left 5 = .ok (.astore 4, 2) := by decide +kernel
theorem dX4_left_7 : decode cX4_left 7 = .ok (.aload_n 0, 1) := by decide +kernel
theorem dX4_left_8 : decode cX4_left 8 = .ok (.iload_n 2, 1) := by decide +kernel
theorem dX4_left_9 : decode cX4_left 9 = .ok (.invokevirtual 50, 3) := by decide +kernel
theorem dX4_left_12 : decode cX4_left 12 = .ok (.astore 5, 2) := by decide +kernel
theorem dX4_left_14 : decode cX4_left 14 = .ok (.aload 4, 2) := by decide +kernel
theorem dX4_left_16 : decode cX4_left 16 = .ok (.ifnull 16, 3) := by decide +kernel
theorem dX4_left_19 : decode cX4_left 19 = .ok (.aload 5, 2) := by decide +kernel
theorem dX4_left_21 : decode cX4_left 21 = .ok (.ifnull 11, 3) := by decide +kernel
theorem dX4_left_24 : decode cX4_left 24 = .ok (.aload_n 0, 1) := by decide +kernel
theorem dX4_left_25 : decode cX4_left 25 = .ok (.iload_n 3, 1) := by decide +kernel
theorem dX4_left_26 : decode cX4_left 26 = .ok (.invokevirtual 54, 3) := by decide +kernel
theorem dX4_left_29 : decode cX4_left 29 = .ok (.ifCond .ne 5, 3) := by decide +kernel
theorem dX4_left_32 : decode cX4_left 32 = .ok (.iconst (-1), 1) := by decide +kernel
theorem dX4_left_33 : decode cX4_left 33 = .ok (.ireturn, 1) := by decide +kernel
theorem dX4_left_34 : decode cX4_left 34 = .ok (.aload 4, 2) := by decide +kernel
theorem dX4_left_36 : decode cX4_left 36 = .ok (.getfield 83, 3) := by decide +kernel
theorem dX4_left_39 : decode cX4_left 39 = .ok (.iload_n 2, 1) := by decide +kernel
theorem dX4_left_40 : decode cX4_left 40 = .ok (.invokevirtual 113, 3) := by decide +kernel
theorem dX4_left_43 : decode cX4_left 43 = .ok (.aload 5, 2) := by decide +kernel
theorem dX4_left_45 : decode cX4_left 45 = .ok (.aload 4, 2) := by decide +kernel
theorem dX4_left_47 : decode cX4_left 47 = .ok (.getfield 77, 3) := by decide +kernel
theorem dX4_left_50 : decode cX4_left 50 = .ok (.iload_n 3, 1) := by decide +kernel
theorem dX4_left_51 : decode cX4_left 51 = .ok (.invokevirtual 70, 3) := by decide +kernel
theorem dX4_left_54 : decode cX4_left 54 = .ok (.iand, 1) := by decide +kernel
theorem dX4_left_55 : decode cX4_left 55 = .ok (.istore 6, 2) := by decide +kernel
theorem dX4_left_57 : decode cX4_left 57 = .ok (.iconst 0, 1) := by decide +kernel
theorem dX4_left_58 : decode cX4_left 58 = .ok (.istore 7, 2) := by decide +kernel
theorem dX4_left_60 : decode cX4_left 60 = .ok (.iload 7, 2) := by decide +kernel
theorem dX4_left_62 : decode cX4_left 62 = .ok (.aload_n 0, 1) := by decide +kernel
theorem dX4_left_63 : decode cX4_left 63 = .ok (.getfield 27, 3) := by decide +kernel
theorem dX4_left_66 : decode cX4_left 66 = .ok (.if_icmp .ge 58, 3) := by decide +kernel
theorem dX4_left_69 : decode cX4_left 69 = .ok (.aload_n 0, 1) := by decide +kernel
theorem dX4_left_70 : decode cX4_left 70 = .ok (.iload 7, 2) := by decide +kernel
theorem dX4_left_72 : decode cX4_left 72 = .ok (.invokevirtual 160, 3) := by decide +kernel
theorem dX4_left_75 : decode cX4_left 75 = .ok (.astore 8, 2) := by decide +kernel
theorem dX4_left_77 : decode cX4_left 77 = .ok (.aload 8, 2) := by decide +kernel
theorem dX4_left_79 : decode cX4_left 79 = .ok (.ifnull 39, 3) := by decide +kernel
theorem dX4_left_82 : decode cX4_left 82 = .ok (.aload 8, 2) := by decide +kernel
theorem dX4_left_84 : decode cX4_left 84 = .ok (.getfield 168, 3) := by decide +kernel
theorem dX4_left_87 : decode cX4_left 87 = .ok (.iload_n 2, 1) := by decide +kernel
theorem dX4_left_88 : decode cX4_left 88 = .ok (.if_icmp .ne 30, 3) := by decide +kernel
theorem dX4_left_91 : decode cX4_left 91 = .ok (.aload_n 0, 1) := by decide +kernel
theorem dX4_left_92 : decode cX4_left 92 = .ok (.aload 8, 2) := by decide +kernel
theorem dX4_left_94 : decode cX4_left 94 = .ok (.aload 4, 2) := by decide +kernel
theorem dX4_left_96 : decode cX4_left 96 = .ok (.getfield 77, 3) := by decide +kernel
theorem dX4_left_99 : decode cX4_left 99 = .ok (.iload_n 3, 1) := by decide +kernel
theorem dX4_left_100 : decode cX4_left 100 = .ok (.invokevirtual 164, 3) := by decide +kernel
theorem dX4_left_103 : decode cX4_left 103 = .ok (.ifCond .eq 15, 3) := by decide +kernel
theorem dX4_left_106 : decode cX4_left 106 = .ok (.iload 6, 2) := by decide +kernel
theorem dX4_left_108 : decode cX4_left 108 = .ok (.aload 8, 2) := by decide +kernel
theorem dX4_left_110 : decode cX4_left 110 = .ok (.getfield 171, 3) := by decide +kernel
theorem dX4_left_113 : decode cX4_left 113 = .ok (.iconst (-1), 1) := by decide +kernel
theorem dX4_left_114 : decode cX4_left 114 = .ok (.ixor, 1) := by decide +kernel
theorem dX4_left_115 : decode cX4_left 115 = .ok (.iand, 1) := by decide +kernel
theorem dX4_left_116 : decode cX4_left 116 = .ok (.istore 6, 2) := by decide +kernel
theorem dX4_left_118 : decode cX4_left 118 = .ok (.iinc 7 1, 3) := by decide +kernel
theorem dX4_left_121 : decode cX4_left 121 = .ok (.goto (-61), 3) := by decide +kernel
theorem dX4_left_124 : decode cX4_left 124 = .ok (.iload 6, 2) := by decide +kernel
theorem dX4_left_126 : decode cX4_left 126 = .ok (.ireturn, 1) := by decide +kernel
theorem dX4_days_0 : decode cX4_days 0 = .ok (.iload_n 1, 1) := by decide +kernel
theorem dX4_days_1 : decode cX4_days 1 = .ok (.iconst 1, 1) := by decide +kernel
theorem dX4_days_2 : decode cX4_days 2 = .ok (.if_icmp .lt 9, 3) := by decide +kernel
theorem dX4_days_5 : decode cX4_days 5 = .ok (.iload_n 1, 1) := by decide +kernel
theorem dX4_days_6 : decode cX4_days 6 = .ok (.bipush 20, 2) := by decide +kernel
theorem dX4_days_8 : decode cX4_days 8 = .ok (.if_icmp .le 5, 3) := by decide +kernel
theorem dX4_days_11 : decode cX4_days 11 = .ok (.iconst (-1), 1) := by decide +kernel
theorem dX4_days_12 : decode cX4_days 12 = .ok (.ireturn, 1) := by decide +kernel
theorem dX4_days_13 : decode cX4_days 13 = .ok (.aload_n 0, 1) := by decide +kernel
theorem dX4_days_14 : decode cX4_days 14 = .ok (.getfield 34, 3) := by decide +kernel
theorem dX4_days_17 : decode cX4_days 17 = .ok (.iload_n 1, 1) := by decide +kernel
theorem dX4_days_18 : decode cX4_days 18 = .ok (.iadd, 1) := by decide +kernel
theorem dX4_days_19 : decode cX4_days 19 = .ok (.bipush 39, 2) := by decide +kernel
theorem dX4_days_21 : decode cX4_days 21 = .ok (.if_icmp .le 6, 3) := by decide +kernel
theorem dX4_days_24 : decode cX4_days 24 = .ok (.bipush (-2), 2) := by decide +kernel
theorem dX4_days_26 : decode cX4_days 26 = .ok (.ireturn, 1) := by decide +kernel
theorem dX4_days_27 : decode cX4_days 27 = .ok (.aload_n 0, 1) := by decide +kernel
theorem dX4_days_28 : decode cX4_days 28 = .ok (.dup, 1) := by decide +kernel
theorem dX4_days_29 : decode cX4_days 29 = .ok (.getfield 34, 3) := by decide +kernel
theorem dX4_days_32 : decode cX4_days 32 = .ok (.iload_n 1, 1) := by decide +kernel
theorem dX4_days_33 : decode cX4_days 33 = .ok (.iadd, 1) := by decide +kernel
theorem dX4_days_34 : decode cX4_days 34 = .ok (.putfield 34, 3) := by decide +kernel
theorem dX4_days_37 : decode cX4_days 37 = .ok (.aload_n 0, 1) := by decide +kernel
theorem dX4_days_38 : decode cX4_days 38 = .ok (.getfield 34, 3) := by decide +kernel
theorem dX4_days_41 : decode cX4_days 41 = .ok (.ireturn, 1) := by decide +kernel
theorem dX4_promise_0 : decode cX4_promise 0 = .ok (.aload_n 0, 1) := by decide +kernel
theorem dX4_promise_1 : decode cX4_promise 1 = .ok (.iload_n 1, 1) := by decide +kernel
theorem dX4_promise_2 : decode cX4_promise 2 = .ok (.invokevirtual 50, 3) := by decide +kernel
theorem dX4_promise_5 : decode cX4_promise 5 = .ok (.astore 4, 2) := by decide +kernel
theorem dX4_promise_7 : decode cX4_promise 7 = .ok (.aload 4, 2) := by decide +kernel
theorem dX4_promise_9 : decode cX4_promise 9 = .ok (.ifnull 24, 3) := by decide +kernel
theorem dX4_promise_12 : decode cX4_promise 12 = .ok (.iload_n 2, 1) := by decide +kernel
theorem dX4_promise_13 : decode cX4_promise 13 = .ok (.iconst 5, 1) := by decide +kernel
theorem dX4_promise_14 : decode cX4_promise 14 = .ok (.invokestatic 58, 3) := by decide +kernel
theorem dX4_promise_17 : decode cX4_promise 17 = .ok (.ifCond .eq 16, 3) := by decide +kernel
theorem dX4_promise_20 : decode cX4_promise 20 = .ok (.iload_n 3, 1) := by decide +kernel
theorem dX4_promise_21 : decode cX4_promise 21 = .ok (.bipush (-9), 2) := by decide +kernel
theorem dX4_promise_23 : decode cX4_promise 23 = .ok (.if_icmp .eq 13, 3) := by decide +kernel
theorem dX4_promise_26 : decode cX4_promise 26 = .ok (.iload_n 3, 1) := by decide +kernel
theorem dX4_promise_27 : decode cX4_promise 27 = .ok (.invokestatic 121, 3) := by decide +kernel
theorem dX4_promise_30 : decode cX4_promise 30 = .ok (.ifCond .ne 6, 3) := by decide +kernel
theorem dX4_promise_33 : decode cX4_promise 33 = .ok (.bipush (-2), 2) := by decide +kernel
theorem dX4_promise_35 : decode cX4_promise 35 = .ok (.ireturn, 1) := by decide +kernel
theorem dX4_promise_36 : decode cX4_promise 36 = .ok (.aload 4, 2) := by decide +kernel
theorem dX4_promise_38 : decode cX4_promise 38 = .ok (.aload_n 0, 1) := by decide +kernel
theorem dX4_promise_39 : decode cX4_promise 39 = .ok (.getfield 34, 3) := by decide +kernel
theorem dX4_promise_42 : decode cX4_promise 42 = .ok (.invokevirtual 132, 3) := by decide +kernel
theorem dX4_promise_45 : decode cX4_promise 45 = .ok (.ifCond .eq 6, 3) := by decide +kernel
theorem dX4_promise_48 : decode cX4_promise 48 = .ok (.bipush (-3), 2) := by decide +kernel
theorem dX4_promise_50 : decode cX4_promise 50 = .ok (.ireturn, 1) := by decide +kernel
theorem dX4_promise_51 : decode cX4_promise 51 = .ok (.aload 4, 2) := by decide +kernel
theorem dX4_promise_53 : decode cX4_promise 53 = .ok (.getfield 180, 3) := by decide +kernel
theorem dX4_promise_56 : decode cX4_promise 56 = .ok (.iload_n 2, 1) := by decide +kernel
theorem dX4_promise_57 : decode cX4_promise 57 = .ok (.iaload, 1) := by decide +kernel
theorem dX4_promise_58 : decode cX4_promise 58 = .ok (.istore 5, 2) := by decide +kernel
theorem dX4_promise_60 : decode cX4_promise 60 = .ok (.aload 4, 2) := by decide +kernel
theorem dX4_promise_62 : decode cX4_promise 62 = .ok (.getfield 180, 3) := by decide +kernel
theorem dX4_promise_65 : decode cX4_promise 65 = .ok (.iload_n 2, 1) := by decide +kernel
theorem dX4_promise_66 : decode cX4_promise 66 = .ok (.iload_n 3, 1) := by decide +kernel
theorem dX4_promise_67 : decode cX4_promise 67 = .ok (.iastore, 1) := by decide +kernel
theorem dX4_promise_68 : decode cX4_promise 68 = .ok (.iload_n 3, 1) := by decide +kernel
theorem dX4_promise_69 : decode cX4_promise 69 = .ok (.bipush (-9), 2) := by decide +kernel
theorem dX4_promise_71 : decode cX4_promise 71 = .ok (.if_icmp .eq 20, 3) := by decide +kernel
theorem dX4_promise_74 : decode cX4_promise 74 = .ok (.aload 4, 2) := by decide +kernel
theorem dX4_promise_76 : decode cX4_promise 76 = .ok (.iload_n 3, 1) := by decide +kernel
theorem dX4_promise_77 : decode cX4_promise 77 = .ok (.invokevirtual 132, 3) := by decide +kernel
theorem dX4_promise_80 : decode cX4_promise 80 = .ok (.ifCond .eq 11, 3) := by decide +kernel
theorem dX4_promise_83 : decode cX4_promise 83 = .ok (.aload 4, 2) := by decide +kernel
theorem dX4_promise_85 : decode cX4_promise 85 = .ok (.iload_n 3, 1) := by decide +kernel
theorem dX4_promise_86 : decode cX4_promise 86 = .ok (.iconst 1, 1) := by decide +kernel
theorem dX4_promise_87 : decode cX4_promise 87 = .ok (.iadd, 1) := by decide +kernel
theorem dX4_promise_88 : decode cX4_promise 88 = .ok (.putfield 135, 3) := by decide +kernel
theorem dX4_promise_91 : decode cX4_promise 91 = .ok (.iload 5, 2) := by decide +kernel
theorem dX4_promise_93 : decode cX4_promise 93 = .ok (.ireturn, 1) := by decide +kernel
theorem dX4_shut_0 : decode cX4_shut 0 = .ok (.aload_n 0, 1) := by decide +kernel
theorem dX4_shut_1 : decode cX4_shut 1 = .ok (.iload_n 1, 1) := by decide +kernel
theorem dX4_shut_2 : decode cX4_shut 2 = .ok (.invokevirtual 50, 3) := by decide +kernel
theorem dX4_shut_5 : decode cX4_shut 5 = .ok (.astore_n 3, 1) := by decide +kernel
theorem dX4_shut_6 : decode cX4_shut 6 = .ok (.aload_n 3, 1) := by decide +kernel
theorem dX4_shut_7 : decode cX4_shut 7 = .ok (.ifnull 17, 3) := by decide +kernel
theorem dX4_shut_10 : decode cX4_shut 10 = .ok (.iload_n 2, 1) := by decide +kernel
theorem dX4_shut_11 : decode cX4_shut 11 = .ok (.aload_n 0, 1) := by decide +kernel
theorem dX4_shut_12 : decode cX4_shut 12 = .ok (.getfield 34, 3) := by decide +kernel
theorem dX4_shut_15 : decode cX4_shut 15 = .ok (.if_icmp .lt 9, 3) := by decide +kernel
theorem dX4_shut_18 : decode cX4_shut 18 = .ok (.iload_n 2, 1) := by decide +kernel
theorem dX4_shut_19 : decode cX4_shut 19 = .ok (.bipush 40, 2) := by decide +kernel
theorem dX4_shut_21 : decode cX4_shut 21 = .ok (.if_icmp .le 5, 3) := by decide +kernel
theorem dX4_shut_24 : decode cX4_shut 24 = .ok (.iconst (-1), 1) := by decide +kernel
theorem dX4_shut_25 : decode cX4_shut 25 = .ok (.ireturn, 1) := by decide +kernel
theorem dX4_shut_26 : decode cX4_shut 26 = .ok (.aload_n 3, 1) := by decide +kernel
theorem dX4_shut_27 : decode cX4_shut 27 = .ok (.aload_n 0, 1) := by decide +kernel
theorem dX4_shut_28 : decode cX4_shut 28 = .ok (.getfield 34, 3) := by decide +kernel
theorem dX4_shut_31 : decode cX4_shut 31 = .ok (.invokevirtual 132, 3) := by decide +kernel
theorem dX4_shut_34 : decode cX4_shut 34 = .ok (.ifCond .ne 11, 3) := by decide +kernel
theorem dX4_shut_37 : decode cX4_shut 37 = .ok (.aload_n 3, 1) := by decide +kernel
theorem dX4_shut_38 : decode cX4_shut 38 = .ok (.iload_n 2, 1) := by decide +kernel
theorem dX4_shut_39 : decode cX4_shut 39 = .ok (.invokevirtual 183, 3) := by decide +kernel
theorem dX4_shut_42 : decode cX4_shut 42 = .ok (.ifCond .eq 6, 3) := by decide +kernel
theorem dX4_shut_45 : decode cX4_shut 45 = .ok (.bipush (-2), 2) := by decide +kernel
theorem dX4_shut_47 : decode cX4_shut 47 = .ok (.ireturn, 1) := by decide +kernel
theorem dX4_shut_48 : decode cX4_shut 48 = .ok (.aload_n 3, 1) := by decide +kernel
theorem dX4_shut_49 : decode cX4_shut 49 = .ok (.iload_n 2, 1) := by decide +kernel
theorem dX4_shut_50 : decode cX4_shut 50 = .ok (.putfield 135, 3) := by decide +kernel
theorem dX4_shut_53 : decode cX4_shut 53 = .ok (.iload_n 2, 1) := by decide +kernel
theorem dX4_shut_54 : decode cX4_shut 54 = .ok (.ireturn, 1) := by decide +kernel
theorem dX4_open_0 : decode cX4_open 0 = .ok (.aload_n 0, 1) := by decide +kernel
theorem dX4_open_1 : decode cX4_open 1 = .ok (.iload_n 1, 1) := by decide +kernel
theorem dX4_open_2 : decode cX4_open 2 = .ok (.invokevirtual 50, 3) := by decide +kernel
theorem dX4_open_5 : decode cX4_open 5 = .ok (.astore_n 2, 1) := by decide +kernel
theorem dX4_open_6 : decode cX4_open 6 = .ok (.aload_n 2, 1) := by decide +kernel
theorem dX4_open_7 : decode cX4_open 7 = .ok (.ifnonnull 5, 3) := by decide +kernel
theorem dX4_open_10 : decode cX4_open 10 = .ok (.iconst (-1), 1) := by decide +kernel
theorem dX4_open_11 : decode cX4_open 11 = .ok (.ireturn, 1) := by decide +kernel
theorem dX4_open_12 : decode cX4_open 12 = .ok (.aload_n 2, 1) := by decide +kernel
theorem dX4_open_13 : decode cX4_open 13 = .ok (.getfield 135, 3) := by decide +kernel
theorem dX4_open_16 : decode cX4_open 16 = .ok (.bipush (-9), 2) := by decide +kernel
theorem dX4_open_18 : decode cX4_open 18 = .ok (.if_icmp .ne 6, 3) := by decide +kernel
theorem dX4_open_21 : decode cX4_open 21 = .ok (.bipush (-2), 2) := by decide +kernel
theorem dX4_open_23 : decode cX4_open 23 = .ok (.ireturn, 1) := by decide +kernel
theorem dX4_open_24 : decode cX4_open 24 = .ok (.aload_n 2, 1) := by decide +kernel
theorem dX4_open_25 : decode cX4_open 25 = .ok (.getfield 135, 3) := by decide +kernel
theorem dX4_open_28 : decode cX4_open 28 = .ok (.istore_n 3, 1) := by decide +kernel
theorem dX4_open_29 : decode cX4_open 29 = .ok (.aload_n 2, 1) := by decide +kernel
theorem dX4_open_30 : decode cX4_open 30 = .ok (.bipush (-9), 2) := by decide +kernel
theorem dX4_open_32 : decode cX4_open 32 = .ok (.putfield 135, 3) := by decide +kernel
theorem dX4_open_35 : decode cX4_open 35 = .ok (.iload_n 3, 1) := by decide +kernel
theorem dX4_open_36 : decode cX4_open 36 = .ok (.ireturn, 1) := by decide +kernel
theorem dX4_about_0 : decode cX4_about 0 = .ok (.aload_n 0, 1) := by decide +kernel
theorem dX4_about_1 : decode cX4_about 1 = .ok (.iload_n 1, 1) := by decide +kernel
theorem dX4_about_2 : decode cX4_about 2 = .ok (.invokevirtual 50, 3) := by decide +kernel
theorem dX4_about_5 : decode cX4_about 5 = .ok (.astore_n 3, 1) := by decide +kernel
theorem dX4_about_6 : decode cX4_about 6 = .ok (.aload_n 3, 1) := by decide +kernel
theorem dX4_about_7 : decode cX4_about 7 = .ok (.ifnonnull 5, 3) := by decide +kernel
theorem dX4_about_10 : decode cX4_about 10 = .ok (.iconst (-1), 1) := by decide +kernel
theorem dX4_about_11 : decode cX4_about 11 = .ok (.ireturn, 1) := by decide +kernel
theorem dX4_about_12 : decode cX4_about 12 = .ok (.iload_n 2, 1) := by decide +kernel
theorem dX4_about_13 : decode cX4_about 13 = .ok (.tableswitch 63 0 3 #[31, 36, 53, 58], 31) := by decide +kernel
theorem dX4_about_44 : decode cX4_about 44 = .ok (.aload_n 3, 1) := by decide +kernel
theorem dX4_about_45 : decode cX4_about 45 = .ok (.getfield 135, 3) := by decide +kernel
theorem dX4_about_48 : decode cX4_about 48 = .ok (.ireturn, 1) := by decide +kernel
theorem dX4_about_49 : decode cX4_about 49 = .ok (.aload_n 3, 1) := by decide +kernel
theorem dX4_about_50 : decode cX4_about 50 = .ok (.aload_n 0, 1) := by decide +kernel
theorem dX4_about_51 : decode cX4_about 51 = .ok (.getfield 34, 3) := by decide +kernel
theorem dX4_about_54 : decode cX4_about 54 = .ok (.invokevirtual 132, 3) := by decide +kernel
theorem dX4_about_57 : decode cX4_about 57 = .ok (.ifCond .eq 7, 3) := by decide +kernel
theorem dX4_about_60 : decode cX4_about 60 = .ok (.iconst 1, 1) := by decide +kernel
theorem dX4_about_61 : decode cX4_about 61 = .ok (.goto 4, 3) := by decide +kernel
theorem dX4_about_64 : decode cX4_about 64 = .ok (.iconst 0, 1) := by decide +kernel
theorem dX4_about_65 : decode cX4_about 65 = .ok (.ireturn, 1) := by decide +kernel
theorem dX4_about_66 : decode cX4_about 66 = .ok (.aload_n 3, 1) := by decide +kernel
theorem dX4_about_67 : decode cX4_about 67 = .ok (.invokevirtual 186, 3) := by decide +kernel
theorem dX4_about_70 : decode cX4_about 70 = .ok (.ireturn, 1) := by decide +kernel
theorem dX4_about_71 : decode cX4_about 71 = .ok (.aload_n 3, 1) := by decide +kernel
theorem dX4_about_72 : decode cX4_about 72 = .ok (.getfield 138, 3) := by decide +kernel
theorem dX4_about_75 : decode cX4_about 75 = .ok (.ireturn, 1) := by decide +kernel
theorem dX4_about_76 : decode cX4_about 76 = .ok (.iconst (-1), 1) := by decide +kernel
theorem dX4_about_77 : decode cX4_about 77 = .ok (.ireturn, 1) := by decide +kernel
theorem dX4_harmed_0 : decode cX4_harmed 0 = .ok (.iload_n 1, 1) := by decide +kernel
theorem dX4_harmed_1 : decode cX4_harmed 1 = .ok (.invokestatic 80, 3) := by decide +kernel
theorem dX4_harmed_4 : decode cX4_harmed 4 = .ok (.ifCond .eq 12, 3) := by decide +kernel
theorem dX4_harmed_7 : decode cX4_harmed 7 = .ok (.iload_n 2, 1) := by decide +kernel
theorem dX4_harmed_8 : decode cX4_harmed 8 = .ok (.bipush 40, 2) := by decide +kernel
theorem dX4_harmed_10 : decode cX4_harmed 10 = .ok (.invokestatic 58, 3) := by decide +kernel
theorem dX4_harmed_13 : decode cX4_harmed 13 = .ok (.ifCond .ne 5, 3) := by decide +kernel
theorem dX4_harmed_16 : decode cX4_harmed 16 = .ok (.iconst (-1), 1) := by decide +kernel
theorem dX4_harmed_17 : decode cX4_harmed 17 = .ok (.ireturn, 1) := by decide +kernel
theorem dX4_harmed_18 : decode cX4_harmed 18 = .ok (.iconst 0, 1) := by decide +kernel
theorem dX4_harmed_19 : decode cX4_harmed 19 = .ok (.istore_n 3, 1) := by decide +kernel
theorem dX4_harmed_20 : decode cX4_harmed 20 = .ok (.aload_n 0, 1) := by decide +kernel
theorem dX4_harmed_21 : decode cX4_harmed 21 = .ok (.getfield 17, 3) := by decide +kernel
theorem dX4_harmed_24 : decode cX4_harmed 24 = .ok (.astore 4, 2) := by decide +kernel
theorem dX4_harmed_26 : decode cX4_harmed 26 = .ok (.aload 4, 2) := by decide +kernel
theorem dX4_harmed_28 : decode cX4_harmed 28 = .ok (.arraylength, 1) := by decide +kernel
theorem dX4_harmed_29 : decode cX4_harmed 29 = .ok (.istore 5, 2) := by decide +kernel
theorem dX4_harmed_31 : decode cX4_harmed 31 = .ok (.iconst 0, 1) := by decide +kernel
theorem dX4_harmed_32 : decode cX4_harmed 32 = .ok (.istore 6, 2) := by decide +kernel
theorem dX4_harmed_34 : decode cX4_harmed 34 = .ok (.iload 6, 2) := by decide +kernel
theorem dX4_harmed_36 : decode cX4_harmed 36 = .ok (.iload 5, 2) := by decide +kernel
theorem dX4_harmed_38 : decode cX4_harmed 38 = .ok (.if_icmp .ge 41, 3) := by decide +kernel
theorem dX4_harmed_41 : decode cX4_harmed 41 = .ok (.aload 4, 2) := by decide +kernel
theorem dX4_harmed_43 : decode cX4_harmed 43 = .ok (.iload 6, 2) := by decide +kernel
theorem dX4_harmed_45 : decode cX4_harmed 45 = .ok (.aaload, 1) := by decide +kernel
theorem dX4_harmed_46 : decode cX4_harmed 46 = .ok (.astore 7, 2) := by decide +kernel
theorem dX4_harmed_48 : decode cX4_harmed 48 = .ok (.aload 7, 2) := by decide +kernel
theorem dX4_harmed_50 : decode cX4_harmed 50 = .ok (.getfield 83, 3) := by decide +kernel
theorem dX4_harmed_53 : decode cX4_harmed 53 = .ok (.iload_n 1, 1) := by decide +kernel
theorem dX4_harmed_54 : decode cX4_harmed 54 = .ok (.invokevirtual 113, 3) := by decide +kernel
theorem dX4_harmed_57 : decode cX4_harmed 57 = .ok (.ifCond .ne 13, 3) := by decide +kernel
theorem dX4_harmed_60 : decode cX4_harmed 60 = .ok (.aload 7, 2) := by decide +kernel
theorem dX4_harmed_62 : decode cX4_harmed 62 = .ok (.iload_n 1, 1) := by decide +kernel
theorem dX4_harmed_63 : decode cX4_harmed 63 = .ok (.iload_n 2, 1) := by decide +kernel
theorem dX4_harmed_64 : decode cX4_harmed 64 = .ok (.invokevirtual 189, 3) := by decide +kernel
theorem dX4_harmed_67 : decode cX4_harmed 67 = .ok (.ifCond .eq 6, 3) := by decide +kernel
theorem dX4_harmed_70 : decode cX4_harmed 70 = .ok (.iinc 3 1, 3) := by decide +kernel
theorem dX4_harmed_73 : decode cX4_harmed 73 = .ok (.iinc 6 1, 3) := by decide +kernel
theorem dX4_harmed_76 : decode cX4_harmed 76 = .ok (.goto (-42), 3) := by decide +kernel
theorem dX4_harmed_79 : decode cX4_harmed 79 = .ok (.iload_n 3, 1) := by decide +kernel
theorem dX4_harmed_80 : decode cX4_harmed 80 = .ok (.ireturn, 1) := by decide +kernel
theorem dX4_ready_0 : decode cX4_ready 0 = .ok (.aload_n 0, 1) := by decide +kernel
theorem dX4_ready_1 : decode cX4_ready 1 = .ok (.iload_n 1, 1) := by decide +kernel
theorem dX4_ready_2 : decode cX4_ready 2 = .ok (.invokevirtual 50, 3) := by decide +kernel
theorem dX4_ready_5 : decode cX4_ready 5 = .ok (.astore_n 2, 1) := by decide +kernel
theorem dX4_ready_6 : decode cX4_ready 6 = .ok (.aload_n 2, 1) := by decide +kernel
theorem dX4_ready_7 : decode cX4_ready 7 = .ok (.ifnonnull 5, 3) := by decide +kernel
theorem dX4_ready_10 : decode cX4_ready 10 = .ok (.iconst (-1), 1) := by decide +kernel
theorem dX4_ready_11 : decode cX4_ready 11 = .ok (.ireturn, 1) := by decide +kernel
theorem dX4_ready_12 : decode cX4_ready 12 = .ok (.aload_n 0, 1) := by decide +kernel
theorem dX4_ready_13 : decode cX4_ready 13 = .ok (.getfield 34, 3) := by decide +kernel
theorem dX4_ready_16 : decode cX4_ready 16 = .ok (.istore_n 3, 1) := by decide +kernel
theorem dX4_ready_17 : decode cX4_ready 17 = .ok (.iload_n 3, 1) := by decide +kernel
theorem dX4_ready_18 : decode cX4_ready 18 = .ok (.bipush 40, 2) := by decide +kernel
theorem dX4_ready_20 : decode cX4_ready 20 = .ok (.if_icmp .gt 28, 3) := by decide +kernel
theorem dX4_ready_23 : decode cX4_ready 23 = .ok (.aload_n 0, 1) := by decide +kernel
theorem dX4_ready_24 : decode cX4_ready 24 = .ok (.iload_n 1, 1) := by decide +kernel
theorem dX4_ready_25 : decode cX4_ready 25 = .ok (.iload_n 3, 1) := by decide +kernel
theorem dX4_ready_26 : decode cX4_ready 26 = .ok (.invokevirtual 192, 3) := by decide +kernel
theorem dX4_ready_29 : decode cX4_ready 29 = .ok (.ifCond .ne 13, 3) := by decide +kernel
theorem dX4_ready_32 : decode cX4_ready 32 = .ok (.aload_n 2, 1) := by decide +kernel
theorem dX4_ready_33 : decode cX4_ready 33 = .ok (.iload_n 3, 1) := by decide +kernel
theorem dX4_ready_34 : decode cX4_ready 34 = .ok (.invokevirtual 183, 3) := by decide +kernel
theorem dX4_ready_37 : decode cX4_ready 37 = .ok (.ifCond .ne 5, 3) := by decide +kernel
theorem dX4_ready_40 : decode cX4_ready 40 = .ok (.iload_n 3, 1) := by decide +kernel
theorem dX4_ready_41 : decode cX4_ready 41 = .ok (.ireturn, 1) := by decide +kernel
theorem dX4_ready_42 : decode cX4_ready 42 = .ok (.iinc 3 1, 3) := by decide +kernel
theorem dX4_ready_45 : decode cX4_ready 45 = .ok (.goto (-28), 3) := by decide +kernel
theorem dX4_ready_48 : decode cX4_ready 48 = .ok (.bipush (-9), 2) := by decide +kernel
theorem dX4_ready_50 : decode cX4_ready 50 = .ok (.ireturn, 1) := by decide +kernel
theorem dX4_set_0 : decode cX4_set 0 = .ok (.iload_n 3, 1) := by decide +kernel
theorem dX4_set_1 : decode cX4_set 1 = .ok (.sipush 1000, 3) := by decide +kernel
theorem dX4_set_4 : decode cX4_set 4 = .ok (.invokestatic 58, 3) := by decide +kernel
theorem dX4_set_7 : decode cX4_set 7 = .ok (.ifCond .ne 5, 3) := by decide +kernel
theorem dX4_set_10 : decode cX4_set 10 = .ok (.iconst (-1), 1) := by decide +kernel
theorem dX4_set_11 : decode cX4_set 11 = .ok (.ireturn, 1) := by decide +kernel
theorem dX4_set_12 : decode cX4_set 12 = .ok (.iload_n 1, 1) := by decide +kernel
theorem dX4_set_13 : decode cX4_set 13 = .ok (.tableswitch 61 0 2 #[27, 37, 47], 27) := by decide +kernel
theorem dX4_set_40 : decode cX4_set 40 = .ok (.aload_n 0, 1) := by decide +kernel
theorem dX4_set_41 : decode cX4_set 41 = .ok (.iload_n 2, 1) := by decide +kernel
theorem dX4_set_42 : decode cX4_set 42 = .ok (.invokevirtual 50, 3) := by decide +kernel
theorem dX4_set_45 : decode cX4_set 45 = .ok (.iload_n 3, 1) := by decide +kernel
theorem dX4_set_46 : decode cX4_set 46 = .ok (.invokestatic 195, 3) := by decide +kernel
theorem dX4_set_49 : decode cX4_set 49 = .ok (.ireturn, 1) := by decide +kernel
theorem dX4_set_50 : decode cX4_set 50 = .ok (.aload_n 0, 1) := by decide +kernel
theorem dX4_set_51 : decode cX4_set 51 = .ok (.iload_n 2, 1) := by decide +kernel
theorem dX4_set_52 : decode cX4_set 52 = .ok (.invokevirtual 73, 3) := by decide +kernel
theorem dX4_set_55 : decode cX4_set 55 = .ok (.iload_n 3, 1) := by decide +kernel
theorem dX4_set_56 : decode cX4_set 56 = .ok (.invokestatic 199, 3) := by decide +kernel
theorem dX4_set_59 : decode cX4_set 59 = .ok (.ireturn, 1) := by decide +kernel
theorem dX4_set_60 : decode cX4_set 60 = .ok (.aload_n 0, 1) := by decide +kernel
theorem dX4_set_61 : decode cX4_set 61 = .ok (.getfield 37, 3) := by decide +kernel
theorem dX4_set_64 : decode cX4_set 64 = .ok (.istore 4, 2) := by decide +kernel
theorem dX4_set_66 : decode cX4_set 66 = .ok (.aload_n 0, 1) := by decide +kernel
theorem dX4_set_67 : decode cX4_set 67 = .ok (.iload_n 3, 1) := by decide +kernel
theorem dX4_set_68 : decode cX4_set 68 = .ok (.putfield 37, 3) := by decide +kernel
theorem dX4_set_71 : decode cX4_set 71 = .ok (.iload 4, 2) := by decide +kernel
theorem dX4_set_73 : decode cX4_set 73 = .ok (.ireturn, 1) := by decide +kernel
theorem dX4_set_74 : decode cX4_set 74 = .ok (.iconst (-1), 1) := by decide +kernel
theorem dX4_set_75 : decode cX4_set 75 = .ok (.ireturn, 1) := by decide +kernel
theorem dX4_plan_0 : decode cX4_plan 0 = .ok (.iload_n 1, 1) := by decide +kernel
theorem dX4_plan_1 : decode cX4_plan 1 = .ok (.ifCond .eq 10, 3) := by decide +kernel
theorem dX4_plan_4 : decode cX4_plan 4 = .ok (.iload_n 1, 1) := by decide +kernel
theorem dX4_plan_5 : decode cX4_plan 5 = .ok (.iconst 1, 1) := by decide +kernel
theorem dX4_plan_6 : decode cX4_plan 6 = .ok (.if_icmp .eq 5, 3) := by decide +kernel
theorem dX4_plan_9 : decode cX4_plan 9 = .ok (.iconst (-1), 1) := by decide +kernel
theorem dX4_plan_10 : decode cX4_plan 10 = .ok (.ireturn, 1) := by decide +kernel
theorem dX4_plan_11 : decode cX4_plan 11 = .ok (.iconst 0, 1) := by decide +kernel
theorem dX4_plan_12 : decode cX4_plan 12 = .ok (.istore_n 2, 1) := by decide +kernel
theorem dX4_plan_13 : decode cX4_plan 13 = .ok (.iconst 0, 1) := by decide +kernel
theorem dX4_plan_14 : decode cX4_plan 14 = .ok (.istore_n 3, 1) := by decide +kernel
theorem dX4_plan_15 : decode cX4_plan 15 = .ok (.iconst 0, 1) := by decide +kernel
theorem dX4_plan_16 : decode cX4_plan 16 = .ok (.istore 4, 2) := by decide +kernel
theorem dX4_plan_18 : decode cX4_plan 18 = .ok (.iload 4, 2) := by decide +kernel
theorem dX4_plan_20 : decode cX4_plan 20 = .ok (.bipush 8, 2) := by decide +kernel
theorem dX4_plan_22 : decode cX4_plan 22 = .ok (.if_icmp .ge 61, 3) := by decide +kernel
theorem dX4_plan_25 : decode cX4_plan 25 = .ok (.aload_n 0, 1) := by decide +kernel
theorem dX4_plan_26 : decode cX4_plan 26 = .ok (.iload 4, 2) := by decide +kernel
theorem dX4_plan_28 : decode cX4_plan 28 = .ok (.invokevirtual 203, 3) := by decide +kernel
theorem dX4_plan_31 : decode cX4_plan 31 = .ok (.istore 5, 2) := by decide +kernel
theorem dX4_plan_33 : decode cX4_plan 33 = .ok (.aload_n 0, 1) := by decide +kernel
theorem dX4_plan_34 : decode cX4_plan 34 = .ok (.aload_n 0, 1) := by decide +kernel
theorem dX4_plan_35 : decode cX4_plan 35 = .ok (.getfield 11, 3) := by decide +kernel
theorem dX4_plan_38 : decode cX4_plan 38 = .ok (.iload 4, 2) := by decide +kernel
theorem dX4_plan_40 : decode cX4_plan 40 = .ok (.aaload, 1) := by decide +kernel
theorem dX4_plan_41 : decode cX4_plan 41 = .ok (.iload 5, 2) := by decide +kernel
theorem dX4_plan_43 : decode cX4_plan 43 = .ok (.invokevirtual 206, 3) := by decide +kernel
theorem dX4_plan_46 : decode cX4_plan 46 = .ok (.ifCond .eq 26, 3) := by decide +kernel
theorem dX4_plan_49 : decode cX4_plan 49 = .ok (.iload_n 2, 1) := by decide +kernel
theorem dX4_plan_50 : decode cX4_plan 50 = .ok (.iconst 1, 1) := by decide +kernel
theorem dX4_plan_51 : decode cX4_plan 51 = .ok (.iload 4, 2) := by decide +kernel
theorem dX4_plan_53 : decode cX4_plan 53 = .ok (.ishl, 1) := by decide +kernel
theorem dX4_plan_54 : decode cX4_plan 54 = .ok (.ior, 1) := by decide +kernel
theorem dX4_plan_55 : decode cX4_plan 55 = .ok (.istore_n 2, 1) := by decide +kernel
theorem dX4_plan_56 : decode cX4_plan 56 = .ok (.iload_n 3, 1) := by decide +kernel
theorem dX4_plan_57 : decode cX4_plan 57 = .ok (.aload_n 0, 1) := by decide +kernel
theorem dX4_plan_58 : decode cX4_plan 58 = .ok (.getfield 11, 3) := by decide +kernel
theorem dX4_plan_61 : decode cX4_plan 61 = .ok (.iload 4, 2) := by decide +kernel
theorem dX4_plan_63 : decode cX4_plan 63 = .ok (.aaload, 1) := by decide +kernel
theorem dX4_plan_64 : decode cX4_plan 64 = .ok (.getfield 210, 3) := by decide +kernel
theorem dX4_plan_67 : decode cX4_plan 67 = .ok (.iadd, 1) := by decide +kernel
theorem dX4_plan_68 : decode cX4_plan 68 = .ok (.istore_n 3, 1) := by decide +kernel
theorem dX4_plan_69 : decode cX4_plan 69 = .ok (.goto 8, 3) := by decide +kernel
theorem dX4_plan_72 : decode cX4_plan 72 = .ok (.iload_n 3, 1) := by decide +kernel
theorem dX4_plan_73 : decode cX4_plan 73 = .ok (.iload 5, 2) := by decide +kernel
theorem dX4_plan_75 : decode cX4_plan 75 = .ok (.iadd, 1) := by decide +kernel
theorem dX4_plan_76 : decode cX4_plan 76 = .ok (.istore_n 3, 1) := by decide +kernel
theorem dX4_plan_77 : decode cX4_plan 77 = .ok (.iinc 4 1, 3) := by decide +kernel
theorem dX4_plan_80 : decode cX4_plan 80 = .ok (.goto (-62), 3) := by decide +kernel
theorem dX4_plan_83 : decode cX4_plan 83 = .ok (.iload_n 1, 1) := by decide +kernel
theorem dX4_plan_84 : decode cX4_plan 84 = .ok (.ifCond .ne 7, 3) := by decide +kernel
theorem dX4_plan_87 : decode cX4_plan 87 = .ok (.iload_n 2, 1) := by decide +kernel
theorem dX4_plan_88 : decode cX4_plan 88 = .ok (.goto 4, 3) := by decide +kernel
theorem dX4_plan_91 : decode cX4_plan 91 = .ok (.iload_n 3, 1) := by decide +kernel
theorem dX4_plan_92 : decode cX4_plan 92 = .ok (.ireturn, 1) := by decide +kernel
theorem dX4_told_0 : decode cX4_told 0 = .ok (.iload_n 1, 1) := by decide +kernel
theorem dX4_told_1 : decode cX4_told 1 = .ok (.tableswitch 60 0 4 #[35, 40, 45, 50, 55], 35) := by decide +kernel
theorem dX4_told_36 : decode cX4_told 36 = .ok (.aload_n 0, 1) := by decide +kernel
theorem dX4_told_37 : decode cX4_told 37 = .ok (.getfield 31, 3) := by decide +kernel
theorem dX4_told_40 : decode cX4_told 40 = .ok (.ireturn, 1) := by decide +kernel
theorem dX4_told_41 : decode cX4_told 41 = .ok (.aload_n 0, 1) := by decide +kernel
theorem dX4_told_42 : decode cX4_told 42 = .ok (.getfield 34, 3) := by decide +kernel
theorem dX4_told_45 : decode cX4_told 45 = .ok (.ireturn, 1) := by decide +kernel
theorem dX4_told_46 : decode cX4_told 46 = .ok (.aload_n 0, 1) := by decide +kernel
theorem dX4_told_47 : decode cX4_told 47 = .ok (.getfield 27, 3) := by decide +kernel
theorem dX4_told_50 : decode cX4_told 50 = .ok (.ireturn, 1) := by decide +kernel
theorem dX4_told_51 : decode cX4_told 51 = .ok (.aload_n 0, 1) := by decide +kernel
theorem dX4_told_52 : decode cX4_told 52 = .ok (.invokevirtual 151, 3) := by decide +kernel
theorem dX4_told_55 : decode cX4_told 55 = .ok (.ireturn, 1) := by decide +kernel
theorem dX4_told_56 : decode cX4_told 56 = .ok (.aload_n 0, 1) := by decide +kernel
theorem dX4_told_57 : decode cX4_told 57 = .ok (.invokevirtual 213, 3) := by decide +kernel
theorem dX4_told_60 : decode cX4_told 60 = .ok (.ireturn, 1) := by decide +kernel
theorem dX4_told_61 : decode cX4_told 61 = .ok (.iconst (-1), 1) := by decide +kernel
theorem dX4_told_62 : decode cX4_told 62 = .ok (.ireturn, 1) := by decide +kernel
theorem dX4_trace_0 : decode cX4_trace 0 = .ok (.aload_n 0, 1) := by decide +kernel
theorem dX4_trace_1 : decode cX4_trace 1 = .ok (.getfield 40, 3) := by decide +kernel
theorem dX4_trace_4 : decode cX4_trace 4 = .ok (.lreturn, 1) := by decide +kernel
theorem dX4_isWithin_0 : decode cX4_isWithin 0 = .ok (.iload_n 0, 1) := by decide +kernel
theorem dX4_isWithin_1 : decode cX4_isWithin 1 = .ok (.ifCond .lt 12, 3) := by decide +kernel
theorem dX4_isWithin_4 : decode cX4_isWithin 4 = .ok (.iload_n 0, 1) := by decide +kernel
theorem dX4_isWithin_5 : decode cX4_isWithin 5 = .ok (.iload_n 1, 1) := by decide +kernel
theorem dX4_isWithin_6 : decode cX4_isWithin 6 = .ok (.if_icmp .gt 7, 3) := by decide +kernel
theorem dX4_isWithin_9 : decode cX4_isWithin 9 = .ok (.iconst 1, 1) := by decide +kernel
theorem dX4_isWithin_10 : decode cX4_isWithin 10 = .ok (.goto 4, 3) := by decide +kernel
theorem dX4_isWithin_13 : decode cX4_isWithin 13 = .ok (.iconst 0, 1) := by decide +kernel
theorem dX4_isWithin_14 : decode cX4_isWithin 14 = .ok (.ireturn, 1) := by decide +kernel
theorem dX4_isFace_0 : decode cX4_isFace 0 = .ok (.iload_n 0, 1) := by decide +kernel
theorem dX4_isFace_1 : decode cX4_isFace 1 = .ok (.bipush 7, 2) := by decide +kernel
theorem dX4_isFace_3 : decode cX4_isFace 3 = .ok (.invokestatic 58, 3) := by decide +kernel
theorem dX4_isFace_6 : decode cX4_isFace 6 = .ok (.ireturn, 1) := by decide +kernel
theorem dX4_isDay_0 : decode cX4_isDay 0 = .ok (.iload_n 0, 1) := by decide +kernel
theorem dX4_isDay_1 : decode cX4_isDay 1 = .ok (.bipush 39, 2) := by decide +kernel
theorem dX4_isDay_3 : decode cX4_isDay 3 = .ok (.invokestatic 58, 3) := by decide +kernel
theorem dX4_isDay_6 : decode cX4_isDay 6 = .ok (.ireturn, 1) := by decide +kernel
theorem dX4_isSpan_0 : decode cX4_isSpan 0 = .ok (.iload_n 0, 1) := by decide +kernel
theorem dX4_isSpan_1 : decode cX4_isSpan 1 = .ok (.invokestatic 121, 3) := by decide +kernel
theorem dX4_isSpan_4 : decode cX4_isSpan 4 = .ok (.ifCond .eq 19, 3) := by decide +kernel
theorem dX4_isSpan_7 : decode cX4_isSpan 7 = .ok (.iload_n 1, 1) := by decide +kernel
theorem dX4_isSpan_8 : decode cX4_isSpan 8 = .ok (.invokestatic 121, 3) := by decide +kernel
theorem dX4_isSpan_11 : decode cX4_isSpan 11 = .ok (.ifCond .eq 12, 3) := by decide +kernel
theorem dX4_isSpan_14 : decode cX4_isSpan 14 = .ok (.iload_n 0, 1) := by decide +kernel
theorem dX4_isSpan_15 : decode cX4_isSpan 15 = .ok (.iload_n 1, 1) := by decide +kernel
theorem dX4_isSpan_16 : decode cX4_isSpan 16 = .ok (.if_icmp .gt 7, 3) := by decide +kernel
theorem dX4_isSpan_19 : decode cX4_isSpan 19 = .ok (.iconst 1, 1) := by decide +kernel
theorem dX4_isSpan_20 : decode cX4_isSpan 20 = .ok (.goto 4, 3) := by decide +kernel
theorem dX4_isSpan_23 : decode cX4_isSpan 23 = .ok (.iconst 0, 1) := by decide +kernel
theorem dX4_isSpan_24 : decode cX4_isSpan 24 = .ok (.ireturn, 1) := by decide +kernel
theorem dX4_isVersion_0 : decode cX4_isVersion 0 = .ok (.iload_n 1, 1) := by decide +kernel
theorem dX4_isVersion_1 : decode cX4_isVersion 1 = .ok (.aload_n 0, 1) := by decide +kernel
theorem dX4_isVersion_2 : decode cX4_isVersion 2 = .ok (.getfield 31, 3) := by decide +kernel
theorem dX4_isVersion_5 : decode cX4_isVersion 5 = .ok (.iconst 1, 1) := by decide +kernel
theorem dX4_isVersion_6 : decode cX4_isVersion 6 = .ok (.isub, 1) := by decide +kernel
theorem dX4_isVersion_7 : decode cX4_isVersion 7 = .ok (.invokestatic 58, 3) := by decide +kernel
theorem dX4_isVersion_10 : decode cX4_isVersion 10 = .ok (.ireturn, 1) := by decide +kernel
theorem dX4_doorAt_0 : decode cX4_doorAt 0 = .ok (.iload_n 1, 1) := by decide +kernel
theorem dX4_doorAt_1 : decode cX4_doorAt 1 = .ok (.invokestatic 80, 3) := by decide +kernel
theorem dX4_doorAt_4 : decode cX4_doorAt 4 = .ok (.ifCond .eq 12, 3) := by decide +kernel
theorem dX4_doorAt_7 : decode cX4_doorAt 7 = .ok (.aload_n 0, 1) := by decide +kernel
theorem dX4_doorAt_8 : decode cX4_doorAt 8 = .ok (.getfield 11, 3) := by decide +kernel
theorem dX4_doorAt_11 : decode cX4_doorAt 11 = .ok (.iload_n 1, 1) := by decide +kernel
theorem dX4_doorAt_12 : decode cX4_doorAt 12 = .ok (.aaload, 1) := by decide +kernel
theorem dX4_doorAt_13 : decode cX4_doorAt 13 = .ok (.goto 4, 3) := by decide +kernel
theorem dX4_doorAt_16 : decode cX4_doorAt 16 = .ok (.aconst_null, 1) := by decide +kernel
theorem dX4_doorAt_17 : decode cX4_doorAt 17 = .ok (.areturn, 1) := by decide +kernel
theorem dX4_houseAt_0 : decode cX4_houseAt 0 = .ok (.iload_n 1, 1) := by decide +kernel
theorem dX4_houseAt_1 : decode cX4_houseAt 1 = .ok (.iconst 5, 1) := by decide +kernel
theorem dX4_houseAt_2 : decode cX4_houseAt 2 = .ok (.invokestatic 58, 3) := by decide +kernel
theorem dX4_houseAt_5 : decode cX4_houseAt 5 = .ok (.ifCond .eq 12, 3) := by decide +kernel
theorem dX4_houseAt_8 : decode cX4_houseAt 8 = .ok (.aload_n 0, 1) := by decide +kernel
theorem dX4_houseAt_9 : decode cX4_houseAt 9 = .ok (.getfield 17, 3) := by decide +kernel
theorem dX4_houseAt_12 : decode cX4_houseAt 12 = .ok (.iload_n 1, 1) := by decide +kernel
theorem dX4_houseAt_13 : decode cX4_houseAt 13 = .ok (.aaload, 1) := by decide +kernel
theorem dX4_houseAt_14 : decode cX4_houseAt 14 = .ok (.goto 4, 3) := by decide +kernel
theorem dX4_houseAt_17 : decode cX4_houseAt 17 = .ok (.aconst_null, 1) := by decide +kernel
theorem dX4_houseAt_18 : decode cX4_houseAt 18 = .ok (.areturn, 1) := by decide +kernel
theorem dX4_ruleAt_0 : decode cX4_ruleAt 0 = .ok (.iload_n 1, 1) := by decide +kernel
theorem dX4_ruleAt_1 : decode cX4_ruleAt 1 = .ok (.aload_n 0, 1) := by decide +kernel
theorem dX4_ruleAt_2 : decode cX4_ruleAt 2 = .ok (.getfield 27, 3) := by decide +kernel
theorem dX4_ruleAt_5 : decode cX4_ruleAt 5 = .ok (.iconst 1, 1) := by decide +kernel
theorem dX4_ruleAt_6 : decode cX4_ruleAt 6 = .ok (.isub, 1) := by decide +kernel
theorem dX4_ruleAt_7 : decode cX4_ruleAt 7 = .ok (.invokestatic 58, 3) := by decide +kernel
theorem dX4_ruleAt_10 : decode cX4_ruleAt 10 = .ok (.ifCond .eq 12, 3) := by decide +kernel
theorem dX4_ruleAt_13 : decode cX4_ruleAt 13 = .ok (.aload_n 0, 1) := by decide +kernel
theorem dX4_ruleAt_14 : decode cX4_ruleAt 14 = .ok (.getfield 23, 3) := by decide +kernel
theorem dX4_ruleAt_17 : decode cX4_ruleAt 17 = .ok (.iload_n 1, 1) := by decide +kernel
theorem dX4_ruleAt_18 : decode cX4_ruleAt 18 = .ok (.aaload, 1) := by decide +kernel
theorem dX4_ruleAt_19 : decode cX4_ruleAt 19 = .ok (.goto 4, 3) := by decide +kernel
theorem dX4_ruleAt_22 : decode cX4_ruleAt 22 = .ok (.aconst_null, 1) := by decide +kernel
theorem dX4_ruleAt_23 : decode cX4_ruleAt 23 = .ok (.areturn, 1) := by decide +kernel
theorem dX4_isHeld_0 : decode cX4_isHeld 0 = .ok (.aload_n 0, 1) := by decide +kernel
theorem dX4_isHeld_1 : decode cX4_isHeld 1 = .ok (.aload_n 1, 1) := by decide +kernel
theorem dX4_isHeld_2 : decode cX4_isHeld 2 = .ok (.getfield 168, 3) := by decide +kernel
theorem dX4_isHeld_5 : decode cX4_isHeld 5 = .ok (.invokevirtual 50, 3) := by decide +kernel
theorem dX4_isHeld_8 : decode cX4_isHeld 8 = .ok (.astore 4, 2) := by decide +kernel
theorem dX4_isHeld_10 : decode cX4_isHeld 10 = .ok (.aload_n 0, 1) := by decide +kernel
theorem dX4_isHeld_11 : decode cX4_isHeld 11 = .ok (.aload_n 1, 1) := by decide +kernel
theorem dX4_isHeld_12 : decode cX4_isHeld 12 = .ok (.getfield 174, 3) := by decide +kernel
theorem dX4_isHeld_15 : decode cX4_isHeld 15 = .ok (.invokevirtual 50, 3) := by decide +kernel
theorem dX4_isHeld_18 : decode cX4_isHeld 18 = .ok (.astore 5, 2) := by decide +kernel
theorem dX4_isHeld_20 : decode cX4_isHeld 20 = .ok (.aload 4, 2) := by decide +kernel
theorem dX4_isHeld_22 : decode cX4_isHeld 22 = .ok (.ifnull 8, 3) := by decide +kernel
theorem dX4_isHeld_25 : decode cX4_isHeld 25 = .ok (.aload 5, 2) := by decide +kernel
theorem dX4_isHeld_27 : decode cX4_isHeld 27 = .ok (.ifnonnull 5, 3) := by decide +kernel
theorem dX4_isHeld_30 : decode cX4_isHeld 30 = .ok (.iconst 0, 1) := by decide +kernel
theorem dX4_isHeld_31 : decode cX4_isHeld 31 = .ok (.ireturn, 1) := by decide +kernel
theorem dX4_isHeld_32 : decode cX4_isHeld 32 = .ok (.iconst 0, 1) := by decide +kernel
theorem dX4_isHeld_33 : decode cX4_isHeld 33 = .ok (.istore 6, 2) := by decide +kernel
theorem dX4_isHeld_35 : decode cX4_isHeld 35 = .ok (.iload 6, 2) := by decide +kernel
theorem dX4_isHeld_37 : decode cX4_isHeld 37 = .ok (.bipush 8, 2) := by decide +kernel
theorem dX4_isHeld_39 : decode cX4_isHeld 39 = .ok (.if_icmp .ge 62, 3) := by decide +kernel
theorem dX4_isHeld_42 : decode cX4_isHeld 42 = .ok (.aload_n 1, 1) := by decide +kernel
theorem dX4_isHeld_43 : decode cX4_isHeld 43 = .ok (.getfield 171, 3) := by decide +kernel
theorem dX4_isHeld_46 : decode cX4_isHeld 46 = .ok (.iload 6, 2) := by decide +kernel
theorem dX4_isHeld_48 : decode cX4_isHeld 48 = .ok (.ishr, 1) := by decide +kernel
theorem dX4_isHeld_49 : decode cX4_isHeld 49 = .ok (.iconst 1, 1) := by decide +kernel
theorem dX4_isHeld_50 : decode cX4_isHeld 50 = .ok (.iand, 1) := by decide +kernel
theorem dX4_isHeld_51 : decode cX4_isHeld 51 = .ok (.ifCond .eq 7, 3) := by decide +kernel
theorem dX4_isHeld_54 : decode cX4_isHeld 54 = .ok (.iconst 1, 1) := by decide +kernel
theorem dX4_isHeld_55 : decode cX4_isHeld 55 = .ok (.goto 4, 3) := by decide +kernel
theorem dX4_isHeld_58 : decode cX4_isHeld 58 = .ok (.iconst 0, 1) := by decide +kernel
theorem dX4_isHeld_59 : decode cX4_isHeld 59 = .ok (.istore 7, 2) := by decide +kernel
theorem dX4_isHeld_61 : decode cX4_isHeld 61 = .ok (.iload 7, 2) := by decide +kernel
theorem dX4_isHeld_63 : decode cX4_isHeld 63 = .ok (.ifCond .eq 32, 3) := by decide +kernel
theorem dX4_isHeld_66 : decode cX4_isHeld 66 = .ok (.aload 4, 2) := by decide +kernel
theorem dX4_isHeld_68 : decode cX4_isHeld 68 = .ok (.iload_n 2, 1) := by decide +kernel
theorem dX4_isHeld_69 : decode cX4_isHeld 69 = .ok (.iload 6, 2) := by decide +kernel
theorem dX4_isHeld_71 : decode cX4_isHeld 71 = .ok (.invokevirtual 62, 3) := by decide +kernel
theorem dX4_isHeld_74 : decode cX4_isHeld 74 = .ok (.aload 5, 2) := by decide +kernel
theorem dX4_isHeld_76 : decode cX4_isHeld 76 = .ok (.iload_n 3, 1) := by decide +kernel
theorem dX4_isHeld_77 : decode cX4_isHeld 77 = .ok (.iload 6, 2) := by decide +kernel
theorem dX4_isHeld_79 : decode cX4_isHeld 79 = .ok (.aload_n 1, 1) := by decide +kernel
theorem dX4_isHeld_80 : decode cX4_isHeld 80 = .ok (.getfield 177, 3) := by decide +kernel
theorem dX4_isHeld_83 : decode cX4_isHeld 83 = .ok (.iadd, 1) := by decide +kernel
theorem dX4_isHeld_84 : decode cX4_isHeld 84 = .ok (.bipush 8, 2) := by decide +kernel
theorem dX4_isHeld_86 : decode cX4_isHeld 86 = .ok (.irem, 1) := by decide +kernel
theorem dX4_isHeld_87 : decode cX4_isHeld 87 = .ok (.invokevirtual 62, 3) := by decide +kernel
theorem dX4_isHeld_90 : decode cX4_isHeld 90 = .ok (.if_icmp .eq 5, 3) := by decide +kernel
theorem dX4_isHeld_93 : decode cX4_isHeld 93 = .ok (.iconst 0, 1) := by decide +kernel
theorem dX4_isHeld_94 : decode cX4_isHeld 94 = .ok (.ireturn, 1) := by decide +kernel
theorem dX4_isHeld_95 : decode cX4_isHeld 95 = .ok (.iinc 6 1, 3) := by decide +kernel
theorem dX4_isHeld_98 : decode cX4_isHeld 98 = .ok (.goto (-63), 3) := by decide +kernel
theorem dX4_isHeld_101 : decode cX4_isHeld 101 = .ok (.iconst 1, 1) := by decide +kernel
theorem dX4_isHeld_102 : decode cX4_isHeld 102 = .ok (.ireturn, 1) := by decide +kernel
theorem dX4_silentHouses_0 : decode cX4_silentHouses 0 = .ok (.iconst 0, 1) := by decide +kernel
theorem dX4_silentHouses_1 : decode cX4_silentHouses 1 = .ok (.istore_n 1, 1) := by decide +kernel
theorem dX4_silentHouses_2 : decode cX4_silentHouses 2 = .ok (.aload_n 0, 1) := by decide +kernel
theorem dX4_silentHouses_3 : decode cX4_silentHouses 3 = .ok (.getfield 17, 3) := by decide +kernel
theorem dX4_silentHouses_6 : decode cX4_silentHouses 6 = .ok (.astore_n 2, 1) := by decide +kernel
theorem dX4_silentHouses_7 : decode cX4_silentHouses 7 = .ok (.aload_n 2, 1) := by decide +kernel
theorem dX4_silentHouses_8 : decode cX4_silentHouses 8 = .ok (.arraylength, 1) := by decide +kernel
theorem dX4_silentHouses_9 : decode cX4_silentHouses 9 = .ok (.istore_n 3, 1) := by decide +kernel
theorem dX4_silentHouses_10 : decode cX4_silentHouses 10 = .ok (.iconst 0, 1) := by decide +kernel
theorem dX4_silentHouses_11 : decode cX4_silentHouses 11 = .ok (.istore 4, 2) := by decide +kernel
theorem dX4_silentHouses_13 : decode cX4_silentHouses 13 = .ok (.iload 4, 2) := by decide +kernel
theorem dX4_silentHouses_15 : decode cX4_silentHouses 15 = .ok (.iload_n 3, 1) := by decide +kernel
theorem dX4_silentHouses_16 : decode cX4_silentHouses 16 = .ok (.if_icmp .ge 26, 3) := by decide +kernel
theorem dX4_silentHouses_19 : decode cX4_silentHouses 19 = .ok (.aload_n 2, 1) := by decide +kernel
theorem dX4_silentHouses_20 : decode cX4_silentHouses 20 = .ok (.iload 4, 2) := by decide +kernel
theorem dX4_silentHouses_22 : decode cX4_silentHouses 22 = .ok (.aaload, 1) := by decide +kernel
theorem dX4_silentHouses_23 : decode cX4_silentHouses 23 = .ok (.astore 5, 2) := by decide +kernel
theorem dX4_silentHouses_25 : decode cX4_silentHouses 25 = .ok (.aload 5, 2) := by decide +kernel
theorem dX4_silentHouses_27 : decode cX4_silentHouses 27 = .ok (.invokevirtual 147, 3) := by decide +kernel
theorem dX4_silentHouses_30 : decode cX4_silentHouses 30 = .ok (.ifCond .eq 6, 3) := by decide +kernel
theorem dX4_silentHouses_33 : decode cX4_silentHouses 33 = .ok (.iinc 1 1, 3) := by decide +kernel
theorem dX4_silentHouses_36 : decode cX4_silentHouses 36 = .ok (.iinc 4 1, 3) := by decide +kernel
theorem dX4_silentHouses_39 : decode cX4_silentHouses 39 = .ok (.goto (-26), 3) := by decide +kernel
theorem dX4_silentHouses_42 : decode cX4_silentHouses 42 = .ok (.iload_n 1, 1) := by decide +kernel
theorem dX4_silentHouses_43 : decode cX4_silentHouses 43 = .ok (.ireturn, 1) := by decide +kernel
theorem dX4_shutDoors_0 : decode cX4_shutDoors 0 = .ok (.iconst 0, 1) := by decide +kernel
theorem dX4_shutDoors_1 : decode cX4_shutDoors 1 = .ok (.istore_n 1, 1) := by decide +kernel
theorem dX4_shutDoors_2 : decode cX4_shutDoors 2 = .ok (.aload_n 0, 1) := by decide +kernel
theorem dX4_shutDoors_3 : decode cX4_shutDoors 3 = .ok (.getfield 11, 3) := by decide +kernel
theorem dX4_shutDoors_6 : decode cX4_shutDoors 6 = .ok (.astore_n 2, 1) := by decide +kernel
theorem dX4_shutDoors_7 : decode cX4_shutDoors 7 = .ok (.aload_n 2, 1) := by decide +kernel
theorem dX4_shutDoors_8 : decode cX4_shutDoors 8 = .ok (.arraylength, 1) := by decide +kernel
theorem dX4_shutDoors_9 : decode cX4_shutDoors 9 = .ok (.istore_n 3, 1) := by decide +kernel
theorem dX4_shutDoors_10 : decode cX4_shutDoors 10 = .ok (.iconst 0, 1) := by decide +kernel
theorem dX4_shutDoors_11 : decode cX4_shutDoors 11 = .ok (.istore 4, 2) := by decide +kernel
theorem dX4_shutDoors_13 : decode cX4_shutDoors 13 = .ok (.iload 4, 2) := by decide +kernel
theorem dX4_shutDoors_15 : decode cX4_shutDoors 15 = .ok (.iload_n 3, 1) := by decide +kernel
theorem dX4_shutDoors_16 : decode cX4_shutDoors 16 = .ok (.if_icmp .ge 30, 3) := by decide +kernel
theorem dX4_shutDoors_19 : decode cX4_shutDoors 19 = .ok (.aload_n 2, 1) := by decide +kernel
theorem dX4_shutDoors_20 : decode cX4_shutDoors 20 = .ok (.iload 4, 2) := by decide +kernel
theorem dX4_shutDoors_22 : decode cX4_shutDoors 22 = .ok (.aaload, 1) := by decide +kernel
theorem dX4_shutDoors_23 : decode cX4_shutDoors 23 = .ok (.astore 5, 2) := by decide +kernel
theorem dX4_shutDoors_25 : decode cX4_shutDoors 25 = .ok (.aload 5, 2) := by decide +kernel
theorem dX4_shutDoors_27 : decode cX4_shutDoors 27 = .ok (.aload_n 0, 1) := by decide +kernel
theorem dX4_shutDoors_28 : decode cX4_shutDoors 28 = .ok (.getfield 34, 3) := by decide +kernel
theorem dX4_shutDoors_31 : decode cX4_shutDoors 31 = .ok (.invokevirtual 132, 3) := by decide +kernel
theorem dX4_shutDoors_34 : decode cX4_shutDoors 34 = .ok (.ifCond .eq 6, 3) := by decide +kernel
theorem dX4_shutDoors_37 : decode cX4_shutDoors 37 = .ok (.iinc 1 1, 3) := by decide +kernel
theorem dX4_shutDoors_40 : decode cX4_shutDoors 40 = .ok (.iinc 4 1, 3) := by decide +kernel
theorem dX4_shutDoors_43 : decode cX4_shutDoors 43 = .ok (.goto (-30), 3) := by decide +kernel
theorem dX4_shutDoors_46 : decode cX4_shutDoors 46 = .ok (.iload_n 1, 1) := by decide +kernel
theorem dX4_shutDoors_47 : decode cX4_shutDoors 47 = .ok (.ireturn, 1) := by decide +kernel
theorem dX4_becomeCost_0 : decode cX4_becomeCost 0 = .ok (.aload_n 0, 1) := by decide +kernel
theorem dX4_becomeCost_1 : decode cX4_becomeCost 1 = .ok (.ifnonnull 5, 3) := by decide +kernel
theorem dX4_becomeCost_4 : decode cX4_becomeCost 4 = .ok (.iconst (-1), 1) := by decide +kernel
theorem dX4_becomeCost_5 : decode cX4_becomeCost 5 = .ok (.ireturn, 1) := by decide +kernel
theorem dX4_becomeCost_6 : decode cX4_becomeCost 6 = .ok (.aload_n 0, 1) := by decide +kernel
theorem dX4_becomeCost_7 : decode cX4_becomeCost 7 = .ok (.getfield 210, 3) := by decide +kernel
theorem dX4_becomeCost_10 : decode cX4_becomeCost 10 = .ok (.istore_n 2, 1) := by decide +kernel
theorem dX4_becomeCost_11 : decode cX4_becomeCost 11 = .ok (.aload_n 0, 1) := by decide +kernel
theorem dX4_becomeCost_12 : decode cX4_becomeCost 12 = .ok (.iload_n 1, 1) := by decide +kernel
theorem dX4_becomeCost_13 : decode cX4_becomeCost 13 = .ok (.putfield 210, 3) := by decide +kernel
theorem dX4_becomeCost_16 : decode cX4_becomeCost 16 = .ok (.iload_n 2, 1) := by decide +kernel
theorem dX4_becomeCost_17 : decode cX4_becomeCost 17 = .ok (.ireturn, 1) := by decide +kernel
theorem dX4_becomeHours_0 : decode cX4_becomeHours 0 = .ok (.aload_n 0, 1) := by decide +kernel
theorem dX4_becomeHours_1 : decode cX4_becomeHours 1 = .ok (.ifnonnull 5, 3) := by decide +kernel
theorem dX4_becomeHours_4 : decode cX4_becomeHours 4 = .ok (.iconst (-1), 1) := by decide +kernel
theorem dX4_becomeHours_5 : decode cX4_becomeHours 5 = .ok (.ireturn, 1) := by decide +kernel
theorem dX4_becomeHours_6 : decode cX4_becomeHours 6 = .ok (.aload_n 0, 1) := by decide +kernel
theorem dX4_becomeHours_7 : decode cX4_becomeHours 7 = .ok (.getfield 216, 3) := by decide +kernel
theorem dX4_becomeHours_10 : decode cX4_becomeHours 10 = .ok (.istore_n 2, 1) := by decide +kernel
theorem dX4_becomeHours_11 : decode cX4_becomeHours 11 = .ok (.aload_n 0, 1) := by decide +kernel
theorem dX4_becomeHours_12 : decode cX4_becomeHours 12 = .ok (.iload_n 1, 1) := by decide +kernel
theorem dX4_becomeHours_13 : decode cX4_becomeHours 13 = .ok (.putfield 216, 3) := by decide +kernel
theorem dX4_becomeHours_16 : decode cX4_becomeHours 16 = .ok (.iload_n 2, 1) := by decide +kernel
theorem dX4_becomeHours_17 : decode cX4_becomeHours 17 = .ok (.ireturn, 1) := by decide +kernel
theorem dX4_hoursWithout_0 : decode cX4_hoursWithout 0 = .ok (.iconst 0, 1) := by decide +kernel
theorem dX4_hoursWithout_1 : decode cX4_hoursWithout 1 = .ok (.istore_n 2, 1) := by decide +kernel
theorem dX4_hoursWithout_2 : decode cX4_hoursWithout 2 = .ok (.aload_n 0, 1) := by decide +kernel
theorem dX4_hoursWithout_3 : decode cX4_hoursWithout 3 = .ok (.getfield 17, 3) := by decide +kernel
theorem dX4_hoursWithout_6 : decode cX4_hoursWithout 6 = .ok (.astore_n 3, 1) := by decide +kernel
theorem dX4_hoursWithout_7 : decode cX4_hoursWithout 7 = .ok (.aload_n 3, 1) := by decide +kernel
theorem dX4_hoursWithout_8 : decode cX4_hoursWithout 8 = .ok (.arraylength, 1) := by decide +kernel
theorem dX4_hoursWithout_9 : decode cX4_hoursWithout 9 = .ok (.istore 4, 2) := by decide +kernel
theorem dX4_hoursWithout_11 : decode cX4_hoursWithout 11 = .ok (.iconst 0, 1) := by decide +kernel
theorem dX4_hoursWithout_12 : decode cX4_hoursWithout 12 = .ok (.istore 5, 2) := by decide +kernel
theorem dX4_hoursWithout_14 : decode cX4_hoursWithout 14 = .ok (.iload 5, 2) := by decide +kernel
theorem dX4_hoursWithout_16 : decode cX4_hoursWithout 16 = .ok (.iload 4, 2) := by decide +kernel
theorem dX4_hoursWithout_18 : decode cX4_hoursWithout 18 = .ok (.if_icmp .ge 35, 3) := by decide +kernel
theorem dX4_hoursWithout_21 : decode cX4_hoursWithout 21 = .ok (.aload_n 3, 1) := by decide +kernel
theorem dX4_hoursWithout_22 : decode cX4_hoursWithout 22 = .ok (.iload 5, 2) := by decide +kernel
theorem dX4_hoursWithout_24 : decode cX4_hoursWithout 24 = .ok (.aaload, 1) := by decide +kernel
theorem dX4_hoursWithout_25 : decode cX4_hoursWithout 25 = .ok (.astore 6, 2) := by decide +kernel
theorem dX4_hoursWithout_27 : decode cX4_hoursWithout 27 = .ok (.aload 6, 2) := by decide +kernel
theorem dX4_hoursWithout_29 : decode cX4_hoursWithout 29 = .ok (.getfield 83, 3) := by decide +kernel
theorem dX4_hoursWithout_32 : decode cX4_hoursWithout 32 = .ok (.iload_n 1, 1) := by decide +kernel
theorem dX4_hoursWithout_33 : decode cX4_hoursWithout 33 = .ok (.invokevirtual 113, 3) := by decide +kernel
theorem dX4_hoursWithout_36 : decode cX4_hoursWithout 36 = .ok (.ifCond .eq 11, 3) := by decide +kernel
theorem dX4_hoursWithout_39 : decode cX4_hoursWithout 39 = .ok (.iload_n 2, 1) := by decide +kernel
theorem dX4_hoursWithout_40 : decode cX4_hoursWithout 40 = .ok (.aload 6, 2) := by decide +kernel
theorem dX4_hoursWithout_42 : decode cX4_hoursWithout 42 = .ok (.getfield 216, 3) := by decide +kernel
theorem dX4_hoursWithout_45 : decode cX4_hoursWithout 45 = .ok (.iadd, 1) := by decide +kernel
theorem dX4_hoursWithout_46 : decode cX4_hoursWithout 46 = .ok (.istore_n 2, 1) := by decide +kernel
theorem dX4_hoursWithout_47 : decode cX4_hoursWithout 47 = .ok (.iinc 5 1, 3) := by decide +kernel
theorem dX4_hoursWithout_50 : decode cX4_hoursWithout 50 = .ok (.goto (-36), 3) := by decide +kernel
theorem dX4_hoursWithout_53 : decode cX4_hoursWithout 53 = .ok (.iload_n 2, 1) := by decide +kernel
theorem dX4_hoursWithout_54 : decode cX4_hoursWithout 54 = .ok (.ireturn, 1) := by decide +kernel
theorem dX4_isKept_0 : decode cX4_isKept 0 = .ok (.aload_n 1, 1) := by decide +kernel
theorem dX4_isKept_1 : decode cX4_isKept 1 = .ok (.aload_n 0, 1) := by decide +kernel
theorem dX4_isKept_2 : decode cX4_isKept 2 = .ok (.getfield 34, 3) := by decide +kernel
theorem dX4_isKept_5 : decode cX4_isKept 5 = .ok (.iconst 1, 1) := by decide +kernel
theorem dX4_isKept_6 : decode cX4_isKept 6 = .ok (.iadd, 1) := by decide +kernel
theorem dX4_isKept_7 : decode cX4_isKept 7 = .ok (.invokevirtual 183, 3) := by decide +kernel
theorem dX4_isKept_10 : decode cX4_isKept 10 = .ok (.ifCond .ne 11, 3) := by decide +kernel
theorem dX4_isKept_13 : decode cX4_isKept 13 = .ok (.aload_n 1, 1) := by decide +kernel
theorem dX4_isKept_14 : decode cX4_isKept 14 = .ok (.getfield 210, 3) := by decide +kernel
theorem dX4_isKept_17 : decode cX4_isKept 17 = .ok (.iload_n 2, 1) := by decide +kernel
theorem dX4_isKept_18 : decode cX4_isKept 18 = .ok (.if_icmp .ge 7, 3) := by decide +kernel
theorem dX4_isKept_21 : decode cX4_isKept 21 = .ok (.iconst 1, 1) := by decide +kernel
theorem dX4_isKept_22 : decode cX4_isKept 22 = .ok (.goto 4, 3) := by decide +kernel
theorem dX4_isKept_25 : decode cX4_isKept 25 = .ok (.iconst 0, 1) := by decide +kernel
theorem dX4_isKept_26 : decode cX4_isKept 26 = .ok (.ireturn, 1) := by decide +kernel
theorem dJ6_bitCount_0f7a4_0 : decode cJ6_bitCount_0f7a4 0 = .ok (.iload_n 0, 1) := by decide +kernel
theorem dJ6_bitCount_0f7a4_1 : decode cJ6_bitCount_0f7a4 1 = .ok (.iload_n 0, 1) := by decide +kernel
theorem dJ6_bitCount_0f7a4_2 : decode cJ6_bitCount_0f7a4 2 = .ok (.iconst 1, 1) := by decide +kernel
theorem dJ6_bitCount_0f7a4_3 : decode cJ6_bitCount_0f7a4 3 = .ok (.iushr, 1) := by decide +kernel
theorem dJ6_bitCount_0f7a4_4 : decode cJ6_bitCount_0f7a4 4 = .ok (.ldc_w 265, 3) := by decide +kernel
theorem dJ6_bitCount_0f7a4_7 : decode cJ6_bitCount_0f7a4 7 = .ok (.iand, 1) := by decide +kernel
theorem dJ6_bitCount_0f7a4_8 : decode cJ6_bitCount_0f7a4 8 = .ok (.isub, 1) := by decide +kernel
theorem dJ6_bitCount_0f7a4_9 : decode cJ6_bitCount_0f7a4 9 = .ok (.istore_n 0, 1) := by decide +kernel
theorem dJ6_bitCount_0f7a4_10 : decode cJ6_bitCount_0f7a4 10 = .ok (.iload_n 0, 1) := by decide +kernel
theorem dJ6_bitCount_0f7a4_11 : decode cJ6_bitCount_0f7a4 11 = .ok (.ldc_w 266, 3) := by decide +kernel
theorem dJ6_bitCount_0f7a4_14 : decode cJ6_bitCount_0f7a4 14 = .ok (.iand, 1) := by decide +kernel
theorem dJ6_bitCount_0f7a4_15 : decode cJ6_bitCount_0f7a4 15 = .ok (.iload_n 0, 1) := by decide +kernel
theorem dJ6_bitCount_0f7a4_16 : decode cJ6_bitCount_0f7a4 16 = .ok (.iconst 2, 1) := by decide +kernel
theorem dJ6_bitCount_0f7a4_17 : decode cJ6_bitCount_0f7a4 17 = .ok (.iushr, 1) := by decide +kernel
theorem dJ6_bitCount_0f7a4_18 : decode cJ6_bitCount_0f7a4 18 = .ok (.ldc_w 266, 3) := by decide +kernel
theorem dJ6_bitCount_0f7a4_21 : decode cJ6_bitCount_0f7a4 21 = .ok (.iand, 1) := by decide +kernel
theorem dJ6_bitCount_0f7a4_22 : decode cJ6_bitCount_0f7a4 22 = .ok (.iadd, 1) := by decide +kernel
theorem dJ6_bitCount_0f7a4_23 : decode cJ6_bitCount_0f7a4 23 = .ok (.istore_n 0, 1) := by decide +kernel
theorem dJ6_bitCount_0f7a4_24 : decode cJ6_bitCount_0f7a4 24 = .ok (.iload_n 0, 1) := by decide +kernel
theorem dJ6_bitCount_0f7a4_25 : decode cJ6_bitCount_0f7a4 25 = .ok (.iload_n 0, 1) := by decide +kernel
theorem dJ6_bitCount_0f7a4_26 : decode cJ6_bitCount_0f7a4 26 = .ok (.iconst 4, 1) := by decide +kernel
theorem dJ6_bitCount_0f7a4_27 : decode cJ6_bitCount_0f7a4 27 = .ok (.iushr, 1) := by decide +kernel
theorem dJ6_bitCount_0f7a4_28 : decode cJ6_bitCount_0f7a4 28 = .ok (.iadd, 1) := by decide +kernel
theorem dJ6_bitCount_0f7a4_29 : decode cJ6_bitCount_0f7a4 29 = .ok (.ldc_w 267, 3) := by decide +kernel
theorem dJ6_bitCount_0f7a4_32 : decode cJ6_bitCount_0f7a4 32 = .ok (.iand, 1) := by decide +kernel
theorem dJ6_bitCount_0f7a4_33 : decode cJ6_bitCount_0f7a4 33 = .ok (.istore_n 0, 1) := by decide +kernel
theorem dJ6_bitCount_0f7a4_34 : decode cJ6_bitCount_0f7a4 34 = .ok (.iload_n 0, 1) := by decide +kernel
theorem dJ6_bitCount_0f7a4_35 : decode cJ6_bitCount_0f7a4 35 = .ok (.iload_n 0, 1) := by decide +kernel
theorem dJ6_bitCount_0f7a4_36 : decode cJ6_bitCount_0f7a4 36 = .ok (.bipush 8, 2) := by decide +kernel
theorem dJ6_bitCount_0f7a4_38 : decode cJ6_bitCount_0f7a4 38 = .ok (.iushr, 1) := by decide +kernel
theorem dJ6_bitCount_0f7a4_39 : decode cJ6_bitCount_0f7a4 39 = .ok (.iadd, 1) := by decide +kernel
theorem dJ6_bitCount_0f7a4_40 : decode cJ6_bitCount_0f7a4 40 = .ok (.istore_n 0, 1) := by decide +kernel
theorem dJ6_bitCount_0f7a4_41 : decode cJ6_bitCount_0f7a4 41 = .ok (.iload_n 0, 1) := by decide +kernel
theorem dJ6_bitCount_0f7a4_42 : decode cJ6_bitCount_0f7a4 42 = .ok (.iload_n 0, 1) := by decide +kernel
theorem dJ6_bitCount_0f7a4_43 : decode cJ6_bitCount_0f7a4 43 = .ok (.bipush 16, 2) := by decide +kernel
theorem dJ6_bitCount_0f7a4_45 : decode cJ6_bitCount_0f7a4 45 = .ok (.iushr, 1) := by decide +kernel
theorem dJ6_bitCount_0f7a4_46 : decode cJ6_bitCount_0f7a4 46 = .ok (.iadd, 1) := by decide +kernel
theorem dJ6_bitCount_0f7a4_47 : decode cJ6_bitCount_0f7a4 47 = .ok (.istore_n 0, 1) := by decide +kernel
theorem dJ6_bitCount_0f7a4_48 : decode cJ6_bitCount_0f7a4 48 = .ok (.iload_n 0, 1) := by decide +kernel
theorem dJ6_bitCount_0f7a4_49 : decode cJ6_bitCount_0f7a4 49 = .ok (.bipush 63, 2) := by decide +kernel
theorem dJ6_bitCount_0f7a4_51 : decode cJ6_bitCount_0f7a4 51 = .ok (.iand, 1) := by decide +kernel
theorem dJ6_bitCount_0f7a4_52 : decode cJ6_bitCount_0f7a4 52 = .ok (.ireturn, 1) := by decide +kernel
theorem dJ9_max_7cf53_0 : decode cJ9_max_7cf53 0 = .ok (.iload_n 0, 1) := by decide +kernel
theorem dJ9_max_7cf53_1 : decode cJ9_max_7cf53 1 = .ok (.iload_n 1, 1) := by decide +kernel
theorem dJ9_max_7cf53_2 : decode cJ9_max_7cf53 2 = .ok (.if_icmp .lt 7, 3) := by decide +kernel
theorem dJ9_max_7cf53_5 : decode cJ9_max_7cf53 5 = .ok (.iload_n 0, 1) := by decide +kernel
theorem dJ9_max_7cf53_6 : decode cJ9_max_7cf53 6 = .ok (.goto 4, 3) := by decide +kernel
theorem dJ9_max_7cf53_9 : decode cJ9_max_7cf53 9 = .ok (.iload_n 1, 1) := by decide +kernel
theorem dJ9_max_7cf53_10 : decode cJ9_max_7cf53 10 = .ok (.ireturn, 1) := by decide +kernel
theorem dJ9_min_7cf53_0 : decode cJ9_min_7cf53 0 = .ok (.iload_n 0, 1) := by decide +kernel
theorem dJ9_min_7cf53_1 : decode cJ9_min_7cf53 1 = .ok (.iload_n 1, 1) := by decide +kernel
theorem dJ9_min_7cf53_2 : decode cJ9_min_7cf53 2 = .ok (.if_icmp .gt 7, 3) := by decide +kernel
theorem dJ9_min_7cf53_5 : decode cJ9_min_7cf53 5 = .ok (.iload_n 0, 1) := by decide +kernel
theorem dJ9_min_7cf53_6 : decode cJ9_min_7cf53 6 = .ok (.goto 4, 3) := by decide +kernel
theorem dJ9_min_7cf53_9 : decode cJ9_min_7cf53 9 = .ok (.iload_n 1, 1) := by decide +kernel
theorem dJ9_min_7cf53_10 : decode cJ9_min_7cf53 10 = .ok (.ireturn, 1) := by decide +kernel
theorem dJ7_fill_53178_0 : decode cJ7_fill_53178 0 = .ok (.iconst 0, 1) := by decide +kernel
theorem dJ7_fill_53178_1 : decode cJ7_fill_53178 1 = .ok (.istore_n 2, 1) := by decide +kernel
theorem dJ7_fill_53178_2 : decode cJ7_fill_53178 2 = .ok (.aload_n 0, 1) := by decide +kernel
theorem dJ7_fill_53178_3 : decode cJ7_fill_53178 3 = .ok (.arraylength, 1) := by decide +kernel
theorem dJ7_fill_53178_4 : decode cJ7_fill_53178 4 = .ok (.istore_n 3, 1) := by decide +kernel
theorem dJ7_fill_53178_5 : decode cJ7_fill_53178 5 = .ok (.iload_n 2, 1) := by decide +kernel
theorem dJ7_fill_53178_6 : decode cJ7_fill_53178 6 = .ok (.iload_n 3, 1) := by decide +kernel
theorem dJ7_fill_53178_7 : decode cJ7_fill_53178 7 = .ok (.if_icmp .ge 13, 3) := by decide +kernel
theorem dJ7_fill_53178_10 : decode cJ7_fill_53178 10 = .ok (.aload_n 0, 1) := by decide +kernel
theorem dJ7_fill_53178_11 : decode cJ7_fill_53178 11 = .ok (.iload_n 2, 1) := by decide +kernel
theorem dJ7_fill_53178_12 : decode cJ7_fill_53178 12 = .ok (.iload_n 1, 1) := by decide +kernel
theorem dJ7_fill_53178_13 : decode cJ7_fill_53178 13 = .ok (.iastore, 1) := by decide +kernel
theorem dJ7_fill_53178_14 : decode cJ7_fill_53178 14 = .ok (.iinc 2 1, 3) := by decide +kernel
theorem dJ7_fill_53178_17 : decode cJ7_fill_53178 17 = .ok (.goto (-12), 3) := by decide +kernel
theorem dJ7_fill_53178_20 : decode cJ7_fill_53178 20 = .ok (.return_, 1) := by decide +kernel
