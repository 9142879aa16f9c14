theorem d_B_init_0 : decode b_B_init 0 = .ok (.aload_n 0, 1) := by decide +kernel
theorem d_B_init_1 : decode b_B_init 1 = .ok (.invokespecial 3, 3) := by decide +kernel
theorem d_B_init_4 : decode b_B_init 4 = .ok (.aload_n 0, 1) := by decide +kernel
theorem d_B_init_5 : decode b_B_init 5 = .ok (.new 9, 3) := by decide +kernel
theorem d_B_init_8 : decode b_B_init 8 = .ok (.dup, 1) := by decide +kernel
theorem d_B_init_9 : decode b_B_init 9 = .ok (.bipush 16, 2) := by decide +kernel
theorem d_B_init_11 : decode b_B_init 11 = .ok (.invokespecial 11, 3) := by decide +kernel
theorem d_B_init_14 : decode b_B_init 14 = .ok (.putfield 14, 3) := by decide +kernel
theorem d_B_init_17 : decode b_B_init 17 = .ok (.aload_n 0, 1) := by decide +kernel
theorem d_B_init_18 : decode b_B_init 18 = .ok (.new 9, 3) := by decide +kernel
theorem d_B_init_21 : decode b_B_init 21 = .ok (.dup, 1) := by decide +kernel
theorem d_B_init_22 : decode b_B_init 22 = .ok (.bipush 16, 2) := by decide +kernel
theorem d_B_init_24 : decode b_B_init 24 = .ok (.invokespecial 11, 3) := by decide +kernel
theorem d_B_init_27 : decode b_B_init 27 = .ok (.putfield 20, 3) := by decide +kernel
theorem d_B_init_30 : decode b_B_init 30 = .ok (.aload_n 0, 1) := by decide +kernel
theorem d_B_init_31 : decode b_B_init 31 = .ok (.new 9, 3) := by decide +kernel
theorem d_B_init_34 : decode b_B_init 34 = .ok (.dup, 1) := by decide +kernel
theorem d_B_init_35 : decode b_B_init 35 = .ok (.bipush 9, 2) := by decide +kernel
theorem d_B_init_37 : decode b_B_init 37 = .ok (.invokespecial 11, 3) := by decide +kernel
theorem d_B_init_40 : decode b_B_init 40 = .ok (.putfield 23, 3) := by decide +kernel
theorem d_B_init_43 : decode b_B_init 43 = .ok (.aload_n 0, 1) := by decide +kernel
theorem d_B_init_44 : decode b_B_init 44 = .ok (.new 9, 3) := by decide +kernel
theorem d_B_init_47 : decode b_B_init 47 = .ok (.dup, 1) := by decide +kernel
theorem d_B_init_48 : decode b_B_init 48 = .ok (.bipush 9, 2) := by decide +kernel
theorem d_B_init_50 : decode b_B_init 50 = .ok (.invokespecial 11, 3) := by decide +kernel
theorem d_B_init_53 : decode b_B_init 53 = .ok (.putfield 26, 3) := by decide +kernel
theorem d_B_init_56 : decode b_B_init 56 = .ok (.aload_n 0, 1) := by decide +kernel
theorem d_B_init_57 : decode b_B_init 57 = .ok (.iconst 1, 1) := by decide +kernel
theorem d_B_init_58 : decode b_B_init 58 = .ok (.putfield 29, 3) := by decide +kernel
theorem d_B_init_61 : decode b_B_init 61 = .ok (.return_, 1) := by decide +kernel
theorem d_B_become_0 : decode b_B_become 0 = .ok (.aload_n 0, 1) := by decide +kernel
theorem d_B_become_1 : decode b_B_become 1 = .ok (.getfield 14, 3) := by decide +kernel
theorem d_B_become_4 : decode b_B_become 4 = .ok (.aload_n 1, 1) := by decide +kernel
theorem d_B_become_5 : decode b_B_become 5 = .ok (.getfield 14, 3) := by decide +kernel
theorem d_B_become_8 : decode b_B_become 8 = .ok (.invokevirtual 33, 3) := by decide +kernel
theorem d_B_become_11 : decode b_B_become 11 = .ok (.aload_n 0, 1) := by decide +kernel
theorem d_B_become_12 : decode b_B_become 12 = .ok (.getfield 20, 3) := by decide +kernel
theorem d_B_become_15 : decode b_B_become 15 = .ok (.aload_n 1, 1) := by decide +kernel
theorem d_B_become_16 : decode b_B_become 16 = .ok (.getfield 20, 3) := by decide +kernel
theorem d_B_become_19 : decode b_B_become 19 = .ok (.invokevirtual 33, 3) := by decide +kernel
theorem d_B_become_22 : decode b_B_become 22 = .ok (.aload_n 0, 1) := by decide +kernel
theorem d_B_become_23 : decode b_B_become 23 = .ok (.getfield 23, 3) := by decide +kernel
theorem d_B_become_26 : decode b_B_become 26 = .ok (.aload_n 1, 1) := by decide +kernel
theorem d_B_become_27 : decode b_B_become 27 = .ok (.getfield 23, 3) := by decide +kernel
theorem d_B_become_30 : decode b_B_become 30 = .ok (.invokevirtual 33, 3) := by decide +kernel
theorem d_B_become_33 : decode b_B_become 33 = .ok (.aload_n 0, 1) := by decide +kernel
theorem d_B_become_34 : decode b_B_become 34 = .ok (.getfield 26, 3) := by decide +kernel
theorem d_B_become_37 : decode b_B_become 37 = .ok (.aload_n 1, 1) := by decide +kernel
theorem d_B_become_38 : decode b_B_become 38 = .ok (.getfield 26, 3) := by decide +kernel
theorem d_B_become_41 : decode b_B_become 41 = .ok (.invokevirtual 33, 3) := by decide +kernel
theorem d_B_become_44 : decode b_B_become 44 = .ok (.aload_n 0, 1) := by decide +kernel
theorem d_B_become_45 : decode b_B_become 45 = .ok (.aload_n 1, 1) := by decide +kernel
theorem d_B_become_46 : decode b_B_become 46 = .ok (.getfield 29, 3) := by decide +kernel
theorem d_B_become_49 : decode b_B_become 49 = .ok (.putfield 29, 3) := by decide +kernel
theorem d_B_become_52 : decode b_B_become 52 = .ok (.return_, 1) := by decide +kernel
theorem d_B_size_0 : decode b_B_size 0 = .ok (.aload_n 0, 1) := by decide +kernel
theorem d_B_size_1 : decode b_B_size 1 = .ok (.getfield 14, 3) := by decide +kernel
theorem d_B_size_4 : decode b_B_size 4 = .ok (.invokevirtual 37, 3) := by decide +kernel
theorem d_B_size_7 : decode b_B_size 7 = .ok (.ireturn, 1) := by decide +kernel
theorem d_B_hasWheel_0 : decode b_B_hasWheel 0 = .ok (.aload_n 0, 1) := by decide +kernel
theorem d_B_hasWheel_1 : decode b_B_hasWheel 1 = .ok (.getfield 14, 3) := by decide +kernel
theorem d_B_hasWheel_4 : decode b_B_hasWheel 4 = .ok (.iload_n 1, 1) := by decide +kernel
theorem d_B_hasWheel_5 : decode b_B_hasWheel 5 = .ok (.invokevirtual 41, 3) := by decide +kernel
theorem d_B_hasWheel_8 : decode b_B_hasWheel 8 = .ok (.ireturn, 1) := by decide +kernel
theorem d_B_teethOf_0 : decode b_B_teethOf 0 = .ok (.aload_n 0, 1) := by decide +kernel
theorem d_B_teethOf_1 : decode b_B_teethOf 1 = .ok (.getfield 14, 3) := by decide +kernel
theorem d_B_teethOf_4 : decode b_B_teethOf 4 = .ok (.iload_n 1, 1) := by decide +kernel
theorem d_B_teethOf_5 : decode b_B_teethOf 5 = .ok (.invokevirtual 45, 3) := by decide +kernel
theorem d_B_teethOf_8 : decode b_B_teethOf 8 = .ok (.ireturn, 1) := by decide +kernel
theorem d_B_pressureNow_0 : decode b_B_pressureNow 0 = .ok (.aload_n 0, 1) := by decide +kernel
theorem d_B_pressureNow_1 : decode b_B_pressureNow 1 = .ok (.getfield 29, 3) := by decide +kernel
theorem d_B_pressureNow_4 : decode b_B_pressureNow 4 = .ok (.ireturn, 1) := by decide +kernel
theorem d_B_pairsInTrain_0 : decode b_B_pairsInTrain 0 = .ok (.aload_n 0, 1) := by decide +kernel
theorem d_B_pairsInTrain_1 : decode b_B_pairsInTrain 1 = .ok (.getfield 23, 3) := by decide +kernel
theorem d_B_pairsInTrain_4 : decode b_B_pairsInTrain 4 = .ok (.invokevirtual 37, 3) := by decide +kernel
theorem d_B_pairsInTrain_7 : decode b_B_pairsInTrain 7 = .ok (.ireturn, 1) := by decide +kernel
theorem d_B_addWheel_0 : decode b_B_addWheel 0 = .ok (.iload_n 1, 1) := by decide +kernel
theorem d_B_addWheel_1 : decode b_B_addWheel 1 = .ok (.invokestatic 49, 3) := by decide +kernel
theorem d_B_addWheel_4 : decode b_B_addWheel 4 = .ok (.ifCond .ne 5, 3) := by decide +kernel
theorem d_B_addWheel_7 : decode b_B_addWheel 7 = .ok (.iconst (-1), 1) := by decide +kernel
theorem d_B_addWheel_8 : decode b_B_addWheel 8 = .ok (.ireturn, 1) := by decide +kernel
theorem d_B_addWheel_9 : decode b_B_addWheel 9 = .ok (.aload_n 0, 1) := by decide +kernel
theorem d_B_addWheel_10 : decode b_B_addWheel 10 = .ok (.getfield 14, 3) := by decide +kernel
theorem d_B_addWheel_13 : decode b_B_addWheel 13 = .ok (.invokevirtual 52, 3) := by decide +kernel
theorem d_B_addWheel_16 : decode b_B_addWheel 16 = .ok (.ifCond .eq 6, 3) := by decide +kernel
theorem d_B_addWheel_19 : decode b_B_addWheel 19 = .ok (.bipush (-3), 2) := by decide +kernel
theorem d_B_addWheel_21 : decode b_B_addWheel 21 = .ok (.ireturn, 1) := by decide +kernel
theorem d_B_addWheel_22 : decode b_B_addWheel 22 = .ok (.aload_n 0, 1) := by decide +kernel
theorem d_B_addWheel_23 : decode b_B_addWheel 23 = .ok (.getfield 14, 3) := by decide +kernel
theorem d_B_addWheel_26 : decode b_B_addWheel 26 = .ok (.iload_n 1, 1) := by decide +kernel
theorem d_B_addWheel_27 : decode b_B_addWheel 27 = .ok (.invokevirtual 56, 3) := by decide +kernel
theorem d_B_addWheel_30 : decode b_B_addWheel 30 = .ok (.aload_n 0, 1) := by decide +kernel
theorem d_B_addWheel_31 : decode b_B_addWheel 31 = .ok (.getfield 20, 3) := by decide +kernel
theorem d_B_addWheel_34 : decode b_B_addWheel 34 = .ok (.iconst 0, 1) := by decide +kernel
theorem d_B_addWheel_35 : decode b_B_addWheel 35 = .ok (.invokevirtual 56, 3) := by decide +kernel
theorem d_B_addWheel_38 : decode b_B_addWheel 38 = .ok (.aload_n 0, 1) := by decide +kernel
theorem d_B_addWheel_39 : decode b_B_addWheel 39 = .ok (.getfield 14, 3) := by decide +kernel
theorem d_B_addWheel_42 : decode b_B_addWheel 42 = .ok (.invokevirtual 37, 3) := by decide +kernel
theorem d_B_addWheel_45 : decode b_B_addWheel 45 = .ok (.iconst 1, 1) := by decide +kernel
theorem d_B_addWheel_46 : decode b_B_addWheel 46 = .ok (.isub, 1) := by decide +kernel
theorem d_B_addWheel_47 : decode b_B_addWheel 47 = .ok (.ireturn, 1) := by decide +kernel
theorem d_B_setShift_0 : decode b_B_setShift 0 = .ok (.aload_n 0, 1) := by decide +kernel
theorem d_B_setShift_1 : decode b_B_setShift 1 = .ok (.getfield 14, 3) := by decide +kernel
theorem d_B_setShift_4 : decode b_B_setShift 4 = .ok (.iload_n 1, 1) := by decide +kernel
theorem d_B_setShift_5 : decode b_B_setShift 5 = .ok (.invokevirtual 41, 3) := by decide +kernel
theorem d_B_setShift_8 : decode b_B_setShift 8 = .ok (.ifCond .eq 10, 3) := by decide +kernel
theorem d_B_setShift_11 : decode b_B_setShift 11 = .ok (.iload_n 2, 1) := by decide +kernel
theorem d_B_setShift_12 : decode b_B_setShift 12 = .ok (.invokestatic 59, 3) := by decide +kernel
theorem d_B_setShift_15 : decode b_B_setShift 15 = .ok (.ifCond .ne 7, 3) := by decide +kernel
theorem d_B_setShift_18 : decode b_B_setShift 18 = .ok (.sipush (-1000), 3) := by decide +kernel
theorem d_B_setShift_21 : decode b_B_setShift 21 = .ok (.ireturn, 1) := by decide +kernel
theorem d_B_setShift_22 : decode b_B_setShift 22 = .ok (.aload_n 0, 1) := by decide +kernel
theorem d_B_setShift_23 : decode b_B_setShift 23 = .ok (.getfield 20, 3) := by decide +kernel
theorem d_B_setShift_26 : decode b_B_setShift 26 = .ok (.iload_n 1, 1) := by decide +kernel
theorem d_B_setShift_27 : decode b_B_setShift 27 = .ok (.invokevirtual 45, 3) := by decide +kernel
theorem d_B_setShift_30 : decode b_B_setShift 30 = .ok (.istore_n 3, 1) := by decide +kernel
theorem d_B_setShift_31 : decode b_B_setShift 31 = .ok (.aload_n 0, 1) := by decide +kernel
theorem d_B_setShift_32 : decode b_B_setShift 32 = .ok (.getfield 20, 3) := by decide +kernel
theorem d_B_setShift_35 : decode b_B_setShift 35 = .ok (.iload_n 1, 1) := by decide +kernel
theorem d_B_setShift_36 : decode b_B_setShift 36 = .ok (.iload_n 2, 1) := by decide +kernel
theorem d_B_setShift_37 : decode b_B_setShift 37 = .ok (.invokevirtual 62, 3) := by decide +kernel
theorem d_B_setShift_40 : decode b_B_setShift 40 = .ok (.iload_n 3, 1) := by decide +kernel
theorem d_B_setShift_41 : decode b_B_setShift 41 = .ok (.ireturn, 1) := by decide +kernel
theorem d_B_setPressure_0 : decode b_B_setPressure 0 = .ok (.iload_n 1, 1) := by decide +kernel
theorem d_B_setPressure_1 : decode b_B_setPressure 1 = .ok (.ifCond .lt 8, 3) := by decide +kernel
theorem d_B_setPressure_4 : decode b_B_setPressure 4 = .ok (.iload_n 1, 1) := by decide +kernel
theorem d_B_setPressure_5 : decode b_B_setPressure 5 = .ok (.iconst 2, 1) := by decide +kernel
theorem d_B_setPressure_6 : decode b_B_setPressure 6 = .ok (.if_icmp .le 5, 3) := by decide +kernel
theorem d_B_setPressure_9 : decode b_B_setPressure 9 = .ok (.iconst (-1), 1) := by decide +kernel
theorem d_B_setPressure_10 : decode b_B_setPressure 10 = .ok (.ireturn, 1) := by decide +kernel
theorem d_B_setPressure_11 : decode b_B_setPressure 11 = .ok (.aload_n 0, 1) := by decide +kernel
theorem d_B_setPressure_12 : decode b_B_setPressure 12 = .ok (.getfield 29, 3) := by decide +kernel
theorem d_B_setPressure_15 : decode b_B_setPressure 15 = .ok (.istore_n 2, 1) := by decide +kernel
theorem d_B_setPressure_16 : decode b_B_setPressure 16 = .ok (.aload_n 0, 1) := by decide +kernel
theorem d_B_setPressure_17 : decode b_B_setPressure 17 = .ok (.iload_n 1, 1) := by decide +kernel
theorem d_B_setPressure_18 : decode b_B_setPressure 18 = .ok (.putfield 29, 3) := by decide +kernel
theorem d_B_setPressure_21 : decode b_B_setPressure 21 = .ok (.iload_n 2, 1) := by decide +kernel
theorem d_B_setPressure_22 : decode b_B_setPressure 22 = .ok (.ireturn, 1) := by decide +kernel
theorem d_B_addPair_0 : decode b_B_addPair 0 = .ok (.aload_n 0, 1) := by decide +kernel
theorem d_B_addPair_1 : decode b_B_addPair 1 = .ok (.iload_n 1, 1) := by decide +kernel
theorem d_B_addPair_2 : decode b_B_addPair 2 = .ok (.iload_n 2, 1) := by decide +kernel
theorem d_B_addPair_3 : decode b_B_addPair 3 = .ok (.invokevirtual 66, 3) := by decide +kernel
theorem d_B_addPair_6 : decode b_B_addPair 6 = .ok (.ifCond .ne 5, 3) := by decide +kernel
theorem d_B_addPair_9 : decode b_B_addPair 9 = .ok (.iconst (-1), 1) := by decide +kernel
theorem d_B_addPair_10 : decode b_B_addPair 10 = .ok (.ireturn, 1) := by decide +kernel
theorem d_B_addPair_11 : decode b_B_addPair 11 = .ok (.aload_n 0, 1) := by decide +kernel
theorem d_B_addPair_12 : decode b_B_addPair 12 = .ok (.getfield 23, 3) := by decide +kernel
theorem d_B_addPair_15 : decode b_B_addPair 15 = .ok (.invokevirtual 52, 3) := by decide +kernel
theorem d_B_addPair_18 : decode b_B_addPair 18 = .ok (.ifCond .eq 6, 3) := by decide +kernel
theorem d_B_addPair_21 : decode b_B_addPair 21 = .ok (.bipush (-3), 2) := by decide +kernel
theorem d_B_addPair_23 : decode b_B_addPair 23 = .ok (.ireturn, 1) := by decide +kernel
theorem d_B_addPair_24 : decode b_B_addPair 24 = .ok (.aload_n 0, 1) := by decide +kernel
theorem d_B_addPair_25 : decode b_B_addPair 25 = .ok (.getfield 23, 3) := by decide +kernel
theorem d_B_addPair_28 : decode b_B_addPair 28 = .ok (.iload_n 1, 1) := by decide +kernel
theorem d_B_addPair_29 : decode b_B_addPair 29 = .ok (.invokevirtual 56, 3) := by decide +kernel
theorem d_B_addPair_32 : decode b_B_addPair 32 = .ok (.aload_n 0, 1) := by decide +kernel
theorem d_B_addPair_33 : decode b_B_addPair 33 = .ok (.getfield 26, 3) := by decide +kernel
theorem d_B_addPair_36 : decode b_B_addPair 36 = .ok (.iload_n 2, 1) := by decide +kernel
theorem d_B_addPair_37 : decode b_B_addPair 37 = .ok (.invokevirtual 56, 3) := by decide +kernel
theorem d_B_addPair_40 : decode b_B_addPair 40 = .ok (.aload_n 0, 1) := by decide +kernel
theorem d_B_addPair_41 : decode b_B_addPair 41 = .ok (.getfield 23, 3) := by decide +kernel
theorem d_B_addPair_44 : decode b_B_addPair 44 = .ok (.invokevirtual 37, 3) := by decide +kernel
theorem d_B_addPair_47 : decode b_B_addPair 47 = .ok (.ireturn, 1) := by decide +kernel
theorem d_B_emptyTrain_0 : decode b_B_emptyTrain 0 = .ok (.aload_n 0, 1) := by decide +kernel
theorem d_B_emptyTrain_1 : decode b_B_emptyTrain 1 = .ok (.getfield 23, 3) := by decide +kernel
theorem d_B_emptyTrain_4 : decode b_B_emptyTrain 4 = .ok (.invokevirtual 37, 3) := by decide +kernel
theorem d_B_emptyTrain_7 : decode b_B_emptyTrain 7 = .ok (.istore_n 1, 1) := by decide +kernel
theorem d_B_emptyTrain_8 : decode b_B_emptyTrain 8 = .ok (.aload_n 0, 1) := by decide +kernel
theorem d_B_emptyTrain_9 : decode b_B_emptyTrain 9 = .ok (.getfield 23, 3) := by decide +kernel
theorem d_B_emptyTrain_12 : decode b_B_emptyTrain 12 = .ok (.invokevirtual 70, 3) := by decide +kernel
theorem d_B_emptyTrain_15 : decode b_B_emptyTrain 15 = .ok (.aload_n 0, 1) := by decide +kernel
theorem d_B_emptyTrain_16 : decode b_B_emptyTrain 16 = .ok (.getfield 26, 3) := by decide +kernel
theorem d_B_emptyTrain_19 : decode b_B_emptyTrain 19 = .ok (.invokevirtual 70, 3) := by decide +kernel
theorem d_B_emptyTrain_22 : decode b_B_emptyTrain 22 = .ok (.iload_n 1, 1) := by decide +kernel
theorem d_B_emptyTrain_23 : decode b_B_emptyTrain 23 = .ok (.ireturn, 1) := by decide +kernel
theorem d_B_does_0 : decode b_B_does 0 = .ok (.iload_n 1, 1) := by decide +kernel
theorem d_B_does_1 : decode b_B_does 1 = .ok (.tableswitch 126 112 120 #[83, 126, 126, 65, 98, 126, 126, 51, 113], 51) := by decide +kernel
theorem d_B_does_52 : decode b_B_does 52 = .ok (.aload_n 0, 1) := by decide +kernel
theorem d_B_does_53 : decode b_B_does 53 = .ok (.iload_n 2, 1) := by decide +kernel
theorem d_B_does_54 : decode b_B_does 54 = .ok (.invokevirtual 73, 3) := by decide +kernel
theorem d_B_does_57 : decode b_B_does 57 = .ok (.ifCond .lt 7, 3) := by decide +kernel
theorem d_B_does_60 : decode b_B_does 60 = .ok (.iconst 1, 1) := by decide +kernel
theorem d_B_does_61 : decode b_B_does 61 = .ok (.goto 4, 3) := by decide +kernel
theorem d_B_does_64 : decode b_B_does 64 = .ok (.iconst 0, 1) := by decide +kernel
theorem d_B_does_65 : decode b_B_does 65 = .ok (.ireturn, 1) := by decide +kernel
theorem d_B_does_66 : decode b_B_does 66 = .ok (.aload_n 0, 1) := by decide +kernel
theorem d_B_does_67 : decode b_B_does 67 = .ok (.iload_n 2, 1) := by decide +kernel
theorem d_B_does_68 : decode b_B_does 68 = .ok (.iload_n 3, 1) := by decide +kernel
theorem d_B_does_69 : decode b_B_does 69 = .ok (.invokevirtual 76, 3) := by decide +kernel
theorem d_B_does_72 : decode b_B_does 72 = .ok (.sipush (-1000), 3) := by decide +kernel
theorem d_B_does_75 : decode b_B_does 75 = .ok (.if_icmp .eq 7, 3) := by decide +kernel
theorem d_B_does_78 : decode b_B_does 78 = .ok (.iconst 1, 1) := by decide +kernel
theorem d_B_does_79 : decode b_B_does 79 = .ok (.goto 4, 3) := by decide +kernel
theorem d_B_does_82 : decode b_B_does 82 = .ok (.iconst 0, 1) := by decide +kernel
theorem d_B_does_83 : decode b_B_does 83 = .ok (.ireturn, 1) := by decide +kernel
theorem d_B_does_84 : decode b_B_does 84 = .ok (.aload_n 0, 1) := by decide +kernel
theorem d_B_does_85 : decode b_B_does 85 = .ok (.iload_n 2, 1) := by decide +kernel
theorem d_B_does_86 : decode b_B_does 86 = .ok (.invokevirtual 80, 3) := by decide +kernel
theorem d_B_does_89 : decode b_B_does 89 = .ok (.iconst (-1), 1) := by decide +kernel
theorem d_B_does_90 : decode b_B_does 90 = .ok (.if_icmp .eq 7, 3) := by decide +kernel
theorem d_B_does_93 : decode b_B_does 93 = .ok (.iconst 1, 1) := by decide +kernel
theorem d_B_does_94 : decode b_B_does 94 = .ok (.goto 4, 3) := by decide +kernel
theorem d_B_does_97 : decode b_B_does 97 = .ok (.iconst 0, 1) := by decide +kernel
theorem d_B_does_98 : decode b_B_does 98 = .ok (.ireturn, 1) := by decide +kernel
theorem d_B_does_99 : decode b_B_does 99 = .ok (.aload_n 0, 1) := by decide +kernel
theorem d_B_does_100 : decode b_B_does 100 = .ok (.iload_n 2, 1) := by decide +kernel
theorem d_B_does_101 : decode b_B_does 101 = .ok (.iload_n 3, 1) := by decide +kernel
theorem d_B_does_102 : decode b_B_does 102 = .ok (.invokevirtual 83, 3) := by decide +kernel
theorem d_B_does_105 : decode b_B_does 105 = .ok (.ifCond .lt 7, 3) := by decide +kernel
theorem d_B_does_108 : decode b_B_does 108 = .ok (.iconst 1, 1) := by decide +kernel
theorem d_B_does_109 : decode b_B_does 109 = .ok (.goto 4, 3) := by decide +kernel
theorem d_B_does_112 : decode b_B_does 112 = .ok (.iconst 0, 1) := by decide +kernel
theorem d_B_does_113 : decode b_B_does 113 = .ok (.ireturn, 1) := by decide +kernel
theorem d_B_does_114 : decode b_B_does 114 = .ok (.aload_n 0, 1) := by decide +kernel
theorem d_B_does_115 : decode b_B_does 115 = .ok (.invokevirtual 86, 3) := by decide +kernel
theorem d_B_does_118 : decode b_B_does 118 = .ok (.ifCond .lt 7, 3) := by decide +kernel
theorem d_B_does_121 : decode b_B_does 121 = .ok (.iconst 1, 1) := by decide +kernel
theorem d_B_does_122 : decode b_B_does 122 = .ok (.goto 4, 3) := by decide +kernel
theorem d_B_does_125 : decode b_B_does 125 = .ok (.iconst 0, 1) := by decide +kernel
theorem d_B_does_126 : decode b_B_does 126 = .ok (.ireturn, 1) := by decide +kernel
theorem d_B_does_127 : decode b_B_does 127 = .ok (.iconst 0, 1) := by decide +kernel
theorem d_B_does_128 : decode b_B_does 128 = .ok (.ireturn, 1) := by decide +kernel
theorem d_B_told_0 : decode b_B_told 0 = .ok (.iload_n 2, 1) := by decide +kernel
theorem d_B_told_1 : decode b_B_told 1 = .ok (.tableswitch 97 0 5 #[39, 48, 57, 71, 85, 91], 39) := by decide +kernel
theorem d_B_told_40 : decode b_B_told 40 = .ok (.aload_n 0, 1) := by decide +kernel
theorem d_B_told_41 : decode b_B_told 41 = .ok (.getfield 14, 3) := by decide +kernel
theorem d_B_told_44 : decode b_B_told 44 = .ok (.iload_n 1, 1) := by decide +kernel
theorem d_B_told_45 : decode b_B_told 45 = .ok (.invokevirtual 45, 3) := by decide +kernel
theorem d_B_told_48 : decode b_B_told 48 = .ok (.ireturn, 1) := by decide +kernel
theorem d_B_told_49 : decode b_B_told 49 = .ok (.aload_n 0, 1) := by decide +kernel
theorem d_B_told_50 : decode b_B_told 50 = .ok (.getfield 20, 3) := by decide +kernel
theorem d_B_told_53 : decode b_B_told 53 = .ok (.iload_n 1, 1) := by decide +kernel
theorem d_B_told_54 : decode b_B_told 54 = .ok (.invokevirtual 45, 3) := by decide +kernel
theorem d_B_told_57 : decode b_B_told 57 = .ok (.ireturn, 1) := by decide +kernel
theorem d_B_told_58 : decode b_B_told 58 = .ok (.aload_n 0, 1) := by decide +kernel
theorem d_B_told_59 : decode b_B_told 59 = .ok (.iload_n 1, 1) := by decide +kernel
theorem d_B_told_60 : decode b_B_told 60 = .ok (.invokevirtual 89, 3) := by decide +kernel
theorem d_B_told_63 : decode b_B_told 63 = .ok (.ifCond .eq 7, 3) := by decide +kernel
theorem d_B_told_66 : decode b_B_told 66 = .ok (.iconst 1, 1) := by decide +kernel
theorem d_B_told_67 : decode b_B_told 67 = .ok (.goto 4, 3) := by decide +kernel
theorem d_B_told_70 : decode b_B_told 70 = .ok (.iconst 0, 1) := by decide +kernel
theorem d_B_told_71 : decode b_B_told 71 = .ok (.ireturn, 1) := by decide +kernel
theorem d_B_told_72 : decode b_B_told 72 = .ok (.aload_n 0, 1) := by decide +kernel
theorem d_B_told_73 : decode b_B_told 73 = .ok (.iload_n 1, 1) := by decide +kernel
theorem d_B_told_74 : decode b_B_told 74 = .ok (.invokevirtual 92, 3) := by decide +kernel
theorem d_B_told_77 : decode b_B_told 77 = .ok (.ifCond .eq 7, 3) := by decide +kernel
theorem d_B_told_80 : decode b_B_told 80 = .ok (.iconst 1, 1) := by decide +kernel
theorem d_B_told_81 : decode b_B_told 81 = .ok (.goto 4, 3) := by decide +kernel
theorem d_B_told_84 : decode b_B_told 84 = .ok (.iconst 0, 1) := by decide +kernel
theorem d_B_told_85 : decode b_B_told 85 = .ok (.ireturn, 1) := by decide +kernel
theorem d_B_told_86 : decode b_B_told 86 = .ok (.aload_n 0, 1) := by decide +kernel
theorem d_B_told_87 : decode b_B_told 87 = .ok (.iload_n 1, 1) := by decide +kernel
theorem d_B_told_88 : decode b_B_told 88 = .ok (.invokevirtual 95, 3) := by decide +kernel
theorem d_B_told_91 : decode b_B_told 91 = .ok (.ireturn, 1) := by decide +kernel
theorem d_B_told_92 : decode b_B_told 92 = .ok (.aload_n 0, 1) := by decide +kernel
theorem d_B_told_93 : decode b_B_told 93 = .ok (.iload_n 1, 1) := by decide +kernel
theorem d_B_told_94 : decode b_B_told 94 = .ok (.invokevirtual 98, 3) := by decide +kernel
theorem d_B_told_97 : decode b_B_told 97 = .ok (.ireturn, 1) := by decide +kernel
theorem d_B_told_98 : decode b_B_told 98 = .ok (.sipush (-1000), 3) := by decide +kernel
theorem d_B_told_101 : decode b_B_told 101 = .ok (.ireturn, 1) := by decide +kernel
theorem d_B_square_0 : decode b_B_square 0 = .ok (.aload_n 0, 1) := by decide +kernel
theorem d_B_square_1 : decode b_B_square 1 = .ok (.getfield 29, 3) := by decide +kernel
theorem d_B_square_4 : decode b_B_square 4 = .ok (.lookupswitch 36 #[(0, 28), (1, 32)], 28) := by decide +kernel
theorem d_B_square_32 : decode b_B_square 32 = .ok (.sipush 627, 3) := by decide +kernel
theorem d_B_square_35 : decode b_B_square 35 = .ok (.ireturn, 1) := by decide +kernel
theorem d_B_square_36 : decode b_B_square 36 = .ok (.sipush 1170, 3) := by decide +kernel
theorem d_B_square_39 : decode b_B_square 39 = .ok (.ireturn, 1) := by decide +kernel
theorem d_B_square_40 : decode b_B_square 40 = .ok (.sipush 1786, 3) := by decide +kernel
theorem d_B_square_43 : decode b_B_square 43 = .ok (.ireturn, 1) := by decide +kernel
theorem d_B_isRing_0 : decode b_B_isRing 0 = .ok (.aload_n 0, 1) := by decide +kernel
theorem d_B_isRing_1 : decode b_B_isRing 1 = .ok (.getfield 14, 3) := by decide +kernel
theorem d_B_isRing_4 : decode b_B_isRing 4 = .ok (.iload_n 1, 1) := by decide +kernel
theorem d_B_isRing_5 : decode b_B_isRing 5 = .ok (.invokevirtual 45, 3) := by decide +kernel
theorem d_B_isRing_8 : decode b_B_isRing 8 = .ok (.ifCond .ge 7, 3) := by decide +kernel
theorem d_B_isRing_11 : decode b_B_isRing 11 = .ok (.iconst 1, 1) := by decide +kernel
theorem d_B_isRing_12 : decode b_B_isRing 12 = .ok (.goto 4, 3) := by decide +kernel
theorem d_B_isRing_15 : decode b_B_isRing 15 = .ok (.iconst 0, 1) := by decide +kernel
theorem d_B_isRing_16 : decode b_B_isRing 16 = .ok (.ireturn, 1) := by decide +kernel
theorem d_B_keepsLimit_0 : decode b_B_keepsLimit 0 = .ok (.iload_n 1, 1) := by decide +kernel
theorem d_B_keepsLimit_1 : decode b_B_keepsLimit 1 = .ok (.aload_n 0, 1) := by decide +kernel
theorem d_B_keepsLimit_2 : decode b_B_keepsLimit 2 = .ok (.invokevirtual 101, 3) := by decide +kernel
theorem d_B_keepsLimit_5 : decode b_B_keepsLimit 5 = .ok (.imul, 1) := by decide +kernel
theorem d_B_keepsLimit_6 : decode b_B_keepsLimit 6 = .ok (.sipush 200, 3) := by decide +kernel
theorem d_B_keepsLimit_9 : decode b_B_keepsLimit 9 = .ok (.bipush 100, 2) := by decide +kernel
theorem d_B_keepsLimit_11 : decode b_B_keepsLimit 11 = .ok (.iload_n 2, 1) := by decide +kernel
theorem d_B_keepsLimit_12 : decode b_B_keepsLimit 12 = .ok (.isub, 1) := by decide +kernel
theorem d_B_keepsLimit_13 : decode b_B_keepsLimit 13 = .ok (.imul, 1) := by decide +kernel
theorem d_B_keepsLimit_14 : decode b_B_keepsLimit 14 = .ok (.if_icmp .lt 7, 3) := by decide +kernel
theorem d_B_keepsLimit_17 : decode b_B_keepsLimit 17 = .ok (.iconst 1, 1) := by decide +kernel
theorem d_B_keepsLimit_18 : decode b_B_keepsLimit 18 = .ok (.goto 4, 3) := by decide +kernel
theorem d_B_keepsLimit_21 : decode b_B_keepsLimit 21 = .ok (.iconst 0, 1) := by decide +kernel
theorem d_B_keepsLimit_22 : decode b_B_keepsLimit 22 = .ok (.ireturn, 1) := by decide +kernel
theorem d_B_isUndercut_0 : decode b_B_isUndercut 0 = .ok (.aload_n 0, 1) := by decide +kernel
theorem d_B_isUndercut_1 : decode b_B_isUndercut 1 = .ok (.iload_n 1, 1) := by decide +kernel
theorem d_B_isUndercut_2 : decode b_B_isUndercut 2 = .ok (.invokevirtual 104, 3) := by decide +kernel
theorem d_B_isUndercut_5 : decode b_B_isUndercut 5 = .ok (.ifCond .ne 30, 3) := by decide +kernel
theorem d_B_isUndercut_8 : decode b_B_isUndercut 8 = .ok (.aload_n 0, 1) := by decide +kernel
theorem d_B_isUndercut_9 : decode b_B_isUndercut 9 = .ok (.aload_n 0, 1) := by decide +kernel
theorem d_B_isUndercut_10 : decode b_B_isUndercut 10 = .ok (.getfield 14, 3) := by decide +kernel
theorem d_B_isUndercut_13 : decode b_B_isUndercut 13 = .ok (.iload_n 1, 1) := by decide +kernel
theorem d_B_isUndercut_14 : decode b_B_isUndercut 14 = .ok (.invokevirtual 45, 3) := by decide +kernel
theorem d_B_isUndercut_17 : decode b_B_isUndercut 17 = .ok (.aload_n 0, 1) := by decide +kernel
theorem d_B_isUndercut_18 : decode b_B_isUndercut 18 = .ok (.getfield 20, 3) := by decide +kernel
theorem d_B_isUndercut_21 : decode b_B_isUndercut 21 = .ok (.iload_n 1, 1) := by decide +kernel
theorem d_B_isUndercut_22 : decode b_B_isUndercut 22 = .ok (.invokevirtual 45, 3) := by decide +kernel
theorem d_B_isUndercut_25 : decode b_B_isUndercut 25 = .ok (.invokevirtual 107, 3) := by decide +kernel
theorem d_B_isUndercut_28 : decode b_B_isUndercut 28 = .ok (.ifCond .ne 7, 3) := by decide +kernel
theorem d_B_isUndercut_31 : decode b_B_isUndercut 31 = .ok (.iconst 1, 1) := by decide +kernel
theorem d_B_isUndercut_32 : decode b_B_isUndercut 32 = .ok (.goto 4, 3) := by decide +kernel
theorem d_B_isUndercut_35 : decode b_B_isUndercut 35 = .ok (.iconst 0, 1) := by decide +kernel
theorem d_B_isUndercut_36 : decode b_B_isUndercut 36 = .ok (.ireturn, 1) := by decide +kernel
theorem d_B_isPointed_0 : decode b_B_isPointed 0 = .ok (.aload_n 0, 1) := by decide +kernel
theorem d_B_isPointed_1 : decode b_B_isPointed 1 = .ok (.iload_n 1, 1) := by decide +kernel
theorem d_B_isPointed_2 : decode b_B_isPointed 2 = .ok (.invokevirtual 104, 3) := by decide +kernel
theorem d_B_isPointed_5 : decode b_B_isPointed 5 = .ok (.ifCond .ne 31, 3) := by decide +kernel
theorem d_B_isPointed_8 : decode b_B_isPointed 8 = .ok (.aload_n 0, 1) := by decide +kernel
theorem d_B_isPointed_9 : decode b_B_isPointed 9 = .ok (.getfield 20, 3) := by decide +kernel
theorem d_B_isPointed_12 : decode b_B_isPointed 12 = .ok (.iload_n 1, 1) := by decide +kernel
theorem d_B_isPointed_13 : decode b_B_isPointed 13 = .ok (.invokevirtual 45, 3) := by decide +kernel
theorem d_B_isPointed_16 : decode b_B_isPointed 16 = .ok (.iconst 5, 1) := by decide +kernel
theorem d_B_isPointed_17 : decode b_B_isPointed 17 = .ok (.aload_n 0, 1) := by decide +kernel
theorem d_B_isPointed_18 : decode b_B_isPointed 18 = .ok (.getfield 14, 3) := by decide +kernel
theorem d_B_isPointed_21 : decode b_B_isPointed 21 = .ok (.iload_n 1, 1) := by decide +kernel
theorem d_B_isPointed_22 : decode b_B_isPointed 22 = .ok (.invokevirtual 45, 3) := by decide +kernel
theorem d_B_isPointed_25 : decode b_B_isPointed 25 = .ok (.imul, 1) := by decide +kernel
theorem d_B_isPointed_26 : decode b_B_isPointed 26 = .ok (.bipush 10, 2) := by decide +kernel
theorem d_B_isPointed_28 : decode b_B_isPointed 28 = .ok (.isub, 1) := by decide +kernel
theorem d_B_isPointed_29 : decode b_B_isPointed 29 = .ok (.if_icmp .le 7, 3) := by decide +kernel
theorem d_B_isPointed_32 : decode b_B_isPointed 32 = .ok (.iconst 1, 1) := by decide +kernel
theorem d_B_isPointed_33 : decode b_B_isPointed 33 = .ok (.goto 4, 3) := by decide +kernel
theorem d_B_isPointed_36 : decode b_B_isPointed 36 = .ok (.iconst 0, 1) := by decide +kernel
theorem d_B_isPointed_37 : decode b_B_isPointed 37 = .ok (.ireturn, 1) := by decide +kernel
theorem d_B_leastShift_0 : decode b_B_leastShift 0 = .ok (.aload_n 0, 1) := by decide +kernel
theorem d_B_leastShift_1 : decode b_B_leastShift 1 = .ok (.iload_n 1, 1) := by decide +kernel
theorem d_B_leastShift_2 : decode b_B_leastShift 2 = .ok (.invokevirtual 104, 3) := by decide +kernel
theorem d_B_leastShift_5 : decode b_B_leastShift 5 = .ok (.ifCond .eq 7, 3) := by decide +kernel
theorem d_B_leastShift_8 : decode b_B_leastShift 8 = .ok (.sipush (-1001), 3) := by decide +kernel
theorem d_B_leastShift_11 : decode b_B_leastShift 11 = .ok (.ireturn, 1) := by decide +kernel
theorem d_B_leastShift_12 : decode b_B_leastShift 12 = .ok (.bipush (-50), 2) := by decide +kernel
theorem d_B_leastShift_14 : decode b_B_leastShift 14 = .ok (.istore_n 2, 1) := by decide +kernel
theorem d_B_leastShift_15 : decode b_B_leastShift 15 = .ok (.iload_n 2, 1) := by decide +kernel
theorem d_B_leastShift_16 : decode b_B_leastShift 16 = .ok (.bipush 100, 2) := by decide +kernel
theorem d_B_leastShift_18 : decode b_B_leastShift 18 = .ok (.if_icmp .gt 27, 3) := by decide +kernel
theorem d_B_leastShift_21 : decode b_B_leastShift 21 = .ok (.aload_n 0, 1) := by decide +kernel
theorem d_B_leastShift_22 : decode b_B_leastShift 22 = .ok (.aload_n 0, 1) := by decide +kernel
theorem d_B_leastShift_23 : decode b_B_leastShift 23 = .ok (.getfield 14, 3) := by decide +kernel
theorem d_B_leastShift_26 : decode b_B_leastShift 26 = .ok (.iload_n 1, 1) := by decide +kernel
theorem d_B_leastShift_27 : decode b_B_leastShift 27 = .ok (.invokevirtual 45, 3) := by decide +kernel
theorem d_B_leastShift_30 : decode b_B_leastShift 30 = .ok (.iload_n 2, 1) := by decide +kernel
theorem d_B_leastShift_31 : decode b_B_leastShift 31 = .ok (.invokevirtual 107, 3) := by decide +kernel
theorem d_B_leastShift_34 : decode b_B_leastShift 34 = .ok (.ifCond .eq 5, 3) := by decide +kernel
theorem d_B_leastShift_37 : decode b_B_leastShift 37 = .ok (.iload_n 2, 1) := by decide +kernel
theorem d_B_leastShift_38 : decode b_B_leastShift 38 = .ok (.ireturn, 1) := by decide +kernel
theorem d_B_leastShift_39 : decode b_B_leastShift 39 = .ok (.iinc 2 1, 3) := by decide +kernel
theorem d_B_leastShift_42 : decode b_B_leastShift 42 = .ok (.goto (-27), 3) := by decide +kernel
theorem d_B_leastShift_45 : decode b_B_leastShift 45 = .ok (.sipush (-1001), 3) := by decide +kernel
theorem d_B_leastShift_48 : decode b_B_leastShift 48 = .ok (.ireturn, 1) := by decide +kernel
theorem d_B_pairsWith_0 : decode b_B_pairsWith 0 = .ok (.iconst 0, 1) := by decide +kernel
theorem d_B_pairsWith_1 : decode b_B_pairsWith 1 = .ok (.istore_n 2, 1) := by decide +kernel
theorem d_B_pairsWith_2 : decode b_B_pairsWith 2 = .ok (.iconst 0, 1) := by decide +kernel
theorem d_B_pairsWith_3 : decode b_B_pairsWith 3 = .ok (.istore_n 3, 1) := by decide +kernel
theorem d_B_pairsWith_4 : decode b_B_pairsWith 4 = .ok (.iload_n 3, 1) := by decide +kernel
theorem d_B_pairsWith_5 : decode b_B_pairsWith 5 = .ok (.aload_n 0, 1) := by decide +kernel
theorem d_B_pairsWith_6 : decode b_B_pairsWith 6 = .ok (.getfield 23, 3) := by decide +kernel
theorem d_B_pairsWith_9 : decode b_B_pairsWith 9 = .ok (.invokevirtual 37, 3) := by decide +kernel
theorem d_B_pairsWith_12 : decode b_B_pairsWith 12 = .ok (.if_icmp .ge 36, 3) := by decide +kernel
theorem d_B_pairsWith_15 : decode b_B_pairsWith 15 = .ok (.aload_n 0, 1) := by decide +kernel
theorem d_B_pairsWith_16 : decode b_B_pairsWith 16 = .ok (.getfield 23, 3) := by decide +kernel
theorem d_B_pairsWith_19 : decode b_B_pairsWith 19 = .ok (.iload_n 3, 1) := by decide +kernel
theorem d_B_pairsWith_20 : decode b_B_pairsWith 20 = .ok (.invokevirtual 45, 3) := by decide +kernel
theorem d_B_pairsWith_23 : decode b_B_pairsWith 23 = .ok (.iload_n 1, 1) := by decide +kernel
theorem d_B_pairsWith_24 : decode b_B_pairsWith 24 = .ok (.if_icmp .eq 15, 3) := by decide +kernel
theorem d_B_pairsWith_27 : decode b_B_pairsWith 27 = .ok (.aload_n 0, 1) := by decide +kernel
theorem d_B_pairsWith_28 : decode b_B_pairsWith 28 = .ok (.getfield 26, 3) := by decide +kernel
theorem d_B_pairsWith_31 : decode b_B_pairsWith 31 = .ok (.iload_n 3, 1) := by decide +kernel
theorem d_B_pairsWith_32 : decode b_B_pairsWith 32 = .ok (.invokevirtual 45, 3) := by decide +kernel
theorem d_B_pairsWith_35 : decode b_B_pairsWith 35 = .ok (.iload_n 1, 1) := by decide +kernel
theorem d_B_pairsWith_36 : decode b_B_pairsWith 36 = .ok (.if_icmp .ne 6, 3) := by decide +kernel
theorem d_B_pairsWith_39 : decode b_B_pairsWith 39 = .ok (.iinc 2 1, 3) := by decide +kernel
theorem d_B_pairsWith_42 : decode b_B_pairsWith 42 = .ok (.iinc 3 1, 3) := by decide +kernel
theorem d_B_pairsWith_45 : decode b_B_pairsWith 45 = .ok (.goto (-41), 3) := by decide +kernel
theorem d_B_pairsWith_48 : decode b_B_pairsWith 48 = .ok (.iload_n 2, 1) := by decide +kernel
theorem d_B_pairsWith_49 : decode b_B_pairsWith 49 = .ok (.ireturn, 1) := by decide +kernel
theorem d_B_fewestTeeth_0 : decode b_B_fewestTeeth 0 = .ok (.iconst 5, 1) := by decide +kernel
theorem d_B_fewestTeeth_1 : decode b_B_fewestTeeth 1 = .ok (.istore_n 2, 1) := by decide +kernel
theorem d_B_fewestTeeth_2 : decode b_B_fewestTeeth 2 = .ok (.iload_n 2, 1) := by decide +kernel
theorem d_B_fewestTeeth_3 : decode b_B_fewestTeeth 3 = .ok (.bipush 99, 2) := by decide +kernel
theorem d_B_fewestTeeth_5 : decode b_B_fewestTeeth 5 = .ok (.if_icmp .gt 20, 3) := by decide +kernel
theorem d_B_fewestTeeth_8 : decode b_B_fewestTeeth 8 = .ok (.aload_n 0, 1) := by decide +kernel
theorem d_B_fewestTeeth_9 : decode b_B_fewestTeeth 9 = .ok (.iload_n 2, 1) := by decide +kernel
theorem d_B_fewestTeeth_10 : decode b_B_fewestTeeth 10 = .ok (.iload_n 1, 1) := by decide +kernel
theorem d_B_fewestTeeth_11 : decode b_B_fewestTeeth 11 = .ok (.invokevirtual 107, 3) := by decide +kernel
theorem d_B_fewestTeeth_14 : decode b_B_fewestTeeth 14 = .ok (.ifCond .eq 5, 3) := by decide +kernel
theorem d_B_fewestTeeth_17 : decode b_B_fewestTeeth 17 = .ok (.iload_n 2, 1) := by decide +kernel
theorem d_B_fewestTeeth_18 : decode b_B_fewestTeeth 18 = .ok (.ireturn, 1) := by decide +kernel
theorem d_B_fewestTeeth_19 : decode b_B_fewestTeeth 19 = .ok (.iinc 2 1, 3) := by decide +kernel
theorem d_B_fewestTeeth_22 : decode b_B_fewestTeeth 22 = .ok (.goto (-20), 3) := by decide +kernel
theorem d_B_fewestTeeth_25 : decode b_B_fewestTeeth 25 = .ok (.bipush (-2), 2) := by decide +kernel
theorem d_B_fewestTeeth_27 : decode b_B_fewestTeeth 27 = .ok (.ireturn, 1) := by decide +kernel
theorem d_B_wheelsThatAre_0 : decode b_B_wheelsThatAre 0 = .ok (.iconst 0, 1) := by decide +kernel
theorem d_B_wheelsThatAre_1 : decode b_B_wheelsThatAre 1 = .ok (.istore_n 2, 1) := by decide +kernel
theorem d_B_wheelsThatAre_2 : decode b_B_wheelsThatAre 2 = .ok (.iconst 0, 1) := by decide +kernel
theorem d_B_wheelsThatAre_3 : decode b_B_wheelsThatAre 3 = .ok (.istore_n 3, 1) := by decide +kernel
theorem d_B_wheelsThatAre_4 : decode b_B_wheelsThatAre 4 = .ok (.iload_n 3, 1) := by decide +kernel
theorem d_B_wheelsThatAre_5 : decode b_B_wheelsThatAre 5 = .ok (.aload_n 0, 1) := by decide +kernel
theorem d_B_wheelsThatAre_6 : decode b_B_wheelsThatAre 6 = .ok (.getfield 14, 3) := by decide +kernel
theorem d_B_wheelsThatAre_9 : decode b_B_wheelsThatAre 9 = .ok (.invokevirtual 37, 3) := by decide +kernel
theorem d_B_wheelsThatAre_12 : decode b_B_wheelsThatAre 12 = .ok (.if_icmp .ge 21, 3) := by decide +kernel
theorem d_B_wheelsThatAre_15 : decode b_B_wheelsThatAre 15 = .ok (.aload_n 0, 1) := by decide +kernel
theorem d_B_wheelsThatAre_16 : decode b_B_wheelsThatAre 16 = .ok (.iload_n 3, 1) := by decide +kernel
theorem d_B_wheelsThatAre_17 : decode b_B_wheelsThatAre 17 = .ok (.iload_n 1, 1) := by decide +kernel
theorem d_B_wheelsThatAre_18 : decode b_B_wheelsThatAre 18 = .ok (.invokevirtual 110, 3) := by decide +kernel
theorem d_B_wheelsThatAre_21 : decode b_B_wheelsThatAre 21 = .ok (.ifCond .eq 6, 3) := by decide +kernel
theorem d_B_wheelsThatAre_24 : decode b_B_wheelsThatAre 24 = .ok (.iinc 2 1, 3) := by decide +kernel
theorem d_B_wheelsThatAre_27 : decode b_B_wheelsThatAre 27 = .ok (.iinc 3 1, 3) := by decide +kernel
theorem d_B_wheelsThatAre_30 : decode b_B_wheelsThatAre 30 = .ok (.goto (-26), 3) := by decide +kernel
theorem d_B_wheelsThatAre_33 : decode b_B_wheelsThatAre 33 = .ok (.iload_n 2, 1) := by decide +kernel
theorem d_B_wheelsThatAre_34 : decode b_B_wheelsThatAre 34 = .ok (.ireturn, 1) := by decide +kernel
theorem d_B_is_0 : decode b_B_is 0 = .ok (.iload_n 2, 1) := by decide +kernel
theorem d_B_is_1 : decode b_B_is 1 = .ok (.tableswitch 45 0 2 #[27, 33, 39], 27) := by decide +kernel
theorem d_B_is_28 : decode b_B_is 28 = .ok (.aload_n 0, 1) := by decide +kernel
theorem d_B_is_29 : decode b_B_is 29 = .ok (.iload_n 1, 1) := by decide +kernel
theorem d_B_is_30 : decode b_B_is 30 = .ok (.invokevirtual 89, 3) := by decide +kernel
theorem d_B_is_33 : decode b_B_is 33 = .ok (.ireturn, 1) := by decide +kernel
theorem d_B_is_34 : decode b_B_is 34 = .ok (.aload_n 0, 1) := by decide +kernel
theorem d_B_is_35 : decode b_B_is 35 = .ok (.iload_n 1, 1) := by decide +kernel
theorem d_B_is_36 : decode b_B_is 36 = .ok (.invokevirtual 92, 3) := by decide +kernel
theorem d_B_is_39 : decode b_B_is 39 = .ok (.ireturn, 1) := by decide +kernel
theorem d_B_is_40 : decode b_B_is 40 = .ok (.aload_n 0, 1) := by decide +kernel
theorem d_B_is_41 : decode b_B_is 41 = .ok (.iload_n 1, 1) := by decide +kernel
theorem d_B_is_42 : decode b_B_is 42 = .ok (.invokevirtual 104, 3) := by decide +kernel
theorem d_B_is_45 : decode b_B_is 45 = .ok (.ireturn, 1) := by decide +kernel
theorem d_B_is_46 : decode b_B_is 46 = .ok (.aload_n 0, 1) := by decide +kernel
theorem d_B_is_47 : decode b_B_is 47 = .ok (.iload_n 1, 1) := by decide +kernel
theorem d_B_is_48 : decode b_B_is 48 = .ok (.invokevirtual 113, 3) := by decide +kernel
theorem d_B_is_51 : decode b_B_is 51 = .ok (.ireturn, 1) := by decide +kernel
theorem d_B_isFirstOfItsTeeth_0 : decode b_B_isFirstOfItsTeeth 0 = .ok (.iconst 0, 1) := by decide +kernel
theorem d_B_isFirstOfItsTeeth_1 : decode b_B_isFirstOfItsTeeth 1 = .ok (.istore_n 2, 1) := by decide +kernel
theorem d_B_isFirstOfItsTeeth_2 : decode b_B_isFirstOfItsTeeth 2 = .ok (.iload_n 2, 1) := by decide +kernel
theorem d_B_isFirstOfItsTeeth_3 : decode b_B_isFirstOfItsTeeth 3 = .ok (.iload_n 1, 1) := by decide +kernel
theorem d_B_isFirstOfItsTeeth_4 : decode b_B_isFirstOfItsTeeth 4 = .ok (.if_icmp .ge 30, 3) := by decide +kernel
theorem d_B_isFirstOfItsTeeth_7 : decode b_B_isFirstOfItsTeeth 7 = .ok (.aload_n 0, 1) := by decide +kernel
theorem d_B_isFirstOfItsTeeth_8 : decode b_B_isFirstOfItsTeeth 8 = .ok (.getfield 14, 3) := by decide +kernel
theorem d_B_isFirstOfItsTeeth_11 : decode b_B_isFirstOfItsTeeth 11 = .ok (.iload_n 2, 1) := by decide +kernel
theorem d_B_isFirstOfItsTeeth_12 : decode b_B_isFirstOfItsTeeth 12 = .ok (.invokevirtual 45, 3) := by decide +kernel
theorem d_B_isFirstOfItsTeeth_15 : decode b_B_isFirstOfItsTeeth 15 = .ok (.aload_n 0, 1) := by decide +kernel
theorem d_B_isFirstOfItsTeeth_16 : decode b_B_isFirstOfItsTeeth 16 = .ok (.getfield 14, 3) := by decide +kernel
theorem d_B_isFirstOfItsTeeth_19 : decode b_B_isFirstOfItsTeeth 19 = .ok (.iload_n 1, 1) := by decide +kernel
theorem d_B_isFirstOfItsTeeth_20 : decode b_B_isFirstOfItsTeeth 20 = .ok (.invokevirtual 45, 3) := by decide +kernel
theorem d_B_isFirstOfItsTeeth_23 : decode b_B_isFirstOfItsTeeth 23 = .ok (.if_icmp .ne 5, 3) := by decide +kernel
theorem d_B_isFirstOfItsTeeth_26 : decode b_B_isFirstOfItsTeeth 26 = .ok (.iconst 0, 1) := by decide +kernel
theorem d_B_isFirstOfItsTeeth_27 : decode b_B_isFirstOfItsTeeth 27 = .ok (.ireturn, 1) := by decide +kernel
theorem d_B_isFirstOfItsTeeth_28 : decode b_B_isFirstOfItsTeeth 28 = .ok (.iinc 2 1, 3) := by decide +kernel
theorem d_B_isFirstOfItsTeeth_31 : decode b_B_isFirstOfItsTeeth 31 = .ok (.goto (-29), 3) := by decide +kernel
theorem d_B_isFirstOfItsTeeth_34 : decode b_B_isFirstOfItsTeeth 34 = .ok (.iconst 1, 1) := by decide +kernel
theorem d_B_isFirstOfItsTeeth_35 : decode b_B_isFirstOfItsTeeth 35 = .ok (.ireturn, 1) := by decide +kernel
theorem d_B_outwardTeeth_0 : decode b_B_outwardTeeth 0 = .ok (.iconst 0, 1) := by decide +kernel
theorem d_B_outwardTeeth_1 : decode b_B_outwardTeeth 1 = .ok (.istore_n 1, 1) := by decide +kernel
theorem d_B_outwardTeeth_2 : decode b_B_outwardTeeth 2 = .ok (.iconst 0, 1) := by decide +kernel
theorem d_B_outwardTeeth_3 : decode b_B_outwardTeeth 3 = .ok (.istore_n 2, 1) := by decide +kernel
theorem d_B_outwardTeeth_4 : decode b_B_outwardTeeth 4 = .ok (.iload_n 2, 1) := by decide +kernel
theorem d_B_outwardTeeth_5 : decode b_B_outwardTeeth 5 = .ok (.aload_n 0, 1) := by decide +kernel
theorem d_B_outwardTeeth_6 : decode b_B_outwardTeeth 6 = .ok (.getfield 14, 3) := by decide +kernel
theorem d_B_outwardTeeth_9 : decode b_B_outwardTeeth 9 = .ok (.invokevirtual 37, 3) := by decide +kernel
theorem d_B_outwardTeeth_12 : decode b_B_outwardTeeth 12 = .ok (.if_icmp .ge 24, 3) := by decide +kernel
theorem d_B_outwardTeeth_15 : decode b_B_outwardTeeth 15 = .ok (.iload_n 1, 1) := by decide +kernel
theorem d_B_outwardTeeth_16 : decode b_B_outwardTeeth 16 = .ok (.iconst 0, 1) := by decide +kernel
theorem d_B_outwardTeeth_17 : decode b_B_outwardTeeth 17 = .ok (.aload_n 0, 1) := by decide +kernel
theorem d_B_outwardTeeth_18 : decode b_B_outwardTeeth 18 = .ok (.getfield 14, 3) := by decide +kernel
theorem d_B_outwardTeeth_21 : decode b_B_outwardTeeth 21 = .ok (.iload_n 2, 1) := by decide +kernel
theorem d_B_outwardTeeth_22 : decode b_B_outwardTeeth 22 = .ok (.invokevirtual 45, 3) := by decide +kernel
theorem d_B_outwardTeeth_25 : decode b_B_outwardTeeth 25 = .ok (.invokestatic 116, 3) := by decide +kernel
theorem d_B_outwardTeeth_28 : decode b_B_outwardTeeth 28 = .ok (.iadd, 1) := by decide +kernel
theorem d_B_outwardTeeth_29 : decode b_B_outwardTeeth 29 = .ok (.istore_n 1, 1) := by decide +kernel
theorem d_B_outwardTeeth_30 : decode b_B_outwardTeeth 30 = .ok (.iinc 2 1, 3) := by decide +kernel
theorem d_B_outwardTeeth_33 : decode b_B_outwardTeeth 33 = .ok (.goto (-29), 3) := by decide +kernel
theorem d_B_outwardTeeth_36 : decode b_B_outwardTeeth 36 = .ok (.iload_n 1, 1) := by decide +kernel
theorem d_B_outwardTeeth_37 : decode b_B_outwardTeeth 37 = .ok (.ireturn, 1) := by decide +kernel
theorem d_B_hasRing_0 : decode b_B_hasRing 0 = .ok (.aload_n 0, 1) := by decide +kernel
theorem d_B_hasRing_1 : decode b_B_hasRing 1 = .ok (.iload_n 1, 1) := by decide +kernel
theorem d_B_hasRing_2 : decode b_B_hasRing 2 = .ok (.invokevirtual 104, 3) := by decide +kernel
theorem d_B_hasRing_5 : decode b_B_hasRing 5 = .ok (.ifCond .ne 11, 3) := by decide +kernel
theorem d_B_hasRing_8 : decode b_B_hasRing 8 = .ok (.aload_n 0, 1) := by decide +kernel
theorem d_B_hasRing_9 : decode b_B_hasRing 9 = .ok (.iload_n 2, 1) := by decide +kernel
theorem d_B_hasRing_10 : decode b_B_hasRing 10 = .ok (.invokevirtual 104, 3) := by decide +kernel
theorem d_B_hasRing_13 : decode b_B_hasRing 13 = .ok (.ifCond .eq 7, 3) := by decide +kernel
theorem d_B_hasRing_16 : decode b_B_hasRing 16 = .ok (.iconst 1, 1) := by decide +kernel
theorem d_B_hasRing_17 : decode b_B_hasRing 17 = .ok (.goto 4, 3) := by decide +kernel
theorem d_B_hasRing_20 : decode b_B_hasRing 20 = .ok (.iconst 0, 1) := by decide +kernel
theorem d_B_hasRing_21 : decode b_B_hasRing 21 = .ok (.ireturn, 1) := by decide +kernel
theorem d_B_canPair_0 : decode b_B_canPair 0 = .ok (.aload_n 0, 1) := by decide +kernel
theorem d_B_canPair_1 : decode b_B_canPair 1 = .ok (.iload_n 1, 1) := by decide +kernel
theorem d_B_canPair_2 : decode b_B_canPair 2 = .ok (.invokevirtual 121, 3) := by decide +kernel
theorem d_B_canPair_5 : decode b_B_canPair 5 = .ok (.ifCond .eq 36, 3) := by decide +kernel
theorem d_B_canPair_8 : decode b_B_canPair 8 = .ok (.aload_n 0, 1) := by decide +kernel
theorem d_B_canPair_9 : decode b_B_canPair 9 = .ok (.iload_n 2, 1) := by decide +kernel
theorem d_B_canPair_10 : decode b_B_canPair 10 = .ok (.invokevirtual 121, 3) := by decide +kernel
theorem d_B_canPair_13 : decode b_B_canPair 13 = .ok (.ifCond .eq 28, 3) := by decide +kernel
theorem d_B_canPair_16 : decode b_B_canPair 16 = .ok (.iload_n 1, 1) := by decide +kernel
theorem d_B_canPair_17 : decode b_B_canPair 17 = .ok (.iload_n 2, 1) := by decide +kernel
theorem d_B_canPair_18 : decode b_B_canPair 18 = .ok (.if_icmp .eq 23, 3) := by decide +kernel
theorem d_B_canPair_21 : decode b_B_canPair 21 = .ok (.aload_n 0, 1) := by decide +kernel
theorem d_B_canPair_22 : decode b_B_canPair 22 = .ok (.iload_n 1, 1) := by decide +kernel
theorem d_B_canPair_23 : decode b_B_canPair 23 = .ok (.invokevirtual 104, 3) := by decide +kernel
theorem d_B_canPair_26 : decode b_B_canPair 26 = .ok (.ifCond .eq 11, 3) := by decide +kernel
theorem d_B_canPair_29 : decode b_B_canPair 29 = .ok (.aload_n 0, 1) := by decide +kernel
theorem d_B_canPair_30 : decode b_B_canPair 30 = .ok (.iload_n 2, 1) := by decide +kernel
theorem d_B_canPair_31 : decode b_B_canPair 31 = .ok (.invokevirtual 104, 3) := by decide +kernel
theorem d_B_canPair_34 : decode b_B_canPair 34 = .ok (.ifCond .ne 7, 3) := by decide +kernel
theorem d_B_canPair_37 : decode b_B_canPair 37 = .ok (.iconst 1, 1) := by decide +kernel
theorem d_B_canPair_38 : decode b_B_canPair 38 = .ok (.goto 4, 3) := by decide +kernel
theorem d_B_canPair_41 : decode b_B_canPair 41 = .ok (.iconst 0, 1) := by decide +kernel
theorem d_B_canPair_42 : decode b_B_canPair 42 = .ok (.ireturn, 1) := by decide +kernel
theorem d_B_clashes_0 : decode b_B_clashes 0 = .ok (.aload_n 0, 1) := by decide +kernel
theorem d_B_clashes_1 : decode b_B_clashes 1 = .ok (.iload_n 1, 1) := by decide +kernel
theorem d_B_clashes_2 : decode b_B_clashes 2 = .ok (.iload_n 2, 1) := by decide +kernel
theorem d_B_clashes_3 : decode b_B_clashes 3 = .ok (.invokevirtual 124, 3) := by decide +kernel
theorem d_B_clashes_6 : decode b_B_clashes 6 = .ok (.ifCond .eq 29, 3) := by decide +kernel
theorem d_B_clashes_9 : decode b_B_clashes 9 = .ok (.aload_n 0, 1) := by decide +kernel
theorem d_B_clashes_10 : decode b_B_clashes 10 = .ok (.getfield 14, 3) := by decide +kernel
theorem d_B_clashes_13 : decode b_B_clashes 13 = .ok (.iload_n 1, 1) := by decide +kernel
theorem d_B_clashes_14 : decode b_B_clashes 14 = .ok (.invokevirtual 45, 3) := by decide +kernel
theorem d_B_clashes_17 : decode b_B_clashes 17 = .ok (.aload_n 0, 1) := by decide +kernel
theorem d_B_clashes_18 : decode b_B_clashes 18 = .ok (.getfield 14, 3) := by decide +kernel
theorem d_B_clashes_21 : decode b_B_clashes 21 = .ok (.iload_n 2, 1) := by decide +kernel
theorem d_B_clashes_22 : decode b_B_clashes 22 = .ok (.invokevirtual 45, 3) := by decide +kernel
theorem d_B_clashes_25 : decode b_B_clashes 25 = .ok (.iadd, 1) := by decide +kernel
theorem d_B_clashes_26 : decode b_B_clashes 26 = .ok (.bipush (-8), 2) := by decide +kernel
theorem d_B_clashes_28 : decode b_B_clashes 28 = .ok (.if_icmp .le 7, 3) := by decide +kernel
theorem d_B_clashes_31 : decode b_B_clashes 31 = .ok (.iconst 1, 1) := by decide +kernel
theorem d_B_clashes_32 : decode b_B_clashes 32 = .ok (.goto 4, 3) := by decide +kernel
theorem d_B_clashes_35 : decode b_B_clashes 35 = .ok (.iconst 0, 1) := by decide +kernel
theorem d_B_clashes_36 : decode b_B_clashes 36 = .ok (.ireturn, 1) := by decide +kernel
theorem d_B_arm_0 : decode b_B_arm 0 = .ok (.bipush 50, 2) := by decide +kernel
theorem d_B_arm_2 : decode b_B_arm 2 = .ok (.aload_n 0, 1) := by decide +kernel
theorem d_B_arm_3 : decode b_B_arm 3 = .ok (.getfield 14, 3) := by decide +kernel
theorem d_B_arm_6 : decode b_B_arm 6 = .ok (.iload_n 1, 1) := by decide +kernel
theorem d_B_arm_7 : decode b_B_arm 7 = .ok (.invokevirtual 45, 3) := by decide +kernel
theorem d_B_arm_10 : decode b_B_arm 10 = .ok (.invokestatic 127, 3) := by decide +kernel
theorem d_B_arm_13 : decode b_B_arm 13 = .ok (.imul, 1) := by decide +kernel
theorem d_B_arm_14 : decode b_B_arm 14 = .ok (.aload_n 0, 1) := by decide +kernel
theorem d_B_arm_15 : decode b_B_arm 15 = .ok (.getfield 20, 3) := by decide +kernel
theorem d_B_arm_18 : decode b_B_arm 18 = .ok (.iload_n 1, 1) := by decide +kernel
theorem d_B_arm_19 : decode b_B_arm 19 = .ok (.invokevirtual 45, 3) := by decide +kernel
theorem d_B_arm_22 : decode b_B_arm 22 = .ok (.iadd, 1) := by decide +kernel
theorem d_B_arm_23 : decode b_B_arm 23 = .ok (.ireturn, 1) := by decide +kernel
theorem d_B_hundredths_0 : decode b_B_hundredths 0 = .ok (.aload_n 0, 1) := by decide +kernel
theorem d_B_hundredths_1 : decode b_B_hundredths 1 = .ok (.iload_n 1, 1) := by decide +kernel
theorem d_B_hundredths_2 : decode b_B_hundredths 2 = .ok (.invokevirtual 104, 3) := by decide +kernel
theorem d_B_hundredths_5 : decode b_B_hundredths 5 = .ok (.ifCond .eq 15, 3) := by decide +kernel
theorem d_B_hundredths_8 : decode b_B_hundredths 8 = .ok (.aload_n 0, 1) := by decide +kernel
theorem d_B_hundredths_9 : decode b_B_hundredths 9 = .ok (.iload_n 1, 1) := by decide +kernel
theorem d_B_hundredths_10 : decode b_B_hundredths 10 = .ok (.invokevirtual 130, 3) := by decide +kernel
theorem d_B_hundredths_13 : decode b_B_hundredths 13 = .ok (.aload_n 0, 1) := by decide +kernel
theorem d_B_hundredths_14 : decode b_B_hundredths 14 = .ok (.iload_n 2, 1) := by decide +kernel
theorem d_B_hundredths_15 : decode b_B_hundredths 15 = .ok (.invokevirtual 130, 3) := by decide +kernel
theorem d_B_hundredths_18 : decode b_B_hundredths 18 = .ok (.isub, 1) := by decide +kernel
theorem d_B_hundredths_19 : decode b_B_hundredths 19 = .ok (.ireturn, 1) := by decide +kernel
theorem d_B_hundredths_20 : decode b_B_hundredths 20 = .ok (.aload_n 0, 1) := by decide +kernel
theorem d_B_hundredths_21 : decode b_B_hundredths 21 = .ok (.iload_n 2, 1) := by decide +kernel
theorem d_B_hundredths_22 : decode b_B_hundredths 22 = .ok (.invokevirtual 104, 3) := by decide +kernel
theorem d_B_hundredths_25 : decode b_B_hundredths 25 = .ok (.ifCond .eq 17, 3) := by decide +kernel
theorem d_B_hundredths_28 : decode b_B_hundredths 28 = .ok (.aload_n 0, 1) := by decide +kernel
theorem d_B_hundredths_29 : decode b_B_hundredths 29 = .ok (.iload_n 2, 1) := by decide +kernel
theorem d_B_hundredths_30 : decode b_B_hundredths 30 = .ok (.invokevirtual 130, 3) := by decide +kernel
theorem d_B_hundredths_33 : decode b_B_hundredths 33 = .ok (.aload_n 0, 1) := by decide +kernel
theorem d_B_hundredths_34 : decode b_B_hundredths 34 = .ok (.iload_n 1, 1) := by decide +kernel
theorem d_B_hundredths_35 : decode b_B_hundredths 35 = .ok (.invokevirtual 130, 3) := by decide +kernel
theorem d_B_hundredths_38 : decode b_B_hundredths 38 = .ok (.isub, 1) := by decide +kernel
theorem d_B_hundredths_39 : decode b_B_hundredths 39 = .ok (.goto 14, 3) := by decide +kernel
theorem d_B_hundredths_42 : decode b_B_hundredths 42 = .ok (.aload_n 0, 1) := by decide +kernel
theorem d_B_hundredths_43 : decode b_B_hundredths 43 = .ok (.iload_n 1, 1) := by decide +kernel
theorem d_B_hundredths_44 : decode b_B_hundredths 44 = .ok (.invokevirtual 130, 3) := by decide +kernel
theorem d_B_hundredths_47 : decode b_B_hundredths 47 = .ok (.aload_n 0, 1) := by decide +kernel
theorem d_B_hundredths_48 : decode b_B_hundredths 48 = .ok (.iload_n 2, 1) := by decide +kernel
theorem d_B_hundredths_49 : decode b_B_hundredths 49 = .ok (.invokevirtual 130, 3) := by decide +kernel
theorem d_B_hundredths_52 : decode b_B_hundredths 52 = .ok (.iadd, 1) := by decide +kernel
theorem d_B_hundredths_53 : decode b_B_hundredths 53 = .ok (.ireturn, 1) := by decide +kernel
theorem d_B_shiftAt_0 : decode b_B_shiftAt 0 = .ok (.iload 4, 2) := by decide +kernel
theorem d_B_shiftAt_2 : decode b_B_shiftAt 2 = .ok (.ifCond .eq 13, 3) := by decide +kernel
theorem d_B_shiftAt_5 : decode b_B_shiftAt 5 = .ok (.bipush 100, 2) := by decide +kernel
theorem d_B_shiftAt_7 : decode b_B_shiftAt 7 = .ok (.iload_n 3, 1) := by decide +kernel
theorem d_B_shiftAt_8 : decode b_B_shiftAt 8 = .ok (.imul, 1) := by decide +kernel
theorem d_B_shiftAt_9 : decode b_B_shiftAt 9 = .ok (.iload 4, 2) := by decide +kernel
theorem d_B_shiftAt_11 : decode b_B_shiftAt 11 = .ok (.irem, 1) := by decide +kernel
theorem d_B_shiftAt_12 : decode b_B_shiftAt 12 = .ok (.ifCond .eq 7, 3) := by decide +kernel
theorem d_B_shiftAt_15 : decode b_B_shiftAt 15 = .ok (.sipush (-1001), 3) := by decide +kernel
theorem d_B_shiftAt_18 : decode b_B_shiftAt 18 = .ok (.ireturn, 1) := by decide +kernel
theorem d_B_shiftAt_19 : decode b_B_shiftAt 19 = .ok (.bipush 100, 2) := by decide +kernel
theorem d_B_shiftAt_21 : decode b_B_shiftAt 21 = .ok (.iload_n 3, 1) := by decide +kernel
theorem d_B_shiftAt_22 : decode b_B_shiftAt 22 = .ok (.imul, 1) := by decide +kernel
theorem d_B_shiftAt_23 : decode b_B_shiftAt 23 = .ok (.iload 4, 2) := by decide +kernel
theorem d_B_shiftAt_25 : decode b_B_shiftAt 25 = .ok (.idiv, 1) := by decide +kernel
theorem d_B_shiftAt_26 : decode b_B_shiftAt 26 = .ok (.istore 5, 2) := by decide +kernel
theorem d_B_shiftAt_28 : decode b_B_shiftAt 28 = .ok (.iload 5, 2) := by decide +kernel
theorem d_B_shiftAt_30 : decode b_B_shiftAt 30 = .ok (.aload_n 0, 1) := by decide +kernel
theorem d_B_shiftAt_31 : decode b_B_shiftAt 31 = .ok (.iload_n 2, 1) := by decide +kernel
theorem d_B_shiftAt_32 : decode b_B_shiftAt 32 = .ok (.invokevirtual 130, 3) := by decide +kernel
theorem d_B_shiftAt_35 : decode b_B_shiftAt 35 = .ok (.isub, 1) := by decide +kernel
theorem d_B_shiftAt_36 : decode b_B_shiftAt 36 = .ok (.istore 6, 2) := by decide +kernel
theorem d_B_shiftAt_38 : decode b_B_shiftAt 38 = .ok (.aload_n 0, 1) := by decide +kernel
theorem d_B_shiftAt_39 : decode b_B_shiftAt 39 = .ok (.iload_n 1, 1) := by decide +kernel
theorem d_B_shiftAt_40 : decode b_B_shiftAt 40 = .ok (.invokevirtual 104, 3) := by decide +kernel
theorem d_B_shiftAt_43 : decode b_B_shiftAt 43 = .ok (.ifCond .eq 16, 3) := by decide +kernel
theorem d_B_shiftAt_46 : decode b_B_shiftAt 46 = .ok (.iload 5, 2) := by decide +kernel
theorem d_B_shiftAt_48 : decode b_B_shiftAt 48 = .ok (.aload_n 0, 1) := by decide +kernel
theorem d_B_shiftAt_49 : decode b_B_shiftAt 49 = .ok (.iload_n 2, 1) := by decide +kernel
theorem d_B_shiftAt_50 : decode b_B_shiftAt 50 = .ok (.invokevirtual 130, 3) := by decide +kernel
theorem d_B_shiftAt_53 : decode b_B_shiftAt 53 = .ok (.iadd, 1) := by decide +kernel
theorem d_B_shiftAt_54 : decode b_B_shiftAt 54 = .ok (.istore 6, 2) := by decide +kernel
theorem d_B_shiftAt_56 : decode b_B_shiftAt 56 = .ok (.goto 21, 3) := by decide +kernel
theorem d_B_shiftAt_59 : decode b_B_shiftAt 59 = .ok (.aload_n 0, 1) := by decide +kernel
theorem d_B_shiftAt_60 : decode b_B_shiftAt 60 = .ok (.iload_n 2, 1) := by decide +kernel
theorem d_B_shiftAt_61 : decode b_B_shiftAt 61 = .ok (.invokevirtual 104, 3) := by decide +kernel
theorem d_B_shiftAt_64 : decode b_B_shiftAt 64 = .ok (.ifCond .eq 13, 3) := by decide +kernel
theorem d_B_shiftAt_67 : decode b_B_shiftAt 67 = .ok (.aload_n 0, 1) := by decide +kernel
theorem d_B_shiftAt_68 : decode b_B_shiftAt 68 = .ok (.iload_n 2, 1) := by decide +kernel
theorem d_B_shiftAt_69 : decode b_B_shiftAt 69 = .ok (.invokevirtual 130, 3) := by decide +kernel
theorem d_B_shiftAt_72 : decode b_B_shiftAt 72 = .ok (.iload 5, 2) := by decide +kernel
theorem d_B_shiftAt_74 : decode b_B_shiftAt 74 = .ok (.isub, 1) := by decide +kernel
theorem d_B_shiftAt_75 : decode b_B_shiftAt 75 = .ok (.istore 6, 2) := by decide +kernel
theorem d_B_shiftAt_77 : decode b_B_shiftAt 77 = .ok (.iload 6, 2) := by decide +kernel
theorem d_B_shiftAt_79 : decode b_B_shiftAt 79 = .ok (.bipush 50, 2) := by decide +kernel
theorem d_B_shiftAt_81 : decode b_B_shiftAt 81 = .ok (.aload_n 0, 1) := by decide +kernel
theorem d_B_shiftAt_82 : decode b_B_shiftAt 82 = .ok (.getfield 14, 3) := by decide +kernel
theorem d_B_shiftAt_85 : decode b_B_shiftAt 85 = .ok (.iload_n 1, 1) := by decide +kernel
theorem d_B_shiftAt_86 : decode b_B_shiftAt 86 = .ok (.invokevirtual 45, 3) := by decide +kernel
theorem d_B_shiftAt_89 : decode b_B_shiftAt 89 = .ok (.invokestatic 127, 3) := by decide +kernel
theorem d_B_shiftAt_92 : decode b_B_shiftAt 92 = .ok (.imul, 1) := by decide +kernel
theorem d_B_shiftAt_93 : decode b_B_shiftAt 93 = .ok (.isub, 1) := by decide +kernel
theorem d_B_shiftAt_94 : decode b_B_shiftAt 94 = .ok (.istore 7, 2) := by decide +kernel
theorem d_B_shiftAt_96 : decode b_B_shiftAt 96 = .ok (.iload 7, 2) := by decide +kernel
theorem d_B_shiftAt_98 : decode b_B_shiftAt 98 = .ok (.invokestatic 59, 3) := by decide +kernel
theorem d_B_shiftAt_101 : decode b_B_shiftAt 101 = .ok (.ifCond .eq 8, 3) := by decide +kernel
theorem d_B_shiftAt_104 : decode b_B_shiftAt 104 = .ok (.iload 7, 2) := by decide +kernel
theorem d_B_shiftAt_106 : decode b_B_shiftAt 106 = .ok (.goto 6, 3) := by decide +kernel
theorem d_B_shiftAt_109 : decode b_B_shiftAt 109 = .ok (.sipush (-1001), 3) := by decide +kernel
theorem d_B_shiftAt_112 : decode b_B_shiftAt 112 = .ok (.ireturn, 1) := by decide +kernel
theorem d_B_above_0 : decode b_B_above 0 = .ok (.aload_n 0, 1) := by decide +kernel
theorem d_B_above_1 : decode b_B_above 1 = .ok (.getfield 14, 3) := by decide +kernel
theorem d_B_above_4 : decode b_B_above 4 = .ok (.iload_n 2, 1) := by decide +kernel
theorem d_B_above_5 : decode b_B_above 5 = .ok (.invokevirtual 45, 3) := by decide +kernel
theorem d_B_above_8 : decode b_B_above 8 = .ok (.invokestatic 127, 3) := by decide +kernel
theorem d_B_above_11 : decode b_B_above 11 = .ok (.istore_n 3, 1) := by decide +kernel
theorem d_B_above_12 : decode b_B_above 12 = .ok (.aload_n 0, 1) := by decide +kernel
theorem d_B_above_13 : decode b_B_above 13 = .ok (.iload_n 1, 1) := by decide +kernel
theorem d_B_above_14 : decode b_B_above 14 = .ok (.iload_n 2, 1) := by decide +kernel
theorem d_B_above_15 : decode b_B_above 15 = .ok (.invokevirtual 124, 3) := by decide +kernel
theorem d_B_above_18 : decode b_B_above 18 = .ok (.ifCond .eq 8, 3) := by decide +kernel
theorem d_B_above_21 : decode b_B_above 21 = .ok (.iload_n 3, 1) := by decide +kernel
theorem d_B_above_22 : decode b_B_above 22 = .ok (.i2l, 1) := by decide +kernel
theorem d_B_above_23 : decode b_B_above 23 = .ok (.goto 6, 3) := by decide +kernel
theorem d_B_above_26 : decode b_B_above 26 = .ok (.iload_n 3, 1) := by decide +kernel
theorem d_B_above_27 : decode b_B_above 27 = .ok (.ineg, 1) := by decide +kernel
theorem d_B_above_28 : decode b_B_above 28 = .ok (.i2l, 1) := by decide +kernel
theorem d_B_above_29 : decode b_B_above 29 = .ok (.lreturn, 1) := by decide +kernel
theorem d_B_below_0 : decode b_B_below 0 = .ok (.aload_n 0, 1) := by decide +kernel
theorem d_B_below_1 : decode b_B_below 1 = .ok (.getfield 14, 3) := by decide +kernel
theorem d_B_below_4 : decode b_B_below 4 = .ok (.iload_n 1, 1) := by decide +kernel
theorem d_B_below_5 : decode b_B_below 5 = .ok (.invokevirtual 45, 3) := by decide +kernel
theorem d_B_below_8 : decode b_B_below 8 = .ok (.invokestatic 127, 3) := by decide +kernel
theorem d_B_below_11 : decode b_B_below 11 = .ok (.i2l, 1) := by decide +kernel
theorem d_B_below_12 : decode b_B_below 12 = .ok (.lreturn, 1) := by decide +kernel
theorem d_B_firstClash_0 : decode b_B_firstClash 0 = .ok (.iconst 0, 1) := by decide +kernel
theorem d_B_firstClash_1 : decode b_B_firstClash 1 = .ok (.istore_n 1, 1) := by decide +kernel
theorem d_B_firstClash_2 : decode b_B_firstClash 2 = .ok (.iload_n 1, 1) := by decide +kernel
theorem d_B_firstClash_3 : decode b_B_firstClash 3 = .ok (.aload_n 0, 1) := by decide +kernel
theorem d_B_firstClash_4 : decode b_B_firstClash 4 = .ok (.getfield 23, 3) := by decide +kernel
theorem d_B_firstClash_7 : decode b_B_firstClash 7 = .ok (.invokevirtual 37, 3) := by decide +kernel
theorem d_B_firstClash_10 : decode b_B_firstClash 10 = .ok (.if_icmp .ge 34, 3) := by decide +kernel
theorem d_B_firstClash_13 : decode b_B_firstClash 13 = .ok (.aload_n 0, 1) := by decide +kernel
theorem d_B_firstClash_14 : decode b_B_firstClash 14 = .ok (.aload_n 0, 1) := by decide +kernel
theorem d_B_firstClash_15 : decode b_B_firstClash 15 = .ok (.getfield 23, 3) := by decide +kernel
theorem d_B_firstClash_18 : decode b_B_firstClash 18 = .ok (.iload_n 1, 1) := by decide +kernel
theorem d_B_firstClash_19 : decode b_B_firstClash 19 = .ok (.invokevirtual 45, 3) := by decide +kernel
theorem d_B_firstClash_22 : decode b_B_firstClash 22 = .ok (.aload_n 0, 1) := by decide +kernel
theorem d_B_firstClash_23 : decode b_B_firstClash 23 = .ok (.getfield 26, 3) := by decide +kernel
theorem d_B_firstClash_26 : decode b_B_firstClash 26 = .ok (.iload_n 1, 1) := by decide +kernel
theorem d_B_firstClash_27 : decode b_B_firstClash 27 = .ok (.invokevirtual 45, 3) := by decide +kernel
theorem d_B_firstClash_30 : decode b_B_firstClash 30 = .ok (.invokevirtual 133, 3) := by decide +kernel
theorem d_B_firstClash_33 : decode b_B_firstClash 33 = .ok (.ifCond .eq 5, 3) := by decide +kernel
theorem d_B_firstClash_36 : decode b_B_firstClash 36 = .ok (.iload_n 1, 1) := by decide +kernel
theorem d_B_firstClash_37 : decode b_B_firstClash 37 = .ok (.ireturn, 1) := by decide +kernel
theorem d_B_firstClash_38 : decode b_B_firstClash 38 = .ok (.iinc 1 1, 3) := by decide +kernel
theorem d_B_firstClash_41 : decode b_B_firstClash 41 = .ok (.goto (-39), 3) := by decide +kernel
theorem d_B_firstClash_44 : decode b_B_firstClash 44 = .ok (.bipush (-2), 2) := by decide +kernel
theorem d_B_firstClash_46 : decode b_B_firstClash 46 = .ok (.ireturn, 1) := by decide +kernel
theorem d_B_trainRatio_0 : decode b_B_trainRatio 0 = .ok (.lconst 1, 1) := by decide +kernel
theorem d_B_trainRatio_1 : decode b_B_trainRatio 1 = .ok (.lstore_n 2, 1) := by decide +kernel
theorem d_B_trainRatio_2 : decode b_B_trainRatio 2 = .ok (.lconst 1, 1) := by decide +kernel
theorem d_B_trainRatio_3 : decode b_B_trainRatio 3 = .ok (.lstore 4, 2) := by decide +kernel
theorem d_B_trainRatio_5 : decode b_B_trainRatio 5 = .ok (.iconst 0, 1) := by decide +kernel
theorem d_B_trainRatio_6 : decode b_B_trainRatio 6 = .ok (.istore 6, 2) := by decide +kernel
theorem d_B_trainRatio_8 : decode b_B_trainRatio 8 = .ok (.iload 6, 2) := by decide +kernel
theorem d_B_trainRatio_10 : decode b_B_trainRatio 10 = .ok (.aload_n 0, 1) := by decide +kernel
theorem d_B_trainRatio_11 : decode b_B_trainRatio 11 = .ok (.getfield 23, 3) := by decide +kernel
theorem d_B_trainRatio_14 : decode b_B_trainRatio 14 = .ok (.invokevirtual 37, 3) := by decide +kernel
theorem d_B_trainRatio_17 : decode b_B_trainRatio 17 = .ok (.if_icmp .ge 61, 3) := by decide +kernel
theorem d_B_trainRatio_20 : decode b_B_trainRatio 20 = .ok (.lload_n 2, 1) := by decide +kernel
theorem d_B_trainRatio_21 : decode b_B_trainRatio 21 = .ok (.aload_n 0, 1) := by decide +kernel
theorem d_B_trainRatio_22 : decode b_B_trainRatio 22 = .ok (.aload_n 0, 1) := by decide +kernel
theorem d_B_trainRatio_23 : decode b_B_trainRatio 23 = .ok (.getfield 23, 3) := by decide +kernel
theorem d_B_trainRatio_26 : decode b_B_trainRatio 26 = .ok (.iload 6, 2) := by decide +kernel
theorem d_B_trainRatio_28 : decode b_B_trainRatio 28 = .ok (.invokevirtual 45, 3) := by decide +kernel
theorem d_B_trainRatio_31 : decode b_B_trainRatio 31 = .ok (.aload_n 0, 1) := by decide +kernel
theorem d_B_trainRatio_32 : decode b_B_trainRatio 32 = .ok (.getfield 26, 3) := by decide +kernel
theorem d_B_trainRatio_35 : decode b_B_trainRatio 35 = .ok (.iload 6, 2) := by decide +kernel
theorem d_B_trainRatio_37 : decode b_B_trainRatio 37 = .ok (.invokevirtual 45, 3) := by decide +kernel
theorem d_B_trainRatio_40 : decode b_B_trainRatio 40 = .ok (.invokevirtual 136, 3) := by decide +kernel
theorem d_B_trainRatio_43 : decode b_B_trainRatio 43 = .ok (.lmul, 1) := by decide +kernel
theorem d_B_trainRatio_44 : decode b_B_trainRatio 44 = .ok (.lstore_n 2, 1) := by decide +kernel
theorem d_B_trainRatio_45 : decode b_B_trainRatio 45 = .ok (.lload 4, 2) := by decide +kernel
theorem d_B_trainRatio_47 : decode b_B_trainRatio 47 = .ok (.aload_n 0, 1) := by decide +kernel
theorem d_B_trainRatio_48 : decode b_B_trainRatio 48 = .ok (.aload_n 0, 1) := by decide +kernel
theorem d_B_trainRatio_49 : decode b_B_trainRatio 49 = .ok (.getfield 23, 3) := by decide +kernel
theorem d_B_trainRatio_52 : decode b_B_trainRatio 52 = .ok (.iload 6, 2) := by decide +kernel
theorem d_B_trainRatio_54 : decode b_B_trainRatio 54 = .ok (.invokevirtual 45, 3) := by decide +kernel
theorem d_B_trainRatio_57 : decode b_B_trainRatio 57 = .ok (.aload_n 0, 1) := by decide +kernel
theorem d_B_trainRatio_58 : decode b_B_trainRatio 58 = .ok (.getfield 26, 3) := by decide +kernel
theorem d_B_trainRatio_61 : decode b_B_trainRatio 61 = .ok (.iload 6, 2) := by decide +kernel
theorem d_B_trainRatio_63 : decode b_B_trainRatio 63 = .ok (.invokevirtual 45, 3) := by decide +kernel
theorem d_B_trainRatio_66 : decode b_B_trainRatio 66 = .ok (.invokevirtual 140, 3) := by decide +kernel
theorem d_B_trainRatio_69 : decode b_B_trainRatio 69 = .ok (.lmul, 1) := by decide +kernel
theorem d_B_trainRatio_70 : decode b_B_trainRatio 70 = .ok (.lstore 4, 2) := by decide +kernel
theorem d_B_trainRatio_72 : decode b_B_trainRatio 72 = .ok (.iinc 6 1, 3) := by decide +kernel
theorem d_B_trainRatio_75 : decode b_B_trainRatio 75 = .ok (.goto (-67), 3) := by decide +kernel
theorem d_B_trainRatio_78 : decode b_B_trainRatio 78 = .ok (.lload_n 2, 1) := by decide +kernel
theorem d_B_trainRatio_79 : decode b_B_trainRatio 79 = .ok (.lload 4, 2) := by decide +kernel
theorem d_B_trainRatio_81 : decode b_B_trainRatio 81 = .ok (.iload_n 1, 1) := by decide +kernel
theorem d_B_trainRatio_82 : decode b_B_trainRatio 82 = .ok (.invokestatic 143, 3) := by decide +kernel
theorem d_B_trainRatio_85 : decode b_B_trainRatio 85 = .ok (.lreturn, 1) := by decide +kernel
theorem d_B_hundredthsInTrain_0 : decode b_B_hundredthsInTrain 0 = .ok (.aload_n 0, 1) := by decide +kernel
theorem d_B_hundredthsInTrain_1 : decode b_B_hundredthsInTrain 1 = .ok (.aload_n 0, 1) := by decide +kernel
theorem d_B_hundredthsInTrain_2 : decode b_B_hundredthsInTrain 2 = .ok (.getfield 23, 3) := by decide +kernel
theorem d_B_hundredthsInTrain_5 : decode b_B_hundredthsInTrain 5 = .ok (.iload_n 1, 1) := by decide +kernel
theorem d_B_hundredthsInTrain_6 : decode b_B_hundredthsInTrain 6 = .ok (.invokevirtual 45, 3) := by decide +kernel
theorem d_B_hundredthsInTrain_9 : decode b_B_hundredthsInTrain 9 = .ok (.aload_n 0, 1) := by decide +kernel
theorem d_B_hundredthsInTrain_10 : decode b_B_hundredthsInTrain 10 = .ok (.getfield 26, 3) := by decide +kernel
theorem d_B_hundredthsInTrain_13 : decode b_B_hundredthsInTrain 13 = .ok (.iload_n 1, 1) := by decide +kernel
theorem d_B_hundredthsInTrain_14 : decode b_B_hundredthsInTrain 14 = .ok (.invokevirtual 45, 3) := by decide +kernel
theorem d_B_hundredthsInTrain_17 : decode b_B_hundredthsInTrain 17 = .ok (.invokevirtual 147, 3) := by decide +kernel
theorem d_B_hundredthsInTrain_20 : decode b_B_hundredthsInTrain 20 = .ok (.ireturn, 1) := by decide +kernel
theorem d_B_nearestPair_0 : decode b_B_nearestPair 0 = .ok (.iconst 0, 1) := by decide +kernel
theorem d_B_nearestPair_1 : decode b_B_nearestPair 1 = .ok (.istore_n 1, 1) := by decide +kernel
theorem d_B_nearestPair_2 : decode b_B_nearestPair 2 = .ok (.iconst 1, 1) := by decide +kernel
theorem d_B_nearestPair_3 : decode b_B_nearestPair 3 = .ok (.istore_n 2, 1) := by decide +kernel
theorem d_B_nearestPair_4 : decode b_B_nearestPair 4 = .ok (.iload_n 2, 1) := by decide +kernel
theorem d_B_nearestPair_5 : decode b_B_nearestPair 5 = .ok (.aload_n 0, 1) := by decide +kernel
theorem d_B_nearestPair_6 : decode b_B_nearestPair 6 = .ok (.getfield 23, 3) := by decide +kernel
theorem d_B_nearestPair_9 : decode b_B_nearestPair 9 = .ok (.invokevirtual 37, 3) := by decide +kernel
theorem d_B_nearestPair_12 : decode b_B_nearestPair 12 = .ok (.if_icmp .ge 24, 3) := by decide +kernel
theorem d_B_nearestPair_15 : decode b_B_nearestPair 15 = .ok (.aload_n 0, 1) := by decide +kernel
theorem d_B_nearestPair_16 : decode b_B_nearestPair 16 = .ok (.iload_n 2, 1) := by decide +kernel
theorem d_B_nearestPair_17 : decode b_B_nearestPair 17 = .ok (.invokevirtual 150, 3) := by decide +kernel
theorem d_B_nearestPair_20 : decode b_B_nearestPair 20 = .ok (.aload_n 0, 1) := by decide +kernel
theorem d_B_nearestPair_21 : decode b_B_nearestPair 21 = .ok (.iload_n 1, 1) := by decide +kernel
theorem d_B_nearestPair_22 : decode b_B_nearestPair 22 = .ok (.invokevirtual 150, 3) := by decide +kernel
theorem d_B_nearestPair_25 : decode b_B_nearestPair 25 = .ok (.if_icmp .ge 5, 3) := by decide +kernel
theorem d_B_nearestPair_28 : decode b_B_nearestPair 28 = .ok (.iload_n 2, 1) := by decide +kernel
theorem d_B_nearestPair_29 : decode b_B_nearestPair 29 = .ok (.istore_n 1, 1) := by decide +kernel
theorem d_B_nearestPair_30 : decode b_B_nearestPair 30 = .ok (.iinc 2 1, 3) := by decide +kernel
theorem d_B_nearestPair_33 : decode b_B_nearestPair 33 = .ok (.goto (-29), 3) := by decide +kernel
theorem d_B_nearestPair_36 : decode b_B_nearestPair 36 = .ok (.iload_n 1, 1) := by decide +kernel
theorem d_B_nearestPair_37 : decode b_B_nearestPair 37 = .ok (.ireturn, 1) := by decide +kernel
theorem d_B_cosine_0 : decode b_B_cosine 0 = .ok (.ldc2_w 153, 3) := by decide +kernel
theorem d_B_cosine_3 : decode b_B_cosine 3 = .ok (.aload_n 0, 1) := by decide +kernel
theorem d_B_cosine_4 : decode b_B_cosine 4 = .ok (.invokevirtual 101, 3) := by decide +kernel
theorem d_B_cosine_7 : decode b_B_cosine 7 = .ok (.i2l, 1) := by decide +kernel
theorem d_B_cosine_8 : decode b_B_cosine 8 = .ok (.lsub, 1) := by decide +kernel
theorem d_B_cosine_9 : decode b_B_cosine 9 = .ok (.ldc2_w 153, 3) := by decide +kernel
theorem d_B_cosine_12 : decode b_B_cosine 12 = .ok (.lmul, 1) := by decide +kernel
theorem d_B_cosine_13 : decode b_B_cosine 13 = .ok (.invokestatic 155, 3) := by decide +kernel
theorem d_B_cosine_16 : decode b_B_cosine 16 = .ok (.lreturn, 1) := by decide +kernel
theorem d_B_reach_0 : decode b_B_reach 0 = .ok (.aload_n 0, 1) := by decide +kernel
theorem d_B_reach_1 : decode b_B_reach 1 = .ok (.iload_n 1, 1) := by decide +kernel
theorem d_B_reach_2 : decode b_B_reach 2 = .ok (.invokevirtual 130, 3) := by decide +kernel
theorem d_B_reach_5 : decode b_B_reach 5 = .ok (.bipush 100, 2) := by decide +kernel
theorem d_B_reach_7 : decode b_B_reach 7 = .ok (.iadd, 1) := by decide +kernel
theorem d_B_reach_8 : decode b_B_reach 8 = .ok (.i2l, 1) := by decide +kernel
theorem d_B_reach_9 : decode b_B_reach 9 = .ok (.lstore_n 2, 1) := by decide +kernel
theorem d_B_reach_10 : decode b_B_reach 10 = .ok (.aload_n 0, 1) := by decide +kernel
theorem d_B_reach_11 : decode b_B_reach 11 = .ok (.getfield 14, 3) := by decide +kernel
theorem d_B_reach_14 : decode b_B_reach 14 = .ok (.iload_n 1, 1) := by decide +kernel
theorem d_B_reach_15 : decode b_B_reach 15 = .ok (.invokevirtual 45, 3) := by decide +kernel
theorem d_B_reach_18 : decode b_B_reach 18 = .ok (.i2l, 1) := by decide +kernel
theorem d_B_reach_19 : decode b_B_reach 19 = .ok (.lstore 4, 2) := by decide +kernel
theorem d_B_reach_21 : decode b_B_reach 21 = .ok (.sipush 10000, 3) := by decide +kernel
theorem d_B_reach_24 : decode b_B_reach 24 = .ok (.aload_n 0, 1) := by decide +kernel
theorem d_B_reach_25 : decode b_B_reach 25 = .ok (.invokevirtual 101, 3) := by decide +kernel
theorem d_B_reach_28 : decode b_B_reach 28 = .ok (.isub, 1) := by decide +kernel
theorem d_B_reach_29 : decode b_B_reach 29 = .ok (.i2l, 1) := by decide +kernel
theorem d_B_reach_30 : decode b_B_reach 30 = .ok (.lstore 6, 2) := by decide +kernel
theorem d_B_reach_32 : decode b_B_reach 32 = .ok (.ldc2_w 159, 3) := by decide +kernel
theorem d_B_reach_35 : decode b_B_reach 35 = .ok (.lload_n 2, 1) := by decide +kernel
theorem d_B_reach_36 : decode b_B_reach 36 = .ok (.lmul, 1) := by decide +kernel
theorem d_B_reach_37 : decode b_B_reach 37 = .ok (.lload_n 2, 1) := by decide +kernel
theorem d_B_reach_38 : decode b_B_reach 38 = .ok (.lmul, 1) := by decide +kernel
theorem d_B_reach_39 : decode b_B_reach 39 = .ok (.lload 4, 2) := by decide +kernel
theorem d_B_reach_41 : decode b_B_reach 41 = .ok (.lload 4, 2) := by decide +kernel
theorem d_B_reach_43 : decode b_B_reach 43 = .ok (.lmul, 1) := by decide +kernel
theorem d_B_reach_44 : decode b_B_reach 44 = .ok (.lload 6, 2) := by decide +kernel
theorem d_B_reach_46 : decode b_B_reach 46 = .ok (.lmul, 1) := by decide +kernel
theorem d_B_reach_47 : decode b_B_reach 47 = .ok (.lsub, 1) := by decide +kernel
theorem d_B_reach_48 : decode b_B_reach 48 = .ok (.ldc2_w 161, 3) := by decide +kernel
theorem d_B_reach_51 : decode b_B_reach 51 = .ok (.lmul, 1) := by decide +kernel
theorem d_B_reach_52 : decode b_B_reach 52 = .ok (.lstore 8, 2) := by decide +kernel
theorem d_B_reach_54 : decode b_B_reach 54 = .ok (.lload 8, 2) := by decide +kernel
theorem d_B_reach_56 : decode b_B_reach 56 = .ok (.lconst 0, 1) := by decide +kernel
theorem d_B_reach_57 : decode b_B_reach 57 = .ok (.lcmp, 1) := by decide +kernel
theorem d_B_reach_58 : decode b_B_reach 58 = .ok (.ifCond .ge 7, 3) := by decide +kernel
theorem d_B_reach_61 : decode b_B_reach 61 = .ok (.lconst 0, 1) := by decide +kernel
theorem d_B_reach_62 : decode b_B_reach 62 = .ok (.goto 8, 3) := by decide +kernel
theorem d_B_reach_65 : decode b_B_reach 65 = .ok (.lload 8, 2) := by decide +kernel
theorem d_B_reach_67 : decode b_B_reach 67 = .ok (.invokestatic 155, 3) := by decide +kernel
theorem d_B_reach_70 : decode b_B_reach 70 = .ok (.lreturn, 1) := by decide +kernel
theorem d_B_path_0 : decode b_B_path 0 = .ok (.aload_n 0, 1) := by decide +kernel
theorem d_B_path_1 : decode b_B_path 1 = .ok (.iload_n 1, 1) := by decide +kernel
theorem d_B_path_2 : decode b_B_path 2 = .ok (.invokevirtual 130, 3) := by decide +kernel
theorem d_B_path_5 : decode b_B_path 5 = .ok (.aload_n 0, 1) := by decide +kernel
theorem d_B_path_6 : decode b_B_path 6 = .ok (.iload_n 2, 1) := by decide +kernel
theorem d_B_path_7 : decode b_B_path 7 = .ok (.invokevirtual 130, 3) := by decide +kernel
theorem d_B_path_10 : decode b_B_path 10 = .ok (.iadd, 1) := by decide +kernel
theorem d_B_path_11 : decode b_B_path 11 = .ok (.i2l, 1) := by decide +kernel
theorem d_B_path_12 : decode b_B_path 12 = .ok (.lstore_n 3, 1) := by decide +kernel
theorem d_B_path_13 : decode b_B_path 13 = .ok (.aload_n 0, 1) := by decide +kernel
theorem d_B_path_14 : decode b_B_path 14 = .ok (.iload_n 1, 1) := by decide +kernel
theorem d_B_path_15 : decode b_B_path 15 = .ok (.invokevirtual 163, 3) := by decide +kernel
theorem d_B_path_18 : decode b_B_path 18 = .ok (.aload_n 0, 1) := by decide +kernel
theorem d_B_path_19 : decode b_B_path 19 = .ok (.iload_n 2, 1) := by decide +kernel
theorem d_B_path_20 : decode b_B_path 20 = .ok (.invokevirtual 163, 3) := by decide +kernel
theorem d_B_path_23 : decode b_B_path 23 = .ok (.ladd, 1) := by decide +kernel
theorem d_B_path_24 : decode b_B_path 24 = .ok (.lload_n 3, 1) := by decide +kernel
theorem d_B_path_25 : decode b_B_path 25 = .ok (.lload_n 3, 1) := by decide +kernel
theorem d_B_path_26 : decode b_B_path 26 = .ok (.lmul, 1) := by decide +kernel
theorem d_B_path_27 : decode b_B_path 27 = .ok (.aload_n 0, 1) := by decide +kernel
theorem d_B_path_28 : decode b_B_path 28 = .ok (.invokevirtual 101, 3) := by decide +kernel
theorem d_B_path_31 : decode b_B_path 31 = .ok (.i2l, 1) := by decide +kernel
theorem d_B_path_32 : decode b_B_path 32 = .ok (.lmul, 1) := by decide +kernel
theorem d_B_path_33 : decode b_B_path 33 = .ok (.invokestatic 155, 3) := by decide +kernel
theorem d_B_path_36 : decode b_B_path 36 = .ok (.lsub, 1) := by decide +kernel
theorem d_B_path_37 : decode b_B_path 37 = .ok (.lreturn, 1) := by decide +kernel
theorem d_B_lowContact_0 : decode b_B_lowContact 0 = .ok (.ldc2_w 167, 3) := by decide +kernel
theorem d_B_lowContact_3 : decode b_B_lowContact 3 = .ok (.aload_n 0, 1) := by decide +kernel
theorem d_B_lowContact_4 : decode b_B_lowContact 4 = .ok (.invokevirtual 169, 3) := by decide +kernel
theorem d_B_lowContact_7 : decode b_B_lowContact 7 = .ok (.lconst 1, 1) := by decide +kernel
theorem d_B_lowContact_8 : decode b_B_lowContact 8 = .ok (.ladd, 1) := by decide +kernel
theorem d_B_lowContact_9 : decode b_B_lowContact 9 = .ok (.lmul, 1) := by decide +kernel
theorem d_B_lowContact_10 : decode b_B_lowContact 10 = .ok (.lstore_n 3, 1) := by decide +kernel
theorem d_B_lowContact_11 : decode b_B_lowContact 11 = .ok (.lload_n 3, 1) := by decide +kernel
theorem d_B_lowContact_12 : decode b_B_lowContact 12 = .ok (.lconst 0, 1) := by decide +kernel
theorem d_B_lowContact_13 : decode b_B_lowContact 13 = .ok (.lcmp, 1) := by decide +kernel
theorem d_B_lowContact_14 : decode b_B_lowContact 14 = .ok (.ifCond .ne 7, 3) := by decide +kernel
theorem d_B_lowContact_17 : decode b_B_lowContact 17 = .ok (.lconst 0, 1) := by decide +kernel
theorem d_B_lowContact_18 : decode b_B_lowContact 18 = .ok (.goto 17, 3) := by decide +kernel
theorem d_B_lowContact_21 : decode b_B_lowContact 21 = .ok (.aload_n 0, 1) := by decide +kernel
theorem d_B_lowContact_22 : decode b_B_lowContact 22 = .ok (.iload_n 1, 1) := by decide +kernel
theorem d_B_lowContact_23 : decode b_B_lowContact 23 = .ok (.iload_n 2, 1) := by decide +kernel
theorem d_B_lowContact_24 : decode b_B_lowContact 24 = .ok (.invokevirtual 173, 3) := by decide +kernel
theorem d_B_lowContact_27 : decode b_B_lowContact 27 = .ok (.lconst 1, 1) := by decide +kernel
theorem d_B_lowContact_28 : decode b_B_lowContact 28 = .ok (.lsub, 1) := by decide +kernel
theorem d_B_lowContact_29 : decode b_B_lowContact 29 = .ok (.ldc2_w 176, 3) := by decide +kernel
theorem d_B_lowContact_32 : decode b_B_lowContact 32 = .ok (.lmul, 1) := by decide +kernel
theorem d_B_lowContact_33 : decode b_B_lowContact 33 = .ok (.lload_n 3, 1) := by decide +kernel
theorem d_B_lowContact_34 : decode b_B_lowContact 34 = .ok (.ldiv, 1) := by decide +kernel
theorem d_B_lowContact_35 : decode b_B_lowContact 35 = .ok (.lstore 5, 2) := by decide +kernel
theorem d_B_lowContact_37 : decode b_B_lowContact 37 = .ok (.lconst 0, 1) := by decide +kernel
theorem d_B_lowContact_38 : decode b_B_lowContact 38 = .ok (.lload 5, 2) := by decide +kernel
theorem d_B_lowContact_40 : decode b_B_lowContact 40 = .ok (.invokestatic 178, 3) := by decide +kernel
theorem d_B_lowContact_43 : decode b_B_lowContact 43 = .ok (.lreturn, 1) := by decide +kernel
theorem d_B_highContact_0 : decode b_B_highContact 0 = .ok (.ldc2_w 181, 3) := by decide +kernel
theorem d_B_highContact_3 : decode b_B_highContact 3 = .ok (.aload_n 0, 1) := by decide +kernel
theorem d_B_highContact_4 : decode b_B_highContact 4 = .ok (.invokevirtual 169, 3) := by decide +kernel
theorem d_B_highContact_7 : decode b_B_highContact 7 = .ok (.lmul, 1) := by decide +kernel
theorem d_B_highContact_8 : decode b_B_highContact 8 = .ok (.lstore_n 3, 1) := by decide +kernel
theorem d_B_highContact_9 : decode b_B_highContact 9 = .ok (.lload_n 3, 1) := by decide +kernel
theorem d_B_highContact_10 : decode b_B_highContact 10 = .ok (.lconst 0, 1) := by decide +kernel
theorem d_B_highContact_11 : decode b_B_highContact 11 = .ok (.lcmp, 1) := by decide +kernel
theorem d_B_highContact_12 : decode b_B_highContact 12 = .ok (.ifCond .ne 7, 3) := by decide +kernel
theorem d_B_highContact_15 : decode b_B_highContact 15 = .ok (.lconst 0, 1) := by decide +kernel
theorem d_B_highContact_16 : decode b_B_highContact 16 = .ok (.goto 19, 3) := by decide +kernel
theorem d_B_highContact_19 : decode b_B_highContact 19 = .ok (.aload_n 0, 1) := by decide +kernel
theorem d_B_highContact_20 : decode b_B_highContact 20 = .ok (.iload_n 1, 1) := by decide +kernel
theorem d_B_highContact_21 : decode b_B_highContact 21 = .ok (.iload_n 2, 1) := by decide +kernel
theorem d_B_highContact_22 : decode b_B_highContact 22 = .ok (.invokevirtual 173, 3) := by decide +kernel
theorem d_B_highContact_25 : decode b_B_highContact 25 = .ok (.ldc2_w 183, 3) := by decide +kernel
theorem d_B_highContact_28 : decode b_B_highContact 28 = .ok (.ladd, 1) := by decide +kernel
theorem d_B_highContact_29 : decode b_B_highContact 29 = .ok (.ldc2_w 176, 3) := by decide +kernel
theorem d_B_highContact_32 : decode b_B_highContact 32 = .ok (.lmul, 1) := by decide +kernel
theorem d_B_highContact_33 : decode b_B_highContact 33 = .ok (.lload_n 3, 1) := by decide +kernel
theorem d_B_highContact_34 : decode b_B_highContact 34 = .ok (.ldiv, 1) := by decide +kernel
theorem d_B_highContact_35 : decode b_B_highContact 35 = .ok (.lstore 5, 2) := by decide +kernel
theorem d_B_highContact_37 : decode b_B_highContact 37 = .ok (.lconst 0, 1) := by decide +kernel
theorem d_B_highContact_38 : decode b_B_highContact 38 = .ok (.lload 5, 2) := by decide +kernel
theorem d_B_highContact_40 : decode b_B_highContact 40 = .ok (.lconst 1, 1) := by decide +kernel
theorem d_B_highContact_41 : decode b_B_highContact 41 = .ok (.ladd, 1) := by decide +kernel
theorem d_B_highContact_42 : decode b_B_highContact 42 = .ok (.invokestatic 178, 3) := by decide +kernel
theorem d_B_highContact_45 : decode b_B_highContact 45 = .ok (.lreturn, 1) := by decide +kernel
theorem d_N_init_0 : decode b_N_init 0 = .ok (.aload_n 0, 1) := by decide +kernel
theorem d_N_init_1 : decode b_N_init 1 = .ok (.invokespecial 1, 3) := by decide +kernel
theorem d_N_init_4 : decode b_N_init 4 = .ok (.aload_n 0, 1) := by decide +kernel
theorem d_N_init_5 : decode b_N_init 5 = .ok (.iconst 0, 1) := by decide +kernel
theorem d_N_init_6 : decode b_N_init 6 = .ok (.putfield 7, 3) := by decide +kernel
theorem d_N_init_9 : decode b_N_init 9 = .ok (.aload_n 0, 1) := by decide +kernel
theorem d_N_init_10 : decode b_N_init 10 = .ok (.iload_n 1, 1) := by decide +kernel
theorem d_N_init_11 : decode b_N_init 11 = .ok (.ifCond .ge 7, 3) := by decide +kernel
theorem d_N_init_14 : decode b_N_init 14 = .ok (.iconst 0, 1) := by decide +kernel
theorem d_N_init_15 : decode b_N_init 15 = .ok (.goto 4, 3) := by decide +kernel
theorem d_N_init_18 : decode b_N_init 18 = .ok (.iload_n 1, 1) := by decide +kernel
theorem d_N_init_19 : decode b_N_init 19 = .ok (.newarray .int, 2) := by decide +kernel
theorem d_N_init_21 : decode b_N_init 21 = .ok (.putfield 13, 3) := by decide +kernel
theorem d_N_init_24 : decode b_N_init 24 = .ok (.return_, 1) := by decide +kernel
theorem d_N_size_0 : decode b_N_size 0 = .ok (.aload_n 0, 1) := by decide +kernel
theorem d_N_size_1 : decode b_N_size 1 = .ok (.getfield 7, 3) := by decide +kernel
theorem d_N_size_4 : decode b_N_size 4 = .ok (.ireturn, 1) := by decide +kernel
theorem d_N_isFull_0 : decode b_N_isFull 0 = .ok (.aload_n 0, 1) := by decide +kernel
theorem d_N_isFull_1 : decode b_N_isFull 1 = .ok (.getfield 7, 3) := by decide +kernel
theorem d_N_isFull_4 : decode b_N_isFull 4 = .ok (.aload_n 0, 1) := by decide +kernel
theorem d_N_isFull_5 : decode b_N_isFull 5 = .ok (.getfield 13, 3) := by decide +kernel
theorem d_N_isFull_8 : decode b_N_isFull 8 = .ok (.arraylength, 1) := by decide +kernel
theorem d_N_isFull_9 : decode b_N_isFull 9 = .ok (.if_icmp .lt 7, 3) := by decide +kernel
theorem d_N_isFull_12 : decode b_N_isFull 12 = .ok (.iconst 1, 1) := by decide +kernel
theorem d_N_isFull_13 : decode b_N_isFull 13 = .ok (.goto 4, 3) := by decide +kernel
theorem d_N_isFull_16 : decode b_N_isFull 16 = .ok (.iconst 0, 1) := by decide +kernel
theorem d_N_isFull_17 : decode b_N_isFull 17 = .ok (.ireturn, 1) := by decide +kernel
theorem d_N_has_0 : decode b_N_has 0 = .ok (.iload_n 1, 1) := by decide +kernel
theorem d_N_has_1 : decode b_N_has 1 = .ok (.ifCond .lt 24, 3) := by decide +kernel
theorem d_N_has_4 : decode b_N_has 4 = .ok (.iload_n 1, 1) := by decide +kernel
theorem d_N_has_5 : decode b_N_has 5 = .ok (.aload_n 0, 1) := by decide +kernel
theorem d_N_has_6 : decode b_N_has 6 = .ok (.getfield 7, 3) := by decide +kernel
theorem d_N_has_9 : decode b_N_has 9 = .ok (.if_icmp .ge 16, 3) := by decide +kernel
theorem d_N_has_12 : decode b_N_has 12 = .ok (.iload_n 1, 1) := by decide +kernel
theorem d_N_has_13 : decode b_N_has 13 = .ok (.aload_n 0, 1) := by decide +kernel
theorem d_N_has_14 : decode b_N_has 14 = .ok (.getfield 13, 3) := by decide +kernel
theorem d_N_has_17 : decode b_N_has 17 = .ok (.arraylength, 1) := by decide +kernel
theorem d_N_has_18 : decode b_N_has 18 = .ok (.if_icmp .ge 7, 3) := by decide +kernel
theorem d_N_has_21 : decode b_N_has 21 = .ok (.iconst 1, 1) := by decide +kernel
theorem d_N_has_22 : decode b_N_has 22 = .ok (.goto 4, 3) := by decide +kernel
theorem d_N_has_25 : decode b_N_has 25 = .ok (.iconst 0, 1) := by decide +kernel
theorem d_N_has_26 : decode b_N_has 26 = .ok (.ireturn, 1) := by decide +kernel
theorem d_N_at_0 : decode b_N_at 0 = .ok (.iload_n 1, 1) := by decide +kernel
theorem d_N_at_1 : decode b_N_at 1 = .ok (.ifCond .lt 29, 3) := by decide +kernel
theorem d_N_at_4 : decode b_N_at 4 = .ok (.iload_n 1, 1) := by decide +kernel
theorem d_N_at_5 : decode b_N_at 5 = .ok (.aload_n 0, 1) := by decide +kernel
theorem d_N_at_6 : decode b_N_at 6 = .ok (.getfield 7, 3) := by decide +kernel
theorem d_N_at_9 : decode b_N_at 9 = .ok (.if_icmp .ge 21, 3) := by decide +kernel
theorem d_N_at_12 : decode b_N_at 12 = .ok (.iload_n 1, 1) := by decide +kernel
theorem d_N_at_13 : decode b_N_at 13 = .ok (.aload_n 0, 1) := by decide +kernel
theorem d_N_at_14 : decode b_N_at 14 = .ok (.getfield 13, 3) := by decide +kernel
theorem d_N_at_17 : decode b_N_at 17 = .ok (.arraylength, 1) := by decide +kernel
theorem d_N_at_18 : decode b_N_at 18 = .ok (.if_icmp .ge 12, 3) := by decide +kernel
theorem d_N_at_21 : decode b_N_at 21 = .ok (.aload_n 0, 1) := by decide +kernel
theorem d_N_at_22 : decode b_N_at 22 = .ok (.getfield 13, 3) := by decide +kernel
theorem d_N_at_25 : decode b_N_at 25 = .ok (.iload_n 1, 1) := by decide +kernel
theorem d_N_at_26 : decode b_N_at 26 = .ok (.iaload, 1) := by decide +kernel
theorem d_N_at_27 : decode b_N_at 27 = .ok (.goto 4, 3) := by decide +kernel
theorem d_N_at_30 : decode b_N_at 30 = .ok (.iconst 0, 1) := by decide +kernel
theorem d_N_at_31 : decode b_N_at 31 = .ok (.ireturn, 1) := by decide +kernel
theorem d_N_set_0 : decode b_N_set 0 = .ok (.iload_n 1, 1) := by decide +kernel
theorem d_N_set_1 : decode b_N_set 1 = .ok (.ifCond .lt 27, 3) := by decide +kernel
theorem d_N_set_4 : decode b_N_set 4 = .ok (.iload_n 1, 1) := by decide +kernel
theorem d_N_set_5 : decode b_N_set 5 = .ok (.aload_n 0, 1) := by decide +kernel
theorem d_N_set_6 : decode b_N_set 6 = .ok (.getfield 7, 3) := by decide +kernel
theorem d_N_set_9 : decode b_N_set 9 = .ok (.if_icmp .ge 19, 3) := by decide +kernel
theorem d_N_set_12 : decode b_N_set 12 = .ok (.iload_n 1, 1) := by decide +kernel
theorem d_N_set_13 : decode b_N_set 13 = .ok (.aload_n 0, 1) := by decide +kernel
theorem d_N_set_14 : decode b_N_set 14 = .ok (.getfield 13, 3) := by decide +kernel
theorem d_N_set_17 : decode b_N_set 17 = .ok (.arraylength, 1) := by decide +kernel
theorem d_N_set_18 : decode b_N_set 18 = .ok (.if_icmp .ge 10, 3) := by decide +kernel
theorem d_N_set_21 : decode b_N_set 21 = .ok (.aload_n 0, 1) := by decide +kernel
theorem d_N_set_22 : decode b_N_set 22 = .ok (.getfield 13, 3) := by decide +kernel
theorem d_N_set_25 : decode b_N_set 25 = .ok (.iload_n 1, 1) := by decide +kernel
theorem d_N_set_26 : decode b_N_set 26 = .ok (.iload_n 2, 1) := by decide +kernel
theorem d_N_set_27 : decode b_N_set 27 = .ok (.iastore, 1) := by decide +kernel
theorem d_N_set_28 : decode b_N_set 28 = .ok (.return_, 1) := by decide +kernel
theorem d_N_add_0 : decode b_N_add 0 = .ok (.aload_n 0, 1) := by decide +kernel
theorem d_N_add_1 : decode b_N_add 1 = .ok (.getfield 7, 3) := by decide +kernel
theorem d_N_add_4 : decode b_N_add 4 = .ok (.ifCond .lt 35, 3) := by decide +kernel
theorem d_N_add_7 : decode b_N_add 7 = .ok (.aload_n 0, 1) := by decide +kernel
theorem d_N_add_8 : decode b_N_add 8 = .ok (.getfield 7, 3) := by decide +kernel
theorem d_N_add_11 : decode b_N_add 11 = .ok (.aload_n 0, 1) := by decide +kernel
theorem d_N_add_12 : decode b_N_add 12 = .ok (.getfield 13, 3) := by decide +kernel
theorem d_N_add_15 : decode b_N_add 15 = .ok (.arraylength, 1) := by decide +kernel
theorem d_N_add_16 : decode b_N_add 16 = .ok (.if_icmp .ge 23, 3) := by decide +kernel
theorem d_N_add_19 : decode b_N_add 19 = .ok (.aload_n 0, 1) := by decide +kernel
theorem d_N_add_20 : decode b_N_add 20 = .ok (.getfield 13, 3) := by decide +kernel
theorem d_N_add_23 : decode b_N_add 23 = .ok (.aload_n 0, 1) := by decide +kernel
theorem d_N_add_24 : decode b_N_add 24 = .ok (.getfield 7, 3) := by decide +kernel
theorem d_N_add_27 : decode b_N_add 27 = .ok (.iload_n 1, 1) := by decide +kernel
theorem d_N_add_28 : decode b_N_add 28 = .ok (.iastore, 1) := by decide +kernel
theorem d_N_add_29 : decode b_N_add 29 = .ok (.aload_n 0, 1) := by decide +kernel
theorem d_N_add_30 : decode b_N_add 30 = .ok (.dup, 1) := by decide +kernel
theorem d_N_add_31 : decode b_N_add 31 = .ok (.getfield 7, 3) := by decide +kernel
theorem d_N_add_34 : decode b_N_add 34 = .ok (.iconst 1, 1) := by decide +kernel
theorem d_N_add_35 : decode b_N_add 35 = .ok (.iadd, 1) := by decide +kernel
theorem d_N_add_36 : decode b_N_add 36 = .ok (.putfield 7, 3) := by decide +kernel
theorem d_N_add_39 : decode b_N_add 39 = .ok (.return_, 1) := by decide +kernel
theorem d_N_empty_0 : decode b_N_empty 0 = .ok (.aload_n 0, 1) := by decide +kernel
theorem d_N_empty_1 : decode b_N_empty 1 = .ok (.iconst 0, 1) := by decide +kernel
theorem d_N_empty_2 : decode b_N_empty 2 = .ok (.putfield 7, 3) := by decide +kernel
theorem d_N_empty_5 : decode b_N_empty 5 = .ok (.return_, 1) := by decide +kernel
theorem d_N_become_0 : decode b_N_become 0 = .ok (.aload_n 0, 1) := by decide +kernel
theorem d_N_become_1 : decode b_N_become 1 = .ok (.invokevirtual 17, 3) := by decide +kernel
theorem d_N_become_4 : decode b_N_become 4 = .ok (.iconst 0, 1) := by decide +kernel
theorem d_N_become_5 : decode b_N_become 5 = .ok (.istore_n 2, 1) := by decide +kernel
theorem d_N_become_6 : decode b_N_become 6 = .ok (.iload_n 2, 1) := by decide +kernel
theorem d_N_become_7 : decode b_N_become 7 = .ok (.aload_n 1, 1) := by decide +kernel
theorem d_N_become_8 : decode b_N_become 8 = .ok (.invokevirtual 20, 3) := by decide +kernel
theorem d_N_become_11 : decode b_N_become 11 = .ok (.if_icmp .ge 18, 3) := by decide +kernel
theorem d_N_become_14 : decode b_N_become 14 = .ok (.aload_n 0, 1) := by decide +kernel
theorem d_N_become_15 : decode b_N_become 15 = .ok (.aload_n 1, 1) := by decide +kernel
theorem d_N_become_16 : decode b_N_become 16 = .ok (.iload_n 2, 1) := by decide +kernel
theorem d_N_become_17 : decode b_N_become 17 = .ok (.invokevirtual 23, 3) := by decide +kernel
theorem d_N_become_20 : decode b_N_become 20 = .ok (.invokevirtual 27, 3) := by decide +kernel
theorem d_N_become_23 : decode b_N_become 23 = .ok (.iinc 2 1, 3) := by decide +kernel
theorem d_N_become_26 : decode b_N_become 26 = .ok (.goto (-20), 3) := by decide +kernel
theorem d_N_become_29 : decode b_N_become 29 = .ok (.return_, 1) := by decide +kernel
theorem d_O_init_0 : decode b_O_init 0 = .ok (.aload_n 0, 1) := by decide +kernel
theorem d_O_init_1 : decode b_O_init 1 = .ok (.invokespecial 3, 3) := by decide +kernel
theorem d_O_init_4 : decode b_O_init 4 = .ok (.aload_n 0, 1) := by decide +kernel
theorem d_O_init_5 : decode b_O_init 5 = .ok (.bipush 20, 2) := by decide +kernel
theorem d_O_init_7 : decode b_O_init 7 = .ok (.newarray .long, 2) := by decide +kernel
theorem d_O_init_9 : decode b_O_init 9 = .ok (.putfield 9, 3) := by decide +kernel
theorem d_O_init_12 : decode b_O_init 12 = .ok (.aload_n 0, 1) := by decide +kernel
theorem d_O_init_13 : decode b_O_init 13 = .ok (.iconst (-1), 1) := by decide +kernel
theorem d_O_init_14 : decode b_O_init 14 = .ok (.putfield 15, 3) := by decide +kernel
theorem d_O_init_17 : decode b_O_init 17 = .ok (.return_, 1) := by decide +kernel
theorem d_O_isMissing_0 : decode b_O_isMissing 0 = .ok (.aload_n 0, 1) := by decide +kernel
theorem d_O_isMissing_1 : decode b_O_isMissing 1 = .ok (.getfield 15, 3) := by decide +kernel
theorem d_O_isMissing_4 : decode b_O_isMissing 4 = .ok (.ifCond .ge 7, 3) := by decide +kernel
theorem d_O_isMissing_7 : decode b_O_isMissing 7 = .ok (.iconst 1, 1) := by decide +kernel
theorem d_O_isMissing_8 : decode b_O_isMissing 8 = .ok (.goto 4, 3) := by decide +kernel
theorem d_O_isMissing_11 : decode b_O_isMissing 11 = .ok (.iconst 0, 1) := by decide +kernel
theorem d_O_isMissing_12 : decode b_O_isMissing 12 = .ok (.ireturn, 1) := by decide +kernel
theorem d_O_size_0 : decode b_O_size 0 = .ok (.aload_n 0, 1) := by decide +kernel
theorem d_O_size_1 : decode b_O_size 1 = .ok (.getfield 15, 3) := by decide +kernel
theorem d_O_size_4 : decode b_O_size 4 = .ok (.ireturn, 1) := by decide +kernel
theorem d_O_resize_0 : decode b_O_resize 0 = .ok (.iload_n 1, 1) := by decide +kernel
theorem d_O_resize_1 : decode b_O_resize 1 = .ok (.iconst (-1), 1) := by decide +kernel
theorem d_O_resize_2 : decode b_O_resize 2 = .ok (.if_icmp .lt 12, 3) := by decide +kernel
theorem d_O_resize_5 : decode b_O_resize 5 = .ok (.iload_n 1, 1) := by decide +kernel
theorem d_O_resize_6 : decode b_O_resize 6 = .ok (.aload_n 0, 1) := by decide +kernel
theorem d_O_resize_7 : decode b_O_resize 7 = .ok (.getfield 9, 3) := by decide +kernel
theorem d_O_resize_10 : decode b_O_resize 10 = .ok (.arraylength, 1) := by decide +kernel
theorem d_O_resize_11 : decode b_O_resize 11 = .ok (.if_icmp .le 5, 3) := by decide +kernel
theorem d_O_resize_14 : decode b_O_resize 14 = .ok (.iconst 0, 1) := by decide +kernel
theorem d_O_resize_15 : decode b_O_resize 15 = .ok (.ireturn, 1) := by decide +kernel
theorem d_O_resize_16 : decode b_O_resize 16 = .ok (.aload_n 0, 1) := by decide +kernel
theorem d_O_resize_17 : decode b_O_resize 17 = .ok (.iload_n 1, 1) := by decide +kernel
theorem d_O_resize_18 : decode b_O_resize 18 = .ok (.putfield 15, 3) := by decide +kernel
theorem d_O_resize_21 : decode b_O_resize 21 = .ok (.iconst 0, 1) := by decide +kernel
theorem d_O_resize_22 : decode b_O_resize 22 = .ok (.istore_n 2, 1) := by decide +kernel
theorem d_O_resize_23 : decode b_O_resize 23 = .ok (.iload_n 2, 1) := by decide +kernel
theorem d_O_resize_24 : decode b_O_resize 24 = .ok (.aload_n 0, 1) := by decide +kernel
theorem d_O_resize_25 : decode b_O_resize 25 = .ok (.getfield 9, 3) := by decide +kernel
theorem d_O_resize_28 : decode b_O_resize 28 = .ok (.arraylength, 1) := by decide +kernel
theorem d_O_resize_29 : decode b_O_resize 29 = .ok (.if_icmp .ge 16, 3) := by decide +kernel
theorem d_O_resize_32 : decode b_O_resize 32 = .ok (.aload_n 0, 1) := by decide +kernel
theorem d_O_resize_33 : decode b_O_resize 33 = .ok (.getfield 9, 3) := by decide +kernel
theorem d_O_resize_36 : decode b_O_resize 36 = .ok (.iload_n 2, 1) := by decide +kernel
theorem d_O_resize_37 : decode b_O_resize 37 = .ok (.lconst 0, 1) := by decide +kernel
theorem d_O_resize_38 : decode b_O_resize 38 = .ok (.lastore, 1) := by decide +kernel
theorem d_O_resize_39 : decode b_O_resize 39 = .ok (.iinc 2 1, 3) := by decide +kernel
theorem d_O_resize_42 : decode b_O_resize 42 = .ok (.goto (-19), 3) := by decide +kernel
theorem d_O_resize_45 : decode b_O_resize 45 = .ok (.iconst 1, 1) := by decide +kernel
theorem d_O_resize_46 : decode b_O_resize 46 = .ok (.ireturn, 1) := by decide +kernel
theorem d_O_hasPlace_0 : decode b_O_hasPlace 0 = .ok (.iload_n 1, 1) := by decide +kernel
theorem d_O_hasPlace_1 : decode b_O_hasPlace 1 = .ok (.ifCond .lt 24, 3) := by decide +kernel
theorem d_O_hasPlace_4 : decode b_O_hasPlace 4 = .ok (.iload_n 1, 1) := by decide +kernel
theorem d_O_hasPlace_5 : decode b_O_hasPlace 5 = .ok (.aload_n 0, 1) := by decide +kernel
theorem d_O_hasPlace_6 : decode b_O_hasPlace 6 = .ok (.getfield 15, 3) := by decide +kernel
theorem d_O_hasPlace_9 : decode b_O_hasPlace 9 = .ok (.if_icmp .ge 16, 3) := by decide +kernel
theorem d_O_hasPlace_12 : decode b_O_hasPlace 12 = .ok (.iload_n 1, 1) := by decide +kernel
theorem d_O_hasPlace_13 : decode b_O_hasPlace 13 = .ok (.aload_n 0, 1) := by decide +kernel
theorem d_O_hasPlace_14 : decode b_O_hasPlace 14 = .ok (.getfield 9, 3) := by decide +kernel
theorem d_O_hasPlace_17 : decode b_O_hasPlace 17 = .ok (.arraylength, 1) := by decide +kernel
theorem d_O_hasPlace_18 : decode b_O_hasPlace 18 = .ok (.if_icmp .ge 7, 3) := by decide +kernel
theorem d_O_hasPlace_21 : decode b_O_hasPlace 21 = .ok (.iconst 1, 1) := by decide +kernel
theorem d_O_hasPlace_22 : decode b_O_hasPlace 22 = .ok (.goto 4, 3) := by decide +kernel
theorem d_O_hasPlace_25 : decode b_O_hasPlace 25 = .ok (.iconst 0, 1) := by decide +kernel
theorem d_O_hasPlace_26 : decode b_O_hasPlace 26 = .ok (.ireturn, 1) := by decide +kernel
theorem d_O_at_0 : decode b_O_at 0 = .ok (.aload_n 0, 1) := by decide +kernel
theorem d_O_at_1 : decode b_O_at 1 = .ok (.iload_n 1, 1) := by decide +kernel
theorem d_O_at_2 : decode b_O_at 2 = .ok (.invokevirtual 19, 3) := by decide +kernel
theorem d_O_at_5 : decode b_O_at 5 = .ok (.ifCond .eq 12, 3) := by decide +kernel
theorem d_O_at_8 : decode b_O_at 8 = .ok (.aload_n 0, 1) := by decide +kernel
theorem d_O_at_9 : decode b_O_at 9 = .ok (.getfield 9, 3) := by decide +kernel
theorem d_O_at_12 : decode b_O_at 12 = .ok (.iload_n 1, 1) := by decide +kernel
theorem d_O_at_13 : decode b_O_at 13 = .ok (.laload, 1) := by decide +kernel
theorem d_O_at_14 : decode b_O_at 14 = .ok (.goto 6, 3) := by decide +kernel
theorem d_O_at_17 : decode b_O_at 17 = .ok (.ldc2_w 23, 3) := by decide +kernel
theorem d_O_at_20 : decode b_O_at 20 = .ok (.lreturn, 1) := by decide +kernel
theorem d_O_set_0 : decode b_O_set 0 = .ok (.aload_n 0, 1) := by decide +kernel
theorem d_O_set_1 : decode b_O_set 1 = .ok (.iload_n 1, 1) := by decide +kernel
theorem d_O_set_2 : decode b_O_set 2 = .ok (.invokevirtual 19, 3) := by decide +kernel
theorem d_O_set_5 : decode b_O_set 5 = .ok (.istore 4, 2) := by decide +kernel
theorem d_O_set_7 : decode b_O_set 7 = .ok (.iload 4, 2) := by decide +kernel
theorem d_O_set_9 : decode b_O_set 9 = .ok (.ifCond .eq 10, 3) := by decide +kernel
theorem d_O_set_12 : decode b_O_set 12 = .ok (.aload_n 0, 1) := by decide +kernel
theorem d_O_set_13 : decode b_O_set 13 = .ok (.getfield 9, 3) := by decide +kernel
theorem d_O_set_16 : decode b_O_set 16 = .ok (.iload_n 1, 1) := by decide +kernel
theorem d_O_set_17 : decode b_O_set 17 = .ok (.lload_n 2, 1) := by decide +kernel
theorem d_O_set_18 : decode b_O_set 18 = .ok (.lastore, 1) := by decide +kernel
theorem d_O_set_19 : decode b_O_set 19 = .ok (.iload 4, 2) := by decide +kernel
theorem d_O_set_21 : decode b_O_set 21 = .ok (.ireturn, 1) := by decide +kernel
theorem d_H_init_0 : decode b_H_init 0 = .ok (.aload_n 0, 1) := by decide +kernel
theorem d_H_init_1 : decode b_H_init 1 = .ok (.invokespecial 3, 3) := by decide +kernel
theorem d_H_init_4 : decode b_H_init 4 = .ok (.aload_n 0, 1) := by decide +kernel
theorem d_H_init_5 : decode b_H_init 5 = .ok (.iconst 1, 1) := by decide +kernel
theorem d_H_init_6 : decode b_H_init 6 = .ok (.putfield 9, 3) := by decide +kernel
theorem d_H_init_9 : decode b_H_init 9 = .ok (.aload_n 0, 1) := by decide +kernel
theorem d_H_init_10 : decode b_H_init 10 = .ok (.iconst 1, 1) := by decide +kernel
theorem d_H_init_11 : decode b_H_init 11 = .ok (.putfield 15, 3) := by decide +kernel
theorem d_H_init_14 : decode b_H_init 14 = .ok (.aload_n 0, 1) := by decide +kernel
theorem d_H_init_15 : decode b_H_init 15 = .ok (.iconst 1, 1) := by decide +kernel
theorem d_H_init_16 : decode b_H_init 16 = .ok (.putfield 18, 3) := by decide +kernel
theorem d_H_init_19 : decode b_H_init 19 = .ok (.aload_n 0, 1) := by decide +kernel
theorem d_H_init_20 : decode b_H_init 20 = .ok (.iconst 0, 1) := by decide +kernel
theorem d_H_init_21 : decode b_H_init 21 = .ok (.putfield 21, 3) := by decide +kernel
theorem d_H_init_24 : decode b_H_init 24 = .ok (.aload_n 0, 1) := by decide +kernel
theorem d_H_init_25 : decode b_H_init 25 = .ok (.iconst 0, 1) := by decide +kernel
theorem d_H_init_26 : decode b_H_init 26 = .ok (.putfield 24, 3) := by decide +kernel
theorem d_H_init_29 : decode b_H_init 29 = .ok (.aload_n 0, 1) := by decide +kernel
theorem d_H_init_30 : decode b_H_init 30 = .ok (.iconst 0, 1) := by decide +kernel
theorem d_H_init_31 : decode b_H_init 31 = .ok (.putfield 27, 3) := by decide +kernel
theorem d_H_init_34 : decode b_H_init 34 = .ok (.aload_n 0, 1) := by decide +kernel
theorem d_H_init_35 : decode b_H_init 35 = .ok (.iconst 0, 1) := by decide +kernel
theorem d_H_init_36 : decode b_H_init 36 = .ok (.putfield 30, 3) := by decide +kernel
theorem d_H_init_39 : decode b_H_init 39 = .ok (.return_, 1) := by decide +kernel
theorem d_H_isAsked_0 : decode b_H_isAsked 0 = .ok (.iload_n 0, 1) := by decide +kernel
theorem d_H_isAsked_1 : decode b_H_isAsked 1 = .ok (.bipush 100, 2) := by decide +kernel
theorem d_H_isAsked_3 : decode b_H_isAsked 3 = .ok (.idiv, 1) := by decide +kernel
theorem d_H_isAsked_4 : decode b_H_isAsked 4 = .ok (.istore 4, 2) := by decide +kernel
theorem d_H_isAsked_6 : decode b_H_isAsked 6 = .ok (.iload_n 0, 1) := by decide +kernel
theorem d_H_isAsked_7 : decode b_H_isAsked 7 = .ok (.bipush 100, 2) := by decide +kernel
theorem d_H_isAsked_9 : decode b_H_isAsked 9 = .ok (.irem, 1) := by decide +kernel
theorem d_H_isAsked_10 : decode b_H_isAsked 10 = .ok (.istore 5, 2) := by decide +kernel
theorem d_H_isAsked_12 : decode b_H_isAsked 12 = .ok (.iload_n 2, 1) := by decide +kernel
theorem d_H_isAsked_13 : decode b_H_isAsked 13 = .ok (.bipush 100, 2) := by decide +kernel
theorem d_H_isAsked_15 : decode b_H_isAsked 15 = .ok (.idiv, 1) := by decide +kernel
theorem d_H_isAsked_16 : decode b_H_isAsked 16 = .ok (.istore 6, 2) := by decide +kernel
theorem d_H_isAsked_18 : decode b_H_isAsked 18 = .ok (.iload_n 2, 1) := by decide +kernel
theorem d_H_isAsked_19 : decode b_H_isAsked 19 = .ok (.bipush 100, 2) := by decide +kernel
theorem d_H_isAsked_21 : decode b_H_isAsked 21 = .ok (.irem, 1) := by decide +kernel
theorem d_H_isAsked_22 : decode b_H_isAsked 22 = .ok (.istore 7, 2) := by decide +kernel
theorem d_H_isAsked_24 : decode b_H_isAsked 24 = .ok (.iload 4, 2) := by decide +kernel
theorem d_H_isAsked_26 : decode b_H_isAsked 26 = .ok (.iconst 5, 1) := by decide +kernel
theorem d_H_isAsked_27 : decode b_H_isAsked 27 = .ok (.if_icmp .lt 21, 3) := by decide +kernel
theorem d_H_isAsked_30 : decode b_H_isAsked 30 = .ok (.iload 5, 2) := by decide +kernel
theorem d_H_isAsked_32 : decode b_H_isAsked 32 = .ok (.bipush 60, 2) := by decide +kernel
theorem d_H_isAsked_34 : decode b_H_isAsked 34 = .ok (.if_icmp .gt 14, 3) := by decide +kernel
theorem d_H_isAsked_37 : decode b_H_isAsked 37 = .ok (.iload 4, 2) := by decide +kernel
theorem d_H_isAsked_39 : decode b_H_isAsked 39 = .ok (.iload 5, 2) := by decide +kernel
theorem d_H_isAsked_41 : decode b_H_isAsked 41 = .ok (.if_icmp .gt 7, 3) := by decide +kernel
theorem d_H_isAsked_44 : decode b_H_isAsked 44 = .ok (.iconst 1, 1) := by decide +kernel
theorem d_H_isAsked_45 : decode b_H_isAsked 45 = .ok (.goto 4, 3) := by decide +kernel
theorem d_H_isAsked_48 : decode b_H_isAsked 48 = .ok (.iconst 0, 1) := by decide +kernel
theorem d_H_isAsked_49 : decode b_H_isAsked 49 = .ok (.istore 8, 2) := by decide +kernel
theorem d_H_isAsked_51 : decode b_H_isAsked 51 = .ok (.iload 6, 2) := by decide +kernel
theorem d_H_isAsked_53 : decode b_H_isAsked 53 = .ok (.iconst 1, 1) := by decide +kernel
theorem d_H_isAsked_54 : decode b_H_isAsked 54 = .ok (.if_icmp .lt 20, 3) := by decide +kernel
theorem d_H_isAsked_57 : decode b_H_isAsked 57 = .ok (.iload 6, 2) := by decide +kernel
theorem d_H_isAsked_59 : decode b_H_isAsked 59 = .ok (.bipush 99, 2) := by decide +kernel
theorem d_H_isAsked_61 : decode b_H_isAsked 61 = .ok (.if_icmp .gt 13, 3) := by decide +kernel
theorem d_H_isAsked_64 : decode b_H_isAsked 64 = .ok (.iload 7, 2) := by decide +kernel
theorem d_H_isAsked_66 : decode b_H_isAsked 66 = .ok (.iconst 1, 1) := by decide +kernel
theorem d_H_isAsked_67 : decode b_H_isAsked 67 = .ok (.if_icmp .lt 7, 3) := by decide +kernel
theorem d_H_isAsked_70 : decode b_H_isAsked 70 = .ok (.iconst 1, 1) := by decide +kernel
theorem d_H_isAsked_71 : decode b_H_isAsked 71 = .ok (.goto 4, 3) := by decide +kernel
theorem d_H_isAsked_74 : decode b_H_isAsked 74 = .ok (.iconst 0, 1) := by decide +kernel
theorem d_H_isAsked_75 : decode b_H_isAsked 75 = .ok (.istore 9, 2) := by decide +kernel
theorem d_H_isAsked_77 : decode b_H_isAsked 77 = .ok (.iload 8, 2) := by decide +kernel
theorem d_H_isAsked_79 : decode b_H_isAsked 79 = .ok (.ifCond .eq 34, 3) := by decide +kernel
theorem d_H_isAsked_82 : decode b_H_isAsked 82 = .ok (.iload 9, 2) := by decide +kernel
theorem d_H_isAsked_84 : decode b_H_isAsked 84 = .ok (.ifCond .eq 29, 3) := by decide +kernel
theorem d_H_isAsked_87 : decode b_H_isAsked 87 = .ok (.iload_n 1, 1) := by decide +kernel
theorem d_H_isAsked_88 : decode b_H_isAsked 88 = .ok (.iconst 1, 1) := by decide +kernel
theorem d_H_isAsked_89 : decode b_H_isAsked 89 = .ok (.if_icmp .lt 24, 3) := by decide +kernel
theorem d_H_isAsked_92 : decode b_H_isAsked 92 = .ok (.iload_n 1, 1) := by decide +kernel
theorem d_H_isAsked_93 : decode b_H_isAsked 93 = .ok (.bipush 8, 2) := by decide +kernel
theorem d_H_isAsked_95 : decode b_H_isAsked 95 = .ok (.if_icmp .gt 18, 3) := by decide +kernel
theorem d_H_isAsked_98 : decode b_H_isAsked 98 = .ok (.iload_n 3, 1) := by decide +kernel
theorem d_H_isAsked_99 : decode b_H_isAsked 99 = .ok (.ifCond .lt 14, 3) := by decide +kernel
theorem d_H_isAsked_102 : decode b_H_isAsked 102 = .ok (.iload_n 3, 1) := by decide +kernel
theorem d_H_isAsked_103 : decode b_H_isAsked 103 = .ok (.sipush 200, 3) := by decide +kernel
theorem d_H_isAsked_106 : decode b_H_isAsked 106 = .ok (.if_icmp .gt 7, 3) := by decide +kernel
theorem d_H_isAsked_109 : decode b_H_isAsked 109 = .ok (.iconst 1, 1) := by decide +kernel
theorem d_H_isAsked_110 : decode b_H_isAsked 110 = .ok (.goto 4, 3) := by decide +kernel
theorem d_H_isAsked_113 : decode b_H_isAsked 113 = .ok (.iconst 0, 1) := by decide +kernel
theorem d_H_isAsked_114 : decode b_H_isAsked 114 = .ok (.ireturn, 1) := by decide +kernel
theorem d_H_run_0 : decode b_H_run 0 = .ok (.aload_n 0, 1) := by decide +kernel
theorem d_H_run_1 : decode b_H_run 1 = .ok (.iload_n 2, 1) := by decide +kernel
theorem d_H_run_2 : decode b_H_run 2 = .ok (.putfield 9, 3) := by decide +kernel
theorem d_H_run_5 : decode b_H_run 5 = .ok (.aload_n 0, 1) := by decide +kernel
theorem d_H_run_6 : decode b_H_run 6 = .ok (.iload_n 3, 1) := by decide +kernel
theorem d_H_run_7 : decode b_H_run 7 = .ok (.bipush 100, 2) := by decide +kernel
theorem d_H_run_9 : decode b_H_run 9 = .ok (.idiv, 1) := by decide +kernel
theorem d_H_run_10 : decode b_H_run 10 = .ok (.putfield 15, 3) := by decide +kernel
theorem d_H_run_13 : decode b_H_run 13 = .ok (.aload_n 0, 1) := by decide +kernel
theorem d_H_run_14 : decode b_H_run 14 = .ok (.iload_n 3, 1) := by decide +kernel
theorem d_H_run_15 : decode b_H_run 15 = .ok (.bipush 100, 2) := by decide +kernel
theorem d_H_run_17 : decode b_H_run 17 = .ok (.irem, 1) := by decide +kernel
theorem d_H_run_18 : decode b_H_run 18 = .ok (.putfield 18, 3) := by decide +kernel
theorem d_H_run_21 : decode b_H_run 21 = .ok (.aload_n 0, 1) := by decide +kernel
theorem d_H_run_22 : decode b_H_run 22 = .ok (.iload 4, 2) := by decide +kernel
theorem d_H_run_24 : decode b_H_run 24 = .ok (.putfield 21, 3) := by decide +kernel
theorem d_H_run_27 : decode b_H_run 27 = .ok (.aload_n 0, 1) := by decide +kernel
theorem d_H_run_28 : decode b_H_run 28 = .ok (.iconst 0, 1) := by decide +kernel
theorem d_H_run_29 : decode b_H_run 29 = .ok (.putfield 24, 3) := by decide +kernel
theorem d_H_run_32 : decode b_H_run 32 = .ok (.iload_n 1, 1) := by decide +kernel
theorem d_H_run_33 : decode b_H_run 33 = .ok (.bipush 100, 2) := by decide +kernel
theorem d_H_run_35 : decode b_H_run 35 = .ok (.idiv, 1) := by decide +kernel
theorem d_H_run_36 : decode b_H_run 36 = .ok (.istore 5, 2) := by decide +kernel
theorem d_H_run_38 : decode b_H_run 38 = .ok (.iload_n 1, 1) := by decide +kernel
theorem d_H_run_39 : decode b_H_run 39 = .ok (.bipush 100, 2) := by decide +kernel
theorem d_H_run_41 : decode b_H_run 41 = .ok (.irem, 1) := by decide +kernel
theorem d_H_run_42 : decode b_H_run 42 = .ok (.istore 6, 2) := by decide +kernel
theorem d_H_run_44 : decode b_H_run 44 = .ok (.iload 5, 2) := by decide +kernel
theorem d_H_run_46 : decode b_H_run 46 = .ok (.istore 7, 2) := by decide +kernel
theorem d_H_run_48 : decode b_H_run 48 = .ok (.iload 7, 2) := by decide +kernel
theorem d_H_run_50 : decode b_H_run 50 = .ok (.iload 6, 2) := by decide +kernel
theorem d_H_run_52 : decode b_H_run 52 = .ok (.if_icmp .gt 59, 3) := by decide +kernel
theorem d_H_run_55 : decode b_H_run 55 = .ok (.iload 5, 2) := by decide +kernel
theorem d_H_run_57 : decode b_H_run 57 = .ok (.istore 8, 2) := by decide +kernel
theorem d_H_run_59 : decode b_H_run 59 = .ok (.iload 8, 2) := by decide +kernel
theorem d_H_run_61 : decode b_H_run 61 = .ok (.iload 6, 2) := by decide +kernel
theorem d_H_run_63 : decode b_H_run 63 = .ok (.if_icmp .gt 42, 3) := by decide +kernel
theorem d_H_run_66 : decode b_H_run 66 = .ok (.aload_n 0, 1) := by decide +kernel
theorem d_H_run_67 : decode b_H_run 67 = .ok (.iload 7, 2) := by decide +kernel
theorem d_H_run_69 : decode b_H_run 69 = .ok (.iload 8, 2) := by decide +kernel
theorem d_H_run_71 : decode b_H_run 71 = .ok (.invokevirtual 33, 3) := by decide +kernel
theorem d_H_run_74 : decode b_H_run 74 = .ok (.ifCond .eq 25, 3) := by decide +kernel
theorem d_H_run_77 : decode b_H_run 77 = .ok (.iload 7, 2) := by decide +kernel
theorem d_H_run_79 : decode b_H_run 79 = .ok (.iload 8, 2) := by decide +kernel
theorem d_H_run_81 : decode b_H_run 81 = .ok (.aload_n 0, 1) := by decide +kernel
theorem d_H_run_82 : decode b_H_run 82 = .ok (.getfield 9, 3) := by decide +kernel
theorem d_H_run_85 : decode b_H_run 85 = .ok (.invokestatic 37, 3) := by decide +kernel
theorem d_H_run_88 : decode b_H_run 88 = .ok (.ifCond .eq 11, 3) := by decide +kernel
theorem d_H_run_91 : decode b_H_run 91 = .ok (.aload_n 0, 1) := by decide +kernel
theorem d_H_run_92 : decode b_H_run 92 = .ok (.iload 7, 2) := by decide +kernel
theorem d_H_run_94 : decode b_H_run 94 = .ok (.iload 8, 2) := by decide +kernel
theorem d_H_run_96 : decode b_H_run 96 = .ok (.invokevirtual 43, 3) := by decide +kernel
theorem d_H_run_99 : decode b_H_run 99 = .ok (.iinc 8 1, 3) := by decide +kernel
theorem d_H_run_102 : decode b_H_run 102 = .ok (.goto (-43), 3) := by decide +kernel
theorem d_H_run_105 : decode b_H_run 105 = .ok (.iinc 7 1, 3) := by decide +kernel
theorem d_H_run_108 : decode b_H_run 108 = .ok (.goto (-60), 3) := by decide +kernel
theorem d_H_run_111 : decode b_H_run 111 = .ok (.return_, 1) := by decide +kernel
theorem d_H_told_0 : decode b_H_told 0 = .ok (.iload_n 1, 1) := by decide +kernel
theorem d_H_told_1 : decode b_H_told 1 = .ok (.ifCond .ne 8, 3) := by decide +kernel
theorem d_H_told_4 : decode b_H_told 4 = .ok (.aload_n 0, 1) := by decide +kernel
theorem d_H_told_5 : decode b_H_told 5 = .ok (.getfield 24, 3) := by decide +kernel
theorem d_H_told_8 : decode b_H_told 8 = .ok (.ireturn, 1) := by decide +kernel
theorem d_H_told_9 : decode b_H_told 9 = .ok (.aload_n 0, 1) := by decide +kernel
theorem d_H_told_10 : decode b_H_told 10 = .ok (.getfield 24, 3) := by decide +kernel
theorem d_H_told_13 : decode b_H_told 13 = .ok (.ifCond .ne 6, 3) := by decide +kernel
theorem d_H_told_16 : decode b_H_told 16 = .ok (.bipush (-2), 2) := by decide +kernel
theorem d_H_told_18 : decode b_H_told 18 = .ok (.ireturn, 1) := by decide +kernel
theorem d_H_told_19 : decode b_H_told 19 = .ok (.iload_n 1, 1) := by decide +kernel
theorem d_H_told_20 : decode b_H_told 20 = .ok (.iconst 1, 1) := by decide +kernel
theorem d_H_told_21 : decode b_H_told 21 = .ok (.if_icmp .ne 8, 3) := by decide +kernel
theorem d_H_told_24 : decode b_H_told 24 = .ok (.aload_n 0, 1) := by decide +kernel
theorem d_H_told_25 : decode b_H_told 25 = .ok (.getfield 27, 3) := by decide +kernel
theorem d_H_told_28 : decode b_H_told 28 = .ok (.ireturn, 1) := by decide +kernel
theorem d_H_told_29 : decode b_H_told 29 = .ok (.iload_n 1, 1) := by decide +kernel
theorem d_H_told_30 : decode b_H_told 30 = .ok (.iconst 2, 1) := by decide +kernel
theorem d_H_told_31 : decode b_H_told 31 = .ok (.if_icmp .ne 10, 3) := by decide +kernel
theorem d_H_told_34 : decode b_H_told 34 = .ok (.aload_n 0, 1) := by decide +kernel
theorem d_H_told_35 : decode b_H_told 35 = .ok (.getfield 30, 3) := by decide +kernel
theorem d_H_told_38 : decode b_H_told 38 = .ok (.goto 18, 3) := by decide +kernel
theorem d_H_told_41 : decode b_H_told 41 = .ok (.aload_n 0, 1) := by decide +kernel
theorem d_H_told_42 : decode b_H_told 42 = .ok (.getfield 27, 3) := by decide +kernel
theorem d_H_told_45 : decode b_H_told 45 = .ok (.aload_n 0, 1) := by decide +kernel
theorem d_H_told_46 : decode b_H_told 46 = .ok (.getfield 30, 3) := by decide +kernel
theorem d_H_told_49 : decode b_H_told 49 = .ok (.aload_n 0, 1) := by decide +kernel
theorem d_H_told_50 : decode b_H_told 50 = .ok (.getfield 9, 3) := by decide +kernel
theorem d_H_told_53 : decode b_H_told 53 = .ok (.invokestatic 47, 3) := by decide +kernel
theorem d_H_told_56 : decode b_H_told 56 = .ok (.ireturn, 1) := by decide +kernel
theorem d_H_take_0 : decode b_H_take 0 = .ok (.aload_n 0, 1) := by decide +kernel
theorem d_H_take_1 : decode b_H_take 1 = .ok (.getfield 24, 3) := by decide +kernel
theorem d_H_take_4 : decode b_H_take 4 = .ok (.ifCond .eq 12, 3) := by decide +kernel
theorem d_H_take_7 : decode b_H_take 7 = .ok (.aload_n 0, 1) := by decide +kernel
theorem d_H_take_8 : decode b_H_take 8 = .ok (.iload_n 1, 1) := by decide +kernel
theorem d_H_take_9 : decode b_H_take 9 = .ok (.iload_n 2, 1) := by decide +kernel
theorem d_H_take_10 : decode b_H_take 10 = .ok (.invokevirtual 51, 3) := by decide +kernel
theorem d_H_take_13 : decode b_H_take 13 = .ok (.ifCond .eq 13, 3) := by decide +kernel
theorem d_H_take_16 : decode b_H_take 16 = .ok (.aload_n 0, 1) := by decide +kernel
theorem d_H_take_17 : decode b_H_take 17 = .ok (.iload_n 1, 1) := by decide +kernel
theorem d_H_take_18 : decode b_H_take 18 = .ok (.putfield 27, 3) := by decide +kernel
theorem d_H_take_21 : decode b_H_take 21 = .ok (.aload_n 0, 1) := by decide +kernel
theorem d_H_take_22 : decode b_H_take 22 = .ok (.iload_n 2, 1) := by decide +kernel
theorem d_H_take_23 : decode b_H_take 23 = .ok (.putfield 30, 3) := by decide +kernel
theorem d_H_take_26 : decode b_H_take 26 = .ok (.aload_n 0, 1) := by decide +kernel
theorem d_H_take_27 : decode b_H_take 27 = .ok (.dup, 1) := by decide +kernel
theorem d_H_take_28 : decode b_H_take 28 = .ok (.getfield 24, 3) := by decide +kernel
theorem d_H_take_31 : decode b_H_take 31 = .ok (.iconst 1, 1) := by decide +kernel
theorem d_H_take_32 : decode b_H_take 32 = .ok (.iadd, 1) := by decide +kernel
theorem d_H_take_33 : decode b_H_take 33 = .ok (.putfield 24, 3) := by decide +kernel
theorem d_H_take_36 : decode b_H_take 36 = .ok (.return_, 1) := by decide +kernel
theorem d_H_miss_0 : decode b_H_miss 0 = .ok (.iload_n 1, 1) := by decide +kernel
theorem d_H_miss_1 : decode b_H_miss 1 = .ok (.iload_n 1, 1) := by decide +kernel
theorem d_H_miss_2 : decode b_H_miss 2 = .ok (.iload_n 2, 1) := by decide +kernel
theorem d_H_miss_3 : decode b_H_miss 3 = .ok (.invokestatic 54, 3) := by decide +kernel
theorem d_H_miss_6 : decode b_H_miss 6 = .ok (.iadd, 1) := by decide +kernel
theorem d_H_miss_7 : decode b_H_miss 7 = .ok (.aload_n 0, 1) := by decide +kernel
theorem d_H_miss_8 : decode b_H_miss 8 = .ok (.getfield 18, 3) := by decide +kernel
theorem d_H_miss_11 : decode b_H_miss 11 = .ok (.imul, 1) := by decide +kernel
theorem d_H_miss_12 : decode b_H_miss 12 = .ok (.aload_n 0, 1) := by decide +kernel
theorem d_H_miss_13 : decode b_H_miss 13 = .ok (.getfield 15, 3) := by decide +kernel
theorem d_H_miss_16 : decode b_H_miss 16 = .ok (.iload_n 1, 1) := by decide +kernel
theorem d_H_miss_17 : decode b_H_miss 17 = .ok (.imul, 1) := by decide +kernel
theorem d_H_miss_18 : decode b_H_miss 18 = .ok (.isub, 1) := by decide +kernel
theorem d_H_miss_19 : decode b_H_miss 19 = .ok (.invokestatic 58, 3) := by decide +kernel
theorem d_H_miss_22 : decode b_H_miss 22 = .ok (.ireturn, 1) := by decide +kernel
theorem d_H_isNear_0 : decode b_H_isNear 0 = .ok (.aload_n 0, 1) := by decide +kernel
theorem d_H_isNear_1 : decode b_H_isNear 1 = .ok (.iload_n 1, 1) := by decide +kernel
theorem d_H_isNear_2 : decode b_H_isNear 2 = .ok (.iload_n 2, 1) := by decide +kernel
theorem d_H_isNear_3 : decode b_H_isNear 3 = .ok (.invokevirtual 64, 3) := by decide +kernel
theorem d_H_isNear_6 : decode b_H_isNear 6 = .ok (.sipush 1000, 3) := by decide +kernel
theorem d_H_isNear_9 : decode b_H_isNear 9 = .ok (.imul, 1) := by decide +kernel
theorem d_H_isNear_10 : decode b_H_isNear 10 = .ok (.aload_n 0, 1) := by decide +kernel
theorem d_H_isNear_11 : decode b_H_isNear 11 = .ok (.getfield 15, 3) := by decide +kernel
theorem d_H_isNear_14 : decode b_H_isNear 14 = .ok (.aload_n 0, 1) := by decide +kernel
theorem d_H_isNear_15 : decode b_H_isNear 15 = .ok (.getfield 21, 3) := by decide +kernel
theorem d_H_isNear_18 : decode b_H_isNear 18 = .ok (.imul, 1) := by decide +kernel
theorem d_H_isNear_19 : decode b_H_isNear 19 = .ok (.iload_n 1, 1) := by decide +kernel
theorem d_H_isNear_20 : decode b_H_isNear 20 = .ok (.imul, 1) := by decide +kernel
theorem d_H_isNear_21 : decode b_H_isNear 21 = .ok (.if_icmp .gt 7, 3) := by decide +kernel
theorem d_H_isNear_24 : decode b_H_isNear 24 = .ok (.iconst 1, 1) := by decide +kernel
theorem d_H_isNear_25 : decode b_H_isNear 25 = .ok (.goto 4, 3) := by decide +kernel
theorem d_H_isNear_28 : decode b_H_isNear 28 = .ok (.iconst 0, 1) := by decide +kernel
theorem d_H_isNear_29 : decode b_H_isNear 29 = .ok (.ireturn, 1) := by decide +kernel
theorem d_H_isBetter_0 : decode b_H_isBetter 0 = .ok (.aload_n 0, 1) := by decide +kernel
theorem d_H_isBetter_1 : decode b_H_isBetter 1 = .ok (.iload_n 1, 1) := by decide +kernel
theorem d_H_isBetter_2 : decode b_H_isBetter 2 = .ok (.iload_n 2, 1) := by decide +kernel
theorem d_H_isBetter_3 : decode b_H_isBetter 3 = .ok (.invokevirtual 64, 3) := by decide +kernel
theorem d_H_isBetter_6 : decode b_H_isBetter 6 = .ok (.aload_n 0, 1) := by decide +kernel
theorem d_H_isBetter_7 : decode b_H_isBetter 7 = .ok (.getfield 27, 3) := by decide +kernel
theorem d_H_isBetter_10 : decode b_H_isBetter 10 = .ok (.imul, 1) := by decide +kernel
theorem d_H_isBetter_11 : decode b_H_isBetter 11 = .ok (.istore_n 3, 1) := by decide +kernel
theorem d_H_isBetter_12 : decode b_H_isBetter 12 = .ok (.aload_n 0, 1) := by decide +kernel
theorem d_H_isBetter_13 : decode b_H_isBetter 13 = .ok (.aload_n 0, 1) := by decide +kernel
theorem d_H_isBetter_14 : decode b_H_isBetter 14 = .ok (.getfield 27, 3) := by decide +kernel
theorem d_H_isBetter_17 : decode b_H_isBetter 17 = .ok (.aload_n 0, 1) := by decide +kernel
theorem d_H_isBetter_18 : decode b_H_isBetter 18 = .ok (.getfield 30, 3) := by decide +kernel
theorem d_H_isBetter_21 : decode b_H_isBetter 21 = .ok (.invokevirtual 64, 3) := by decide +kernel
theorem d_H_isBetter_24 : decode b_H_isBetter 24 = .ok (.iload_n 1, 1) := by decide +kernel
theorem d_H_isBetter_25 : decode b_H_isBetter 25 = .ok (.imul, 1) := by decide +kernel
theorem d_H_isBetter_26 : decode b_H_isBetter 26 = .ok (.istore 4, 2) := by decide +kernel
theorem d_H_isBetter_28 : decode b_H_isBetter 28 = .ok (.iload_n 3, 1) := by decide +kernel
theorem d_H_isBetter_29 : decode b_H_isBetter 29 = .ok (.iload 4, 2) := by decide +kernel
theorem d_H_isBetter_31 : decode b_H_isBetter 31 = .ok (.if_icmp .eq 15, 3) := by decide +kernel
theorem d_H_isBetter_34 : decode b_H_isBetter 34 = .ok (.iload_n 3, 1) := by decide +kernel
theorem d_H_isBetter_35 : decode b_H_isBetter 35 = .ok (.iload 4, 2) := by decide +kernel
theorem d_H_isBetter_37 : decode b_H_isBetter 37 = .ok (.if_icmp .ge 7, 3) := by decide +kernel
theorem d_H_isBetter_40 : decode b_H_isBetter 40 = .ok (.iconst 1, 1) := by decide +kernel
theorem d_H_isBetter_41 : decode b_H_isBetter 41 = .ok (.goto 4, 3) := by decide +kernel
theorem d_H_isBetter_44 : decode b_H_isBetter 44 = .ok (.iconst 0, 1) := by decide +kernel
theorem d_H_isBetter_45 : decode b_H_isBetter 45 = .ok (.ireturn, 1) := by decide +kernel
theorem d_H_isBetter_46 : decode b_H_isBetter 46 = .ok (.iload_n 1, 1) := by decide +kernel
theorem d_H_isBetter_47 : decode b_H_isBetter 47 = .ok (.iload_n 2, 1) := by decide +kernel
theorem d_H_isBetter_48 : decode b_H_isBetter 48 = .ok (.aload_n 0, 1) := by decide +kernel
theorem d_H_isBetter_49 : decode b_H_isBetter 49 = .ok (.getfield 9, 3) := by decide +kernel
theorem d_H_isBetter_52 : decode b_H_isBetter 52 = .ok (.invokestatic 47, 3) := by decide +kernel
theorem d_H_isBetter_55 : decode b_H_isBetter 55 = .ok (.istore 5, 2) := by decide +kernel
theorem d_H_isBetter_57 : decode b_H_isBetter 57 = .ok (.aload_n 0, 1) := by decide +kernel
theorem d_H_isBetter_58 : decode b_H_isBetter 58 = .ok (.getfield 27, 3) := by decide +kernel
theorem d_H_isBetter_61 : decode b_H_isBetter 61 = .ok (.aload_n 0, 1) := by decide +kernel
theorem d_H_isBetter_62 : decode b_H_isBetter 62 = .ok (.getfield 30, 3) := by decide +kernel
theorem d_H_isBetter_65 : decode b_H_isBetter 65 = .ok (.aload_n 0, 1) := by decide +kernel
theorem d_H_isBetter_66 : decode b_H_isBetter 66 = .ok (.getfield 9, 3) := by decide +kernel
theorem d_H_isBetter_69 : decode b_H_isBetter 69 = .ok (.invokestatic 47, 3) := by decide +kernel
theorem d_H_isBetter_72 : decode b_H_isBetter 72 = .ok (.istore 6, 2) := by decide +kernel
theorem d_H_isBetter_74 : decode b_H_isBetter 74 = .ok (.iload 5, 2) := by decide +kernel
theorem d_H_isBetter_76 : decode b_H_isBetter 76 = .ok (.iload 6, 2) := by decide +kernel
theorem d_H_isBetter_78 : decode b_H_isBetter 78 = .ok (.if_icmp .eq 18, 3) := by decide +kernel
theorem d_H_isBetter_81 : decode b_H_isBetter 81 = .ok (.iload 5, 2) := by decide +kernel
theorem d_H_isBetter_83 : decode b_H_isBetter 83 = .ok (.iload 6, 2) := by decide +kernel
theorem d_H_isBetter_85 : decode b_H_isBetter 85 = .ok (.if_icmp .ge 7, 3) := by decide +kernel
theorem d_H_isBetter_88 : decode b_H_isBetter 88 = .ok (.iconst 1, 1) := by decide +kernel
theorem d_H_isBetter_89 : decode b_H_isBetter 89 = .ok (.goto 20, 3) := by decide +kernel
theorem d_H_isBetter_92 : decode b_H_isBetter 92 = .ok (.iconst 0, 1) := by decide +kernel
theorem d_H_isBetter_93 : decode b_H_isBetter 93 = .ok (.goto 16, 3) := by decide +kernel
theorem d_H_isBetter_96 : decode b_H_isBetter 96 = .ok (.iload_n 1, 1) := by decide +kernel
theorem d_H_isBetter_97 : decode b_H_isBetter 97 = .ok (.aload_n 0, 1) := by decide +kernel
theorem d_H_isBetter_98 : decode b_H_isBetter 98 = .ok (.getfield 27, 3) := by decide +kernel
theorem d_H_isBetter_101 : decode b_H_isBetter 101 = .ok (.if_icmp .ge 7, 3) := by decide +kernel
theorem d_H_isBetter_104 : decode b_H_isBetter 104 = .ok (.iconst 1, 1) := by decide +kernel
theorem d_H_isBetter_105 : decode b_H_isBetter 105 = .ok (.goto 4, 3) := by decide +kernel
theorem d_H_isBetter_108 : decode b_H_isBetter 108 = .ok (.iconst 0, 1) := by decide +kernel
theorem d_H_isBetter_109 : decode b_H_isBetter 109 = .ok (.ireturn, 1) := by decide +kernel
theorem d_T_ring_0 : decode b_T_ring 0 = .ok (.iload_n 0, 1) := by decide +kernel
theorem d_T_ring_1 : decode b_T_ring 1 = .ok (.iconst 2, 1) := by decide +kernel
theorem d_T_ring_2 : decode b_T_ring 2 = .ok (.iload_n 1, 1) := by decide +kernel
theorem d_T_ring_3 : decode b_T_ring 3 = .ok (.imul, 1) := by decide +kernel
theorem d_T_ring_4 : decode b_T_ring 4 = .ok (.iadd, 1) := by decide +kernel
theorem d_T_ring_5 : decode b_T_ring 5 = .ok (.ireturn, 1) := by decide +kernel
theorem d_T_divides_0 : decode b_T_divides 0 = .ok (.iload_n 2, 1) := by decide +kernel
theorem d_T_divides_1 : decode b_T_divides 1 = .ok (.ifCond .eq 19, 3) := by decide +kernel
theorem d_T_divides_4 : decode b_T_divides 4 = .ok (.iload_n 0, 1) := by decide +kernel
theorem d_T_divides_5 : decode b_T_divides 5 = .ok (.iload_n 0, 1) := by decide +kernel
theorem d_T_divides_6 : decode b_T_divides 6 = .ok (.iload_n 1, 1) := by decide +kernel
theorem d_T_divides_7 : decode b_T_divides 7 = .ok (.invokestatic 9, 3) := by decide +kernel
theorem d_T_divides_10 : decode b_T_divides 10 = .ok (.iadd, 1) := by decide +kernel
theorem d_T_divides_11 : decode b_T_divides 11 = .ok (.iload_n 2, 1) := by decide +kernel
theorem d_T_divides_12 : decode b_T_divides 12 = .ok (.irem, 1) := by decide +kernel
theorem d_T_divides_13 : decode b_T_divides 13 = .ok (.ifCond .ne 7, 3) := by decide +kernel
theorem d_T_divides_16 : decode b_T_divides 16 = .ok (.iconst 1, 1) := by decide +kernel
theorem d_T_divides_17 : decode b_T_divides 17 = .ok (.goto 4, 3) := by decide +kernel
theorem d_T_divides_20 : decode b_T_divides 20 = .ok (.iconst 0, 1) := by decide +kernel
theorem d_T_divides_21 : decode b_T_divides 21 = .ok (.ireturn, 1) := by decide +kernel
theorem d_T_touch_0 : decode b_T_touch 0 = .ok (.iload_n 2, 1) := by decide +kernel
theorem d_T_touch_1 : decode b_T_touch 1 = .ok (.iconst 1, 1) := by decide +kernel
theorem d_T_touch_2 : decode b_T_touch 2 = .ok (.if_icmp .eq 25, 3) := by decide +kernel
theorem d_T_touch_5 : decode b_T_touch 5 = .ok (.iload_n 0, 1) := by decide +kernel
theorem d_T_touch_6 : decode b_T_touch 6 = .ok (.iload_n 1, 1) := by decide +kernel
theorem d_T_touch_7 : decode b_T_touch 7 = .ok (.iadd, 1) := by decide +kernel
theorem d_T_touch_8 : decode b_T_touch 8 = .ok (.iload_n 2, 1) := by decide +kernel
theorem d_T_touch_9 : decode b_T_touch 9 = .ok (.invokestatic 15, 3) := by decide +kernel
theorem d_T_touch_12 : decode b_T_touch 12 = .ok (.imul, 1) := by decide +kernel
theorem d_T_touch_13 : decode b_T_touch 13 = .ok (.sipush 1000, 3) := by decide +kernel
theorem d_T_touch_16 : decode b_T_touch 16 = .ok (.iload_n 1, 1) := by decide +kernel
theorem d_T_touch_17 : decode b_T_touch 17 = .ok (.iconst 2, 1) := by decide +kernel
theorem d_T_touch_18 : decode b_T_touch 18 = .ok (.iadd, 1) := by decide +kernel
theorem d_T_touch_19 : decode b_T_touch 19 = .ok (.imul, 1) := by decide +kernel
theorem d_T_touch_20 : decode b_T_touch 20 = .ok (.if_icmp .gt 7, 3) := by decide +kernel
theorem d_T_touch_23 : decode b_T_touch 23 = .ok (.iconst 1, 1) := by decide +kernel
theorem d_T_touch_24 : decode b_T_touch 24 = .ok (.goto 4, 3) := by decide +kernel
theorem d_T_touch_27 : decode b_T_touch 27 = .ok (.iconst 0, 1) := by decide +kernel
theorem d_T_touch_28 : decode b_T_touch 28 = .ok (.ireturn, 1) := by decide +kernel
theorem d_T_canBe_0 : decode b_T_canBe 0 = .ok (.iload_n 0, 1) := by decide +kernel
theorem d_T_canBe_1 : decode b_T_canBe 1 = .ok (.iload_n 1, 1) := by decide +kernel
theorem d_T_canBe_2 : decode b_T_canBe 2 = .ok (.iload_n 2, 1) := by decide +kernel
theorem d_T_canBe_3 : decode b_T_canBe 3 = .ok (.invokestatic 19, 3) := by decide +kernel
theorem d_T_canBe_6 : decode b_T_canBe 6 = .ok (.ifCond .eq 16, 3) := by decide +kernel
theorem d_T_canBe_9 : decode b_T_canBe 9 = .ok (.iload_n 0, 1) := by decide +kernel
theorem d_T_canBe_10 : decode b_T_canBe 10 = .ok (.iload_n 1, 1) := by decide +kernel
theorem d_T_canBe_11 : decode b_T_canBe 11 = .ok (.iload_n 2, 1) := by decide +kernel
theorem d_T_canBe_12 : decode b_T_canBe 12 = .ok (.invokestatic 23, 3) := by decide +kernel
theorem d_T_canBe_15 : decode b_T_canBe 15 = .ok (.ifCond .ne 7, 3) := by decide +kernel
theorem d_T_canBe_18 : decode b_T_canBe 18 = .ok (.iconst 1, 1) := by decide +kernel
theorem d_T_canBe_19 : decode b_T_canBe 19 = .ok (.goto 4, 3) := by decide +kernel
theorem d_T_canBe_22 : decode b_T_canBe 22 = .ok (.iconst 0, 1) := by decide +kernel
theorem d_T_canBe_23 : decode b_T_canBe 23 = .ok (.ireturn, 1) := by decide +kernel
theorem d_T_teethTogether_0 : decode b_T_teethTogether 0 = .ok (.iload_n 0, 1) := by decide +kernel
theorem d_T_teethTogether_1 : decode b_T_teethTogether 1 = .ok (.iload_n 2, 1) := by decide +kernel
theorem d_T_teethTogether_2 : decode b_T_teethTogether 2 = .ok (.iload_n 1, 1) := by decide +kernel
theorem d_T_teethTogether_3 : decode b_T_teethTogether 3 = .ok (.imul, 1) := by decide +kernel
theorem d_T_teethTogether_4 : decode b_T_teethTogether 4 = .ok (.iadd, 1) := by decide +kernel
theorem d_T_teethTogether_5 : decode b_T_teethTogether 5 = .ok (.iload_n 0, 1) := by decide +kernel
theorem d_T_teethTogether_6 : decode b_T_teethTogether 6 = .ok (.iload_n 1, 1) := by decide +kernel
theorem d_T_teethTogether_7 : decode b_T_teethTogether 7 = .ok (.invokestatic 9, 3) := by decide +kernel
theorem d_T_teethTogether_10 : decode b_T_teethTogether 10 = .ok (.iadd, 1) := by decide +kernel
theorem d_T_teethTogether_11 : decode b_T_teethTogether 11 = .ok (.ireturn, 1) := by decide +kernel
theorem d_T_mostPlanets_0 : decode b_T_mostPlanets 0 = .ok (.bipush 8, 2) := by decide +kernel
theorem d_T_mostPlanets_2 : decode b_T_mostPlanets 2 = .ok (.istore_n 2, 1) := by decide +kernel
theorem d_T_mostPlanets_3 : decode b_T_mostPlanets 3 = .ok (.iload_n 2, 1) := by decide +kernel
theorem d_T_mostPlanets_4 : decode b_T_mostPlanets 4 = .ok (.iconst 1, 1) := by decide +kernel
theorem d_T_mostPlanets_5 : decode b_T_mostPlanets 5 = .ok (.if_icmp .le 20, 3) := by decide +kernel
theorem d_T_mostPlanets_8 : decode b_T_mostPlanets 8 = .ok (.iload_n 0, 1) := by decide +kernel
theorem d_T_mostPlanets_9 : decode b_T_mostPlanets 9 = .ok (.iload_n 1, 1) := by decide +kernel
theorem d_T_mostPlanets_10 : decode b_T_mostPlanets 10 = .ok (.iload_n 2, 1) := by decide +kernel
theorem d_T_mostPlanets_11 : decode b_T_mostPlanets 11 = .ok (.invokestatic 26, 3) := by decide +kernel
theorem d_T_mostPlanets_14 : decode b_T_mostPlanets 14 = .ok (.ifCond .eq 5, 3) := by decide +kernel
theorem d_T_mostPlanets_17 : decode b_T_mostPlanets 17 = .ok (.iload_n 2, 1) := by decide +kernel
theorem d_T_mostPlanets_18 : decode b_T_mostPlanets 18 = .ok (.ireturn, 1) := by decide +kernel
theorem d_T_mostPlanets_19 : decode b_T_mostPlanets 19 = .ok (.iinc 2 (-1), 3) := by decide +kernel
theorem d_T_mostPlanets_22 : decode b_T_mostPlanets 22 = .ok (.goto (-19), 3) := by decide +kernel
theorem d_T_mostPlanets_25 : decode b_T_mostPlanets 25 = .ok (.iconst 1, 1) := by decide +kernel
theorem d_T_mostPlanets_26 : decode b_T_mostPlanets 26 = .ok (.ireturn, 1) := by decide +kernel
theorem d_T_sine_0 : decode b_T_sine 0 = .ok (.iload_n 0, 1) := by decide +kernel
theorem d_T_sine_1 : decode b_T_sine 1 = .ok (.tableswitch 71 2 8 #[43, 47, 51, 55, 59, 63, 67], 43) := by decide +kernel
theorem d_T_sine_44 : decode b_T_sine 44 = .ok (.sipush 1000, 3) := by decide +kernel
theorem d_T_sine_47 : decode b_T_sine 47 = .ok (.ireturn, 1) := by decide +kernel
theorem d_T_sine_48 : decode b_T_sine 48 = .ok (.sipush 866, 3) := by decide +kernel
theorem d_T_sine_51 : decode b_T_sine 51 = .ok (.ireturn, 1) := by decide +kernel
theorem d_T_sine_52 : decode b_T_sine 52 = .ok (.sipush 707, 3) := by decide +kernel
theorem d_T_sine_55 : decode b_T_sine 55 = .ok (.ireturn, 1) := by decide +kernel
theorem d_T_sine_56 : decode b_T_sine 56 = .ok (.sipush 587, 3) := by decide +kernel
theorem d_T_sine_59 : decode b_T_sine 59 = .ok (.ireturn, 1) := by decide +kernel
theorem d_T_sine_60 : decode b_T_sine 60 = .ok (.sipush 500, 3) := by decide +kernel
theorem d_T_sine_63 : decode b_T_sine 63 = .ok (.ireturn, 1) := by decide +kernel
theorem d_T_sine_64 : decode b_T_sine 64 = .ok (.sipush 433, 3) := by decide +kernel
theorem d_T_sine_67 : decode b_T_sine 67 = .ok (.ireturn, 1) := by decide +kernel
theorem d_T_sine_68 : decode b_T_sine 68 = .ok (.sipush 382, 3) := by decide +kernel
theorem d_T_sine_71 : decode b_T_sine 71 = .ok (.ireturn, 1) := by decide +kernel
theorem d_T_sine_72 : decode b_T_sine 72 = .ok (.iconst 0, 1) := by decide +kernel
theorem d_T_sine_73 : decode b_T_sine 73 = .ok (.ireturn, 1) := by decide +kernel
theorem d_T_ratioPart_0 : decode b_T_ratioPart 0 = .ok (.iload_n 3, 1) := by decide +kernel
theorem d_T_ratioPart_1 : decode b_T_ratioPart 1 = .ok (.iconst 1, 1) := by decide +kernel
theorem d_T_ratioPart_2 : decode b_T_ratioPart 2 = .ok (.if_icmp .ne 7, 3) := by decide +kernel
theorem d_T_ratioPart_5 : decode b_T_ratioPart 5 = .ok (.iconst (-1), 1) := by decide +kernel
theorem d_T_ratioPart_6 : decode b_T_ratioPart 6 = .ok (.goto 4, 3) := by decide +kernel
theorem d_T_ratioPart_9 : decode b_T_ratioPart 9 = .ok (.iconst 1, 1) := by decide +kernel
theorem d_T_ratioPart_10 : decode b_T_ratioPart 10 = .ok (.istore 5, 2) := by decide +kernel
theorem d_T_ratioPart_12 : decode b_T_ratioPart 12 = .ok (.iload_n 0, 1) := by decide +kernel
theorem d_T_ratioPart_13 : decode b_T_ratioPart 13 = .ok (.iload_n 1, 1) := by decide +kernel
theorem d_T_ratioPart_14 : decode b_T_ratioPart 14 = .ok (.iconst 3, 1) := by decide +kernel
theorem d_T_ratioPart_15 : decode b_T_ratioPart 15 = .ok (.iload_n 2, 1) := by decide +kernel
theorem d_T_ratioPart_16 : decode b_T_ratioPart 16 = .ok (.isub, 1) := by decide +kernel
theorem d_T_ratioPart_17 : decode b_T_ratioPart 17 = .ok (.iload_n 3, 1) := by decide +kernel
theorem d_T_ratioPart_18 : decode b_T_ratioPart 18 = .ok (.isub, 1) := by decide +kernel
theorem d_T_ratioPart_19 : decode b_T_ratioPart 19 = .ok (.invokestatic 29, 3) := by decide +kernel
theorem d_T_ratioPart_22 : decode b_T_ratioPart 22 = .ok (.istore 6, 2) := by decide +kernel
theorem d_T_ratioPart_24 : decode b_T_ratioPart 24 = .ok (.iload_n 0, 1) := by decide +kernel
theorem d_T_ratioPart_25 : decode b_T_ratioPart 25 = .ok (.iload_n 1, 1) := by decide +kernel
theorem d_T_ratioPart_26 : decode b_T_ratioPart 26 = .ok (.iload_n 2, 1) := by decide +kernel
theorem d_T_ratioPart_27 : decode b_T_ratioPart 27 = .ok (.invokestatic 29, 3) := by decide +kernel
theorem d_T_ratioPart_30 : decode b_T_ratioPart 30 = .ok (.istore 7, 2) := by decide +kernel
theorem d_T_ratioPart_32 : decode b_T_ratioPart 32 = .ok (.iload 7, 2) := by decide +kernel
theorem d_T_ratioPart_34 : decode b_T_ratioPart 34 = .ok (.ifCond .le 20, 3) := by decide +kernel
theorem d_T_ratioPart_37 : decode b_T_ratioPart 37 = .ok (.iload 5, 2) := by decide +kernel
theorem d_T_ratioPart_39 : decode b_T_ratioPart 39 = .ok (.iload 6, 2) := by decide +kernel
theorem d_T_ratioPart_41 : decode b_T_ratioPart 41 = .ok (.imul, 1) := by decide +kernel
theorem d_T_ratioPart_42 : decode b_T_ratioPart 42 = .ok (.i2l, 1) := by decide +kernel
theorem d_T_ratioPart_43 : decode b_T_ratioPart 43 = .ok (.iload 7, 2) := by decide +kernel
theorem d_T_ratioPart_45 : decode b_T_ratioPart 45 = .ok (.i2l, 1) := by decide +kernel
theorem d_T_ratioPart_46 : decode b_T_ratioPart 46 = .ok (.iload 4, 2) := by decide +kernel
theorem d_T_ratioPart_48 : decode b_T_ratioPart 48 = .ok (.invokestatic 33, 3) := by decide +kernel
theorem d_T_ratioPart_51 : decode b_T_ratioPart 51 = .ok (.goto 6, 3) := by decide +kernel
theorem d_T_ratioPart_54 : decode b_T_ratioPart 54 = .ok (.ldc2_w 37, 3) := by decide +kernel
theorem d_T_ratioPart_57 : decode b_T_ratioPart 57 = .ok (.lreturn, 1) := by decide +kernel
theorem d_T_weight_0 : decode b_T_weight 0 = .ok (.iload_n 2, 1) := by decide +kernel
theorem d_T_weight_1 : decode b_T_weight 1 = .ok (.tableswitch 43 0 2 #[27, 29, 37], 27) := by decide +kernel
theorem d_T_weight_28 : decode b_T_weight 28 = .ok (.iload_n 0, 1) := by decide +kernel
theorem d_T_weight_29 : decode b_T_weight 29 = .ok (.ireturn, 1) := by decide +kernel
theorem d_T_weight_30 : decode b_T_weight 30 = .ok (.iload_n 0, 1) := by decide +kernel
theorem d_T_weight_31 : decode b_T_weight 31 = .ok (.iload_n 0, 1) := by decide +kernel
theorem d_T_weight_32 : decode b_T_weight 32 = .ok (.iload_n 1, 1) := by decide +kernel
theorem d_T_weight_33 : decode b_T_weight 33 = .ok (.invokestatic 9, 3) := by decide +kernel
theorem d_T_weight_36 : decode b_T_weight 36 = .ok (.iadd, 1) := by decide +kernel
theorem d_T_weight_37 : decode b_T_weight 37 = .ok (.ireturn, 1) := by decide +kernel
theorem d_T_weight_38 : decode b_T_weight 38 = .ok (.iload_n 0, 1) := by decide +kernel
theorem d_T_weight_39 : decode b_T_weight 39 = .ok (.iload_n 1, 1) := by decide +kernel
theorem d_T_weight_40 : decode b_T_weight 40 = .ok (.invokestatic 9, 3) := by decide +kernel
theorem d_T_weight_43 : decode b_T_weight 43 = .ok (.ireturn, 1) := by decide +kernel
theorem d_T_weight_44 : decode b_T_weight 44 = .ok (.iconst 0, 1) := by decide +kernel
theorem d_T_weight_45 : decode b_T_weight 45 = .ok (.ireturn, 1) := by decide +kernel
theorem d_X_init_0 : decode b_X_init 0 = .ok (.aload_n 0, 1) := by decide +kernel
theorem d_X_init_1 : decode b_X_init 1 = .ok (.invokespecial 3, 3) := by decide +kernel
theorem d_X_init_4 : decode b_X_init 4 = .ok (.aload_n 0, 1) := by decide +kernel
theorem d_X_init_5 : decode b_X_init 5 = .ok (.new 9, 3) := by decide +kernel
theorem d_X_init_8 : decode b_X_init 8 = .ok (.dup, 1) := by decide +kernel
theorem d_X_init_9 : decode b_X_init 9 = .ok (.bipush 80, 2) := by decide +kernel
theorem d_X_init_11 : decode b_X_init 11 = .ok (.invokespecial 11, 3) := by decide +kernel
theorem d_X_init_14 : decode b_X_init 14 = .ok (.putfield 14, 3) := by decide +kernel
theorem d_X_init_17 : decode b_X_init 17 = .ok (.aload_n 0, 1) := by decide +kernel
theorem d_X_init_18 : decode b_X_init 18 = .ok (.new 9, 3) := by decide +kernel
theorem d_X_init_21 : decode b_X_init 21 = .ok (.dup, 1) := by decide +kernel
theorem d_X_init_22 : decode b_X_init 22 = .ok (.bipush 40, 2) := by decide +kernel
theorem d_X_init_24 : decode b_X_init 24 = .ok (.invokespecial 11, 3) := by decide +kernel
theorem d_X_init_27 : decode b_X_init 27 = .ok (.putfield 20, 3) := by decide +kernel
theorem d_X_init_30 : decode b_X_init 30 = .ok (.aload_n 0, 1) := by decide +kernel
theorem d_X_init_31 : decode b_X_init 31 = .ok (.new 9, 3) := by decide +kernel
theorem d_X_init_34 : decode b_X_init 34 = .ok (.dup, 1) := by decide +kernel
theorem d_X_init_35 : decode b_X_init 35 = .ok (.bipush 40, 2) := by decide +kernel
theorem d_X_init_37 : decode b_X_init 37 = .ok (.invokespecial 11, 3) := by decide +kernel
theorem d_X_init_40 : decode b_X_init 40 = .ok (.putfield 23, 3) := by decide +kernel
theorem d_X_init_43 : decode b_X_init 43 = .ok (.aload_n 0, 1) := by decide +kernel
theorem d_X_init_44 : decode b_X_init 44 = .ok (.new 9, 3) := by decide +kernel
theorem d_X_init_47 : decode b_X_init 47 = .ok (.dup, 1) := by decide +kernel
theorem d_X_init_48 : decode b_X_init 48 = .ok (.bipush 40, 2) := by decide +kernel
theorem d_X_init_50 : decode b_X_init 50 = .ok (.invokespecial 11, 3) := by decide +kernel
theorem d_X_init_53 : decode b_X_init 53 = .ok (.putfield 26, 3) := by decide +kernel
theorem d_X_init_56 : decode b_X_init 56 = .ok (.aload_n 0, 1) := by decide +kernel
theorem d_X_init_57 : decode b_X_init 57 = .ok (.iconst 0, 1) := by decide +kernel
theorem d_X_init_58 : decode b_X_init 58 = .ok (.putfield 29, 3) := by decide +kernel
theorem d_X_init_61 : decode b_X_init 61 = .ok (.aload_n 0, 1) := by decide +kernel
theorem d_X_init_62 : decode b_X_init 62 = .ok (.iconst 0, 1) := by decide +kernel
theorem d_X_init_63 : decode b_X_init 63 = .ok (.putfield 33, 3) := by decide +kernel
theorem d_X_init_66 : decode b_X_init 66 = .ok (.return_, 1) := by decide +kernel
theorem d_X_append_0 : decode b_X_append 0 = .ok (.iload_n 1, 1) := by decide +kernel
theorem d_X_append_1 : decode b_X_append 1 = .ok (.bipush 32, 2) := by decide +kernel
theorem d_X_append_3 : decode b_X_append 3 = .ok (.if_icmp .lt 9, 3) := by decide +kernel
theorem d_X_append_6 : decode b_X_append 6 = .ok (.iload_n 1, 1) := by decide +kernel
theorem d_X_append_7 : decode b_X_append 7 = .ok (.bipush 126, 2) := by decide +kernel
theorem d_X_append_9 : decode b_X_append 9 = .ok (.if_icmp .le 5, 3) := by decide +kernel
theorem d_X_append_12 : decode b_X_append 12 = .ok (.iconst (-1), 1) := by decide +kernel
theorem d_X_append_13 : decode b_X_append 13 = .ok (.ireturn, 1) := by decide +kernel
theorem d_X_append_14 : decode b_X_append 14 = .ok (.aload_n 0, 1) := by decide +kernel
theorem d_X_append_15 : decode b_X_append 15 = .ok (.getfield 14, 3) := by decide +kernel
theorem d_X_append_18 : decode b_X_append 18 = .ok (.invokevirtual 36, 3) := by decide +kernel
theorem d_X_append_21 : decode b_X_append 21 = .ok (.ifCond .eq 6, 3) := by decide +kernel
theorem d_X_append_24 : decode b_X_append 24 = .ok (.bipush (-3), 2) := by decide +kernel
theorem d_X_append_26 : decode b_X_append 26 = .ok (.ireturn, 1) := by decide +kernel
theorem d_X_append_27 : decode b_X_append 27 = .ok (.aload_n 0, 1) := by decide +kernel
theorem d_X_append_28 : decode b_X_append 28 = .ok (.getfield 14, 3) := by decide +kernel
theorem d_X_append_31 : decode b_X_append 31 = .ok (.iload_n 1, 1) := by decide +kernel
theorem d_X_append_32 : decode b_X_append 32 = .ok (.invokevirtual 40, 3) := by decide +kernel
theorem d_X_append_35 : decode b_X_append 35 = .ok (.aload_n 0, 1) := by decide +kernel
theorem d_X_append_36 : decode b_X_append 36 = .ok (.getfield 14, 3) := by decide +kernel
theorem d_X_append_39 : decode b_X_append 39 = .ok (.invokevirtual 43, 3) := by decide +kernel
theorem d_X_append_42 : decode b_X_append 42 = .ok (.ireturn, 1) := by decide +kernel
theorem d_X_length_0 : decode b_X_length 0 = .ok (.aload_n 0, 1) := by decide +kernel
theorem d_X_length_1 : decode b_X_length 1 = .ok (.getfield 14, 3) := by decide +kernel
theorem d_X_length_4 : decode b_X_length 4 = .ok (.invokevirtual 43, 3) := by decide +kernel
theorem d_X_length_7 : decode b_X_length 7 = .ok (.ireturn, 1) := by decide +kernel
theorem d_X_empty_0 : decode b_X_empty 0 = .ok (.aload_n 0, 1) := by decide +kernel
theorem d_X_empty_1 : decode b_X_empty 1 = .ok (.getfield 14, 3) := by decide +kernel
theorem d_X_empty_4 : decode b_X_empty 4 = .ok (.invokevirtual 47, 3) := by decide +kernel
theorem d_X_empty_7 : decode b_X_empty 7 = .ok (.return_, 1) := by decide +kernel
theorem d_X_acts_0 : decode b_X_acts 0 = .ok (.aload_n 0, 1) := by decide +kernel
theorem d_X_acts_1 : decode b_X_acts 1 = .ok (.getfield 20, 3) := by decide +kernel
theorem d_X_acts_4 : decode b_X_acts 4 = .ok (.invokevirtual 43, 3) := by decide +kernel
theorem d_X_acts_7 : decode b_X_acts 7 = .ok (.ireturn, 1) := by decide +kernel
theorem d_X_letterOf_0 : decode b_X_letterOf 0 = .ok (.aload_n 0, 1) := by decide +kernel
theorem d_X_letterOf_1 : decode b_X_letterOf 1 = .ok (.getfield 20, 3) := by decide +kernel
theorem d_X_letterOf_4 : decode b_X_letterOf 4 = .ok (.iload_n 1, 1) := by decide +kernel
theorem d_X_letterOf_5 : decode b_X_letterOf 5 = .ok (.invokevirtual 50, 3) := by decide +kernel
theorem d_X_letterOf_8 : decode b_X_letterOf 8 = .ok (.ireturn, 1) := by decide +kernel
theorem d_X_firstOf_0 : decode b_X_firstOf 0 = .ok (.aload_n 0, 1) := by decide +kernel
theorem d_X_firstOf_1 : decode b_X_firstOf 1 = .ok (.getfield 23, 3) := by decide +kernel
theorem d_X_firstOf_4 : decode b_X_firstOf 4 = .ok (.iload_n 1, 1) := by decide +kernel
theorem d_X_firstOf_5 : decode b_X_firstOf 5 = .ok (.invokevirtual 50, 3) := by decide +kernel
theorem d_X_firstOf_8 : decode b_X_firstOf 8 = .ok (.ireturn, 1) := by decide +kernel
theorem d_X_secondOf_0 : decode b_X_secondOf 0 = .ok (.aload_n 0, 1) := by decide +kernel
theorem d_X_secondOf_1 : decode b_X_secondOf 1 = .ok (.getfield 26, 3) := by decide +kernel
theorem d_X_secondOf_4 : decode b_X_secondOf 4 = .ok (.iload_n 1, 1) := by decide +kernel
theorem d_X_secondOf_5 : decode b_X_secondOf 5 = .ok (.invokevirtual 50, 3) := by decide +kernel
theorem d_X_secondOf_8 : decode b_X_secondOf 8 = .ok (.ireturn, 1) := by decide +kernel
theorem d_X_parse_0 : decode b_X_parse 0 = .ok (.aload_n 0, 1) := by decide +kernel
theorem d_X_parse_1 : decode b_X_parse 1 = .ok (.iconst 0, 1) := by decide +kernel
theorem d_X_parse_2 : decode b_X_parse 2 = .ok (.putfield 29, 3) := by decide +kernel
theorem d_X_parse_5 : decode b_X_parse 5 = .ok (.aload_n 0, 1) := by decide +kernel
theorem d_X_parse_6 : decode b_X_parse 6 = .ok (.getfield 20, 3) := by decide +kernel
theorem d_X_parse_9 : decode b_X_parse 9 = .ok (.invokevirtual 47, 3) := by decide +kernel
theorem d_X_parse_12 : decode b_X_parse 12 = .ok (.aload_n 0, 1) := by decide +kernel
theorem d_X_parse_13 : decode b_X_parse 13 = .ok (.getfield 23, 3) := by decide +kernel
theorem d_X_parse_16 : decode b_X_parse 16 = .ok (.invokevirtual 47, 3) := by decide +kernel
theorem d_X_parse_19 : decode b_X_parse 19 = .ok (.aload_n 0, 1) := by decide +kernel
theorem d_X_parse_20 : decode b_X_parse 20 = .ok (.getfield 26, 3) := by decide +kernel
theorem d_X_parse_23 : decode b_X_parse 23 = .ok (.invokevirtual 47, 3) := by decide +kernel
theorem d_X_parse_26 : decode b_X_parse 26 = .ok (.iconst 0, 1) := by decide +kernel
theorem d_X_parse_27 : decode b_X_parse 27 = .ok (.istore_n 1, 1) := by decide +kernel
theorem d_X_parse_28 : decode b_X_parse 28 = .ok (.iload_n 1, 1) := by decide +kernel
theorem d_X_parse_29 : decode b_X_parse 29 = .ok (.bipush 40, 2) := by decide +kernel
theorem d_X_parse_31 : decode b_X_parse 31 = .ok (.if_icmp .ge 51, 3) := by decide +kernel
theorem d_X_parse_34 : decode b_X_parse 34 = .ok (.aload_n 0, 1) := by decide +kernel
theorem d_X_parse_35 : decode b_X_parse 35 = .ok (.invokevirtual 54, 3) := by decide +kernel
theorem d_X_parse_38 : decode b_X_parse 38 = .ok (.ifCond .ne 8, 3) := by decide +kernel
theorem d_X_parse_41 : decode b_X_parse 41 = .ok (.aload_n 0, 1) := by decide +kernel
theorem d_X_parse_42 : decode b_X_parse 42 = .ok (.getfield 29, 3) := by decide +kernel
theorem d_X_parse_45 : decode b_X_parse 45 = .ok (.ireturn, 1) := by decide +kernel
theorem d_X_parse_46 : decode b_X_parse 46 = .ok (.aload_n 0, 1) := by decide +kernel
theorem d_X_parse_47 : decode b_X_parse 47 = .ok (.getfield 29, 3) := by decide +kernel
theorem d_X_parse_50 : decode b_X_parse 50 = .ok (.aload_n 0, 1) := by decide +kernel
theorem d_X_parse_51 : decode b_X_parse 51 = .ok (.getfield 14, 3) := by decide +kernel
theorem d_X_parse_54 : decode b_X_parse 54 = .ok (.invokevirtual 43, 3) := by decide +kernel
theorem d_X_parse_57 : decode b_X_parse 57 = .ok (.if_icmp .ne 5, 3) := by decide +kernel
theorem d_X_parse_60 : decode b_X_parse 60 = .ok (.iconst (-1), 1) := by decide +kernel
theorem d_X_parse_61 : decode b_X_parse 61 = .ok (.ireturn, 1) := by decide +kernel
theorem d_X_parse_62 : decode b_X_parse 62 = .ok (.aload_n 0, 1) := by decide +kernel
theorem d_X_parse_63 : decode b_X_parse 63 = .ok (.bipush 59, 2) := by decide +kernel
theorem d_X_parse_65 : decode b_X_parse 65 = .ok (.invokevirtual 57, 3) := by decide +kernel
theorem d_X_parse_68 : decode b_X_parse 68 = .ok (.ifCond .ne 8, 3) := by decide +kernel
theorem d_X_parse_71 : decode b_X_parse 71 = .ok (.aload_n 0, 1) := by decide +kernel
theorem d_X_parse_72 : decode b_X_parse 72 = .ok (.getfield 29, 3) := by decide +kernel
theorem d_X_parse_75 : decode b_X_parse 75 = .ok (.ireturn, 1) := by decide +kernel
theorem d_X_parse_76 : decode b_X_parse 76 = .ok (.iinc 1 1, 3) := by decide +kernel
theorem d_X_parse_79 : decode b_X_parse 79 = .ok (.goto (-51), 3) := by decide +kernel
theorem d_X_parse_82 : decode b_X_parse 82 = .ok (.aload_n 0, 1) := by decide +kernel
theorem d_X_parse_83 : decode b_X_parse 83 = .ok (.getfield 29, 3) := by decide +kernel
theorem d_X_parse_86 : decode b_X_parse 86 = .ok (.ireturn, 1) := by decide +kernel
theorem d_X_parseAct_0 : decode b_X_parseAct 0 = .ok (.aload_n 0, 1) := by decide +kernel
theorem d_X_parseAct_1 : decode b_X_parseAct 1 = .ok (.invokevirtual 61, 3) := by decide +kernel
theorem d_X_parseAct_4 : decode b_X_parseAct 4 = .ok (.istore_n 1, 1) := by decide +kernel
theorem d_X_parseAct_5 : decode b_X_parseAct 5 = .ok (.iconst 0, 1) := by decide +kernel
theorem d_X_parseAct_6 : decode b_X_parseAct 6 = .ok (.istore_n 2, 1) := by decide +kernel
theorem d_X_parseAct_7 : decode b_X_parseAct 7 = .ok (.iconst 0, 1) := by decide +kernel
theorem d_X_parseAct_8 : decode b_X_parseAct 8 = .ok (.istore_n 3, 1) := by decide +kernel
theorem d_X_parseAct_9 : decode b_X_parseAct 9 = .ok (.iload_n 1, 1) := by decide +kernel
theorem d_X_parseAct_10 : decode b_X_parseAct 10 = .ok (.invokestatic 64, 3) := by decide +kernel
theorem d_X_parseAct_13 : decode b_X_parseAct 13 = .ok (.ifCond .ne 5, 3) := by decide +kernel
theorem d_X_parseAct_16 : decode b_X_parseAct 16 = .ok (.iconst 0, 1) := by decide +kernel
theorem d_X_parseAct_17 : decode b_X_parseAct 17 = .ok (.ireturn, 1) := by decide +kernel
theorem d_X_parseAct_18 : decode b_X_parseAct 18 = .ok (.aload_n 0, 1) := by decide +kernel
theorem d_X_parseAct_19 : decode b_X_parseAct 19 = .ok (.dup, 1) := by decide +kernel
theorem d_X_parseAct_20 : decode b_X_parseAct 20 = .ok (.getfield 29, 3) := by decide +kernel
theorem d_X_parseAct_23 : decode b_X_parseAct 23 = .ok (.iconst 1, 1) := by decide +kernel
theorem d_X_parseAct_24 : decode b_X_parseAct 24 = .ok (.iadd, 1) := by decide +kernel
theorem d_X_parseAct_25 : decode b_X_parseAct 25 = .ok (.putfield 29, 3) := by decide +kernel
theorem d_X_parseAct_28 : decode b_X_parseAct 28 = .ok (.iload_n 1, 1) := by decide +kernel
theorem d_X_parseAct_29 : decode b_X_parseAct 29 = .ok (.bipush 120, 2) := by decide +kernel
theorem d_X_parseAct_31 : decode b_X_parseAct 31 = .ok (.if_icmp .eq 37, 3) := by decide +kernel
theorem d_X_parseAct_34 : decode b_X_parseAct 34 = .ok (.aload_n 0, 1) := by decide +kernel
theorem d_X_parseAct_35 : decode b_X_parseAct 35 = .ok (.bipush 32, 2) := by decide +kernel
theorem d_X_parseAct_37 : decode b_X_parseAct 37 = .ok (.invokevirtual 57, 3) := by decide +kernel
theorem d_X_parseAct_40 : decode b_X_parseAct 40 = .ok (.ifCond .eq 21, 3) := by decide +kernel
theorem d_X_parseAct_43 : decode b_X_parseAct 43 = .ok (.aload_n 0, 1) := by decide +kernel
theorem d_X_parseAct_44 : decode b_X_parseAct 44 = .ok (.iload_n 1, 1) := by decide +kernel
theorem d_X_parseAct_45 : decode b_X_parseAct 45 = .ok (.bipush 119, 2) := by decide +kernel
theorem d_X_parseAct_47 : decode b_X_parseAct 47 = .ok (.if_icmp .ne 7, 3) := by decide +kernel
theorem d_X_parseAct_50 : decode b_X_parseAct 50 = .ok (.iconst 1, 1) := by decide +kernel
theorem d_X_parseAct_51 : decode b_X_parseAct 51 = .ok (.goto 4, 3) := by decide +kernel
theorem d_X_parseAct_54 : decode b_X_parseAct 54 = .ok (.iconst 0, 1) := by decide +kernel
theorem d_X_parseAct_55 : decode b_X_parseAct 55 = .ok (.invokevirtual 67, 3) := by decide +kernel
theorem d_X_parseAct_58 : decode b_X_parseAct 58 = .ok (.ifCond .ne 5, 3) := by decide +kernel
theorem d_X_parseAct_61 : decode b_X_parseAct 61 = .ok (.iconst 0, 1) := by decide +kernel
theorem d_X_parseAct_62 : decode b_X_parseAct 62 = .ok (.ireturn, 1) := by decide +kernel
theorem d_X_parseAct_63 : decode b_X_parseAct 63 = .ok (.aload_n 0, 1) := by decide +kernel
theorem d_X_parseAct_64 : decode b_X_parseAct 64 = .ok (.getfield 33, 3) := by decide +kernel
theorem d_X_parseAct_67 : decode b_X_parseAct 67 = .ok (.istore_n 2, 1) := by decide +kernel
theorem d_X_parseAct_68 : decode b_X_parseAct 68 = .ok (.iload_n 1, 1) := by decide +kernel
theorem d_X_parseAct_69 : decode b_X_parseAct 69 = .ok (.bipush 115, 2) := by decide +kernel
theorem d_X_parseAct_71 : decode b_X_parseAct 71 = .ok (.if_icmp .eq 9, 3) := by decide +kernel
theorem d_X_parseAct_74 : decode b_X_parseAct 74 = .ok (.iload_n 1, 1) := by decide +kernel
theorem d_X_parseAct_75 : decode b_X_parseAct 75 = .ok (.bipush 116, 2) := by decide +kernel
theorem d_X_parseAct_77 : decode b_X_parseAct 77 = .ok (.if_icmp .ne 37, 3) := by decide +kernel
theorem d_X_parseAct_80 : decode b_X_parseAct 80 = .ok (.aload_n 0, 1) := by decide +kernel
theorem d_X_parseAct_81 : decode b_X_parseAct 81 = .ok (.bipush 44, 2) := by decide +kernel
theorem d_X_parseAct_83 : decode b_X_parseAct 83 = .ok (.invokevirtual 57, 3) := by decide +kernel
theorem d_X_parseAct_86 : decode b_X_parseAct 86 = .ok (.ifCond .eq 21, 3) := by decide +kernel
theorem d_X_parseAct_89 : decode b_X_parseAct 89 = .ok (.aload_n 0, 1) := by decide +kernel
theorem d_X_parseAct_90 : decode b_X_parseAct 90 = .ok (.iload_n 1, 1) := by decide +kernel
theorem d_X_parseAct_91 : decode b_X_parseAct 91 = .ok (.bipush 115, 2) := by decide +kernel
theorem d_X_parseAct_93 : decode b_X_parseAct 93 = .ok (.if_icmp .ne 7, 3) := by decide +kernel
theorem d_X_parseAct_96 : decode b_X_parseAct 96 = .ok (.iconst 1, 1) := by decide +kernel
theorem d_X_parseAct_97 : decode b_X_parseAct 97 = .ok (.goto 4, 3) := by decide +kernel
theorem d_X_parseAct_100 : decode b_X_parseAct 100 = .ok (.iconst 0, 1) := by decide +kernel
theorem d_X_parseAct_101 : decode b_X_parseAct 101 = .ok (.invokevirtual 67, 3) := by decide +kernel
theorem d_X_parseAct_104 : decode b_X_parseAct 104 = .ok (.ifCond .ne 5, 3) := by decide +kernel
theorem d_X_parseAct_107 : decode b_X_parseAct 107 = .ok (.iconst 0, 1) := by decide +kernel
theorem d_X_parseAct_108 : decode b_X_parseAct 108 = .ok (.ireturn, 1) := by decide +kernel
theorem d_X_parseAct_109 : decode b_X_parseAct 109 = .ok (.aload_n 0, 1) := by decide +kernel
theorem d_X_parseAct_110 : decode b_X_parseAct 110 = .ok (.getfield 33, 3) := by decide +kernel
theorem d_X_parseAct_113 : decode b_X_parseAct 113 = .ok (.istore_n 3, 1) := by decide +kernel
theorem d_X_parseAct_114 : decode b_X_parseAct 114 = .ok (.aload_n 0, 1) := by decide +kernel
theorem d_X_parseAct_115 : decode b_X_parseAct 115 = .ok (.getfield 20, 3) := by decide +kernel
theorem d_X_parseAct_118 : decode b_X_parseAct 118 = .ok (.iload_n 1, 1) := by decide +kernel
theorem d_X_parseAct_119 : decode b_X_parseAct 119 = .ok (.invokevirtual 40, 3) := by decide +kernel
theorem d_X_parseAct_122 : decode b_X_parseAct 122 = .ok (.aload_n 0, 1) := by decide +kernel
theorem d_X_parseAct_123 : decode b_X_parseAct 123 = .ok (.getfield 23, 3) := by decide +kernel
theorem d_X_parseAct_126 : decode b_X_parseAct 126 = .ok (.iload_n 2, 1) := by decide +kernel
theorem d_X_parseAct_127 : decode b_X_parseAct 127 = .ok (.invokevirtual 40, 3) := by decide +kernel
theorem d_X_parseAct_130 : decode b_X_parseAct 130 = .ok (.aload_n 0, 1) := by decide +kernel
theorem d_X_parseAct_131 : decode b_X_parseAct 131 = .ok (.getfield 26, 3) := by decide +kernel
theorem d_X_parseAct_134 : decode b_X_parseAct 134 = .ok (.iload_n 3, 1) := by decide +kernel
theorem d_X_parseAct_135 : decode b_X_parseAct 135 = .ok (.invokevirtual 40, 3) := by decide +kernel
theorem d_X_parseAct_138 : decode b_X_parseAct 138 = .ok (.iconst 1, 1) := by decide +kernel
theorem d_X_parseAct_139 : decode b_X_parseAct 139 = .ok (.ireturn, 1) := by decide +kernel
theorem d_X_parseNumber_0 : decode b_X_parseNumber 0 = .ok (.iload_n 1, 1) := by decide +kernel
theorem d_X_parseNumber_1 : decode b_X_parseNumber 1 = .ok (.ifCond .eq 16, 3) := by decide +kernel
theorem d_X_parseNumber_4 : decode b_X_parseNumber 4 = .ok (.aload_n 0, 1) := by decide +kernel
theorem d_X_parseNumber_5 : decode b_X_parseNumber 5 = .ok (.bipush 45, 2) := by decide +kernel
theorem d_X_parseNumber_7 : decode b_X_parseNumber 7 = .ok (.invokevirtual 57, 3) := by decide +kernel
theorem d_X_parseNumber_10 : decode b_X_parseNumber 10 = .ok (.ifCond .eq 7, 3) := by decide +kernel
theorem d_X_parseNumber_13 : decode b_X_parseNumber 13 = .ok (.iconst 1, 1) := by decide +kernel
theorem d_X_parseNumber_14 : decode b_X_parseNumber 14 = .ok (.goto 4, 3) := by decide +kernel
theorem d_X_parseNumber_17 : decode b_X_parseNumber 17 = .ok (.iconst 0, 1) := by decide +kernel
theorem d_X_parseNumber_18 : decode b_X_parseNumber 18 = .ok (.istore_n 2, 1) := by decide +kernel
theorem d_X_parseNumber_19 : decode b_X_parseNumber 19 = .ok (.iconst 0, 1) := by decide +kernel
theorem d_X_parseNumber_20 : decode b_X_parseNumber 20 = .ok (.istore_n 3, 1) := by decide +kernel
theorem d_X_parseNumber_21 : decode b_X_parseNumber 21 = .ok (.iconst 0, 1) := by decide +kernel
theorem d_X_parseNumber_22 : decode b_X_parseNumber 22 = .ok (.istore 4, 2) := by decide +kernel
theorem d_X_parseNumber_24 : decode b_X_parseNumber 24 = .ok (.iload_n 3, 1) := by decide +kernel
theorem d_X_parseNumber_25 : decode b_X_parseNumber 25 = .ok (.iconst 3, 1) := by decide +kernel
theorem d_X_parseNumber_26 : decode b_X_parseNumber 26 = .ok (.if_icmp .ge 44, 3) := by decide +kernel
theorem d_X_parseNumber_29 : decode b_X_parseNumber 29 = .ok (.aload_n 0, 1) := by decide +kernel
theorem d_X_parseNumber_30 : decode b_X_parseNumber 30 = .ok (.invokevirtual 61, 3) := by decide +kernel
theorem d_X_parseNumber_33 : decode b_X_parseNumber 33 = .ok (.invokestatic 71, 3) := by decide +kernel
theorem d_X_parseNumber_36 : decode b_X_parseNumber 36 = .ok (.ifCond .eq 34, 3) := by decide +kernel
theorem d_X_parseNumber_39 : decode b_X_parseNumber 39 = .ok (.bipush 10, 2) := by decide +kernel
theorem d_X_parseNumber_41 : decode b_X_parseNumber 41 = .ok (.iload 4, 2) := by decide +kernel
theorem d_X_parseNumber_43 : decode b_X_parseNumber 43 = .ok (.imul, 1) := by decide +kernel
theorem d_X_parseNumber_44 : decode b_X_parseNumber 44 = .ok (.aload_n 0, 1) := by decide +kernel
theorem d_X_parseNumber_45 : decode b_X_parseNumber 45 = .ok (.invokevirtual 61, 3) := by decide +kernel
theorem d_X_parseNumber_48 : decode b_X_parseNumber 48 = .ok (.iadd, 1) := by decide +kernel
theorem d_X_parseNumber_49 : decode b_X_parseNumber 49 = .ok (.bipush 48, 2) := by decide +kernel
theorem d_X_parseNumber_51 : decode b_X_parseNumber 51 = .ok (.isub, 1) := by decide +kernel
theorem d_X_parseNumber_52 : decode b_X_parseNumber 52 = .ok (.istore 4, 2) := by decide +kernel
theorem d_X_parseNumber_54 : decode b_X_parseNumber 54 = .ok (.aload_n 0, 1) := by decide +kernel
theorem d_X_parseNumber_55 : decode b_X_parseNumber 55 = .ok (.dup, 1) := by decide +kernel
theorem d_X_parseNumber_56 : decode b_X_parseNumber 56 = .ok (.getfield 29, 3) := by decide +kernel
theorem d_X_parseNumber_59 : decode b_X_parseNumber 59 = .ok (.iconst 1, 1) := by decide +kernel
theorem d_X_parseNumber_60 : decode b_X_parseNumber 60 = .ok (.iadd, 1) := by decide +kernel
theorem d_X_parseNumber_61 : decode b_X_parseNumber 61 = .ok (.putfield 29, 3) := by decide +kernel
theorem d_X_parseNumber_64 : decode b_X_parseNumber 64 = .ok (.iinc 3 1, 3) := by decide +kernel
theorem d_X_parseNumber_67 : decode b_X_parseNumber 67 = .ok (.goto (-43), 3) := by decide +kernel
theorem d_X_parseNumber_70 : decode b_X_parseNumber 70 = .ok (.aload_n 0, 1) := by decide +kernel
theorem d_X_parseNumber_71 : decode b_X_parseNumber 71 = .ok (.iload_n 2, 1) := by decide +kernel
theorem d_X_parseNumber_72 : decode b_X_parseNumber 72 = .ok (.ifCond .eq 9, 3) := by decide +kernel
theorem d_X_parseNumber_75 : decode b_X_parseNumber 75 = .ok (.iload 4, 2) := by decide +kernel
theorem d_X_parseNumber_77 : decode b_X_parseNumber 77 = .ok (.ineg, 1) := by decide +kernel
theorem d_X_parseNumber_78 : decode b_X_parseNumber 78 = .ok (.goto 5, 3) := by decide +kernel
theorem d_X_parseNumber_81 : decode b_X_parseNumber 81 = .ok (.iload 4, 2) := by decide +kernel
theorem d_X_parseNumber_83 : decode b_X_parseNumber 83 = .ok (.putfield 33, 3) := by decide +kernel
theorem d_X_parseNumber_86 : decode b_X_parseNumber 86 = .ok (.iload_n 3, 1) := by decide +kernel
theorem d_X_parseNumber_87 : decode b_X_parseNumber 87 = .ok (.ifCond .le 7, 3) := by decide +kernel
theorem d_X_parseNumber_90 : decode b_X_parseNumber 90 = .ok (.iconst 1, 1) := by decide +kernel
theorem d_X_parseNumber_91 : decode b_X_parseNumber 91 = .ok (.goto 4, 3) := by decide +kernel
theorem d_X_parseNumber_94 : decode b_X_parseNumber 94 = .ok (.iconst 0, 1) := by decide +kernel
theorem d_X_parseNumber_95 : decode b_X_parseNumber 95 = .ok (.ireturn, 1) := by decide +kernel
theorem d_X_next_0 : decode b_X_next 0 = .ok (.aload_n 0, 1) := by decide +kernel
theorem d_X_next_1 : decode b_X_next 1 = .ok (.getfield 14, 3) := by decide +kernel
theorem d_X_next_4 : decode b_X_next 4 = .ok (.aload_n 0, 1) := by decide +kernel
theorem d_X_next_5 : decode b_X_next 5 = .ok (.getfield 29, 3) := by decide +kernel
theorem d_X_next_8 : decode b_X_next 8 = .ok (.invokevirtual 74, 3) := by decide +kernel
theorem d_X_next_11 : decode b_X_next 11 = .ok (.ifCond .eq 17, 3) := by decide +kernel
theorem d_X_next_14 : decode b_X_next 14 = .ok (.aload_n 0, 1) := by decide +kernel
theorem d_X_next_15 : decode b_X_next 15 = .ok (.getfield 14, 3) := by decide +kernel
theorem d_X_next_18 : decode b_X_next 18 = .ok (.aload_n 0, 1) := by decide +kernel
theorem d_X_next_19 : decode b_X_next 19 = .ok (.getfield 29, 3) := by decide +kernel
theorem d_X_next_22 : decode b_X_next 22 = .ok (.invokevirtual 50, 3) := by decide +kernel
theorem d_X_next_25 : decode b_X_next 25 = .ok (.goto 4, 3) := by decide +kernel
theorem d_X_next_28 : decode b_X_next 28 = .ok (.iconst (-1), 1) := by decide +kernel
theorem d_X_next_29 : decode b_X_next 29 = .ok (.ireturn, 1) := by decide +kernel
theorem d_X_skip_0 : decode b_X_skip 0 = .ok (.aload_n 0, 1) := by decide +kernel
theorem d_X_skip_1 : decode b_X_skip 1 = .ok (.invokevirtual 61, 3) := by decide +kernel
theorem d_X_skip_4 : decode b_X_skip 4 = .ok (.iload_n 1, 1) := by decide +kernel
theorem d_X_skip_5 : decode b_X_skip 5 = .ok (.if_icmp .ne 7, 3) := by decide +kernel
theorem d_X_skip_8 : decode b_X_skip 8 = .ok (.iconst 1, 1) := by decide +kernel
theorem d_X_skip_9 : decode b_X_skip 9 = .ok (.goto 4, 3) := by decide +kernel
theorem d_X_skip_12 : decode b_X_skip 12 = .ok (.iconst 0, 1) := by decide +kernel
theorem d_X_skip_13 : decode b_X_skip 13 = .ok (.istore_n 2, 1) := by decide +kernel
theorem d_X_skip_14 : decode b_X_skip 14 = .ok (.iload_n 2, 1) := by decide +kernel
theorem d_X_skip_15 : decode b_X_skip 15 = .ok (.ifCond .eq 13, 3) := by decide +kernel
theorem d_X_skip_18 : decode b_X_skip 18 = .ok (.aload_n 0, 1) := by decide +kernel
theorem d_X_skip_19 : decode b_X_skip 19 = .ok (.dup, 1) := by decide +kernel
theorem d_X_skip_20 : decode b_X_skip 20 = .ok (.getfield 29, 3) := by decide +kernel
theorem d_X_skip_23 : decode b_X_skip 23 = .ok (.iconst 1, 1) := by decide +kernel
theorem d_X_skip_24 : decode b_X_skip 24 = .ok (.iadd, 1) := by decide +kernel
theorem d_X_skip_25 : decode b_X_skip 25 = .ok (.putfield 29, 3) := by decide +kernel
theorem d_X_skip_28 : decode b_X_skip 28 = .ok (.iload_n 2, 1) := by decide +kernel
theorem d_X_skip_29 : decode b_X_skip 29 = .ok (.ireturn, 1) := by decide +kernel
theorem d_X_isLetter_0 : decode b_X_isLetter 0 = .ok (.iload_n 0, 1) := by decide +kernel
theorem d_X_isLetter_1 : decode b_X_isLetter 1 = .ok (.bipush 119, 2) := by decide +kernel
theorem d_X_isLetter_3 : decode b_X_isLetter 3 = .ok (.if_icmp .eq 27, 3) := by decide +kernel
theorem d_X_isLetter_6 : decode b_X_isLetter 6 = .ok (.iload_n 0, 1) := by decide +kernel
theorem d_X_isLetter_7 : decode b_X_isLetter 7 = .ok (.bipush 115, 2) := by decide +kernel
theorem d_X_isLetter_9 : decode b_X_isLetter 9 = .ok (.if_icmp .eq 21, 3) := by decide +kernel
theorem d_X_isLetter_12 : decode b_X_isLetter 12 = .ok (.iload_n 0, 1) := by decide +kernel
theorem d_X_isLetter_13 : decode b_X_isLetter 13 = .ok (.bipush 112, 2) := by decide +kernel
theorem d_X_isLetter_15 : decode b_X_isLetter 15 = .ok (.if_icmp .eq 15, 3) := by decide +kernel
theorem d_X_isLetter_18 : decode b_X_isLetter 18 = .ok (.iload_n 0, 1) := by decide +kernel
theorem d_X_isLetter_19 : decode b_X_isLetter 19 = .ok (.bipush 116, 2) := by decide +kernel
theorem d_X_isLetter_21 : decode b_X_isLetter 21 = .ok (.if_icmp .eq 9, 3) := by decide +kernel
theorem d_X_isLetter_24 : decode b_X_isLetter 24 = .ok (.iload_n 0, 1) := by decide +kernel
theorem d_X_isLetter_25 : decode b_X_isLetter 25 = .ok (.bipush 120, 2) := by decide +kernel
theorem d_X_isLetter_27 : decode b_X_isLetter 27 = .ok (.if_icmp .ne 7, 3) := by decide +kernel
theorem d_X_isLetter_30 : decode b_X_isLetter 30 = .ok (.iconst 1, 1) := by decide +kernel
theorem d_X_isLetter_31 : decode b_X_isLetter 31 = .ok (.goto 4, 3) := by decide +kernel
theorem d_X_isLetter_34 : decode b_X_isLetter 34 = .ok (.iconst 0, 1) := by decide +kernel
theorem d_X_isLetter_35 : decode b_X_isLetter 35 = .ok (.ireturn, 1) := by decide +kernel
theorem d_X_isFigure_0 : decode b_X_isFigure 0 = .ok (.iload_n 0, 1) := by decide +kernel
theorem d_X_isFigure_1 : decode b_X_isFigure 1 = .ok (.bipush 48, 2) := by decide +kernel
theorem d_X_isFigure_3 : decode b_X_isFigure 3 = .ok (.if_icmp .lt 13, 3) := by decide +kernel
theorem d_X_isFigure_6 : decode b_X_isFigure 6 = .ok (.iload_n 0, 1) := by decide +kernel
theorem d_X_isFigure_7 : decode b_X_isFigure 7 = .ok (.bipush 57, 2) := by decide +kernel
theorem d_X_isFigure_9 : decode b_X_isFigure 9 = .ok (.if_icmp .gt 7, 3) := by decide +kernel
theorem d_X_isFigure_12 : decode b_X_isFigure 12 = .ok (.iconst 1, 1) := by decide +kernel
theorem d_X_isFigure_13 : decode b_X_isFigure 13 = .ok (.goto 4, 3) := by decide +kernel
theorem d_X_isFigure_16 : decode b_X_isFigure 16 = .ok (.iconst 0, 1) := by decide +kernel
theorem d_X_isFigure_17 : decode b_X_isFigure 17 = .ok (.ireturn, 1) := by decide +kernel
theorem d_P_init_0 : decode b_P_init 0 = .ok (.aload_n 0, 1) := by decide +kernel
theorem d_P_init_1 : decode b_P_init 1 = .ok (.invokespecial 5, 3) := by decide +kernel
theorem d_P_init_4 : decode b_P_init 4 = .ok (.aload_n 0, 1) := by decide +kernel
theorem d_P_init_5 : decode b_P_init 5 = .ok (.new 11, 3) := by decide +kernel
theorem d_P_init_8 : decode b_P_init 8 = .ok (.dup, 1) := by decide +kernel
theorem d_P_init_9 : decode b_P_init 9 = .ok (.invokespecial 13, 3) := by decide +kernel
theorem d_P_init_12 : decode b_P_init 12 = .ok (.putfield 14, 3) := by decide +kernel
theorem d_P_init_15 : decode b_P_init 15 = .ok (.aload_n 0, 1) := by decide +kernel
theorem d_P_init_16 : decode b_P_init 16 = .ok (.new 11, 3) := by decide +kernel
theorem d_P_init_19 : decode b_P_init 19 = .ok (.dup, 1) := by decide +kernel
theorem d_P_init_20 : decode b_P_init 20 = .ok (.invokespecial 13, 3) := by decide +kernel
theorem d_P_init_23 : decode b_P_init 23 = .ok (.putfield 18, 3) := by decide +kernel
theorem d_P_init_26 : decode b_P_init 26 = .ok (.aload_n 0, 1) := by decide +kernel
theorem d_P_init_27 : decode b_P_init 27 = .ok (.new 11, 3) := by decide +kernel
theorem d_P_init_30 : decode b_P_init 30 = .ok (.dup, 1) := by decide +kernel
theorem d_P_init_31 : decode b_P_init 31 = .ok (.invokespecial 13, 3) := by decide +kernel
theorem d_P_init_34 : decode b_P_init 34 = .ok (.putfield 21, 3) := by decide +kernel
theorem d_P_init_37 : decode b_P_init 37 = .ok (.aload_n 0, 1) := by decide +kernel
theorem d_P_init_38 : decode b_P_init 38 = .ok (.iconst 0, 1) := by decide +kernel
theorem d_P_init_39 : decode b_P_init 39 = .ok (.putfield 24, 3) := by decide +kernel
theorem d_P_init_42 : decode b_P_init 42 = .ok (.aload_n 0, 1) := by decide +kernel
theorem d_P_init_43 : decode b_P_init 43 = .ok (.new 28, 3) := by decide +kernel
theorem d_P_init_46 : decode b_P_init 46 = .ok (.dup, 1) := by decide +kernel
theorem d_P_init_47 : decode b_P_init 47 = .ok (.invokespecial 30, 3) := by decide +kernel
theorem d_P_init_50 : decode b_P_init 50 = .ok (.putfield 31, 3) := by decide +kernel
theorem d_P_init_53 : decode b_P_init 53 = .ok (.aload_n 0, 1) := by decide +kernel
theorem d_P_init_54 : decode b_P_init 54 = .ok (.iconst 3, 1) := by decide +kernel
theorem d_P_init_55 : decode b_P_init 55 = .ok (.anewarray 35, 3) := by decide +kernel
theorem d_P_init_58 : decode b_P_init 58 = .ok (.dup, 1) := by decide +kernel
theorem d_P_init_59 : decode b_P_init 59 = .ok (.iconst 0, 1) := by decide +kernel
theorem d_P_init_60 : decode b_P_init 60 = .ok (.new 35, 3) := by decide +kernel
theorem d_P_init_63 : decode b_P_init 63 = .ok (.dup, 1) := by decide +kernel
theorem d_P_init_64 : decode b_P_init 64 = .ok (.invokespecial 37, 3) := by decide +kernel
theorem d_P_init_67 : decode b_P_init 67 = .ok (.aastore, 1) := by decide +kernel
theorem d_P_init_68 : decode b_P_init 68 = .ok (.dup, 1) := by decide +kernel
theorem d_P_init_69 : decode b_P_init 69 = .ok (.iconst 1, 1) := by decide +kernel
theorem d_P_init_70 : decode b_P_init 70 = .ok (.new 35, 3) := by decide +kernel
theorem d_P_init_73 : decode b_P_init 73 = .ok (.dup, 1) := by decide +kernel
theorem d_P_init_74 : decode b_P_init 74 = .ok (.invokespecial 37, 3) := by decide +kernel
theorem d_P_init_77 : decode b_P_init 77 = .ok (.aastore, 1) := by decide +kernel
theorem d_P_init_78 : decode b_P_init 78 = .ok (.dup, 1) := by decide +kernel
theorem d_P_init_79 : decode b_P_init 79 = .ok (.iconst 2, 1) := by decide +kernel
theorem d_P_init_80 : decode b_P_init 80 = .ok (.new 35, 3) := by decide +kernel
theorem d_P_init_83 : decode b_P_init 83 = .ok (.dup, 1) := by decide +kernel
theorem d_P_init_84 : decode b_P_init 84 = .ok (.invokespecial 37, 3) := by decide +kernel
theorem d_P_init_87 : decode b_P_init 87 = .ok (.aastore, 1) := by decide +kernel
theorem d_P_init_88 : decode b_P_init 88 = .ok (.putfield 38, 3) := by decide +kernel
theorem d_P_init_91 : decode b_P_init 91 = .ok (.aload_n 0, 1) := by decide +kernel
theorem d_P_init_92 : decode b_P_init 92 = .ok (.new 42, 3) := by decide +kernel
theorem d_P_init_95 : decode b_P_init 95 = .ok (.dup, 1) := by decide +kernel
theorem d_P_init_96 : decode b_P_init 96 = .ok (.invokespecial 44, 3) := by decide +kernel
theorem d_P_init_99 : decode b_P_init 99 = .ok (.putfield 45, 3) := by decide +kernel
theorem d_P_init_102 : decode b_P_init 102 = .ok (.return_, 1) := by decide +kernel
theorem d_P_wheel_0 : decode b_P_wheel 0 = .ok (.aload_n 0, 1) := by decide +kernel
theorem d_P_wheel_1 : decode b_P_wheel 1 = .ok (.getfield 14, 3) := by decide +kernel
theorem d_P_wheel_4 : decode b_P_wheel 4 = .ok (.iload_n 1, 1) := by decide +kernel
theorem d_P_wheel_5 : decode b_P_wheel 5 = .ok (.invokevirtual 49, 3) := by decide +kernel
theorem d_P_wheel_8 : decode b_P_wheel 8 = .ok (.ireturn, 1) := by decide +kernel
theorem d_P_shift_0 : decode b_P_shift 0 = .ok (.aload_n 0, 1) := by decide +kernel
theorem d_P_shift_1 : decode b_P_shift 1 = .ok (.getfield 14, 3) := by decide +kernel
theorem d_P_shift_4 : decode b_P_shift 4 = .ok (.iload_n 1, 1) := by decide +kernel
theorem d_P_shift_5 : decode b_P_shift 5 = .ok (.iload_n 2, 1) := by decide +kernel
theorem d_P_shift_6 : decode b_P_shift 6 = .ok (.invokevirtual 53, 3) := by decide +kernel
theorem d_P_shift_9 : decode b_P_shift 9 = .ok (.ireturn, 1) := by decide +kernel
theorem d_P_pressure_0 : decode b_P_pressure 0 = .ok (.aload_n 0, 1) := by decide +kernel
theorem d_P_pressure_1 : decode b_P_pressure 1 = .ok (.getfield 14, 3) := by decide +kernel
theorem d_P_pressure_4 : decode b_P_pressure 4 = .ok (.iload_n 1, 1) := by decide +kernel
theorem d_P_pressure_5 : decode b_P_pressure 5 = .ok (.invokevirtual 57, 3) := by decide +kernel
theorem d_P_pressure_8 : decode b_P_pressure 8 = .ok (.ireturn, 1) := by decide +kernel
theorem d_P_of_0 : decode b_P_of 0 = .ok (.aload_n 0, 1) := by decide +kernel
theorem d_P_of_1 : decode b_P_of 1 = .ok (.getfield 14, 3) := by decide +kernel
theorem d_P_of_4 : decode b_P_of 4 = .ok (.iload_n 1, 1) := by decide +kernel
theorem d_P_of_5 : decode b_P_of 5 = .ok (.invokevirtual 60, 3) := by decide +kernel
theorem d_P_of_8 : decode b_P_of 8 = .ok (.ifCond .eq 15, 3) := by decide +kernel
theorem d_P_of_11 : decode b_P_of 11 = .ok (.aload_n 0, 1) := by decide +kernel
theorem d_P_of_12 : decode b_P_of 12 = .ok (.getfield 14, 3) := by decide +kernel
theorem d_P_of_15 : decode b_P_of 15 = .ok (.iload_n 1, 1) := by decide +kernel
theorem d_P_of_16 : decode b_P_of 16 = .ok (.iload_n 2, 1) := by decide +kernel
theorem d_P_of_17 : decode b_P_of 17 = .ok (.invokevirtual 64, 3) := by decide +kernel
theorem d_P_of_20 : decode b_P_of 20 = .ok (.goto 6, 3) := by decide +kernel
theorem d_P_of_23 : decode b_P_of 23 = .ok (.sipush (-1000), 3) := by decide +kernel
theorem d_P_of_26 : decode b_P_of 26 = .ok (.ireturn, 1) := by decide +kernel
theorem d_P_fewest_0 : decode b_P_fewest 0 = .ok (.iload_n 1, 1) := by decide +kernel
theorem d_P_fewest_1 : decode b_P_fewest 1 = .ok (.invokestatic 67, 3) := by decide +kernel
theorem d_P_fewest_4 : decode b_P_fewest 4 = .ok (.ifCond .eq 14, 3) := by decide +kernel
theorem d_P_fewest_7 : decode b_P_fewest 7 = .ok (.aload_n 0, 1) := by decide +kernel
theorem d_P_fewest_8 : decode b_P_fewest 8 = .ok (.getfield 14, 3) := by decide +kernel
theorem d_P_fewest_11 : decode b_P_fewest 11 = .ok (.iload_n 1, 1) := by decide +kernel
theorem d_P_fewest_12 : decode b_P_fewest 12 = .ok (.invokevirtual 70, 3) := by decide +kernel
theorem d_P_fewest_15 : decode b_P_fewest 15 = .ok (.goto 4, 3) := by decide +kernel
theorem d_P_fewest_18 : decode b_P_fewest 18 = .ok (.iconst (-1), 1) := by decide +kernel
theorem d_P_fewest_19 : decode b_P_fewest 19 = .ok (.ireturn, 1) := by decide +kernel
theorem d_P_distance_0 : decode b_P_distance 0 = .ok (.iload_n 3, 1) := by decide +kernel
theorem d_P_distance_1 : decode b_P_distance 1 = .ok (.invokestatic 73, 3) := by decide +kernel
theorem d_P_distance_4 : decode b_P_distance 4 = .ok (.ifCond .eq 15, 3) := by decide +kernel
theorem d_P_distance_7 : decode b_P_distance 7 = .ok (.aload_n 0, 1) := by decide +kernel
theorem d_P_distance_8 : decode b_P_distance 8 = .ok (.getfield 14, 3) := by decide +kernel
theorem d_P_distance_11 : decode b_P_distance 11 = .ok (.iload_n 1, 1) := by decide +kernel
theorem d_P_distance_12 : decode b_P_distance 12 = .ok (.iload_n 2, 1) := by decide +kernel
theorem d_P_distance_13 : decode b_P_distance 13 = .ok (.invokevirtual 76, 3) := by decide +kernel
theorem d_P_distance_16 : decode b_P_distance 16 = .ok (.ifCond .ne 7, 3) := by decide +kernel
theorem d_P_distance_19 : decode b_P_distance 19 = .ok (.ldc2_w 80, 3) := by decide +kernel
theorem d_P_distance_22 : decode b_P_distance 22 = .ok (.lreturn, 1) := by decide +kernel
theorem d_P_distance_23 : decode b_P_distance 23 = .ok (.aload_n 0, 1) := by decide +kernel
theorem d_P_distance_24 : decode b_P_distance 24 = .ok (.getfield 14, 3) := by decide +kernel
theorem d_P_distance_27 : decode b_P_distance 27 = .ok (.iload_n 1, 1) := by decide +kernel
theorem d_P_distance_28 : decode b_P_distance 28 = .ok (.iload_n 2, 1) := by decide +kernel
theorem d_P_distance_29 : decode b_P_distance 29 = .ok (.invokevirtual 82, 3) := by decide +kernel
theorem d_P_distance_32 : decode b_P_distance 32 = .ok (.ifCond .eq 9, 3) := by decide +kernel
theorem d_P_distance_35 : decode b_P_distance 35 = .ok (.ldc2_w 85, 3) := by decide +kernel
theorem d_P_distance_38 : decode b_P_distance 38 = .ok (.goto 20, 3) := by decide +kernel
theorem d_P_distance_41 : decode b_P_distance 41 = .ok (.aload_n 0, 1) := by decide +kernel
theorem d_P_distance_42 : decode b_P_distance 42 = .ok (.getfield 14, 3) := by decide +kernel
theorem d_P_distance_45 : decode b_P_distance 45 = .ok (.iload_n 1, 1) := by decide +kernel
theorem d_P_distance_46 : decode b_P_distance 46 = .ok (.iload_n 2, 1) := by decide +kernel
theorem d_P_distance_47 : decode b_P_distance 47 = .ok (.invokevirtual 87, 3) := by decide +kernel
theorem d_P_distance_50 : decode b_P_distance 50 = .ok (.i2l, 1) := by decide +kernel
theorem d_P_distance_51 : decode b_P_distance 51 = .ok (.ldc2_w 90, 3) := by decide +kernel
theorem d_P_distance_54 : decode b_P_distance 54 = .ok (.iload_n 3, 1) := by decide +kernel
theorem d_P_distance_55 : decode b_P_distance 55 = .ok (.invokestatic 92, 3) := by decide +kernel
theorem d_P_distance_58 : decode b_P_distance 58 = .ok (.lreturn, 1) := by decide +kernel
theorem d_P_ratio_0 : decode b_P_ratio 0 = .ok (.iload_n 3, 1) := by decide +kernel
theorem d_P_ratio_1 : decode b_P_ratio 1 = .ok (.invokestatic 73, 3) := by decide +kernel
theorem d_P_ratio_4 : decode b_P_ratio 4 = .ok (.ifCond .eq 15, 3) := by decide +kernel
theorem d_P_ratio_7 : decode b_P_ratio 7 = .ok (.aload_n 0, 1) := by decide +kernel
theorem d_P_ratio_8 : decode b_P_ratio 8 = .ok (.getfield 14, 3) := by decide +kernel
theorem d_P_ratio_11 : decode b_P_ratio 11 = .ok (.iload_n 1, 1) := by decide +kernel
theorem d_P_ratio_12 : decode b_P_ratio 12 = .ok (.iload_n 2, 1) := by decide +kernel
theorem d_P_ratio_13 : decode b_P_ratio 13 = .ok (.invokevirtual 76, 3) := by decide +kernel
theorem d_P_ratio_16 : decode b_P_ratio 16 = .ok (.ifCond .ne 7, 3) := by decide +kernel
theorem d_P_ratio_19 : decode b_P_ratio 19 = .ok (.ldc2_w 80, 3) := by decide +kernel
theorem d_P_ratio_22 : decode b_P_ratio 22 = .ok (.lreturn, 1) := by decide +kernel
theorem d_P_ratio_23 : decode b_P_ratio 23 = .ok (.aload_n 0, 1) := by decide +kernel
theorem d_P_ratio_24 : decode b_P_ratio 24 = .ok (.getfield 14, 3) := by decide +kernel
theorem d_P_ratio_27 : decode b_P_ratio 27 = .ok (.iload_n 1, 1) := by decide +kernel
theorem d_P_ratio_28 : decode b_P_ratio 28 = .ok (.iload_n 2, 1) := by decide +kernel
theorem d_P_ratio_29 : decode b_P_ratio 29 = .ok (.invokevirtual 82, 3) := by decide +kernel
theorem d_P_ratio_32 : decode b_P_ratio 32 = .ok (.ifCond .eq 9, 3) := by decide +kernel
theorem d_P_ratio_35 : decode b_P_ratio 35 = .ok (.ldc2_w 85, 3) := by decide +kernel
theorem d_P_ratio_38 : decode b_P_ratio 38 = .ok (.goto 25, 3) := by decide +kernel
theorem d_P_ratio_41 : decode b_P_ratio 41 = .ok (.aload_n 0, 1) := by decide +kernel
theorem d_P_ratio_42 : decode b_P_ratio 42 = .ok (.getfield 14, 3) := by decide +kernel
theorem d_P_ratio_45 : decode b_P_ratio 45 = .ok (.iload_n 1, 1) := by decide +kernel
theorem d_P_ratio_46 : decode b_P_ratio 46 = .ok (.iload_n 2, 1) := by decide +kernel
theorem d_P_ratio_47 : decode b_P_ratio 47 = .ok (.invokevirtual 96, 3) := by decide +kernel
theorem d_P_ratio_50 : decode b_P_ratio 50 = .ok (.aload_n 0, 1) := by decide +kernel
theorem d_P_ratio_51 : decode b_P_ratio 51 = .ok (.getfield 14, 3) := by decide +kernel
theorem d_P_ratio_54 : decode b_P_ratio 54 = .ok (.iload_n 1, 1) := by decide +kernel
theorem d_P_ratio_55 : decode b_P_ratio 55 = .ok (.iload_n 2, 1) := by decide +kernel
theorem d_P_ratio_56 : decode b_P_ratio 56 = .ok (.invokevirtual 100, 3) := by decide +kernel
theorem d_P_ratio_59 : decode b_P_ratio 59 = .ok (.iload_n 3, 1) := by decide +kernel
theorem d_P_ratio_60 : decode b_P_ratio 60 = .ok (.invokestatic 92, 3) := by decide +kernel
theorem d_P_ratio_63 : decode b_P_ratio 63 = .ok (.lreturn, 1) := by decide +kernel
theorem d_P_contact_0 : decode b_P_contact 0 = .ok (.iload_n 3, 1) := by decide +kernel
theorem d_P_contact_1 : decode b_P_contact 1 = .ok (.ifCond .lt 32, 3) := by decide +kernel
theorem d_P_contact_4 : decode b_P_contact 4 = .ok (.iload_n 3, 1) := by decide +kernel
theorem d_P_contact_5 : decode b_P_contact 5 = .ok (.iconst 1, 1) := by decide +kernel
theorem d_P_contact_6 : decode b_P_contact 6 = .ok (.if_icmp .gt 27, 3) := by decide +kernel
theorem d_P_contact_9 : decode b_P_contact 9 = .ok (.aload_n 0, 1) := by decide +kernel
theorem d_P_contact_10 : decode b_P_contact 10 = .ok (.getfield 14, 3) := by decide +kernel
theorem d_P_contact_13 : decode b_P_contact 13 = .ok (.iload_n 1, 1) := by decide +kernel
theorem d_P_contact_14 : decode b_P_contact 14 = .ok (.iload_n 2, 1) := by decide +kernel
theorem d_P_contact_15 : decode b_P_contact 15 = .ok (.invokevirtual 76, 3) := by decide +kernel
theorem d_P_contact_18 : decode b_P_contact 18 = .ok (.ifCond .eq 15, 3) := by decide +kernel
theorem d_P_contact_21 : decode b_P_contact 21 = .ok (.aload_n 0, 1) := by decide +kernel
theorem d_P_contact_22 : decode b_P_contact 22 = .ok (.getfield 14, 3) := by decide +kernel
theorem d_P_contact_25 : decode b_P_contact 25 = .ok (.iload_n 1, 1) := by decide +kernel
theorem d_P_contact_26 : decode b_P_contact 26 = .ok (.iload_n 2, 1) := by decide +kernel
theorem d_P_contact_27 : decode b_P_contact 27 = .ok (.invokevirtual 103, 3) := by decide +kernel
theorem d_P_contact_30 : decode b_P_contact 30 = .ok (.ifCond .eq 7, 3) := by decide +kernel
theorem d_P_contact_33 : decode b_P_contact 33 = .ok (.ldc2_w 80, 3) := by decide +kernel
theorem d_P_contact_36 : decode b_P_contact 36 = .ok (.lreturn, 1) := by decide +kernel
theorem d_P_contact_37 : decode b_P_contact 37 = .ok (.iload_n 3, 1) := by decide +kernel
theorem d_P_contact_38 : decode b_P_contact 38 = .ok (.ifCond .ne 15, 3) := by decide +kernel
theorem d_P_contact_41 : decode b_P_contact 41 = .ok (.aload_n 0, 1) := by decide +kernel
theorem d_P_contact_42 : decode b_P_contact 42 = .ok (.getfield 14, 3) := by decide +kernel
theorem d_P_contact_45 : decode b_P_contact 45 = .ok (.iload_n 1, 1) := by decide +kernel
theorem d_P_contact_46 : decode b_P_contact 46 = .ok (.iload_n 2, 1) := by decide +kernel
theorem d_P_contact_47 : decode b_P_contact 47 = .ok (.invokevirtual 106, 3) := by decide +kernel
theorem d_P_contact_50 : decode b_P_contact 50 = .ok (.goto 12, 3) := by decide +kernel
theorem d_P_contact_53 : decode b_P_contact 53 = .ok (.aload_n 0, 1) := by decide +kernel
theorem d_P_contact_54 : decode b_P_contact 54 = .ok (.getfield 14, 3) := by decide +kernel
theorem d_P_contact_57 : decode b_P_contact 57 = .ok (.iload_n 1, 1) := by decide +kernel
theorem d_P_contact_58 : decode b_P_contact 58 = .ok (.iload_n 2, 1) := by decide +kernel
theorem d_P_contact_59 : decode b_P_contact 59 = .ok (.invokevirtual 109, 3) := by decide +kernel
theorem d_P_contact_62 : decode b_P_contact 62 = .ok (.lreturn, 1) := by decide +kernel
theorem d_P_shiftFor_0 : decode b_P_shiftFor 0 = .ok (.aload_n 0, 1) := by decide +kernel
theorem d_P_shiftFor_1 : decode b_P_shiftFor 1 = .ok (.getfield 14, 3) := by decide +kernel
theorem d_P_shiftFor_4 : decode b_P_shiftFor 4 = .ok (.iload_n 1, 1) := by decide +kernel
theorem d_P_shiftFor_5 : decode b_P_shiftFor 5 = .ok (.iload_n 2, 1) := by decide +kernel
theorem d_P_shiftFor_6 : decode b_P_shiftFor 6 = .ok (.invokevirtual 76, 3) := by decide +kernel
theorem d_P_shiftFor_9 : decode b_P_shiftFor 9 = .ok (.ifCond .eq 29, 3) := by decide +kernel
theorem d_P_shiftFor_12 : decode b_P_shiftFor 12 = .ok (.iload_n 3, 1) := by decide +kernel
theorem d_P_shiftFor_13 : decode b_P_shiftFor 13 = .ok (.iconst 1, 1) := by decide +kernel
theorem d_P_shiftFor_14 : decode b_P_shiftFor 14 = .ok (.if_icmp .lt 24, 3) := by decide +kernel
theorem d_P_shiftFor_17 : decode b_P_shiftFor 17 = .ok (.iload_n 3, 1) := by decide +kernel
theorem d_P_shiftFor_18 : decode b_P_shiftFor 18 = .ok (.sipush 9999, 3) := by decide +kernel
theorem d_P_shiftFor_21 : decode b_P_shiftFor 21 = .ok (.if_icmp .gt 17, 3) := by decide +kernel
theorem d_P_shiftFor_24 : decode b_P_shiftFor 24 = .ok (.iload 4, 2) := by decide +kernel
theorem d_P_shiftFor_26 : decode b_P_shiftFor 26 = .ok (.iconst 1, 1) := by decide +kernel
theorem d_P_shiftFor_27 : decode b_P_shiftFor 27 = .ok (.if_icmp .lt 11, 3) := by decide +kernel
theorem d_P_shiftFor_30 : decode b_P_shiftFor 30 = .ok (.iload 4, 2) := by decide +kernel
theorem d_P_shiftFor_32 : decode b_P_shiftFor 32 = .ok (.sipush 9999, 3) := by decide +kernel
theorem d_P_shiftFor_35 : decode b_P_shiftFor 35 = .ok (.if_icmp .le 7, 3) := by decide +kernel
theorem d_P_shiftFor_38 : decode b_P_shiftFor 38 = .ok (.sipush (-1000), 3) := by decide +kernel
theorem d_P_shiftFor_41 : decode b_P_shiftFor 41 = .ok (.ireturn, 1) := by decide +kernel
theorem d_P_shiftFor_42 : decode b_P_shiftFor 42 = .ok (.aload_n 0, 1) := by decide +kernel
theorem d_P_shiftFor_43 : decode b_P_shiftFor 43 = .ok (.getfield 14, 3) := by decide +kernel
theorem d_P_shiftFor_46 : decode b_P_shiftFor 46 = .ok (.iload_n 1, 1) := by decide +kernel
theorem d_P_shiftFor_47 : decode b_P_shiftFor 47 = .ok (.iload_n 2, 1) := by decide +kernel
theorem d_P_shiftFor_48 : decode b_P_shiftFor 48 = .ok (.invokevirtual 82, 3) := by decide +kernel
theorem d_P_shiftFor_51 : decode b_P_shiftFor 51 = .ok (.ifCond .eq 9, 3) := by decide +kernel
theorem d_P_shiftFor_54 : decode b_P_shiftFor 54 = .ok (.sipush (-1002), 3) := by decide +kernel
theorem d_P_shiftFor_57 : decode b_P_shiftFor 57 = .ok (.goto 15, 3) := by decide +kernel
theorem d_P_shiftFor_60 : decode b_P_shiftFor 60 = .ok (.aload_n 0, 1) := by decide +kernel
theorem d_P_shiftFor_61 : decode b_P_shiftFor 61 = .ok (.getfield 14, 3) := by decide +kernel
theorem d_P_shiftFor_64 : decode b_P_shiftFor 64 = .ok (.iload_n 1, 1) := by decide +kernel
theorem d_P_shiftFor_65 : decode b_P_shiftFor 65 = .ok (.iload_n 2, 1) := by decide +kernel
theorem d_P_shiftFor_66 : decode b_P_shiftFor 66 = .ok (.iload_n 3, 1) := by decide +kernel
theorem d_P_shiftFor_67 : decode b_P_shiftFor 67 = .ok (.iload 4, 2) := by decide +kernel
theorem d_P_shiftFor_69 : decode b_P_shiftFor 69 = .ok (.invokevirtual 112, 3) := by decide +kernel
theorem d_P_shiftFor_72 : decode b_P_shiftFor 72 = .ok (.ireturn, 1) := by decide +kernel
theorem d_P_wheels_0 : decode b_P_wheels 0 = .ok (.iload_n 1, 1) := by decide +kernel
theorem d_P_wheels_1 : decode b_P_wheels 1 = .ok (.ifCond .lt 8, 3) := by decide +kernel
theorem d_P_wheels_4 : decode b_P_wheels 4 = .ok (.iload_n 1, 1) := by decide +kernel
theorem d_P_wheels_5 : decode b_P_wheels 5 = .ok (.iconst 3, 1) := by decide +kernel
theorem d_P_wheels_6 : decode b_P_wheels 6 = .ok (.if_icmp .le 7, 3) := by decide +kernel
theorem d_P_wheels_9 : decode b_P_wheels 9 = .ok (.iconst (-1), 1) := by decide +kernel
theorem d_P_wheels_10 : decode b_P_wheels 10 = .ok (.goto 11, 3) := by decide +kernel
theorem d_P_wheels_13 : decode b_P_wheels 13 = .ok (.aload_n 0, 1) := by decide +kernel
theorem d_P_wheels_14 : decode b_P_wheels 14 = .ok (.getfield 14, 3) := by decide +kernel
theorem d_P_wheels_17 : decode b_P_wheels 17 = .ok (.iload_n 1, 1) := by decide +kernel
theorem d_P_wheels_18 : decode b_P_wheels 18 = .ok (.invokevirtual 116, 3) := by decide +kernel
theorem d_P_wheels_21 : decode b_P_wheels 21 = .ok (.ireturn, 1) := by decide +kernel
theorem d_P_pair_0 : decode b_P_pair 0 = .ok (.aload_n 0, 1) := by decide +kernel
theorem d_P_pair_1 : decode b_P_pair 1 = .ok (.getfield 14, 3) := by decide +kernel
theorem d_P_pair_4 : decode b_P_pair 4 = .ok (.iload_n 1, 1) := by decide +kernel
theorem d_P_pair_5 : decode b_P_pair 5 = .ok (.iload_n 2, 1) := by decide +kernel
theorem d_P_pair_6 : decode b_P_pair 6 = .ok (.invokevirtual 119, 3) := by decide +kernel
theorem d_P_pair_9 : decode b_P_pair 9 = .ok (.ireturn, 1) := by decide +kernel
theorem d_P_clear_0 : decode b_P_clear 0 = .ok (.aload_n 0, 1) := by decide +kernel
theorem d_P_clear_1 : decode b_P_clear 1 = .ok (.getfield 14, 3) := by decide +kernel
theorem d_P_clear_4 : decode b_P_clear 4 = .ok (.invokevirtual 122, 3) := by decide +kernel
theorem d_P_clear_7 : decode b_P_clear 7 = .ok (.ireturn, 1) := by decide +kernel
theorem d_P_train_0 : decode b_P_train 0 = .ok (.iload_n 1, 1) := by decide +kernel
theorem d_P_train_1 : decode b_P_train 1 = .ok (.invokestatic 73, 3) := by decide +kernel
theorem d_P_train_4 : decode b_P_train 4 = .ok (.ifCond .eq 13, 3) := by decide +kernel
theorem d_P_train_7 : decode b_P_train 7 = .ok (.aload_n 0, 1) := by decide +kernel
theorem d_P_train_8 : decode b_P_train 8 = .ok (.getfield 14, 3) := by decide +kernel
theorem d_P_train_11 : decode b_P_train 11 = .ok (.invokevirtual 126, 3) := by decide +kernel
theorem d_P_train_14 : decode b_P_train 14 = .ok (.ifCond .ne 7, 3) := by decide +kernel
theorem d_P_train_17 : decode b_P_train 17 = .ok (.ldc2_w 80, 3) := by decide +kernel
theorem d_P_train_20 : decode b_P_train 20 = .ok (.lreturn, 1) := by decide +kernel
theorem d_P_train_21 : decode b_P_train 21 = .ok (.aload_n 0, 1) := by decide +kernel
theorem d_P_train_22 : decode b_P_train 22 = .ok (.getfield 14, 3) := by decide +kernel
theorem d_P_train_25 : decode b_P_train 25 = .ok (.invokevirtual 129, 3) := by decide +kernel
theorem d_P_train_28 : decode b_P_train 28 = .ok (.ifCond .lt 9, 3) := by decide +kernel
theorem d_P_train_31 : decode b_P_train 31 = .ok (.ldc2_w 85, 3) := by decide +kernel
theorem d_P_train_34 : decode b_P_train 34 = .ok (.goto 11, 3) := by decide +kernel
theorem d_P_train_37 : decode b_P_train 37 = .ok (.aload_n 0, 1) := by decide +kernel
theorem d_P_train_38 : decode b_P_train 38 = .ok (.getfield 14, 3) := by decide +kernel
theorem d_P_train_41 : decode b_P_train 41 = .ok (.iload_n 1, 1) := by decide +kernel
theorem d_P_train_42 : decode b_P_train 42 = .ok (.invokevirtual 132, 3) := by decide +kernel
theorem d_P_train_45 : decode b_P_train 45 = .ok (.lreturn, 1) := by decide +kernel
theorem d_P_faulty_0 : decode b_P_faulty 0 = .ok (.aload_n 0, 1) := by decide +kernel
theorem d_P_faulty_1 : decode b_P_faulty 1 = .ok (.getfield 14, 3) := by decide +kernel
theorem d_P_faulty_4 : decode b_P_faulty 4 = .ok (.invokevirtual 129, 3) := by decide +kernel
theorem d_P_faulty_7 : decode b_P_faulty 7 = .ok (.ireturn, 1) := by decide +kernel
theorem d_P_closest_0 : decode b_P_closest 0 = .ok (.iload_n 1, 1) := by decide +kernel
theorem d_P_closest_1 : decode b_P_closest 1 = .ok (.ifCond .lt 18, 3) := by decide +kernel
theorem d_P_closest_4 : decode b_P_closest 4 = .ok (.iload_n 1, 1) := by decide +kernel
theorem d_P_closest_5 : decode b_P_closest 5 = .ok (.iconst 2, 1) := by decide +kernel
theorem d_P_closest_6 : decode b_P_closest 6 = .ok (.if_icmp .gt 13, 3) := by decide +kernel
theorem d_P_closest_9 : decode b_P_closest 9 = .ok (.aload_n 0, 1) := by decide +kernel
theorem d_P_closest_10 : decode b_P_closest 10 = .ok (.getfield 14, 3) := by decide +kernel
theorem d_P_closest_13 : decode b_P_closest 13 = .ok (.invokevirtual 126, 3) := by decide +kernel
theorem d_P_closest_16 : decode b_P_closest 16 = .ok (.ifCond .ne 7, 3) := by decide +kernel
theorem d_P_closest_19 : decode b_P_closest 19 = .ok (.ldc2_w 80, 3) := by decide +kernel
theorem d_P_closest_22 : decode b_P_closest 22 = .ok (.lreturn, 1) := by decide +kernel
theorem d_P_closest_23 : decode b_P_closest 23 = .ok (.aload_n 0, 1) := by decide +kernel
theorem d_P_closest_24 : decode b_P_closest 24 = .ok (.getfield 14, 3) := by decide +kernel
theorem d_P_closest_27 : decode b_P_closest 27 = .ok (.invokevirtual 129, 3) := by decide +kernel
theorem d_P_closest_30 : decode b_P_closest 30 = .ok (.ifCond .lt 7, 3) := by decide +kernel
theorem d_P_closest_33 : decode b_P_closest 33 = .ok (.ldc2_w 85, 3) := by decide +kernel
theorem d_P_closest_36 : decode b_P_closest 36 = .ok (.lreturn, 1) := by decide +kernel
theorem d_P_closest_37 : decode b_P_closest 37 = .ok (.aload_n 0, 1) := by decide +kernel
theorem d_P_closest_38 : decode b_P_closest 38 = .ok (.getfield 14, 3) := by decide +kernel
theorem d_P_closest_41 : decode b_P_closest 41 = .ok (.invokevirtual 136, 3) := by decide +kernel
theorem d_P_closest_44 : decode b_P_closest 44 = .ok (.istore_n 2, 1) := by decide +kernel
theorem d_P_closest_45 : decode b_P_closest 45 = .ok (.iload_n 1, 1) := by decide +kernel
theorem d_P_closest_46 : decode b_P_closest 46 = .ok (.ifCond .ne 8, 3) := by decide +kernel
theorem d_P_closest_49 : decode b_P_closest 49 = .ok (.iload_n 2, 1) := by decide +kernel
theorem d_P_closest_50 : decode b_P_closest 50 = .ok (.i2l, 1) := by decide +kernel
theorem d_P_closest_51 : decode b_P_closest 51 = .ok (.goto 21, 3) := by decide +kernel
theorem d_P_closest_54 : decode b_P_closest 54 = .ok (.aload_n 0, 1) := by decide +kernel
theorem d_P_closest_55 : decode b_P_closest 55 = .ok (.getfield 14, 3) := by decide +kernel
theorem d_P_closest_58 : decode b_P_closest 58 = .ok (.iload_n 2, 1) := by decide +kernel
theorem d_P_closest_59 : decode b_P_closest 59 = .ok (.invokevirtual 139, 3) := by decide +kernel
theorem d_P_closest_62 : decode b_P_closest 62 = .ok (.i2l, 1) := by decide +kernel
theorem d_P_closest_63 : decode b_P_closest 63 = .ok (.ldc2_w 90, 3) := by decide +kernel
theorem d_P_closest_66 : decode b_P_closest 66 = .ok (.iload_n 1, 1) := by decide +kernel
theorem d_P_closest_67 : decode b_P_closest 67 = .ok (.iconst 1, 1) := by decide +kernel
theorem d_P_closest_68 : decode b_P_closest 68 = .ok (.isub, 1) := by decide +kernel
theorem d_P_closest_69 : decode b_P_closest 69 = .ok (.invokestatic 92, 3) := by decide +kernel
theorem d_P_closest_72 : decode b_P_closest 72 = .ok (.lreturn, 1) := by decide +kernel
theorem d_P_together_0 : decode b_P_together 0 = .ok (.iload_n 1, 1) := by decide +kernel
theorem d_P_together_1 : decode b_P_together 1 = .ok (.invokestatic 142, 3) := by decide +kernel
theorem d_P_together_4 : decode b_P_together 4 = .ok (.ifCond .eq 21, 3) := by decide +kernel
theorem d_P_together_7 : decode b_P_together 7 = .ok (.iload_n 2, 1) := by decide +kernel
theorem d_P_together_8 : decode b_P_together 8 = .ok (.invokestatic 142, 3) := by decide +kernel
theorem d_P_together_11 : decode b_P_together 11 = .ok (.ifCond .eq 14, 3) := by decide +kernel
theorem d_P_together_14 : decode b_P_together 14 = .ok (.iload_n 3, 1) := by decide +kernel
theorem d_P_together_15 : decode b_P_together 15 = .ok (.iconst 1, 1) := by decide +kernel
theorem d_P_together_16 : decode b_P_together 16 = .ok (.if_icmp .lt 9, 3) := by decide +kernel
theorem d_P_together_19 : decode b_P_together 19 = .ok (.iload_n 3, 1) := by decide +kernel
theorem d_P_together_20 : decode b_P_together 20 = .ok (.bipush 8, 2) := by decide +kernel
theorem d_P_together_22 : decode b_P_together 22 = .ok (.if_icmp .le 7, 3) := by decide +kernel
theorem d_P_together_25 : decode b_P_together 25 = .ok (.sipush (-1000), 3) := by decide +kernel
theorem d_P_together_28 : decode b_P_together 28 = .ok (.ireturn, 1) := by decide +kernel
theorem d_P_together_29 : decode b_P_together 29 = .ok (.iload_n 1, 1) := by decide +kernel
theorem d_P_together_30 : decode b_P_together 30 = .ok (.iload_n 2, 1) := by decide +kernel
theorem d_P_together_31 : decode b_P_together 31 = .ok (.iload_n 3, 1) := by decide +kernel
theorem d_P_together_32 : decode b_P_together 32 = .ok (.invokestatic 145, 3) := by decide +kernel
theorem d_P_together_35 : decode b_P_together 35 = .ok (.istore 4, 2) := by decide +kernel
theorem d_P_together_37 : decode b_P_together 37 = .ok (.iload_n 1, 1) := by decide +kernel
theorem d_P_together_38 : decode b_P_together 38 = .ok (.iload_n 2, 1) := by decide +kernel
theorem d_P_together_39 : decode b_P_together 39 = .ok (.iload_n 3, 1) := by decide +kernel
theorem d_P_together_40 : decode b_P_together 40 = .ok (.invokestatic 151, 3) := by decide +kernel
theorem d_P_together_43 : decode b_P_together 43 = .ok (.istore 5, 2) := by decide +kernel
theorem d_P_together_45 : decode b_P_together 45 = .ok (.iload 4, 2) := by decide +kernel
theorem d_P_together_47 : decode b_P_together 47 = .ok (.ifCond .eq 15, 3) := by decide +kernel
theorem d_P_together_50 : decode b_P_together 50 = .ok (.iload 5, 2) := by decide +kernel
theorem d_P_together_52 : decode b_P_together 52 = .ok (.ifCond .eq 8, 3) := by decide +kernel
theorem d_P_together_55 : decode b_P_together 55 = .ok (.bipush (-2), 2) := by decide +kernel
theorem d_P_together_57 : decode b_P_together 57 = .ok (.goto 4, 3) := by decide +kernel
theorem d_P_together_60 : decode b_P_together 60 = .ok (.iconst 1, 1) := by decide +kernel
theorem d_P_together_61 : decode b_P_together 61 = .ok (.ireturn, 1) := by decide +kernel
theorem d_P_together_62 : decode b_P_together 62 = .ok (.iload 5, 2) := by decide +kernel
theorem d_P_together_64 : decode b_P_together 64 = .ok (.ifCond .eq 8, 3) := by decide +kernel
theorem d_P_together_67 : decode b_P_together 67 = .ok (.bipush (-3), 2) := by decide +kernel
theorem d_P_together_69 : decode b_P_together 69 = .ok (.goto 4, 3) := by decide +kernel
theorem d_P_together_72 : decode b_P_together 72 = .ok (.iconst (-1), 1) := by decide +kernel
theorem d_P_together_73 : decode b_P_together 73 = .ok (.ireturn, 1) := by decide +kernel
theorem d_P_most_0 : decode b_P_most 0 = .ok (.iload_n 1, 1) := by decide +kernel
theorem d_P_most_1 : decode b_P_most 1 = .ok (.invokestatic 142, 3) := by decide +kernel
theorem d_P_most_4 : decode b_P_most 4 = .ok (.ifCond .eq 18, 3) := by decide +kernel
theorem d_P_most_7 : decode b_P_most 7 = .ok (.iload_n 2, 1) := by decide +kernel
theorem d_P_most_8 : decode b_P_most 8 = .ok (.invokestatic 142, 3) := by decide +kernel
theorem d_P_most_11 : decode b_P_most 11 = .ok (.ifCond .eq 11, 3) := by decide +kernel
theorem d_P_most_14 : decode b_P_most 14 = .ok (.iload_n 1, 1) := by decide +kernel
theorem d_P_most_15 : decode b_P_most 15 = .ok (.iload_n 2, 1) := by decide +kernel
theorem d_P_most_16 : decode b_P_most 16 = .ok (.invokestatic 154, 3) := by decide +kernel
theorem d_P_most_19 : decode b_P_most 19 = .ok (.goto 4, 3) := by decide +kernel
theorem d_P_most_22 : decode b_P_most 22 = .ok (.iconst (-1), 1) := by decide +kernel
theorem d_P_most_23 : decode b_P_most 23 = .ok (.ireturn, 1) := by decide +kernel
theorem d_P_planets_0 : decode b_P_planets 0 = .ok (.iload_n 1, 1) := by decide +kernel
theorem d_P_planets_1 : decode b_P_planets 1 = .ok (.invokestatic 142, 3) := by decide +kernel
theorem d_P_planets_4 : decode b_P_planets 4 = .ok (.ifCond .eq 14, 3) := by decide +kernel
theorem d_P_planets_7 : decode b_P_planets 7 = .ok (.iload_n 2, 1) := by decide +kernel
theorem d_P_planets_8 : decode b_P_planets 8 = .ok (.invokestatic 142, 3) := by decide +kernel
theorem d_P_planets_11 : decode b_P_planets 11 = .ok (.ifCond .eq 7, 3) := by decide +kernel
theorem d_P_planets_14 : decode b_P_planets 14 = .ok (.iconst 1, 1) := by decide +kernel
theorem d_P_planets_15 : decode b_P_planets 15 = .ok (.goto 4, 3) := by decide +kernel
theorem d_P_planets_18 : decode b_P_planets 18 = .ok (.iconst 0, 1) := by decide +kernel
theorem d_P_planets_19 : decode b_P_planets 19 = .ok (.istore 6, 2) := by decide +kernel
theorem d_P_planets_21 : decode b_P_planets 21 = .ok (.iload_n 3, 1) := by decide +kernel
theorem d_P_planets_22 : decode b_P_planets 22 = .ok (.ifCond .lt 29, 3) := by decide +kernel
theorem d_P_planets_25 : decode b_P_planets 25 = .ok (.iload_n 3, 1) := by decide +kernel
theorem d_P_planets_26 : decode b_P_planets 26 = .ok (.iconst 2, 1) := by decide +kernel
theorem d_P_planets_27 : decode b_P_planets 27 = .ok (.if_icmp .gt 24, 3) := by decide +kernel
theorem d_P_planets_30 : decode b_P_planets 30 = .ok (.iload 4, 2) := by decide +kernel
theorem d_P_planets_32 : decode b_P_planets 32 = .ok (.ifCond .lt 19, 3) := by decide +kernel
theorem d_P_planets_35 : decode b_P_planets 35 = .ok (.iload 4, 2) := by decide +kernel
theorem d_P_planets_37 : decode b_P_planets 37 = .ok (.iconst 2, 1) := by decide +kernel
theorem d_P_planets_38 : decode b_P_planets 38 = .ok (.if_icmp .gt 13, 3) := by decide +kernel
theorem d_P_planets_41 : decode b_P_planets 41 = .ok (.iload_n 3, 1) := by decide +kernel
theorem d_P_planets_42 : decode b_P_planets 42 = .ok (.iload 4, 2) := by decide +kernel
theorem d_P_planets_44 : decode b_P_planets 44 = .ok (.if_icmp .eq 7, 3) := by decide +kernel
theorem d_P_planets_47 : decode b_P_planets 47 = .ok (.iconst 1, 1) := by decide +kernel
theorem d_P_planets_48 : decode b_P_planets 48 = .ok (.goto 4, 3) := by decide +kernel
theorem d_P_planets_51 : decode b_P_planets 51 = .ok (.iconst 0, 1) := by decide +kernel
theorem d_P_planets_52 : decode b_P_planets 52 = .ok (.istore 7, 2) := by decide +kernel
theorem d_P_planets_54 : decode b_P_planets 54 = .ok (.iload 6, 2) := by decide +kernel
theorem d_P_planets_56 : decode b_P_planets 56 = .ok (.ifCond .eq 29, 3) := by decide +kernel
theorem d_P_planets_59 : decode b_P_planets 59 = .ok (.iload 7, 2) := by decide +kernel
theorem d_P_planets_61 : decode b_P_planets 61 = .ok (.ifCond .eq 24, 3) := by decide +kernel
theorem d_P_planets_64 : decode b_P_planets 64 = .ok (.iload 5, 2) := by decide +kernel
theorem d_P_planets_66 : decode b_P_planets 66 = .ok (.invokestatic 73, 3) := by decide +kernel
theorem d_P_planets_69 : decode b_P_planets 69 = .ok (.ifCond .eq 16, 3) := by decide +kernel
theorem d_P_planets_72 : decode b_P_planets 72 = .ok (.iload_n 1, 1) := by decide +kernel
theorem d_P_planets_73 : decode b_P_planets 73 = .ok (.iload_n 2, 1) := by decide +kernel
theorem d_P_planets_74 : decode b_P_planets 74 = .ok (.iload_n 3, 1) := by decide +kernel
theorem d_P_planets_75 : decode b_P_planets 75 = .ok (.iload 4, 2) := by decide +kernel
theorem d_P_planets_77 : decode b_P_planets 77 = .ok (.iload 5, 2) := by decide +kernel
theorem d_P_planets_79 : decode b_P_planets 79 = .ok (.invokestatic 157, 3) := by decide +kernel
theorem d_P_planets_82 : decode b_P_planets 82 = .ok (.goto 6, 3) := by decide +kernel
theorem d_P_planets_85 : decode b_P_planets 85 = .ok (.ldc2_w 80, 3) := by decide +kernel
theorem d_P_planets_88 : decode b_P_planets 88 = .ok (.lreturn, 1) := by decide +kernel
theorem d_P_searched_0 : decode b_P_searched 0 = .ok (.iload_n 1, 1) := by decide +kernel
theorem d_P_searched_1 : decode b_P_searched 1 = .ok (.iload_n 2, 1) := by decide +kernel
theorem d_P_searched_2 : decode b_P_searched 2 = .ok (.iload_n 3, 1) := by decide +kernel
theorem d_P_searched_3 : decode b_P_searched 3 = .ok (.iload 4, 2) := by decide +kernel
theorem d_P_searched_5 : decode b_P_searched 5 = .ok (.invokestatic 161, 3) := by decide +kernel
theorem d_P_searched_8 : decode b_P_searched 8 = .ok (.ifCond .eq 14, 3) := by decide +kernel
theorem d_P_searched_11 : decode b_P_searched 11 = .ok (.iload 5, 2) := by decide +kernel
theorem d_P_searched_13 : decode b_P_searched 13 = .ok (.ifCond .lt 9, 3) := by decide +kernel
theorem d_P_searched_16 : decode b_P_searched 16 = .ok (.iload 5, 2) := by decide +kernel
theorem d_P_searched_18 : decode b_P_searched 18 = .ok (.iconst 3, 1) := by decide +kernel
theorem d_P_searched_19 : decode b_P_searched 19 = .ok (.if_icmp .le 5, 3) := by decide +kernel
theorem d_P_searched_22 : decode b_P_searched 22 = .ok (.iconst (-1), 1) := by decide +kernel
theorem d_P_searched_23 : decode b_P_searched 23 = .ok (.ireturn, 1) := by decide +kernel
theorem d_P_searched_24 : decode b_P_searched 24 = .ok (.aload_n 0, 1) := by decide +kernel
theorem d_P_searched_25 : decode b_P_searched 25 = .ok (.getfield 45, 3) := by decide +kernel
theorem d_P_searched_28 : decode b_P_searched 28 = .ok (.iload_n 1, 1) := by decide +kernel
theorem d_P_searched_29 : decode b_P_searched 29 = .ok (.iload_n 2, 1) := by decide +kernel
theorem d_P_searched_30 : decode b_P_searched 30 = .ok (.iload_n 3, 1) := by decide +kernel
theorem d_P_searched_31 : decode b_P_searched 31 = .ok (.iload 4, 2) := by decide +kernel
theorem d_P_searched_33 : decode b_P_searched 33 = .ok (.invokevirtual 165, 3) := by decide +kernel
theorem d_P_searched_36 : decode b_P_searched 36 = .ok (.aload_n 0, 1) := by decide +kernel
theorem d_P_searched_37 : decode b_P_searched 37 = .ok (.getfield 45, 3) := by decide +kernel
theorem d_P_searched_40 : decode b_P_searched 40 = .ok (.iload 5, 2) := by decide +kernel
theorem d_P_searched_42 : decode b_P_searched 42 = .ok (.invokevirtual 169, 3) := by decide +kernel
theorem d_P_searched_45 : decode b_P_searched 45 = .ok (.ireturn, 1) := by decide +kernel
theorem d_P_feed_0 : decode b_P_feed 0 = .ok (.aload_n 0, 1) := by decide +kernel
theorem d_P_feed_1 : decode b_P_feed 1 = .ok (.getfield 31, 3) := by decide +kernel
theorem d_P_feed_4 : decode b_P_feed 4 = .ok (.iload_n 1, 1) := by decide +kernel
theorem d_P_feed_5 : decode b_P_feed 5 = .ok (.invokevirtual 171, 3) := by decide +kernel
theorem d_P_feed_8 : decode b_P_feed 8 = .ok (.ireturn, 1) := by decide +kernel
theorem d_P_read_0 : decode b_P_read 0 = .ok (.aload_n 0, 1) := by decide +kernel
theorem d_P_read_1 : decode b_P_read 1 = .ok (.getfield 31, 3) := by decide +kernel
theorem d_P_read_4 : decode b_P_read 4 = .ok (.invokevirtual 174, 3) := by decide +kernel
theorem d_P_read_7 : decode b_P_read 7 = .ok (.istore_n 1, 1) := by decide +kernel
theorem d_P_read_8 : decode b_P_read 8 = .ok (.aload_n 0, 1) := by decide +kernel
theorem d_P_read_9 : decode b_P_read 9 = .ok (.getfield 31, 3) := by decide +kernel
theorem d_P_read_12 : decode b_P_read 12 = .ok (.invokevirtual 177, 3) := by decide +kernel
theorem d_P_read_15 : decode b_P_read 15 = .ok (.iload_n 1, 1) := by decide +kernel
theorem d_P_read_16 : decode b_P_read 16 = .ok (.ifCond .lt 10, 3) := by decide +kernel
theorem d_P_read_19 : decode b_P_read 19 = .ok (.bipush (-100), 2) := by decide +kernel
theorem d_P_read_21 : decode b_P_read 21 = .ok (.iload_n 1, 1) := by decide +kernel
theorem d_P_read_22 : decode b_P_read 22 = .ok (.isub, 1) := by decide +kernel
theorem d_P_read_23 : decode b_P_read 23 = .ok (.goto 7, 3) := by decide +kernel
theorem d_P_read_26 : decode b_P_read 26 = .ok (.aload_n 0, 1) := by decide +kernel
theorem d_P_read_27 : decode b_P_read 27 = .ok (.invokevirtual 180, 3) := by decide +kernel
theorem d_P_read_30 : decode b_P_read 30 = .ok (.ireturn, 1) := by decide +kernel
theorem d_P_doActs_0 : decode b_P_doActs 0 = .ok (.aload_n 0, 1) := by decide +kernel
theorem d_P_doActs_1 : decode b_P_doActs 1 = .ok (.getfield 21, 3) := by decide +kernel
theorem d_P_doActs_4 : decode b_P_doActs 4 = .ok (.aload_n 0, 1) := by decide +kernel
theorem d_P_doActs_5 : decode b_P_doActs 5 = .ok (.getfield 14, 3) := by decide +kernel
theorem d_P_doActs_8 : decode b_P_doActs 8 = .ok (.invokevirtual 183, 3) := by decide +kernel
theorem d_P_doActs_11 : decode b_P_doActs 11 = .ok (.iconst 0, 1) := by decide +kernel
theorem d_P_doActs_12 : decode b_P_doActs 12 = .ok (.istore_n 1, 1) := by decide +kernel
theorem d_P_doActs_13 : decode b_P_doActs 13 = .ok (.iload_n 1, 1) := by decide +kernel
theorem d_P_doActs_14 : decode b_P_doActs 14 = .ok (.aload_n 0, 1) := by decide +kernel
theorem d_P_doActs_15 : decode b_P_doActs 15 = .ok (.getfield 31, 3) := by decide +kernel
theorem d_P_doActs_18 : decode b_P_doActs 18 = .ok (.invokevirtual 187, 3) := by decide +kernel
theorem d_P_doActs_21 : decode b_P_doActs 21 = .ok (.if_icmp .ge 60, 3) := by decide +kernel
theorem d_P_doActs_24 : decode b_P_doActs 24 = .ok (.aload_n 0, 1) := by decide +kernel
theorem d_P_doActs_25 : decode b_P_doActs 25 = .ok (.getfield 14, 3) := by decide +kernel
theorem d_P_doActs_28 : decode b_P_doActs 28 = .ok (.aload_n 0, 1) := by decide +kernel
theorem d_P_doActs_29 : decode b_P_doActs 29 = .ok (.getfield 31, 3) := by decide +kernel
theorem d_P_doActs_32 : decode b_P_doActs 32 = .ok (.iload_n 1, 1) := by decide +kernel
theorem d_P_doActs_33 : decode b_P_doActs 33 = .ok (.invokevirtual 190, 3) := by decide +kernel
theorem d_P_doActs_36 : decode b_P_doActs 36 = .ok (.aload_n 0, 1) := by decide +kernel
theorem d_P_doActs_37 : decode b_P_doActs 37 = .ok (.getfield 31, 3) := by decide +kernel
theorem d_P_doActs_40 : decode b_P_doActs 40 = .ok (.iload_n 1, 1) := by decide +kernel
theorem d_P_doActs_41 : decode b_P_doActs 41 = .ok (.invokevirtual 193, 3) := by decide +kernel
theorem d_P_doActs_44 : decode b_P_doActs 44 = .ok (.aload_n 0, 1) := by decide +kernel
theorem d_P_doActs_45 : decode b_P_doActs 45 = .ok (.getfield 31, 3) := by decide +kernel
theorem d_P_doActs_48 : decode b_P_doActs 48 = .ok (.iload_n 1, 1) := by decide +kernel
theorem d_P_doActs_49 : decode b_P_doActs 49 = .ok (.invokevirtual 196, 3) := by decide +kernel
theorem d_P_doActs_52 : decode b_P_doActs 52 = .ok (.invokevirtual 199, 3) := by decide +kernel
theorem d_P_doActs_55 : decode b_P_doActs 55 = .ok (.ifCond .ne 20, 3) := by decide +kernel
theorem d_P_doActs_58 : decode b_P_doActs 58 = .ok (.aload_n 0, 1) := by decide +kernel
theorem d_P_doActs_59 : decode b_P_doActs 59 = .ok (.getfield 14, 3) := by decide +kernel
theorem d_P_doActs_62 : decode b_P_doActs 62 = .ok (.aload_n 0, 1) := by decide +kernel
theorem d_P_doActs_63 : decode b_P_doActs 63 = .ok (.getfield 21, 3) := by decide +kernel
theorem d_P_doActs_66 : decode b_P_doActs 66 = .ok (.invokevirtual 183, 3) := by decide +kernel
theorem d_P_doActs_69 : decode b_P_doActs 69 = .ok (.sipush (-200), 3) := by decide +kernel
theorem d_P_doActs_72 : decode b_P_doActs 72 = .ok (.iload_n 1, 1) := by decide +kernel
theorem d_P_doActs_73 : decode b_P_doActs 73 = .ok (.isub, 1) := by decide +kernel
theorem d_P_doActs_74 : decode b_P_doActs 74 = .ok (.ireturn, 1) := by decide +kernel
theorem d_P_doActs_75 : decode b_P_doActs 75 = .ok (.iinc 1 1, 3) := by decide +kernel
theorem d_P_doActs_78 : decode b_P_doActs 78 = .ok (.goto (-65), 3) := by decide +kernel
theorem d_P_doActs_81 : decode b_P_doActs 81 = .ok (.aload_n 0, 1) := by decide +kernel
theorem d_P_doActs_82 : decode b_P_doActs 82 = .ok (.getfield 31, 3) := by decide +kernel
theorem d_P_doActs_85 : decode b_P_doActs 85 = .ok (.invokevirtual 187, 3) := by decide +kernel
theorem d_P_doActs_88 : decode b_P_doActs 88 = .ok (.ireturn, 1) := by decide +kernel
theorem d_P_row_0 : decode b_P_row 0 = .ok (.aload_n 0, 1) := by decide +kernel
theorem d_P_row_1 : decode b_P_row 1 = .ok (.iload_n 1, 1) := by decide +kernel
theorem d_P_row_2 : decode b_P_row 2 = .ok (.invokevirtual 202, 3) := by decide +kernel
theorem d_P_row_5 : decode b_P_row 5 = .ok (.astore_n 3, 1) := by decide +kernel
theorem d_P_row_6 : decode b_P_row 6 = .ok (.aload_n 3, 1) := by decide +kernel
theorem d_P_row_7 : decode b_P_row 7 = .ok (.ifnull 9, 3) := by decide +kernel
theorem d_P_row_10 : decode b_P_row 10 = .ok (.iload_n 2, 1) := by decide +kernel
theorem d_P_row_11 : decode b_P_row 11 = .ok (.bipush 20, 2) := by decide +kernel
theorem d_P_row_13 : decode b_P_row 13 = .ok (.if_icmp .le 5, 3) := by decide +kernel
theorem d_P_row_16 : decode b_P_row 16 = .ok (.iconst (-1), 1) := by decide +kernel
theorem d_P_row_17 : decode b_P_row 17 = .ok (.ireturn, 1) := by decide +kernel
theorem d_P_row_18 : decode b_P_row 18 = .ok (.aload_n 3, 1) := by decide +kernel
theorem d_P_row_19 : decode b_P_row 19 = .ok (.iload_n 2, 1) := by decide +kernel
theorem d_P_row_20 : decode b_P_row 20 = .ok (.invokevirtual 206, 3) := by decide +kernel
theorem d_P_row_23 : decode b_P_row 23 = .ok (.ifCond .eq 7, 3) := by decide +kernel
theorem d_P_row_26 : decode b_P_row 26 = .ok (.iconst 1, 1) := by decide +kernel
theorem d_P_row_27 : decode b_P_row 27 = .ok (.goto 5, 3) := by decide +kernel
theorem d_P_row_30 : decode b_P_row 30 = .ok (.bipush (-14), 2) := by decide +kernel
theorem d_P_row_32 : decode b_P_row 32 = .ok (.ireturn, 1) := by decide +kernel
theorem d_P_put_0 : decode b_P_put 0 = .ok (.aload_n 0, 1) := by decide +kernel
theorem d_P_put_1 : decode b_P_put 1 = .ok (.iload_n 1, 1) := by decide +kernel
theorem d_P_put_2 : decode b_P_put 2 = .ok (.invokevirtual 202, 3) := by decide +kernel
theorem d_P_put_5 : decode b_P_put 5 = .ok (.astore 5, 2) := by decide +kernel
theorem d_P_put_7 : decode b_P_put 7 = .ok (.aload 5, 2) := by decide +kernel
theorem d_P_put_9 : decode b_P_put 9 = .ok (.ifnonnull 5, 3) := by decide +kernel
theorem d_P_put_12 : decode b_P_put 12 = .ok (.iconst (-1), 1) := by decide +kernel
theorem d_P_put_13 : decode b_P_put 13 = .ok (.ireturn, 1) := by decide +kernel
theorem d_P_put_14 : decode b_P_put 14 = .ok (.aload 5, 2) := by decide +kernel
theorem d_P_put_16 : decode b_P_put 16 = .ok (.invokevirtual 209, 3) := by decide +kernel
theorem d_P_put_19 : decode b_P_put 19 = .ok (.ifCond .eq 6, 3) := by decide +kernel
theorem d_P_put_22 : decode b_P_put 22 = .ok (.bipush (-11), 2) := by decide +kernel
theorem d_P_put_24 : decode b_P_put 24 = .ok (.ireturn, 1) := by decide +kernel
theorem d_P_put_25 : decode b_P_put 25 = .ok (.aload 5, 2) := by decide +kernel
theorem d_P_put_27 : decode b_P_put 27 = .ok (.iload_n 2, 1) := by decide +kernel
theorem d_P_put_28 : decode b_P_put 28 = .ok (.lload_n 3, 1) := by decide +kernel
theorem d_P_put_29 : decode b_P_put 29 = .ok (.invokevirtual 213, 3) := by decide +kernel
theorem d_P_put_32 : decode b_P_put 32 = .ok (.ifCond .eq 7, 3) := by decide +kernel
theorem d_P_put_35 : decode b_P_put 35 = .ok (.iconst 1, 1) := by decide +kernel
theorem d_P_put_36 : decode b_P_put 36 = .ok (.goto 5, 3) := by decide +kernel
theorem d_P_put_39 : decode b_P_put 39 = .ok (.bipush (-13), 2) := by decide +kernel
theorem d_P_put_41 : decode b_P_put 41 = .ok (.ireturn, 1) := by decide +kernel
theorem d_P_lay_0 : decode b_P_lay 0 = .ok (.aload_n 0, 1) := by decide +kernel
theorem d_P_lay_1 : decode b_P_lay 1 = .ok (.iload_n 1, 1) := by decide +kernel
theorem d_P_lay_2 : decode b_P_lay 2 = .ok (.invokevirtual 202, 3) := by decide +kernel
theorem d_P_lay_5 : decode b_P_lay 5 = .ok (.astore_n 2, 1) := by decide +kernel
theorem d_P_lay_6 : decode b_P_lay 6 = .ok (.aload_n 2, 1) := by decide +kernel
theorem d_P_lay_7 : decode b_P_lay 7 = .ok (.ifnonnull 5, 3) := by decide +kernel
theorem d_P_lay_10 : decode b_P_lay 10 = .ok (.iconst (-1), 1) := by decide +kernel
theorem d_P_lay_11 : decode b_P_lay 11 = .ok (.ireturn, 1) := by decide +kernel
theorem d_P_lay_12 : decode b_P_lay 12 = .ok (.aload_n 2, 1) := by decide +kernel
theorem d_P_lay_13 : decode b_P_lay 13 = .ok (.invokevirtual 209, 3) := by decide +kernel
theorem d_P_lay_16 : decode b_P_lay 16 = .ok (.ifCond .eq 6, 3) := by decide +kernel
theorem d_P_lay_19 : decode b_P_lay 19 = .ok (.bipush (-11), 2) := by decide +kernel
theorem d_P_lay_21 : decode b_P_lay 21 = .ok (.ireturn, 1) := by decide +kernel
theorem d_P_lay_22 : decode b_P_lay 22 = .ok (.aload_n 2, 1) := by decide +kernel
theorem d_P_lay_23 : decode b_P_lay 23 = .ok (.invokevirtual 223, 3) := by decide +kernel
theorem d_P_lay_26 : decode b_P_lay 26 = .ok (.aload_n 0, 1) := by decide +kernel
theorem d_P_lay_27 : decode b_P_lay 27 = .ok (.getfield 14, 3) := by decide +kernel
theorem d_P_lay_30 : decode b_P_lay 30 = .ok (.invokevirtual 226, 3) := by decide +kernel
theorem d_P_lay_33 : decode b_P_lay 33 = .ok (.invokestatic 227, 3) := by decide +kernel
theorem d_P_lay_36 : decode b_P_lay 36 = .ok (.istore_n 3, 1) := by decide +kernel
theorem d_P_lay_37 : decode b_P_lay 37 = .ok (.iconst 0, 1) := by decide +kernel
theorem d_P_lay_38 : decode b_P_lay 38 = .ok (.istore 4, 2) := by decide +kernel
theorem d_P_lay_40 : decode b_P_lay 40 = .ok (.iload 4, 2) := by decide +kernel
theorem d_P_lay_42 : decode b_P_lay 42 = .ok (.iload_n 3, 1) := by decide +kernel
theorem d_P_lay_43 : decode b_P_lay 43 = .ok (.if_icmp .ge 26, 3) := by decide +kernel
theorem d_P_lay_46 : decode b_P_lay 46 = .ok (.aload_n 2, 1) := by decide +kernel
theorem d_P_lay_47 : decode b_P_lay 47 = .ok (.iload 4, 2) := by decide +kernel
theorem d_P_lay_49 : decode b_P_lay 49 = .ok (.aload_n 0, 1) := by decide +kernel
theorem d_P_lay_50 : decode b_P_lay 50 = .ok (.getfield 14, 3) := by decide +kernel
theorem d_P_lay_53 : decode b_P_lay 53 = .ok (.iload 4, 2) := by decide +kernel
theorem d_P_lay_55 : decode b_P_lay 55 = .ok (.invokevirtual 232, 3) := by decide +kernel
theorem d_P_lay_58 : decode b_P_lay 58 = .ok (.i2l, 1) := by decide +kernel
theorem d_P_lay_59 : decode b_P_lay 59 = .ok (.invokevirtual 213, 3) := by decide +kernel
theorem d_P_lay_62 : decode b_P_lay 62 = .ok (.pop, 1) := by decide +kernel
theorem d_P_lay_63 : decode b_P_lay 63 = .ok (.iinc 4 1, 3) := by decide +kernel
theorem d_P_lay_66 : decode b_P_lay 66 = .ok (.goto (-26), 3) := by decide +kernel
theorem d_P_lay_69 : decode b_P_lay 69 = .ok (.iload_n 3, 1) := by decide +kernel
theorem d_P_lay_70 : decode b_P_lay 70 = .ok (.ireturn, 1) := by decide +kernel
theorem d_P_judge_0 : decode b_P_judge 0 = .ok (.aload_n 0, 1) := by decide +kernel
theorem d_P_judge_1 : decode b_P_judge 1 = .ok (.iload_n 1, 1) := by decide +kernel
theorem d_P_judge_2 : decode b_P_judge 2 = .ok (.invokevirtual 202, 3) := by decide +kernel
theorem d_P_judge_5 : decode b_P_judge 5 = .ok (.astore_n 2, 1) := by decide +kernel
theorem d_P_judge_6 : decode b_P_judge 6 = .ok (.aload_n 2, 1) := by decide +kernel
theorem d_P_judge_7 : decode b_P_judge 7 = .ok (.ifnonnull 5, 3) := by decide +kernel
theorem d_P_judge_10 : decode b_P_judge 10 = .ok (.iconst (-1), 1) := by decide +kernel
theorem d_P_judge_11 : decode b_P_judge 11 = .ok (.ireturn, 1) := by decide +kernel
theorem d_P_judge_12 : decode b_P_judge 12 = .ok (.aload_n 2, 1) := by decide +kernel
theorem d_P_judge_13 : decode b_P_judge 13 = .ok (.invokevirtual 209, 3) := by decide +kernel
theorem d_P_judge_16 : decode b_P_judge 16 = .ok (.ifCond .eq 6, 3) := by decide +kernel
theorem d_P_judge_19 : decode b_P_judge 19 = .ok (.bipush (-11), 2) := by decide +kernel
theorem d_P_judge_21 : decode b_P_judge 21 = .ok (.ireturn, 1) := by decide +kernel
theorem d_P_judge_22 : decode b_P_judge 22 = .ok (.iconst 0, 1) := by decide +kernel
theorem d_P_judge_23 : decode b_P_judge 23 = .ok (.istore_n 3, 1) := by decide +kernel
theorem d_P_judge_24 : decode b_P_judge 24 = .ok (.iload_n 3, 1) := by decide +kernel
theorem d_P_judge_25 : decode b_P_judge 25 = .ok (.aload_n 2, 1) := by decide +kernel
theorem d_P_judge_26 : decode b_P_judge 26 = .ok (.invokevirtual 223, 3) := by decide +kernel
theorem d_P_judge_29 : decode b_P_judge 29 = .ok (.if_icmp .ge 40, 3) := by decide +kernel
theorem d_P_judge_32 : decode b_P_judge 32 = .ok (.aload_n 0, 1) := by decide +kernel
theorem d_P_judge_33 : decode b_P_judge 33 = .ok (.getfield 14, 3) := by decide +kernel
theorem d_P_judge_36 : decode b_P_judge 36 = .ok (.iload_n 3, 1) := by decide +kernel
theorem d_P_judge_37 : decode b_P_judge 37 = .ok (.invokevirtual 60, 3) := by decide +kernel
theorem d_P_judge_40 : decode b_P_judge 40 = .ok (.ifCond .eq 21, 3) := by decide +kernel
theorem d_P_judge_43 : decode b_P_judge 43 = .ok (.aload_n 2, 1) := by decide +kernel
theorem d_P_judge_44 : decode b_P_judge 44 = .ok (.iload_n 3, 1) := by decide +kernel
theorem d_P_judge_45 : decode b_P_judge 45 = .ok (.invokevirtual 220, 3) := by decide +kernel
theorem d_P_judge_48 : decode b_P_judge 48 = .ok (.aload_n 0, 1) := by decide +kernel
theorem d_P_judge_49 : decode b_P_judge 49 = .ok (.getfield 14, 3) := by decide +kernel
theorem d_P_judge_52 : decode b_P_judge 52 = .ok (.iload_n 3, 1) := by decide +kernel
theorem d_P_judge_53 : decode b_P_judge 53 = .ok (.invokevirtual 232, 3) := by decide +kernel
theorem d_P_judge_56 : decode b_P_judge 56 = .ok (.i2l, 1) := by decide +kernel
theorem d_P_judge_57 : decode b_P_judge 57 = .ok (.lcmp, 1) := by decide +kernel
theorem d_P_judge_58 : decode b_P_judge 58 = .ok (.ifCond .eq 5, 3) := by decide +kernel
theorem d_P_judge_61 : decode b_P_judge 61 = .ok (.iload_n 3, 1) := by decide +kernel
theorem d_P_judge_62 : decode b_P_judge 62 = .ok (.ireturn, 1) := by decide +kernel
theorem d_P_judge_63 : decode b_P_judge 63 = .ok (.iinc 3 1, 3) := by decide +kernel
theorem d_P_judge_66 : decode b_P_judge 66 = .ok (.goto (-42), 3) := by decide +kernel
theorem d_P_judge_69 : decode b_P_judge 69 = .ok (.bipush (-2), 2) := by decide +kernel
theorem d_P_judge_71 : decode b_P_judge 71 = .ok (.ireturn, 1) := by decide +kernel
theorem d_P_image_0 : decode b_P_image 0 = .ok (.aload_n 0, 1) := by decide +kernel
theorem d_P_image_1 : decode b_P_image 1 = .ok (.getfield 18, 3) := by decide +kernel
theorem d_P_image_4 : decode b_P_image 4 = .ok (.aload_n 0, 1) := by decide +kernel
theorem d_P_image_5 : decode b_P_image 5 = .ok (.getfield 14, 3) := by decide +kernel
theorem d_P_image_8 : decode b_P_image 8 = .ok (.invokevirtual 183, 3) := by decide +kernel
theorem d_P_image_11 : decode b_P_image 11 = .ok (.aload_n 0, 1) := by decide +kernel
theorem d_P_image_12 : decode b_P_image 12 = .ok (.iconst 1, 1) := by decide +kernel
theorem d_P_image_13 : decode b_P_image 13 = .ok (.putfield 24, 3) := by decide +kernel
theorem d_P_image_16 : decode b_P_image 16 = .ok (.aload_n 0, 1) := by decide +kernel
theorem d_P_image_17 : decode b_P_image 17 = .ok (.getfield 14, 3) := by decide +kernel
theorem d_P_image_20 : decode b_P_image 20 = .ok (.invokevirtual 226, 3) := by decide +kernel
theorem d_P_image_23 : decode b_P_image 23 = .ok (.ireturn, 1) := by decide +kernel
theorem d_P_undo_0 : decode b_P_undo 0 = .ok (.aload_n 0, 1) := by decide +kernel
theorem d_P_undo_1 : decode b_P_undo 1 = .ok (.getfield 24, 3) := by decide +kernel
theorem d_P_undo_4 : decode b_P_undo 4 = .ok (.ifCond .ne 6, 3) := by decide +kernel
theorem d_P_undo_7 : decode b_P_undo 7 = .ok (.bipush (-5), 2) := by decide +kernel
theorem d_P_undo_9 : decode b_P_undo 9 = .ok (.ireturn, 1) := by decide +kernel
theorem d_P_undo_10 : decode b_P_undo 10 = .ok (.aload_n 0, 1) := by decide +kernel
theorem d_P_undo_11 : decode b_P_undo 11 = .ok (.getfield 14, 3) := by decide +kernel
theorem d_P_undo_14 : decode b_P_undo 14 = .ok (.aload_n 0, 1) := by decide +kernel
theorem d_P_undo_15 : decode b_P_undo 15 = .ok (.getfield 18, 3) := by decide +kernel
theorem d_P_undo_18 : decode b_P_undo 18 = .ok (.invokevirtual 183, 3) := by decide +kernel
theorem d_P_undo_21 : decode b_P_undo 21 = .ok (.aload_n 0, 1) := by decide +kernel
theorem d_P_undo_22 : decode b_P_undo 22 = .ok (.getfield 14, 3) := by decide +kernel
theorem d_P_undo_25 : decode b_P_undo 25 = .ok (.invokevirtual 226, 3) := by decide +kernel
theorem d_P_undo_28 : decode b_P_undo 28 = .ok (.ireturn, 1) := by decide +kernel
theorem d_P_count_0 : decode b_P_count 0 = .ok (.iload_n 1, 1) := by decide +kernel
theorem d_P_count_1 : decode b_P_count 1 = .ok (.tableswitch 75 0 4 #[35, 43, 51, 59, 67], 35) := by decide +kernel
theorem d_P_count_36 : decode b_P_count 36 = .ok (.aload_n 0, 1) := by decide +kernel
theorem d_P_count_37 : decode b_P_count 37 = .ok (.getfield 14, 3) := by decide +kernel
theorem d_P_count_40 : decode b_P_count 40 = .ok (.invokevirtual 226, 3) := by decide +kernel
theorem d_P_count_43 : decode b_P_count 43 = .ok (.ireturn, 1) := by decide +kernel
theorem d_P_count_44 : decode b_P_count 44 = .ok (.aload_n 0, 1) := by decide +kernel
theorem d_P_count_45 : decode b_P_count 45 = .ok (.getfield 14, 3) := by decide +kernel
theorem d_P_count_48 : decode b_P_count 48 = .ok (.invokevirtual 126, 3) := by decide +kernel
theorem d_P_count_51 : decode b_P_count 51 = .ok (.ireturn, 1) := by decide +kernel
theorem d_P_count_52 : decode b_P_count 52 = .ok (.aload_n 0, 1) := by decide +kernel
theorem d_P_count_53 : decode b_P_count 53 = .ok (.getfield 31, 3) := by decide +kernel
theorem d_P_count_56 : decode b_P_count 56 = .ok (.invokevirtual 235, 3) := by decide +kernel
theorem d_P_count_59 : decode b_P_count 59 = .ok (.ireturn, 1) := by decide +kernel
theorem d_P_count_60 : decode b_P_count 60 = .ok (.aload_n 0, 1) := by decide +kernel
theorem d_P_count_61 : decode b_P_count 61 = .ok (.getfield 14, 3) := by decide +kernel
theorem d_P_count_64 : decode b_P_count 64 = .ok (.invokevirtual 238, 3) := by decide +kernel
theorem d_P_count_67 : decode b_P_count 67 = .ok (.ireturn, 1) := by decide +kernel
theorem d_P_count_68 : decode b_P_count 68 = .ok (.aload_n 0, 1) := by decide +kernel
theorem d_P_count_69 : decode b_P_count 69 = .ok (.getfield 14, 3) := by decide +kernel
theorem d_P_count_72 : decode b_P_count 72 = .ok (.invokevirtual 241, 3) := by decide +kernel
theorem d_P_count_75 : decode b_P_count 75 = .ok (.ireturn, 1) := by decide +kernel
theorem d_P_count_76 : decode b_P_count 76 = .ok (.iconst (-1), 1) := by decide +kernel
theorem d_P_count_77 : decode b_P_count 77 = .ok (.ireturn, 1) := by decide +kernel
theorem d_P_rowAt_0 : decode b_P_rowAt 0 = .ok (.iload_n 1, 1) := by decide +kernel
theorem d_P_rowAt_1 : decode b_P_rowAt 1 = .ok (.ifCond .lt 21, 3) := by decide +kernel
theorem d_P_rowAt_4 : decode b_P_rowAt 4 = .ok (.iload_n 1, 1) := by decide +kernel
theorem d_P_rowAt_5 : decode b_P_rowAt 5 = .ok (.aload_n 0, 1) := by decide +kernel
theorem d_P_rowAt_6 : decode b_P_rowAt 6 = .ok (.getfield 38, 3) := by decide +kernel
theorem d_P_rowAt_9 : decode b_P_rowAt 9 = .ok (.arraylength, 1) := by decide +kernel
theorem d_P_rowAt_10 : decode b_P_rowAt 10 = .ok (.if_icmp .ge 12, 3) := by decide +kernel
theorem d_P_rowAt_13 : decode b_P_rowAt 13 = .ok (.aload_n 0, 1) := by decide +kernel
theorem d_P_rowAt_14 : decode b_P_rowAt 14 = .ok (.getfield 38, 3) := by decide +kernel
theorem d_P_rowAt_17 : decode b_P_rowAt 17 = .ok (.iload_n 1, 1) := by decide +kernel
theorem d_P_rowAt_18 : decode b_P_rowAt 18 = .ok (.aaload, 1) := by decide +kernel
theorem d_P_rowAt_19 : decode b_P_rowAt 19 = .ok (.goto 4, 3) := by decide +kernel
theorem d_P_rowAt_22 : decode b_P_rowAt 22 = .ok (.aconst_null, 1) := by decide +kernel
theorem d_P_rowAt_23 : decode b_P_rowAt 23 = .ok (.areturn, 1) := by decide +kernel
theorem d_P_isOutward_0 : decode b_P_isOutward 0 = .ok (.iload_n 0, 1) := by decide +kernel
theorem d_P_isOutward_1 : decode b_P_isOutward 1 = .ok (.iconst 5, 1) := by decide +kernel
theorem d_P_isOutward_2 : decode b_P_isOutward 2 = .ok (.if_icmp .lt 13, 3) := by decide +kernel
theorem d_P_isOutward_5 : decode b_P_isOutward 5 = .ok (.iload_n 0, 1) := by decide +kernel
theorem d_P_isOutward_6 : decode b_P_isOutward 6 = .ok (.bipush 99, 2) := by decide +kernel
theorem d_P_isOutward_8 : decode b_P_isOutward 8 = .ok (.if_icmp .gt 7, 3) := by decide +kernel
theorem d_P_isOutward_11 : decode b_P_isOutward 11 = .ok (.iconst 1, 1) := by decide +kernel
theorem d_P_isOutward_12 : decode b_P_isOutward 12 = .ok (.goto 4, 3) := by decide +kernel
theorem d_P_isOutward_15 : decode b_P_isOutward 15 = .ok (.iconst 0, 1) := by decide +kernel
theorem d_P_isOutward_16 : decode b_P_isOutward 16 = .ok (.ireturn, 1) := by decide +kernel
theorem d_P_isTeeth_0 : decode b_P_isTeeth 0 = .ok (.iload_n 0, 1) := by decide +kernel
theorem d_P_isTeeth_1 : decode b_P_isTeeth 1 = .ok (.invokestatic 142, 3) := by decide +kernel
theorem d_P_isTeeth_4 : decode b_P_isTeeth 4 = .ok (.ifCond .ne 15, 3) := by decide +kernel
theorem d_P_isTeeth_7 : decode b_P_isTeeth 7 = .ok (.iload_n 0, 1) := by decide +kernel
theorem d_P_isTeeth_8 : decode b_P_isTeeth 8 = .ok (.bipush (-99), 2) := by decide +kernel
theorem d_P_isTeeth_10 : decode b_P_isTeeth 10 = .ok (.if_icmp .lt 13, 3) := by decide +kernel
theorem d_P_isTeeth_13 : decode b_P_isTeeth 13 = .ok (.iload_n 0, 1) := by decide +kernel
theorem d_P_isTeeth_14 : decode b_P_isTeeth 14 = .ok (.bipush (-20), 2) := by decide +kernel
theorem d_P_isTeeth_16 : decode b_P_isTeeth 16 = .ok (.if_icmp .gt 7, 3) := by decide +kernel
theorem d_P_isTeeth_19 : decode b_P_isTeeth 19 = .ok (.iconst 1, 1) := by decide +kernel
theorem d_P_isTeeth_20 : decode b_P_isTeeth 20 = .ok (.goto 4, 3) := by decide +kernel
theorem d_P_isTeeth_23 : decode b_P_isTeeth 23 = .ok (.iconst 0, 1) := by decide +kernel
theorem d_P_isTeeth_24 : decode b_P_isTeeth 24 = .ok (.ireturn, 1) := by decide +kernel
theorem d_P_isShift_0 : decode b_P_isShift 0 = .ok (.iload_n 0, 1) := by decide +kernel
theorem d_P_isShift_1 : decode b_P_isShift 1 = .ok (.bipush (-50), 2) := by decide +kernel
theorem d_P_isShift_3 : decode b_P_isShift 3 = .ok (.if_icmp .lt 13, 3) := by decide +kernel
theorem d_P_isShift_6 : decode b_P_isShift 6 = .ok (.iload_n 0, 1) := by decide +kernel
theorem d_P_isShift_7 : decode b_P_isShift 7 = .ok (.bipush 100, 2) := by decide +kernel
theorem d_P_isShift_9 : decode b_P_isShift 9 = .ok (.if_icmp .gt 7, 3) := by decide +kernel
theorem d_P_isShift_12 : decode b_P_isShift 12 = .ok (.iconst 1, 1) := by decide +kernel
theorem d_P_isShift_13 : decode b_P_isShift 13 = .ok (.goto 4, 3) := by decide +kernel
theorem d_P_isShift_16 : decode b_P_isShift 16 = .ok (.iconst 0, 1) := by decide +kernel
theorem d_P_isShift_17 : decode b_P_isShift 17 = .ok (.ireturn, 1) := by decide +kernel
theorem d_P_isPart_0 : decode b_P_isPart 0 = .ok (.iload_n 0, 1) := by decide +kernel
theorem d_P_isPart_1 : decode b_P_isPart 1 = .ok (.ifCond .eq 8, 3) := by decide +kernel
theorem d_P_isPart_4 : decode b_P_isPart 4 = .ok (.iload_n 0, 1) := by decide +kernel
theorem d_P_isPart_5 : decode b_P_isPart 5 = .ok (.iconst 1, 1) := by decide +kernel
theorem d_P_isPart_6 : decode b_P_isPart 6 = .ok (.if_icmp .ne 7, 3) := by decide +kernel
theorem d_P_isPart_9 : decode b_P_isPart 9 = .ok (.iconst 1, 1) := by decide +kernel
theorem d_P_isPart_10 : decode b_P_isPart 10 = .ok (.goto 4, 3) := by decide +kernel
theorem d_P_isPart_13 : decode b_P_isPart 13 = .ok (.iconst 0, 1) := by decide +kernel
theorem d_P_isPart_14 : decode b_P_isPart 14 = .ok (.ireturn, 1) := by decide +kernel
theorem d_P_partOf_0 : decode b_P_partOf 0 = .ok (.lload_n 0, 1) := by decide +kernel
theorem d_P_partOf_1 : decode b_P_partOf 1 = .ok (.invokestatic 244, 3) := by decide +kernel
theorem d_P_partOf_4 : decode b_P_partOf 4 = .ok (.lload_n 2, 1) := by decide +kernel
theorem d_P_partOf_5 : decode b_P_partOf 5 = .ok (.invokestatic 248, 3) := by decide +kernel
theorem d_P_partOf_8 : decode b_P_partOf 8 = .ok (.lstore 5, 2) := by decide +kernel
theorem d_P_partOf_10 : decode b_P_partOf 10 = .ok (.iload 4, 2) := by decide +kernel
theorem d_P_partOf_12 : decode b_P_partOf 12 = .ok (.ifCond .ne 7, 3) := by decide +kernel
theorem d_P_partOf_15 : decode b_P_partOf 15 = .ok (.lload_n 0, 1) := by decide +kernel
theorem d_P_partOf_16 : decode b_P_partOf 16 = .ok (.goto 4, 3) := by decide +kernel
theorem d_P_partOf_19 : decode b_P_partOf 19 = .ok (.lload_n 2, 1) := by decide +kernel
theorem d_P_partOf_20 : decode b_P_partOf 20 = .ok (.lstore 7, 2) := by decide +kernel
theorem d_P_partOf_22 : decode b_P_partOf 22 = .ok (.lload 5, 2) := by decide +kernel
theorem d_P_partOf_24 : decode b_P_partOf 24 = .ok (.lconst 1, 1) := by decide +kernel
theorem d_P_partOf_25 : decode b_P_partOf 25 = .ok (.lcmp, 1) := by decide +kernel
theorem d_P_partOf_26 : decode b_P_partOf 26 = .ok (.ifCond .le 11, 3) := by decide +kernel
theorem d_P_partOf_29 : decode b_P_partOf 29 = .ok (.lload 7, 2) := by decide +kernel
theorem d_P_partOf_31 : decode b_P_partOf 31 = .ok (.lload 5, 2) := by decide +kernel
theorem d_P_partOf_33 : decode b_P_partOf 33 = .ok (.ldiv, 1) := by decide +kernel
theorem d_P_partOf_34 : decode b_P_partOf 34 = .ok (.goto 5, 3) := by decide +kernel
theorem d_P_partOf_37 : decode b_P_partOf 37 = .ok (.lload 7, 2) := by decide +kernel
theorem d_P_partOf_39 : decode b_P_partOf 39 = .ok (.lreturn, 1) := by decide +kernel
theorem d_P_commonDivisor_0 : decode b_P_commonDivisor 0 = .ok (.lload_n 0, 1) := by decide +kernel
theorem d_P_commonDivisor_1 : decode b_P_commonDivisor 1 = .ok (.lstore 4, 2) := by decide +kernel
theorem d_P_commonDivisor_3 : decode b_P_commonDivisor 3 = .ok (.lload_n 2, 1) := by decide +kernel
theorem d_P_commonDivisor_4 : decode b_P_commonDivisor 4 = .ok (.lstore 6, 2) := by decide +kernel
theorem d_P_commonDivisor_6 : decode b_P_commonDivisor 6 = .ok (.iconst 0, 1) := by decide +kernel
theorem d_P_commonDivisor_7 : decode b_P_commonDivisor 7 = .ok (.istore 8, 2) := by decide +kernel
theorem d_P_commonDivisor_9 : decode b_P_commonDivisor 9 = .ok (.iload 8, 2) := by decide +kernel
theorem d_P_commonDivisor_11 : decode b_P_commonDivisor 11 = .ok (.sipush 200, 3) := by decide +kernel
theorem d_P_commonDivisor_14 : decode b_P_commonDivisor 14 = .ok (.if_icmp .ge 31, 3) := by decide +kernel
theorem d_P_commonDivisor_17 : decode b_P_commonDivisor 17 = .ok (.lload 6, 2) := by decide +kernel
theorem d_P_commonDivisor_19 : decode b_P_commonDivisor 19 = .ok (.lconst 0, 1) := by decide +kernel
theorem d_P_commonDivisor_20 : decode b_P_commonDivisor 20 = .ok (.lcmp, 1) := by decide +kernel
theorem d_P_commonDivisor_21 : decode b_P_commonDivisor 21 = .ok (.ifCond .eq 24, 3) := by decide +kernel
theorem d_P_commonDivisor_24 : decode b_P_commonDivisor 24 = .ok (.lload 4, 2) := by decide +kernel
theorem d_P_commonDivisor_26 : decode b_P_commonDivisor 26 = .ok (.lload 6, 2) := by decide +kernel
theorem d_P_commonDivisor_28 : decode b_P_commonDivisor 28 = .ok (.lrem, 1) := by decide +kernel
theorem d_P_commonDivisor_29 : decode b_P_commonDivisor 29 = .ok (.lstore 9, 2) := by decide +kernel
theorem d_P_commonDivisor_31 : decode b_P_commonDivisor 31 = .ok (.lload 6, 2) := by decide +kernel
theorem d_P_commonDivisor_33 : decode b_P_commonDivisor 33 = .ok (.lstore 4, 2) := by decide +kernel
theorem d_P_commonDivisor_35 : decode b_P_commonDivisor 35 = .ok (.lload 9, 2) := by decide +kernel
theorem d_P_commonDivisor_37 : decode b_P_commonDivisor 37 = .ok (.lstore 6, 2) := by decide +kernel
theorem d_P_commonDivisor_39 : decode b_P_commonDivisor 39 = .ok (.iinc 8 1, 3) := by decide +kernel
theorem d_P_commonDivisor_42 : decode b_P_commonDivisor 42 = .ok (.goto (-33), 3) := by decide +kernel
theorem d_P_commonDivisor_45 : decode b_P_commonDivisor 45 = .ok (.lload 4, 2) := by decide +kernel
theorem d_P_commonDivisor_47 : decode b_P_commonDivisor 47 = .ok (.lreturn, 1) := by decide +kernel
theorem d_P_root_0 : decode b_P_root 0 = .ok (.lconst 0, 1) := by decide +kernel
theorem d_P_root_1 : decode b_P_root 1 = .ok (.lstore_n 2, 1) := by decide +kernel
theorem d_P_root_2 : decode b_P_root 2 = .ok (.bipush 30, 2) := by decide +kernel
theorem d_P_root_4 : decode b_P_root 4 = .ok (.istore 4, 2) := by decide +kernel
theorem d_P_root_6 : decode b_P_root 6 = .ok (.iload 4, 2) := by decide +kernel
theorem d_P_root_8 : decode b_P_root 8 = .ok (.ifCond .lt 30, 3) := by decide +kernel
theorem d_P_root_11 : decode b_P_root 11 = .ok (.lload_n 2, 1) := by decide +kernel
theorem d_P_root_12 : decode b_P_root 12 = .ok (.lconst 1, 1) := by decide +kernel
theorem d_P_root_13 : decode b_P_root 13 = .ok (.iload 4, 2) := by decide +kernel
theorem d_P_root_15 : decode b_P_root 15 = .ok (.lshl, 1) := by decide +kernel
theorem d_P_root_16 : decode b_P_root 16 = .ok (.ladd, 1) := by decide +kernel
theorem d_P_root_17 : decode b_P_root 17 = .ok (.lstore 5, 2) := by decide +kernel
theorem d_P_root_19 : decode b_P_root 19 = .ok (.lload 5, 2) := by decide +kernel
theorem d_P_root_21 : decode b_P_root 21 = .ok (.lload 5, 2) := by decide +kernel
theorem d_P_root_23 : decode b_P_root 23 = .ok (.lmul, 1) := by decide +kernel
theorem d_P_root_24 : decode b_P_root 24 = .ok (.lload_n 0, 1) := by decide +kernel
theorem d_P_root_25 : decode b_P_root 25 = .ok (.lcmp, 1) := by decide +kernel
theorem d_P_root_26 : decode b_P_root 26 = .ok (.ifCond .gt 6, 3) := by decide +kernel
theorem d_P_root_29 : decode b_P_root 29 = .ok (.lload 5, 2) := by decide +kernel
theorem d_P_root_31 : decode b_P_root 31 = .ok (.lstore_n 2, 1) := by decide +kernel
theorem d_P_root_32 : decode b_P_root 32 = .ok (.iinc 4 (-1), 3) := by decide +kernel
theorem d_P_root_35 : decode b_P_root 35 = .ok (.goto (-29), 3) := by decide +kernel
theorem d_P_root_38 : decode b_P_root 38 = .ok (.lload_n 2, 1) := by decide +kernel
theorem d_P_root_39 : decode b_P_root 39 = .ok (.lreturn, 1) := by decide +kernel
theorem d_L_cell_0 : decode b_L_cell 0 = .ok (.aload_n 0, 1) := by decide +kernel
theorem d_L_cell_1 : decode b_L_cell 1 = .ok (.arraylength, 1) := by decide +kernel
theorem d_L_cell_2 : decode b_L_cell 2 = .ok (.ifCond .ne 11, 3) := by decide +kernel
theorem d_L_cell_5 : decode b_L_cell 5 = .ok (.sipush 401, 3) := by decide +kernel
theorem d_L_cell_8 : decode b_L_cell 8 = .ok (.iload_n 1, 1) := by decide +kernel
theorem d_L_cell_9 : decode b_L_cell 9 = .ok (.imul, 1) := by decide +kernel
theorem d_L_cell_10 : decode b_L_cell 10 = .ok (.goto 12, 3) := by decide +kernel
theorem d_L_cell_13 : decode b_L_cell 13 = .ok (.aload_n 0, 1) := by decide +kernel
theorem d_L_cell_14 : decode b_L_cell 14 = .ok (.iload_n 1, 1) := by decide +kernel
theorem d_L_cell_15 : decode b_L_cell 15 = .ok (.ldc 7, 2) := by decide +kernel
theorem d_L_cell_17 : decode b_L_cell 17 = .ok (.iand, 1) := by decide +kernel
theorem d_L_cell_18 : decode b_L_cell 18 = .ok (.aload_n 0, 1) := by decide +kernel
theorem d_L_cell_19 : decode b_L_cell 19 = .ok (.arraylength, 1) := by decide +kernel
theorem d_L_cell_20 : decode b_L_cell 20 = .ok (.irem, 1) := by decide +kernel
theorem d_L_cell_21 : decode b_L_cell 21 = .ok (.iaload, 1) := by decide +kernel
theorem d_L_cell_22 : decode b_L_cell 22 = .ok (.ireturn, 1) := by decide +kernel
theorem d_L_act_0 : decode b_L_act 0 = .ok (.iload_n 1, 1) := by decide +kernel
theorem d_L_act_1 : decode b_L_act 1 = .ok (.iconst 4, 1) := by decide +kernel
theorem d_L_act_2 : decode b_L_act 2 = .ok (.ishr, 1) := by decide +kernel
theorem d_L_act_3 : decode b_L_act 3 = .ok (.ldc 7, 2) := by decide +kernel
theorem d_L_act_5 : decode b_L_act 5 = .ok (.iand, 1) := by decide +kernel
theorem d_L_act_6 : decode b_L_act 6 = .ok (.istore_n 2, 1) := by decide +kernel
theorem d_L_act_7 : decode b_L_act 7 = .ok (.aload_n 0, 1) := by decide +kernel
theorem d_L_act_8 : decode b_L_act 8 = .ok (.iconst 0, 1) := by decide +kernel
theorem d_L_act_9 : decode b_L_act 9 = .ok (.invokevirtual 8, 3) := by decide +kernel
theorem d_L_act_12 : decode b_L_act 12 = .ok (.iconst 1, 1) := by decide +kernel
theorem d_L_act_13 : decode b_L_act 13 = .ok (.iadd, 1) := by decide +kernel
theorem d_L_act_14 : decode b_L_act 14 = .ok (.istore_n 3, 1) := by decide +kernel
theorem d_L_act_15 : decode b_L_act 15 = .ok (.iload_n 1, 1) := by decide +kernel
theorem d_L_act_16 : decode b_L_act 16 = .ok (.bipush 15, 2) := by decide +kernel
theorem d_L_act_18 : decode b_L_act 18 = .ok (.iand, 1) := by decide +kernel
theorem d_L_act_19 : decode b_L_act 19 = .ok (.tableswitch 269 0 14 #[73, 73, 73, 104, 104, 122, 130, 130, 130, 144, 162, 162, 210, 226, 264], 73) := by decide +kernel
theorem d_L_act_92 : decode b_L_act 92 = .ok (.aload_n 0, 1) := by decide +kernel
theorem d_L_act_93 : decode b_L_act 93 = .ok (.iload_n 2, 1) := by decide +kernel
theorem d_L_act_94 : decode b_L_act 94 = .ok (.iconst 3, 1) := by decide +kernel
theorem d_L_act_95 : decode b_L_act 95 = .ok (.iand, 1) := by decide +kernel
theorem d_L_act_96 : decode b_L_act 96 = .ok (.ifCond .ne 15, 3) := by decide +kernel
theorem d_L_act_99 : decode b_L_act 99 = .ok (.bipush (-18), 2) := by decide +kernel
theorem d_L_act_101 : decode b_L_act 101 = .ok (.iload_n 2, 1) := by decide +kernel
theorem d_L_act_102 : decode b_L_act 102 = .ok (.iconst 2, 1) := by decide +kernel
theorem d_L_act_103 : decode b_L_act 103 = .ok (.ishr, 1) := by decide +kernel
theorem d_L_act_104 : decode b_L_act 104 = .ok (.bipush 84, 2) := by decide +kernel
theorem d_L_act_106 : decode b_L_act 106 = .ok (.irem, 1) := by decide +kernel
theorem d_L_act_107 : decode b_L_act 107 = .ok (.isub, 1) := by decide +kernel
theorem d_L_act_108 : decode b_L_act 108 = .ok (.goto 11, 3) := by decide +kernel
theorem d_L_act_111 : decode b_L_act 111 = .ok (.iconst 3, 1) := by decide +kernel
theorem d_L_act_112 : decode b_L_act 112 = .ok (.iload_n 2, 1) := by decide +kernel
theorem d_L_act_113 : decode b_L_act 113 = .ok (.iconst 2, 1) := by decide +kernel
theorem d_L_act_114 : decode b_L_act 114 = .ok (.ishr, 1) := by decide +kernel
theorem d_L_act_115 : decode b_L_act 115 = .ok (.bipush 99, 2) := by decide +kernel
theorem d_L_act_117 : decode b_L_act 117 = .ok (.irem, 1) := by decide +kernel
theorem d_L_act_118 : decode b_L_act 118 = .ok (.iadd, 1) := by decide +kernel
theorem d_L_act_119 : decode b_L_act 119 = .ok (.invokevirtual 14, 3) := by decide +kernel
theorem d_L_act_122 : decode b_L_act 122 = .ok (.ireturn, 1) := by decide +kernel
theorem d_L_act_123 : decode b_L_act 123 = .ok (.aload_n 0, 1) := by decide +kernel
theorem d_L_act_124 : decode b_L_act 124 = .ok (.iload_n 2, 1) := by decide +kernel
theorem d_L_act_125 : decode b_L_act 125 = .ok (.iload_n 3, 1) := by decide +kernel
theorem d_L_act_126 : decode b_L_act 126 = .ok (.irem, 1) := by decide +kernel
theorem d_L_act_127 : decode b_L_act 127 = .ok (.iload_n 2, 1) := by decide +kernel
theorem d_L_act_128 : decode b_L_act 128 = .ok (.iconst 5, 1) := by decide +kernel
theorem d_L_act_129 : decode b_L_act 129 = .ok (.ishr, 1) := by decide +kernel
theorem d_L_act_130 : decode b_L_act 130 = .ok (.sipush 155, 3) := by decide +kernel
theorem d_L_act_133 : decode b_L_act 133 = .ok (.irem, 1) := by decide +kernel
theorem d_L_act_134 : decode b_L_act 134 = .ok (.bipush 52, 2) := by decide +kernel
theorem d_L_act_136 : decode b_L_act 136 = .ok (.isub, 1) := by decide +kernel
theorem d_L_act_137 : decode b_L_act 137 = .ok (.invokevirtual 17, 3) := by decide +kernel
theorem d_L_act_140 : decode b_L_act 140 = .ok (.ireturn, 1) := by decide +kernel
theorem d_L_act_141 : decode b_L_act 141 = .ok (.aload_n 0, 1) := by decide +kernel
theorem d_L_act_142 : decode b_L_act 142 = .ok (.iload_n 2, 1) := by decide +kernel
theorem d_L_act_143 : decode b_L_act 143 = .ok (.iconst 3, 1) := by decide +kernel
theorem d_L_act_144 : decode b_L_act 144 = .ok (.iand, 1) := by decide +kernel
theorem d_L_act_145 : decode b_L_act 145 = .ok (.invokevirtual 21, 3) := by decide +kernel
theorem d_L_act_148 : decode b_L_act 148 = .ok (.ireturn, 1) := by decide +kernel
theorem d_L_act_149 : decode b_L_act 149 = .ok (.aload_n 0, 1) := by decide +kernel
theorem d_L_act_150 : decode b_L_act 150 = .ok (.iload_n 2, 1) := by decide +kernel
theorem d_L_act_151 : decode b_L_act 151 = .ok (.iload_n 3, 1) := by decide +kernel
theorem d_L_act_152 : decode b_L_act 152 = .ok (.irem, 1) := by decide +kernel
theorem d_L_act_153 : decode b_L_act 153 = .ok (.iload_n 2, 1) := by decide +kernel
theorem d_L_act_154 : decode b_L_act 154 = .ok (.bipush 6, 2) := by decide +kernel
theorem d_L_act_156 : decode b_L_act 156 = .ok (.ishr, 1) := by decide +kernel
theorem d_L_act_157 : decode b_L_act 157 = .ok (.iload_n 3, 1) := by decide +kernel
theorem d_L_act_158 : decode b_L_act 158 = .ok (.irem, 1) := by decide +kernel
theorem d_L_act_159 : decode b_L_act 159 = .ok (.invokevirtual 24, 3) := by decide +kernel
theorem d_L_act_162 : decode b_L_act 162 = .ok (.ireturn, 1) := by decide +kernel
theorem d_L_act_163 : decode b_L_act 163 = .ok (.iload_n 2, 1) := by decide +kernel
theorem d_L_act_164 : decode b_L_act 164 = .ok (.iconst 3, 1) := by decide +kernel
theorem d_L_act_165 : decode b_L_act 165 = .ok (.iand, 1) := by decide +kernel
theorem d_L_act_166 : decode b_L_act 166 = .ok (.ifCond .ne 10, 3) := by decide +kernel
theorem d_L_act_169 : decode b_L_act 169 = .ok (.aload_n 0, 1) := by decide +kernel
theorem d_L_act_170 : decode b_L_act 170 = .ok (.invokevirtual 27, 3) := by decide +kernel
theorem d_L_act_173 : decode b_L_act 173 = .ok (.goto 7, 3) := by decide +kernel
theorem d_L_act_176 : decode b_L_act 176 = .ok (.aload_n 0, 1) := by decide +kernel
theorem d_L_act_177 : decode b_L_act 177 = .ok (.invokevirtual 31, 3) := by decide +kernel
theorem d_L_act_180 : decode b_L_act 180 = .ok (.ireturn, 1) := by decide +kernel
theorem d_L_act_181 : decode b_L_act 181 = .ok (.getstatic 34, 3) := by decide +kernel
theorem d_L_act_184 : decode b_L_act 184 = .ok (.iload_n 2, 1) := by decide +kernel
theorem d_L_act_185 : decode b_L_act 185 = .ok (.getstatic 34, 3) := by decide +kernel
theorem d_L_act_188 : decode b_L_act 188 = .ok (.arraylength, 1) := by decide +kernel
theorem d_L_act_189 : decode b_L_act 189 = .ok (.irem, 1) := by decide +kernel
theorem d_L_act_190 : decode b_L_act 190 = .ok (.aaload, 1) := by decide +kernel
theorem d_L_act_191 : decode b_L_act 191 = .ok (.astore 4, 2) := by decide +kernel
theorem d_L_act_193 : decode b_L_act 193 = .ok (.iconst 0, 1) := by decide +kernel
theorem d_L_act_194 : decode b_L_act 194 = .ok (.istore 5, 2) := by decide +kernel
theorem d_L_act_196 : decode b_L_act 196 = .ok (.iload 5, 2) := by decide +kernel
theorem d_L_act_198 : decode b_L_act 198 = .ok (.aload 4, 2) := by decide +kernel
theorem d_L_act_200 : decode b_L_act 200 = .ok (.invokevirtual 40, 3) := by decide +kernel
theorem d_L_act_203 : decode b_L_act 203 = .ok (.if_icmp .ge 21, 3) := by decide +kernel
theorem d_L_act_206 : decode b_L_act 206 = .ok (.aload_n 0, 1) := by decide +kernel
theorem d_L_act_207 : decode b_L_act 207 = .ok (.aload 4, 2) := by decide +kernel
theorem d_L_act_209 : decode b_L_act 209 = .ok (.iload 5, 2) := by decide +kernel
theorem d_L_act_211 : decode b_L_act 211 = .ok (.invokevirtual 45, 3) := by decide +kernel
theorem d_L_act_214 : decode b_L_act 214 = .ok (.invokevirtual 49, 3) := by decide +kernel
theorem d_L_act_217 : decode b_L_act 217 = .ok (.pop, 1) := by decide +kernel
theorem d_L_act_218 : decode b_L_act 218 = .ok (.iinc 5 1, 3) := by decide +kernel
theorem d_L_act_221 : decode b_L_act 221 = .ok (.goto (-25), 3) := by decide +kernel
theorem d_L_act_224 : decode b_L_act 224 = .ok (.aload_n 0, 1) := by decide +kernel
theorem d_L_act_225 : decode b_L_act 225 = .ok (.invokevirtual 52, 3) := by decide +kernel
theorem d_L_act_228 : decode b_L_act 228 = .ok (.ireturn, 1) := by decide +kernel
theorem d_L_act_229 : decode b_L_act 229 = .ok (.aload_n 0, 1) := by decide +kernel
theorem d_L_act_230 : decode b_L_act 230 = .ok (.iload_n 2, 1) := by decide +kernel
theorem d_L_act_231 : decode b_L_act 231 = .ok (.iconst 3, 1) := by decide +kernel
theorem d_L_act_232 : decode b_L_act 232 = .ok (.iand, 1) := by decide +kernel
theorem d_L_act_233 : decode b_L_act 233 = .ok (.iload_n 2, 1) := by decide +kernel
theorem d_L_act_234 : decode b_L_act 234 = .ok (.iconst 2, 1) := by decide +kernel
theorem d_L_act_235 : decode b_L_act 235 = .ok (.ishr, 1) := by decide +kernel
theorem d_L_act_236 : decode b_L_act 236 = .ok (.bipush 23, 2) := by decide +kernel
theorem d_L_act_238 : decode b_L_act 238 = .ok (.irem, 1) := by decide +kernel
theorem d_L_act_239 : decode b_L_act 239 = .ok (.iconst 2, 1) := by decide +kernel
theorem d_L_act_240 : decode b_L_act 240 = .ok (.isub, 1) := by decide +kernel
theorem d_L_act_241 : decode b_L_act 241 = .ok (.invokevirtual 55, 3) := by decide +kernel
theorem d_L_act_244 : decode b_L_act 244 = .ok (.ireturn, 1) := by decide +kernel
theorem d_L_act_245 : decode b_L_act 245 = .ok (.iload_n 2, 1) := by decide +kernel
theorem d_L_act_246 : decode b_L_act 246 = .ok (.iconst 1, 1) := by decide +kernel
theorem d_L_act_247 : decode b_L_act 247 = .ok (.iand, 1) := by decide +kernel
theorem d_L_act_248 : decode b_L_act 248 = .ok (.ifCond .ne 25, 3) := by decide +kernel
theorem d_L_act_251 : decode b_L_act 251 = .ok (.aload_n 0, 1) := by decide +kernel
theorem d_L_act_252 : decode b_L_act 252 = .ok (.iload_n 2, 1) := by decide +kernel
theorem d_L_act_253 : decode b_L_act 253 = .ok (.iconst 1, 1) := by decide +kernel
theorem d_L_act_254 : decode b_L_act 254 = .ok (.ishr, 1) := by decide +kernel
theorem d_L_act_255 : decode b_L_act 255 = .ok (.iconst 3, 1) := by decide +kernel
theorem d_L_act_256 : decode b_L_act 256 = .ok (.iand, 1) := by decide +kernel
theorem d_L_act_257 : decode b_L_act 257 = .ok (.iload_n 2, 1) := by decide +kernel
theorem d_L_act_258 : decode b_L_act 258 = .ok (.iconst 3, 1) := by decide +kernel
theorem d_L_act_259 : decode b_L_act 259 = .ok (.ishr, 1) := by decide +kernel
theorem d_L_act_260 : decode b_L_act 260 = .ok (.bipush 20, 2) := by decide +kernel
theorem d_L_act_262 : decode b_L_act 262 = .ok (.irem, 1) := by decide +kernel
theorem d_L_act_263 : decode b_L_act 263 = .ok (.iload_n 2, 1) := by decide +kernel
theorem d_L_act_264 : decode b_L_act 264 = .ok (.iconst 5, 1) := by decide +kernel
theorem d_L_act_265 : decode b_L_act 265 = .ok (.ishr, 1) := by decide +kernel
theorem d_L_act_266 : decode b_L_act 266 = .ok (.i2l, 1) := by decide +kernel
theorem d_L_act_267 : decode b_L_act 267 = .ok (.invokevirtual 58, 3) := by decide +kernel
theorem d_L_act_270 : decode b_L_act 270 = .ok (.goto 12, 3) := by decide +kernel
theorem d_L_act_273 : decode b_L_act 273 = .ok (.aload_n 0, 1) := by decide +kernel
theorem d_L_act_274 : decode b_L_act 274 = .ok (.iload_n 2, 1) := by decide +kernel
theorem d_L_act_275 : decode b_L_act 275 = .ok (.iconst 1, 1) := by decide +kernel
theorem d_L_act_276 : decode b_L_act 276 = .ok (.ishr, 1) := by decide +kernel
theorem d_L_act_277 : decode b_L_act 277 = .ok (.iconst 3, 1) := by decide +kernel
theorem d_L_act_278 : decode b_L_act 278 = .ok (.iand, 1) := by decide +kernel
theorem d_L_act_279 : decode b_L_act 279 = .ok (.invokevirtual 62, 3) := by decide +kernel
theorem d_L_act_282 : decode b_L_act 282 = .ok (.ireturn, 1) := by decide +kernel
theorem d_L_act_283 : decode b_L_act 283 = .ok (.aload_n 0, 1) := by decide +kernel
theorem d_L_act_284 : decode b_L_act 284 = .ok (.invokevirtual 65, 3) := by decide +kernel
theorem d_L_act_287 : decode b_L_act 287 = .ok (.ireturn, 1) := by decide +kernel
theorem d_L_act_288 : decode b_L_act 288 = .ok (.aload_n 0, 1) := by decide +kernel
theorem d_L_act_289 : decode b_L_act 289 = .ok (.invokevirtual 68, 3) := by decide +kernel
theorem d_L_act_292 : decode b_L_act 292 = .ok (.ireturn, 1) := by decide +kernel
theorem d_L_isPair_0 : decode b_L_isPair 0 = .ok (.aload_n 0, 1) := by decide +kernel
theorem d_L_isPair_1 : decode b_L_isPair 1 = .ok (.iload_n 1, 1) := by decide +kernel
theorem d_L_isPair_2 : decode b_L_isPair 2 = .ok (.iload_n 2, 1) := by decide +kernel
theorem d_L_isPair_3 : decode b_L_isPair 3 = .ok (.iconst 0, 1) := by decide +kernel
theorem d_L_isPair_4 : decode b_L_isPair 4 = .ok (.invokevirtual 71, 3) := by decide +kernel
theorem d_L_isPair_7 : decode b_L_isPair 7 = .ok (.lstore_n 3, 1) := by decide +kernel
theorem d_L_isPair_8 : decode b_L_isPair 8 = .ok (.aload_n 0, 1) := by decide +kernel
theorem d_L_isPair_9 : decode b_L_isPair 9 = .ok (.iload_n 1, 1) := by decide +kernel
theorem d_L_isPair_10 : decode b_L_isPair 10 = .ok (.iload_n 2, 1) := by decide +kernel
theorem d_L_isPair_11 : decode b_L_isPair 11 = .ok (.iconst 1, 1) := by decide +kernel
theorem d_L_isPair_12 : decode b_L_isPair 12 = .ok (.invokevirtual 71, 3) := by decide +kernel
theorem d_L_isPair_15 : decode b_L_isPair 15 = .ok (.lstore 5, 2) := by decide +kernel
theorem d_L_isPair_17 : decode b_L_isPair 17 = .ok (.lload_n 3, 1) := by decide +kernel
theorem d_L_isPair_18 : decode b_L_isPair 18 = .ok (.aload_n 0, 1) := by decide +kernel
theorem d_L_isPair_19 : decode b_L_isPair 19 = .ok (.iload_n 2, 1) := by decide +kernel
theorem d_L_isPair_20 : decode b_L_isPair 20 = .ok (.iload_n 1, 1) := by decide +kernel
theorem d_L_isPair_21 : decode b_L_isPair 21 = .ok (.iconst 0, 1) := by decide +kernel
theorem d_L_isPair_22 : decode b_L_isPair 22 = .ok (.invokevirtual 71, 3) := by decide +kernel
theorem d_L_isPair_25 : decode b_L_isPair 25 = .ok (.lcmp, 1) := by decide +kernel
theorem d_L_isPair_26 : decode b_L_isPair 26 = .ok (.ifCond .ne 16, 3) := by decide +kernel
theorem d_L_isPair_29 : decode b_L_isPair 29 = .ok (.lload 5, 2) := by decide +kernel
theorem d_L_isPair_31 : decode b_L_isPair 31 = .ok (.aload_n 0, 1) := by decide +kernel
theorem d_L_isPair_32 : decode b_L_isPair 32 = .ok (.iload_n 2, 1) := by decide +kernel
theorem d_L_isPair_33 : decode b_L_isPair 33 = .ok (.iload_n 1, 1) := by decide +kernel
theorem d_L_isPair_34 : decode b_L_isPair 34 = .ok (.iconst 1, 1) := by decide +kernel
theorem d_L_isPair_35 : decode b_L_isPair 35 = .ok (.invokevirtual 71, 3) := by decide +kernel
theorem d_L_isPair_38 : decode b_L_isPair 38 = .ok (.lcmp, 1) := by decide +kernel
theorem d_L_isPair_39 : decode b_L_isPair 39 = .ok (.ifCond .eq 5, 3) := by decide +kernel
theorem d_L_isPair_42 : decode b_L_isPair 42 = .ok (.iconst 0, 1) := by decide +kernel
theorem d_L_isPair_43 : decode b_L_isPair 43 = .ok (.ireturn, 1) := by decide +kernel
theorem d_L_isPair_44 : decode b_L_isPair 44 = .ok (.lload_n 3, 1) := by decide +kernel
theorem d_L_isPair_45 : decode b_L_isPair 45 = .ok (.ldc2_w 75, 3) := by decide +kernel
theorem d_L_isPair_48 : decode b_L_isPair 48 = .ok (.lcmp, 1) := by decide +kernel
theorem d_L_isPair_49 : decode b_L_isPair 49 = .ok (.ifCond .eq 11, 3) := by decide +kernel
theorem d_L_isPair_52 : decode b_L_isPair 52 = .ok (.lload_n 3, 1) := by decide +kernel
theorem d_L_isPair_53 : decode b_L_isPair 53 = .ok (.ldc2_w 77, 3) := by decide +kernel
theorem d_L_isPair_56 : decode b_L_isPair 56 = .ok (.lcmp, 1) := by decide +kernel
theorem d_L_isPair_57 : decode b_L_isPair 57 = .ok (.ifCond .ne 65, 3) := by decide +kernel
theorem d_L_isPair_60 : decode b_L_isPair 60 = .ok (.lload 5, 2) := by decide +kernel
theorem d_L_isPair_62 : decode b_L_isPair 62 = .ok (.lload_n 3, 1) := by decide +kernel
theorem d_L_isPair_63 : decode b_L_isPair 63 = .ok (.lcmp, 1) := by decide +kernel
theorem d_L_isPair_64 : decode b_L_isPair 64 = .ok (.ifCond .ne 56, 3) := by decide +kernel
theorem d_L_isPair_67 : decode b_L_isPair 67 = .ok (.aload_n 0, 1) := by decide +kernel
theorem d_L_isPair_68 : decode b_L_isPair 68 = .ok (.iload_n 1, 1) := by decide +kernel
theorem d_L_isPair_69 : decode b_L_isPair 69 = .ok (.iload_n 2, 1) := by decide +kernel
theorem d_L_isPair_70 : decode b_L_isPair 70 = .ok (.iconst 0, 1) := by decide +kernel
theorem d_L_isPair_71 : decode b_L_isPair 71 = .ok (.invokevirtual 79, 3) := by decide +kernel
theorem d_L_isPair_74 : decode b_L_isPair 74 = .ok (.lload_n 3, 1) := by decide +kernel
theorem d_L_isPair_75 : decode b_L_isPair 75 = .ok (.lcmp, 1) := by decide +kernel
theorem d_L_isPair_76 : decode b_L_isPair 76 = .ok (.ifCond .ne 44, 3) := by decide +kernel
theorem d_L_isPair_79 : decode b_L_isPair 79 = .ok (.aload_n 0, 1) := by decide +kernel
theorem d_L_isPair_80 : decode b_L_isPair 80 = .ok (.iload_n 1, 1) := by decide +kernel
theorem d_L_isPair_81 : decode b_L_isPair 81 = .ok (.iconst 0, 1) := by decide +kernel
theorem d_L_isPair_82 : decode b_L_isPair 82 = .ok (.invokevirtual 82, 3) := by decide +kernel
theorem d_L_isPair_85 : decode b_L_isPair 85 = .ok (.ifCond .lt 17, 3) := by decide +kernel
theorem d_L_isPair_88 : decode b_L_isPair 88 = .ok (.aload_n 0, 1) := by decide +kernel
theorem d_L_isPair_89 : decode b_L_isPair 89 = .ok (.iload_n 2, 1) := by decide +kernel
theorem d_L_isPair_90 : decode b_L_isPair 90 = .ok (.iconst 0, 1) := by decide +kernel
theorem d_L_isPair_91 : decode b_L_isPair 91 = .ok (.invokevirtual 82, 3) := by decide +kernel
theorem d_L_isPair_94 : decode b_L_isPair 94 = .ok (.ifCond .lt 8, 3) := by decide +kernel
theorem d_L_isPair_97 : decode b_L_isPair 97 = .ok (.iload_n 1, 1) := by decide +kernel
theorem d_L_isPair_98 : decode b_L_isPair 98 = .ok (.iload_n 2, 1) := by decide +kernel
theorem d_L_isPair_99 : decode b_L_isPair 99 = .ok (.if_icmp .ne 21, 3) := by decide +kernel
theorem d_L_isPair_102 : decode b_L_isPair 102 = .ok (.aload_n 0, 1) := by decide +kernel
theorem d_L_isPair_103 : decode b_L_isPair 103 = .ok (.iload_n 1, 1) := by decide +kernel
theorem d_L_isPair_104 : decode b_L_isPair 104 = .ok (.iload_n 2, 1) := by decide +kernel
theorem d_L_isPair_105 : decode b_L_isPair 105 = .ok (.iconst 0, 1) := by decide +kernel
theorem d_L_isPair_106 : decode b_L_isPair 106 = .ok (.invokevirtual 85, 3) := by decide +kernel
theorem d_L_isPair_109 : decode b_L_isPair 109 = .ok (.ldc2_w 75, 3) := by decide +kernel
theorem d_L_isPair_112 : decode b_L_isPair 112 = .ok (.lcmp, 1) := by decide +kernel
theorem d_L_isPair_113 : decode b_L_isPair 113 = .ok (.ifCond .ne 7, 3) := by decide +kernel
theorem d_L_isPair_116 : decode b_L_isPair 116 = .ok (.iconst 1, 1) := by decide +kernel
theorem d_L_isPair_117 : decode b_L_isPair 117 = .ok (.goto 4, 3) := by decide +kernel
theorem d_L_isPair_120 : decode b_L_isPair 120 = .ok (.iconst 0, 1) := by decide +kernel
theorem d_L_isPair_121 : decode b_L_isPair 121 = .ok (.ireturn, 1) := by decide +kernel
theorem d_L_isPair_122 : decode b_L_isPair 122 = .ok (.aload_n 0, 1) := by decide +kernel
theorem d_L_isPair_123 : decode b_L_isPair 123 = .ok (.iload_n 1, 1) := by decide +kernel
theorem d_L_isPair_124 : decode b_L_isPair 124 = .ok (.iload_n 2, 1) := by decide +kernel
theorem d_L_isPair_125 : decode b_L_isPair 125 = .ok (.iconst 0, 1) := by decide +kernel
theorem d_L_isPair_126 : decode b_L_isPair 126 = .ok (.invokevirtual 79, 3) := by decide +kernel
theorem d_L_isPair_129 : decode b_L_isPair 129 = .ok (.lstore 7, 2) := by decide +kernel
theorem d_L_isPair_131 : decode b_L_isPair 131 = .ok (.aload_n 0, 1) := by decide +kernel
theorem d_L_isPair_132 : decode b_L_isPair 132 = .ok (.iload_n 1, 1) := by decide +kernel
theorem d_L_isPair_133 : decode b_L_isPair 133 = .ok (.iload_n 2, 1) := by decide +kernel
theorem d_L_isPair_134 : decode b_L_isPair 134 = .ok (.iconst 1, 1) := by decide +kernel
theorem d_L_isPair_135 : decode b_L_isPair 135 = .ok (.invokevirtual 79, 3) := by decide +kernel
theorem d_L_isPair_138 : decode b_L_isPair 138 = .ok (.lstore 9, 2) := by decide +kernel
theorem d_L_isPair_140 : decode b_L_isPair 140 = .ok (.aload_n 0, 1) := by decide +kernel
theorem d_L_isPair_141 : decode b_L_isPair 141 = .ok (.iload_n 1, 1) := by decide +kernel
theorem d_L_isPair_142 : decode b_L_isPair 142 = .ok (.iconst 0, 1) := by decide +kernel
theorem d_L_isPair_143 : decode b_L_isPair 143 = .ok (.invokevirtual 82, 3) := by decide +kernel
theorem d_L_isPair_146 : decode b_L_isPair 146 = .ok (.ifCond .lt 12, 3) := by decide +kernel
theorem d_L_isPair_149 : decode b_L_isPair 149 = .ok (.aload_n 0, 1) := by decide +kernel
theorem d_L_isPair_150 : decode b_L_isPair 150 = .ok (.iload_n 2, 1) := by decide +kernel
theorem d_L_isPair_151 : decode b_L_isPair 151 = .ok (.iconst 0, 1) := by decide +kernel
theorem d_L_isPair_152 : decode b_L_isPair 152 = .ok (.invokevirtual 82, 3) := by decide +kernel
theorem d_L_isPair_155 : decode b_L_isPair 155 = .ok (.ifCond .ge 7, 3) := by decide +kernel
theorem d_L_isPair_158 : decode b_L_isPair 158 = .ok (.iconst 1, 1) := by decide +kernel
theorem d_L_isPair_159 : decode b_L_isPair 159 = .ok (.goto 4, 3) := by decide +kernel
theorem d_L_isPair_162 : decode b_L_isPair 162 = .ok (.iconst 0, 1) := by decide +kernel
theorem d_L_isPair_163 : decode b_L_isPair 163 = .ok (.istore 11, 2) := by decide +kernel
theorem d_L_isPair_165 : decode b_L_isPair 165 = .ok (.lload_n 3, 1) := by decide +kernel
theorem d_L_isPair_166 : decode b_L_isPair 166 = .ok (.lconst 0, 1) := by decide +kernel
theorem d_L_isPair_167 : decode b_L_isPair 167 = .ok (.lcmp, 1) := by decide +kernel
theorem d_L_isPair_168 : decode b_L_isPair 168 = .ok (.ifCond .le 77, 3) := by decide +kernel
theorem d_L_isPair_171 : decode b_L_isPair 171 = .ok (.lload 5, 2) := by decide +kernel
theorem d_L_isPair_173 : decode b_L_isPair 173 = .ok (.lconst 1, 1) := by decide +kernel
theorem d_L_isPair_174 : decode b_L_isPair 174 = .ok (.lcmp, 1) := by decide +kernel
theorem d_L_isPair_175 : decode b_L_isPair 175 = .ok (.ifCond .lt 70, 3) := by decide +kernel
theorem d_L_isPair_178 : decode b_L_isPair 178 = .ok (.ldc2_w 88, 3) := by decide +kernel
theorem d_L_isPair_181 : decode b_L_isPair 181 = .ok (.lload 5, 2) := by decide +kernel
theorem d_L_isPair_183 : decode b_L_isPair 183 = .ok (.lrem, 1) := by decide +kernel
theorem d_L_isPair_184 : decode b_L_isPair 184 = .ok (.lconst 0, 1) := by decide +kernel
theorem d_L_isPair_185 : decode b_L_isPair 185 = .ok (.lcmp, 1) := by decide +kernel
theorem d_L_isPair_186 : decode b_L_isPair 186 = .ok (.ifCond .ne 59, 3) := by decide +kernel
theorem d_L_isPair_189 : decode b_L_isPair 189 = .ok (.lload 9, 2) := by decide +kernel
theorem d_L_isPair_191 : decode b_L_isPair 191 = .ok (.lconst 1, 1) := by decide +kernel
theorem d_L_isPair_192 : decode b_L_isPair 192 = .ok (.lcmp, 1) := by decide +kernel
theorem d_L_isPair_193 : decode b_L_isPair 193 = .ok (.ifCond .lt 52, 3) := by decide +kernel
theorem d_L_isPair_196 : decode b_L_isPair 196 = .ok (.lload 7, 2) := by decide +kernel
theorem d_L_isPair_198 : decode b_L_isPair 198 = .ok (.lconst 0, 1) := by decide +kernel
theorem d_L_isPair_199 : decode b_L_isPair 199 = .ok (.lcmp, 1) := by decide +kernel
theorem d_L_isPair_200 : decode b_L_isPair 200 = .ok (.ifCond .ge 7, 3) := by decide +kernel
theorem d_L_isPair_203 : decode b_L_isPair 203 = .ok (.iconst 1, 1) := by decide +kernel
theorem d_L_isPair_204 : decode b_L_isPair 204 = .ok (.goto 4, 3) := by decide +kernel
theorem d_L_isPair_207 : decode b_L_isPair 207 = .ok (.iconst 0, 1) := by decide +kernel
theorem d_L_isPair_208 : decode b_L_isPair 208 = .ok (.iload 11, 2) := by decide +kernel
theorem d_L_isPair_210 : decode b_L_isPair 210 = .ok (.if_icmp .eq 35, 3) := by decide +kernel
theorem d_L_isPair_213 : decode b_L_isPair 213 = .ok (.aload_n 0, 1) := by decide +kernel
theorem d_L_isPair_214 : decode b_L_isPair 214 = .ok (.iload_n 2, 1) := by decide +kernel
theorem d_L_isPair_215 : decode b_L_isPair 215 = .ok (.iload_n 1, 1) := by decide +kernel
theorem d_L_isPair_216 : decode b_L_isPair 216 = .ok (.iconst 0, 1) := by decide +kernel
theorem d_L_isPair_217 : decode b_L_isPair 217 = .ok (.invokevirtual 79, 3) := by decide +kernel
theorem d_L_isPair_220 : decode b_L_isPair 220 = .ok (.invokestatic 90, 3) := by decide +kernel
theorem d_L_isPair_223 : decode b_L_isPair 223 = .ok (.lload 9, 2) := by decide +kernel
theorem d_L_isPair_225 : decode b_L_isPair 225 = .ok (.lcmp, 1) := by decide +kernel
theorem d_L_isPair_226 : decode b_L_isPair 226 = .ok (.ifCond .ne 19, 3) := by decide +kernel
theorem d_L_isPair_229 : decode b_L_isPair 229 = .ok (.aload_n 0, 1) := by decide +kernel
theorem d_L_isPair_230 : decode b_L_isPair 230 = .ok (.iload_n 2, 1) := by decide +kernel
theorem d_L_isPair_231 : decode b_L_isPair 231 = .ok (.iload_n 1, 1) := by decide +kernel
theorem d_L_isPair_232 : decode b_L_isPair 232 = .ok (.iconst 1, 1) := by decide +kernel
theorem d_L_isPair_233 : decode b_L_isPair 233 = .ok (.invokevirtual 79, 3) := by decide +kernel
theorem d_L_isPair_236 : decode b_L_isPair 236 = .ok (.lload 7, 2) := by decide +kernel
theorem d_L_isPair_238 : decode b_L_isPair 238 = .ok (.invokestatic 90, 3) := by decide +kernel
theorem d_L_isPair_241 : decode b_L_isPair 241 = .ok (.lcmp, 1) := by decide +kernel
theorem d_L_isPair_242 : decode b_L_isPair 242 = .ok (.ifCond .eq 5, 3) := by decide +kernel
theorem d_L_isPair_245 : decode b_L_isPair 245 = .ok (.iconst 0, 1) := by decide +kernel
theorem d_L_isPair_246 : decode b_L_isPair 246 = .ok (.ireturn, 1) := by decide +kernel
theorem d_L_isPair_247 : decode b_L_isPair 247 = .ok (.iload 11, 2) := by decide +kernel
theorem d_L_isPair_249 : decode b_L_isPair 249 = .ok (.ifCond .eq 23, 3) := by decide +kernel
theorem d_L_isPair_252 : decode b_L_isPair 252 = .ok (.aload_n 0, 1) := by decide +kernel
theorem d_L_isPair_253 : decode b_L_isPair 253 = .ok (.iload_n 1, 1) := by decide +kernel
theorem d_L_isPair_254 : decode b_L_isPair 254 = .ok (.iload_n 2, 1) := by decide +kernel
theorem d_L_isPair_255 : decode b_L_isPair 255 = .ok (.iconst 0, 1) := by decide +kernel
theorem d_L_isPair_256 : decode b_L_isPair 256 = .ok (.invokevirtual 85, 3) := by decide +kernel
theorem d_L_isPair_259 : decode b_L_isPair 259 = .ok (.ldc2_w 75, 3) := by decide +kernel
theorem d_L_isPair_262 : decode b_L_isPair 262 = .ok (.lcmp, 1) := by decide +kernel
theorem d_L_isPair_263 : decode b_L_isPair 263 = .ok (.ifCond .ne 7, 3) := by decide +kernel
theorem d_L_isPair_266 : decode b_L_isPair 266 = .ok (.iconst 1, 1) := by decide +kernel
theorem d_L_isPair_267 : decode b_L_isPair 267 = .ok (.goto 4, 3) := by decide +kernel
theorem d_L_isPair_270 : decode b_L_isPair 270 = .ok (.iconst 0, 1) := by decide +kernel
theorem d_L_isPair_271 : decode b_L_isPair 271 = .ok (.ireturn, 1) := by decide +kernel
theorem d_L_isPair_272 : decode b_L_isPair 272 = .ok (.aload_n 0, 1) := by decide +kernel
theorem d_L_isPair_273 : decode b_L_isPair 273 = .ok (.iload_n 1, 1) := by decide +kernel
theorem d_L_isPair_274 : decode b_L_isPair 274 = .ok (.iload_n 2, 1) := by decide +kernel
theorem d_L_isPair_275 : decode b_L_isPair 275 = .ok (.iconst 0, 1) := by decide +kernel
theorem d_L_isPair_276 : decode b_L_isPair 276 = .ok (.invokevirtual 85, 3) := by decide +kernel
theorem d_L_isPair_279 : decode b_L_isPair 279 = .ok (.lconst 0, 1) := by decide +kernel
theorem d_L_isPair_280 : decode b_L_isPair 280 = .ok (.lcmp, 1) := by decide +kernel
theorem d_L_isPair_281 : decode b_L_isPair 281 = .ok (.ifCond .lt 71, 3) := by decide +kernel
theorem d_L_isPair_284 : decode b_L_isPair 284 = .ok (.aload_n 0, 1) := by decide +kernel
theorem d_L_isPair_285 : decode b_L_isPair 285 = .ok (.iload_n 1, 1) := by decide +kernel
theorem d_L_isPair_286 : decode b_L_isPair 286 = .ok (.iload_n 2, 1) := by decide +kernel
theorem d_L_isPair_287 : decode b_L_isPair 287 = .ok (.iconst 0, 1) := by decide +kernel
theorem d_L_isPair_288 : decode b_L_isPair 288 = .ok (.invokevirtual 85, 3) := by decide +kernel
theorem d_L_isPair_291 : decode b_L_isPair 291 = .ok (.aload_n 0, 1) := by decide +kernel
theorem d_L_isPair_292 : decode b_L_isPair 292 = .ok (.iload_n 1, 1) := by decide +kernel
theorem d_L_isPair_293 : decode b_L_isPair 293 = .ok (.iload_n 2, 1) := by decide +kernel
theorem d_L_isPair_294 : decode b_L_isPair 294 = .ok (.iconst 1, 1) := by decide +kernel
theorem d_L_isPair_295 : decode b_L_isPair 295 = .ok (.invokevirtual 85, 3) := by decide +kernel
theorem d_L_isPair_298 : decode b_L_isPair 298 = .ok (.lcmp, 1) := by decide +kernel
theorem d_L_isPair_299 : decode b_L_isPair 299 = .ok (.ifCond .gt 53, 3) := by decide +kernel
theorem d_L_isPair_302 : decode b_L_isPair 302 = .ok (.aload_n 0, 1) := by decide +kernel
theorem d_L_isPair_303 : decode b_L_isPair 303 = .ok (.iload_n 1, 1) := by decide +kernel
theorem d_L_isPair_304 : decode b_L_isPair 304 = .ok (.iload_n 2, 1) := by decide +kernel
theorem d_L_isPair_305 : decode b_L_isPair 305 = .ok (.iconst 1, 1) := by decide +kernel
theorem d_L_isPair_306 : decode b_L_isPair 306 = .ok (.invokevirtual 85, 3) := by decide +kernel
theorem d_L_isPair_309 : decode b_L_isPair 309 = .ok (.aload_n 0, 1) := by decide +kernel
theorem d_L_isPair_310 : decode b_L_isPair 310 = .ok (.iload_n 2, 1) := by decide +kernel
theorem d_L_isPair_311 : decode b_L_isPair 311 = .ok (.iload_n 1, 1) := by decide +kernel
theorem d_L_isPair_312 : decode b_L_isPair 312 = .ok (.iconst 1, 1) := by decide +kernel
theorem d_L_isPair_313 : decode b_L_isPair 313 = .ok (.invokevirtual 85, 3) := by decide +kernel
theorem d_L_isPair_316 : decode b_L_isPair 316 = .ok (.lcmp, 1) := by decide +kernel
theorem d_L_isPair_317 : decode b_L_isPair 317 = .ok (.ifCond .ne 35, 3) := by decide +kernel
theorem d_L_isPair_320 : decode b_L_isPair 320 = .ok (.lload_n 3, 1) := by decide +kernel
theorem d_L_isPair_321 : decode b_L_isPair 321 = .ok (.ldc2_w 96, 3) := by decide +kernel
theorem d_L_isPair_324 : decode b_L_isPair 324 = .ok (.lcmp, 1) := by decide +kernel
theorem d_L_isPair_325 : decode b_L_isPair 325 = .ok (.ifCond .gt 23, 3) := by decide +kernel
theorem d_L_isPair_328 : decode b_L_isPair 328 = .ok (.aload_n 0, 1) := by decide +kernel
theorem d_L_isPair_329 : decode b_L_isPair 329 = .ok (.iload_n 1, 1) := by decide +kernel
theorem d_L_isPair_330 : decode b_L_isPair 330 = .ok (.iload_n 2, 1) := by decide +kernel
theorem d_L_isPair_331 : decode b_L_isPair 331 = .ok (.lload_n 3, 1) := by decide +kernel
theorem d_L_isPair_332 : decode b_L_isPair 332 = .ok (.l2i, 1) := by decide +kernel
theorem d_L_isPair_333 : decode b_L_isPair 333 = .ok (.lload 5, 2) := by decide +kernel
theorem d_L_isPair_335 : decode b_L_isPair 335 = .ok (.l2i, 1) := by decide +kernel
theorem d_L_isPair_336 : decode b_L_isPair 336 = .ok (.invokevirtual 98, 3) := by decide +kernel
theorem d_L_isPair_339 : decode b_L_isPair 339 = .ok (.aload_n 0, 1) := by decide +kernel
theorem d_L_isPair_340 : decode b_L_isPair 340 = .ok (.iload_n 1, 1) := by decide +kernel
theorem d_L_isPair_341 : decode b_L_isPair 341 = .ok (.iconst 1, 1) := by decide +kernel
theorem d_L_isPair_342 : decode b_L_isPair 342 = .ok (.invokevirtual 82, 3) := by decide +kernel
theorem d_L_isPair_345 : decode b_L_isPair 345 = .ok (.if_icmp .ne 7, 3) := by decide +kernel
theorem d_L_isPair_348 : decode b_L_isPair 348 = .ok (.iconst 1, 1) := by decide +kernel
theorem d_L_isPair_349 : decode b_L_isPair 349 = .ok (.goto 4, 3) := by decide +kernel
theorem d_L_isPair_352 : decode b_L_isPair 352 = .ok (.iconst 0, 1) := by decide +kernel
theorem d_L_isPair_353 : decode b_L_isPair 353 = .ok (.ireturn, 1) := by decide +kernel
theorem d_L_isWheel_0 : decode b_L_isWheel 0 = .ok (.aload_n 0, 1) := by decide +kernel
theorem d_L_isWheel_1 : decode b_L_isWheel 1 = .ok (.iload_n 1, 1) := by decide +kernel
theorem d_L_isWheel_2 : decode b_L_isWheel 2 = .ok (.iconst 0, 1) := by decide +kernel
theorem d_L_isWheel_3 : decode b_L_isWheel 3 = .ok (.invokevirtual 82, 3) := by decide +kernel
theorem d_L_isWheel_6 : decode b_L_isWheel 6 = .ok (.istore_n 2, 1) := by decide +kernel
theorem d_L_isWheel_7 : decode b_L_isWheel 7 = .ok (.aload_n 0, 1) := by decide +kernel
theorem d_L_isWheel_8 : decode b_L_isWheel 8 = .ok (.iload_n 1, 1) := by decide +kernel
theorem d_L_isWheel_9 : decode b_L_isWheel 9 = .ok (.iconst 4, 1) := by decide +kernel
theorem d_L_isWheel_10 : decode b_L_isWheel 10 = .ok (.invokevirtual 82, 3) := by decide +kernel
theorem d_L_isWheel_13 : decode b_L_isWheel 13 = .ok (.istore_n 3, 1) := by decide +kernel
theorem d_L_isWheel_14 : decode b_L_isWheel 14 = .ok (.iload_n 2, 1) := by decide +kernel
theorem d_L_isWheel_15 : decode b_L_isWheel 15 = .ok (.ifCond .ge 40, 3) := by decide +kernel
theorem d_L_isWheel_18 : decode b_L_isWheel 18 = .ok (.iload_n 2, 1) := by decide +kernel
theorem d_L_isWheel_19 : decode b_L_isWheel 19 = .ok (.bipush (-20), 2) := by decide +kernel
theorem d_L_isWheel_21 : decode b_L_isWheel 21 = .ok (.if_icmp .gt 32, 3) := by decide +kernel
theorem d_L_isWheel_24 : decode b_L_isWheel 24 = .ok (.iload_n 3, 1) := by decide +kernel
theorem d_L_isWheel_25 : decode b_L_isWheel 25 = .ok (.sipush (-1001), 3) := by decide +kernel
theorem d_L_isWheel_28 : decode b_L_isWheel 28 = .ok (.if_icmp .ne 25, 3) := by decide +kernel
theorem d_L_isWheel_31 : decode b_L_isWheel 31 = .ok (.aload_n 0, 1) := by decide +kernel
theorem d_L_isWheel_32 : decode b_L_isWheel 32 = .ok (.iload_n 1, 1) := by decide +kernel
theorem d_L_isWheel_33 : decode b_L_isWheel 33 = .ok (.iconst 2, 1) := by decide +kernel
theorem d_L_isWheel_34 : decode b_L_isWheel 34 = .ok (.invokevirtual 82, 3) := by decide +kernel
theorem d_L_isWheel_37 : decode b_L_isWheel 37 = .ok (.ifCond .ne 16, 3) := by decide +kernel
theorem d_L_isWheel_40 : decode b_L_isWheel 40 = .ok (.aload_n 0, 1) := by decide +kernel
theorem d_L_isWheel_41 : decode b_L_isWheel 41 = .ok (.iload_n 1, 1) := by decide +kernel
theorem d_L_isWheel_42 : decode b_L_isWheel 42 = .ok (.iconst 3, 1) := by decide +kernel
theorem d_L_isWheel_43 : decode b_L_isWheel 43 = .ok (.invokevirtual 82, 3) := by decide +kernel
theorem d_L_isWheel_46 : decode b_L_isWheel 46 = .ok (.ifCond .ne 7, 3) := by decide +kernel
theorem d_L_isWheel_49 : decode b_L_isWheel 49 = .ok (.iconst 1, 1) := by decide +kernel
theorem d_L_isWheel_50 : decode b_L_isWheel 50 = .ok (.goto 4, 3) := by decide +kernel
theorem d_L_isWheel_53 : decode b_L_isWheel 53 = .ok (.iconst 0, 1) := by decide +kernel
theorem d_L_isWheel_54 : decode b_L_isWheel 54 = .ok (.ireturn, 1) := by decide +kernel
theorem d_L_isWheel_55 : decode b_L_isWheel 55 = .ok (.aload_n 0, 1) := by decide +kernel
theorem d_L_isWheel_56 : decode b_L_isWheel 56 = .ok (.iload_n 1, 1) := by decide +kernel
theorem d_L_isWheel_57 : decode b_L_isWheel 57 = .ok (.iconst 1, 1) := by decide +kernel
theorem d_L_isWheel_58 : decode b_L_isWheel 58 = .ok (.invokevirtual 82, 3) := by decide +kernel
theorem d_L_isWheel_61 : decode b_L_isWheel 61 = .ok (.istore 4, 2) := by decide +kernel
theorem d_L_isWheel_63 : decode b_L_isWheel 63 = .ok (.iload_n 2, 1) := by decide +kernel
theorem d_L_isWheel_64 : decode b_L_isWheel 64 = .ok (.iconst 5, 1) := by decide +kernel
theorem d_L_isWheel_65 : decode b_L_isWheel 65 = .ok (.if_icmp .lt 92, 3) := by decide +kernel
theorem d_L_isWheel_68 : decode b_L_isWheel 68 = .ok (.iload_n 3, 1) := by decide +kernel
theorem d_L_isWheel_69 : decode b_L_isWheel 69 = .ok (.bipush (-50), 2) := by decide +kernel
theorem d_L_isWheel_71 : decode b_L_isWheel 71 = .ok (.if_icmp .lt 86, 3) := by decide +kernel
theorem d_L_isWheel_74 : decode b_L_isWheel 74 = .ok (.iload_n 3, 1) := by decide +kernel
theorem d_L_isWheel_75 : decode b_L_isWheel 75 = .ok (.bipush 100, 2) := by decide +kernel
theorem d_L_isWheel_77 : decode b_L_isWheel 77 = .ok (.if_icmp .gt 80, 3) := by decide +kernel
theorem d_L_isWheel_80 : decode b_L_isWheel 80 = .ok (.aload_n 0, 1) := by decide +kernel
theorem d_L_isWheel_81 : decode b_L_isWheel 81 = .ok (.iload_n 1, 1) := by decide +kernel
theorem d_L_isWheel_82 : decode b_L_isWheel 82 = .ok (.iconst 2, 1) := by decide +kernel
theorem d_L_isWheel_83 : decode b_L_isWheel 83 = .ok (.invokevirtual 82, 3) := by decide +kernel
theorem d_L_isWheel_86 : decode b_L_isWheel 86 = .ok (.iconst 1, 1) := by decide +kernel
theorem d_L_isWheel_87 : decode b_L_isWheel 87 = .ok (.if_icmp .ne 7, 3) := by decide +kernel
theorem d_L_isWheel_90 : decode b_L_isWheel 90 = .ok (.iconst 1, 1) := by decide +kernel
theorem d_L_isWheel_91 : decode b_L_isWheel 91 = .ok (.goto 4, 3) := by decide +kernel
theorem d_L_isWheel_94 : decode b_L_isWheel 94 = .ok (.iconst 0, 1) := by decide +kernel
theorem d_L_isWheel_95 : decode b_L_isWheel 95 = .ok (.iload 4, 2) := by decide +kernel
theorem d_L_isWheel_97 : decode b_L_isWheel 97 = .ok (.iload_n 3, 1) := by decide +kernel
theorem d_L_isWheel_98 : decode b_L_isWheel 98 = .ok (.if_icmp .ge 7, 3) := by decide +kernel
theorem d_L_isWheel_101 : decode b_L_isWheel 101 = .ok (.iconst 1, 1) := by decide +kernel
theorem d_L_isWheel_102 : decode b_L_isWheel 102 = .ok (.goto 4, 3) := by decide +kernel
theorem d_L_isWheel_105 : decode b_L_isWheel 105 = .ok (.iconst 0, 1) := by decide +kernel
theorem d_L_isWheel_106 : decode b_L_isWheel 106 = .ok (.if_icmp .ne 51, 3) := by decide +kernel
theorem d_L_isWheel_109 : decode b_L_isWheel 109 = .ok (.aload_n 0, 1) := by decide +kernel
theorem d_L_isWheel_110 : decode b_L_isWheel 110 = .ok (.iload 4, 2) := by decide +kernel
theorem d_L_isWheel_112 : decode b_L_isWheel 112 = .ok (.invokevirtual 102, 3) := by decide +kernel
theorem d_L_isWheel_115 : decode b_L_isWheel 115 = .ok (.bipush (-2), 2) := by decide +kernel
theorem d_L_isWheel_117 : decode b_L_isWheel 117 = .ok (.if_icmp .eq 36, 3) := by decide +kernel
theorem d_L_isWheel_120 : decode b_L_isWheel 120 = .ok (.aload_n 0, 1) := by decide +kernel
theorem d_L_isWheel_121 : decode b_L_isWheel 121 = .ok (.iload_n 1, 1) := by decide +kernel
theorem d_L_isWheel_122 : decode b_L_isWheel 122 = .ok (.iconst 2, 1) := by decide +kernel
theorem d_L_isWheel_123 : decode b_L_isWheel 123 = .ok (.invokevirtual 82, 3) := by decide +kernel
theorem d_L_isWheel_126 : decode b_L_isWheel 126 = .ok (.iconst 1, 1) := by decide +kernel
theorem d_L_isWheel_127 : decode b_L_isWheel 127 = .ok (.if_icmp .ne 7, 3) := by decide +kernel
theorem d_L_isWheel_130 : decode b_L_isWheel 130 = .ok (.iconst 1, 1) := by decide +kernel
theorem d_L_isWheel_131 : decode b_L_isWheel 131 = .ok (.goto 4, 3) := by decide +kernel
theorem d_L_isWheel_134 : decode b_L_isWheel 134 = .ok (.iconst 0, 1) := by decide +kernel
theorem d_L_isWheel_135 : decode b_L_isWheel 135 = .ok (.iload_n 2, 1) := by decide +kernel
theorem d_L_isWheel_136 : decode b_L_isWheel 136 = .ok (.aload_n 0, 1) := by decide +kernel
theorem d_L_isWheel_137 : decode b_L_isWheel 137 = .ok (.iload 4, 2) := by decide +kernel
theorem d_L_isWheel_139 : decode b_L_isWheel 139 = .ok (.invokevirtual 102, 3) := by decide +kernel
theorem d_L_isWheel_142 : decode b_L_isWheel 142 = .ok (.if_icmp .ge 7, 3) := by decide +kernel
theorem d_L_isWheel_145 : decode b_L_isWheel 145 = .ok (.iconst 1, 1) := by decide +kernel
theorem d_L_isWheel_146 : decode b_L_isWheel 146 = .ok (.goto 4, 3) := by decide +kernel
theorem d_L_isWheel_149 : decode b_L_isWheel 149 = .ok (.iconst 0, 1) := by decide +kernel
theorem d_L_isWheel_150 : decode b_L_isWheel 150 = .ok (.if_icmp .ne 7, 3) := by decide +kernel
theorem d_L_isWheel_153 : decode b_L_isWheel 153 = .ok (.iconst 1, 1) := by decide +kernel
theorem d_L_isWheel_154 : decode b_L_isWheel 154 = .ok (.goto 4, 3) := by decide +kernel
theorem d_L_isWheel_157 : decode b_L_isWheel 157 = .ok (.iconst 0, 1) := by decide +kernel
theorem d_L_isWheel_158 : decode b_L_isWheel 158 = .ok (.ireturn, 1) := by decide +kernel
theorem d_L_isTrain_0 : decode b_L_isTrain 0 = .ok (.aload_n 0, 1) := by decide +kernel
theorem d_L_isTrain_1 : decode b_L_isTrain 1 = .ok (.iconst 1, 1) := by decide +kernel
theorem d_L_isTrain_2 : decode b_L_isTrain 2 = .ok (.invokevirtual 8, 3) := by decide +kernel
theorem d_L_isTrain_5 : decode b_L_isTrain 5 = .ok (.istore_n 1, 1) := by decide +kernel
theorem d_L_isTrain_6 : decode b_L_isTrain 6 = .ok (.aload_n 0, 1) := by decide +kernel
theorem d_L_isTrain_7 : decode b_L_isTrain 7 = .ok (.invokevirtual 31, 3) := by decide +kernel
theorem d_L_isTrain_10 : decode b_L_isTrain 10 = .ok (.istore_n 2, 1) := by decide +kernel
theorem d_L_isTrain_11 : decode b_L_isTrain 11 = .ok (.iload_n 1, 1) := by decide +kernel
theorem d_L_isTrain_12 : decode b_L_isTrain 12 = .ok (.ifCond .ne 39, 3) := by decide +kernel
theorem d_L_isTrain_15 : decode b_L_isTrain 15 = .ok (.iload_n 2, 1) := by decide +kernel
theorem d_L_isTrain_16 : decode b_L_isTrain 16 = .ok (.bipush (-2), 2) := by decide +kernel
theorem d_L_isTrain_18 : decode b_L_isTrain 18 = .ok (.if_icmp .ne 31, 3) := by decide +kernel
theorem d_L_isTrain_21 : decode b_L_isTrain 21 = .ok (.aload_n 0, 1) := by decide +kernel
theorem d_L_isTrain_22 : decode b_L_isTrain 22 = .ok (.iconst 0, 1) := by decide +kernel
theorem d_L_isTrain_23 : decode b_L_isTrain 23 = .ok (.invokevirtual 105, 3) := by decide +kernel
theorem d_L_isTrain_26 : decode b_L_isTrain 26 = .ok (.ldc2_w 75, 3) := by decide +kernel
theorem d_L_isTrain_29 : decode b_L_isTrain 29 = .ok (.lcmp, 1) := by decide +kernel
theorem d_L_isTrain_30 : decode b_L_isTrain 30 = .ok (.ifCond .ne 19, 3) := by decide +kernel
theorem d_L_isTrain_33 : decode b_L_isTrain 33 = .ok (.aload_n 0, 1) := by decide +kernel
theorem d_L_isTrain_34 : decode b_L_isTrain 34 = .ok (.iconst 0, 1) := by decide +kernel
theorem d_L_isTrain_35 : decode b_L_isTrain 35 = .ok (.invokevirtual 109, 3) := by decide +kernel
theorem d_L_isTrain_38 : decode b_L_isTrain 38 = .ok (.ldc2_w 75, 3) := by decide +kernel
theorem d_L_isTrain_41 : decode b_L_isTrain 41 = .ok (.lcmp, 1) := by decide +kernel
theorem d_L_isTrain_42 : decode b_L_isTrain 42 = .ok (.ifCond .ne 7, 3) := by decide +kernel
theorem d_L_isTrain_45 : decode b_L_isTrain 45 = .ok (.iconst 1, 1) := by decide +kernel
theorem d_L_isTrain_46 : decode b_L_isTrain 46 = .ok (.goto 4, 3) := by decide +kernel
theorem d_L_isTrain_49 : decode b_L_isTrain 49 = .ok (.iconst 0, 1) := by decide +kernel
theorem d_L_isTrain_50 : decode b_L_isTrain 50 = .ok (.ireturn, 1) := by decide +kernel
theorem d_L_isTrain_51 : decode b_L_isTrain 51 = .ok (.iload_n 2, 1) := by decide +kernel
theorem d_L_isTrain_52 : decode b_L_isTrain 52 = .ok (.ifCond .lt 38, 3) := by decide +kernel
theorem d_L_isTrain_55 : decode b_L_isTrain 55 = .ok (.iload_n 2, 1) := by decide +kernel
theorem d_L_isTrain_56 : decode b_L_isTrain 56 = .ok (.iload_n 1, 1) := by decide +kernel
theorem d_L_isTrain_57 : decode b_L_isTrain 57 = .ok (.if_icmp .ge 31, 3) := by decide +kernel
theorem d_L_isTrain_60 : decode b_L_isTrain 60 = .ok (.aload_n 0, 1) := by decide +kernel
theorem d_L_isTrain_61 : decode b_L_isTrain 61 = .ok (.iconst 1, 1) := by decide +kernel
theorem d_L_isTrain_62 : decode b_L_isTrain 62 = .ok (.invokevirtual 105, 3) := by decide +kernel
theorem d_L_isTrain_65 : decode b_L_isTrain 65 = .ok (.ldc2_w 77, 3) := by decide +kernel
theorem d_L_isTrain_68 : decode b_L_isTrain 68 = .ok (.lcmp, 1) := by decide +kernel
theorem d_L_isTrain_69 : decode b_L_isTrain 69 = .ok (.ifCond .ne 19, 3) := by decide +kernel
theorem d_L_isTrain_72 : decode b_L_isTrain 72 = .ok (.aload_n 0, 1) := by decide +kernel
theorem d_L_isTrain_73 : decode b_L_isTrain 73 = .ok (.iconst 2, 1) := by decide +kernel
theorem d_L_isTrain_74 : decode b_L_isTrain 74 = .ok (.invokevirtual 109, 3) := by decide +kernel
theorem d_L_isTrain_77 : decode b_L_isTrain 77 = .ok (.ldc2_w 77, 3) := by decide +kernel
theorem d_L_isTrain_80 : decode b_L_isTrain 80 = .ok (.lcmp, 1) := by decide +kernel
theorem d_L_isTrain_81 : decode b_L_isTrain 81 = .ok (.ifCond .ne 7, 3) := by decide +kernel
theorem d_L_isTrain_84 : decode b_L_isTrain 84 = .ok (.iconst 1, 1) := by decide +kernel
theorem d_L_isTrain_85 : decode b_L_isTrain 85 = .ok (.goto 4, 3) := by decide +kernel
theorem d_L_isTrain_88 : decode b_L_isTrain 88 = .ok (.iconst 0, 1) := by decide +kernel
theorem d_L_isTrain_89 : decode b_L_isTrain 89 = .ok (.ireturn, 1) := by decide +kernel
theorem d_L_isTrain_90 : decode b_L_isTrain 90 = .ok (.aload_n 0, 1) := by decide +kernel
theorem d_L_isTrain_91 : decode b_L_isTrain 91 = .ok (.iconst 0, 1) := by decide +kernel
theorem d_L_isTrain_92 : decode b_L_isTrain 92 = .ok (.invokevirtual 105, 3) := by decide +kernel
theorem d_L_isTrain_95 : decode b_L_isTrain 95 = .ok (.lstore_n 3, 1) := by decide +kernel
theorem d_L_isTrain_96 : decode b_L_isTrain 96 = .ok (.aload_n 0, 1) := by decide +kernel
theorem d_L_isTrain_97 : decode b_L_isTrain 97 = .ok (.iconst 1, 1) := by decide +kernel
theorem d_L_isTrain_98 : decode b_L_isTrain 98 = .ok (.invokevirtual 105, 3) := by decide +kernel
theorem d_L_isTrain_101 : decode b_L_isTrain 101 = .ok (.lstore 5, 2) := by decide +kernel
theorem d_L_isTrain_103 : decode b_L_isTrain 103 = .ok (.aload_n 0, 1) := by decide +kernel
theorem d_L_isTrain_104 : decode b_L_isTrain 104 = .ok (.iconst 0, 1) := by decide +kernel
theorem d_L_isTrain_105 : decode b_L_isTrain 105 = .ok (.invokevirtual 109, 3) := by decide +kernel
theorem d_L_isTrain_108 : decode b_L_isTrain 108 = .ok (.lstore 7, 2) := by decide +kernel
theorem d_L_isTrain_110 : decode b_L_isTrain 110 = .ok (.lload_n 3, 1) := by decide +kernel
theorem d_L_isTrain_111 : decode b_L_isTrain 111 = .ok (.lconst 0, 1) := by decide +kernel
theorem d_L_isTrain_112 : decode b_L_isTrain 112 = .ok (.lcmp, 1) := by decide +kernel
theorem d_L_isTrain_113 : decode b_L_isTrain 113 = .ok (.ifCond .eq 53, 3) := by decide +kernel
theorem d_L_isTrain_116 : decode b_L_isTrain 116 = .ok (.lload 5, 2) := by decide +kernel
theorem d_L_isTrain_118 : decode b_L_isTrain 118 = .ok (.lconst 0, 1) := by decide +kernel
theorem d_L_isTrain_119 : decode b_L_isTrain 119 = .ok (.lcmp, 1) := by decide +kernel
theorem d_L_isTrain_120 : decode b_L_isTrain 120 = .ok (.ifCond .le 46, 3) := by decide +kernel
theorem d_L_isTrain_123 : decode b_L_isTrain 123 = .ok (.lload 7, 2) := by decide +kernel
theorem d_L_isTrain_125 : decode b_L_isTrain 125 = .ok (.lconst 0, 1) := by decide +kernel
theorem d_L_isTrain_126 : decode b_L_isTrain 126 = .ok (.lcmp, 1) := by decide +kernel
theorem d_L_isTrain_127 : decode b_L_isTrain 127 = .ok (.ifCond .lt 39, 3) := by decide +kernel
theorem d_L_isTrain_130 : decode b_L_isTrain 130 = .ok (.lload 7, 2) := by decide +kernel
theorem d_L_isTrain_132 : decode b_L_isTrain 132 = .ok (.iload_n 1, 1) := by decide +kernel
theorem d_L_isTrain_133 : decode b_L_isTrain 133 = .ok (.i2l, 1) := by decide +kernel
theorem d_L_isTrain_134 : decode b_L_isTrain 134 = .ok (.lcmp, 1) := by decide +kernel
theorem d_L_isTrain_135 : decode b_L_isTrain 135 = .ok (.ifCond .ge 31, 3) := by decide +kernel
theorem d_L_isTrain_138 : decode b_L_isTrain 138 = .ok (.aload_n 0, 1) := by decide +kernel
theorem d_L_isTrain_139 : decode b_L_isTrain 139 = .ok (.iconst 1, 1) := by decide +kernel
theorem d_L_isTrain_140 : decode b_L_isTrain 140 = .ok (.invokevirtual 109, 3) := by decide +kernel
theorem d_L_isTrain_143 : decode b_L_isTrain 143 = .ok (.lconst 0, 1) := by decide +kernel
theorem d_L_isTrain_144 : decode b_L_isTrain 144 = .ok (.lcmp, 1) := by decide +kernel
theorem d_L_isTrain_145 : decode b_L_isTrain 145 = .ok (.ifCond .le 21, 3) := by decide +kernel
theorem d_L_isTrain_148 : decode b_L_isTrain 148 = .ok (.ldc2_w 88, 3) := by decide +kernel
theorem d_L_isTrain_151 : decode b_L_isTrain 151 = .ok (.aload_n 0, 1) := by decide +kernel
theorem d_L_isTrain_152 : decode b_L_isTrain 152 = .ok (.iconst 2, 1) := by decide +kernel
theorem d_L_isTrain_153 : decode b_L_isTrain 153 = .ok (.invokevirtual 109, 3) := by decide +kernel
theorem d_L_isTrain_156 : decode b_L_isTrain 156 = .ok (.lrem, 1) := by decide +kernel
theorem d_L_isTrain_157 : decode b_L_isTrain 157 = .ok (.lconst 0, 1) := by decide +kernel
theorem d_L_isTrain_158 : decode b_L_isTrain 158 = .ok (.lcmp, 1) := by decide +kernel
theorem d_L_isTrain_159 : decode b_L_isTrain 159 = .ok (.ifCond .ne 7, 3) := by decide +kernel
theorem d_L_isTrain_162 : decode b_L_isTrain 162 = .ok (.iconst 1, 1) := by decide +kernel
theorem d_L_isTrain_163 : decode b_L_isTrain 163 = .ok (.goto 4, 3) := by decide +kernel
theorem d_L_isTrain_166 : decode b_L_isTrain 166 = .ok (.iconst 0, 1) := by decide +kernel
theorem d_L_isTrain_167 : decode b_L_isTrain 167 = .ok (.ireturn, 1) := by decide +kernel
theorem d_L_areSets_0 : decode b_L_areSets 0 = .ok (.iconst 5, 1) := by decide +kernel
theorem d_L_areSets_1 : decode b_L_areSets 1 = .ok (.iload_n 1, 1) := by decide +kernel
theorem d_L_areSets_2 : decode b_L_areSets 2 = .ok (.iconst 3, 1) := by decide +kernel
theorem d_L_areSets_3 : decode b_L_areSets 3 = .ok (.ishr, 1) := by decide +kernel
theorem d_L_areSets_4 : decode b_L_areSets 4 = .ok (.bipush 127, 2) := by decide +kernel
theorem d_L_areSets_6 : decode b_L_areSets 6 = .ok (.iand, 1) := by decide +kernel
theorem d_L_areSets_7 : decode b_L_areSets 7 = .ok (.bipush 95, 2) := by decide +kernel
theorem d_L_areSets_9 : decode b_L_areSets 9 = .ok (.irem, 1) := by decide +kernel
theorem d_L_areSets_10 : decode b_L_areSets 10 = .ok (.iadd, 1) := by decide +kernel
theorem d_L_areSets_11 : decode b_L_areSets 11 = .ok (.istore_n 2, 1) := by decide +kernel
theorem d_L_areSets_12 : decode b_L_areSets 12 = .ok (.iconst 5, 1) := by decide +kernel
theorem d_L_areSets_13 : decode b_L_areSets 13 = .ok (.iload_n 1, 1) := by decide +kernel
theorem d_L_areSets_14 : decode b_L_areSets 14 = .ok (.bipush 10, 2) := by decide +kernel
theorem d_L_areSets_16 : decode b_L_areSets 16 = .ok (.ishr, 1) := by decide +kernel
theorem d_L_areSets_17 : decode b_L_areSets 17 = .ok (.bipush 127, 2) := by decide +kernel
theorem d_L_areSets_19 : decode b_L_areSets 19 = .ok (.iand, 1) := by decide +kernel
theorem d_L_areSets_20 : decode b_L_areSets 20 = .ok (.bipush 95, 2) := by decide +kernel
theorem d_L_areSets_22 : decode b_L_areSets 22 = .ok (.irem, 1) := by decide +kernel
theorem d_L_areSets_23 : decode b_L_areSets 23 = .ok (.iadd, 1) := by decide +kernel
theorem d_L_areSets_24 : decode b_L_areSets 24 = .ok (.istore_n 3, 1) := by decide +kernel
theorem d_L_areSets_25 : decode b_L_areSets 25 = .ok (.aload_n 0, 1) := by decide +kernel
theorem d_L_areSets_26 : decode b_L_areSets 26 = .ok (.iload_n 2, 1) := by decide +kernel
theorem d_L_areSets_27 : decode b_L_areSets 27 = .ok (.iload_n 3, 1) := by decide +kernel
theorem d_L_areSets_28 : decode b_L_areSets 28 = .ok (.invokevirtual 112, 3) := by decide +kernel
theorem d_L_areSets_31 : decode b_L_areSets 31 = .ok (.istore 4, 2) := by decide +kernel
theorem d_L_areSets_33 : decode b_L_areSets 33 = .ok (.iconst 1, 1) := by decide +kernel
theorem d_L_areSets_34 : decode b_L_areSets 34 = .ok (.istore 5, 2) := by decide +kernel
theorem d_L_areSets_36 : decode b_L_areSets 36 = .ok (.iload 5, 2) := by decide +kernel
theorem d_L_areSets_38 : decode b_L_areSets 38 = .ok (.bipush 9, 2) := by decide +kernel
theorem d_L_areSets_40 : decode b_L_areSets 40 = .ok (.if_icmp .ge 122, 3) := by decide +kernel
theorem d_L_areSets_43 : decode b_L_areSets 43 = .ok (.aload_n 0, 1) := by decide +kernel
theorem d_L_areSets_44 : decode b_L_areSets 44 = .ok (.iload_n 2, 1) := by decide +kernel
theorem d_L_areSets_45 : decode b_L_areSets 45 = .ok (.iload_n 3, 1) := by decide +kernel
theorem d_L_areSets_46 : decode b_L_areSets 46 = .ok (.iload 5, 2) := by decide +kernel
theorem d_L_areSets_48 : decode b_L_areSets 48 = .ok (.invokevirtual 115, 3) := by decide +kernel
theorem d_L_areSets_51 : decode b_L_areSets 51 = .ok (.istore 6, 2) := by decide +kernel
theorem d_L_areSets_53 : decode b_L_areSets 53 = .ok (.iload 6, 2) := by decide +kernel
theorem d_L_areSets_55 : decode b_L_areSets 55 = .ok (.iconst 1, 1) := by decide +kernel
theorem d_L_areSets_56 : decode b_L_areSets 56 = .ok (.if_icmp .eq 23, 3) := by decide +kernel
theorem d_L_areSets_59 : decode b_L_areSets 59 = .ok (.iload 6, 2) := by decide +kernel
theorem d_L_areSets_61 : decode b_L_areSets 61 = .ok (.iconst (-1), 1) := by decide +kernel
theorem d_L_areSets_62 : decode b_L_areSets 62 = .ok (.if_icmp .eq 17, 3) := by decide +kernel
theorem d_L_areSets_65 : decode b_L_areSets 65 = .ok (.iload 6, 2) := by decide +kernel
theorem d_L_areSets_67 : decode b_L_areSets 67 = .ok (.bipush (-2), 2) := by decide +kernel
theorem d_L_areSets_69 : decode b_L_areSets 69 = .ok (.if_icmp .eq 10, 3) := by decide +kernel
theorem d_L_areSets_72 : decode b_L_areSets 72 = .ok (.iload 6, 2) := by decide +kernel
theorem d_L_areSets_74 : decode b_L_areSets 74 = .ok (.bipush (-3), 2) := by decide +kernel
theorem d_L_areSets_76 : decode b_L_areSets 76 = .ok (.if_icmp .ne 78, 3) := by decide +kernel
theorem d_L_areSets_79 : decode b_L_areSets 79 = .ok (.iload 5, 2) := by decide +kernel
theorem d_L_areSets_81 : decode b_L_areSets 81 = .ok (.iconst 1, 1) := by decide +kernel
theorem d_L_areSets_82 : decode b_L_areSets 82 = .ok (.if_icmp .ne 9, 3) := by decide +kernel
theorem d_L_areSets_85 : decode b_L_areSets 85 = .ok (.iload 6, 2) := by decide +kernel
theorem d_L_areSets_87 : decode b_L_areSets 87 = .ok (.iconst 1, 1) := by decide +kernel
theorem d_L_areSets_88 : decode b_L_areSets 88 = .ok (.if_icmp .ne 66, 3) := by decide +kernel
theorem d_L_areSets_91 : decode b_L_areSets 91 = .ok (.iload 5, 2) := by decide +kernel
theorem d_L_areSets_93 : decode b_L_areSets 93 = .ok (.iload 4, 2) := by decide +kernel
theorem d_L_areSets_95 : decode b_L_areSets 95 = .ok (.if_icmp .ne 9, 3) := by decide +kernel
theorem d_L_areSets_98 : decode b_L_areSets 98 = .ok (.iload 6, 2) := by decide +kernel
theorem d_L_areSets_100 : decode b_L_areSets 100 = .ok (.iconst 1, 1) := by decide +kernel
theorem d_L_areSets_101 : decode b_L_areSets 101 = .ok (.if_icmp .ne 53, 3) := by decide +kernel
theorem d_L_areSets_104 : decode b_L_areSets 104 = .ok (.iload 5, 2) := by decide +kernel
theorem d_L_areSets_106 : decode b_L_areSets 106 = .ok (.iload 4, 2) := by decide +kernel
theorem d_L_areSets_108 : decode b_L_areSets 108 = .ok (.if_icmp .le 9, 3) := by decide +kernel
theorem d_L_areSets_111 : decode b_L_areSets 111 = .ok (.iload 6, 2) := by decide +kernel
theorem d_L_areSets_113 : decode b_L_areSets 113 = .ok (.iconst 1, 1) := by decide +kernel
theorem d_L_areSets_114 : decode b_L_areSets 114 = .ok (.if_icmp .eq 40, 3) := by decide +kernel
theorem d_L_areSets_117 : decode b_L_areSets 117 = .ok (.iload 6, 2) := by decide +kernel
theorem d_L_areSets_119 : decode b_L_areSets 119 = .ok (.iconst 1, 1) := by decide +kernel
theorem d_L_areSets_120 : decode b_L_areSets 120 = .ok (.if_icmp .eq 10, 3) := by decide +kernel
theorem d_L_areSets_123 : decode b_L_areSets 123 = .ok (.iload 6, 2) := by decide +kernel
theorem d_L_areSets_125 : decode b_L_areSets 125 = .ok (.bipush (-2), 2) := by decide +kernel
theorem d_L_areSets_127 : decode b_L_areSets 127 = .ok (.if_icmp .ne 7, 3) := by decide +kernel
theorem d_L_areSets_130 : decode b_L_areSets 130 = .ok (.iconst 1, 1) := by decide +kernel
theorem d_L_areSets_131 : decode b_L_areSets 131 = .ok (.goto 4, 3) := by decide +kernel
theorem d_L_areSets_134 : decode b_L_areSets 134 = .ok (.iconst 0, 1) := by decide +kernel
theorem d_L_areSets_135 : decode b_L_areSets 135 = .ok (.iconst 2, 1) := by decide +kernel
theorem d_L_areSets_136 : decode b_L_areSets 136 = .ok (.iload_n 2, 1) := by decide +kernel
theorem d_L_areSets_137 : decode b_L_areSets 137 = .ok (.iload_n 3, 1) := by decide +kernel
theorem d_L_areSets_138 : decode b_L_areSets 138 = .ok (.iadd, 1) := by decide +kernel
theorem d_L_areSets_139 : decode b_L_areSets 139 = .ok (.imul, 1) := by decide +kernel
theorem d_L_areSets_140 : decode b_L_areSets 140 = .ok (.iload 5, 2) := by decide +kernel
theorem d_L_areSets_142 : decode b_L_areSets 142 = .ok (.irem, 1) := by decide +kernel
theorem d_L_areSets_143 : decode b_L_areSets 143 = .ok (.ifCond .ne 7, 3) := by decide +kernel
theorem d_L_areSets_146 : decode b_L_areSets 146 = .ok (.iconst 1, 1) := by decide +kernel
theorem d_L_areSets_147 : decode b_L_areSets 147 = .ok (.goto 4, 3) := by decide +kernel
theorem d_L_areSets_150 : decode b_L_areSets 150 = .ok (.iconst 0, 1) := by decide +kernel
theorem d_L_areSets_151 : decode b_L_areSets 151 = .ok (.if_icmp .eq 5, 3) := by decide +kernel
theorem d_L_areSets_154 : decode b_L_areSets 154 = .ok (.iconst 0, 1) := by decide +kernel
theorem d_L_areSets_155 : decode b_L_areSets 155 = .ok (.ireturn, 1) := by decide +kernel
theorem d_L_areSets_156 : decode b_L_areSets 156 = .ok (.iinc 5 1, 3) := by decide +kernel
theorem d_L_areSets_159 : decode b_L_areSets 159 = .ok (.goto (-123), 3) := by decide +kernel
theorem d_L_areSets_162 : decode b_L_areSets 162 = .ok (.iconst 0, 1) := by decide +kernel
theorem d_L_areSets_163 : decode b_L_areSets 163 = .ok (.istore 5, 2) := by decide +kernel
theorem d_L_areSets_165 : decode b_L_areSets 165 = .ok (.iload 5, 2) := by decide +kernel
theorem d_L_areSets_167 : decode b_L_areSets 167 = .ok (.iconst 3, 1) := by decide +kernel
theorem d_L_areSets_168 : decode b_L_areSets 168 = .ok (.if_icmp .ge 153, 3) := by decide +kernel
theorem d_L_areSets_171 : decode b_L_areSets 171 = .ok (.iconst 0, 1) := by decide +kernel
theorem d_L_areSets_172 : decode b_L_areSets 172 = .ok (.istore 6, 2) := by decide +kernel
theorem d_L_areSets_174 : decode b_L_areSets 174 = .ok (.iload 6, 2) := by decide +kernel
theorem d_L_areSets_176 : decode b_L_areSets 176 = .ok (.iconst 3, 1) := by decide +kernel
theorem d_L_areSets_177 : decode b_L_areSets 177 = .ok (.if_icmp .ge 138, 3) := by decide +kernel
theorem d_L_areSets_180 : decode b_L_areSets 180 = .ok (.aload_n 0, 1) := by decide +kernel
theorem d_L_areSets_181 : decode b_L_areSets 181 = .ok (.iload_n 2, 1) := by decide +kernel
theorem d_L_areSets_182 : decode b_L_areSets 182 = .ok (.iload_n 3, 1) := by decide +kernel
theorem d_L_areSets_183 : decode b_L_areSets 183 = .ok (.iload 5, 2) := by decide +kernel
theorem d_L_areSets_185 : decode b_L_areSets 185 = .ok (.iload 6, 2) := by decide +kernel
theorem d_L_areSets_187 : decode b_L_areSets 187 = .ok (.iconst 0, 1) := by decide +kernel
theorem d_L_areSets_188 : decode b_L_areSets 188 = .ok (.invokevirtual 119, 3) := by decide +kernel
theorem d_L_areSets_191 : decode b_L_areSets 191 = .ok (.lstore 7, 2) := by decide +kernel
theorem d_L_areSets_193 : decode b_L_areSets 193 = .ok (.aload_n 0, 1) := by decide +kernel
theorem d_L_areSets_194 : decode b_L_areSets 194 = .ok (.iload_n 2, 1) := by decide +kernel
theorem d_L_areSets_195 : decode b_L_areSets 195 = .ok (.iload_n 3, 1) := by decide +kernel
theorem d_L_areSets_196 : decode b_L_areSets 196 = .ok (.iload 5, 2) := by decide +kernel
theorem d_L_areSets_198 : decode b_L_areSets 198 = .ok (.iload 6, 2) := by decide +kernel
theorem d_L_areSets_200 : decode b_L_areSets 200 = .ok (.iconst 1, 1) := by decide +kernel
theorem d_L_areSets_201 : decode b_L_areSets 201 = .ok (.invokevirtual 119, 3) := by decide +kernel
theorem d_L_areSets_204 : decode b_L_areSets 204 = .ok (.lstore 9, 2) := by decide +kernel
theorem d_L_areSets_206 : decode b_L_areSets 206 = .ok (.iconst 3, 1) := by decide +kernel
theorem d_L_areSets_207 : decode b_L_areSets 207 = .ok (.iload 5, 2) := by decide +kernel
theorem d_L_areSets_209 : decode b_L_areSets 209 = .ok (.isub, 1) := by decide +kernel
theorem d_L_areSets_210 : decode b_L_areSets 210 = .ok (.iload 6, 2) := by decide +kernel
theorem d_L_areSets_212 : decode b_L_areSets 212 = .ok (.isub, 1) := by decide +kernel
theorem d_L_areSets_213 : decode b_L_areSets 213 = .ok (.istore 11, 2) := by decide +kernel
theorem d_L_areSets_215 : decode b_L_areSets 215 = .ok (.iload 5, 2) := by decide +kernel
theorem d_L_areSets_217 : decode b_L_areSets 217 = .ok (.iload 6, 2) := by decide +kernel
theorem d_L_areSets_219 : decode b_L_areSets 219 = .ok (.if_icmp .ne 15, 3) := by decide +kernel
theorem d_L_areSets_222 : decode b_L_areSets 222 = .ok (.lload 7, 2) := by decide +kernel
theorem d_L_areSets_224 : decode b_L_areSets 224 = .ok (.ldc2_w 75, 3) := by decide +kernel
theorem d_L_areSets_227 : decode b_L_areSets 227 = .ok (.lcmp, 1) := by decide +kernel
theorem d_L_areSets_228 : decode b_L_areSets 228 = .ok (.ifCond .eq 81, 3) := by decide +kernel
theorem d_L_areSets_231 : decode b_L_areSets 231 = .ok (.goto 76, 3) := by decide +kernel
theorem d_L_areSets_234 : decode b_L_areSets 234 = .ok (.lload 9, 2) := by decide +kernel
theorem d_L_areSets_236 : decode b_L_areSets 236 = .ok (.lconst 1, 1) := by decide +kernel
theorem d_L_areSets_237 : decode b_L_areSets 237 = .ok (.lcmp, 1) := by decide +kernel
theorem d_L_areSets_238 : decode b_L_areSets 238 = .ok (.ifCond .lt 69, 3) := by decide +kernel
theorem d_L_areSets_241 : decode b_L_areSets 241 = .ok (.lload 7, 2) := by decide +kernel
theorem d_L_areSets_243 : decode b_L_areSets 243 = .ok (.lconst 0, 1) := by decide +kernel
theorem d_L_areSets_244 : decode b_L_areSets 244 = .ok (.lcmp, 1) := by decide +kernel
theorem d_L_areSets_245 : decode b_L_areSets 245 = .ok (.ifCond .ge 7, 3) := by decide +kernel
theorem d_L_areSets_248 : decode b_L_areSets 248 = .ok (.iconst 1, 1) := by decide +kernel
theorem d_L_areSets_249 : decode b_L_areSets 249 = .ok (.goto 4, 3) := by decide +kernel
theorem d_L_areSets_252 : decode b_L_areSets 252 = .ok (.iconst 0, 1) := by decide +kernel
theorem d_L_areSets_253 : decode b_L_areSets 253 = .ok (.iload 6, 2) := by decide +kernel
theorem d_L_areSets_255 : decode b_L_areSets 255 = .ok (.iconst 1, 1) := by decide +kernel
theorem d_L_areSets_256 : decode b_L_areSets 256 = .ok (.if_icmp .ne 7, 3) := by decide +kernel
theorem d_L_areSets_259 : decode b_L_areSets 259 = .ok (.iconst 1, 1) := by decide +kernel
theorem d_L_areSets_260 : decode b_L_areSets 260 = .ok (.goto 4, 3) := by decide +kernel
theorem d_L_areSets_263 : decode b_L_areSets 263 = .ok (.iconst 0, 1) := by decide +kernel
theorem d_L_areSets_264 : decode b_L_areSets 264 = .ok (.if_icmp .ne 43, 3) := by decide +kernel
theorem d_L_areSets_267 : decode b_L_areSets 267 = .ok (.aload_n 0, 1) := by decide +kernel
theorem d_L_areSets_268 : decode b_L_areSets 268 = .ok (.iload_n 2, 1) := by decide +kernel
theorem d_L_areSets_269 : decode b_L_areSets 269 = .ok (.iload_n 3, 1) := by decide +kernel
theorem d_L_areSets_270 : decode b_L_areSets 270 = .ok (.iload 11, 2) := by decide +kernel
theorem d_L_areSets_272 : decode b_L_areSets 272 = .ok (.iload 6, 2) := by decide +kernel
theorem d_L_areSets_274 : decode b_L_areSets 274 = .ok (.iconst 0, 1) := by decide +kernel
theorem d_L_areSets_275 : decode b_L_areSets 275 = .ok (.invokevirtual 119, 3) := by decide +kernel
theorem d_L_areSets_278 : decode b_L_areSets 278 = .ok (.invokestatic 90, 3) := by decide +kernel
theorem d_L_areSets_281 : decode b_L_areSets 281 = .ok (.lload 9, 2) := by decide +kernel
theorem d_L_areSets_283 : decode b_L_areSets 283 = .ok (.lcmp, 1) := by decide +kernel
theorem d_L_areSets_284 : decode b_L_areSets 284 = .ok (.ifCond .ne 23, 3) := by decide +kernel
theorem d_L_areSets_287 : decode b_L_areSets 287 = .ok (.aload_n 0, 1) := by decide +kernel
theorem d_L_areSets_288 : decode b_L_areSets 288 = .ok (.iload_n 2, 1) := by decide +kernel
theorem d_L_areSets_289 : decode b_L_areSets 289 = .ok (.iload_n 3, 1) := by decide +kernel
theorem d_L_areSets_290 : decode b_L_areSets 290 = .ok (.iload 11, 2) := by decide +kernel
theorem d_L_areSets_292 : decode b_L_areSets 292 = .ok (.iload 6, 2) := by decide +kernel
theorem d_L_areSets_294 : decode b_L_areSets 294 = .ok (.iconst 1, 1) := by decide +kernel
theorem d_L_areSets_295 : decode b_L_areSets 295 = .ok (.invokevirtual 119, 3) := by decide +kernel
theorem d_L_areSets_298 : decode b_L_areSets 298 = .ok (.lload 7, 2) := by decide +kernel
theorem d_L_areSets_300 : decode b_L_areSets 300 = .ok (.invokestatic 90, 3) := by decide +kernel
theorem d_L_areSets_303 : decode b_L_areSets 303 = .ok (.lcmp, 1) := by decide +kernel
theorem d_L_areSets_304 : decode b_L_areSets 304 = .ok (.ifCond .eq 5, 3) := by decide +kernel
theorem d_L_areSets_307 : decode b_L_areSets 307 = .ok (.iconst 0, 1) := by decide +kernel
theorem d_L_areSets_308 : decode b_L_areSets 308 = .ok (.ireturn, 1) := by decide +kernel
theorem d_L_areSets_309 : decode b_L_areSets 309 = .ok (.iinc 6 1, 3) := by decide +kernel
theorem d_L_areSets_312 : decode b_L_areSets 312 = .ok (.goto (-138), 3) := by decide +kernel
theorem d_L_areSets_315 : decode b_L_areSets 315 = .ok (.iinc 5 1, 3) := by decide +kernel
theorem d_L_areSets_318 : decode b_L_areSets 318 = .ok (.goto (-153), 3) := by decide +kernel
theorem d_L_areSets_321 : decode b_L_areSets 321 = .ok (.bipush 100, 2) := by decide +kernel
theorem d_L_areSets_323 : decode b_L_areSets 323 = .ok (.iconst 2, 1) := by decide +kernel
theorem d_L_areSets_324 : decode b_L_areSets 324 = .ok (.iload_n 1, 1) := by decide +kernel
theorem d_L_areSets_325 : decode b_L_areSets 325 = .ok (.iconst 5, 1) := by decide +kernel
theorem d_L_areSets_326 : decode b_L_areSets 326 = .ok (.ishr, 1) := by decide +kernel
theorem d_L_areSets_327 : decode b_L_areSets 327 = .ok (.bipush 15, 2) := by decide +kernel
theorem d_L_areSets_329 : decode b_L_areSets 329 = .ok (.iand, 1) := by decide +kernel
theorem d_L_areSets_330 : decode b_L_areSets 330 = .ok (.iadd, 1) := by decide +kernel
theorem d_L_areSets_331 : decode b_L_areSets 331 = .ok (.imul, 1) := by decide +kernel
theorem d_L_areSets_332 : decode b_L_areSets 332 = .ok (.iconst 1, 1) := by decide +kernel
theorem d_L_areSets_333 : decode b_L_areSets 333 = .ok (.iadd, 1) := by decide +kernel
theorem d_L_areSets_334 : decode b_L_areSets 334 = .ok (.iload_n 1, 1) := by decide +kernel
theorem d_L_areSets_335 : decode b_L_areSets 335 = .ok (.bipush 9, 2) := by decide +kernel
theorem d_L_areSets_337 : decode b_L_areSets 337 = .ok (.ishr, 1) := by decide +kernel
theorem d_L_areSets_338 : decode b_L_areSets 338 = .ok (.iconst 3, 1) := by decide +kernel
theorem d_L_areSets_339 : decode b_L_areSets 339 = .ok (.iand, 1) := by decide +kernel
theorem d_L_areSets_340 : decode b_L_areSets 340 = .ok (.iadd, 1) := by decide +kernel
theorem d_L_areSets_341 : decode b_L_areSets 341 = .ok (.istore 5, 2) := by decide +kernel
theorem d_L_areSets_343 : decode b_L_areSets 343 = .ok (.iload_n 1, 1) := by decide +kernel
theorem d_L_areSets_344 : decode b_L_areSets 344 = .ok (.bipush 11, 2) := by decide +kernel
theorem d_L_areSets_346 : decode b_L_areSets 346 = .ok (.ishr, 1) := by decide +kernel
theorem d_L_areSets_347 : decode b_L_areSets 347 = .ok (.bipush 127, 2) := by decide +kernel
theorem d_L_areSets_349 : decode b_L_areSets 349 = .ok (.iand, 1) := by decide +kernel
theorem d_L_areSets_350 : decode b_L_areSets 350 = .ok (.istore 6, 2) := by decide +kernel
theorem d_L_areSets_352 : decode b_L_areSets 352 = .ok (.iconst 1, 1) := by decide +kernel
theorem d_L_areSets_353 : decode b_L_areSets 353 = .ok (.iload_n 1, 1) := by decide +kernel
theorem d_L_areSets_354 : decode b_L_areSets 354 = .ok (.iconst 4, 1) := by decide +kernel
theorem d_L_areSets_355 : decode b_L_areSets 355 = .ok (.ishr, 1) := by decide +kernel
theorem d_L_areSets_356 : decode b_L_areSets 356 = .ok (.iconst 3, 1) := by decide +kernel
theorem d_L_areSets_357 : decode b_L_areSets 357 = .ok (.iand, 1) := by decide +kernel
theorem d_L_areSets_358 : decode b_L_areSets 358 = .ok (.iadd, 1) := by decide +kernel
theorem d_L_areSets_359 : decode b_L_areSets 359 = .ok (.istore 7, 2) := by decide +kernel
theorem d_L_areSets_361 : decode b_L_areSets 361 = .ok (.aload_n 0, 1) := by decide +kernel
theorem d_L_areSets_362 : decode b_L_areSets 362 = .ok (.sipush 1030, 3) := by decide +kernel
theorem d_L_areSets_365 : decode b_L_areSets 365 = .ok (.iload 7, 2) := by decide +kernel
theorem d_L_areSets_367 : decode b_L_areSets 367 = .ok (.iload 5, 2) := by decide +kernel
theorem d_L_areSets_369 : decode b_L_areSets 369 = .ok (.iload 6, 2) := by decide +kernel
theorem d_L_areSets_371 : decode b_L_areSets 371 = .ok (.iconst 0, 1) := by decide +kernel
theorem d_L_areSets_372 : decode b_L_areSets 372 = .ok (.invokevirtual 123, 3) := by decide +kernel
theorem d_L_areSets_375 : decode b_L_areSets 375 = .ok (.istore 8, 2) := by decide +kernel
theorem d_L_areSets_377 : decode b_L_areSets 377 = .ok (.iload 8, 2) := by decide +kernel
theorem d_L_areSets_379 : decode b_L_areSets 379 = .ok (.ifCond .ne 28, 3) := by decide +kernel
theorem d_L_areSets_382 : decode b_L_areSets 382 = .ok (.aload_n 0, 1) := by decide +kernel
theorem d_L_areSets_383 : decode b_L_areSets 383 = .ok (.sipush 1030, 3) := by decide +kernel
theorem d_L_areSets_386 : decode b_L_areSets 386 = .ok (.iload 7, 2) := by decide +kernel
theorem d_L_areSets_388 : decode b_L_areSets 388 = .ok (.iload 5, 2) := by decide +kernel
theorem d_L_areSets_390 : decode b_L_areSets 390 = .ok (.iload 6, 2) := by decide +kernel
theorem d_L_areSets_392 : decode b_L_areSets 392 = .ok (.iconst 1, 1) := by decide +kernel
theorem d_L_areSets_393 : decode b_L_areSets 393 = .ok (.invokevirtual 123, 3) := by decide +kernel
theorem d_L_areSets_396 : decode b_L_areSets 396 = .ok (.bipush (-2), 2) := by decide +kernel
theorem d_L_areSets_398 : decode b_L_areSets 398 = .ok (.if_icmp .ne 7, 3) := by decide +kernel
theorem d_L_areSets_401 : decode b_L_areSets 401 = .ok (.iconst 1, 1) := by decide +kernel
theorem d_L_areSets_402 : decode b_L_areSets 402 = .ok (.goto 4, 3) := by decide +kernel
theorem d_L_areSets_405 : decode b_L_areSets 405 = .ok (.iconst 0, 1) := by decide +kernel
theorem d_L_areSets_406 : decode b_L_areSets 406 = .ok (.ireturn, 1) := by decide +kernel
theorem d_L_areSets_407 : decode b_L_areSets 407 = .ok (.aload_n 0, 1) := by decide +kernel
theorem d_L_areSets_408 : decode b_L_areSets 408 = .ok (.sipush 1030, 3) := by decide +kernel
theorem d_L_areSets_411 : decode b_L_areSets 411 = .ok (.iload 7, 2) := by decide +kernel
theorem d_L_areSets_413 : decode b_L_areSets 413 = .ok (.iload 5, 2) := by decide +kernel
theorem d_L_areSets_415 : decode b_L_areSets 415 = .ok (.iload 6, 2) := by decide +kernel
theorem d_L_areSets_417 : decode b_L_areSets 417 = .ok (.iconst 1, 1) := by decide +kernel
theorem d_L_areSets_418 : decode b_L_areSets 418 = .ok (.invokevirtual 123, 3) := by decide +kernel
theorem d_L_areSets_421 : decode b_L_areSets 421 = .ok (.istore 9, 2) := by decide +kernel
theorem d_L_areSets_423 : decode b_L_areSets 423 = .ok (.aload_n 0, 1) := by decide +kernel
theorem d_L_areSets_424 : decode b_L_areSets 424 = .ok (.sipush 1030, 3) := by decide +kernel
theorem d_L_areSets_427 : decode b_L_areSets 427 = .ok (.iload 7, 2) := by decide +kernel
theorem d_L_areSets_429 : decode b_L_areSets 429 = .ok (.iload 5, 2) := by decide +kernel
theorem d_L_areSets_431 : decode b_L_areSets 431 = .ok (.iload 6, 2) := by decide +kernel
theorem d_L_areSets_433 : decode b_L_areSets 433 = .ok (.iconst 2, 1) := by decide +kernel
theorem d_L_areSets_434 : decode b_L_areSets 434 = .ok (.invokevirtual 123, 3) := by decide +kernel
theorem d_L_areSets_437 : decode b_L_areSets 437 = .ok (.istore 10, 2) := by decide +kernel
theorem d_L_areSets_439 : decode b_L_areSets 439 = .ok (.aload_n 0, 1) := by decide +kernel
theorem d_L_areSets_440 : decode b_L_areSets 440 = .ok (.iload 9, 2) := by decide +kernel
theorem d_L_areSets_442 : decode b_L_areSets 442 = .ok (.iload 10, 2) := by decide +kernel
theorem d_L_areSets_444 : decode b_L_areSets 444 = .ok (.iconst 0, 1) := by decide +kernel
theorem d_L_areSets_445 : decode b_L_areSets 445 = .ok (.iconst 2, 1) := by decide +kernel
theorem d_L_areSets_446 : decode b_L_areSets 446 = .ok (.iconst 0, 1) := by decide +kernel
theorem d_L_areSets_447 : decode b_L_areSets 447 = .ok (.invokevirtual 119, 3) := by decide +kernel
theorem d_L_areSets_450 : decode b_L_areSets 450 = .ok (.l2d, 1) := by decide +kernel
theorem d_L_areSets_451 : decode b_L_areSets 451 = .ok (.aload_n 0, 1) := by decide +kernel
theorem d_L_areSets_452 : decode b_L_areSets 452 = .ok (.iload 9, 2) := by decide +kernel
theorem d_L_areSets_454 : decode b_L_areSets 454 = .ok (.iload 10, 2) := by decide +kernel
theorem d_L_areSets_456 : decode b_L_areSets 456 = .ok (.iconst 0, 1) := by decide +kernel
theorem d_L_areSets_457 : decode b_L_areSets 457 = .ok (.iconst 2, 1) := by decide +kernel
theorem d_L_areSets_458 : decode b_L_areSets 458 = .ok (.iconst 1, 1) := by decide +kernel
theorem d_L_areSets_459 : decode b_L_areSets 459 = .ok (.invokevirtual 119, 3) := by decide +kernel
theorem d_L_areSets_462 : decode b_L_areSets 462 = .ok (.l2d, 1) := by decide +kernel
theorem d_L_areSets_463 : decode b_L_areSets 463 = .ok (.ddiv, 1) := by decide +kernel
theorem d_L_areSets_464 : decode b_L_areSets 464 = .ok (.dstore 11, 2) := by decide +kernel
theorem d_L_areSets_466 : decode b_L_areSets 466 = .ok (.iload 5, 2) := by decide +kernel
theorem d_L_areSets_468 : decode b_L_areSets 468 = .ok (.bipush 100, 2) := by decide +kernel
theorem d_L_areSets_470 : decode b_L_areSets 470 = .ok (.idiv, 1) := by decide +kernel
theorem d_L_areSets_471 : decode b_L_areSets 471 = .ok (.i2d, 1) := by decide +kernel
theorem d_L_areSets_472 : decode b_L_areSets 472 = .ok (.iload 5, 2) := by decide +kernel
theorem d_L_areSets_474 : decode b_L_areSets 474 = .ok (.bipush 100, 2) := by decide +kernel
theorem d_L_areSets_476 : decode b_L_areSets 476 = .ok (.irem, 1) := by decide +kernel
theorem d_L_areSets_477 : decode b_L_areSets 477 = .ok (.i2d, 1) := by decide +kernel
theorem d_L_areSets_478 : decode b_L_areSets 478 = .ok (.ddiv, 1) := by decide +kernel
theorem d_L_areSets_479 : decode b_L_areSets 479 = .ok (.dstore 13, 2) := by decide +kernel
theorem d_L_areSets_481 : decode b_L_areSets 481 = .ok (.aload_n 0, 1) := by decide +kernel
theorem d_L_areSets_482 : decode b_L_areSets 482 = .ok (.iload 9, 2) := by decide +kernel
theorem d_L_areSets_484 : decode b_L_areSets 484 = .ok (.iload 10, 2) := by decide +kernel
theorem d_L_areSets_486 : decode b_L_areSets 486 = .ok (.iload 7, 2) := by decide +kernel
theorem d_L_areSets_488 : decode b_L_areSets 488 = .ok (.invokevirtual 115, 3) := by decide +kernel
theorem d_L_areSets_491 : decode b_L_areSets 491 = .ok (.iconst 1, 1) := by decide +kernel
theorem d_L_areSets_492 : decode b_L_areSets 492 = .ok (.if_icmp .ne 91, 3) := by decide +kernel
theorem d_L_areSets_495 : decode b_L_areSets 495 = .ok (.aload_n 0, 1) := by decide +kernel
theorem d_L_areSets_496 : decode b_L_areSets 496 = .ok (.sipush 1030, 3) := by decide +kernel
theorem d_L_areSets_499 : decode b_L_areSets 499 = .ok (.iload 7, 2) := by decide +kernel
theorem d_L_areSets_501 : decode b_L_areSets 501 = .ok (.iload 5, 2) := by decide +kernel
theorem d_L_areSets_503 : decode b_L_areSets 503 = .ok (.iload 6, 2) := by decide +kernel
theorem d_L_areSets_505 : decode b_L_areSets 505 = .ok (.iconst 3, 1) := by decide +kernel
theorem d_L_areSets_506 : decode b_L_areSets 506 = .ok (.invokevirtual 123, 3) := by decide +kernel
theorem d_L_areSets_509 : decode b_L_areSets 509 = .ok (.iconst 2, 1) := by decide +kernel
theorem d_L_areSets_510 : decode b_L_areSets 510 = .ok (.iload 9, 2) := by decide +kernel
theorem d_L_areSets_512 : decode b_L_areSets 512 = .ok (.imul, 1) := by decide +kernel
theorem d_L_areSets_513 : decode b_L_areSets 513 = .ok (.iload 7, 2) := by decide +kernel
theorem d_L_areSets_515 : decode b_L_areSets 515 = .ok (.iconst 2, 1) := by decide +kernel
theorem d_L_areSets_516 : decode b_L_areSets 516 = .ok (.iadd, 1) := by decide +kernel
theorem d_L_areSets_517 : decode b_L_areSets 517 = .ok (.iload 10, 2) := by decide +kernel
theorem d_L_areSets_519 : decode b_L_areSets 519 = .ok (.imul, 1) := by decide +kernel
theorem d_L_areSets_520 : decode b_L_areSets 520 = .ok (.iadd, 1) := by decide +kernel
theorem d_L_areSets_521 : decode b_L_areSets 521 = .ok (.if_icmp .ne 62, 3) := by decide +kernel
theorem d_L_areSets_524 : decode b_L_areSets 524 = .ok (.dload 11, 2) := by decide +kernel
theorem d_L_areSets_526 : decode b_L_areSets 526 = .ok (.dload 13, 2) := by decide +kernel
theorem d_L_areSets_528 : decode b_L_areSets 528 = .ok (.dsub, 1) := by decide +kernel
theorem d_L_areSets_529 : decode b_L_areSets 529 = .ok (.invokestatic 127, 3) := by decide +kernel
theorem d_L_areSets_532 : decode b_L_areSets 532 = .ok (.dload 13, 2) := by decide +kernel
theorem d_L_areSets_534 : decode b_L_areSets 534 = .ok (.iload 6, 2) := by decide +kernel
theorem d_L_areSets_536 : decode b_L_areSets 536 = .ok (.i2d, 1) := by decide +kernel
theorem d_L_areSets_537 : decode b_L_areSets 537 = .ok (.dmul, 1) := by decide +kernel
theorem d_L_areSets_538 : decode b_L_areSets 538 = .ok (.ldc2_w 130, 3) := by decide +kernel
theorem d_L_areSets_541 : decode b_L_areSets 541 = .ok (.ddiv, 1) := by decide +kernel
theorem d_L_areSets_542 : decode b_L_areSets 542 = .ok (.ldc2_w 132, 3) := by decide +kernel
theorem d_L_areSets_545 : decode b_L_areSets 545 = .ok (.dadd, 1) := by decide +kernel
theorem d_L_areSets_546 : decode b_L_areSets 546 = .ok (.dcmp .g, 1) := by decide +kernel
theorem d_L_areSets_547 : decode b_L_areSets 547 = .ok (.ifCond .gt 36, 3) := by decide +kernel
theorem d_L_areSets_550 : decode b_L_areSets 550 = .ok (.aload_n 0, 1) := by decide +kernel
theorem d_L_areSets_551 : decode b_L_areSets 551 = .ok (.sipush 1030, 3) := by decide +kernel
theorem d_L_areSets_554 : decode b_L_areSets 554 = .ok (.iload 7, 2) := by decide +kernel
theorem d_L_areSets_556 : decode b_L_areSets 556 = .ok (.iload 5, 2) := by decide +kernel
theorem d_L_areSets_558 : decode b_L_areSets 558 = .ok (.iload 6, 2) := by decide +kernel
theorem d_L_areSets_560 : decode b_L_areSets 560 = .ok (.iconst 1, 1) := by decide +kernel
theorem d_L_areSets_561 : decode b_L_areSets 561 = .ok (.iadd, 1) := by decide +kernel
theorem d_L_areSets_562 : decode b_L_areSets 562 = .ok (.iconst 0, 1) := by decide +kernel
theorem d_L_areSets_563 : decode b_L_areSets 563 = .ok (.invokevirtual 123, 3) := by decide +kernel
theorem d_L_areSets_566 : decode b_L_areSets 566 = .ok (.iload 8, 2) := by decide +kernel
theorem d_L_areSets_568 : decode b_L_areSets 568 = .ok (.if_icmp .lt 15, 3) := by decide +kernel
theorem d_L_areSets_571 : decode b_L_areSets 571 = .ok (.iload 8, 2) := by decide +kernel
theorem d_L_areSets_573 : decode b_L_areSets 573 = .ok (.sipush 441, 3) := by decide +kernel
theorem d_L_areSets_576 : decode b_L_areSets 576 = .ok (.if_icmp .gt 7, 3) := by decide +kernel
theorem d_L_areSets_579 : decode b_L_areSets 579 = .ok (.iconst 1, 1) := by decide +kernel
theorem d_L_areSets_580 : decode b_L_areSets 580 = .ok (.goto 4, 3) := by decide +kernel
theorem d_L_areSets_583 : decode b_L_areSets 583 = .ok (.iconst 0, 1) := by decide +kernel
theorem d_L_areSets_584 : decode b_L_areSets 584 = .ok (.ireturn, 1) := by decide +kernel
theorem d_L_law_0 : decode code 0 = .ok (.new 9, 3) := by decide +kernel
theorem d_L_law_3 : decode code 3 = .ok (.dup, 1) := by decide +kernel
theorem d_L_law_4 : decode code 4 = .ok (.invokespecial 134, 3) := by decide +kernel
theorem d_L_law_7 : decode code 7 = .ok (.astore_n 1, 1) := by decide +kernel
theorem d_L_law_8 : decode code 8 = .ok (.aload_n 0, 1) := by decide +kernel
theorem d_L_law_9 : decode code 9 = .ok (.arraylength, 1) := by decide +kernel
theorem d_L_law_10 : decode code 10 = .ok (.bipush 60, 2) := by decide +kernel
theorem d_L_law_12 : decode code 12 = .ok (.if_icmp .ge 8, 3) := by decide +kernel
theorem d_L_law_15 : decode code 15 = .ok (.aload_n 0, 1) := by decide +kernel
theorem d_L_law_16 : decode code 16 = .ok (.arraylength, 1) := by decide +kernel
theorem d_L_law_17 : decode code 17 = .ok (.goto 5, 3) := by decide +kernel
theorem d_L_law_20 : decode code 20 = .ok (.bipush 60, 2) := by decide +kernel
theorem d_L_law_22 : decode code 22 = .ok (.istore_n 2, 1) := by decide +kernel
theorem d_L_law_23 : decode code 23 = .ok (.iconst 0, 1) := by decide +kernel
theorem d_L_law_24 : decode code 24 = .ok (.istore_n 3, 1) := by decide +kernel
theorem d_L_law_25 : decode code 25 = .ok (.iload_n 3, 1) := by decide +kernel
theorem d_L_law_26 : decode code 26 = .ok (.iload_n 2, 1) := by decide +kernel
theorem d_L_law_27 : decode code 27 = .ok (.if_icmp .ge 208, 3) := by decide +kernel
theorem d_L_law_30 : decode code 30 = .ok (.aload_n 0, 1) := by decide +kernel
theorem d_L_law_31 : decode code 31 = .ok (.iload_n 3, 1) := by decide +kernel
theorem d_L_law_32 : decode code 32 = .ok (.invokestatic 135, 3) := by decide +kernel
theorem d_L_law_35 : decode code 35 = .ok (.istore 4, 2) := by decide +kernel
theorem d_L_law_37 : decode code 37 = .ok (.aload_n 1, 1) := by decide +kernel
theorem d_L_law_38 : decode code 38 = .ok (.iconst 0, 1) := by decide +kernel
theorem d_L_law_39 : decode code 39 = .ok (.invokevirtual 8, 3) := by decide +kernel
theorem d_L_law_42 : decode code 42 = .ok (.istore 5, 2) := by decide +kernel
theorem d_L_law_44 : decode code 44 = .ok (.aload_n 1, 1) := by decide +kernel
theorem d_L_law_45 : decode code 45 = .ok (.iconst 1, 1) := by decide +kernel
theorem d_L_law_46 : decode code 46 = .ok (.invokevirtual 8, 3) := by decide +kernel
theorem d_L_law_49 : decode code 49 = .ok (.istore 6, 2) := by decide +kernel
theorem d_L_law_51 : decode code 51 = .ok (.aload_n 1, 1) := by decide +kernel
theorem d_L_law_52 : decode code 52 = .ok (.iload 4, 2) := by decide +kernel
theorem d_L_law_54 : decode code 54 = .ok (.invokestatic 139, 3) := by decide +kernel
theorem d_L_law_57 : decode code 57 = .ok (.istore 7, 2) := by decide +kernel
theorem d_L_law_59 : decode code 59 = .ok (.iload 4, 2) := by decide +kernel
theorem d_L_law_61 : decode code 61 = .ok (.bipush 15, 2) := by decide +kernel
theorem d_L_law_63 : decode code 63 = .ok (.iand, 1) := by decide +kernel
theorem d_L_law_64 : decode code 64 = .ok (.istore 8, 2) := by decide +kernel
theorem d_L_law_66 : decode code 66 = .ok (.iload 8, 2) := by decide +kernel
theorem d_L_law_68 : decode code 68 = .ok (.iconst 2, 1) := by decide +kernel
theorem d_L_law_69 : decode code 69 = .ok (.if_icmp .gt 25, 3) := by decide +kernel
theorem d_L_law_72 : decode code 72 = .ok (.aload_n 1, 1) := by decide +kernel
theorem d_L_law_73 : decode code 73 = .ok (.iconst 0, 1) := by decide +kernel
theorem d_L_law_74 : decode code 74 = .ok (.invokevirtual 8, 3) := by decide +kernel
theorem d_L_law_77 : decode code 77 = .ok (.iload 7, 2) := by decide +kernel
theorem d_L_law_79 : decode code 79 = .ok (.ifCond .ge 8, 3) := by decide +kernel
theorem d_L_law_82 : decode code 82 = .ok (.iload 5, 2) := by decide +kernel
theorem d_L_law_84 : decode code 84 = .ok (.goto 7, 3) := by decide +kernel
theorem d_L_law_87 : decode code 87 = .ok (.iload 5, 2) := by decide +kernel
theorem d_L_law_89 : decode code 89 = .ok (.iconst 1, 1) := by decide +kernel
theorem d_L_law_90 : decode code 90 = .ok (.iadd, 1) := by decide +kernel
theorem d_L_law_91 : decode code 91 = .ok (.if_icmp .ne 7, 3) := by decide +kernel
theorem d_L_law_94 : decode code 94 = .ok (.iconst 1, 1) := by decide +kernel
theorem d_L_law_95 : decode code 95 = .ok (.goto 4, 3) := by decide +kernel
theorem d_L_law_98 : decode code 98 = .ok (.iconst 0, 1) := by decide +kernel
theorem d_L_law_99 : decode code 99 = .ok (.istore 9, 2) := by decide +kernel
theorem d_L_law_101 : decode code 101 = .ok (.iload 9, 2) := by decide +kernel
theorem d_L_law_103 : decode code 103 = .ok (.iload 8, 2) := by decide +kernel
theorem d_L_law_105 : decode code 105 = .ok (.bipush 6, 2) := by decide +kernel
theorem d_L_law_107 : decode code 107 = .ok (.if_icmp .lt 30, 3) := by decide +kernel
theorem d_L_law_110 : decode code 110 = .ok (.iload 8, 2) := by decide +kernel
theorem d_L_law_112 : decode code 112 = .ok (.bipush 8, 2) := by decide +kernel
theorem d_L_law_114 : decode code 114 = .ok (.if_icmp .gt 23, 3) := by decide +kernel
theorem d_L_law_117 : decode code 117 = .ok (.aload_n 1, 1) := by decide +kernel
theorem d_L_law_118 : decode code 118 = .ok (.iconst 1, 1) := by decide +kernel
theorem d_L_law_119 : decode code 119 = .ok (.invokevirtual 8, 3) := by decide +kernel
theorem d_L_law_122 : decode code 122 = .ok (.iload 7, 2) := by decide +kernel
theorem d_L_law_124 : decode code 124 = .ok (.ifCond .ge 8, 3) := by decide +kernel
theorem d_L_law_127 : decode code 127 = .ok (.iload 6, 2) := by decide +kernel
theorem d_L_law_129 : decode code 129 = .ok (.goto 5, 3) := by decide +kernel
theorem d_L_law_132 : decode code 132 = .ok (.iload 7, 2) := by decide +kernel
theorem d_L_law_134 : decode code 134 = .ok (.if_icmp .ne 7, 3) := by decide +kernel
theorem d_L_law_137 : decode code 137 = .ok (.iconst 1, 1) := by decide +kernel
theorem d_L_law_138 : decode code 138 = .ok (.goto 4, 3) := by decide +kernel
theorem d_L_law_141 : decode code 141 = .ok (.iconst 0, 1) := by decide +kernel
theorem d_L_law_142 : decode code 142 = .ok (.iand, 1) := by decide +kernel
theorem d_L_law_143 : decode code 143 = .ok (.istore 9, 2) := by decide +kernel
theorem d_L_law_145 : decode code 145 = .ok (.iload 9, 2) := by decide +kernel
theorem d_L_law_147 : decode code 147 = .ok (.iload 8, 2) := by decide +kernel
theorem d_L_law_149 : decode code 149 = .ok (.bipush 10, 2) := by decide +kernel
theorem d_L_law_151 : decode code 151 = .ok (.if_icmp .eq 10, 3) := by decide +kernel
theorem d_L_law_154 : decode code 154 = .ok (.iload 8, 2) := by decide +kernel
theorem d_L_law_156 : decode code 156 = .ok (.bipush 11, 2) := by decide +kernel
theorem d_L_law_158 : decode code 158 = .ok (.if_icmp .ne 28, 3) := by decide +kernel
theorem d_L_law_161 : decode code 161 = .ok (.iload 7, 2) := by decide +kernel
theorem d_L_law_163 : decode code 163 = .ok (.ifCond .gt 23, 3) := by decide +kernel
theorem d_L_law_166 : decode code 166 = .ok (.aload_n 1, 1) := by decide +kernel
theorem d_L_law_167 : decode code 167 = .ok (.iconst 0, 1) := by decide +kernel
theorem d_L_law_168 : decode code 168 = .ok (.invokevirtual 8, 3) := by decide +kernel
theorem d_L_law_171 : decode code 171 = .ok (.iload 5, 2) := by decide +kernel
theorem d_L_law_173 : decode code 173 = .ok (.if_icmp .ne 17, 3) := by decide +kernel
theorem d_L_law_176 : decode code 176 = .ok (.aload_n 1, 1) := by decide +kernel
theorem d_L_law_177 : decode code 177 = .ok (.iconst 1, 1) := by decide +kernel
theorem d_L_law_178 : decode code 178 = .ok (.invokevirtual 8, 3) := by decide +kernel
theorem d_L_law_181 : decode code 181 = .ok (.iload 6, 2) := by decide +kernel
theorem d_L_law_183 : decode code 183 = .ok (.if_icmp .ne 7, 3) := by decide +kernel
theorem d_L_law_186 : decode code 186 = .ok (.iconst 1, 1) := by decide +kernel
theorem d_L_law_187 : decode code 187 = .ok (.goto 4, 3) := by decide +kernel
theorem d_L_law_190 : decode code 190 = .ok (.iconst 0, 1) := by decide +kernel
theorem d_L_law_191 : decode code 191 = .ok (.iand, 1) := by decide +kernel
theorem d_L_law_192 : decode code 192 = .ok (.istore 9, 2) := by decide +kernel
theorem d_L_law_194 : decode code 194 = .ok (.iload 9, 2) := by decide +kernel
theorem d_L_law_196 : decode code 196 = .ok (.ifCond .eq 31, 3) := by decide +kernel
theorem d_L_law_199 : decode code 199 = .ok (.aload_n 1, 1) := by decide +kernel
theorem d_L_law_200 : decode code 200 = .ok (.iconst 2, 1) := by decide +kernel
theorem d_L_law_201 : decode code 201 = .ok (.invokevirtual 8, 3) := by decide +kernel
theorem d_L_law_204 : decode code 204 = .ok (.ifCond .ne 23, 3) := by decide +kernel
theorem d_L_law_207 : decode code 207 = .ok (.aload_n 1, 1) := by decide +kernel
theorem d_L_law_208 : decode code 208 = .ok (.iconst 0, 1) := by decide +kernel
theorem d_L_law_209 : decode code 209 = .ok (.invokevirtual 8, 3) := by decide +kernel
theorem d_L_law_212 : decode code 212 = .ok (.bipush 16, 2) := by decide +kernel
theorem d_L_law_214 : decode code 214 = .ok (.if_icmp .gt 13, 3) := by decide +kernel
theorem d_L_law_217 : decode code 217 = .ok (.aload_n 1, 1) := by decide +kernel
theorem d_L_law_218 : decode code 218 = .ok (.iconst 1, 1) := by decide +kernel
theorem d_L_law_219 : decode code 219 = .ok (.invokevirtual 8, 3) := by decide +kernel
theorem d_L_law_222 : decode code 222 = .ok (.bipush 9, 2) := by decide +kernel
theorem d_L_law_224 : decode code 224 = .ok (.if_icmp .le 5, 3) := by decide +kernel
theorem d_L_law_227 : decode code 227 = .ok (.iconst 0, 1) := by decide +kernel
theorem d_L_law_228 : decode code 228 = .ok (.ireturn, 1) := by decide +kernel
theorem d_L_law_229 : decode code 229 = .ok (.iinc 3 1, 3) := by decide +kernel
theorem d_L_law_232 : decode code 232 = .ok (.goto (-207), 3) := by decide +kernel
theorem d_L_law_235 : decode code 235 = .ok (.aload_n 1, 1) := by decide +kernel
theorem d_L_law_236 : decode code 236 = .ok (.invokevirtual 65, 3) := by decide +kernel
theorem d_L_law_239 : decode code 239 = .ok (.istore_n 3, 1) := by decide +kernel
theorem d_L_law_240 : decode code 240 = .ok (.aload_n 1, 1) := by decide +kernel
theorem d_L_law_241 : decode code 241 = .ok (.iconst 1, 1) := by decide +kernel
theorem d_L_law_242 : decode code 242 = .ok (.invokevirtual 8, 3) := by decide +kernel
theorem d_L_law_245 : decode code 245 = .ok (.istore 4, 2) := by decide +kernel
theorem d_L_law_247 : decode code 247 = .ok (.iconst 0, 1) := by decide +kernel
theorem d_L_law_248 : decode code 248 = .ok (.istore 5, 2) := by decide +kernel
theorem d_L_law_250 : decode code 250 = .ok (.iconst 0, 1) := by decide +kernel
theorem d_L_law_251 : decode code 251 = .ok (.istore 6, 2) := by decide +kernel
theorem d_L_law_253 : decode code 253 = .ok (.iload 6, 2) := by decide +kernel
theorem d_L_law_255 : decode code 255 = .ok (.iload_n 3, 1) := by decide +kernel
theorem d_L_law_256 : decode code 256 = .ok (.if_icmp .ge 60, 3) := by decide +kernel
theorem d_L_law_259 : decode code 259 = .ok (.iload 5, 2) := by decide +kernel
theorem d_L_law_261 : decode code 261 = .ok (.aload_n 1, 1) := by decide +kernel
theorem d_L_law_262 : decode code 262 = .ok (.iload 6, 2) := by decide +kernel
theorem d_L_law_264 : decode code 264 = .ok (.iconst 5, 1) := by decide +kernel
theorem d_L_law_265 : decode code 265 = .ok (.invokevirtual 82, 3) := by decide +kernel
theorem d_L_law_268 : decode code 268 = .ok (.iadd, 1) := by decide +kernel
theorem d_L_law_269 : decode code 269 = .ok (.istore 5, 2) := by decide +kernel
theorem d_L_law_271 : decode code 271 = .ok (.aload_n 1, 1) := by decide +kernel
theorem d_L_law_272 : decode code 272 = .ok (.iload 6, 2) := by decide +kernel
theorem d_L_law_274 : decode code 274 = .ok (.invokestatic 143, 3) := by decide +kernel
theorem d_L_law_277 : decode code 277 = .ok (.ifCond .ne 5, 3) := by decide +kernel
theorem d_L_law_280 : decode code 280 = .ok (.iconst 0, 1) := by decide +kernel
theorem d_L_law_281 : decode code 281 = .ok (.ireturn, 1) := by decide +kernel
theorem d_L_law_282 : decode code 282 = .ok (.iconst 0, 1) := by decide +kernel
theorem d_L_law_283 : decode code 283 = .ok (.istore 7, 2) := by decide +kernel
theorem d_L_law_285 : decode code 285 = .ok (.iload 7, 2) := by decide +kernel
theorem d_L_law_287 : decode code 287 = .ok (.iload_n 3, 1) := by decide +kernel
theorem d_L_law_288 : decode code 288 = .ok (.if_icmp .ge 22, 3) := by decide +kernel
theorem d_L_law_291 : decode code 291 = .ok (.aload_n 1, 1) := by decide +kernel
theorem d_L_law_292 : decode code 292 = .ok (.iload 6, 2) := by decide +kernel
theorem d_L_law_294 : decode code 294 = .ok (.iload 7, 2) := by decide +kernel
theorem d_L_law_296 : decode code 296 = .ok (.invokestatic 147, 3) := by decide +kernel
theorem d_L_law_299 : decode code 299 = .ok (.ifCond .ne 5, 3) := by decide +kernel
theorem d_L_law_302 : decode code 302 = .ok (.iconst 0, 1) := by decide +kernel
theorem d_L_law_303 : decode code 303 = .ok (.ireturn, 1) := by decide +kernel
theorem d_L_law_304 : decode code 304 = .ok (.iinc 7 1, 3) := by decide +kernel
theorem d_L_law_307 : decode code 307 = .ok (.goto (-22), 3) := by decide +kernel
theorem d_L_law_310 : decode code 310 = .ok (.iinc 6 1, 3) := by decide +kernel
theorem d_L_law_313 : decode code 313 = .ok (.goto (-60), 3) := by decide +kernel
theorem d_L_law_316 : decode code 316 = .ok (.aload_n 1, 1) := by decide +kernel
theorem d_L_law_317 : decode code 317 = .ok (.iconst 0, 1) := by decide +kernel
theorem d_L_law_318 : decode code 318 = .ok (.bipush 20, 2) := by decide +kernel
theorem d_L_law_320 : decode code 320 = .ok (.invokevirtual 55, 3) := by decide +kernel
theorem d_L_law_323 : decode code 323 = .ok (.pop, 1) := by decide +kernel
theorem d_L_law_324 : decode code 324 = .ok (.iload 5, 2) := by decide +kernel
theorem d_L_law_326 : decode code 326 = .ok (.iconst 2, 1) := by decide +kernel
theorem d_L_law_327 : decode code 327 = .ok (.iload 4, 2) := by decide +kernel
theorem d_L_law_329 : decode code 329 = .ok (.imul, 1) := by decide +kernel
theorem d_L_law_330 : decode code 330 = .ok (.if_icmp .ne 49, 3) := by decide +kernel
theorem d_L_law_333 : decode code 333 = .ok (.aload_n 1, 1) := by decide +kernel
theorem d_L_law_334 : decode code 334 = .ok (.iconst 0, 1) := by decide +kernel
theorem d_L_law_335 : decode code 335 = .ok (.invokevirtual 62, 3) := by decide +kernel
theorem d_L_law_338 : decode code 338 = .ok (.iload_n 3, 1) := by decide +kernel
theorem d_L_law_339 : decode code 339 = .ok (.if_icmp .ne 40, 3) := by decide +kernel
theorem d_L_law_342 : decode code 342 = .ok (.aload_n 1, 1) := by decide +kernel
theorem d_L_law_343 : decode code 343 = .ok (.iconst 0, 1) := by decide +kernel
theorem d_L_law_344 : decode code 344 = .ok (.invokevirtual 151, 3) := by decide +kernel
theorem d_L_law_347 : decode code 347 = .ok (.iload_n 3, 1) := by decide +kernel
theorem d_L_law_348 : decode code 348 = .ok (.if_icmp .ne 31, 3) := by decide +kernel
theorem d_L_law_351 : decode code 351 = .ok (.aload_n 1, 1) := by decide +kernel
theorem d_L_law_352 : decode code 352 = .ok (.iconst 0, 1) := by decide +kernel
theorem d_L_law_353 : decode code 353 = .ok (.invokevirtual 154, 3) := by decide +kernel
theorem d_L_law_356 : decode code 356 = .ok (.aload_n 1, 1) := by decide +kernel
theorem d_L_law_357 : decode code 357 = .ok (.iconst 2, 1) := by decide +kernel
theorem d_L_law_358 : decode code 358 = .ok (.invokevirtual 154, 3) := by decide +kernel
theorem d_L_law_361 : decode code 361 = .ok (.iadd, 1) := by decide +kernel
theorem d_L_law_362 : decode code 362 = .ok (.iload_n 3, 1) := by decide +kernel
theorem d_L_law_363 : decode code 363 = .ok (.if_icmp .gt 16, 3) := by decide +kernel
theorem d_L_law_366 : decode code 366 = .ok (.aload_n 1, 1) := by decide +kernel
theorem d_L_law_367 : decode code 367 = .ok (.iconst 3, 1) := by decide +kernel
theorem d_L_law_368 : decode code 368 = .ok (.invokevirtual 154, 3) := by decide +kernel
theorem d_L_law_371 : decode code 371 = .ok (.iload_n 3, 1) := by decide +kernel
theorem d_L_law_372 : decode code 372 = .ok (.if_icmp .gt 7, 3) := by decide +kernel
theorem d_L_law_375 : decode code 375 = .ok (.iconst 1, 1) := by decide +kernel
theorem d_L_law_376 : decode code 376 = .ok (.goto 4, 3) := by decide +kernel
theorem d_L_law_379 : decode code 379 = .ok (.iconst 0, 1) := by decide +kernel
theorem d_L_law_380 : decode code 380 = .ok (.istore 6, 2) := by decide +kernel
theorem d_L_law_382 : decode code 382 = .ok (.iload 6, 2) := by decide +kernel
theorem d_L_law_384 : decode code 384 = .ok (.ifCond .eq 22, 3) := by decide +kernel
theorem d_L_law_387 : decode code 387 = .ok (.aload_n 1, 1) := by decide +kernel
theorem d_L_law_388 : decode code 388 = .ok (.invokestatic 157, 3) := by decide +kernel
theorem d_L_law_391 : decode code 391 = .ok (.ifCond .eq 15, 3) := by decide +kernel
theorem d_L_law_394 : decode code 394 = .ok (.aload_n 1, 1) := by decide +kernel
theorem d_L_law_395 : decode code 395 = .ok (.aload_n 0, 1) := by decide +kernel
theorem d_L_law_396 : decode code 396 = .ok (.iconst 1, 1) := by decide +kernel
theorem d_L_law_397 : decode code 397 = .ok (.invokestatic 135, 3) := by decide +kernel
theorem d_L_law_400 : decode code 400 = .ok (.invokestatic 161, 3) := by decide +kernel
theorem d_L_law_403 : decode code 403 = .ok (.ifCond .ne 5, 3) := by decide +kernel
theorem d_L_law_406 : decode code 406 = .ok (.iconst 0, 1) := by decide +kernel
theorem d_L_law_407 : decode code 407 = .ok (.ireturn, 1) := by decide +kernel
theorem d_L_law_408 : decode code 408 = .ok (.aload_n 1, 1) := by decide +kernel
theorem d_L_law_409 : decode code 409 = .ok (.invokevirtual 27, 3) := by decide +kernel
theorem d_L_law_412 : decode code 412 = .ok (.pop, 1) := by decide +kernel
theorem d_L_law_413 : decode code 413 = .ok (.aload_n 1, 1) := by decide +kernel
theorem d_L_law_414 : decode code 414 = .ok (.iconst 0, 1) := by decide +kernel
theorem d_L_law_415 : decode code 415 = .ok (.invokevirtual 21, 3) := by decide +kernel
theorem d_L_law_418 : decode code 418 = .ok (.pop, 1) := by decide +kernel
theorem d_L_law_419 : decode code 419 = .ok (.aload_n 1, 1) := by decide +kernel
theorem d_L_law_420 : decode code 420 = .ok (.bipush 77, 2) := by decide +kernel
theorem d_L_law_422 : decode code 422 = .ok (.invokevirtual 14, 3) := by decide +kernel
theorem d_L_law_425 : decode code 425 = .ok (.pop, 1) := by decide +kernel
theorem d_L_law_426 : decode code 426 = .ok (.aload_n 1, 1) := by decide +kernel
theorem d_L_law_427 : decode code 427 = .ok (.invokevirtual 68, 3) := by decide +kernel
theorem d_L_law_430 : decode code 430 = .ok (.iload_n 3, 1) := by decide +kernel
theorem d_L_law_431 : decode code 431 = .ok (.if_icmp .ne 26, 3) := by decide +kernel
theorem d_L_law_434 : decode code 434 = .ok (.aload_n 1, 1) := by decide +kernel
theorem d_L_law_435 : decode code 435 = .ok (.iconst 1, 1) := by decide +kernel
theorem d_L_law_436 : decode code 436 = .ok (.invokevirtual 8, 3) := by decide +kernel
theorem d_L_law_439 : decode code 439 = .ok (.iload 4, 2) := by decide +kernel
theorem d_L_law_441 : decode code 441 = .ok (.if_icmp .ne 16, 3) := by decide +kernel
theorem d_L_law_444 : decode code 444 = .ok (.aload_n 1, 1) := by decide +kernel
theorem d_L_law_445 : decode code 445 = .ok (.iconst 0, 1) := by decide +kernel
theorem d_L_law_446 : decode code 446 = .ok (.invokevirtual 8, 3) := by decide +kernel
theorem d_L_law_449 : decode code 449 = .ok (.iload_n 3, 1) := by decide +kernel
theorem d_L_law_450 : decode code 450 = .ok (.if_icmp .ne 7, 3) := by decide +kernel
theorem d_L_law_453 : decode code 453 = .ok (.iconst 1, 1) := by decide +kernel
theorem d_L_law_454 : decode code 454 = .ok (.goto 4, 3) := by decide +kernel
theorem d_L_law_457 : decode code 457 = .ok (.iconst 0, 1) := by decide +kernel
theorem d_L_law_458 : decode code 458 = .ok (.ireturn, 1) := by decide +kernel
