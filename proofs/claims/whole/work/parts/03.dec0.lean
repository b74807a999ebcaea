theorem dX0_init_0 : decode cX0_init 0 = .ok (.aload_n 0, 1) := by decide +kernel
theorem dX0_init_1 : decode cX0_init 1 = .ok (.invokespecial 3, 3) := by decide +kernel
theorem dX0_init_4 : decode cX0_init 4 = .ok (.aload_n 0, 1) := by decide +kernel
theorem dX0_init_5 : decode cX0_init 5 = .ok (.sipush 244, 3) := by decide +kernel
theorem dX0_init_8 : decode cX0_init 8 = .ok (.newarray .int, 2) := by decide +kernel
theorem dX0_init_10 : decode cX0_init 10 = .ok (.putfield 9, 3) := by decide +kernel
theorem dX0_init_13 : decode cX0_init 13 = .ok (.aload_n 0, 1) := by decide +kernel
theorem dX0_init_14 : decode cX0_init 14 = .ok (.bipush 10, 2) := by decide +kernel
theorem dX0_init_16 : decode cX0_init 16 = .ok (.newarray .int, 2) := by decide +kernel
theorem dX0_init_18 : decode cX0_init 18 = .ok (.putfield 15, 3) := by decide +kernel
theorem dX0_init_21 : decode cX0_init 21 = .ok (.aload_n 0, 1) := by decide +kernel
theorem dX0_init_22 : decode cX0_init 22 = .ok (.bipush 10, 2) := by decide +kernel
theorem dX0_init_24 : decode cX0_init 24 = .ok (.newarray .int, 2) := by decide +kernel
theorem dX0_init_26 : decode cX0_init 26 = .ok (.putfield 18, 3) := by decide +kernel
theorem dX0_init_29 : decode cX0_init 29 = .ok (.return_, 1) := by decide +kernel
theorem dX0_forget_0 : decode cX0_forget 0 = .ok (.iconst 0, 1) := by decide +kernel
theorem dX0_forget_1 : decode cX0_forget 1 = .ok (.istore_n 2, 1) := by decide +kernel
theorem dX0_forget_2 : decode cX0_forget 2 = .ok (.iconst 0, 1) := by decide +kernel
theorem dX0_forget_3 : decode cX0_forget 3 = .ok (.istore_n 3, 1) := by decide +kernel
theorem dX0_forget_4 : decode cX0_forget 4 = .ok (.iload_n 3, 1) := by decide +kernel
theorem dX0_forget_5 : decode cX0_forget 5 = .ok (.iconst 4, 1) := by decide +kernel
theorem dX0_forget_6 : decode cX0_forget 6 = .ok (.if_icmp .ge 41, 3) := by decide +kernel
theorem dX0_forget_9 : decode cX0_forget 9 = .ok (.iload_n 2, 1) := by decide +kernel
theorem dX0_forget_10 : decode cX0_forget 10 = .ok (.aload_n 0, 1) := by decide +kernel
theorem dX0_forget_11 : decode cX0_forget 11 = .ok (.getfield 9, 3) := by decide +kernel
theorem dX0_forget_14 : decode cX0_forget 14 = .ok (.iload_n 1, 1) := by decide +kernel
theorem dX0_forget_15 : decode cX0_forget 15 = .ok (.iconst 4, 1) := by decide +kernel
theorem dX0_forget_16 : decode cX0_forget 16 = .ok (.imul, 1) := by decide +kernel
theorem dX0_forget_17 : decode cX0_forget 17 = .ok (.iload_n 3, 1) := by decide +kernel
theorem dX0_forget_18 : decode cX0_forget 18 = .ok (.iadd, 1) := by decide +kernel
theorem dX0_forget_19 : decode cX0_forget 19 = .ok (.iaload, 1) := by decide +kernel
theorem dX0_forget_20 : decode cX0_forget 20 = .ok (.ifCond .eq 7, 3) := by decide +kernel
theorem dX0_forget_23 : decode cX0_forget 23 = .ok (.iconst 1, 1) := by decide +kernel
theorem dX0_forget_24 : decode cX0_forget 24 = .ok (.goto 4, 3) := by decide +kernel
theorem dX0_forget_27 : decode cX0_forget 27 = .ok (.iconst 0, 1) := by decide +kernel
theorem dX0_forget_28 : decode cX0_forget 28 = .ok (.iadd, 1) := by decide +kernel
theorem dX0_forget_29 : decode cX0_forget 29 = .ok (.istore_n 2, 1) := by decide +kernel
theorem dX0_forget_30 : decode cX0_forget 30 = .ok (.aload_n 0, 1) := by decide +kernel
theorem dX0_forget_31 : decode cX0_forget 31 = .ok (.getfield 9, 3) := by decide +kernel
theorem dX0_forget_34 : decode cX0_forget 34 = .ok (.iload_n 1, 1) := by decide +kernel
theorem dX0_forget_35 : decode cX0_forget 35 = .ok (.iconst 4, 1) := by decide +kernel
theorem dX0_forget_36 : decode cX0_forget 36 = .ok (.imul, 1) := by decide +kernel
theorem dX0_forget_37 : decode cX0_forget 37 = .ok (.iload_n 3, 1) := by decide +kernel
theorem dX0_forget_38 : decode cX0_forget 38 = .ok (.iadd, 1) := by decide +kernel
theorem dX0_forget_39 : decode cX0_forget 39 = .ok (.iconst 0, 1) := by decide +kernel
theorem dX0_forget_40 : decode cX0_forget 40 = .ok (.iastore, 1) := by decide +kernel
theorem dX0_forget_41 : decode cX0_forget 41 = .ok (.iinc 3 1, 3) := by decide +kernel
theorem dX0_forget_44 : decode cX0_forget 44 = .ok (.goto (-40), 3) := by decide +kernel
theorem dX0_forget_47 : decode cX0_forget 47 = .ok (.iload_n 2, 1) := by decide +kernel
theorem dX0_forget_48 : decode cX0_forget 48 = .ok (.ireturn, 1) := by decide +kernel
theorem dX0_addBricks_0 : decode cX0_addBricks 0 = .ok (.aload_n 0, 1) := by decide +kernel
theorem dX0_addBricks_1 : decode cX0_addBricks 1 = .ok (.getfield 15, 3) := by decide +kernel
theorem dX0_addBricks_4 : decode cX0_addBricks 4 = .ok (.aload_n 0, 1) := by decide +kernel
theorem dX0_addBricks_5 : decode cX0_addBricks 5 = .ok (.getfield 21, 3) := by decide +kernel
theorem dX0_addBricks_8 : decode cX0_addBricks 8 = .ok (.iload_n 1, 1) := by decide +kernel
theorem dX0_addBricks_9 : decode cX0_addBricks 9 = .ok (.iastore, 1) := by decide +kernel
theorem dX0_addBricks_10 : decode cX0_addBricks 10 = .ok (.aload_n 0, 1) := by decide +kernel
theorem dX0_addBricks_11 : decode cX0_addBricks 11 = .ok (.getfield 18, 3) := by decide +kernel
theorem dX0_addBricks_14 : decode cX0_addBricks 14 = .ok (.aload_n 0, 1) := by decide +kernel
theorem dX0_addBricks_15 : decode cX0_addBricks 15 = .ok (.getfield 21, 3) := by decide +kernel
theorem dX0_addBricks_18 : decode cX0_addBricks 18 = .ok (.iload_n 2, 1) := by decide +kernel
theorem dX0_addBricks_19 : decode cX0_addBricks 19 = .ok (.iastore, 1) := by decide +kernel
theorem dX0_addBricks_20 : decode cX0_addBricks 20 = .ok (.aload_n 0, 1) := by decide +kernel
theorem dX0_addBricks_21 : decode cX0_addBricks 21 = .ok (.dup, 1) := by decide +kernel
theorem dX0_addBricks_22 : decode cX0_addBricks 22 = .ok (.getfield 21, 3) := by decide +kernel
theorem dX0_addBricks_25 : decode cX0_addBricks 25 = .ok (.iconst 1, 1) := by decide +kernel
theorem dX0_addBricks_26 : decode cX0_addBricks 26 = .ok (.iadd, 1) := by decide +kernel
theorem dX0_addBricks_27 : decode cX0_addBricks 27 = .ok (.putfield 21, 3) := by decide +kernel
theorem dX0_addBricks_30 : decode cX0_addBricks 30 = .ok (.aload_n 0, 1) := by decide +kernel
theorem dX0_addBricks_31 : decode cX0_addBricks 31 = .ok (.getfield 21, 3) := by decide +kernel
theorem dX0_addBricks_34 : decode cX0_addBricks 34 = .ok (.ireturn, 1) := by decide +kernel
theorem dX0_knownNotes_0 : decode cX0_knownNotes 0 = .ok (.iconst 0, 1) := by decide +kernel
theorem dX0_knownNotes_1 : decode cX0_knownNotes 1 = .ok (.istore_n 1, 1) := by decide +kernel
theorem dX0_knownNotes_2 : decode cX0_knownNotes 2 = .ok (.iconst 0, 1) := by decide +kernel
theorem dX0_knownNotes_3 : decode cX0_knownNotes 3 = .ok (.istore_n 2, 1) := by decide +kernel
theorem dX0_knownNotes_4 : decode cX0_knownNotes 4 = .ok (.iload_n 2, 1) := by decide +kernel
theorem dX0_knownNotes_5 : decode cX0_knownNotes 5 = .ok (.sipush 244, 3) := by decide +kernel
theorem dX0_knownNotes_8 : decode cX0_knownNotes 8 = .ok (.if_icmp .ge 26, 3) := by decide +kernel
theorem dX0_knownNotes_11 : decode cX0_knownNotes 11 = .ok (.iload_n 1, 1) := by decide +kernel
theorem dX0_knownNotes_12 : decode cX0_knownNotes 12 = .ok (.aload_n 0, 1) := by decide +kernel
theorem dX0_knownNotes_13 : decode cX0_knownNotes 13 = .ok (.getfield 9, 3) := by decide +kernel
theorem dX0_knownNotes_16 : decode cX0_knownNotes 16 = .ok (.iload_n 2, 1) := by decide +kernel
theorem dX0_knownNotes_17 : decode cX0_knownNotes 17 = .ok (.iaload, 1) := by decide +kernel
theorem dX0_knownNotes_18 : decode cX0_knownNotes 18 = .ok (.ifCond .eq 7, 3) := by decide +kernel
theorem dX0_knownNotes_21 : decode cX0_knownNotes 21 = .ok (.iconst 1, 1) := by decide +kernel
theorem dX0_knownNotes_22 : decode cX0_knownNotes 22 = .ok (.goto 4, 3) := by decide +kernel
theorem dX0_knownNotes_25 : decode cX0_knownNotes 25 = .ok (.iconst 0, 1) := by decide +kernel
theorem dX0_knownNotes_26 : decode cX0_knownNotes 26 = .ok (.iadd, 1) := by decide +kernel
theorem dX0_knownNotes_27 : decode cX0_knownNotes 27 = .ok (.istore_n 1, 1) := by decide +kernel
theorem dX0_knownNotes_28 : decode cX0_knownNotes 28 = .ok (.iinc 2 1, 3) := by decide +kernel
theorem dX0_knownNotes_31 : decode cX0_knownNotes 31 = .ok (.goto (-27), 3) := by decide +kernel
theorem dX0_knownNotes_34 : decode cX0_knownNotes 34 = .ok (.iload_n 1, 1) := by decide +kernel
theorem dX0_knownNotes_35 : decode cX0_knownNotes 35 = .ok (.ireturn, 1) := by decide +kernel
theorem dX0_wellNotes_0 : decode cX0_wellNotes 0 = .ok (.iconst 0, 1) := by decide +kernel
theorem dX0_wellNotes_1 : decode cX0_wellNotes 1 = .ok (.istore_n 1, 1) := by decide +kernel
theorem dX0_wellNotes_2 : decode cX0_wellNotes 2 = .ok (.iconst 0, 1) := by decide +kernel
theorem dX0_wellNotes_3 : decode cX0_wellNotes 3 = .ok (.istore_n 2, 1) := by decide +kernel
theorem dX0_wellNotes_4 : decode cX0_wellNotes 4 = .ok (.iload_n 2, 1) := by decide +kernel
theorem dX0_wellNotes_5 : decode cX0_wellNotes 5 = .ok (.sipush 244, 3) := by decide +kernel
theorem dX0_wellNotes_8 : decode cX0_wellNotes 8 = .ok (.if_icmp .ge 27, 3) := by decide +kernel
theorem dX0_wellNotes_11 : decode cX0_wellNotes 11 = .ok (.iload_n 1, 1) := by decide +kernel
theorem dX0_wellNotes_12 : decode cX0_wellNotes 12 = .ok (.aload_n 0, 1) := by decide +kernel
theorem dX0_wellNotes_13 : decode cX0_wellNotes 13 = .ok (.getfield 9, 3) := by decide +kernel
theorem dX0_wellNotes_16 : decode cX0_wellNotes 16 = .ok (.iload_n 2, 1) := by decide +kernel
theorem dX0_wellNotes_17 : decode cX0_wellNotes 17 = .ok (.iaload, 1) := by decide +kernel
theorem dX0_wellNotes_18 : decode cX0_wellNotes 18 = .ok (.iconst 1, 1) := by decide +kernel
theorem dX0_wellNotes_19 : decode cX0_wellNotes 19 = .ok (.if_icmp .ne 7, 3) := by decide +kernel
theorem dX0_wellNotes_22 : decode cX0_wellNotes 22 = .ok (.iconst 1, 1) := by decide +kernel
theorem dX0_wellNotes_23 : decode cX0_wellNotes 23 = .ok (.goto 4, 3) := by decide +kernel
theorem dX0_wellNotes_26 : decode cX0_wellNotes 26 = .ok (.iconst 0, 1) := by decide +kernel
theorem dX0_wellNotes_27 : decode cX0_wellNotes 27 = .ok (.iadd, 1) := by decide +kernel
theorem dX0_wellNotes_28 : decode cX0_wellNotes 28 = .ok (.istore_n 1, 1) := by decide +kernel
theorem dX0_wellNotes_29 : decode cX0_wellNotes 29 = .ok (.iinc 2 1, 3) := by decide +kernel
theorem dX0_wellNotes_32 : decode cX0_wellNotes 32 = .ok (.goto (-28), 3) := by decide +kernel
theorem dX0_wellNotes_35 : decode cX0_wellNotes 35 = .ok (.iload_n 1, 1) := by decide +kernel
theorem dX0_wellNotes_36 : decode cX0_wellNotes 36 = .ok (.ireturn, 1) := by decide +kernel
theorem dX0_gain_0 : decode cX0_gain 0 = .ok (.iload_n 1, 1) := by decide +kernel
theorem dX0_gain_1 : decode cX0_gain 1 = .ok (.iconst 1, 1) := by decide +kernel
theorem dX0_gain_2 : decode cX0_gain 2 = .ok (.if_icmp .ne 7, 3) := by decide +kernel
theorem dX0_gain_5 : decode cX0_gain 5 = .ok (.iconst 3, 1) := by decide +kernel
theorem dX0_gain_6 : decode cX0_gain 6 = .ok (.goto 4, 3) := by decide +kernel
theorem dX0_gain_9 : decode cX0_gain 9 = .ok (.iconst 2, 1) := by decide +kernel
theorem dX0_gain_10 : decode cX0_gain 10 = .ok (.istore 4, 2) := by decide +kernel
theorem dX0_gain_12 : decode cX0_gain 12 = .ok (.aload_n 0, 1) := by decide +kernel
theorem dX0_gain_13 : decode cX0_gain 13 = .ok (.iload_n 2, 1) := by decide +kernel
theorem dX0_gain_14 : decode cX0_gain 14 = .ok (.iload_n 3, 1) := by decide +kernel
theorem dX0_gain_15 : decode cX0_gain 15 = .ok (.invokevirtual 25, 3) := by decide +kernel
theorem dX0_gain_18 : decode cX0_gain 18 = .ok (.istore 5, 2) := by decide +kernel
theorem dX0_gain_20 : decode cX0_gain 20 = .ok (.iconst 0, 1) := by decide +kernel
theorem dX0_gain_21 : decode cX0_gain 21 = .ok (.istore 6, 2) := by decide +kernel
theorem dX0_gain_23 : decode cX0_gain 23 = .ok (.iload_n 3, 1) := by decide +kernel
theorem dX0_gain_24 : decode cX0_gain 24 = .ok (.istore 7, 2) := by decide +kernel
theorem dX0_gain_26 : decode cX0_gain 26 = .ok (.iload 7, 2) := by decide +kernel
theorem dX0_gain_28 : decode cX0_gain 28 = .ok (.iload 5, 2) := by decide +kernel
theorem dX0_gain_30 : decode cX0_gain 30 = .ok (.if_icmp .ge 55, 3) := by decide +kernel
theorem dX0_gain_33 : decode cX0_gain 33 = .ok (.aload_n 0, 1) := by decide +kernel
theorem dX0_gain_34 : decode cX0_gain 34 = .ok (.getfield 9, 3) := by decide +kernel
theorem dX0_gain_37 : decode cX0_gain 37 = .ok (.iload 7, 2) := by decide +kernel
theorem dX0_gain_39 : decode cX0_gain 39 = .ok (.iconst 4, 1) := by decide +kernel
theorem dX0_gain_40 : decode cX0_gain 40 = .ok (.imul, 1) := by decide +kernel
theorem dX0_gain_41 : decode cX0_gain 41 = .ok (.iload_n 2, 1) := by decide +kernel
theorem dX0_gain_42 : decode cX0_gain 42 = .ok (.iadd, 1) := by decide +kernel
theorem dX0_gain_43 : decode cX0_gain 43 = .ok (.iaload, 1) := by decide +kernel
theorem dX0_gain_44 : decode cX0_gain 44 = .ok (.istore 8, 2) := by decide +kernel
theorem dX0_gain_46 : decode cX0_gain 46 = .ok (.iload 6, 2) := by decide +kernel
theorem dX0_gain_48 : decode cX0_gain 48 = .ok (.iload 8, 2) := by decide +kernel
theorem dX0_gain_50 : decode cX0_gain 50 = .ok (.iload 4, 2) := by decide +kernel
theorem dX0_gain_52 : decode cX0_gain 52 = .ok (.if_icmp .ne 7, 3) := by decide +kernel
theorem dX0_gain_55 : decode cX0_gain 55 = .ok (.iconst 1, 1) := by decide +kernel
theorem dX0_gain_56 : decode cX0_gain 56 = .ok (.goto 4, 3) := by decide +kernel
theorem dX0_gain_59 : decode cX0_gain 59 = .ok (.iconst 0, 1) := by decide +kernel
theorem dX0_gain_60 : decode cX0_gain 60 = .ok (.iadd, 1) := by decide +kernel
theorem dX0_gain_61 : decode cX0_gain 61 = .ok (.istore 6, 2) := by decide +kernel
theorem dX0_gain_63 : decode cX0_gain 63 = .ok (.iload 6, 2) := by decide +kernel
theorem dX0_gain_65 : decode cX0_gain 65 = .ok (.iload 8, 2) := by decide +kernel
theorem dX0_gain_67 : decode cX0_gain 67 = .ok (.iconst 1, 1) := by decide +kernel
theorem dX0_gain_68 : decode cX0_gain 68 = .ok (.if_icmp .ne 7, 3) := by decide +kernel
theorem dX0_gain_71 : decode cX0_gain 71 = .ok (.iconst 1, 1) := by decide +kernel
theorem dX0_gain_72 : decode cX0_gain 72 = .ok (.goto 4, 3) := by decide +kernel
theorem dX0_gain_75 : decode cX0_gain 75 = .ok (.iconst 0, 1) := by decide +kernel
theorem dX0_gain_76 : decode cX0_gain 76 = .ok (.isub, 1) := by decide +kernel
theorem dX0_gain_77 : decode cX0_gain 77 = .ok (.istore 6, 2) := by decide +kernel
theorem dX0_gain_79 : decode cX0_gain 79 = .ok (.iinc 7 1, 3) := by decide +kernel
theorem dX0_gain_82 : decode cX0_gain 82 = .ok (.goto (-56), 3) := by decide +kernel
theorem dX0_gain_85 : decode cX0_gain 85 = .ok (.iload 6, 2) := by decide +kernel
theorem dX0_gain_87 : decode cX0_gain 87 = .ok (.ireturn, 1) := by decide +kernel
theorem dX0_findBest_0 : decode cX0_findBest 0 = .ok (.aload_n 0, 1) := by decide +kernel
theorem dX0_findBest_1 : decode cX0_findBest 1 = .ok (.invokevirtual 29, 3) := by decide +kernel
theorem dX0_findBest_4 : decode cX0_findBest 4 = .ok (.istore_n 1, 1) := by decide +kernel
theorem dX0_findBest_5 : decode cX0_findBest 5 = .ok (.aload_n 0, 1) := by decide +kernel
theorem dX0_findBest_6 : decode cX0_findBest 6 = .ok (.iconst 0, 1) := by decide +kernel
theorem dX0_findBest_7 : decode cX0_findBest 7 = .ok (.putfield 33, 3) := by decide +kernel
theorem dX0_findBest_10 : decode cX0_findBest 10 = .ok (.aload_n 0, 1) := by decide +kernel
theorem dX0_findBest_11 : decode cX0_findBest 11 = .ok (.iconst (-1), 1) := by decide +kernel
theorem dX0_findBest_12 : decode cX0_findBest 12 = .ok (.putfield 36, 3) := by decide +kernel
theorem dX0_findBest_15 : decode cX0_findBest 15 = .ok (.aload_n 0, 1) := by decide +kernel
theorem dX0_findBest_16 : decode cX0_findBest 16 = .ok (.iconst (-1), 1) := by decide +kernel
theorem dX0_findBest_17 : decode cX0_findBest 17 = .ok (.putfield 39, 3) := by decide +kernel
theorem dX0_findBest_20 : decode cX0_findBest 20 = .ok (.aload_n 0, 1) := by decide +kernel
theorem dX0_findBest_21 : decode cX0_findBest 21 = .ok (.iload_n 1, 1) := by decide +kernel
theorem dX0_findBest_22 : decode cX0_findBest 22 = .ok (.putfield 42, 3) := by decide +kernel
theorem dX0_findBest_25 : decode cX0_findBest 25 = .ok (.iconst 1, 1) := by decide +kernel
theorem dX0_findBest_26 : decode cX0_findBest 26 = .ok (.istore_n 2, 1) := by decide +kernel
theorem dX0_findBest_27 : decode cX0_findBest 27 = .ok (.iload_n 2, 1) := by decide +kernel
theorem dX0_findBest_28 : decode cX0_findBest 28 = .ok (.iconst 2, 1) := by decide +kernel
theorem dX0_findBest_29 : decode cX0_findBest 29 = .ok (.if_icmp .gt 56, 3) := by decide +kernel
theorem dX0_findBest_32 : decode cX0_findBest 32 = .ok (.iconst 0, 1) := by decide +kernel
theorem dX0_findBest_33 : decode cX0_findBest 33 = .ok (.istore_n 3, 1) := by decide +kernel
theorem dX0_findBest_34 : decode cX0_findBest 34 = .ok (.iload_n 3, 1) := by decide +kernel
theorem dX0_findBest_35 : decode cX0_findBest 35 = .ok (.iconst 4, 1) := by decide +kernel
theorem dX0_findBest_36 : decode cX0_findBest 36 = .ok (.if_icmp .ge 43, 3) := by decide +kernel
theorem dX0_findBest_39 : decode cX0_findBest 39 = .ok (.iconst 0, 1) := by decide +kernel
theorem dX0_findBest_40 : decode cX0_findBest 40 = .ok (.istore 4, 2) := by decide +kernel
theorem dX0_findBest_42 : decode cX0_findBest 42 = .ok (.iload 4, 2) := by decide +kernel
theorem dX0_findBest_44 : decode cX0_findBest 44 = .ok (.bipush 61, 2) := by decide +kernel
theorem dX0_findBest_46 : decode cX0_findBest 46 = .ok (.if_icmp .ge 27, 3) := by decide +kernel
theorem dX0_findBest_49 : decode cX0_findBest 49 = .ok (.aload_n 0, 1) := by decide +kernel
theorem dX0_findBest_50 : decode cX0_findBest 50 = .ok (.iload_n 2, 1) := by decide +kernel
theorem dX0_findBest_51 : decode cX0_findBest 51 = .ok (.iload_n 3, 1) := by decide +kernel
theorem dX0_findBest_52 : decode cX0_findBest 52 = .ok (.iload 4, 2) := by decide +kernel
theorem dX0_findBest_54 : decode cX0_findBest 54 = .ok (.iload_n 1, 1) := by decide +kernel
theorem dX0_findBest_55 : decode cX0_findBest 55 = .ok (.aload_n 0, 1) := by decide +kernel
theorem dX0_findBest_56 : decode cX0_findBest 56 = .ok (.iload_n 2, 1) := by decide +kernel
theorem dX0_findBest_57 : decode cX0_findBest 57 = .ok (.iload_n 3, 1) := by decide +kernel
theorem dX0_findBest_58 : decode cX0_findBest 58 = .ok (.iload 4, 2) := by decide +kernel
theorem dX0_findBest_60 : decode cX0_findBest 60 = .ok (.invokevirtual 45, 3) := by decide +kernel
theorem dX0_findBest_63 : decode cX0_findBest 63 = .ok (.iadd, 1) := by decide +kernel
theorem dX0_findBest_64 : decode cX0_findBest 64 = .ok (.invokevirtual 49, 3) := by decide +kernel
theorem dX0_findBest_67 : decode cX0_findBest 67 = .ok (.iinc 4 1, 3) := by decide +kernel
theorem dX0_findBest_70 : decode cX0_findBest 70 = .ok (.goto (-28), 3) := by decide +kernel
theorem dX0_findBest_73 : decode cX0_findBest 73 = .ok (.iinc 3 1, 3) := by decide +kernel
theorem dX0_findBest_76 : decode cX0_findBest 76 = .ok (.goto (-42), 3) := by decide +kernel
theorem dX0_findBest_79 : decode cX0_findBest 79 = .ok (.iinc 2 1, 3) := by decide +kernel
theorem dX0_findBest_82 : decode cX0_findBest 82 = .ok (.goto (-55), 3) := by decide +kernel
theorem dX0_findBest_85 : decode cX0_findBest 85 = .ok (.return_, 1) := by decide +kernel
theorem dX0_keepIfBetter_0 : decode cX0_keepIfBetter 0 = .ok (.iload 4, 2) := by decide +kernel
theorem dX0_keepIfBetter_2 : decode cX0_keepIfBetter 2 = .ok (.aload_n 0, 1) := by decide +kernel
theorem dX0_keepIfBetter_3 : decode cX0_keepIfBetter 3 = .ok (.getfield 42, 3) := by decide +kernel
theorem dX0_keepIfBetter_6 : decode cX0_keepIfBetter 6 = .ok (.if_icmp .le 24, 3) := by decide +kernel
theorem dX0_keepIfBetter_9 : decode cX0_keepIfBetter 9 = .ok (.aload_n 0, 1) := by decide +kernel
theorem dX0_keepIfBetter_10 : decode cX0_keepIfBetter 10 = .ok (.iload_n 1, 1) := by decide +kernel
theorem dX0_keepIfBetter_11 : decode cX0_keepIfBetter 11 = .ok (.putfield 33, 3) := by decide +kernel
theorem dX0_keepIfBetter_14 : decode cX0_keepIfBetter 14 = .ok (.aload_n 0, 1) := by decide +kernel
theorem dX0_keepIfBetter_15 : decode cX0_keepIfBetter 15 = .ok (.iload_n 2, 1) := by decide +kernel
theorem dX0_keepIfBetter_16 : decode cX0_keepIfBetter 16 = .ok (.putfield 36, 3) := by decide +kernel
theorem dX0_keepIfBetter_19 : decode cX0_keepIfBetter 19 = .ok (.aload_n 0, 1) := by decide +kernel
theorem dX0_keepIfBetter_20 : decode cX0_keepIfBetter 20 = .ok (.iload_n 3, 1) := by decide +kernel
theorem dX0_keepIfBetter_21 : decode cX0_keepIfBetter 21 = .ok (.putfield 39, 3) := by decide +kernel
theorem dX0_keepIfBetter_24 : decode cX0_keepIfBetter 24 = .ok (.aload_n 0, 1) := by decide +kernel
theorem dX0_keepIfBetter_25 : decode cX0_keepIfBetter 25 = .ok (.iload 4, 2) := by decide +kernel
theorem dX0_keepIfBetter_27 : decode cX0_keepIfBetter 27 = .ok (.putfield 42, 3) := by decide +kernel
theorem dX0_keepIfBetter_30 : decode cX0_keepIfBetter 30 = .ok (.return_, 1) := by decide +kernel
theorem dX0_mendedBehind_0 : decode cX0_mendedBehind 0 = .ok (.bipush 61, 2) := by decide +kernel
theorem dX0_mendedBehind_2 : decode cX0_mendedBehind 2 = .ok (.istore_n 3, 1) := by decide +kernel
theorem dX0_mendedBehind_3 : decode cX0_mendedBehind 3 = .ok (.iconst 0, 1) := by decide +kernel
theorem dX0_mendedBehind_4 : decode cX0_mendedBehind 4 = .ok (.istore 4, 2) := by decide +kernel
theorem dX0_mendedBehind_6 : decode cX0_mendedBehind 6 = .ok (.iload 4, 2) := by decide +kernel
theorem dX0_mendedBehind_8 : decode cX0_mendedBehind 8 = .ok (.aload_n 0, 1) := by decide +kernel
theorem dX0_mendedBehind_9 : decode cX0_mendedBehind 9 = .ok (.getfield 21, 3) := by decide +kernel
theorem dX0_mendedBehind_12 : decode cX0_mendedBehind 12 = .ok (.if_icmp .ge 43, 3) := by decide +kernel
theorem dX0_mendedBehind_15 : decode cX0_mendedBehind 15 = .ok (.aload_n 0, 1) := by decide +kernel
theorem dX0_mendedBehind_16 : decode cX0_mendedBehind 16 = .ok (.getfield 15, 3) := by decide +kernel
theorem dX0_mendedBehind_19 : decode cX0_mendedBehind 19 = .ok (.iload 4, 2) := by decide +kernel
theorem dX0_mendedBehind_21 : decode cX0_mendedBehind 21 = .ok (.iaload, 1) := by decide +kernel
theorem dX0_mendedBehind_22 : decode cX0_mendedBehind 22 = .ok (.iload_n 1, 1) := by decide +kernel
theorem dX0_mendedBehind_23 : decode cX0_mendedBehind 23 = .ok (.if_icmp .ne 26, 3) := by decide +kernel
theorem dX0_mendedBehind_26 : decode cX0_mendedBehind 26 = .ok (.aload_n 0, 1) := by decide +kernel
theorem dX0_mendedBehind_27 : decode cX0_mendedBehind 27 = .ok (.getfield 18, 3) := by decide +kernel
theorem dX0_mendedBehind_30 : decode cX0_mendedBehind 30 = .ok (.iload 4, 2) := by decide +kernel
theorem dX0_mendedBehind_32 : decode cX0_mendedBehind 32 = .ok (.iaload, 1) := by decide +kernel
theorem dX0_mendedBehind_33 : decode cX0_mendedBehind 33 = .ok (.iload_n 2, 1) := by decide +kernel
theorem dX0_mendedBehind_34 : decode cX0_mendedBehind 34 = .ok (.if_icmp .le 15, 3) := by decide +kernel
theorem dX0_mendedBehind_37 : decode cX0_mendedBehind 37 = .ok (.iload_n 3, 1) := by decide +kernel
theorem dX0_mendedBehind_38 : decode cX0_mendedBehind 38 = .ok (.aload_n 0, 1) := by decide +kernel
theorem dX0_mendedBehind_39 : decode cX0_mendedBehind 39 = .ok (.getfield 18, 3) := by decide +kernel
theorem dX0_mendedBehind_42 : decode cX0_mendedBehind 42 = .ok (.iload 4, 2) := by decide +kernel
theorem dX0_mendedBehind_44 : decode cX0_mendedBehind 44 = .ok (.iaload, 1) := by decide +kernel
theorem dX0_mendedBehind_45 : decode cX0_mendedBehind 45 = .ok (.invokestatic 53, 3) := by decide +kernel
theorem dX0_mendedBehind_48 : decode cX0_mendedBehind 48 = .ok (.istore_n 3, 1) := by decide +kernel
theorem dX0_mendedBehind_49 : decode cX0_mendedBehind 49 = .ok (.iinc 4 1, 3) := by decide +kernel
theorem dX0_mendedBehind_52 : decode cX0_mendedBehind 52 = .ok (.goto (-46), 3) := by decide +kernel
theorem dX0_mendedBehind_55 : decode cX0_mendedBehind 55 = .ok (.iload_n 3, 1) := by decide +kernel
theorem dX0_mendedBehind_56 : decode cX0_mendedBehind 56 = .ok (.ireturn, 1) := by decide +kernel
theorem dX1_init_0 : decode cX1_init 0 = .ok (.aload_n 0, 1) := by decide +kernel
theorem dX1_init_1 : decode cX1_init 1 = .ok (.invokespecial 3, 3) := by decide +kernel
theorem dX1_init_4 : decode cX1_init 4 = .ok (.aload_n 0, 1) := by decide +kernel
theorem dX1_init_5 : decode cX1_init 5 = .ok (.bipush 8, 2) := by decide +kernel
theorem dX1_init_7 : decode cX1_init 7 = .ok (.newarray .int, 2) := by decide +kernel
theorem dX1_init_9 : decode cX1_init 9 = .ok (.putfield 9, 3) := by decide +kernel
theorem dX1_init_12 : decode cX1_init 12 = .ok (.aload_n 0, 1) := by decide +kernel
theorem dX1_init_13 : decode cX1_init 13 = .ok (.bipush 8, 2) := by decide +kernel
theorem dX1_init_15 : decode cX1_init 15 = .ok (.newarray .boolean, 2) := by decide +kernel
theorem dX1_init_17 : decode cX1_init 17 = .ok (.putfield 15, 3) := by decide +kernel
theorem dX1_init_20 : decode cX1_init 20 = .ok (.aload_n 0, 1) := by decide +kernel
theorem dX1_init_21 : decode cX1_init 21 = .ok (.bipush 8, 2) := by decide +kernel
theorem dX1_init_23 : decode cX1_init 23 = .ok (.newarray .int, 2) := by decide +kernel
theorem dX1_init_25 : decode cX1_init 25 = .ok (.putfield 19, 3) := by decide +kernel
theorem dX1_init_28 : decode cX1_init 28 = .ok (.aload_n 0, 1) := by decide +kernel
theorem dX1_init_29 : decode cX1_init 29 = .ok (.bipush 8, 2) := by decide +kernel
theorem dX1_init_31 : decode cX1_init 31 = .ok (.newarray .int, 2) := by decide +kernel
theorem dX1_init_33 : decode cX1_init 33 = .ok (.putfield 22, 3) := by decide +kernel
theorem dX1_init_36 : decode cX1_init 36 = .ok (.aload_n 0, 1) := by decide +kernel
theorem dX1_init_37 : decode cX1_init 37 = .ok (.bipush 8, 2) := by decide +kernel
theorem dX1_init_39 : decode cX1_init 39 = .ok (.newarray .int, 2) := by decide +kernel
theorem dX1_init_41 : decode cX1_init 41 = .ok (.putfield 25, 3) := by decide +kernel
theorem dX1_init_44 : decode cX1_init 44 = .ok (.aload_n 0, 1) := by decide +kernel
theorem dX1_init_45 : decode cX1_init 45 = .ok (.bipush 8, 2) := by decide +kernel
theorem dX1_init_47 : decode cX1_init 47 = .ok (.newarray .int, 2) := by decide +kernel
theorem dX1_init_49 : decode cX1_init 49 = .ok (.putfield 28, 3) := by decide +kernel
theorem dX1_init_52 : decode cX1_init 52 = .ok (.aload_n 0, 1) := by decide +kernel
theorem dX1_init_53 : decode cX1_init 53 = .ok (.bipush 8, 2) := by decide +kernel
theorem dX1_init_55 : decode cX1_init 55 = .ok (.newarray .int, 2) := by decide +kernel
theorem dX1_init_57 : decode cX1_init 57 = .ok (.putfield 31, 3) := by decide +kernel
theorem dX1_init_60 : decode cX1_init 60 = .ok (.aload_n 0, 1) := by decide +kernel
theorem dX1_init_61 : decode cX1_init 61 = .ok (.bipush 8, 2) := by decide +kernel
theorem dX1_init_63 : decode cX1_init 63 = .ok (.newarray .int, 2) := by decide +kernel
theorem dX1_init_65 : decode cX1_init 65 = .ok (.putfield 34, 3) := by decide +kernel
theorem dX1_init_68 : decode cX1_init 68 = .ok (.aload_n 0, 1) := by decide +kernel
theorem dX1_init_69 : decode cX1_init 69 = .ok (.bipush 8, 2) := by decide +kernel
theorem dX1_init_71 : decode cX1_init 71 = .ok (.newarray .int, 2) := by decide +kernel
theorem dX1_init_73 : decode cX1_init 73 = .ok (.putfield 37, 3) := by decide +kernel
theorem dX1_init_76 : decode cX1_init 76 = .ok (.aload_n 0, 1) := by decide +kernel
theorem dX1_init_77 : decode cX1_init 77 = .ok (.bipush 8, 2) := by decide +kernel
theorem dX1_init_79 : decode cX1_init 79 = .ok (.newarray .int, 2) := by decide +kernel
theorem dX1_init_81 : decode cX1_init 81 = .ok (.putfield 40, 3) := by decide +kernel
theorem dX1_init_84 : decode cX1_init 84 = .ok (.return_, 1) := by decide +kernel
theorem dX1_has_0 : decode cX1_has 0 = .ok (.iload_n 1, 1) := by decide +kernel
theorem dX1_has_1 : decode cX1_has 1 = .ok (.iconst 0, 1) := by decide +kernel
theorem dX1_has_2 : decode cX1_has 2 = .ok (.aload_n 0, 1) := by decide +kernel
theorem dX1_has_3 : decode cX1_has 3 = .ok (.getfield 43, 3) := by decide +kernel
theorem dX1_has_6 : decode cX1_has 6 = .ok (.iconst 1, 1) := by decide +kernel
theorem dX1_has_7 : decode cX1_has 7 = .ok (.isub, 1) := by decide +kernel
theorem dX1_has_8 : decode cX1_has 8 = .ok (.invokestatic 47, 3) := by decide +kernel
theorem dX1_has_11 : decode cX1_has 11 = .ok (.ireturn, 1) := by decide +kernel
theorem dX1_addKind_0 : decode cX1_addKind 0 = .ok (.aload_n 0, 1) := by decide +kernel
theorem dX1_addKind_1 : decode cX1_addKind 1 = .ok (.getfield 9, 3) := by decide +kernel
theorem dX1_addKind_4 : decode cX1_addKind 4 = .ok (.aload_n 0, 1) := by decide +kernel
theorem dX1_addKind_5 : decode cX1_addKind 5 = .ok (.getfield 43, 3) := by decide +kernel
theorem dX1_addKind_8 : decode cX1_addKind 8 = .ok (.iload_n 1, 1) := by decide +kernel
theorem dX1_addKind_9 : decode cX1_addKind 9 = .ok (.iastore, 1) := by decide +kernel
theorem dX1_addKind_10 : decode cX1_addKind 10 = .ok (.aload_n 0, 1) := by decide +kernel
theorem dX1_addKind_11 : decode cX1_addKind 11 = .ok (.getfield 15, 3) := by decide +kernel
theorem dX1_addKind_14 : decode cX1_addKind 14 = .ok (.aload_n 0, 1) := by decide +kernel
theorem dX1_addKind_15 : decode cX1_addKind 15 = .ok (.getfield 43, 3) := by decide +kernel
theorem dX1_addKind_18 : decode cX1_addKind 18 = .ok (.iload_n 2, 1) := by decide +kernel
theorem dX1_addKind_19 : decode cX1_addKind 19 = .ok (.bastore, 1) := by decide +kernel
theorem dX1_addKind_20 : decode cX1_addKind 20 = .ok (.aload_n 0, 1) := by decide +kernel
theorem dX1_addKind_21 : decode cX1_addKind 21 = .ok (.getfield 19, 3) := by decide +kernel
theorem dX1_addKind_24 : decode cX1_addKind 24 = .ok (.aload_n 0, 1) := by decide +kernel
theorem dX1_addKind_25 : decode cX1_addKind 25 = .ok (.getfield 43, 3) := by decide +kernel
theorem dX1_addKind_28 : decode cX1_addKind 28 = .ok (.iload_n 3, 1) := by decide +kernel
theorem dX1_addKind_29 : decode cX1_addKind 29 = .ok (.iastore, 1) := by decide +kernel
theorem dX1_addKind_30 : decode cX1_addKind 30 = .ok (.aload_n 0, 1) := by decide +kernel
theorem dX1_addKind_31 : decode cX1_addKind 31 = .ok (.getfield 22, 3) := by decide +kernel
theorem dX1_addKind_34 : decode cX1_addKind 34 = .ok (.aload_n 0, 1) := by decide +kernel
theorem dX1_addKind_35 : decode cX1_addKind 35 = .ok (.getfield 43, 3) := by decide +kernel
theorem dX1_addKind_38 : decode cX1_addKind 38 = .ok (.iload 4, 2) := by decide +kernel
theorem dX1_addKind_40 : decode cX1_addKind 40 = .ok (.iastore, 1) := by decide +kernel
theorem dX1_addKind_41 : decode cX1_addKind 41 = .ok (.aload_n 0, 1) := by decide +kernel
theorem dX1_addKind_42 : decode cX1_addKind 42 = .ok (.getfield 25, 3) := by decide +kernel
theorem dX1_addKind_45 : decode cX1_addKind 45 = .ok (.aload_n 0, 1) := by decide +kernel
theorem dX1_addKind_46 : decode cX1_addKind 46 = .ok (.getfield 43, 3) := by decide +kernel
theorem dX1_addKind_49 : decode cX1_addKind 49 = .ok (.iload 5, 2) := by decide +kernel
theorem dX1_addKind_51 : decode cX1_addKind 51 = .ok (.iastore, 1) := by decide +kernel
theorem dX1_addKind_52 : decode cX1_addKind 52 = .ok (.aload_n 0, 1) := by decide +kernel
theorem dX1_addKind_53 : decode cX1_addKind 53 = .ok (.getfield 28, 3) := by decide +kernel
theorem dX1_addKind_56 : decode cX1_addKind 56 = .ok (.aload_n 0, 1) := by decide +kernel
theorem dX1_addKind_57 : decode cX1_addKind 57 = .ok (.getfield 43, 3) := by decide +kernel
theorem dX1_addKind_60 : decode cX1_addKind 60 = .ok (.iload 6, 2) := by decide +kernel
theorem dX1_addKind_62 : decode cX1_addKind 62 = .ok (.iastore, 1) := by decide +kernel
theorem dX1_addKind_63 : decode cX1_addKind 63 = .ok (.aload_n 0, 1) := by decide +kernel
theorem dX1_addKind_64 : decode cX1_addKind 64 = .ok (.getfield 31, 3) := by decide +kernel
theorem dX1_addKind_67 : decode cX1_addKind 67 = .ok (.aload_n 0, 1) := by decide +kernel
theorem dX1_addKind_68 : decode cX1_addKind 68 = .ok (.getfield 43, 3) := by decide +kernel
theorem dX1_addKind_71 : decode cX1_addKind 71 = .ok (.iload 7, 2) := by decide +kernel
theorem dX1_addKind_73 : decode cX1_addKind 73 = .ok (.iastore, 1) := by decide +kernel
theorem dX1_addKind_74 : decode cX1_addKind 74 = .ok (.aload_n 0, 1) := by decide +kernel
theorem dX1_addKind_75 : decode cX1_addKind 75 = .ok (.getfield 34, 3) := by decide +kernel
theorem dX1_addKind_78 : decode cX1_addKind 78 = .ok (.aload_n 0, 1) := by decide +kernel
theorem dX1_addKind_79 : decode cX1_addKind 79 = .ok (.getfield 43, 3) := by decide +kernel
theorem dX1_addKind_82 : decode cX1_addKind 82 = .ok (.iconst 0, 1) := by decide +kernel
theorem dX1_addKind_83 : decode cX1_addKind 83 = .ok (.iastore, 1) := by decide +kernel
theorem dX1_addKind_84 : decode cX1_addKind 84 = .ok (.aload_n 0, 1) := by decide +kernel
theorem dX1_addKind_85 : decode cX1_addKind 85 = .ok (.dup, 1) := by decide +kernel
theorem dX1_addKind_86 : decode cX1_addKind 86 = .ok (.getfield 43, 3) := by decide +kernel
theorem dX1_addKind_89 : decode cX1_addKind 89 = .ok (.iconst 1, 1) := by decide +kernel
theorem dX1_addKind_90 : decode cX1_addKind 90 = .ok (.iadd, 1) := by decide +kernel
theorem dX1_addKind_91 : decode cX1_addKind 91 = .ok (.putfield 43, 3) := by decide +kernel
theorem dX1_addKind_94 : decode cX1_addKind 94 = .ok (.aload_n 0, 1) := by decide +kernel
theorem dX1_addKind_95 : decode cX1_addKind 95 = .ok (.getfield 43, 3) := by decide +kernel
theorem dX1_addKind_98 : decode cX1_addKind 98 = .ok (.iconst 1, 1) := by decide +kernel
theorem dX1_addKind_99 : decode cX1_addKind 99 = .ok (.isub, 1) := by decide +kernel
theorem dX1_addKind_100 : decode cX1_addKind 100 = .ok (.ireturn, 1) := by decide +kernel
theorem dX1_hasTwoHeats_0 : decode cX1_hasTwoHeats 0 = .ok (.aload_n 0, 1) := by decide +kernel
theorem dX1_hasTwoHeats_1 : decode cX1_hasTwoHeats 1 = .ok (.getfield 34, 3) := by decide +kernel
theorem dX1_hasTwoHeats_4 : decode cX1_hasTwoHeats 4 = .ok (.iload_n 1, 1) := by decide +kernel
theorem dX1_hasTwoHeats_5 : decode cX1_hasTwoHeats 5 = .ok (.iaload, 1) := by decide +kernel
theorem dX1_hasTwoHeats_6 : decode cX1_hasTwoHeats 6 = .ok (.ifCond .le 7, 3) := by decide +kernel
theorem dX1_hasTwoHeats_9 : decode cX1_hasTwoHeats 9 = .ok (.iconst 1, 1) := by decide +kernel
theorem dX1_hasTwoHeats_10 : decode cX1_hasTwoHeats 10 = .ok (.goto 4, 3) := by decide +kernel
theorem dX1_hasTwoHeats_13 : decode cX1_hasTwoHeats 13 = .ok (.iconst 0, 1) := by decide +kernel
theorem dX1_hasTwoHeats_14 : decode cX1_hasTwoHeats 14 = .ok (.ireturn, 1) := by decide +kernel
theorem dX1_giveSecondHeat_0 : decode cX1_giveSecondHeat 0 = .ok (.aload_n 0, 1) := by decide +kernel
theorem dX1_giveSecondHeat_1 : decode cX1_giveSecondHeat 1 = .ok (.getfield 34, 3) := by decide +kernel
theorem dX1_giveSecondHeat_4 : decode cX1_giveSecondHeat 4 = .ok (.iload_n 1, 1) := by decide +kernel
theorem dX1_giveSecondHeat_5 : decode cX1_giveSecondHeat 5 = .ok (.iload_n 2, 1) := by decide +kernel
theorem dX1_giveSecondHeat_6 : decode cX1_giveSecondHeat 6 = .ok (.iastore, 1) := by decide +kernel
theorem dX1_giveSecondHeat_7 : decode cX1_giveSecondHeat 7 = .ok (.aload_n 0, 1) := by decide +kernel
theorem dX1_giveSecondHeat_8 : decode cX1_giveSecondHeat 8 = .ok (.getfield 37, 3) := by decide +kernel
theorem dX1_giveSecondHeat_11 : decode cX1_giveSecondHeat 11 = .ok (.iload_n 1, 1) := by decide +kernel
theorem dX1_giveSecondHeat_12 : decode cX1_giveSecondHeat 12 = .ok (.iload_n 3, 1) := by decide +kernel
theorem dX1_giveSecondHeat_13 : decode cX1_giveSecondHeat 13 = .ok (.iastore, 1) := by decide +kernel
theorem dX1_giveSecondHeat_14 : decode cX1_giveSecondHeat 14 = .ok (.aload_n 0, 1) := by decide +kernel
theorem dX1_giveSecondHeat_15 : decode cX1_giveSecondHeat 15 = .ok (.getfield 40, 3) := by decide +kernel
theorem dX1_giveSecondHeat_18 : decode cX1_giveSecondHeat 18 = .ok (.iload_n 1, 1) := by decide +kernel
theorem dX1_giveSecondHeat_19 : decode cX1_giveSecondHeat 19 = .ok (.iload 4, 2) := by decide +kernel
theorem dX1_giveSecondHeat_21 : decode cX1_giveSecondHeat 21 = .ok (.iastore, 1) := by decide +kernel
theorem dX1_giveSecondHeat_22 : decode cX1_giveSecondHeat 22 = .ok (.return_, 1) := by decide +kernel
theorem dX1_lookAt_0 : decode cX1_lookAt 0 = .ok (.aload_n 0, 1) := by decide +kernel
theorem dX1_lookAt_1 : decode cX1_lookAt 1 = .ok (.iload_n 1, 1) := by decide +kernel
theorem dX1_lookAt_2 : decode cX1_lookAt 2 = .ok (.invokevirtual 51, 3) := by decide +kernel
theorem dX1_lookAt_5 : decode cX1_lookAt 5 = .ok (.ifCond .eq 17, 3) := by decide +kernel
theorem dX1_lookAt_8 : decode cX1_lookAt 8 = .ok (.iload_n 2, 1) := by decide +kernel
theorem dX1_lookAt_9 : decode cX1_lookAt 9 = .ok (.aload_n 0, 1) := by decide +kernel
theorem dX1_lookAt_10 : decode cX1_lookAt 10 = .ok (.getfield 34, 3) := by decide +kernel
theorem dX1_lookAt_13 : decode cX1_lookAt 13 = .ok (.iload_n 1, 1) := by decide +kernel
theorem dX1_lookAt_14 : decode cX1_lookAt 14 = .ok (.iaload, 1) := by decide +kernel
theorem dX1_lookAt_15 : decode cX1_lookAt 15 = .ok (.if_icmp .le 7, 3) := by decide +kernel
theorem dX1_lookAt_18 : decode cX1_lookAt 18 = .ok (.iconst 1, 1) := by decide +kernel
theorem dX1_lookAt_19 : decode cX1_lookAt 19 = .ok (.goto 4, 3) := by decide +kernel
theorem dX1_lookAt_22 : decode cX1_lookAt 22 = .ok (.iconst 0, 1) := by decide +kernel
theorem dX1_lookAt_23 : decode cX1_lookAt 23 = .ok (.istore 5, 2) := by decide +kernel
theorem dX1_lookAt_25 : decode cX1_lookAt 25 = .ok (.lload_n 3, 1) := by decide +kernel
theorem dX1_lookAt_26 : decode cX1_lookAt 26 = .ok (.iload 5, 2) := by decide +kernel
theorem dX1_lookAt_28 : decode cX1_lookAt 28 = .ok (.ifCond .eq 12, 3) := by decide +kernel
theorem dX1_lookAt_31 : decode cX1_lookAt 31 = .ok (.aload_n 0, 1) := by decide +kernel
theorem dX1_lookAt_32 : decode cX1_lookAt 32 = .ok (.getfield 40, 3) := by decide +kernel
theorem dX1_lookAt_35 : decode cX1_lookAt 35 = .ok (.iload_n 1, 1) := by decide +kernel
theorem dX1_lookAt_36 : decode cX1_lookAt 36 = .ok (.iaload, 1) := by decide +kernel
theorem dX1_lookAt_37 : decode cX1_lookAt 37 = .ok (.goto 9, 3) := by decide +kernel
theorem dX1_lookAt_40 : decode cX1_lookAt 40 = .ok (.aload_n 0, 1) := by decide +kernel
theorem dX1_lookAt_41 : decode cX1_lookAt 41 = .ok (.getfield 28, 3) := by decide +kernel
theorem dX1_lookAt_44 : decode cX1_lookAt 44 = .ok (.iload_n 1, 1) := by decide +kernel
theorem dX1_lookAt_45 : decode cX1_lookAt 45 = .ok (.iaload, 1) := by decide +kernel
theorem dX1_lookAt_46 : decode cX1_lookAt 46 = .ok (.i2l, 1) := by decide +kernel
theorem dX1_lookAt_47 : decode cX1_lookAt 47 = .ok (.lcmp, 1) := by decide +kernel
theorem dX1_lookAt_48 : decode cX1_lookAt 48 = .ok (.ifCond .le 5, 3) := by decide +kernel
theorem dX1_lookAt_51 : decode cX1_lookAt 51 = .ok (.iconst 1, 1) := by decide +kernel
theorem dX1_lookAt_52 : decode cX1_lookAt 52 = .ok (.ireturn, 1) := by decide +kernel
theorem dX1_lookAt_53 : decode cX1_lookAt 53 = .ok (.lload_n 3, 1) := by decide +kernel
theorem dX1_lookAt_54 : decode cX1_lookAt 54 = .ok (.iload 5, 2) := by decide +kernel
theorem dX1_lookAt_56 : decode cX1_lookAt 56 = .ok (.ifCond .eq 12, 3) := by decide +kernel
theorem dX1_lookAt_59 : decode cX1_lookAt 59 = .ok (.aload_n 0, 1) := by decide +kernel
theorem dX1_lookAt_60 : decode cX1_lookAt 60 = .ok (.getfield 37, 3) := by decide +kernel
theorem dX1_lookAt_63 : decode cX1_lookAt 63 = .ok (.iload_n 1, 1) := by decide +kernel
theorem dX1_lookAt_64 : decode cX1_lookAt 64 = .ok (.iaload, 1) := by decide +kernel
theorem dX1_lookAt_65 : decode cX1_lookAt 65 = .ok (.goto 9, 3) := by decide +kernel
theorem dX1_lookAt_68 : decode cX1_lookAt 68 = .ok (.aload_n 0, 1) := by decide +kernel
theorem dX1_lookAt_69 : decode cX1_lookAt 69 = .ok (.getfield 25, 3) := by decide +kernel
theorem dX1_lookAt_72 : decode cX1_lookAt 72 = .ok (.iload_n 1, 1) := by decide +kernel
theorem dX1_lookAt_73 : decode cX1_lookAt 73 = .ok (.iaload, 1) := by decide +kernel
theorem dX1_lookAt_74 : decode cX1_lookAt 74 = .ok (.i2l, 1) := by decide +kernel
theorem dX1_lookAt_75 : decode cX1_lookAt 75 = .ok (.lcmp, 1) := by decide +kernel
theorem dX1_lookAt_76 : decode cX1_lookAt 76 = .ok (.ifCond .ge 7, 3) := by decide +kernel
theorem dX1_lookAt_79 : decode cX1_lookAt 79 = .ok (.iconst 2, 1) := by decide +kernel
theorem dX1_lookAt_80 : decode cX1_lookAt 80 = .ok (.goto 4, 3) := by decide +kernel
theorem dX1_lookAt_83 : decode cX1_lookAt 83 = .ok (.iconst 0, 1) := by decide +kernel
theorem dX1_lookAt_84 : decode cX1_lookAt 84 = .ok (.ireturn, 1) := by decide +kernel
theorem dX1_resultOf_0 : decode cX1_resultOf 0 = .ok (.iload 4, 2) := by decide +kernel
theorem dX1_resultOf_2 : decode cX1_resultOf 2 = .ok (.aload_n 0, 1) := by decide +kernel
theorem dX1_resultOf_3 : decode cX1_resultOf 3 = .ok (.getfield 31, 3) := by decide +kernel
theorem dX1_resultOf_6 : decode cX1_resultOf 6 = .ok (.iload_n 1, 1) := by decide +kernel
theorem dX1_resultOf_7 : decode cX1_resultOf 7 = .ok (.iaload, 1) := by decide +kernel
theorem dX1_resultOf_8 : decode cX1_resultOf 8 = .ok (.if_icmp .le 5, 3) := by decide +kernel
theorem dX1_resultOf_11 : decode cX1_resultOf 11 = .ok (.iconst 2, 1) := by decide +kernel
theorem dX1_resultOf_12 : decode cX1_resultOf 12 = .ok (.ireturn, 1) := by decide +kernel
theorem dX1_resultOf_13 : decode cX1_resultOf 13 = .ok (.iload_n 3, 1) := by decide +kernel
theorem dX1_resultOf_14 : decode cX1_resultOf 14 = .ok (.aload_n 0, 1) := by decide +kernel
theorem dX1_resultOf_15 : decode cX1_resultOf 15 = .ok (.getfield 19, 3) := by decide +kernel
theorem dX1_resultOf_18 : decode cX1_resultOf 18 = .ok (.iload_n 1, 1) := by decide +kernel
theorem dX1_resultOf_19 : decode cX1_resultOf 19 = .ok (.iaload, 1) := by decide +kernel
theorem dX1_resultOf_20 : decode cX1_resultOf 20 = .ok (.if_icmp .ge 5, 3) := by decide +kernel
theorem dX1_resultOf_23 : decode cX1_resultOf 23 = .ok (.iconst 0, 1) := by decide +kernel
theorem dX1_resultOf_24 : decode cX1_resultOf 24 = .ok (.ireturn, 1) := by decide +kernel
theorem dX1_resultOf_25 : decode cX1_resultOf 25 = .ok (.iload_n 2, 1) := by decide +kernel
theorem dX1_resultOf_26 : decode cX1_resultOf 26 = .ok (.aload_n 0, 1) := by decide +kernel
theorem dX1_resultOf_27 : decode cX1_resultOf 27 = .ok (.getfield 22, 3) := by decide +kernel
theorem dX1_resultOf_30 : decode cX1_resultOf 30 = .ok (.iload_n 1, 1) := by decide +kernel
theorem dX1_resultOf_31 : decode cX1_resultOf 31 = .ok (.iaload, 1) := by decide +kernel
theorem dX1_resultOf_32 : decode cX1_resultOf 32 = .ok (.if_icmp .le 7, 3) := by decide +kernel
theorem dX1_resultOf_35 : decode cX1_resultOf 35 = .ok (.iconst 3, 1) := by decide +kernel
theorem dX1_resultOf_36 : decode cX1_resultOf 36 = .ok (.goto 4, 3) := by decide +kernel
theorem dX1_resultOf_39 : decode cX1_resultOf 39 = .ok (.iconst 1, 1) := by decide +kernel
theorem dX1_resultOf_40 : decode cX1_resultOf 40 = .ok (.ireturn, 1) := by decide +kernel
theorem dX2_init_0 : decode cX2_init 0 = .ok (.aload_n 0, 1) := by decide +kernel
theorem dX2_init_1 : decode cX2_init 1 = .ok (.invokespecial 1, 3) := by decide +kernel
theorem dX2_init_4 : decode cX2_init 4 = .ok (.return_, 1) := by decide +kernel
theorem dX2_change_0 : decode cX2_change 0 = .ok (.aload_n 1, 1) := by decide +kernel
theorem dX2_change_1 : decode cX2_change 1 = .ok (.getfield 7, 3) := by decide +kernel
theorem dX2_change_4 : decode cX2_change 4 = .ok (.iload_n 2, 1) := by decide +kernel
theorem dX2_change_5 : decode cX2_change 5 = .ok (.iaload, 1) := by decide +kernel
theorem dX2_change_6 : decode cX2_change 6 = .ok (.iconst 1, 1) := by decide +kernel
theorem dX2_change_7 : decode cX2_change 7 = .ok (.if_icmp .ne 16, 3) := by decide +kernel
theorem dX2_change_10 : decode cX2_change 10 = .ok (.aload_n 0, 1) := by decide +kernel
theorem dX2_change_11 : decode cX2_change 11 = .ok (.dup, 1) := by decide +kernel
theorem dX2_change_12 : decode cX2_change 12 = .ok (.getfield 13, 3) := by decide +kernel
theorem dX2_change_15 : decode cX2_change 15 = .ok (.iload_n 3, 1) := by decide +kernel
theorem dX2_change_16 : decode cX2_change 16 = .ok (.iadd, 1) := by decide +kernel
theorem dX2_change_17 : decode cX2_change 17 = .ok (.putfield 13, 3) := by decide +kernel
theorem dX2_change_20 : decode cX2_change 20 = .ok (.goto 20, 3) := by decide +kernel
theorem dX2_change_23 : decode cX2_change 23 = .ok (.aload_n 0, 1) := by decide +kernel
theorem dX2_change_24 : decode cX2_change 24 = .ok (.dup, 1) := by decide +kernel
theorem dX2_change_25 : decode cX2_change 25 = .ok (.getfield 19, 3) := by decide +kernel
theorem dX2_change_28 : decode cX2_change 28 = .ok (.iload_n 3, 1) := by decide +kernel
theorem dX2_change_29 : decode cX2_change 29 = .ok (.aload_n 1, 1) := by decide +kernel
theorem dX2_change_30 : decode cX2_change 30 = .ok (.getfield 7, 3) := by decide +kernel
theorem dX2_change_33 : decode cX2_change 33 = .ok (.iload_n 2, 1) := by decide +kernel
theorem dX2_change_34 : decode cX2_change 34 = .ok (.iaload, 1) := by decide +kernel
theorem dX2_change_35 : decode cX2_change 35 = .ok (.imul, 1) := by decide +kernel
theorem dX2_change_36 : decode cX2_change 36 = .ok (.iadd, 1) := by decide +kernel
theorem dX2_change_37 : decode cX2_change 37 = .ok (.putfield 19, 3) := by decide +kernel
theorem dX2_change_40 : decode cX2_change 40 = .ok (.aload_n 1, 1) := by decide +kernel
theorem dX2_change_41 : decode cX2_change 41 = .ok (.getfield 22, 3) := by decide +kernel
theorem dX2_change_44 : decode cX2_change 44 = .ok (.iload_n 2, 1) := by decide +kernel
theorem dX2_change_45 : decode cX2_change 45 = .ok (.baload, 1) := by decide +kernel
theorem dX2_change_46 : decode cX2_change 46 = .ok (.ifCond .eq 13, 3) := by decide +kernel
theorem dX2_change_49 : decode cX2_change 49 = .ok (.aload_n 0, 1) := by decide +kernel
theorem dX2_change_50 : decode cX2_change 50 = .ok (.dup, 1) := by decide +kernel
theorem dX2_change_51 : decode cX2_change 51 = .ok (.getfield 26, 3) := by decide +kernel
theorem dX2_change_54 : decode cX2_change 54 = .ok (.iload_n 3, 1) := by decide +kernel
theorem dX2_change_55 : decode cX2_change 55 = .ok (.iadd, 1) := by decide +kernel
theorem dX2_change_56 : decode cX2_change 56 = .ok (.putfield 26, 3) := by decide +kernel
theorem dX2_change_59 : decode cX2_change 59 = .ok (.return_, 1) := by decide +kernel
theorem dX2_used_0 : decode cX2_used 0 = .ok (.aload_n 0, 1) := by decide +kernel
theorem dX2_used_1 : decode cX2_used 1 = .ok (.getfield 19, 3) := by decide +kernel
theorem dX2_used_4 : decode cX2_used 4 = .ok (.iconst 0, 1) := by decide +kernel
theorem dX2_used_5 : decode cX2_used 5 = .ok (.aload_n 0, 1) := by decide +kernel
theorem dX2_used_6 : decode cX2_used 6 = .ok (.getfield 13, 3) := by decide +kernel
theorem dX2_used_9 : decode cX2_used 9 = .ok (.aload_n 0, 1) := by decide +kernel
theorem dX2_used_10 : decode cX2_used 10 = .ok (.getfield 26, 3) := by decide +kernel
theorem dX2_used_13 : decode cX2_used 13 = .ok (.isub, 1) := by decide +kernel
theorem dX2_used_14 : decode cX2_used 14 = .ok (.invokestatic 28, 3) := by decide +kernel
theorem dX2_used_17 : decode cX2_used 17 = .ok (.iadd, 1) := by decide +kernel
theorem dX2_used_18 : decode cX2_used 18 = .ok (.ireturn, 1) := by decide +kernel
theorem dX3_init_0 : decode cX3_init 0 = .ok (.aload_n 0, 1) := by decide +kernel
theorem dX3_init_1 : decode cX3_init 1 = .ok (.invokespecial 3, 3) := by decide +kernel
theorem dX3_init_4 : decode cX3_init 4 = .ok (.aload_n 0, 1) := by decide +kernel
theorem dX3_init_5 : decode cX3_init 5 = .ok (.iconst 4, 1) := by decide +kernel
theorem dX3_init_6 : decode cX3_init 6 = .ok (.anewarray 9, 3) := by decide +kernel
theorem dX3_init_9 : decode cX3_init 9 = .ok (.putfield 11, 3) := by decide +kernel
theorem dX3_init_12 : decode cX3_init 12 = .ok (.aload_n 0, 1) := by decide +kernel
theorem dX3_init_13 : decode cX3_init 13 = .ok (.sipush 200, 3) := by decide +kernel
theorem dX3_init_16 : decode cX3_init 16 = .ok (.newarray .int, 2) := by decide +kernel
theorem dX3_init_18 : decode cX3_init 18 = .ok (.putfield 17, 3) := by decide +kernel
theorem dX3_init_21 : decode cX3_init 21 = .ok (.aload_n 0, 1) := by decide +kernel
theorem dX3_init_22 : decode cX3_init 22 = .ok (.sipush 200, 3) := by decide +kernel
theorem dX3_init_25 : decode cX3_init 25 = .ok (.newarray .int, 2) := by decide +kernel
theorem dX3_init_27 : decode cX3_init 27 = .ok (.putfield 21, 3) := by decide +kernel
theorem dX3_init_30 : decode cX3_init 30 = .ok (.aload_n 0, 1) := by decide +kernel
theorem dX3_init_31 : decode cX3_init 31 = .ok (.sipush 200, 3) := by decide +kernel
theorem dX3_init_34 : decode cX3_init 34 = .ok (.newarray .int, 2) := by decide +kernel
theorem dX3_init_36 : decode cX3_init 36 = .ok (.putfield 24, 3) := by decide +kernel
theorem dX3_init_39 : decode cX3_init 39 = .ok (.aload_n 0, 1) := by decide +kernel
theorem dX3_init_40 : decode cX3_init 40 = .ok (.sipush 200, 3) := by decide +kernel
theorem dX3_init_43 : decode cX3_init 43 = .ok (.newarray .int, 2) := by decide +kernel
theorem dX3_init_45 : decode cX3_init 45 = .ok (.putfield 27, 3) := by decide +kernel
theorem dX3_init_48 : decode cX3_init 48 = .ok (.aload_n 0, 1) := by decide +kernel
theorem dX3_init_49 : decode cX3_init 49 = .ok (.sipush 200, 3) := by decide +kernel
theorem dX3_init_52 : decode cX3_init 52 = .ok (.newarray .int, 2) := by decide +kernel
theorem dX3_init_54 : decode cX3_init 54 = .ok (.putfield 30, 3) := by decide +kernel
theorem dX3_init_57 : decode cX3_init 57 = .ok (.aload_n 0, 1) := by decide +kernel
theorem dX3_init_58 : decode cX3_init 58 = .ok (.sipush 200, 3) := by decide +kernel
theorem dX3_init_61 : decode cX3_init 61 = .ok (.newarray .int, 2) := by decide +kernel
theorem dX3_init_63 : decode cX3_init 63 = .ok (.putfield 33, 3) := by decide +kernel
theorem dX3_init_66 : decode cX3_init 66 = .ok (.aload_n 0, 1) := by decide +kernel
theorem dX3_init_67 : decode cX3_init 67 = .ok (.aload_n 1, 1) := by decide +kernel
theorem dX3_init_68 : decode cX3_init 68 = .ok (.putfield 36, 3) := by decide +kernel
theorem dX3_init_71 : decode cX3_init 71 = .ok (.iconst 0, 1) := by decide +kernel
theorem dX3_init_72 : decode cX3_init 72 = .ok (.istore_n 2, 1) := by decide +kernel
theorem dX3_init_73 : decode cX3_init 73 = .ok (.iload_n 2, 1) := by decide +kernel
theorem dX3_init_74 : decode cX3_init 74 = .ok (.iconst 4, 1) := by decide +kernel
theorem dX3_init_75 : decode cX3_init 75 = .ok (.if_icmp .ge 22, 3) := by decide +kernel
theorem dX3_init_78 : decode cX3_init 78 = .ok (.aload_n 0, 1) := by decide +kernel
theorem dX3_init_79 : decode cX3_init 79 = .ok (.getfield 11, 3) := by decide +kernel
theorem dX3_init_82 : decode cX3_init 82 = .ok (.iload_n 2, 1) := by decide +kernel
theorem dX3_init_83 : decode cX3_init 83 = .ok (.new 9, 3) := by decide +kernel
theorem dX3_init_86 : decode cX3_init 86 = .ok (.dup, 1) := by decide +kernel
theorem dX3_init_87 : decode cX3_init 87 = .ok (.invokespecial 40, 3) := by decide +kernel
theorem dX3_init_90 : decode cX3_init 90 = .ok (.aastore, 1) := by decide +kernel
theorem dX3_init_91 : decode cX3_init 91 = .ok (.iinc 2 1, 3) := by decide +kernel
theorem dX3_init_94 : decode cX3_init 94 = .ok (.goto (-21), 3) := by decide +kernel
theorem dX3_init_97 : decode cX3_init 97 = .ok (.return_, 1) := by decide +kernel
theorem dX3_has_0 : decode cX3_has 0 = .ok (.iload_n 1, 1) := by decide +kernel
theorem dX3_has_1 : decode cX3_has 1 = .ok (.iconst 0, 1) := by decide +kernel
theorem dX3_has_2 : decode cX3_has 2 = .ok (.aload_n 0, 1) := by decide +kernel
theorem dX3_has_3 : decode cX3_has 3 = .ok (.getfield 41, 3) := by decide +kernel
theorem dX3_has_6 : decode cX3_has 6 = .ok (.iconst 1, 1) := by decide +kernel
theorem dX3_has_7 : decode cX3_has 7 = .ok (.isub, 1) := by decide +kernel
theorem dX3_has_8 : decode cX3_has 8 = .ok (.invokestatic 45, 3) := by decide +kernel
theorem dX3_has_11 : decode cX3_has 11 = .ok (.ireturn, 1) := by decide +kernel
theorem dX3_isOut_0 : decode cX3_isOut 0 = .ok (.aload_n 0, 1) := by decide +kernel
theorem dX3_isOut_1 : decode cX3_isOut 1 = .ok (.getfield 21, 3) := by decide +kernel
theorem dX3_isOut_4 : decode cX3_isOut 4 = .ok (.iload_n 1, 1) := by decide +kernel
theorem dX3_isOut_5 : decode cX3_isOut 5 = .ok (.iaload, 1) := by decide +kernel
theorem dX3_isOut_6 : decode cX3_isOut 6 = .ok (.iconst (-1), 1) := by decide +kernel
theorem dX3_isOut_7 : decode cX3_isOut 7 = .ok (.if_icmp .ne 7, 3) := by decide +kernel
theorem dX3_isOut_10 : decode cX3_isOut 10 = .ok (.iconst 1, 1) := by decide +kernel
theorem dX3_isOut_11 : decode cX3_isOut 11 = .ok (.goto 4, 3) := by decide +kernel
theorem dX3_isOut_14 : decode cX3_isOut 14 = .ok (.iconst 0, 1) := by decide +kernel
theorem dX3_isOut_15 : decode cX3_isOut 15 = .ok (.ireturn, 1) := by decide +kernel
theorem dX3_anyInsideOf_0 : decode cX3_anyInsideOf 0 = .ok (.iconst 0, 1) := by decide +kernel
theorem dX3_anyInsideOf_1 : decode cX3_anyInsideOf 1 = .ok (.istore_n 2, 1) := by decide +kernel
theorem dX3_anyInsideOf_2 : decode cX3_anyInsideOf 2 = .ok (.iload_n 2, 1) := by decide +kernel
theorem dX3_anyInsideOf_3 : decode cX3_anyInsideOf 3 = .ok (.aload_n 0, 1) := by decide +kernel
theorem dX3_anyInsideOf_4 : decode cX3_anyInsideOf 4 = .ok (.getfield 41, 3) := by decide +kernel
theorem dX3_anyInsideOf_7 : decode cX3_anyInsideOf 7 = .ok (.if_icmp .ge 29, 3) := by decide +kernel
theorem dX3_anyInsideOf_10 : decode cX3_anyInsideOf 10 = .ok (.aload_n 0, 1) := by decide +kernel
theorem dX3_anyInsideOf_11 : decode cX3_anyInsideOf 11 = .ok (.iload_n 2, 1) := by decide +kernel
theorem dX3_anyInsideOf_12 : decode cX3_anyInsideOf 12 = .ok (.invokevirtual 49, 3) := by decide +kernel
theorem dX3_anyInsideOf_15 : decode cX3_anyInsideOf 15 = .ok (.ifCond .ne 15, 3) := by decide +kernel
theorem dX3_anyInsideOf_18 : decode cX3_anyInsideOf 18 = .ok (.aload_n 0, 1) := by decide +kernel
theorem dX3_anyInsideOf_19 : decode cX3_anyInsideOf 19 = .ok (.getfield 17, 3) := by decide +kernel
theorem dX3_anyInsideOf_22 : decode cX3_anyInsideOf 22 = .ok (.iload_n 2, 1) := by decide +kernel
theorem dX3_anyInsideOf_23 : decode cX3_anyInsideOf 23 = .ok (.iaload, 1) := by decide +kernel
theorem dX3_anyInsideOf_24 : decode cX3_anyInsideOf 24 = .ok (.iload_n 1, 1) := by decide +kernel
theorem dX3_anyInsideOf_25 : decode cX3_anyInsideOf 25 = .ok (.if_icmp .ne 5, 3) := by decide +kernel
theorem dX3_anyInsideOf_28 : decode cX3_anyInsideOf 28 = .ok (.iconst 1, 1) := by decide +kernel
theorem dX3_anyInsideOf_29 : decode cX3_anyInsideOf 29 = .ok (.ireturn, 1) := by decide +kernel
theorem dX3_anyInsideOf_30 : decode cX3_anyInsideOf 30 = .ok (.iinc 2 1, 3) := by decide +kernel
theorem dX3_anyInsideOf_33 : decode cX3_anyInsideOf 33 = .ok (.goto (-31), 3) := by decide +kernel
theorem dX3_anyInsideOf_36 : decode cX3_anyInsideOf 36 = .ok (.iconst 0, 1) := by decide +kernel
theorem dX3_anyInsideOf_37 : decode cX3_anyInsideOf 37 = .ok (.ireturn, 1) := by decide +kernel
theorem dX3_fits_0 : decode cX3_fits 0 = .ok (.aload_n 0, 1) := by decide +kernel
theorem dX3_fits_1 : decode cX3_fits 1 = .ok (.iload_n 1, 1) := by decide +kernel
theorem dX3_fits_2 : decode cX3_fits 2 = .ok (.iload_n 2, 1) := by decide +kernel
theorem dX3_fits_3 : decode cX3_fits 3 = .ok (.iconst 1, 1) := by decide +kernel
theorem dX3_fits_4 : decode cX3_fits 4 = .ok (.invokevirtual 53, 3) := by decide +kernel
theorem dX3_fits_7 : decode cX3_fits 7 = .ok (.getstatic 57, 3) := by decide +kernel
theorem dX3_fits_10 : decode cX3_fits 10 = .ok (.iload_n 2, 1) := by decide +kernel
theorem dX3_fits_11 : decode cX3_fits 11 = .ok (.iaload, 1) := by decide +kernel
theorem dX3_fits_12 : decode cX3_fits 12 = .ok (.if_icmp .gt 7, 3) := by decide +kernel
theorem dX3_fits_15 : decode cX3_fits 15 = .ok (.iconst 1, 1) := by decide +kernel
theorem dX3_fits_16 : decode cX3_fits 16 = .ok (.goto 4, 3) := by decide +kernel
theorem dX3_fits_19 : decode cX3_fits 19 = .ok (.iconst 0, 1) := by decide +kernel
theorem dX3_fits_20 : decode cX3_fits 20 = .ok (.ireturn, 1) := by decide +kernel
theorem dX3_mayLeave_0 : decode cX3_mayLeave 0 = .ok (.aload_n 0, 1) := by decide +kernel
theorem dX3_mayLeave_1 : decode cX3_mayLeave 1 = .ok (.getfield 21, 3) := by decide +kernel
theorem dX3_mayLeave_4 : decode cX3_mayLeave 4 = .ok (.iload_n 1, 1) := by decide +kernel
theorem dX3_mayLeave_5 : decode cX3_mayLeave 5 = .ok (.iaload, 1) := by decide +kernel
theorem dX3_mayLeave_6 : decode cX3_mayLeave 6 = .ok (.istore_n 2, 1) := by decide +kernel
theorem dX3_mayLeave_7 : decode cX3_mayLeave 7 = .ok (.aload_n 0, 1) := by decide +kernel
theorem dX3_mayLeave_8 : decode cX3_mayLeave 8 = .ok (.aload_n 0, 1) := by decide +kernel
theorem dX3_mayLeave_9 : decode cX3_mayLeave 9 = .ok (.getfield 17, 3) := by decide +kernel
theorem dX3_mayLeave_12 : decode cX3_mayLeave 12 = .ok (.iload_n 1, 1) := by decide +kernel
theorem dX3_mayLeave_13 : decode cX3_mayLeave 13 = .ok (.iaload, 1) := by decide +kernel
theorem dX3_mayLeave_14 : decode cX3_mayLeave 14 = .ok (.iload_n 2, 1) := by decide +kernel
theorem dX3_mayLeave_15 : decode cX3_mayLeave 15 = .ok (.iconst (-1), 1) := by decide +kernel
theorem dX3_mayLeave_16 : decode cX3_mayLeave 16 = .ok (.invokevirtual 53, 3) := by decide +kernel
theorem dX3_mayLeave_19 : decode cX3_mayLeave 19 = .ok (.getstatic 57, 3) := by decide +kernel
theorem dX3_mayLeave_22 : decode cX3_mayLeave 22 = .ok (.iload_n 2, 1) := by decide +kernel
theorem dX3_mayLeave_23 : decode cX3_mayLeave 23 = .ok (.iaload, 1) := by decide +kernel
theorem dX3_mayLeave_24 : decode cX3_mayLeave 24 = .ok (.if_icmp .gt 7, 3) := by decide +kernel
theorem dX3_mayLeave_27 : decode cX3_mayLeave 27 = .ok (.iconst 1, 1) := by decide +kernel
theorem dX3_mayLeave_28 : decode cX3_mayLeave 28 = .ok (.goto 4, 3) := by decide +kernel
theorem dX3_mayLeave_31 : decode cX3_mayLeave 31 = .ok (.iconst 0, 1) := by decide +kernel
theorem dX3_mayLeave_32 : decode cX3_mayLeave 32 = .ok (.ireturn, 1) := by decide +kernel
theorem dX3_layIn_0 : decode cX3_layIn 0 = .ok (.aload_n 0, 1) := by decide +kernel
theorem dX3_layIn_1 : decode cX3_layIn 1 = .ok (.getfield 17, 3) := by decide +kernel
theorem dX3_layIn_4 : decode cX3_layIn 4 = .ok (.aload_n 0, 1) := by decide +kernel
theorem dX3_layIn_5 : decode cX3_layIn 5 = .ok (.getfield 41, 3) := by decide +kernel
theorem dX3_layIn_8 : decode cX3_layIn 8 = .ok (.iload_n 1, 1) := by decide +kernel
theorem dX3_layIn_9 : decode cX3_layIn 9 = .ok (.iastore, 1) := by decide +kernel
theorem dX3_layIn_10 : decode cX3_layIn 10 = .ok (.aload_n 0, 1) := by decide +kernel
theorem dX3_layIn_11 : decode cX3_layIn 11 = .ok (.getfield 21, 3) := by decide +kernel
theorem dX3_layIn_14 : decode cX3_layIn 14 = .ok (.aload_n 0, 1) := by decide +kernel
theorem dX3_layIn_15 : decode cX3_layIn 15 = .ok (.getfield 41, 3) := by decide +kernel
theorem dX3_layIn_18 : decode cX3_layIn 18 = .ok (.iload_n 2, 1) := by decide +kernel
theorem dX3_layIn_19 : decode cX3_layIn 19 = .ok (.iastore, 1) := by decide +kernel
theorem dX3_layIn_20 : decode cX3_layIn 20 = .ok (.aload_n 0, 1) := by decide +kernel
theorem dX3_layIn_21 : decode cX3_layIn 21 = .ok (.getfield 11, 3) := by decide +kernel
theorem dX3_layIn_24 : decode cX3_layIn 24 = .ok (.iload_n 2, 1) := by decide +kernel
theorem dX3_layIn_25 : decode cX3_layIn 25 = .ok (.aaload, 1) := by decide +kernel
theorem dX3_layIn_26 : decode cX3_layIn 26 = .ok (.aload_n 0, 1) := by decide +kernel
theorem dX3_layIn_27 : decode cX3_layIn 27 = .ok (.getfield 36, 3) := by decide +kernel
theorem dX3_layIn_30 : decode cX3_layIn 30 = .ok (.iload_n 1, 1) := by decide +kernel
theorem dX3_layIn_31 : decode cX3_layIn 31 = .ok (.iconst 1, 1) := by decide +kernel
theorem dX3_layIn_32 : decode cX3_layIn 32 = .ok (.invokevirtual 60, 3) := by decide +kernel
theorem dX3_layIn_35 : decode cX3_layIn 35 = .ok (.aload_n 0, 1) := by decide +kernel
theorem dX3_layIn_36 : decode cX3_layIn 36 = .ok (.dup, 1) := by decide +kernel
theorem dX3_layIn_37 : decode cX3_layIn 37 = .ok (.getfield 64, 3) := by decide +kernel
theorem dX3_layIn_40 : decode cX3_layIn 40 = .ok (.iconst 1, 1) := by decide +kernel
theorem dX3_layIn_41 : decode cX3_layIn 41 = .ok (.iadd, 1) := by decide +kernel
theorem dX3_layIn_42 : decode cX3_layIn 42 = .ok (.putfield 64, 3) := by decide +kernel
theorem dX3_layIn_45 : decode cX3_layIn 45 = .ok (.aload_n 0, 1) := by decide +kernel
theorem dX3_layIn_46 : decode cX3_layIn 46 = .ok (.iconst 1, 1) := by decide +kernel
theorem dX3_layIn_47 : decode cX3_layIn 47 = .ok (.putfield 67, 3) := by decide +kernel
theorem dX3_layIn_50 : decode cX3_layIn 50 = .ok (.aload_n 0, 1) := by decide +kernel
theorem dX3_layIn_51 : decode cX3_layIn 51 = .ok (.dup, 1) := by decide +kernel
theorem dX3_layIn_52 : decode cX3_layIn 52 = .ok (.getfield 41, 3) := by decide +kernel
theorem dX3_layIn_55 : decode cX3_layIn 55 = .ok (.iconst 1, 1) := by decide +kernel
theorem dX3_layIn_56 : decode cX3_layIn 56 = .ok (.iadd, 1) := by decide +kernel
theorem dX3_layIn_57 : decode cX3_layIn 57 = .ok (.putfield 41, 3) := by decide +kernel
theorem dX3_layIn_60 : decode cX3_layIn 60 = .ok (.aload_n 0, 1) := by decide +kernel
theorem dX3_layIn_61 : decode cX3_layIn 61 = .ok (.getfield 41, 3) := by decide +kernel
theorem dX3_layIn_64 : decode cX3_layIn 64 = .ok (.iconst 1, 1) := by decide +kernel
theorem dX3_layIn_65 : decode cX3_layIn 65 = .ok (.isub, 1) := by decide +kernel
theorem dX3_layIn_66 : decode cX3_layIn 66 = .ok (.ireturn, 1) := by decide +kernel
theorem dX3_shift_0 : decode cX3_shift 0 = .ok (.aload_n 0, 1) := by decide +kernel
theorem dX3_shift_1 : decode cX3_shift 1 = .ok (.getfield 21, 3) := by decide +kernel
theorem dX3_shift_4 : decode cX3_shift 4 = .ok (.iload_n 1, 1) := by decide +kernel
theorem dX3_shift_5 : decode cX3_shift 5 = .ok (.iaload, 1) := by decide +kernel
theorem dX3_shift_6 : decode cX3_shift 6 = .ok (.istore_n 3, 1) := by decide +kernel
theorem dX3_shift_7 : decode cX3_shift 7 = .ok (.aload_n 0, 1) := by decide +kernel
theorem dX3_shift_8 : decode cX3_shift 8 = .ok (.getfield 11, 3) := by decide +kernel
theorem dX3_shift_11 : decode cX3_shift 11 = .ok (.iload_n 3, 1) := by decide +kernel
theorem dX3_shift_12 : decode cX3_shift 12 = .ok (.aaload, 1) := by decide +kernel
theorem dX3_shift_13 : decode cX3_shift 13 = .ok (.aload_n 0, 1) := by decide +kernel
theorem dX3_shift_14 : decode cX3_shift 14 = .ok (.getfield 36, 3) := by decide +kernel
theorem dX3_shift_17 : decode cX3_shift 17 = .ok (.aload_n 0, 1) := by decide +kernel
theorem dX3_shift_18 : decode cX3_shift 18 = .ok (.getfield 17, 3) := by decide +kernel
theorem dX3_shift_21 : decode cX3_shift 21 = .ok (.iload_n 1, 1) := by decide +kernel
theorem dX3_shift_22 : decode cX3_shift 22 = .ok (.iaload, 1) := by decide +kernel
theorem dX3_shift_23 : decode cX3_shift 23 = .ok (.iconst (-1), 1) := by decide +kernel
theorem dX3_shift_24 : decode cX3_shift 24 = .ok (.invokevirtual 60, 3) := by decide +kernel
theorem dX3_shift_27 : decode cX3_shift 27 = .ok (.aload_n 0, 1) := by decide +kernel
theorem dX3_shift_28 : decode cX3_shift 28 = .ok (.getfield 11, 3) := by decide +kernel
theorem dX3_shift_31 : decode cX3_shift 31 = .ok (.iload_n 2, 1) := by decide +kernel
theorem dX3_shift_32 : decode cX3_shift 32 = .ok (.aaload, 1) := by decide +kernel
theorem dX3_shift_33 : decode cX3_shift 33 = .ok (.aload_n 0, 1) := by decide +kernel
theorem dX3_shift_34 : decode cX3_shift 34 = .ok (.getfield 36, 3) := by decide +kernel
theorem dX3_shift_37 : decode cX3_shift 37 = .ok (.aload_n 0, 1) := by decide +kernel
theorem dX3_shift_38 : decode cX3_shift 38 = .ok (.getfield 17, 3) := by decide +kernel
theorem dX3_shift_41 : decode cX3_shift 41 = .ok (.iload_n 1, 1) := by decide +kernel
theorem dX3_shift_42 : decode cX3_shift 42 = .ok (.iaload, 1) := by decide +kernel
theorem dX3_shift_43 : decode cX3_shift 43 = .ok (.iconst 1, 1) := by decide +kernel
theorem dX3_shift_44 : decode cX3_shift 44 = .ok (.invokevirtual 60, 3) := by decide +kernel
theorem dX3_shift_47 : decode cX3_shift 47 = .ok (.aload_n 0, 1) := by decide +kernel
theorem dX3_shift_48 : decode cX3_shift 48 = .ok (.getfield 21, 3) := by decide +kernel
theorem dX3_shift_51 : decode cX3_shift 51 = .ok (.iload_n 1, 1) := by decide +kernel
theorem dX3_shift_52 : decode cX3_shift 52 = .ok (.iload_n 2, 1) := by decide +kernel
theorem dX3_shift_53 : decode cX3_shift 53 = .ok (.iastore, 1) := by decide +kernel
theorem dX3_shift_54 : decode cX3_shift 54 = .ok (.aload_n 0, 1) := by decide +kernel
theorem dX3_shift_55 : decode cX3_shift 55 = .ok (.iconst 1, 1) := by decide +kernel
theorem dX3_shift_56 : decode cX3_shift 56 = .ok (.putfield 67, 3) := by decide +kernel
theorem dX3_shift_59 : decode cX3_shift 59 = .ok (.iload_n 3, 1) := by decide +kernel
theorem dX3_shift_60 : decode cX3_shift 60 = .ok (.ireturn, 1) := by decide +kernel
theorem dX3_drawOut_0 : decode cX3_drawOut 0 = .ok (.aload_n 0, 1) := by decide +kernel
theorem dX3_drawOut_1 : decode cX3_drawOut 1 = .ok (.getfield 11, 3) := by decide +kernel
theorem dX3_drawOut_4 : decode cX3_drawOut 4 = .ok (.aload_n 0, 1) := by decide +kernel
theorem dX3_drawOut_5 : decode cX3_drawOut 5 = .ok (.getfield 21, 3) := by decide +kernel
theorem dX3_drawOut_8 : decode cX3_drawOut 8 = .ok (.iload_n 1, 1) := by decide +kernel
theorem dX3_drawOut_9 : decode cX3_drawOut 9 = .ok (.iaload, 1) := by decide +kernel
theorem dX3_drawOut_10 : decode cX3_drawOut 10 = .ok (.aaload, 1) := by decide +kernel
theorem dX3_drawOut_11 : decode cX3_drawOut 11 = .ok (.aload_n 0, 1) := by decide +kernel
theorem dX3_drawOut_12 : decode cX3_drawOut 12 = .ok (.getfield 36, 3) := by decide +kernel
theorem dX3_drawOut_15 : decode cX3_drawOut 15 = .ok (.aload_n 0, 1) := by decide +kernel
theorem dX3_drawOut_16 : decode cX3_drawOut 16 = .ok (.getfield 17, 3) := by decide +kernel
theorem dX3_drawOut_19 : decode cX3_drawOut 19 = .ok (.iload_n 1, 1) := by decide +kernel
theorem dX3_drawOut_20 : decode cX3_drawOut 20 = .ok (.iaload, 1) := by decide +kernel
theorem dX3_drawOut_21 : decode cX3_drawOut 21 = .ok (.iconst (-1), 1) := by decide +kernel
theorem dX3_drawOut_22 : decode cX3_drawOut 22 = .ok (.invokevirtual 60, 3) := by decide +kernel
theorem dX3_drawOut_25 : decode cX3_drawOut 25 = .ok (.aload_n 0, 1) := by decide +kernel
theorem dX3_drawOut_26 : decode cX3_drawOut 26 = .ok (.getfield 21, 3) := by decide +kernel
theorem dX3_drawOut_29 : decode cX3_drawOut 29 = .ok (.iload_n 1, 1) := by decide +kernel
theorem dX3_drawOut_30 : decode cX3_drawOut 30 = .ok (.iconst (-1), 1) := by decide +kernel
theorem dX3_drawOut_31 : decode cX3_drawOut 31 = .ok (.iastore, 1) := by decide +kernel
theorem dX3_drawOut_32 : decode cX3_drawOut 32 = .ok (.aload_n 0, 1) := by decide +kernel
theorem dX3_drawOut_33 : decode cX3_drawOut 33 = .ok (.dup, 1) := by decide +kernel
theorem dX3_drawOut_34 : decode cX3_drawOut 34 = .ok (.getfield 64, 3) := by decide +kernel
theorem dX3_drawOut_37 : decode cX3_drawOut 37 = .ok (.iconst 1, 1) := by decide +kernel
theorem dX3_drawOut_38 : decode cX3_drawOut 38 = .ok (.isub, 1) := by decide +kernel
theorem dX3_drawOut_39 : decode cX3_drawOut 39 = .ok (.putfield 64, 3) := by decide +kernel
theorem dX3_drawOut_42 : decode cX3_drawOut 42 = .ok (.aload_n 0, 1) := by decide +kernel
theorem dX3_drawOut_43 : decode cX3_drawOut 43 = .ok (.iconst 1, 1) := by decide +kernel
theorem dX3_drawOut_44 : decode cX3_drawOut 44 = .ok (.putfield 67, 3) := by decide +kernel
theorem dX3_drawOut_47 : decode cX3_drawOut 47 = .ok (.aload_n 0, 1) := by decide +kernel
theorem dX3_drawOut_48 : decode cX3_drawOut 48 = .ok (.getfield 36, 3) := by decide +kernel
theorem dX3_drawOut_51 : decode cX3_drawOut 51 = .ok (.aload_n 0, 1) := by decide +kernel
theorem dX3_drawOut_52 : decode cX3_drawOut 52 = .ok (.getfield 17, 3) := by decide +kernel
theorem dX3_drawOut_55 : decode cX3_drawOut 55 = .ok (.iload_n 1, 1) := by decide +kernel
theorem dX3_drawOut_56 : decode cX3_drawOut 56 = .ok (.iaload, 1) := by decide +kernel
theorem dX3_drawOut_57 : decode cX3_drawOut 57 = .ok (.aload_n 0, 1) := by decide +kernel
theorem dX3_drawOut_58 : decode cX3_drawOut 58 = .ok (.getfield 24, 3) := by decide +kernel
theorem dX3_drawOut_61 : decode cX3_drawOut 61 = .ok (.iload_n 1, 1) := by decide +kernel
theorem dX3_drawOut_62 : decode cX3_drawOut 62 = .ok (.iaload, 1) := by decide +kernel
theorem dX3_drawOut_63 : decode cX3_drawOut 63 = .ok (.aload_n 0, 1) := by decide +kernel
theorem dX3_drawOut_64 : decode cX3_drawOut 64 = .ok (.getfield 27, 3) := by decide +kernel
theorem dX3_drawOut_67 : decode cX3_drawOut 67 = .ok (.iload_n 1, 1) := by decide +kernel
theorem dX3_drawOut_68 : decode cX3_drawOut 68 = .ok (.iaload, 1) := by decide +kernel
theorem dX3_drawOut_69 : decode cX3_drawOut 69 = .ok (.aload_n 0, 1) := by decide +kernel
theorem dX3_drawOut_70 : decode cX3_drawOut 70 = .ok (.getfield 30, 3) := by decide +kernel
theorem dX3_drawOut_73 : decode cX3_drawOut 73 = .ok (.iload_n 1, 1) := by decide +kernel
theorem dX3_drawOut_74 : decode cX3_drawOut 74 = .ok (.iaload, 1) := by decide +kernel
theorem dX3_drawOut_75 : decode cX3_drawOut 75 = .ok (.invokevirtual 71, 3) := by decide +kernel
theorem dX3_drawOut_78 : decode cX3_drawOut 78 = .ok (.istore_n 2, 1) := by decide +kernel
theorem dX3_drawOut_79 : decode cX3_drawOut 79 = .ok (.iload_n 2, 1) := by decide +kernel
theorem dX3_drawOut_80 : decode cX3_drawOut 80 = .ok (.iconst 1, 1) := by decide +kernel
theorem dX3_drawOut_81 : decode cX3_drawOut 81 = .ok (.if_icmp .ne 13, 3) := by decide +kernel
theorem dX3_drawOut_84 : decode cX3_drawOut 84 = .ok (.aload_n 0, 1) := by decide +kernel
theorem dX3_drawOut_85 : decode cX3_drawOut 85 = .ok (.dup, 1) := by decide +kernel
theorem dX3_drawOut_86 : decode cX3_drawOut 86 = .ok (.getfield 77, 3) := by decide +kernel
theorem dX3_drawOut_89 : decode cX3_drawOut 89 = .ok (.iconst 1, 1) := by decide +kernel
theorem dX3_drawOut_90 : decode cX3_drawOut 90 = .ok (.iadd, 1) := by decide +kernel
theorem dX3_drawOut_91 : decode cX3_drawOut 91 = .ok (.putfield 77, 3) := by decide +kernel
theorem dX3_drawOut_94 : decode cX3_drawOut 94 = .ok (.iload_n 2, 1) := by decide +kernel
theorem dX3_drawOut_95 : decode cX3_drawOut 95 = .ok (.ireturn, 1) := by decide +kernel
theorem dX3_bake_0 : decode cX3_bake 0 = .ok (.iconst 0, 1) := by decide +kernel
theorem dX3_bake_1 : decode cX3_bake 1 = .ok (.istore_n 2, 1) := by decide +kernel
theorem dX3_bake_2 : decode cX3_bake 2 = .ok (.iload_n 2, 1) := by decide +kernel
theorem dX3_bake_3 : decode cX3_bake 3 = .ok (.aload_n 0, 1) := by decide +kernel
theorem dX3_bake_4 : decode cX3_bake 4 = .ok (.getfield 41, 3) := by decide +kernel
theorem dX3_bake_7 : decode cX3_bake 7 = .ok (.if_icmp .ge 39, 3) := by decide +kernel
theorem dX3_bake_10 : decode cX3_bake 10 = .ok (.aload_n 0, 1) := by decide +kernel
theorem dX3_bake_11 : decode cX3_bake 11 = .ok (.iload_n 2, 1) := by decide +kernel
theorem dX3_bake_12 : decode cX3_bake 12 = .ok (.invokevirtual 49, 3) := by decide +kernel
theorem dX3_bake_15 : decode cX3_bake 15 = .ok (.ifCond .ne 25, 3) := by decide +kernel
theorem dX3_bake_18 : decode cX3_bake 18 = .ok (.aload_n 0, 1) := by decide +kernel
theorem dX3_bake_19 : decode cX3_bake 19 = .ok (.dup, 1) := by decide +kernel
theorem dX3_bake_20 : decode cX3_bake 20 = .ok (.getfield 80, 3) := by decide +kernel
theorem dX3_bake_23 : decode cX3_bake 23 = .ok (.aload_n 1, 1) := by decide +kernel
theorem dX3_bake_24 : decode cX3_bake 24 = .ok (.aload_n 0, 1) := by decide +kernel
theorem dX3_bake_25 : decode cX3_bake 25 = .ok (.getfield 21, 3) := by decide +kernel
theorem dX3_bake_28 : decode cX3_bake 28 = .ok (.iload_n 2, 1) := by decide +kernel
theorem dX3_bake_29 : decode cX3_bake 29 = .ok (.iaload, 1) := by decide +kernel
theorem dX3_bake_30 : decode cX3_bake 30 = .ok (.ldc2_w 84, 3) := by decide +kernel
theorem dX3_bake_33 : decode cX3_bake 33 = .ok (.invokevirtual 86, 3) := by decide +kernel
theorem dX3_bake_36 : decode cX3_bake 36 = .ok (.ladd, 1) := by decide +kernel
theorem dX3_bake_37 : decode cX3_bake 37 = .ok (.putfield 80, 3) := by decide +kernel
theorem dX3_bake_40 : decode cX3_bake 40 = .ok (.iinc 2 1, 3) := by decide +kernel
theorem dX3_bake_43 : decode cX3_bake 43 = .ok (.goto (-41), 3) := by decide +kernel
theorem dX3_bake_46 : decode cX3_bake 46 = .ok (.iconst 0, 1) := by decide +kernel
theorem dX3_bake_47 : decode cX3_bake 47 = .ok (.istore_n 2, 1) := by decide +kernel
theorem dX3_bake_48 : decode cX3_bake 48 = .ok (.iload_n 2, 1) := by decide +kernel
theorem dX3_bake_49 : decode cX3_bake 49 = .ok (.aload_n 0, 1) := by decide +kernel
theorem dX3_bake_50 : decode cX3_bake 50 = .ok (.getfield 41, 3) := by decide +kernel
theorem dX3_bake_53 : decode cX3_bake 53 = .ok (.if_icmp .ge 33, 3) := by decide +kernel
theorem dX3_bake_56 : decode cX3_bake 56 = .ok (.aload_n 0, 1) := by decide +kernel
theorem dX3_bake_57 : decode cX3_bake 57 = .ok (.iload_n 2, 1) := by decide +kernel
theorem dX3_bake_58 : decode cX3_bake 58 = .ok (.invokevirtual 49, 3) := by decide +kernel
theorem dX3_bake_61 : decode cX3_bake 61 = .ok (.ifCond .ne 19, 3) := by decide +kernel
theorem dX3_bake_64 : decode cX3_bake 64 = .ok (.aload_n 0, 1) := by decide +kernel
theorem dX3_bake_65 : decode cX3_bake 65 = .ok (.iload_n 2, 1) := by decide +kernel
theorem dX3_bake_66 : decode cX3_bake 66 = .ok (.aload_n 1, 1) := by decide +kernel
theorem dX3_bake_67 : decode cX3_bake 67 = .ok (.aload_n 0, 1) := by decide +kernel
theorem dX3_bake_68 : decode cX3_bake 68 = .ok (.getfield 21, 3) := by decide +kernel
theorem dX3_bake_71 : decode cX3_bake 71 = .ok (.iload_n 2, 1) := by decide +kernel
theorem dX3_bake_72 : decode cX3_bake 72 = .ok (.iaload, 1) := by decide +kernel
theorem dX3_bake_73 : decode cX3_bake 73 = .ok (.iconst 0, 1) := by decide +kernel
theorem dX3_bake_74 : decode cX3_bake 74 = .ok (.invokevirtual 92, 3) := by decide +kernel
theorem dX3_bake_77 : decode cX3_bake 77 = .ok (.invokevirtual 96, 3) := by decide +kernel
theorem dX3_bake_80 : decode cX3_bake 80 = .ok (.iinc 2 1, 3) := by decide +kernel
theorem dX3_bake_83 : decode cX3_bake 83 = .ok (.goto (-35), 3) := by decide +kernel
theorem dX3_bake_86 : decode cX3_bake 86 = .ok (.return_, 1) := by decide +kernel
theorem dX3_grow_0 : decode cX3_grow 0 = .ok (.aload_n 0, 1) := by decide +kernel
theorem dX3_grow_1 : decode cX3_grow 1 = .ok (.getfield 24, 3) := by decide +kernel
theorem dX3_grow_4 : decode cX3_grow 4 = .ok (.iload_n 1, 1) := by decide +kernel
theorem dX3_grow_5 : decode cX3_grow 5 = .ok (.dup2, 1) := by decide +kernel
theorem dX3_grow_6 : decode cX3_grow 6 = .ok (.iaload, 1) := by decide +kernel
theorem dX3_grow_7 : decode cX3_grow 7 = .ok (.iconst 1, 1) := by decide +kernel
theorem dX3_grow_8 : decode cX3_grow 8 = .ok (.iadd, 1) := by decide +kernel
theorem dX3_grow_9 : decode cX3_grow 9 = .ok (.iastore, 1) := by decide +kernel
theorem dX3_grow_10 : decode cX3_grow 10 = .ok (.aload_n 0, 1) := by decide +kernel
theorem dX3_grow_11 : decode cX3_grow 11 = .ok (.getfield 36, 3) := by decide +kernel
theorem dX3_grow_14 : decode cX3_grow 14 = .ok (.aload_n 0, 1) := by decide +kernel
theorem dX3_grow_15 : decode cX3_grow 15 = .ok (.getfield 17, 3) := by decide +kernel
theorem dX3_grow_18 : decode cX3_grow 18 = .ok (.iload_n 1, 1) := by decide +kernel
theorem dX3_grow_19 : decode cX3_grow 19 = .ok (.iaload, 1) := by decide +kernel
theorem dX3_grow_20 : decode cX3_grow 20 = .ok (.aload_n 0, 1) := by decide +kernel
theorem dX3_grow_21 : decode cX3_grow 21 = .ok (.getfield 24, 3) := by decide +kernel
theorem dX3_grow_24 : decode cX3_grow 24 = .ok (.iload_n 1, 1) := by decide +kernel
theorem dX3_grow_25 : decode cX3_grow 25 = .ok (.iaload, 1) := by decide +kernel
theorem dX3_grow_26 : decode cX3_grow 26 = .ok (.lload_n 2, 1) := by decide +kernel
theorem dX3_grow_27 : decode cX3_grow 27 = .ok (.invokevirtual 100, 3) := by decide +kernel
theorem dX3_grow_30 : decode cX3_grow 30 = .ok (.istore 4, 2) := by decide +kernel
theorem dX3_grow_32 : decode cX3_grow 32 = .ok (.iload 4, 2) := by decide +kernel
theorem dX3_grow_34 : decode cX3_grow 34 = .ok (.ifCond .ne 16, 3) := by decide +kernel
theorem dX3_grow_37 : decode cX3_grow 37 = .ok (.aload_n 0, 1) := by decide +kernel
theorem dX3_grow_38 : decode cX3_grow 38 = .ok (.getfield 27, 3) := by decide +kernel
theorem dX3_grow_41 : decode cX3_grow 41 = .ok (.iload_n 1, 1) := by decide +kernel
theorem dX3_grow_42 : decode cX3_grow 42 = .ok (.dup2, 1) := by decide +kernel
theorem dX3_grow_43 : decode cX3_grow 43 = .ok (.iaload, 1) := by decide +kernel
theorem dX3_grow_44 : decode cX3_grow 44 = .ok (.iconst 1, 1) := by decide +kernel
theorem dX3_grow_45 : decode cX3_grow 45 = .ok (.iadd, 1) := by decide +kernel
theorem dX3_grow_46 : decode cX3_grow 46 = .ok (.iastore, 1) := by decide +kernel
theorem dX3_grow_47 : decode cX3_grow 47 = .ok (.goto 32, 3) := by decide +kernel
theorem dX3_grow_50 : decode cX3_grow 50 = .ok (.iload 4, 2) := by decide +kernel
theorem dX3_grow_52 : decode cX3_grow 52 = .ok (.iconst 1, 1) := by decide +kernel
theorem dX3_grow_53 : decode cX3_grow 53 = .ok (.if_icmp .ne 16, 3) := by decide +kernel
theorem dX3_grow_56 : decode cX3_grow 56 = .ok (.aload_n 0, 1) := by decide +kernel
theorem dX3_grow_57 : decode cX3_grow 57 = .ok (.getfield 30, 3) := by decide +kernel
theorem dX3_grow_60 : decode cX3_grow 60 = .ok (.iload_n 1, 1) := by decide +kernel
theorem dX3_grow_61 : decode cX3_grow 61 = .ok (.dup2, 1) := by decide +kernel
theorem dX3_grow_62 : decode cX3_grow 62 = .ok (.iaload, 1) := by decide +kernel
theorem dX3_grow_63 : decode cX3_grow 63 = .ok (.iconst 1, 1) := by decide +kernel
theorem dX3_grow_64 : decode cX3_grow 64 = .ok (.iadd, 1) := by decide +kernel
theorem dX3_grow_65 : decode cX3_grow 65 = .ok (.iastore, 1) := by decide +kernel
theorem dX3_grow_66 : decode cX3_grow 66 = .ok (.goto 13, 3) := by decide +kernel
theorem dX3_grow_69 : decode cX3_grow 69 = .ok (.aload_n 0, 1) := by decide +kernel
theorem dX3_grow_70 : decode cX3_grow 70 = .ok (.getfield 33, 3) := by decide +kernel
theorem dX3_grow_73 : decode cX3_grow 73 = .ok (.iload_n 1, 1) := by decide +kernel
theorem dX3_grow_74 : decode cX3_grow 74 = .ok (.dup2, 1) := by decide +kernel
theorem dX3_grow_75 : decode cX3_grow 75 = .ok (.iaload, 1) := by decide +kernel
theorem dX3_grow_76 : decode cX3_grow 76 = .ok (.iconst 1, 1) := by decide +kernel
theorem dX3_grow_77 : decode cX3_grow 77 = .ok (.iadd, 1) := by decide +kernel
theorem dX3_grow_78 : decode cX3_grow 78 = .ok (.iastore, 1) := by decide +kernel
theorem dX3_grow_79 : decode cX3_grow 79 = .ok (.return_, 1) := by decide +kernel
theorem dX3_usedWith_0 : decode cX3_usedWith 0 = .ok (.aload_n 0, 1) := by decide +kernel
theorem dX3_usedWith_1 : decode cX3_usedWith 1 = .ok (.getfield 11, 3) := by decide +kernel
theorem dX3_usedWith_4 : decode cX3_usedWith 4 = .ok (.iload_n 2, 1) := by decide +kernel
theorem dX3_usedWith_5 : decode cX3_usedWith 5 = .ok (.aaload, 1) := by decide +kernel
theorem dX3_usedWith_6 : decode cX3_usedWith 6 = .ok (.astore 4, 2) := by decide +kernel
theorem dX3_usedWith_8 : decode cX3_usedWith 8 = .ok (.aload 4, 2) := by decide +kernel
theorem dX3_usedWith_10 : decode cX3_usedWith 10 = .ok (.aload_n 0, 1) := by decide +kernel
theorem dX3_usedWith_11 : decode cX3_usedWith 11 = .ok (.getfield 36, 3) := by decide +kernel
theorem dX3_usedWith_14 : decode cX3_usedWith 14 = .ok (.iload_n 1, 1) := by decide +kernel
theorem dX3_usedWith_15 : decode cX3_usedWith 15 = .ok (.iload_n 3, 1) := by decide +kernel
theorem dX3_usedWith_16 : decode cX3_usedWith 16 = .ok (.invokevirtual 60, 3) := by decide +kernel
theorem dX3_usedWith_19 : decode cX3_usedWith 19 = .ok (.aload 4, 2) := by decide +kernel
theorem dX3_usedWith_21 : decode cX3_usedWith 21 = .ok (.invokevirtual 104, 3) := by decide +kernel
theorem dX3_usedWith_24 : decode cX3_usedWith 24 = .ok (.istore 5, 2) := by decide +kernel
theorem dX3_usedWith_26 : decode cX3_usedWith 26 = .ok (.aload 4, 2) := by decide +kernel
theorem dX3_usedWith_28 : decode cX3_usedWith 28 = .ok (.aload_n 0, 1) := by decide +kernel
theorem dX3_usedWith_29 : decode cX3_usedWith 29 = .ok (.getfield 36, 3) := by decide +kernel
theorem dX3_usedWith_32 : decode cX3_usedWith 32 = .ok (.iload_n 1, 1) := by decide +kernel
theorem dX3_usedWith_33 : decode cX3_usedWith 33 = .ok (.iload_n 3, 1) := by decide +kernel
theorem dX3_usedWith_34 : decode cX3_usedWith 34 = .ok (.ineg, 1) := by decide +kernel
theorem dX3_usedWith_35 : decode cX3_usedWith 35 = .ok (.invokevirtual 60, 3) := by decide +kernel
theorem dX3_usedWith_38 : decode cX3_usedWith 38 = .ok (.iload 5, 2) := by decide +kernel
theorem dX3_usedWith_40 : decode cX3_usedWith 40 = .ok (.ireturn, 1) := by decide +kernel
theorem dX4_init_0 : decode cX4_init 0 = .ok (.aload_n 0, 1) := by decide +kernel
theorem dX4_init_1 : decode cX4_init 1 = .ok (.invokespecial 3, 3) := by decide +kernel
theorem dX4_init_4 : decode cX4_init 4 = .ok (.aload_n 0, 1) := by decide +kernel
theorem dX4_init_5 : decode cX4_init 5 = .ok (.bipush 12, 2) := by decide +kernel
theorem dX4_init_7 : decode cX4_init 7 = .ok (.newarray .long, 2) := by decide +kernel
theorem dX4_init_9 : decode cX4_init 9 = .ok (.putfield 9, 3) := by decide +kernel
theorem dX4_init_12 : decode cX4_init 12 = .ok (.aload_n 0, 1) := by decide +kernel
theorem dX4_init_13 : decode cX4_init 13 = .ok (.iconst 4, 1) := by decide +kernel
theorem dX4_init_14 : decode cX4_init 14 = .ok (.newarray .int, 2) := by decide +kernel
theorem dX4_init_16 : decode cX4_init 16 = .ok (.putfield 15, 3) := by decide +kernel
theorem dX4_init_19 : decode cX4_init 19 = .ok (.aload_n 0, 1) := by decide +kernel
theorem dX4_init_20 : decode cX4_init 20 = .ok (.iconst 4, 1) := by decide +kernel
theorem dX4_init_21 : decode cX4_init 21 = .ok (.newarray .int, 2) := by decide +kernel
theorem dX4_init_23 : decode cX4_init 23 = .ok (.putfield 19, 3) := by decide +kernel
theorem dX4_init_26 : decode cX4_init 26 = .ok (.aload_n 0, 1) := by decide +kernel
theorem dX4_init_27 : decode cX4_init 27 = .ok (.bipush 30, 2) := by decide +kernel
theorem dX4_init_29 : decode cX4_init 29 = .ok (.newarray .int, 2) := by decide +kernel
theorem dX4_init_31 : decode cX4_init 31 = .ok (.putfield 22, 3) := by decide +kernel
theorem dX4_init_34 : decode cX4_init 34 = .ok (.aload_n 0, 1) := by decide +kernel
theorem dX4_init_35 : decode cX4_init 35 = .ok (.bipush 30, 2) := by decide +kernel
theorem dX4_init_37 : decode cX4_init 37 = .ok (.newarray .int, 2) := by decide +kernel
theorem dX4_init_39 : decode cX4_init 39 = .ok (.putfield 25, 3) := by decide +kernel
theorem dX4_init_42 : decode cX4_init 42 = .ok (.aload_n 0, 1) := by decide +kernel
theorem dX4_init_43 : decode cX4_init 43 = .ok (.bipush 10, 2) := by decide +kernel
theorem dX4_init_45 : decode cX4_init 45 = .ok (.putfield 28, 3) := by decide +kernel
theorem dX4_init_48 : decode cX4_init 48 = .ok (.iconst 0, 1) := by decide +kernel
theorem dX4_init_49 : decode cX4_init 49 = .ok (.istore_n 1, 1) := by decide +kernel
theorem dX4_init_50 : decode cX4_init 50 = .ok (.iload_n 1, 1) := by decide +kernel
theorem dX4_init_51 : decode cX4_init 51 = .ok (.iconst 4, 1) := by decide +kernel
theorem dX4_init_52 : decode cX4_init 52 = .ok (.if_icmp .ge 41, 3) := by decide +kernel
theorem dX4_init_55 : decode cX4_init 55 = .ok (.iconst 0, 1) := by decide +kernel
theorem dX4_init_56 : decode cX4_init 56 = .ok (.istore_n 2, 1) := by decide +kernel
theorem dX4_init_57 : decode cX4_init 57 = .ok (.iload_n 2, 1) := by decide +kernel
theorem dX4_init_58 : decode cX4_init 58 = .ok (.iconst 3, 1) := by decide +kernel
theorem dX4_init_59 : decode cX4_init 59 = .ok (.if_icmp .ge 28, 3) := by decide +kernel
theorem dX4_init_62 : decode cX4_init 62 = .ok (.aload_n 0, 1) := by decide +kernel
theorem dX4_init_63 : decode cX4_init 63 = .ok (.getfield 9, 3) := by decide +kernel
theorem dX4_init_66 : decode cX4_init 66 = .ok (.iload_n 1, 1) := by decide +kernel
theorem dX4_init_67 : decode cX4_init 67 = .ok (.iconst 3, 1) := by decide +kernel
theorem dX4_init_68 : decode cX4_init 68 = .ok (.imul, 1) := by decide +kernel
theorem dX4_init_69 : decode cX4_init 69 = .ok (.iload_n 2, 1) := by decide +kernel
theorem dX4_init_70 : decode cX4_init 70 = .ok (.iadd, 1) := by decide +kernel
theorem dX4_init_71 : decode cX4_init 71 = .ok (.bipush 10, 2) := by decide +kernel
theorem dX4_init_73 : decode cX4_init 73 = .ok (.getstatic 32, 3) := by decide +kernel
theorem dX4_init_76 : decode cX4_init 76 = .ok (.iload_n 2, 1) := by decide +kernel
theorem dX4_init_77 : decode cX4_init 77 = .ok (.iaload, 1) := by decide +kernel
theorem dX4_init_78 : decode cX4_init 78 = .ok (.imul, 1) := by decide +kernel
theorem dX4_init_79 : decode cX4_init 79 = .ok (.i2l, 1) := by decide +kernel
theorem dX4_init_80 : decode cX4_init 80 = .ok (.lastore, 1) := by decide +kernel
theorem dX4_init_81 : decode cX4_init 81 = .ok (.iinc 2 1, 3) := by decide +kernel
theorem dX4_init_84 : decode cX4_init 84 = .ok (.goto (-27), 3) := by decide +kernel
theorem dX4_init_87 : decode cX4_init 87 = .ok (.iinc 1 1, 3) := by decide +kernel
theorem dX4_init_90 : decode cX4_init 90 = .ok (.goto (-40), 3) := by decide +kernel
theorem dX4_init_93 : decode cX4_init 93 = .ok (.return_, 1) := by decide +kernel
theorem dX4_copyFrom_0 : decode cX4_copyFrom 0 = .ok (.aload_n 1, 1) := by decide +kernel
theorem dX4_copyFrom_1 : decode cX4_copyFrom 1 = .ok (.getfield 9, 3) := by decide +kernel
theorem dX4_copyFrom_4 : decode cX4_copyFrom 4 = .ok (.iconst 0, 1) := by decide +kernel
theorem dX4_copyFrom_5 : decode cX4_copyFrom 5 = .ok (.aload_n 0, 1) := by decide +kernel
theorem dX4_copyFrom_6 : decode cX4_copyFrom 6 = .ok (.getfield 9, 3) := by decide +kernel
theorem dX4_copyFrom_9 : decode cX4_copyFrom 9 = .ok (.iconst 0, 1) := by decide +kernel
theorem dX4_copyFrom_10 : decode cX4_copyFrom 10 = .ok (.bipush 12, 2) := by decide +kernel
theorem dX4_copyFrom_12 : decode cX4_copyFrom 12 = .ok (.invokestatic 35, 3) := by decide +kernel
theorem dX4_copyFrom_15 : decode cX4_copyFrom 15 = .ok (.aload_n 1, 1) := by decide +kernel
theorem dX4_copyFrom_16 : decode cX4_copyFrom 16 = .ok (.getfield 15, 3) := by decide +kernel
theorem dX4_copyFrom_19 : decode cX4_copyFrom 19 = .ok (.iconst 0, 1) := by decide +kernel
theorem dX4_copyFrom_20 : decode cX4_copyFrom 20 = .ok (.aload_n 0, 1) := by decide +kernel
theorem dX4_copyFrom_21 : decode cX4_copyFrom 21 = .ok (.getfield 15, 3) := by decide +kernel
theorem dX4_copyFrom_24 : decode cX4_copyFrom 24 = .ok (.iconst 0, 1) := by decide +kernel
theorem dX4_copyFrom_25 : decode cX4_copyFrom 25 = .ok (.iconst 4, 1) := by decide +kernel
theorem dX4_copyFrom_26 : decode cX4_copyFrom 26 = .ok (.invokestatic 35, 3) := by decide +kernel
theorem dX4_copyFrom_29 : decode cX4_copyFrom 29 = .ok (.aload_n 1, 1) := by decide +kernel
theorem dX4_copyFrom_30 : decode cX4_copyFrom 30 = .ok (.getfield 19, 3) := by decide +kernel
theorem dX4_copyFrom_33 : decode cX4_copyFrom 33 = .ok (.iconst 0, 1) := by decide +kernel
theorem dX4_copyFrom_34 : decode cX4_copyFrom 34 = .ok (.aload_n 0, 1) := by decide +kernel
theorem dX4_copyFrom_35 : decode cX4_copyFrom 35 = .ok (.getfield 19, 3) := by decide +kernel
theorem dX4_copyFrom_38 : decode cX4_copyFrom 38 = .ok (.iconst 0, 1) := by decide +kernel
theorem dX4_copyFrom_39 : decode cX4_copyFrom 39 = .ok (.iconst 4, 1) := by decide +kernel
theorem dX4_copyFrom_40 : decode cX4_copyFrom 40 = .ok (.invokestatic 35, 3) := by decide +kernel
theorem dX4_copyFrom_43 : decode cX4_copyFrom 43 = .ok (.aload_n 1, 1) := by decide +kernel
theorem dX4_copyFrom_44 : decode cX4_copyFrom 44 = .ok (.getfield 22, 3) := by decide +kernel
theorem dX4_copyFrom_47 : decode cX4_copyFrom 47 = .ok (.iconst 0, 1) := by decide +kernel
theorem dX4_copyFrom_48 : decode cX4_copyFrom 48 = .ok (.aload_n 0, 1) := by decide +kernel
theorem dX4_copyFrom_49 : decode cX4_copyFrom 49 = .ok (.getfield 22, 3) := by decide +kernel
theorem dX4_copyFrom_52 : decode cX4_copyFrom 52 = .ok (.iconst 0, 1) := by decide +kernel
theorem dX4_copyFrom_53 : decode cX4_copyFrom 53 = .ok (.bipush 30, 2) := by decide +kernel
theorem dX4_copyFrom_55 : decode cX4_copyFrom 55 = .ok (.invokestatic 35, 3) := by decide +kernel
theorem dX4_copyFrom_58 : decode cX4_copyFrom 58 = .ok (.aload_n 1, 1) := by decide +kernel
theorem dX4_copyFrom_59 : decode cX4_copyFrom 59 = .ok (.getfield 25, 3) := by decide +kernel
theorem dX4_copyFrom_62 : decode cX4_copyFrom 62 = .ok (.iconst 0, 1) := by decide +kernel
theorem dX4_copyFrom_63 : decode cX4_copyFrom 63 = .ok (.aload_n 0, 1) := by decide +kernel
theorem dX4_copyFrom_64 : decode cX4_copyFrom 64 = .ok (.getfield 25, 3) := by decide +kernel
theorem dX4_copyFrom_67 : decode cX4_copyFrom 67 = .ok (.iconst 0, 1) := by decide +kernel
theorem dX4_copyFrom_68 : decode cX4_copyFrom 68 = .ok (.bipush 30, 2) := by decide +kernel
theorem dX4_copyFrom_70 : decode cX4_copyFrom 70 = .ok (.invokestatic 35, 3) := by decide +kernel
theorem dX4_copyFrom_73 : decode cX4_copyFrom 73 = .ok (.aload_n 0, 1) := by decide +kernel
theorem dX4_copyFrom_74 : decode cX4_copyFrom 74 = .ok (.aload_n 1, 1) := by decide +kernel
theorem dX4_copyFrom_75 : decode cX4_copyFrom 75 = .ok (.getfield 41, 3) := by decide +kernel
theorem dX4_copyFrom_78 : decode cX4_copyFrom 78 = .ok (.putfield 41, 3) := by decide +kernel
theorem dX4_copyFrom_81 : decode cX4_copyFrom 81 = .ok (.aload_n 0, 1) := by decide +kernel
theorem dX4_copyFrom_82 : decode cX4_copyFrom 82 = .ok (.aload_n 1, 1) := by decide +kernel
theorem dX4_copyFrom_83 : decode cX4_copyFrom 83 = .ok (.getfield 44, 3) := by decide +kernel
theorem dX4_copyFrom_86 : decode cX4_copyFrom 86 = .ok (.putfield 44, 3) := by decide +kernel
theorem dX4_copyFrom_89 : decode cX4_copyFrom 89 = .ok (.aload_n 0, 1) := by decide +kernel
theorem dX4_copyFrom_90 : decode cX4_copyFrom 90 = .ok (.aload_n 1, 1) := by decide +kernel
theorem dX4_copyFrom_91 : decode cX4_copyFrom 91 = .ok (.getfield 28, 3) := by decide +kernel
theorem dX4_copyFrom_94 : decode cX4_copyFrom 94 = .ok (.putfield 28, 3) := by decide +kernel
theorem dX4_copyFrom_97 : decode cX4_copyFrom 97 = .ok (.aload_n 0, 1) := by decide +kernel
theorem dX4_copyFrom_98 : decode cX4_copyFrom 98 = .ok (.aload_n 1, 1) := by decide +kernel
theorem dX4_copyFrom_99 : decode cX4_copyFrom 99 = .ok (.getfield 47, 3) := by decide +kernel
theorem dX4_copyFrom_102 : decode cX4_copyFrom 102 = .ok (.putfield 47, 3) := by decide +kernel
theorem dX4_copyFrom_105 : decode cX4_copyFrom 105 = .ok (.aload_n 0, 1) := by decide +kernel
theorem dX4_copyFrom_106 : decode cX4_copyFrom 106 = .ok (.aload_n 1, 1) := by decide +kernel
theorem dX4_copyFrom_107 : decode cX4_copyFrom 107 = .ok (.getfield 51, 3) := by decide +kernel
theorem dX4_copyFrom_110 : decode cX4_copyFrom 110 = .ok (.putfield 51, 3) := by decide +kernel
theorem dX4_copyFrom_113 : decode cX4_copyFrom 113 = .ok (.return_, 1) := by decide +kernel
theorem dX4_heatOf_0 : decode cX4_heatOf 0 = .ok (.aload_n 0, 1) := by decide +kernel
theorem dX4_heatOf_1 : decode cX4_heatOf 1 = .ok (.getfield 9, 3) := by decide +kernel
theorem dX4_heatOf_4 : decode cX4_heatOf 4 = .ok (.iload_n 1, 1) := by decide +kernel
theorem dX4_heatOf_5 : decode cX4_heatOf 5 = .ok (.iconst 3, 1) := by decide +kernel
theorem dX4_heatOf_6 : decode cX4_heatOf 6 = .ok (.imul, 1) := by decide +kernel
theorem dX4_heatOf_7 : decode cX4_heatOf 7 = .ok (.iload_n 2, 1) := by decide +kernel
theorem dX4_heatOf_8 : decode cX4_heatOf 8 = .ok (.iadd, 1) := by decide +kernel
theorem dX4_heatOf_9 : decode cX4_heatOf 9 = .ok (.laload, 1) := by decide +kernel
theorem dX4_heatOf_10 : decode cX4_heatOf 10 = .ok (.lreturn, 1) := by decide +kernel
theorem dX4_warmthOf_0 : decode cX4_warmthOf 0 = .ok (.aload_n 0, 1) := by decide +kernel
theorem dX4_warmthOf_1 : decode cX4_warmthOf 1 = .ok (.getfield 9, 3) := by decide +kernel
theorem dX4_warmthOf_4 : decode cX4_warmthOf 4 = .ok (.iload_n 1, 1) := by decide +kernel
theorem dX4_warmthOf_5 : decode cX4_warmthOf 5 = .ok (.iconst 3, 1) := by decide +kernel
theorem dX4_warmthOf_6 : decode cX4_warmthOf 6 = .ok (.imul, 1) := by decide +kernel
theorem dX4_warmthOf_7 : decode cX4_warmthOf 7 = .ok (.iload_n 2, 1) := by decide +kernel
theorem dX4_warmthOf_8 : decode cX4_warmthOf 8 = .ok (.iadd, 1) := by decide +kernel
theorem dX4_warmthOf_9 : decode cX4_warmthOf 9 = .ok (.laload, 1) := by decide +kernel
theorem dX4_warmthOf_10 : decode cX4_warmthOf 10 = .ok (.getstatic 32, 3) := by decide +kernel
theorem dX4_warmthOf_13 : decode cX4_warmthOf 13 = .ok (.iload_n 2, 1) := by decide +kernel
theorem dX4_warmthOf_14 : decode cX4_warmthOf 14 = .ok (.iaload, 1) := by decide +kernel
theorem dX4_warmthOf_15 : decode cX4_warmthOf 15 = .ok (.i2l, 1) := by decide +kernel
theorem dX4_warmthOf_16 : decode cX4_warmthOf 16 = .ok (.ldiv, 1) := by decide +kernel
theorem dX4_warmthOf_17 : decode cX4_warmthOf 17 = .ok (.lreturn, 1) := by decide +kernel
theorem dX4_held_0 : decode cX4_held 0 = .ok (.lconst 0, 1) := by decide +kernel
theorem dX4_held_1 : decode cX4_held 1 = .ok (.lstore_n 1, 1) := by decide +kernel
theorem dX4_held_2 : decode cX4_held 2 = .ok (.iconst 0, 1) := by decide +kernel
theorem dX4_held_3 : decode cX4_held 3 = .ok (.istore_n 3, 1) := by decide +kernel
theorem dX4_held_4 : decode cX4_held 4 = .ok (.iload_n 3, 1) := by decide +kernel
theorem dX4_held_5 : decode cX4_held 5 = .ok (.bipush 12, 2) := by decide +kernel
theorem dX4_held_7 : decode cX4_held 7 = .ok (.if_icmp .ge 18, 3) := by decide +kernel
theorem dX4_held_10 : decode cX4_held 10 = .ok (.lload_n 1, 1) := by decide +kernel
theorem dX4_held_11 : decode cX4_held 11 = .ok (.aload_n 0, 1) := by decide +kernel
theorem dX4_held_12 : decode cX4_held 12 = .ok (.getfield 9, 3) := by decide +kernel
theorem dX4_held_15 : decode cX4_held 15 = .ok (.iload_n 3, 1) := by decide +kernel
theorem dX4_held_16 : decode cX4_held 16 = .ok (.laload, 1) := by decide +kernel
theorem dX4_held_17 : decode cX4_held 17 = .ok (.ladd, 1) := by decide +kernel
theorem dX4_held_18 : decode cX4_held 18 = .ok (.lstore_n 1, 1) := by decide +kernel
theorem dX4_held_19 : decode cX4_held 19 = .ok (.iinc 3 1, 3) := by decide +kernel
theorem dX4_held_22 : decode cX4_held 22 = .ok (.goto (-18), 3) := by decide +kernel
theorem dX4_held_25 : decode cX4_held 25 = .ok (.lload_n 1, 1) := by decide +kernel
theorem dX4_held_26 : decode cX4_held 26 = .ok (.lreturn, 1) := by decide +kernel
theorem dX4_layLog_0 : decode cX4_layLog 0 = .ok (.aload_n 0, 1) := by decide +kernel
theorem dX4_layLog_1 : decode cX4_layLog 1 = .ok (.getfield 41, 3) := by decide +kernel
theorem dX4_layLog_4 : decode cX4_layLog 4 = .ok (.bipush 30, 2) := by decide +kernel
theorem dX4_layLog_6 : decode cX4_layLog 6 = .ok (.if_icmp .ge 33, 3) := by decide +kernel
theorem dX4_layLog_9 : decode cX4_layLog 9 = .ok (.aload_n 0, 1) := by decide +kernel
theorem dX4_layLog_10 : decode cX4_layLog 10 = .ok (.getfield 22, 3) := by decide +kernel
theorem dX4_layLog_13 : decode cX4_layLog 13 = .ok (.aload_n 0, 1) := by decide +kernel
theorem dX4_layLog_14 : decode cX4_layLog 14 = .ok (.getfield 41, 3) := by decide +kernel
theorem dX4_layLog_17 : decode cX4_layLog 17 = .ok (.iload_n 1, 1) := by decide +kernel
theorem dX4_layLog_18 : decode cX4_layLog 18 = .ok (.iastore, 1) := by decide +kernel
theorem dX4_layLog_19 : decode cX4_layLog 19 = .ok (.aload_n 0, 1) := by decide +kernel
theorem dX4_layLog_20 : decode cX4_layLog 20 = .ok (.getfield 25, 3) := by decide +kernel
theorem dX4_layLog_23 : decode cX4_layLog 23 = .ok (.aload_n 0, 1) := by decide +kernel
theorem dX4_layLog_24 : decode cX4_layLog 24 = .ok (.getfield 41, 3) := by decide +kernel
theorem dX4_layLog_27 : decode cX4_layLog 27 = .ok (.iload_n 2, 1) := by decide +kernel
theorem dX4_layLog_28 : decode cX4_layLog 28 = .ok (.iastore, 1) := by decide +kernel
theorem dX4_layLog_29 : decode cX4_layLog 29 = .ok (.aload_n 0, 1) := by decide +kernel
theorem dX4_layLog_30 : decode cX4_layLog 30 = .ok (.dup, 1) := by decide +kernel
theorem dX4_layLog_31 : decode cX4_layLog 31 = .ok (.getfield 41, 3) := by decide +kernel
theorem dX4_layLog_34 : decode cX4_layLog 34 = .ok (.iconst 1, 1) := by decide +kernel
theorem dX4_layLog_35 : decode cX4_layLog 35 = .ok (.iadd, 1) := by decide +kernel
theorem dX4_layLog_36 : decode cX4_layLog 36 = .ok (.putfield 41, 3) := by decide +kernel
theorem dX4_layLog_39 : decode cX4_layLog 39 = .ok (.return_, 1) := by decide +kernel
theorem dX4_passTick_0 : decode cX4_passTick 0 = .ok (.aload_n 0, 1) := by decide +kernel
theorem dX4_passTick_1 : decode cX4_passTick 1 = .ok (.invokevirtual 54, 3) := by decide +kernel
theorem dX4_passTick_4 : decode cX4_passTick 4 = .ok (.aload_n 0, 1) := by decide +kernel
theorem dX4_passTick_5 : decode cX4_passTick 5 = .ok (.invokevirtual 57, 3) := by decide +kernel
theorem dX4_passTick_8 : decode cX4_passTick 8 = .ok (.aload_n 0, 1) := by decide +kernel
theorem dX4_passTick_9 : decode cX4_passTick 9 = .ok (.invokevirtual 60, 3) := by decide +kernel
theorem dX4_passTick_12 : decode cX4_passTick 12 = .ok (.aload_n 0, 1) := by decide +kernel
theorem dX4_passTick_13 : decode cX4_passTick 13 = .ok (.invokevirtual 63, 3) := by decide +kernel
theorem dX4_passTick_16 : decode cX4_passTick 16 = .ok (.aload_n 0, 1) := by decide +kernel
theorem dX4_passTick_17 : decode cX4_passTick 17 = .ok (.iload_n 1, 1) := by decide +kernel
theorem dX4_passTick_18 : decode cX4_passTick 18 = .ok (.invokevirtual 66, 3) := by decide +kernel
theorem dX4_passTick_21 : decode cX4_passTick 21 = .ok (.return_, 1) := by decide +kernel
theorem dX4_drawFromLining_0 : decode cX4_drawFromLining 0 = .ok (.iload_n 1, 1) := by decide +kernel
theorem dX4_drawFromLining_1 : decode cX4_drawFromLining 1 = .ok (.iconst 3, 1) := by decide +kernel
theorem dX4_drawFromLining_2 : decode cX4_drawFromLining 2 = .ok (.imul, 1) := by decide +kernel
theorem dX4_drawFromLining_3 : decode cX4_drawFromLining 3 = .ok (.iconst 0, 1) := by decide +kernel
theorem dX4_drawFromLining_4 : decode cX4_drawFromLining 4 = .ok (.iadd, 1) := by decide +kernel
theorem dX4_drawFromLining_5 : decode cX4_drawFromLining 5 = .ok (.istore 4, 2) := by decide +kernel
theorem dX4_drawFromLining_7 : decode cX4_drawFromLining 7 = .ok (.lload_n 2, 1) := by decide +kernel
theorem dX4_drawFromLining_8 : decode cX4_drawFromLining 8 = .ok (.aload_n 0, 1) := by decide +kernel
theorem dX4_drawFromLining_9 : decode cX4_drawFromLining 9 = .ok (.getfield 9, 3) := by decide +kernel
theorem dX4_drawFromLining_12 : decode cX4_drawFromLining 12 = .ok (.iload 4, 2) := by decide +kernel
theorem dX4_drawFromLining_14 : decode cX4_drawFromLining 14 = .ok (.laload, 1) := by decide +kernel
theorem dX4_drawFromLining_15 : decode cX4_drawFromLining 15 = .ok (.invokestatic 70, 3) := by decide +kernel
theorem dX4_drawFromLining_18 : decode cX4_drawFromLining 18 = .ok (.lstore 5, 2) := by decide +kernel
theorem dX4_drawFromLining_20 : decode cX4_drawFromLining 20 = .ok (.aload_n 0, 1) := by decide +kernel
theorem dX4_drawFromLining_21 : decode cX4_drawFromLining 21 = .ok (.getfield 9, 3) := by decide +kernel
theorem dX4_drawFromLining_24 : decode cX4_drawFromLining 24 = .ok (.iload 4, 2) := by decide +kernel
theorem dX4_drawFromLining_26 : decode cX4_drawFromLining 26 = .ok (.dup2, 1) := by decide +kernel
theorem dX4_drawFromLining_27 : decode cX4_drawFromLining 27 = .ok (.laload, 1) := by decide +kernel
theorem dX4_drawFromLining_28 : decode cX4_drawFromLining 28 = .ok (.lload 5, 2) := by decide +kernel
theorem dX4_drawFromLining_30 : decode cX4_drawFromLining 30 = .ok (.lsub, 1) := by decide +kernel
theorem dX4_drawFromLining_31 : decode cX4_drawFromLining 31 = .ok (.lastore, 1) := by decide +kernel
theorem dX4_drawFromLining_32 : decode cX4_drawFromLining 32 = .ok (.lload 5, 2) := by decide +kernel
theorem dX4_drawFromLining_34 : decode cX4_drawFromLining 34 = .ok (.lreturn, 1) := by decide +kernel
theorem dX4_burn_0 : decode cX4_burn 0 = .ok (.aload_n 0, 1) := by decide +kernel
theorem dX4_burn_1 : decode cX4_burn 1 = .ok (.getfield 41, 3) := by decide +kernel
theorem dX4_burn_4 : decode cX4_burn 4 = .ok (.ifCond .gt 4, 3) := by decide +kernel
theorem dX4_burn_7 : decode cX4_burn 7 = .ok (.return_, 1) := by decide +kernel
theorem dX4_burn_8 : decode cX4_burn 8 = .ok (.aload_n 0, 1) := by decide +kernel
theorem dX4_burn_9 : decode cX4_burn 9 = .ok (.getfield 22, 3) := by decide +kernel
theorem dX4_burn_12 : decode cX4_burn 12 = .ok (.iconst 0, 1) := by decide +kernel
theorem dX4_burn_13 : decode cX4_burn 13 = .ok (.iaload, 1) := by decide +kernel
theorem dX4_burn_14 : decode cX4_burn 14 = .ok (.sipush 2000, 3) := by decide +kernel
theorem dX4_burn_17 : decode cX4_burn 17 = .ok (.bipush 26, 2) := by decide +kernel
theorem dX4_burn_19 : decode cX4_burn 19 = .ok (.aload_n 0, 1) := by decide +kernel
theorem dX4_burn_20 : decode cX4_burn 20 = .ok (.getfield 25, 3) := by decide +kernel
theorem dX4_burn_23 : decode cX4_burn 23 = .ok (.iconst 0, 1) := by decide +kernel
theorem dX4_burn_24 : decode cX4_burn 24 = .ok (.iaload, 1) := by decide +kernel
theorem dX4_burn_25 : decode cX4_burn 25 = .ok (.imul, 1) := by decide +kernel
theorem dX4_burn_26 : decode cX4_burn 26 = .ok (.isub, 1) := by decide +kernel
theorem dX4_burn_27 : decode cX4_burn 27 = .ok (.imul, 1) := by decide +kernel
theorem dX4_burn_28 : decode cX4_burn 28 = .ok (.bipush 10, 2) := by decide +kernel
theorem dX4_burn_30 : decode cX4_burn 30 = .ok (.idiv, 1) := by decide +kernel
theorem dX4_burn_31 : decode cX4_burn 31 = .ok (.i2l, 1) := by decide +kernel
theorem dX4_burn_32 : decode cX4_burn 32 = .ok (.lstore_n 1, 1) := by decide +kernel
theorem dX4_burn_33 : decode cX4_burn 33 = .ok (.aload_n 0, 1) := by decide +kernel
theorem dX4_burn_34 : decode cX4_burn 34 = .ok (.dup, 1) := by decide +kernel
theorem dX4_burn_35 : decode cX4_burn 35 = .ok (.getfield 41, 3) := by decide +kernel
theorem dX4_burn_38 : decode cX4_burn 38 = .ok (.iconst 1, 1) := by decide +kernel
theorem dX4_burn_39 : decode cX4_burn 39 = .ok (.isub, 1) := by decide +kernel
theorem dX4_burn_40 : decode cX4_burn 40 = .ok (.putfield 41, 3) := by decide +kernel
theorem dX4_burn_43 : decode cX4_burn 43 = .ok (.aload_n 0, 1) := by decide +kernel
theorem dX4_burn_44 : decode cX4_burn 44 = .ok (.getfield 22, 3) := by decide +kernel
theorem dX4_burn_47 : decode cX4_burn 47 = .ok (.iconst 1, 1) := by decide +kernel
theorem dX4_burn_48 : decode cX4_burn 48 = .ok (.aload_n 0, 1) := by decide +kernel
theorem dX4_burn_49 : decode cX4_burn 49 = .ok (.getfield 22, 3) := by decide +kernel
theorem dX4_burn_52 : decode cX4_burn 52 = .ok (.iconst 0, 1) := by decide +kernel
theorem dX4_burn_53 : decode cX4_burn 53 = .ok (.aload_n 0, 1) := by decide +kernel
theorem dX4_burn_54 : decode cX4_burn 54 = .ok (.getfield 41, 3) := by decide +kernel
theorem dX4_burn_57 : decode cX4_burn 57 = .ok (.invokestatic 35, 3) := by decide +kernel
theorem dX4_burn_60 : decode cX4_burn 60 = .ok (.aload_n 0, 1) := by decide +kernel
theorem dX4_burn_61 : decode cX4_burn 61 = .ok (.getfield 25, 3) := by decide +kernel
theorem dX4_burn_64 : decode cX4_burn 64 = .ok (.iconst 1, 1) := by decide +kernel
theorem dX4_burn_65 : decode cX4_burn 65 = .ok (.aload_n 0, 1) := by decide +kernel
theorem dX4_burn_66 : decode cX4_burn 66 = .ok (.getfield 25, 3) := by decide +kernel
theorem dX4_burn_69 : decode cX4_burn 69 = .ok (.iconst 0, 1) := by decide +kernel
theorem dX4_burn_70 : decode cX4_burn 70 = .ok (.aload_n 0, 1) := by decide +kernel
theorem dX4_burn_71 : decode cX4_burn 71 = .ok (.getfield 41, 3) := by decide +kernel
theorem dX4_burn_74 : decode cX4_burn 74 = .ok (.invokestatic 35, 3) := by decide +kernel
theorem dX4_burn_77 : decode cX4_burn 77 = .ok (.lload_n 1, 1) := by decide +kernel
theorem dX4_burn_78 : decode cX4_burn 78 = .ok (.ldc2_w 76, 3) := by decide +kernel
theorem dX4_burn_81 : decode cX4_burn 81 = .ok (.ldiv, 1) := by decide +kernel
theorem dX4_burn_82 : decode cX4_burn 82 = .ok (.lstore_n 3, 1) := by decide +kernel
theorem dX4_burn_83 : decode cX4_burn 83 = .ok (.lload_n 1, 1) := by decide +kernel
theorem dX4_burn_84 : decode cX4_burn 84 = .ok (.lload_n 3, 1) := by decide +kernel
theorem dX4_burn_85 : decode cX4_burn 85 = .ok (.lsub, 1) := by decide +kernel
theorem dX4_burn_86 : decode cX4_burn 86 = .ok (.ldc2_w 76, 3) := by decide +kernel
theorem dX4_burn_89 : decode cX4_burn 89 = .ok (.ldiv, 1) := by decide +kernel
theorem dX4_burn_90 : decode cX4_burn 90 = .ok (.lstore 5, 2) := by decide +kernel
theorem dX4_burn_92 : decode cX4_burn 92 = .ok (.iconst 0, 1) := by decide +kernel
theorem dX4_burn_93 : decode cX4_burn 93 = .ok (.aload_n 0, 1) := by decide +kernel
theorem dX4_burn_94 : decode cX4_burn 94 = .ok (.getfield 44, 3) := by decide +kernel
theorem dX4_burn_97 : decode cX4_burn 97 = .ok (.iconst 1, 1) := by decide +kernel
theorem dX4_burn_98 : decode cX4_burn 98 = .ok (.isub, 1) := by decide +kernel
theorem dX4_burn_99 : decode cX4_burn 99 = .ok (.invokestatic 78, 3) := by decide +kernel
theorem dX4_burn_102 : decode cX4_burn 102 = .ok (.istore 7, 2) := by decide +kernel
theorem dX4_burn_104 : decode cX4_burn 104 = .ok (.aload_n 0, 1) := by decide +kernel
theorem dX4_burn_105 : decode cX4_burn 105 = .ok (.getfield 9, 3) := by decide +kernel
theorem dX4_burn_108 : decode cX4_burn 108 = .ok (.aload_n 0, 1) := by decide +kernel
theorem dX4_burn_109 : decode cX4_burn 109 = .ok (.getfield 44, 3) := by decide +kernel
theorem dX4_burn_112 : decode cX4_burn 112 = .ok (.iconst 3, 1) := by decide +kernel
theorem dX4_burn_113 : decode cX4_burn 113 = .ok (.imul, 1) := by decide +kernel
theorem dX4_burn_114 : decode cX4_burn 114 = .ok (.iconst 0, 1) := by decide +kernel
theorem dX4_burn_115 : decode cX4_burn 115 = .ok (.iadd, 1) := by decide +kernel
theorem dX4_burn_116 : decode cX4_burn 116 = .ok (.dup2, 1) := by decide +kernel
theorem dX4_burn_117 : decode cX4_burn 117 = .ok (.laload, 1) := by decide +kernel
theorem dX4_burn_118 : decode cX4_burn 118 = .ok (.lload_n 3, 1) := by decide +kernel
theorem dX4_burn_119 : decode cX4_burn 119 = .ok (.ladd, 1) := by decide +kernel
theorem dX4_burn_120 : decode cX4_burn 120 = .ok (.lastore, 1) := by decide +kernel
theorem dX4_burn_121 : decode cX4_burn 121 = .ok (.aload_n 0, 1) := by decide +kernel
theorem dX4_burn_122 : decode cX4_burn 122 = .ok (.getfield 9, 3) := by decide +kernel
theorem dX4_burn_125 : decode cX4_burn 125 = .ok (.aload_n 0, 1) := by decide +kernel
theorem dX4_burn_126 : decode cX4_burn 126 = .ok (.getfield 44, 3) := by decide +kernel
theorem dX4_burn_129 : decode cX4_burn 129 = .ok (.iconst 1, 1) := by decide +kernel
theorem dX4_burn_130 : decode cX4_burn 130 = .ok (.iadd, 1) := by decide +kernel
theorem dX4_burn_131 : decode cX4_burn 131 = .ok (.iconst 3, 1) := by decide +kernel
theorem dX4_burn_132 : decode cX4_burn 132 = .ok (.imul, 1) := by decide +kernel
theorem dX4_burn_133 : decode cX4_burn 133 = .ok (.iconst 0, 1) := by decide +kernel
theorem dX4_burn_134 : decode cX4_burn 134 = .ok (.iadd, 1) := by decide +kernel
theorem dX4_burn_135 : decode cX4_burn 135 = .ok (.dup2, 1) := by decide +kernel
theorem dX4_burn_136 : decode cX4_burn 136 = .ok (.laload, 1) := by decide +kernel
theorem dX4_burn_137 : decode cX4_burn 137 = .ok (.lload 5, 2) := by decide +kernel
theorem dX4_burn_139 : decode cX4_burn 139 = .ok (.ladd, 1) := by decide +kernel
theorem dX4_burn_140 : decode cX4_burn 140 = .ok (.lastore, 1) := by decide +kernel
theorem dX4_burn_141 : decode cX4_burn 141 = .ok (.aload_n 0, 1) := by decide +kernel
theorem dX4_burn_142 : decode cX4_burn 142 = .ok (.getfield 9, 3) := by decide +kernel
theorem dX4_burn_145 : decode cX4_burn 145 = .ok (.iload 7, 2) := by decide +kernel
theorem dX4_burn_147 : decode cX4_burn 147 = .ok (.iconst 3, 1) := by decide +kernel
theorem dX4_burn_148 : decode cX4_burn 148 = .ok (.imul, 1) := by decide +kernel
theorem dX4_burn_149 : decode cX4_burn 149 = .ok (.iconst 0, 1) := by decide +kernel
theorem dX4_burn_150 : decode cX4_burn 150 = .ok (.iadd, 1) := by decide +kernel
theorem dX4_burn_151 : decode cX4_burn 151 = .ok (.dup2, 1) := by decide +kernel
theorem dX4_burn_152 : decode cX4_burn 152 = .ok (.laload, 1) := by decide +kernel
theorem dX4_burn_153 : decode cX4_burn 153 = .ok (.lload_n 1, 1) := by decide +kernel
theorem dX4_burn_154 : decode cX4_burn 154 = .ok (.lload_n 3, 1) := by decide +kernel
theorem dX4_burn_155 : decode cX4_burn 155 = .ok (.lsub, 1) := by decide +kernel
theorem dX4_burn_156 : decode cX4_burn 156 = .ok (.lload 5, 2) := by decide +kernel
theorem dX4_burn_158 : decode cX4_burn 158 = .ok (.lsub, 1) := by decide +kernel
theorem dX4_burn_159 : decode cX4_burn 159 = .ok (.ladd, 1) := by decide +kernel
theorem dX4_burn_160 : decode cX4_burn 160 = .ok (.lastore, 1) := by decide +kernel
theorem dX4_burn_161 : decode cX4_burn 161 = .ok (.aload_n 0, 1) := by decide +kernel
theorem dX4_burn_162 : decode cX4_burn 162 = .ok (.dup, 1) := by decide +kernel
theorem dX4_burn_163 : decode cX4_burn 163 = .ok (.getfield 47, 3) := by decide +kernel
theorem dX4_burn_166 : decode cX4_burn 166 = .ok (.lload_n 1, 1) := by decide +kernel
theorem dX4_burn_167 : decode cX4_burn 167 = .ok (.ladd, 1) := by decide +kernel
theorem dX4_burn_168 : decode cX4_burn 168 = .ok (.putfield 47, 3) := by decide +kernel
theorem dX4_burn_171 : decode cX4_burn 171 = .ok (.return_, 1) := by decide +kernel
theorem dX4_dry_0 : decode cX4_dry 0 = .ok (.iconst 0, 1) := by decide +kernel
theorem dX4_dry_1 : decode cX4_dry 1 = .ok (.istore_n 1, 1) := by decide +kernel
theorem dX4_dry_2 : decode cX4_dry 2 = .ok (.iload_n 1, 1) := by decide +kernel
theorem dX4_dry_3 : decode cX4_dry 3 = .ok (.iconst 4, 1) := by decide +kernel
theorem dX4_dry_4 : decode cX4_dry 4 = .ok (.if_icmp .ge 102, 3) := by decide +kernel
theorem dX4_dry_7 : decode cX4_dry 7 = .ok (.aload_n 0, 1) := by decide +kernel
theorem dX4_dry_8 : decode cX4_dry 8 = .ok (.iload_n 1, 1) := by decide +kernel
theorem dX4_dry_9 : decode cX4_dry 9 = .ok (.iconst 0, 1) := by decide +kernel
theorem dX4_dry_10 : decode cX4_dry 10 = .ok (.invokevirtual 82, 3) := by decide +kernel
theorem dX4_dry_13 : decode cX4_dry 13 = .ok (.lstore_n 2, 1) := by decide +kernel
theorem dX4_dry_14 : decode cX4_dry 14 = .ok (.aload_n 0, 1) := by decide +kernel
theorem dX4_dry_15 : decode cX4_dry 15 = .ok (.getfield 15, 3) := by decide +kernel
theorem dX4_dry_18 : decode cX4_dry 18 = .ok (.iload_n 1, 1) := by decide +kernel
theorem dX4_dry_19 : decode cX4_dry 19 = .ok (.iaload, 1) := by decide +kernel
theorem dX4_dry_20 : decode cX4_dry 20 = .ok (.ifCond .le 80, 3) := by decide +kernel
theorem dX4_dry_23 : decode cX4_dry 23 = .ok (.lload_n 2, 1) := by decide +kernel
theorem dX4_dry_24 : decode cX4_dry 24 = .ok (.ldc2_w 86, 3) := by decide +kernel
theorem dX4_dry_27 : decode cX4_dry 27 = .ok (.lcmp, 1) := by decide +kernel
theorem dX4_dry_28 : decode cX4_dry 28 = .ok (.ifCond .lt 72, 3) := by decide +kernel
theorem dX4_dry_31 : decode cX4_dry 31 = .ok (.lload_n 2, 1) := by decide +kernel
theorem dX4_dry_32 : decode cX4_dry 32 = .ok (.ldc2_w 86, 3) := by decide +kernel
theorem dX4_dry_35 : decode cX4_dry 35 = .ok (.lsub, 1) := by decide +kernel
theorem dX4_dry_36 : decode cX4_dry 36 = .ok (.ldc2_w 88, 3) := by decide +kernel
theorem dX4_dry_39 : decode cX4_dry 39 = .ok (.ldiv, 1) := by decide +kernel
theorem dX4_dry_40 : decode cX4_dry 40 = .ok (.lconst 1, 1) := by decide +kernel
theorem dX4_dry_41 : decode cX4_dry 41 = .ok (.ladd, 1) := by decide +kernel
theorem dX4_dry_42 : decode cX4_dry 42 = .ok (.aload_n 0, 1) := by decide +kernel
theorem dX4_dry_43 : decode cX4_dry 43 = .ok (.getfield 15, 3) := by decide +kernel
theorem dX4_dry_46 : decode cX4_dry 46 = .ok (.iload_n 1, 1) := by decide +kernel
theorem dX4_dry_47 : decode cX4_dry 47 = .ok (.iaload, 1) := by decide +kernel
theorem dX4_dry_48 : decode cX4_dry 48 = .ok (.i2l, 1) := by decide +kernel
theorem dX4_dry_49 : decode cX4_dry 49 = .ok (.invokestatic 70, 3) := by decide +kernel
theorem dX4_dry_52 : decode cX4_dry 52 = .ok (.lstore 4, 2) := by decide +kernel
theorem dX4_dry_54 : decode cX4_dry 54 = .ok (.aload_n 0, 1) := by decide +kernel
theorem dX4_dry_55 : decode cX4_dry 55 = .ok (.getfield 15, 3) := by decide +kernel
theorem dX4_dry_58 : decode cX4_dry 58 = .ok (.iload_n 1, 1) := by decide +kernel
theorem dX4_dry_59 : decode cX4_dry 59 = .ok (.dup2, 1) := by decide +kernel
theorem dX4_dry_60 : decode cX4_dry 60 = .ok (.iaload, 1) := by decide +kernel
theorem dX4_dry_61 : decode cX4_dry 61 = .ok (.lload 4, 2) := by decide +kernel
theorem dX4_dry_63 : decode cX4_dry 63 = .ok (.l2i, 1) := by decide +kernel
theorem dX4_dry_64 : decode cX4_dry 64 = .ok (.isub, 1) := by decide +kernel
theorem dX4_dry_65 : decode cX4_dry 65 = .ok (.iastore, 1) := by decide +kernel
theorem dX4_dry_66 : decode cX4_dry 66 = .ok (.aload_n 0, 1) := by decide +kernel
theorem dX4_dry_67 : decode cX4_dry 67 = .ok (.getfield 9, 3) := by decide +kernel
theorem dX4_dry_70 : decode cX4_dry 70 = .ok (.iload_n 1, 1) := by decide +kernel
theorem dX4_dry_71 : decode cX4_dry 71 = .ok (.iconst 3, 1) := by decide +kernel
theorem dX4_dry_72 : decode cX4_dry 72 = .ok (.imul, 1) := by decide +kernel
theorem dX4_dry_73 : decode cX4_dry 73 = .ok (.iconst 0, 1) := by decide +kernel
theorem dX4_dry_74 : decode cX4_dry 74 = .ok (.iadd, 1) := by decide +kernel
theorem dX4_dry_75 : decode cX4_dry 75 = .ok (.dup2, 1) := by decide +kernel
theorem dX4_dry_76 : decode cX4_dry 76 = .ok (.laload, 1) := by decide +kernel
theorem dX4_dry_77 : decode cX4_dry 77 = .ok (.ldc2_w 90, 3) := by decide +kernel
theorem dX4_dry_80 : decode cX4_dry 80 = .ok (.lload 4, 2) := by decide +kernel
theorem dX4_dry_82 : decode cX4_dry 82 = .ok (.lmul, 1) := by decide +kernel
theorem dX4_dry_83 : decode cX4_dry 83 = .ok (.lsub, 1) := by decide +kernel
theorem dX4_dry_84 : decode cX4_dry 84 = .ok (.lastore, 1) := by decide +kernel
theorem dX4_dry_85 : decode cX4_dry 85 = .ok (.aload_n 0, 1) := by decide +kernel
theorem dX4_dry_86 : decode cX4_dry 86 = .ok (.dup, 1) := by decide +kernel
theorem dX4_dry_87 : decode cX4_dry 87 = .ok (.getfield 51, 3) := by decide +kernel
theorem dX4_dry_90 : decode cX4_dry 90 = .ok (.ldc2_w 90, 3) := by decide +kernel
theorem dX4_dry_93 : decode cX4_dry 93 = .ok (.lload 4, 2) := by decide +kernel
theorem dX4_dry_95 : decode cX4_dry 95 = .ok (.lmul, 1) := by decide +kernel
theorem dX4_dry_96 : decode cX4_dry 96 = .ok (.ladd, 1) := by decide +kernel
theorem dX4_dry_97 : decode cX4_dry 97 = .ok (.putfield 51, 3) := by decide +kernel
theorem dX4_dry_100 : decode cX4_dry 100 = .ok (.iinc 1 1, 3) := by decide +kernel
theorem dX4_dry_103 : decode cX4_dry 103 = .ok (.goto (-101), 3) := by decide +kernel
theorem dX4_dry_106 : decode cX4_dry 106 = .ok (.return_, 1) := by decide +kernel
theorem dX4_soak_0 : decode cX4_soak 0 = .ok (.iconst 0, 1) := by decide +kernel
theorem dX4_soak_1 : decode cX4_soak 1 = .ok (.istore_n 1, 1) := by decide +kernel
theorem dX4_soak_2 : decode cX4_soak 2 = .ok (.iload_n 1, 1) := by decide +kernel
theorem dX4_soak_3 : decode cX4_soak 3 = .ok (.iconst 4, 1) := by decide +kernel
theorem dX4_soak_4 : decode cX4_soak 4 = .ok (.if_icmp .ge 98, 3) := by decide +kernel
theorem dX4_soak_7 : decode cX4_soak 7 = .ok (.aload_n 0, 1) := by decide +kernel
theorem dX4_soak_8 : decode cX4_soak 8 = .ok (.iload_n 1, 1) := by decide +kernel
theorem dX4_soak_9 : decode cX4_soak 9 = .ok (.iconst 1, 1) := by decide +kernel
theorem dX4_soak_10 : decode cX4_soak 10 = .ok (.invokevirtual 82, 3) := by decide +kernel
theorem dX4_soak_13 : decode cX4_soak 13 = .ok (.lstore_n 2, 1) := by decide +kernel
theorem dX4_soak_14 : decode cX4_soak 14 = .ok (.ldc2_w 76, 3) := by decide +kernel
theorem dX4_soak_17 : decode cX4_soak 17 = .ok (.aload_n 0, 1) := by decide +kernel
theorem dX4_soak_18 : decode cX4_soak 18 = .ok (.iload_n 1, 1) := by decide +kernel
theorem dX4_soak_19 : decode cX4_soak 19 = .ok (.iconst 0, 1) := by decide +kernel
theorem dX4_soak_20 : decode cX4_soak 20 = .ok (.invokevirtual 82, 3) := by decide +kernel
theorem dX4_soak_23 : decode cX4_soak 23 = .ok (.lload_n 2, 1) := by decide +kernel
theorem dX4_soak_24 : decode cX4_soak 24 = .ok (.lsub, 1) := by decide +kernel
theorem dX4_soak_25 : decode cX4_soak 25 = .ok (.lmul, 1) := by decide +kernel
theorem dX4_soak_26 : decode cX4_soak 26 = .ok (.lstore 4, 2) := by decide +kernel
theorem dX4_soak_28 : decode cX4_soak 28 = .ok (.iconst 2, 1) := by decide +kernel
theorem dX4_soak_29 : decode cX4_soak 29 = .ok (.aload_n 0, 1) := by decide +kernel
theorem dX4_soak_30 : decode cX4_soak 30 = .ok (.getfield 19, 3) := by decide +kernel
theorem dX4_soak_33 : decode cX4_soak 33 = .ok (.iload_n 1, 1) := by decide +kernel
theorem dX4_soak_34 : decode cX4_soak 34 = .ok (.iaload, 1) := by decide +kernel
theorem dX4_soak_35 : decode cX4_soak 35 = .ok (.iadd, 1) := by decide +kernel
theorem dX4_soak_36 : decode cX4_soak 36 = .ok (.i2l, 1) := by decide +kernel
theorem dX4_soak_37 : decode cX4_soak 37 = .ok (.lload_n 2, 1) := by decide +kernel
theorem dX4_soak_38 : decode cX4_soak 38 = .ok (.aload_n 0, 1) := by decide +kernel
theorem dX4_soak_39 : decode cX4_soak 39 = .ok (.iload_n 1, 1) := by decide +kernel
theorem dX4_soak_40 : decode cX4_soak 40 = .ok (.iconst 2, 1) := by decide +kernel
theorem dX4_soak_41 : decode cX4_soak 41 = .ok (.invokevirtual 82, 3) := by decide +kernel
theorem dX4_soak_44 : decode cX4_soak 44 = .ok (.lsub, 1) := by decide +kernel
theorem dX4_soak_45 : decode cX4_soak 45 = .ok (.lmul, 1) := by decide +kernel
theorem dX4_soak_46 : decode cX4_soak 46 = .ok (.lstore 6, 2) := by decide +kernel
theorem dX4_soak_48 : decode cX4_soak 48 = .ok (.aload_n 0, 1) := by decide +kernel
theorem dX4_soak_49 : decode cX4_soak 49 = .ok (.getfield 9, 3) := by decide +kernel
theorem dX4_soak_52 : decode cX4_soak 52 = .ok (.iload_n 1, 1) := by decide +kernel
theorem dX4_soak_53 : decode cX4_soak 53 = .ok (.iconst 3, 1) := by decide +kernel
theorem dX4_soak_54 : decode cX4_soak 54 = .ok (.imul, 1) := by decide +kernel
theorem dX4_soak_55 : decode cX4_soak 55 = .ok (.iconst 0, 1) := by decide +kernel
theorem dX4_soak_56 : decode cX4_soak 56 = .ok (.iadd, 1) := by decide +kernel
theorem dX4_soak_57 : decode cX4_soak 57 = .ok (.dup2, 1) := by decide +kernel
theorem dX4_soak_58 : decode cX4_soak 58 = .ok (.laload, 1) := by decide +kernel
theorem dX4_soak_59 : decode cX4_soak 59 = .ok (.lload 4, 2) := by decide +kernel
theorem dX4_soak_61 : decode cX4_soak 61 = .ok (.lsub, 1) := by decide +kernel
theorem dX4_soak_62 : decode cX4_soak 62 = .ok (.lastore, 1) := by decide +kernel
theorem dX4_soak_63 : decode cX4_soak 63 = .ok (.aload_n 0, 1) := by decide +kernel
theorem dX4_soak_64 : decode cX4_soak 64 = .ok (.getfield 9, 3) := by decide +kernel
theorem dX4_soak_67 : decode cX4_soak 67 = .ok (.iload_n 1, 1) := by decide +kernel
theorem dX4_soak_68 : decode cX4_soak 68 = .ok (.iconst 3, 1) := by decide +kernel
theorem dX4_soak_69 : decode cX4_soak 69 = .ok (.imul, 1) := by decide +kernel
theorem dX4_soak_70 : decode cX4_soak 70 = .ok (.iconst 1, 1) := by decide +kernel
theorem dX4_soak_71 : decode cX4_soak 71 = .ok (.iadd, 1) := by decide +kernel
theorem dX4_soak_72 : decode cX4_soak 72 = .ok (.dup2, 1) := by decide +kernel
theorem dX4_soak_73 : decode cX4_soak 73 = .ok (.laload, 1) := by decide +kernel
theorem dX4_soak_74 : decode cX4_soak 74 = .ok (.lload 4, 2) := by decide +kernel
theorem dX4_soak_76 : decode cX4_soak 76 = .ok (.lload 6, 2) := by decide +kernel
theorem dX4_soak_78 : decode cX4_soak 78 = .ok (.lsub, 1) := by decide +kernel
theorem dX4_soak_79 : decode cX4_soak 79 = .ok (.ladd, 1) := by decide +kernel
theorem dX4_soak_80 : decode cX4_soak 80 = .ok (.lastore, 1) := by decide +kernel
theorem dX4_soak_81 : decode cX4_soak 81 = .ok (.aload_n 0, 1) := by decide +kernel
theorem dX4_soak_82 : decode cX4_soak 82 = .ok (.getfield 9, 3) := by decide +kernel
theorem dX4_soak_85 : decode cX4_soak 85 = .ok (.iload_n 1, 1) := by decide +kernel
theorem dX4_soak_86 : decode cX4_soak 86 = .ok (.iconst 3, 1) := by decide +kernel
theorem dX4_soak_87 : decode cX4_soak 87 = .ok (.imul, 1) := by decide +kernel
theorem dX4_soak_88 : decode cX4_soak 88 = .ok (.iconst 2, 1) := by decide +kernel
theorem dX4_soak_89 : decode cX4_soak 89 = .ok (.iadd, 1) := by decide +kernel
theorem dX4_soak_90 : decode cX4_soak 90 = .ok (.dup2, 1) := by decide +kernel
theorem dX4_soak_91 : decode cX4_soak 91 = .ok (.laload, 1) := by decide +kernel
theorem dX4_soak_92 : decode cX4_soak 92 = .ok (.lload 6, 2) := by decide +kernel
theorem dX4_soak_94 : decode cX4_soak 94 = .ok (.ladd, 1) := by decide +kernel
theorem dX4_soak_95 : decode cX4_soak 95 = .ok (.lastore, 1) := by decide +kernel
theorem dX4_soak_96 : decode cX4_soak 96 = .ok (.iinc 1 1, 3) := by decide +kernel
theorem dX4_soak_99 : decode cX4_soak 99 = .ok (.goto (-97), 3) := by decide +kernel
theorem dX4_soak_102 : decode cX4_soak 102 = .ok (.return_, 1) := by decide +kernel
theorem dX4_evenSides_0 : decode cX4_evenSides 0 = .ok (.aload_n 0, 1) := by decide +kernel
theorem dX4_evenSides_1 : decode cX4_evenSides 1 = .ok (.iconst 0, 1) := by decide +kernel
theorem dX4_evenSides_2 : decode cX4_evenSides 2 = .ok (.iconst 0, 1) := by decide +kernel
theorem dX4_evenSides_3 : decode cX4_evenSides 3 = .ok (.invokevirtual 82, 3) := by decide +kernel
theorem dX4_evenSides_6 : decode cX4_evenSides 6 = .ok (.lstore_n 1, 1) := by decide +kernel
theorem dX4_evenSides_7 : decode cX4_evenSides 7 = .ok (.iconst 0, 1) := by decide +kernel
theorem dX4_evenSides_8 : decode cX4_evenSides 8 = .ok (.istore_n 3, 1) := by decide +kernel
theorem dX4_evenSides_9 : decode cX4_evenSides 9 = .ok (.iload_n 3, 1) := by decide +kernel
theorem dX4_evenSides_10 : decode cX4_evenSides 10 = .ok (.iconst 3, 1) := by decide +kernel
theorem dX4_evenSides_11 : decode cX4_evenSides 11 = .ok (.if_icmp .ge 58, 3) := by decide +kernel
theorem dX4_evenSides_14 : decode cX4_evenSides 14 = .ok (.aload_n 0, 1) := by decide +kernel
theorem dX4_evenSides_15 : decode cX4_evenSides 15 = .ok (.iload_n 3, 1) := by decide +kernel
theorem dX4_evenSides_16 : decode cX4_evenSides 16 = .ok (.iconst 1, 1) := by decide +kernel
theorem dX4_evenSides_17 : decode cX4_evenSides 17 = .ok (.iadd, 1) := by decide +kernel
theorem dX4_evenSides_18 : decode cX4_evenSides 18 = .ok (.iconst 0, 1) := by decide +kernel
theorem dX4_evenSides_19 : decode cX4_evenSides 19 = .ok (.invokevirtual 82, 3) := by decide +kernel
theorem dX4_evenSides_22 : decode cX4_evenSides 22 = .ok (.lstore 4, 2) := by decide +kernel
theorem dX4_evenSides_24 : decode cX4_evenSides 24 = .ok (.aload_n 0, 1) := by decide +kernel
theorem dX4_evenSides_25 : decode cX4_evenSides 25 = .ok (.getfield 9, 3) := by decide +kernel
theorem dX4_evenSides_28 : decode cX4_evenSides 28 = .ok (.iload_n 3, 1) := by decide +kernel
theorem dX4_evenSides_29 : decode cX4_evenSides 29 = .ok (.iconst 3, 1) := by decide +kernel
theorem dX4_evenSides_30 : decode cX4_evenSides 30 = .ok (.imul, 1) := by decide +kernel
theorem dX4_evenSides_31 : decode cX4_evenSides 31 = .ok (.iconst 0, 1) := by decide +kernel
theorem dX4_evenSides_32 : decode cX4_evenSides 32 = .ok (.iadd, 1) := by decide +kernel
theorem dX4_evenSides_33 : decode cX4_evenSides 33 = .ok (.dup2, 1) := by decide +kernel
theorem dX4_evenSides_34 : decode cX4_evenSides 34 = .ok (.laload, 1) := by decide +kernel
theorem dX4_evenSides_35 : decode cX4_evenSides 35 = .ok (.lload_n 1, 1) := by decide +kernel
theorem dX4_evenSides_36 : decode cX4_evenSides 36 = .ok (.lload 4, 2) := by decide +kernel
theorem dX4_evenSides_38 : decode cX4_evenSides 38 = .ok (.lsub, 1) := by decide +kernel
theorem dX4_evenSides_39 : decode cX4_evenSides 39 = .ok (.lsub, 1) := by decide +kernel
theorem dX4_evenSides_40 : decode cX4_evenSides 40 = .ok (.lastore, 1) := by decide +kernel
theorem dX4_evenSides_41 : decode cX4_evenSides 41 = .ok (.aload_n 0, 1) := by decide +kernel
theorem dX4_evenSides_42 : decode cX4_evenSides 42 = .ok (.getfield 9, 3) := by decide +kernel
theorem dX4_evenSides_45 : decode cX4_evenSides 45 = .ok (.iload_n 3, 1) := by decide +kernel
theorem dX4_evenSides_46 : decode cX4_evenSides 46 = .ok (.iconst 1, 1) := by decide +kernel
theorem dX4_evenSides_47 : decode cX4_evenSides 47 = .ok (.iadd, 1) := by decide +kernel
theorem dX4_evenSides_48 : decode cX4_evenSides 48 = .ok (.iconst 3, 1) := by decide +kernel
theorem dX4_evenSides_49 : decode cX4_evenSides 49 = .ok (.imul, 1) := by decide +kernel
theorem dX4_evenSides_50 : decode cX4_evenSides 50 = .ok (.iconst 0, 1) := by decide +kernel
theorem dX4_evenSides_51 : decode cX4_evenSides 51 = .ok (.iadd, 1) := by decide +kernel
theorem dX4_evenSides_52 : decode cX4_evenSides 52 = .ok (.dup2, 1) := by decide +kernel
theorem dX4_evenSides_53 : decode cX4_evenSides 53 = .ok (.laload, 1) := by decide +kernel
theorem dX4_evenSides_54 : decode cX4_evenSides 54 = .ok (.lload_n 1, 1) := by decide +kernel
theorem dX4_evenSides_55 : decode cX4_evenSides 55 = .ok (.lload 4, 2) := by decide +kernel
theorem dX4_evenSides_57 : decode cX4_evenSides 57 = .ok (.lsub, 1) := by decide +kernel
theorem dX4_evenSides_58 : decode cX4_evenSides 58 = .ok (.ladd, 1) := by decide +kernel
theorem dX4_evenSides_59 : decode cX4_evenSides 59 = .ok (.lastore, 1) := by decide +kernel
theorem dX4_evenSides_60 : decode cX4_evenSides 60 = .ok (.lload 4, 2) := by decide +kernel
theorem dX4_evenSides_62 : decode cX4_evenSides 62 = .ok (.lstore_n 1, 1) := by decide +kernel
theorem dX4_evenSides_63 : decode cX4_evenSides 63 = .ok (.iinc 3 1, 3) := by decide +kernel
theorem dX4_evenSides_66 : decode cX4_evenSides 66 = .ok (.goto (-57), 3) := by decide +kernel
theorem dX4_evenSides_69 : decode cX4_evenSides 69 = .ok (.return_, 1) := by decide +kernel
theorem dX4_loseOutside_0 : decode cX4_loseOutside 0 = .ok (.iconst 0, 1) := by decide +kernel
theorem dX4_loseOutside_1 : decode cX4_loseOutside 1 = .ok (.istore_n 2, 1) := by decide +kernel
theorem dX4_loseOutside_2 : decode cX4_loseOutside 2 = .ok (.iload_n 2, 1) := by decide +kernel
theorem dX4_loseOutside_3 : decode cX4_loseOutside 3 = .ok (.iconst 4, 1) := by decide +kernel
theorem dX4_loseOutside_4 : decode cX4_loseOutside 4 = .ok (.if_icmp .ge 38, 3) := by decide +kernel
theorem dX4_loseOutside_7 : decode cX4_loseOutside 7 = .ok (.aload_n 0, 1) := by decide +kernel
theorem dX4_loseOutside_8 : decode cX4_loseOutside 8 = .ok (.iload_n 2, 1) := by decide +kernel
theorem dX4_loseOutside_9 : decode cX4_loseOutside 9 = .ok (.iconst 2, 1) := by decide +kernel
theorem dX4_loseOutside_10 : decode cX4_loseOutside 10 = .ok (.iconst 1, 1) := by decide +kernel
theorem dX4_loseOutside_11 : decode cX4_loseOutside 11 = .ok (.aload_n 0, 1) := by decide +kernel
theorem dX4_loseOutside_12 : decode cX4_loseOutside 12 = .ok (.getfield 19, 3) := by decide +kernel
theorem dX4_loseOutside_15 : decode cX4_loseOutside 15 = .ok (.iload_n 2, 1) := by decide +kernel
theorem dX4_loseOutside_16 : decode cX4_loseOutside 16 = .ok (.iaload, 1) := by decide +kernel
theorem dX4_loseOutside_17 : decode cX4_loseOutside 17 = .ok (.iadd, 1) := by decide +kernel
theorem dX4_loseOutside_18 : decode cX4_loseOutside 18 = .ok (.invokevirtual 92, 3) := by decide +kernel
theorem dX4_loseOutside_21 : decode cX4_loseOutside 21 = .ok (.iload_n 1, 1) := by decide +kernel
theorem dX4_loseOutside_22 : decode cX4_loseOutside 22 = .ok (.ifCond .eq 14, 3) := by decide +kernel
theorem dX4_loseOutside_25 : decode cX4_loseOutside 25 = .ok (.aload_n 0, 1) := by decide +kernel
theorem dX4_loseOutside_26 : decode cX4_loseOutside 26 = .ok (.iload_n 2, 1) := by decide +kernel
theorem dX4_loseOutside_27 : decode cX4_loseOutside 27 = .ok (.iconst 0, 1) := by decide +kernel
theorem dX4_loseOutside_28 : decode cX4_loseOutside 28 = .ok (.getstatic 96, 3) := by decide +kernel
theorem dX4_loseOutside_31 : decode cX4_loseOutside 31 = .ok (.iload_n 2, 1) := by decide +kernel
theorem dX4_loseOutside_32 : decode cX4_loseOutside 32 = .ok (.iaload, 1) := by decide +kernel
theorem dX4_loseOutside_33 : decode cX4_loseOutside 33 = .ok (.invokevirtual 92, 3) := by decide +kernel
theorem dX4_loseOutside_36 : decode cX4_loseOutside 36 = .ok (.iinc 2 1, 3) := by decide +kernel
theorem dX4_loseOutside_39 : decode cX4_loseOutside 39 = .ok (.goto (-37), 3) := by decide +kernel
theorem dX4_loseOutside_42 : decode cX4_loseOutside 42 = .ok (.return_, 1) := by decide +kernel
theorem dX4_loseFrom_0 : decode cX4_loseFrom 0 = .ok (.iload_n 3, 1) := by decide +kernel
theorem dX4_loseFrom_1 : decode cX4_loseFrom 1 = .ok (.i2l, 1) := by decide +kernel
theorem dX4_loseFrom_2 : decode cX4_loseFrom 2 = .ok (.lconst 0, 1) := by decide +kernel
theorem dX4_loseFrom_3 : decode cX4_loseFrom 3 = .ok (.aload_n 0, 1) := by decide +kernel
theorem dX4_loseFrom_4 : decode cX4_loseFrom 4 = .ok (.iload_n 1, 1) := by decide +kernel
theorem dX4_loseFrom_5 : decode cX4_loseFrom 5 = .ok (.iload_n 2, 1) := by decide +kernel
theorem dX4_loseFrom_6 : decode cX4_loseFrom 6 = .ok (.invokevirtual 82, 3) := by decide +kernel
theorem dX4_loseFrom_9 : decode cX4_loseFrom 9 = .ok (.aload_n 0, 1) := by decide +kernel
theorem dX4_loseFrom_10 : decode cX4_loseFrom 10 = .ok (.getfield 28, 3) := by decide +kernel
theorem dX4_loseFrom_13 : decode cX4_loseFrom 13 = .ok (.i2l, 1) := by decide +kernel
theorem dX4_loseFrom_14 : decode cX4_loseFrom 14 = .ok (.lsub, 1) := by decide +kernel
theorem dX4_loseFrom_15 : decode cX4_loseFrom 15 = .ok (.invokestatic 99, 3) := by decide +kernel
theorem dX4_loseFrom_18 : decode cX4_loseFrom 18 = .ok (.lmul, 1) := by decide +kernel
theorem dX4_loseFrom_19 : decode cX4_loseFrom 19 = .ok (.lstore 4, 2) := by decide +kernel
theorem dX4_loseFrom_21 : decode cX4_loseFrom 21 = .ok (.aload_n 0, 1) := by decide +kernel
theorem dX4_loseFrom_22 : decode cX4_loseFrom 22 = .ok (.getfield 9, 3) := by decide +kernel
theorem dX4_loseFrom_25 : decode cX4_loseFrom 25 = .ok (.iload_n 1, 1) := by decide +kernel
theorem dX4_loseFrom_26 : decode cX4_loseFrom 26 = .ok (.iconst 3, 1) := by decide +kernel
theorem dX4_loseFrom_27 : decode cX4_loseFrom 27 = .ok (.imul, 1) := by decide +kernel
theorem dX4_loseFrom_28 : decode cX4_loseFrom 28 = .ok (.iload_n 2, 1) := by decide +kernel
theorem dX4_loseFrom_29 : decode cX4_loseFrom 29 = .ok (.iadd, 1) := by decide +kernel
theorem dX4_loseFrom_30 : decode cX4_loseFrom 30 = .ok (.dup2, 1) := by decide +kernel
theorem dX4_loseFrom_31 : decode cX4_loseFrom 31 = .ok (.laload, 1) := by decide +kernel
theorem dX4_loseFrom_32 : decode cX4_loseFrom 32 = .ok (.lload 4, 2) := by decide +kernel
theorem dX4_loseFrom_34 : decode cX4_loseFrom 34 = .ok (.lsub, 1) := by decide +kernel
theorem dX4_loseFrom_35 : decode cX4_loseFrom 35 = .ok (.lastore, 1) := by decide +kernel
theorem dX4_loseFrom_36 : decode cX4_loseFrom 36 = .ok (.aload_n 0, 1) := by decide +kernel
theorem dX4_loseFrom_37 : decode cX4_loseFrom 37 = .ok (.dup, 1) := by decide +kernel
theorem dX4_loseFrom_38 : decode cX4_loseFrom 38 = .ok (.getfield 51, 3) := by decide +kernel
theorem dX4_loseFrom_41 : decode cX4_loseFrom 41 = .ok (.lload 4, 2) := by decide +kernel
theorem dX4_loseFrom_43 : decode cX4_loseFrom 43 = .ok (.ladd, 1) := by decide +kernel
theorem dX4_loseFrom_44 : decode cX4_loseFrom 44 = .ok (.putfield 51, 3) := by decide +kernel
theorem dX4_loseFrom_47 : decode cX4_loseFrom 47 = .ok (.return_, 1) := by decide +kernel
theorem dX5_init_0 : decode cX5_init 0 = .ok (.aload_n 0, 1) := by decide +kernel
theorem dX5_init_1 : decode cX5_init 1 = .ok (.invokespecial 3, 3) := by decide +kernel
theorem dX5_init_4 : decode cX5_init 4 = .ok (.aload_n 0, 1) := by decide +kernel
theorem dX5_init_5 : decode cX5_init 5 = .ok (.new 9, 3) := by decide +kernel
theorem dX5_init_8 : decode cX5_init 8 = .ok (.dup, 1) := by decide +kernel
theorem dX5_init_9 : decode cX5_init 9 = .ok (.invokespecial 11, 3) := by decide +kernel
theorem dX5_init_12 : decode cX5_init 12 = .ok (.putfield 12, 3) := by decide +kernel
theorem dX5_init_15 : decode cX5_init 15 = .ok (.aload_n 0, 1) := by decide +kernel
theorem dX5_init_16 : decode cX5_init 16 = .ok (.sipush 160, 3) := by decide +kernel
theorem dX5_init_19 : decode cX5_init 19 = .ok (.newarray .long, 2) := by decide +kernel
theorem dX5_init_21 : decode cX5_init 21 = .ok (.putfield 18, 3) := by decide +kernel
theorem dX5_init_24 : decode cX5_init 24 = .ok (.aload_n 0, 1) := by decide +kernel
theorem dX5_init_25 : decode cX5_init 25 = .ok (.iconst 4, 1) := by decide +kernel
theorem dX5_init_26 : decode cX5_init 26 = .ok (.newarray .int, 2) := by decide +kernel
theorem dX5_init_28 : decode cX5_init 28 = .ok (.putfield 22, 3) := by decide +kernel
theorem dX5_init_31 : decode cX5_init 31 = .ok (.aload_n 0, 1) := by decide +kernel
theorem dX5_init_32 : decode cX5_init 32 = .ok (.iconst 3, 1) := by decide +kernel
theorem dX5_init_33 : decode cX5_init 33 = .ok (.newarray .int, 2) := by decide +kernel
theorem dX5_init_35 : decode cX5_init 35 = .ok (.putfield 26, 3) := by decide +kernel
theorem dX5_init_38 : decode cX5_init 38 = .ok (.aload_n 0, 1) := by decide +kernel
theorem dX5_init_39 : decode cX5_init 39 = .ok (.bipush 48, 2) := by decide +kernel
theorem dX5_init_41 : decode cX5_init 41 = .ok (.newarray .boolean, 2) := by decide +kernel
theorem dX5_init_43 : decode cX5_init 43 = .ok (.putfield 29, 3) := by decide +kernel
theorem dX5_init_46 : decode cX5_init 46 = .ok (.aload_n 0, 1) := by decide +kernel
theorem dX5_init_47 : decode cX5_init 47 = .ok (.iconst 5, 1) := by decide +kernel
theorem dX5_init_48 : decode cX5_init 48 = .ok (.newarray .int, 2) := by decide +kernel
theorem dX5_init_50 : decode cX5_init 50 = .ok (.putfield 33, 3) := by decide +kernel
theorem dX5_init_53 : decode cX5_init 53 = .ok (.aload_n 0, 1) := by decide +kernel
theorem dX5_init_54 : decode cX5_init 54 = .ok (.bipush 8, 2) := by decide +kernel
theorem dX5_init_56 : decode cX5_init 56 = .ok (.anewarray 36, 3) := by decide +kernel
theorem dX5_init_59 : decode cX5_init 59 = .ok (.putfield 38, 3) := by decide +kernel
theorem dX5_init_62 : decode cX5_init 62 = .ok (.aload_n 0, 1) := by decide +kernel
theorem dX5_init_63 : decode cX5_init 63 = .ok (.iconst 4, 1) := by decide +kernel
theorem dX5_init_64 : decode cX5_init 64 = .ok (.newarray .int, 2) := by decide +kernel
theorem dX5_init_66 : decode cX5_init 66 = .ok (.putfield 42, 3) := by decide +kernel
theorem dX5_init_69 : decode cX5_init 69 = .ok (.aload_n 0, 1) := by decide +kernel
theorem dX5_init_70 : decode cX5_init 70 = .ok (.iconst 4, 1) := by decide +kernel
theorem dX5_init_71 : decode cX5_init 71 = .ok (.newarray .int, 2) := by decide +kernel
theorem dX5_init_73 : decode cX5_init 73 = .ok (.putfield 45, 3) := by decide +kernel
theorem dX5_init_76 : decode cX5_init 76 = .ok (.aload_n 0, 1) := by decide +kernel
theorem dX5_init_77 : decode cX5_init 77 = .ok (.aload_n 1, 1) := by decide +kernel
theorem dX5_init_78 : decode cX5_init 78 = .ok (.putfield 48, 3) := by decide +kernel
theorem dX5_init_81 : decode cX5_init 81 = .ok (.iconst 0, 1) := by decide +kernel
theorem dX5_init_82 : decode cX5_init 82 = .ok (.istore_n 2, 1) := by decide +kernel
theorem dX5_init_83 : decode cX5_init 83 = .ok (.iload_n 2, 1) := by decide +kernel
theorem dX5_init_84 : decode cX5_init 84 = .ok (.aload_n 0, 1) := by decide +kernel
theorem dX5_init_85 : decode cX5_init 85 = .ok (.getfield 38, 3) := by decide +kernel
theorem dX5_init_88 : decode cX5_init 88 = .ok (.arraylength, 1) := by decide +kernel
theorem dX5_init_89 : decode cX5_init 89 = .ok (.if_icmp .ge 22, 3) := by decide +kernel
theorem dX5_init_92 : decode cX5_init 92 = .ok (.aload_n 0, 1) := by decide +kernel
theorem dX5_init_93 : decode cX5_init 93 = .ok (.getfield 38, 3) := by decide +kernel
theorem dX5_init_96 : decode cX5_init 96 = .ok (.iload_n 2, 1) := by decide +kernel
theorem dX5_init_97 : decode cX5_init 97 = .ok (.new 36, 3) := by decide +kernel
theorem dX5_init_100 : decode cX5_init 100 = .ok (.dup, 1) := by decide +kernel
theorem dX5_init_101 : decode cX5_init 101 = .ok (.invokespecial 52, 3) := by decide +kernel
theorem dX5_init_104 : decode cX5_init 104 = .ok (.aastore, 1) := by decide +kernel
theorem dX5_init_105 : decode cX5_init 105 = .ok (.iinc 2 1, 3) := by decide +kernel
theorem dX5_init_108 : decode cX5_init 108 = .ok (.goto (-25), 3) := by decide +kernel
theorem dX5_init_111 : decode cX5_init 111 = .ok (.return_, 1) := by decide +kernel
theorem dX5_addOrder_0 : decode cX5_addOrder 0 = .ok (.aload_n 0, 1) := by decide +kernel
theorem dX5_addOrder_1 : decode cX5_addOrder 1 = .ok (.getfield 22, 3) := by decide +kernel
theorem dX5_addOrder_4 : decode cX5_addOrder 4 = .ok (.aload_n 0, 1) := by decide +kernel
theorem dX5_addOrder_5 : decode cX5_addOrder 5 = .ok (.getfield 53, 3) := by decide +kernel
theorem dX5_addOrder_8 : decode cX5_addOrder 8 = .ok (.iload_n 1, 1) := by decide +kernel
theorem dX5_addOrder_9 : decode cX5_addOrder 9 = .ok (.iastore, 1) := by decide +kernel
theorem dX5_addOrder_10 : decode cX5_addOrder 10 = .ok (.aload_n 0, 1) := by decide +kernel
theorem dX5_addOrder_11 : decode cX5_addOrder 11 = .ok (.dup, 1) := by decide +kernel
theorem dX5_addOrder_12 : decode cX5_addOrder 12 = .ok (.getfield 53, 3) := by decide +kernel
theorem dX5_addOrder_15 : decode cX5_addOrder 15 = .ok (.iconst 1, 1) := by decide +kernel
theorem dX5_addOrder_16 : decode cX5_addOrder 16 = .ok (.iadd, 1) := by decide +kernel
theorem dX5_addOrder_17 : decode cX5_addOrder 17 = .ok (.putfield 53, 3) := by decide +kernel
theorem dX5_addOrder_20 : decode cX5_addOrder 20 = .ok (.aload_n 0, 1) := by decide +kernel
theorem dX5_addOrder_21 : decode cX5_addOrder 21 = .ok (.getfield 53, 3) := by decide +kernel
theorem dX5_addOrder_24 : decode cX5_addOrder 24 = .ok (.iconst 1, 1) := by decide +kernel
theorem dX5_addOrder_25 : decode cX5_addOrder 25 = .ok (.isub, 1) := by decide +kernel
theorem dX5_addOrder_26 : decode cX5_addOrder 26 = .ok (.ireturn, 1) := by decide +kernel
theorem dX5_addOpening_0 : decode cX5_addOpening 0 = .ok (.aload_n 0, 1) := by decide +kernel
theorem dX5_addOpening_1 : decode cX5_addOpening 1 = .ok (.getfield 26, 3) := by decide +kernel
theorem dX5_addOpening_4 : decode cX5_addOpening 4 = .ok (.aload_n 0, 1) := by decide +kernel
theorem dX5_addOpening_5 : decode cX5_addOpening 5 = .ok (.getfield 57, 3) := by decide +kernel
theorem dX5_addOpening_8 : decode cX5_addOpening 8 = .ok (.iload_n 1, 1) := by decide +kernel
theorem dX5_addOpening_9 : decode cX5_addOpening 9 = .ok (.iastore, 1) := by decide +kernel
theorem dX5_addOpening_10 : decode cX5_addOpening 10 = .ok (.aload_n 0, 1) := by decide +kernel
theorem dX5_addOpening_11 : decode cX5_addOpening 11 = .ok (.dup, 1) := by decide +kernel
theorem dX5_addOpening_12 : decode cX5_addOpening 12 = .ok (.getfield 57, 3) := by decide +kernel
theorem dX5_addOpening_15 : decode cX5_addOpening 15 = .ok (.iconst 1, 1) := by decide +kernel
theorem dX5_addOpening_16 : decode cX5_addOpening 16 = .ok (.iadd, 1) := by decide +kernel
theorem dX5_addOpening_17 : decode cX5_addOpening 17 = .ok (.putfield 57, 3) := by decide +kernel
theorem dX5_addOpening_20 : decode cX5_addOpening 20 = .ok (.aload_n 0, 1) := by decide +kernel
theorem dX5_addOpening_21 : decode cX5_addOpening 21 = .ok (.getfield 57, 3) := by decide +kernel
theorem dX5_addOpening_24 : decode cX5_addOpening 24 = .ok (.ireturn, 1) := by decide +kernel
theorem dX5_firstFreeTick_0 : decode cX5_firstFreeTick 0 = .ok (.aload_n 0, 1) := by decide +kernel
theorem dX5_firstFreeTick_1 : decode cX5_firstFreeTick 1 = .ok (.getfield 57, 3) := by decide +kernel
theorem dX5_firstFreeTick_4 : decode cX5_firstFreeTick 4 = .ok (.ifCond .ne 7, 3) := by decide +kernel
theorem dX5_firstFreeTick_7 : decode cX5_firstFreeTick 7 = .ok (.iconst 0, 1) := by decide +kernel
theorem dX5_firstFreeTick_8 : decode cX5_firstFreeTick 8 = .ok (.goto 16, 3) := by decide +kernel
theorem dX5_firstFreeTick_11 : decode cX5_firstFreeTick 11 = .ok (.aload_n 0, 1) := by decide +kernel
theorem dX5_firstFreeTick_12 : decode cX5_firstFreeTick 12 = .ok (.getfield 26, 3) := by decide +kernel
theorem dX5_firstFreeTick_15 : decode cX5_firstFreeTick 15 = .ok (.aload_n 0, 1) := by decide +kernel
theorem dX5_firstFreeTick_16 : decode cX5_firstFreeTick 16 = .ok (.getfield 57, 3) := by decide +kernel
theorem dX5_firstFreeTick_19 : decode cX5_firstFreeTick 19 = .ok (.iconst 1, 1) := by decide +kernel
theorem dX5_firstFreeTick_20 : decode cX5_firstFreeTick 20 = .ok (.isub, 1) := by decide +kernel
theorem dX5_firstFreeTick_21 : decode cX5_firstFreeTick 21 = .ok (.iaload, 1) := by decide +kernel
theorem dX5_firstFreeTick_22 : decode cX5_firstFreeTick 22 = .ok (.iconst 1, 1) := by decide +kernel
theorem dX5_firstFreeTick_23 : decode cX5_firstFreeTick 23 = .ok (.iadd, 1) := by decide +kernel
theorem dX5_firstFreeTick_24 : decode cX5_firstFreeTick 24 = .ok (.ireturn, 1) := by decide +kernel
theorem dX5_makePlan_0 : decode cX5_makePlan 0 = .ok (.aload_n 0, 1) := by decide +kernel
theorem dX5_makePlan_1 : decode cX5_makePlan 1 = .ok (.aload_n 1, 1) := by decide +kernel
theorem dX5_makePlan_2 : decode cX5_makePlan 2 = .ok (.invokevirtual 60, 3) := by decide +kernel
theorem dX5_makePlan_5 : decode cX5_makePlan 5 = .ok (.aload_n 0, 1) := by decide +kernel
theorem dX5_makePlan_6 : decode cX5_makePlan 6 = .ok (.invokevirtual 64, 3) := by decide +kernel
theorem dX5_makePlan_9 : decode cX5_makePlan 9 = .ok (.return_, 1) := by decide +kernel
theorem dX5_tell_0 : decode cX5_tell 0 = .ok (.aload_n 0, 1) := by decide +kernel
theorem dX5_tell_1 : decode cX5_tell 1 = .ok (.getfield 45, 3) := by decide +kernel
theorem dX5_tell_4 : decode cX5_tell 4 = .ok (.iload_n 1, 1) := by decide +kernel
theorem dX5_tell_5 : decode cX5_tell 5 = .ok (.iaload, 1) := by decide +kernel
theorem dX5_tell_6 : decode cX5_tell 6 = .ok (.istore_n 3, 1) := by decide +kernel
theorem dX5_tell_7 : decode cX5_tell 7 = .ok (.iload_n 3, 1) := by decide +kernel
theorem dX5_tell_8 : decode cX5_tell 8 = .ok (.iconst 0, 1) := by decide +kernel
theorem dX5_tell_9 : decode cX5_tell 9 = .ok (.bipush 11, 2) := by decide +kernel
theorem dX5_tell_11 : decode cX5_tell 11 = .ok (.invokestatic 67, 3) := by decide +kernel
theorem dX5_tell_14 : decode cX5_tell 14 = .ok (.ifCond .ne 5, 3) := by decide +kernel
theorem dX5_tell_17 : decode cX5_tell 17 = .ok (.iconst (-1), 1) := by decide +kernel
theorem dX5_tell_18 : decode cX5_tell 18 = .ok (.ireturn, 1) := by decide +kernel
theorem dX5_tell_19 : decode cX5_tell 19 = .ok (.iload_n 2, 1) := by decide +kernel
theorem dX5_tell_20 : decode cX5_tell 20 = .ok (.ifCond .ne 7, 3) := by decide +kernel
theorem dX5_tell_23 : decode cX5_tell 23 = .ok (.iload_n 3, 1) := by decide +kernel
theorem dX5_tell_24 : decode cX5_tell 24 = .ok (.iconst 4, 1) := by decide +kernel
theorem dX5_tell_25 : decode cX5_tell 25 = .ok (.irem, 1) := by decide +kernel
theorem dX5_tell_26 : decode cX5_tell 26 = .ok (.ireturn, 1) := by decide +kernel
theorem dX5_tell_27 : decode cX5_tell 27 = .ok (.iload_n 3, 1) := by decide +kernel
theorem dX5_tell_28 : decode cX5_tell 28 = .ok (.iconst 4, 1) := by decide +kernel
theorem dX5_tell_29 : decode cX5_tell 29 = .ok (.idiv, 1) := by decide +kernel
theorem dX5_tell_30 : decode cX5_tell 30 = .ok (.istore 4, 2) := by decide +kernel
theorem dX5_tell_32 : decode cX5_tell 32 = .ok (.aload_n 0, 1) := by decide +kernel
theorem dX5_tell_33 : decode cX5_tell 33 = .ok (.getfield 26, 3) := by decide +kernel
theorem dX5_tell_36 : decode cX5_tell 36 = .ok (.iload_n 2, 1) := by decide +kernel
theorem dX5_tell_37 : decode cX5_tell 37 = .ok (.iconst 1, 1) := by decide +kernel
theorem dX5_tell_38 : decode cX5_tell 38 = .ok (.if_icmp .ne 12, 3) := by decide +kernel
theorem dX5_tell_41 : decode cX5_tell 41 = .ok (.getstatic 71, 3) := by decide +kernel
theorem dX5_tell_44 : decode cX5_tell 44 = .ok (.iload 4, 2) := by decide +kernel
theorem dX5_tell_46 : decode cX5_tell 46 = .ok (.iaload, 1) := by decide +kernel
theorem dX5_tell_47 : decode cX5_tell 47 = .ok (.goto 9, 3) := by decide +kernel
theorem dX5_tell_50 : decode cX5_tell 50 = .ok (.getstatic 74, 3) := by decide +kernel
theorem dX5_tell_53 : decode cX5_tell 53 = .ok (.iload 4, 2) := by decide +kernel
theorem dX5_tell_55 : decode cX5_tell 55 = .ok (.iaload, 1) := by decide +kernel
theorem dX5_tell_56 : decode cX5_tell 56 = .ok (.iaload, 1) := by decide +kernel
theorem dX5_tell_57 : decode cX5_tell 57 = .ok (.ireturn, 1) := by decide +kernel
theorem dX5_findBestLast_0 : decode cX5_findBestLast 0 = .ok (.aload_n 0, 1) := by decide +kernel
theorem dX5_findBestLast_1 : decode cX5_findBestLast 1 = .ok (.aload_n 1, 1) := by decide +kernel
theorem dX5_findBestLast_2 : decode cX5_findBestLast 2 = .ok (.invokevirtual 60, 3) := by decide +kernel
theorem dX5_findBestLast_5 : decode cX5_findBestLast 5 = .ok (.aload_n 0, 1) := by decide +kernel
theorem dX5_findBestLast_6 : decode cX5_findBestLast 6 = .ok (.iconst (-1), 1) := by decide +kernel
theorem dX5_findBestLast_7 : decode cX5_findBestLast 7 = .ok (.putfield 77, 3) := by decide +kernel
theorem dX5_findBestLast_10 : decode cX5_findBestLast 10 = .ok (.aload_n 0, 1) := by decide +kernel
theorem dX5_findBestLast_11 : decode cX5_findBestLast 11 = .ok (.iconst (-1), 1) := by decide +kernel
theorem dX5_findBestLast_12 : decode cX5_findBestLast 12 = .ok (.putfield 80, 3) := by decide +kernel
theorem dX5_findBestLast_15 : decode cX5_findBestLast 15 = .ok (.aload_n 0, 1) := by decide +kernel
theorem dX5_findBestLast_16 : decode cX5_findBestLast 16 = .ok (.invokevirtual 83, 3) := by decide +kernel
theorem dX5_findBestLast_19 : decode cX5_findBestLast 19 = .ok (.istore_n 2, 1) := by decide +kernel
theorem dX5_findBestLast_20 : decode cX5_findBestLast 20 = .ok (.iload_n 2, 1) := by decide +kernel
theorem dX5_findBestLast_21 : decode cX5_findBestLast 21 = .ok (.istore_n 3, 1) := by decide +kernel
theorem dX5_findBestLast_22 : decode cX5_findBestLast 22 = .ok (.iload_n 3, 1) := by decide +kernel
theorem dX5_findBestLast_23 : decode cX5_findBestLast 23 = .ok (.bipush 40, 2) := by decide +kernel
theorem dX5_findBestLast_25 : decode cX5_findBestLast 25 = .ok (.if_icmp .gt 64, 3) := by decide +kernel
theorem dX5_findBestLast_28 : decode cX5_findBestLast 28 = .ok (.aload_n 0, 1) := by decide +kernel
theorem dX5_findBestLast_29 : decode cX5_findBestLast 29 = .ok (.getfield 80, 3) := by decide +kernel
theorem dX5_findBestLast_32 : decode cX5_findBestLast 32 = .ok (.aload_n 0, 1) := by decide +kernel
theorem dX5_findBestLast_33 : decode cX5_findBestLast 33 = .ok (.getfield 53, 3) := by decide +kernel
theorem dX5_findBestLast_36 : decode cX5_findBestLast 36 = .ok (.if_icmp .ge 53, 3) := by decide +kernel
theorem dX5_findBestLast_39 : decode cX5_findBestLast 39 = .ok (.aload_n 0, 1) := by decide +kernel
theorem dX5_findBestLast_40 : decode cX5_findBestLast 40 = .ok (.iload_n 3, 1) := by decide +kernel
theorem dX5_findBestLast_41 : decode cX5_findBestLast 41 = .ok (.invokevirtual 87, 3) := by decide +kernel
theorem dX5_findBestLast_44 : decode cX5_findBestLast 44 = .ok (.pop, 1) := by decide +kernel
theorem dX5_findBestLast_45 : decode cX5_findBestLast 45 = .ok (.aload_n 0, 1) := by decide +kernel
theorem dX5_findBestLast_46 : decode cX5_findBestLast 46 = .ok (.invokevirtual 64, 3) := by decide +kernel
theorem dX5_findBestLast_49 : decode cX5_findBestLast 49 = .ok (.aload_n 0, 1) := by decide +kernel
theorem dX5_findBestLast_50 : decode cX5_findBestLast 50 = .ok (.dup, 1) := by decide +kernel
theorem dX5_findBestLast_51 : decode cX5_findBestLast 51 = .ok (.getfield 57, 3) := by decide +kernel
theorem dX5_findBestLast_54 : decode cX5_findBestLast 54 = .ok (.iconst 1, 1) := by decide +kernel
theorem dX5_findBestLast_55 : decode cX5_findBestLast 55 = .ok (.isub, 1) := by decide +kernel
theorem dX5_findBestLast_56 : decode cX5_findBestLast 56 = .ok (.putfield 57, 3) := by decide +kernel
theorem dX5_findBestLast_59 : decode cX5_findBestLast 59 = .ok (.aload_n 0, 1) := by decide +kernel
theorem dX5_findBestLast_60 : decode cX5_findBestLast 60 = .ok (.getfield 91, 3) := by decide +kernel
theorem dX5_findBestLast_63 : decode cX5_findBestLast 63 = .ok (.aload_n 0, 1) := by decide +kernel
theorem dX5_findBestLast_64 : decode cX5_findBestLast 64 = .ok (.getfield 80, 3) := by decide +kernel
theorem dX5_findBestLast_67 : decode cX5_findBestLast 67 = .ok (.if_icmp .le 16, 3) := by decide +kernel
theorem dX5_findBestLast_70 : decode cX5_findBestLast 70 = .ok (.aload_n 0, 1) := by decide +kernel
theorem dX5_findBestLast_71 : decode cX5_findBestLast 71 = .ok (.iload_n 3, 1) := by decide +kernel
theorem dX5_findBestLast_72 : decode cX5_findBestLast 72 = .ok (.putfield 77, 3) := by decide +kernel
theorem dX5_findBestLast_75 : decode cX5_findBestLast 75 = .ok (.aload_n 0, 1) := by decide +kernel
theorem dX5_findBestLast_76 : decode cX5_findBestLast 76 = .ok (.aload_n 0, 1) := by decide +kernel
theorem dX5_findBestLast_77 : decode cX5_findBestLast 77 = .ok (.getfield 91, 3) := by decide +kernel
theorem dX5_findBestLast_80 : decode cX5_findBestLast 80 = .ok (.putfield 80, 3) := by decide +kernel
theorem dX5_findBestLast_83 : decode cX5_findBestLast 83 = .ok (.iinc 3 1, 3) := by decide +kernel
theorem dX5_findBestLast_86 : decode cX5_findBestLast 86 = .ok (.goto (-64), 3) := by decide +kernel
theorem dX5_findBestLast_89 : decode cX5_findBestLast 89 = .ok (.return_, 1) := by decide +kernel
theorem dX5_foresee_0 : decode cX5_foresee 0 = .ok (.aload_n 0, 1) := by decide +kernel
theorem dX5_foresee_1 : decode cX5_foresee 1 = .ok (.getfield 12, 3) := by decide +kernel
theorem dX5_foresee_4 : decode cX5_foresee 4 = .ok (.aload_n 1, 1) := by decide +kernel
theorem dX5_foresee_5 : decode cX5_foresee 5 = .ok (.invokevirtual 94, 3) := by decide +kernel
theorem dX5_foresee_8 : decode cX5_foresee 8 = .ok (.iconst 0, 1) := by decide +kernel
theorem dX5_foresee_9 : decode cX5_foresee 9 = .ok (.istore_n 2, 1) := by decide +kernel
theorem dX5_foresee_10 : decode cX5_foresee 10 = .ok (.iload_n 2, 1) := by decide +kernel
theorem dX5_foresee_11 : decode cX5_foresee 11 = .ok (.bipush 40, 2) := by decide +kernel
theorem dX5_foresee_13 : decode cX5_foresee 13 = .ok (.if_icmp .ge 53, 3) := by decide +kernel
theorem dX5_foresee_16 : decode cX5_foresee 16 = .ok (.aload_n 0, 1) := by decide +kernel
theorem dX5_foresee_17 : decode cX5_foresee 17 = .ok (.getfield 12, 3) := by decide +kernel
theorem dX5_foresee_20 : decode cX5_foresee 20 = .ok (.aload_n 0, 1) := by decide +kernel
theorem dX5_foresee_21 : decode cX5_foresee 21 = .ok (.iload_n 2, 1) := by decide +kernel
theorem dX5_foresee_22 : decode cX5_foresee 22 = .ok (.invokevirtual 97, 3) := by decide +kernel
theorem dX5_foresee_25 : decode cX5_foresee 25 = .ok (.invokevirtual 101, 3) := by decide +kernel
theorem dX5_foresee_28 : decode cX5_foresee 28 = .ok (.iconst 0, 1) := by decide +kernel
theorem dX5_foresee_29 : decode cX5_foresee 29 = .ok (.istore_n 3, 1) := by decide +kernel
theorem dX5_foresee_30 : decode cX5_foresee 30 = .ok (.iload_n 3, 1) := by decide +kernel
theorem dX5_foresee_31 : decode cX5_foresee 31 = .ok (.iconst 4, 1) := by decide +kernel
theorem dX5_foresee_32 : decode cX5_foresee 32 = .ok (.if_icmp .ge 28, 3) := by decide +kernel
theorem dX5_foresee_35 : decode cX5_foresee 35 = .ok (.aload_n 0, 1) := by decide +kernel
theorem dX5_foresee_36 : decode cX5_foresee 36 = .ok (.getfield 18, 3) := by decide +kernel
theorem dX5_foresee_39 : decode cX5_foresee 39 = .ok (.iload_n 2, 1) := by decide +kernel
theorem dX5_foresee_40 : decode cX5_foresee 40 = .ok (.iconst 4, 1) := by decide +kernel
theorem dX5_foresee_41 : decode cX5_foresee 41 = .ok (.imul, 1) := by decide +kernel
theorem dX5_foresee_42 : decode cX5_foresee 42 = .ok (.iload_n 3, 1) := by decide +kernel
theorem dX5_foresee_43 : decode cX5_foresee 43 = .ok (.iadd, 1) := by decide +kernel
theorem dX5_foresee_44 : decode cX5_foresee 44 = .ok (.aload_n 0, 1) := by decide +kernel
theorem dX5_foresee_45 : decode cX5_foresee 45 = .ok (.getfield 12, 3) := by decide +kernel
theorem dX5_foresee_48 : decode cX5_foresee 48 = .ok (.iload_n 3, 1) := by decide +kernel
theorem dX5_foresee_49 : decode cX5_foresee 49 = .ok (.iconst 0, 1) := by decide +kernel
theorem dX5_foresee_50 : decode cX5_foresee 50 = .ok (.invokevirtual 105, 3) := by decide +kernel
theorem dX5_foresee_53 : decode cX5_foresee 53 = .ok (.lastore, 1) := by decide +kernel
theorem dX5_foresee_54 : decode cX5_foresee 54 = .ok (.iinc 3 1, 3) := by decide +kernel
theorem dX5_foresee_57 : decode cX5_foresee 57 = .ok (.goto (-27), 3) := by decide +kernel
theorem dX5_foresee_60 : decode cX5_foresee 60 = .ok (.iinc 2 1, 3) := by decide +kernel
theorem dX5_foresee_63 : decode cX5_foresee 63 = .ok (.goto (-53), 3) := by decide +kernel
theorem dX5_foresee_66 : decode cX5_foresee 66 = .ok (.return_, 1) := by decide +kernel
theorem dX5_isOpening_0 : decode cX5_isOpening 0 = .ok (.iconst 0, 1) := by decide +kernel
theorem dX5_isOpening_1 : decode cX5_isOpening 1 = .ok (.istore_n 2, 1) := by decide +kernel
theorem dX5_isOpening_2 : decode cX5_isOpening 2 = .ok (.iload_n 2, 1) := by decide +kernel
theorem dX5_isOpening_3 : decode cX5_isOpening 3 = .ok (.aload_n 0, 1) := by decide +kernel
theorem dX5_isOpening_4 : decode cX5_isOpening 4 = .ok (.getfield 57, 3) := by decide +kernel
theorem dX5_isOpening_7 : decode cX5_isOpening 7 = .ok (.if_icmp .ge 21, 3) := by decide +kernel
theorem dX5_isOpening_10 : decode cX5_isOpening 10 = .ok (.aload_n 0, 1) := by decide +kernel
theorem dX5_isOpening_11 : decode cX5_isOpening 11 = .ok (.getfield 26, 3) := by decide +kernel
theorem dX5_isOpening_14 : decode cX5_isOpening 14 = .ok (.iload_n 2, 1) := by decide +kernel
theorem dX5_isOpening_15 : decode cX5_isOpening 15 = .ok (.iaload, 1) := by decide +kernel
theorem dX5_isOpening_16 : decode cX5_isOpening 16 = .ok (.iload_n 1, 1) := by decide +kernel
theorem dX5_isOpening_17 : decode cX5_isOpening 17 = .ok (.if_icmp .ne 5, 3) := by decide +kernel
theorem dX5_isOpening_20 : decode cX5_isOpening 20 = .ok (.iconst 1, 1) := by decide +kernel
theorem dX5_isOpening_21 : decode cX5_isOpening 21 = .ok (.ireturn, 1) := by decide +kernel
theorem dX5_isOpening_22 : decode cX5_isOpening 22 = .ok (.iinc 2 1, 3) := by decide +kernel
theorem dX5_isOpening_25 : decode cX5_isOpening 25 = .ok (.goto (-23), 3) := by decide +kernel
theorem dX5_isOpening_28 : decode cX5_isOpening 28 = .ok (.iconst 0, 1) := by decide +kernel
theorem dX5_isOpening_29 : decode cX5_isOpening 29 = .ok (.ireturn, 1) := by decide +kernel
theorem dX5_choose_0 : decode cX5_choose 0 = .ok (.aload_n 0, 1) := by decide +kernel
theorem dX5_choose_1 : decode cX5_choose 1 = .ok (.invokevirtual 109, 3) := by decide +kernel
theorem dX5_choose_4 : decode cX5_choose 4 = .ok (.aload_n 0, 1) := by decide +kernel
theorem dX5_choose_5 : decode cX5_choose 5 = .ok (.iconst (-1), 1) := by decide +kernel
theorem dX5_choose_6 : decode cX5_choose 6 = .ok (.putfield 91, 3) := by decide +kernel
theorem dX5_choose_9 : decode cX5_choose 9 = .ok (.aload_n 0, 1) := by decide +kernel
theorem dX5_choose_10 : decode cX5_choose 10 = .ok (.iconst 0, 1) := by decide +kernel
theorem dX5_choose_11 : decode cX5_choose 11 = .ok (.iconst 0, 1) := by decide +kernel
theorem dX5_choose_12 : decode cX5_choose 12 = .ok (.invokestatic 112, 3) := by decide +kernel
theorem dX5_choose_15 : decode cX5_choose 15 = .ok (.return_, 1) := by decide +kernel
theorem dX5_judgeChoices_0 : decode cX5_judgeChoices 0 = .ok (.aload_n 0, 1) := by decide +kernel
theorem dX5_judgeChoices_1 : decode cX5_judgeChoices 1 = .ok (.getfield 33, 3) := by decide +kernel
theorem dX5_judgeChoices_4 : decode cX5_judgeChoices 4 = .ok (.aload_n 0, 1) := by decide +kernel
theorem dX5_judgeChoices_5 : decode cX5_judgeChoices 5 = .ok (.getfield 53, 3) := by decide +kernel
theorem dX5_judgeChoices_8 : decode cX5_judgeChoices 8 = .ok (.iconst 0, 1) := by decide +kernel
theorem dX5_judgeChoices_9 : decode cX5_judgeChoices 9 = .ok (.iastore, 1) := by decide +kernel
theorem dX5_judgeChoices_10 : decode cX5_judgeChoices 10 = .ok (.aload_n 0, 1) := by decide +kernel
theorem dX5_judgeChoices_11 : decode cX5_judgeChoices 11 = .ok (.getfield 53, 3) := by decide +kernel
theorem dX5_judgeChoices_14 : decode cX5_judgeChoices 14 = .ok (.iconst 1, 1) := by decide +kernel
theorem dX5_judgeChoices_15 : decode cX5_judgeChoices 15 = .ok (.isub, 1) := by decide +kernel
theorem dX5_judgeChoices_16 : decode cX5_judgeChoices 16 = .ok (.istore_n 1, 1) := by decide +kernel
theorem dX5_judgeChoices_17 : decode cX5_judgeChoices 17 = .ok (.iload_n 1, 1) := by decide +kernel
theorem dX5_judgeChoices_18 : decode cX5_judgeChoices 18 = .ok (.ifCond .lt 90, 3) := by decide +kernel
theorem dX5_judgeChoices_21 : decode cX5_judgeChoices 21 = .ok (.iconst 0, 1) := by decide +kernel
theorem dX5_judgeChoices_22 : decode cX5_judgeChoices 22 = .ok (.istore_n 2, 1) := by decide +kernel
theorem dX5_judgeChoices_23 : decode cX5_judgeChoices 23 = .ok (.iconst 0, 1) := by decide +kernel
theorem dX5_judgeChoices_24 : decode cX5_judgeChoices 24 = .ok (.istore_n 3, 1) := by decide +kernel
theorem dX5_judgeChoices_25 : decode cX5_judgeChoices 25 = .ok (.iload_n 3, 1) := by decide +kernel
theorem dX5_judgeChoices_26 : decode cX5_judgeChoices 26 = .ok (.bipush 12, 2) := by decide +kernel
theorem dX5_judgeChoices_28 : decode cX5_judgeChoices 28 = .ok (.if_icmp .ge 50, 3) := by decide +kernel
theorem dX5_judgeChoices_31 : decode cX5_judgeChoices 31 = .ok (.aload_n 0, 1) := by decide +kernel
theorem dX5_judgeChoices_32 : decode cX5_judgeChoices 32 = .ok (.aload_n 0, 1) := by decide +kernel
theorem dX5_judgeChoices_33 : decode cX5_judgeChoices 33 = .ok (.getfield 22, 3) := by decide +kernel
theorem dX5_judgeChoices_36 : decode cX5_judgeChoices 36 = .ok (.iload_n 1, 1) := by decide +kernel
theorem dX5_judgeChoices_37 : decode cX5_judgeChoices 37 = .ok (.iaload, 1) := by decide +kernel
theorem dX5_judgeChoices_38 : decode cX5_judgeChoices 38 = .ok (.iload_n 3, 1) := by decide +kernel
theorem dX5_judgeChoices_39 : decode cX5_judgeChoices 39 = .ok (.invokevirtual 116, 3) := by decide +kernel
theorem dX5_judgeChoices_42 : decode cX5_judgeChoices 42 = .ok (.istore 4, 2) := by decide +kernel
theorem dX5_judgeChoices_44 : decode cX5_judgeChoices 44 = .ok (.aload_n 0, 1) := by decide +kernel
theorem dX5_judgeChoices_45 : decode cX5_judgeChoices 45 = .ok (.getfield 29, 3) := by decide +kernel
theorem dX5_judgeChoices_48 : decode cX5_judgeChoices 48 = .ok (.iload_n 1, 1) := by decide +kernel
theorem dX5_judgeChoices_49 : decode cX5_judgeChoices 49 = .ok (.bipush 12, 2) := by decide +kernel
theorem dX5_judgeChoices_51 : decode cX5_judgeChoices 51 = .ok (.imul, 1) := by decide +kernel
theorem dX5_judgeChoices_52 : decode cX5_judgeChoices 52 = .ok (.iload_n 3, 1) := by decide +kernel
theorem dX5_judgeChoices_53 : decode cX5_judgeChoices 53 = .ok (.iadd, 1) := by decide +kernel
theorem dX5_judgeChoices_54 : decode cX5_judgeChoices 54 = .ok (.iload 4, 2) := by decide +kernel
theorem dX5_judgeChoices_56 : decode cX5_judgeChoices 56 = .ok (.bastore, 1) := by decide +kernel
theorem dX5_judgeChoices_57 : decode cX5_judgeChoices 57 = .ok (.iload_n 2, 1) := by decide +kernel
theorem dX5_judgeChoices_58 : decode cX5_judgeChoices 58 = .ok (.ifCond .ne 8, 3) := by decide +kernel
theorem dX5_judgeChoices_61 : decode cX5_judgeChoices 61 = .ok (.iload 4, 2) := by decide +kernel
theorem dX5_judgeChoices_63 : decode cX5_judgeChoices 63 = .ok (.ifCond .eq 7, 3) := by decide +kernel
theorem dX5_judgeChoices_66 : decode cX5_judgeChoices 66 = .ok (.iconst 1, 1) := by decide +kernel
theorem dX5_judgeChoices_67 : decode cX5_judgeChoices 67 = .ok (.goto 4, 3) := by decide +kernel
theorem dX5_judgeChoices_70 : decode cX5_judgeChoices 70 = .ok (.iconst 0, 1) := by decide +kernel
theorem dX5_judgeChoices_71 : decode cX5_judgeChoices 71 = .ok (.istore_n 2, 1) := by decide +kernel
theorem dX5_judgeChoices_72 : decode cX5_judgeChoices 72 = .ok (.iinc 3 1, 3) := by decide +kernel
theorem dX5_judgeChoices_75 : decode cX5_judgeChoices 75 = .ok (.goto (-50), 3) := by decide +kernel
theorem dX5_judgeChoices_78 : decode cX5_judgeChoices 78 = .ok (.aload_n 0, 1) := by decide +kernel
theorem dX5_judgeChoices_79 : decode cX5_judgeChoices 79 = .ok (.getfield 33, 3) := by decide +kernel
theorem dX5_judgeChoices_82 : decode cX5_judgeChoices 82 = .ok (.iload_n 1, 1) := by decide +kernel
theorem dX5_judgeChoices_83 : decode cX5_judgeChoices 83 = .ok (.aload_n 0, 1) := by decide +kernel
theorem dX5_judgeChoices_84 : decode cX5_judgeChoices 84 = .ok (.getfield 33, 3) := by decide +kernel
theorem dX5_judgeChoices_87 : decode cX5_judgeChoices 87 = .ok (.iload_n 1, 1) := by decide +kernel
theorem dX5_judgeChoices_88 : decode cX5_judgeChoices 88 = .ok (.iconst 1, 1) := by decide +kernel
theorem dX5_judgeChoices_89 : decode cX5_judgeChoices 89 = .ok (.iadd, 1) := by decide +kernel
theorem dX5_judgeChoices_90 : decode cX5_judgeChoices 90 = .ok (.iaload, 1) := by decide +kernel
theorem dX5_judgeChoices_91 : decode cX5_judgeChoices 91 = .ok (.iload_n 2, 1) := by decide +kernel
theorem dX5_judgeChoices_92 : decode cX5_judgeChoices 92 = .ok (.ifCond .eq 7, 3) := by decide +kernel
theorem dX5_judgeChoices_95 : decode cX5_judgeChoices 95 = .ok (.iconst 1, 1) := by decide +kernel
theorem dX5_judgeChoices_96 : decode cX5_judgeChoices 96 = .ok (.goto 4, 3) := by decide +kernel
theorem dX5_judgeChoices_99 : decode cX5_judgeChoices 99 = .ok (.iconst 0, 1) := by decide +kernel
theorem dX5_judgeChoices_100 : decode cX5_judgeChoices 100 = .ok (.iadd, 1) := by decide +kernel
theorem dX5_judgeChoices_101 : decode cX5_judgeChoices 101 = .ok (.iastore, 1) := by decide +kernel
theorem dX5_judgeChoices_102 : decode cX5_judgeChoices 102 = .ok (.iinc 1 (-1), 3) := by decide +kernel
theorem dX5_judgeChoices_105 : decode cX5_judgeChoices 105 = .ok (.goto (-88), 3) := by decide +kernel
theorem dX5_judgeChoices_108 : decode cX5_judgeChoices 108 = .ok (.return_, 1) := by decide +kernel
theorem dX5_bakesWell_0 : decode cX5_bakesWell 0 = .ok (.iload_n 2, 1) := by decide +kernel
theorem dX5_bakesWell_1 : decode cX5_bakesWell 1 = .ok (.iconst 4, 1) := by decide +kernel
theorem dX5_bakesWell_2 : decode cX5_bakesWell 2 = .ok (.idiv, 1) := by decide +kernel
theorem dX5_bakesWell_3 : decode cX5_bakesWell 3 = .ok (.istore_n 3, 1) := by decide +kernel
theorem dX5_bakesWell_4 : decode cX5_bakesWell 4 = .ok (.iload_n 2, 1) := by decide +kernel
theorem dX5_bakesWell_5 : decode cX5_bakesWell 5 = .ok (.iconst 4, 1) := by decide +kernel
theorem dX5_bakesWell_6 : decode cX5_bakesWell 6 = .ok (.irem, 1) := by decide +kernel
theorem dX5_bakesWell_7 : decode cX5_bakesWell 7 = .ok (.istore 4, 2) := by decide +kernel
theorem dX5_bakesWell_9 : decode cX5_bakesWell 9 = .ok (.getstatic 74, 3) := by decide +kernel
theorem dX5_bakesWell_12 : decode cX5_bakesWell 12 = .ok (.iload_n 3, 1) := by decide +kernel
theorem dX5_bakesWell_13 : decode cX5_bakesWell 13 = .ok (.iaload, 1) := by decide +kernel
theorem dX5_bakesWell_14 : decode cX5_bakesWell 14 = .ok (.aload_n 0, 1) := by decide +kernel
theorem dX5_bakesWell_15 : decode cX5_bakesWell 15 = .ok (.getfield 57, 3) := by decide +kernel
theorem dX5_bakesWell_18 : decode cX5_bakesWell 18 = .ok (.if_icmp .ge 21, 3) := by decide +kernel
theorem dX5_bakesWell_21 : decode cX5_bakesWell 21 = .ok (.aload_n 0, 1) := by decide +kernel
theorem dX5_bakesWell_22 : decode cX5_bakesWell 22 = .ok (.getfield 48, 3) := by decide +kernel
theorem dX5_bakesWell_25 : decode cX5_bakesWell 25 = .ok (.getfield 120, 3) := by decide +kernel
theorem dX5_bakesWell_28 : decode cX5_bakesWell 28 = .ok (.iload_n 1, 1) := by decide +kernel
theorem dX5_bakesWell_29 : decode cX5_bakesWell 29 = .ok (.iaload, 1) := by decide +kernel
theorem dX5_bakesWell_30 : decode cX5_bakesWell 30 = .ok (.getstatic 125, 3) := by decide +kernel
theorem dX5_bakesWell_33 : decode cX5_bakesWell 33 = .ok (.iload 4, 2) := by decide +kernel
theorem dX5_bakesWell_35 : decode cX5_bakesWell 35 = .ok (.iaload, 1) := by decide +kernel
theorem dX5_bakesWell_36 : decode cX5_bakesWell 36 = .ok (.if_icmp .le 5, 3) := by decide +kernel
theorem dX5_bakesWell_39 : decode cX5_bakesWell 39 = .ok (.iconst 0, 1) := by decide +kernel
theorem dX5_bakesWell_40 : decode cX5_bakesWell 40 = .ok (.ireturn, 1) := by decide +kernel
theorem dX5_bakesWell_41 : decode cX5_bakesWell 41 = .ok (.aload_n 0, 1) := by decide +kernel
theorem dX5_bakesWell_42 : decode cX5_bakesWell 42 = .ok (.getfield 26, 3) := by decide +kernel
theorem dX5_bakesWell_45 : decode cX5_bakesWell 45 = .ok (.getstatic 71, 3) := by decide +kernel
theorem dX5_bakesWell_48 : decode cX5_bakesWell 48 = .ok (.iload_n 3, 1) := by decide +kernel
theorem dX5_bakesWell_49 : decode cX5_bakesWell 49 = .ok (.iaload, 1) := by decide +kernel
theorem dX5_bakesWell_50 : decode cX5_bakesWell 50 = .ok (.iaload, 1) := by decide +kernel
theorem dX5_bakesWell_51 : decode cX5_bakesWell 51 = .ok (.istore 5, 2) := by decide +kernel
theorem dX5_bakesWell_53 : decode cX5_bakesWell 53 = .ok (.aload_n 0, 1) := by decide +kernel
theorem dX5_bakesWell_54 : decode cX5_bakesWell 54 = .ok (.getfield 26, 3) := by decide +kernel
theorem dX5_bakesWell_57 : decode cX5_bakesWell 57 = .ok (.getstatic 74, 3) := by decide +kernel
theorem dX5_bakesWell_60 : decode cX5_bakesWell 60 = .ok (.iload_n 3, 1) := by decide +kernel
theorem dX5_bakesWell_61 : decode cX5_bakesWell 61 = .ok (.iaload, 1) := by decide +kernel
theorem dX5_bakesWell_62 : decode cX5_bakesWell 62 = .ok (.iaload, 1) := by decide +kernel
theorem dX5_bakesWell_63 : decode cX5_bakesWell 63 = .ok (.istore 6, 2) := by decide +kernel
theorem dX5_bakesWell_65 : decode cX5_bakesWell 65 = .ok (.iconst 0, 1) := by decide +kernel
theorem dX5_bakesWell_66 : decode cX5_bakesWell 66 = .ok (.istore 7, 2) := by decide +kernel
theorem dX5_bakesWell_68 : decode cX5_bakesWell 68 = .ok (.iconst 0, 1) := by decide +kernel
theorem dX5_bakesWell_69 : decode cX5_bakesWell 69 = .ok (.istore 8, 2) := by decide +kernel
theorem dX5_bakesWell_71 : decode cX5_bakesWell 71 = .ok (.iload 5, 2) := by decide +kernel
theorem dX5_bakesWell_73 : decode cX5_bakesWell 73 = .ok (.istore 9, 2) := by decide +kernel
theorem dX5_bakesWell_75 : decode cX5_bakesWell 75 = .ok (.iload 9, 2) := by decide +kernel
theorem dX5_bakesWell_77 : decode cX5_bakesWell 77 = .ok (.iload 6, 2) := by decide +kernel
theorem dX5_bakesWell_79 : decode cX5_bakesWell 79 = .ok (.if_icmp .ge 69, 3) := by decide +kernel
theorem dX5_bakesWell_82 : decode cX5_bakesWell 82 = .ok (.aload_n 0, 1) := by decide +kernel
theorem dX5_bakesWell_83 : decode cX5_bakesWell 83 = .ok (.getfield 48, 3) := by decide +kernel
theorem dX5_bakesWell_86 : decode cX5_bakesWell 86 = .ok (.iload_n 1, 1) := by decide +kernel
theorem dX5_bakesWell_87 : decode cX5_bakesWell 87 = .ok (.iload 9, 2) := by decide +kernel
theorem dX5_bakesWell_89 : decode cX5_bakesWell 89 = .ok (.iload 5, 2) := by decide +kernel
theorem dX5_bakesWell_91 : decode cX5_bakesWell 91 = .ok (.isub, 1) := by decide +kernel
theorem dX5_bakesWell_92 : decode cX5_bakesWell 92 = .ok (.iconst 1, 1) := by decide +kernel
theorem dX5_bakesWell_93 : decode cX5_bakesWell 93 = .ok (.iadd, 1) := by decide +kernel
theorem dX5_bakesWell_94 : decode cX5_bakesWell 94 = .ok (.aload_n 0, 1) := by decide +kernel
theorem dX5_bakesWell_95 : decode cX5_bakesWell 95 = .ok (.getfield 18, 3) := by decide +kernel
theorem dX5_bakesWell_98 : decode cX5_bakesWell 98 = .ok (.iload 9, 2) := by decide +kernel
theorem dX5_bakesWell_100 : decode cX5_bakesWell 100 = .ok (.iconst 4, 1) := by decide +kernel
theorem dX5_bakesWell_101 : decode cX5_bakesWell 101 = .ok (.imul, 1) := by decide +kernel
theorem dX5_bakesWell_102 : decode cX5_bakesWell 102 = .ok (.iload 4, 2) := by decide +kernel
theorem dX5_bakesWell_104 : decode cX5_bakesWell 104 = .ok (.iadd, 1) := by decide +kernel
theorem dX5_bakesWell_105 : decode cX5_bakesWell 105 = .ok (.laload, 1) := by decide +kernel
theorem dX5_bakesWell_106 : decode cX5_bakesWell 106 = .ok (.invokevirtual 128, 3) := by decide +kernel
theorem dX5_bakesWell_109 : decode cX5_bakesWell 109 = .ok (.istore 10, 2) := by decide +kernel
theorem dX5_bakesWell_111 : decode cX5_bakesWell 111 = .ok (.iload 7, 2) := by decide +kernel
theorem dX5_bakesWell_113 : decode cX5_bakesWell 113 = .ok (.iload 10, 2) := by decide +kernel
theorem dX5_bakesWell_115 : decode cX5_bakesWell 115 = .ok (.ifCond .ne 7, 3) := by decide +kernel
theorem dX5_bakesWell_118 : decode cX5_bakesWell 118 = .ok (.iconst 1, 1) := by decide +kernel
theorem dX5_bakesWell_119 : decode cX5_bakesWell 119 = .ok (.goto 4, 3) := by decide +kernel
theorem dX5_bakesWell_122 : decode cX5_bakesWell 122 = .ok (.iconst 0, 1) := by decide +kernel
theorem dX5_bakesWell_123 : decode cX5_bakesWell 123 = .ok (.iadd, 1) := by decide +kernel
theorem dX5_bakesWell_124 : decode cX5_bakesWell 124 = .ok (.istore 7, 2) := by decide +kernel
theorem dX5_bakesWell_126 : decode cX5_bakesWell 126 = .ok (.iload 8, 2) := by decide +kernel
theorem dX5_bakesWell_128 : decode cX5_bakesWell 128 = .ok (.iload 10, 2) := by decide +kernel
theorem dX5_bakesWell_130 : decode cX5_bakesWell 130 = .ok (.iconst 1, 1) := by decide +kernel
theorem dX5_bakesWell_131 : decode cX5_bakesWell 131 = .ok (.if_icmp .ne 7, 3) := by decide +kernel
theorem dX5_bakesWell_134 : decode cX5_bakesWell 134 = .ok (.iconst 1, 1) := by decide +kernel
theorem dX5_bakesWell_135 : decode cX5_bakesWell 135 = .ok (.goto 4, 3) := by decide +kernel
theorem dX5_bakesWell_138 : decode cX5_bakesWell 138 = .ok (.iconst 0, 1) := by decide +kernel
theorem dX5_bakesWell_139 : decode cX5_bakesWell 139 = .ok (.iadd, 1) := by decide +kernel
theorem dX5_bakesWell_140 : decode cX5_bakesWell 140 = .ok (.istore 8, 2) := by decide +kernel
theorem dX5_bakesWell_142 : decode cX5_bakesWell 142 = .ok (.iinc 9 1, 3) := by decide +kernel
theorem dX5_bakesWell_145 : decode cX5_bakesWell 145 = .ok (.goto (-70), 3) := by decide +kernel
theorem dX5_bakesWell_148 : decode cX5_bakesWell 148 = .ok (.aload_n 0, 1) := by decide +kernel
theorem dX5_bakesWell_149 : decode cX5_bakesWell 149 = .ok (.getfield 48, 3) := by decide +kernel
theorem dX5_bakesWell_152 : decode cX5_bakesWell 152 = .ok (.iload_n 1, 1) := by decide +kernel
theorem dX5_bakesWell_153 : decode cX5_bakesWell 153 = .ok (.iload 6, 2) := by decide +kernel
theorem dX5_bakesWell_155 : decode cX5_bakesWell 155 = .ok (.iload 5, 2) := by decide +kernel
theorem dX5_bakesWell_157 : decode cX5_bakesWell 157 = .ok (.isub, 1) := by decide +kernel
theorem dX5_bakesWell_158 : decode cX5_bakesWell 158 = .ok (.iload 7, 2) := by decide +kernel
theorem dX5_bakesWell_160 : decode cX5_bakesWell 160 = .ok (.iload 8, 2) := by decide +kernel
theorem dX5_bakesWell_162 : decode cX5_bakesWell 162 = .ok (.invokevirtual 132, 3) := by decide +kernel
theorem dX5_bakesWell_165 : decode cX5_bakesWell 165 = .ok (.iconst 1, 1) := by decide +kernel
theorem dX5_bakesWell_166 : decode cX5_bakesWell 166 = .ok (.if_icmp .ne 7, 3) := by decide +kernel
theorem dX5_bakesWell_169 : decode cX5_bakesWell 169 = .ok (.iconst 1, 1) := by decide +kernel
theorem dX5_bakesWell_170 : decode cX5_bakesWell 170 = .ok (.goto 4, 3) := by decide +kernel
theorem dX5_bakesWell_173 : decode cX5_bakesWell 173 = .ok (.iconst 0, 1) := by decide +kernel
theorem dX5_bakesWell_174 : decode cX5_bakesWell 174 = .ok (.ireturn, 1) := by decide +kernel
theorem dX5_search_0 : decode cX5_search 0 = .ok (.iload_n 1, 1) := by decide +kernel
theorem dX5_search_1 : decode cX5_search 1 = .ok (.aload_n 0, 1) := by decide +kernel
theorem dX5_search_2 : decode cX5_search 2 = .ok (.getfield 53, 3) := by decide +kernel
theorem dX5_search_5 : decode cX5_search 5 = .ok (.if_icmp .lt 9, 3) := by decide +kernel
theorem dX5_search_8 : decode cX5_search 8 = .ok (.aload_n 0, 1) := by decide +kernel
theorem dX5_search_9 : decode cX5_search 9 = .ok (.iload_n 2, 1) := by decide +kernel
theorem dX5_search_10 : decode cX5_search 10 = .ok (.invokevirtual 136, 3) := by decide +kernel
theorem dX5_search_13 : decode cX5_search 13 = .ok (.return_, 1) := by decide +kernel
theorem dX5_search_14 : decode cX5_search 14 = .ok (.iload_n 2, 1) := by decide +kernel
theorem dX5_search_15 : decode cX5_search 15 = .ok (.aload_n 0, 1) := by decide +kernel
theorem dX5_search_16 : decode cX5_search 16 = .ok (.getfield 33, 3) := by decide +kernel
theorem dX5_search_19 : decode cX5_search 19 = .ok (.iload_n 1, 1) := by decide +kernel
theorem dX5_search_20 : decode cX5_search 20 = .ok (.iaload, 1) := by decide +kernel
theorem dX5_search_21 : decode cX5_search 21 = .ok (.iadd, 1) := by decide +kernel
theorem dX5_search_22 : decode cX5_search 22 = .ok (.aload_n 0, 1) := by decide +kernel
theorem dX5_search_23 : decode cX5_search 23 = .ok (.getfield 91, 3) := by decide +kernel
theorem dX5_search_26 : decode cX5_search 26 = .ok (.if_icmp .gt 4, 3) := by decide +kernel
theorem dX5_search_29 : decode cX5_search 29 = .ok (.return_, 1) := by decide +kernel
theorem dX5_search_30 : decode cX5_search 30 = .ok (.iconst 0, 1) := by decide +kernel
theorem dX5_search_31 : decode cX5_search 31 = .ok (.istore_n 3, 1) := by decide +kernel
theorem dX5_search_32 : decode cX5_search 32 = .ok (.iload_n 3, 1) := by decide +kernel
theorem dX5_search_33 : decode cX5_search 33 = .ok (.bipush 12, 2) := by decide +kernel
theorem dX5_search_35 : decode cX5_search 35 = .ok (.if_icmp .ge 58, 3) := by decide +kernel
theorem dX5_search_38 : decode cX5_search 38 = .ok (.aload_n 0, 1) := by decide +kernel
theorem dX5_search_39 : decode cX5_search 39 = .ok (.getfield 29, 3) := by decide +kernel
theorem dX5_search_42 : decode cX5_search 42 = .ok (.iload_n 1, 1) := by decide +kernel
theorem dX5_search_43 : decode cX5_search 43 = .ok (.bipush 12, 2) := by decide +kernel
theorem dX5_search_45 : decode cX5_search 45 = .ok (.imul, 1) := by decide +kernel
theorem dX5_search_46 : decode cX5_search 46 = .ok (.iload_n 3, 1) := by decide +kernel
theorem dX5_search_47 : decode cX5_search 47 = .ok (.iadd, 1) := by decide +kernel
theorem dX5_search_48 : decode cX5_search 48 = .ok (.baload, 1) := by decide +kernel
theorem dX5_search_49 : decode cX5_search 49 = .ok (.ifCond .eq 38, 3) := by decide +kernel
theorem dX5_search_52 : decode cX5_search 52 = .ok (.aload_n 0, 1) := by decide +kernel
theorem dX5_search_53 : decode cX5_search 53 = .ok (.getfield 42, 3) := by decide +kernel
theorem dX5_search_56 : decode cX5_search 56 = .ok (.iload_n 1, 1) := by decide +kernel
theorem dX5_search_57 : decode cX5_search 57 = .ok (.iload_n 3, 1) := by decide +kernel
theorem dX5_search_58 : decode cX5_search 58 = .ok (.iastore, 1) := by decide +kernel
theorem dX5_search_59 : decode cX5_search 59 = .ok (.aload_n 0, 1) := by decide +kernel
theorem dX5_search_60 : decode cX5_search 60 = .ok (.iload_n 1, 1) := by decide +kernel
theorem dX5_search_61 : decode cX5_search 61 = .ok (.iload_n 3, 1) := by decide +kernel
theorem dX5_search_62 : decode cX5_search 62 = .ok (.iconst 1, 1) := by decide +kernel
theorem dX5_search_63 : decode cX5_search 63 = .ok (.invokevirtual 140, 3) := by decide +kernel
theorem dX5_search_66 : decode cX5_search 66 = .ok (.ifCond .eq 13, 3) := by decide +kernel
theorem dX5_search_69 : decode cX5_search 69 = .ok (.aload_n 0, 1) := by decide +kernel
theorem dX5_search_70 : decode cX5_search 70 = .ok (.iload_n 1, 1) := by decide +kernel
theorem dX5_search_71 : decode cX5_search 71 = .ok (.iconst 1, 1) := by decide +kernel
theorem dX5_search_72 : decode cX5_search 72 = .ok (.iadd, 1) := by decide +kernel
theorem dX5_search_73 : decode cX5_search 73 = .ok (.iload_n 2, 1) := by decide +kernel
theorem dX5_search_74 : decode cX5_search 74 = .ok (.iconst 1, 1) := by decide +kernel
theorem dX5_search_75 : decode cX5_search 75 = .ok (.iadd, 1) := by decide +kernel
theorem dX5_search_76 : decode cX5_search 76 = .ok (.invokestatic 112, 3) := by decide +kernel
theorem dX5_search_79 : decode cX5_search 79 = .ok (.aload_n 0, 1) := by decide +kernel
theorem dX5_search_80 : decode cX5_search 80 = .ok (.iload_n 1, 1) := by decide +kernel
theorem dX5_search_81 : decode cX5_search 81 = .ok (.iload_n 3, 1) := by decide +kernel
theorem dX5_search_82 : decode cX5_search 82 = .ok (.iconst (-1), 1) := by decide +kernel
theorem dX5_search_83 : decode cX5_search 83 = .ok (.invokevirtual 140, 3) := by decide +kernel
theorem dX5_search_86 : decode cX5_search 86 = .ok (.pop, 1) := by decide +kernel
theorem dX5_search_87 : decode cX5_search 87 = .ok (.iinc 3 1, 3) := by decide +kernel
theorem dX5_search_90 : decode cX5_search 90 = .ok (.goto (-58), 3) := by decide +kernel
theorem dX5_search_93 : decode cX5_search 93 = .ok (.aload_n 0, 1) := by decide +kernel
theorem dX5_search_94 : decode cX5_search 94 = .ok (.getfield 42, 3) := by decide +kernel
theorem dX5_search_97 : decode cX5_search 97 = .ok (.iload_n 1, 1) := by decide +kernel
theorem dX5_search_98 : decode cX5_search 98 = .ok (.bipush 12, 2) := by decide +kernel
theorem dX5_search_100 : decode cX5_search 100 = .ok (.iastore, 1) := by decide +kernel
theorem dX5_search_101 : decode cX5_search 101 = .ok (.aload_n 0, 1) := by decide +kernel
theorem dX5_search_102 : decode cX5_search 102 = .ok (.iload_n 1, 1) := by decide +kernel
theorem dX5_search_103 : decode cX5_search 103 = .ok (.iconst 1, 1) := by decide +kernel
theorem dX5_search_104 : decode cX5_search 104 = .ok (.iadd, 1) := by decide +kernel
theorem dX5_search_105 : decode cX5_search 105 = .ok (.iload_n 2, 1) := by decide +kernel
theorem dX5_search_106 : decode cX5_search 106 = .ok (.invokestatic 112, 3) := by decide +kernel
theorem dX5_search_109 : decode cX5_search 109 = .ok (.return_, 1) := by decide +kernel
theorem dX5_keepIfBetter_0 : decode cX5_keepIfBetter 0 = .ok (.iload_n 1, 1) := by decide +kernel
theorem dX5_keepIfBetter_1 : decode cX5_keepIfBetter 1 = .ok (.aload_n 0, 1) := by decide +kernel
theorem dX5_keepIfBetter_2 : decode cX5_keepIfBetter 2 = .ok (.getfield 91, 3) := by decide +kernel
theorem dX5_keepIfBetter_5 : decode cX5_keepIfBetter 5 = .ok (.if_icmp .le 22, 3) := by decide +kernel
theorem dX5_keepIfBetter_8 : decode cX5_keepIfBetter 8 = .ok (.aload_n 0, 1) := by decide +kernel
theorem dX5_keepIfBetter_9 : decode cX5_keepIfBetter 9 = .ok (.iload_n 1, 1) := by decide +kernel
theorem dX5_keepIfBetter_10 : decode cX5_keepIfBetter 10 = .ok (.putfield 91, 3) := by decide +kernel
theorem dX5_keepIfBetter_13 : decode cX5_keepIfBetter 13 = .ok (.aload_n 0, 1) := by decide +kernel
theorem dX5_keepIfBetter_14 : decode cX5_keepIfBetter 14 = .ok (.getfield 42, 3) := by decide +kernel
theorem dX5_keepIfBetter_17 : decode cX5_keepIfBetter 17 = .ok (.iconst 0, 1) := by decide +kernel
theorem dX5_keepIfBetter_18 : decode cX5_keepIfBetter 18 = .ok (.aload_n 0, 1) := by decide +kernel
theorem dX5_keepIfBetter_19 : decode cX5_keepIfBetter 19 = .ok (.getfield 45, 3) := by decide +kernel
theorem dX5_keepIfBetter_22 : decode cX5_keepIfBetter 22 = .ok (.iconst 0, 1) := by decide +kernel
theorem dX5_keepIfBetter_23 : decode cX5_keepIfBetter 23 = .ok (.iconst 4, 1) := by decide +kernel
theorem dX5_keepIfBetter_24 : decode cX5_keepIfBetter 24 = .ok (.invokestatic 143, 3) := by decide +kernel
theorem dX5_keepIfBetter_27 : decode cX5_keepIfBetter 27 = .ok (.return_, 1) := by decide +kernel
theorem dX5_occupy_0 : decode cX5_occupy 0 = .ok (.iload_n 2, 1) := by decide +kernel
theorem dX5_occupy_1 : decode cX5_occupy 1 = .ok (.iconst 4, 1) := by decide +kernel
theorem dX5_occupy_2 : decode cX5_occupy 2 = .ok (.idiv, 1) := by decide +kernel
theorem dX5_occupy_3 : decode cX5_occupy 3 = .ok (.istore 4, 2) := by decide +kernel
theorem dX5_occupy_5 : decode cX5_occupy 5 = .ok (.iload_n 2, 1) := by decide +kernel
theorem dX5_occupy_6 : decode cX5_occupy 6 = .ok (.iconst 4, 1) := by decide +kernel
theorem dX5_occupy_7 : decode cX5_occupy 7 = .ok (.irem, 1) := by decide +kernel
theorem dX5_occupy_8 : decode cX5_occupy 8 = .ok (.istore 5, 2) := by decide +kernel
theorem dX5_occupy_10 : decode cX5_occupy 10 = .ok (.iconst 1, 1) := by decide +kernel
theorem dX5_occupy_11 : decode cX5_occupy 11 = .ok (.istore 6, 2) := by decide +kernel
theorem dX5_occupy_13 : decode cX5_occupy 13 = .ok (.getstatic 71, 3) := by decide +kernel
theorem dX5_occupy_16 : decode cX5_occupy 16 = .ok (.iload 4, 2) := by decide +kernel
theorem dX5_occupy_18 : decode cX5_occupy 18 = .ok (.iaload, 1) := by decide +kernel
theorem dX5_occupy_19 : decode cX5_occupy 19 = .ok (.istore 7, 2) := by decide +kernel
theorem dX5_occupy_21 : decode cX5_occupy 21 = .ok (.iload 7, 2) := by decide +kernel
theorem dX5_occupy_23 : decode cX5_occupy 23 = .ok (.getstatic 74, 3) := by decide +kernel
theorem dX5_occupy_26 : decode cX5_occupy 26 = .ok (.iload 4, 2) := by decide +kernel
theorem dX5_occupy_28 : decode cX5_occupy 28 = .ok (.iaload, 1) := by decide +kernel
theorem dX5_occupy_29 : decode cX5_occupy 29 = .ok (.if_icmp .ge 65, 3) := by decide +kernel
theorem dX5_occupy_32 : decode cX5_occupy 32 = .ok (.aload_n 0, 1) := by decide +kernel
theorem dX5_occupy_33 : decode cX5_occupy 33 = .ok (.getfield 38, 3) := by decide +kernel
theorem dX5_occupy_36 : decode cX5_occupy 36 = .ok (.iload 7, 2) := by decide +kernel
theorem dX5_occupy_38 : decode cX5_occupy 38 = .ok (.iconst 4, 1) := by decide +kernel
theorem dX5_occupy_39 : decode cX5_occupy 39 = .ok (.imul, 1) := by decide +kernel
theorem dX5_occupy_40 : decode cX5_occupy 40 = .ok (.iload 5, 2) := by decide +kernel
theorem dX5_occupy_42 : decode cX5_occupy 42 = .ok (.iadd, 1) := by decide +kernel
theorem dX5_occupy_43 : decode cX5_occupy 43 = .ok (.aaload, 1) := by decide +kernel
theorem dX5_occupy_44 : decode cX5_occupy 44 = .ok (.astore 8, 2) := by decide +kernel
theorem dX5_occupy_46 : decode cX5_occupy 46 = .ok (.aload 8, 2) := by decide +kernel
theorem dX5_occupy_48 : decode cX5_occupy 48 = .ok (.aload_n 0, 1) := by decide +kernel
theorem dX5_occupy_49 : decode cX5_occupy 49 = .ok (.getfield 48, 3) := by decide +kernel
theorem dX5_occupy_52 : decode cX5_occupy 52 = .ok (.aload_n 0, 1) := by decide +kernel
theorem dX5_occupy_53 : decode cX5_occupy 53 = .ok (.getfield 22, 3) := by decide +kernel
theorem dX5_occupy_56 : decode cX5_occupy 56 = .ok (.iload_n 1, 1) := by decide +kernel
theorem dX5_occupy_57 : decode cX5_occupy 57 = .ok (.iaload, 1) := by decide +kernel
theorem dX5_occupy_58 : decode cX5_occupy 58 = .ok (.iload_n 3, 1) := by decide +kernel
theorem dX5_occupy_59 : decode cX5_occupy 59 = .ok (.invokevirtual 149, 3) := by decide +kernel
theorem dX5_occupy_62 : decode cX5_occupy 62 = .ok (.iload 6, 2) := by decide +kernel
theorem dX5_occupy_64 : decode cX5_occupy 64 = .ok (.ifCond .eq 21, 3) := by decide +kernel
theorem dX5_occupy_67 : decode cX5_occupy 67 = .ok (.aload 8, 2) := by decide +kernel
theorem dX5_occupy_69 : decode cX5_occupy 69 = .ok (.invokevirtual 153, 3) := by decide +kernel
theorem dX5_occupy_72 : decode cX5_occupy 72 = .ok (.getstatic 125, 3) := by decide +kernel
theorem dX5_occupy_75 : decode cX5_occupy 75 = .ok (.iload 5, 2) := by decide +kernel
theorem dX5_occupy_77 : decode cX5_occupy 77 = .ok (.iaload, 1) := by decide +kernel
theorem dX5_occupy_78 : decode cX5_occupy 78 = .ok (.if_icmp .gt 7, 3) := by decide +kernel
theorem dX5_occupy_81 : decode cX5_occupy 81 = .ok (.iconst 1, 1) := by decide +kernel
theorem dX5_occupy_82 : decode cX5_occupy 82 = .ok (.goto 4, 3) := by decide +kernel
theorem dX5_occupy_85 : decode cX5_occupy 85 = .ok (.iconst 0, 1) := by decide +kernel
theorem dX5_occupy_86 : decode cX5_occupy 86 = .ok (.istore 6, 2) := by decide +kernel
theorem dX5_occupy_88 : decode cX5_occupy 88 = .ok (.iinc 7 1, 3) := by decide +kernel
theorem dX5_occupy_91 : decode cX5_occupy 91 = .ok (.goto (-70), 3) := by decide +kernel
theorem dX5_occupy_94 : decode cX5_occupy 94 = .ok (.iload 6, 2) := by decide +kernel
theorem dX5_occupy_96 : decode cX5_occupy 96 = .ok (.ireturn, 1) := by decide +kernel
theorem dX6_init_0 : decode cX6_init 0 = .ok (.aload_n 0, 1) := by decide +kernel
theorem dX6_init_1 : decode cX6_init 1 = .ok (.invokespecial 3, 3) := by decide +kernel
theorem dX6_init_4 : decode cX6_init 4 = .ok (.aload_n 0, 1) := by decide +kernel
theorem dX6_init_5 : decode cX6_init 5 = .ok (.bipush 30, 2) := by decide +kernel
theorem dX6_init_7 : decode cX6_init 7 = .ok (.newarray .int, 2) := by decide +kernel
theorem dX6_init_9 : decode cX6_init 9 = .ok (.putfield 9, 3) := by decide +kernel
theorem dX6_init_12 : decode cX6_init 12 = .ok (.aload_n 0, 1) := by decide +kernel
theorem dX6_init_13 : decode cX6_init 13 = .ok (.bipush 30, 2) := by decide +kernel
theorem dX6_init_15 : decode cX6_init 15 = .ok (.newarray .int, 2) := by decide +kernel
theorem dX6_init_17 : decode cX6_init 17 = .ok (.putfield 15, 3) := by decide +kernel
theorem dX6_init_20 : decode cX6_init 20 = .ok (.aload_n 0, 1) := by decide +kernel
theorem dX6_init_21 : decode cX6_init 21 = .ok (.bipush 30, 2) := by decide +kernel
theorem dX6_init_23 : decode cX6_init 23 = .ok (.newarray .int, 2) := by decide +kernel
theorem dX6_init_25 : decode cX6_init 25 = .ok (.putfield 18, 3) := by decide +kernel
theorem dX6_init_28 : decode cX6_init 28 = .ok (.aload_n 0, 1) := by decide +kernel
theorem dX6_init_29 : decode cX6_init 29 = .ok (.bipush 30, 2) := by decide +kernel
theorem dX6_init_31 : decode cX6_init 31 = .ok (.newarray .boolean, 2) := by decide +kernel
theorem dX6_init_33 : decode cX6_init 33 = .ok (.putfield 21, 3) := by decide +kernel
theorem dX6_init_36 : decode cX6_init 36 = .ok (.aload_n 0, 1) := by decide +kernel
theorem dX6_init_37 : decode cX6_init 37 = .ok (.bipush 8, 2) := by decide +kernel
theorem dX6_init_39 : decode cX6_init 39 = .ok (.newarray .int, 2) := by decide +kernel
theorem dX6_init_41 : decode cX6_init 41 = .ok (.putfield 25, 3) := by decide +kernel
theorem dX6_init_44 : decode cX6_init 44 = .ok (.aload_n 0, 1) := by decide +kernel
theorem dX6_init_45 : decode cX6_init 45 = .ok (.iconst 4, 1) := by decide +kernel
theorem dX6_init_46 : decode cX6_init 46 = .ok (.putfield 28, 3) := by decide +kernel
theorem dX6_init_49 : decode cX6_init 49 = .ok (.aload_n 0, 1) := by decide +kernel
theorem dX6_init_50 : decode cX6_init 50 = .ok (.iconst 0, 1) := by decide +kernel
theorem dX6_init_51 : decode cX6_init 51 = .ok (.putfield 32, 3) := by decide +kernel
theorem dX6_init_54 : decode cX6_init 54 = .ok (.aload_n 0, 1) := by decide +kernel
theorem dX6_init_55 : decode cX6_init 55 = .ok (.iconst 3, 1) := by decide +kernel
theorem dX6_init_56 : decode cX6_init 56 = .ok (.putfield 35, 3) := by decide +kernel
theorem dX6_init_59 : decode cX6_init 59 = .ok (.return_, 1) := by decide +kernel
theorem dX6_has_0 : decode cX6_has 0 = .ok (.iload_n 1, 1) := by decide +kernel
theorem dX6_has_1 : decode cX6_has 1 = .ok (.iconst 0, 1) := by decide +kernel
theorem dX6_has_2 : decode cX6_has 2 = .ok (.aload_n 0, 1) := by decide +kernel
theorem dX6_has_3 : decode cX6_has 3 = .ok (.getfield 28, 3) := by decide +kernel
theorem dX6_has_6 : decode cX6_has 6 = .ok (.iconst 1, 1) := by decide +kernel
theorem dX6_has_7 : decode cX6_has 7 = .ok (.isub, 1) := by decide +kernel
theorem dX6_has_8 : decode cX6_has 8 = .ok (.invokestatic 38, 3) := by decide +kernel
theorem dX6_has_11 : decode cX6_has 11 = .ok (.ireturn, 1) := by decide +kernel
theorem dX6_addTold_0 : decode cX6_addTold 0 = .ok (.aload_n 0, 1) := by decide +kernel
theorem dX6_addTold_1 : decode cX6_addTold 1 = .ok (.getfield 9, 3) := by decide +kernel
theorem dX6_addTold_4 : decode cX6_addTold 4 = .ok (.aload_n 0, 1) := by decide +kernel
theorem dX6_addTold_5 : decode cX6_addTold 5 = .ok (.getfield 42, 3) := by decide +kernel
theorem dX6_addTold_8 : decode cX6_addTold 8 = .ok (.iload_n 1, 1) := by decide +kernel
theorem dX6_addTold_9 : decode cX6_addTold 9 = .ok (.iastore, 1) := by decide +kernel
theorem dX6_addTold_10 : decode cX6_addTold 10 = .ok (.aload_n 0, 1) := by decide +kernel
theorem dX6_addTold_11 : decode cX6_addTold 11 = .ok (.getfield 15, 3) := by decide +kernel
theorem dX6_addTold_14 : decode cX6_addTold 14 = .ok (.aload_n 0, 1) := by decide +kernel
theorem dX6_addTold_15 : decode cX6_addTold 15 = .ok (.getfield 42, 3) := by decide +kernel
theorem dX6_addTold_18 : decode cX6_addTold 18 = .ok (.iload_n 2, 1) := by decide +kernel
theorem dX6_addTold_19 : decode cX6_addTold 19 = .ok (.iastore, 1) := by decide +kernel
theorem dX6_addTold_20 : decode cX6_addTold 20 = .ok (.aload_n 0, 1) := by decide +kernel
theorem dX6_addTold_21 : decode cX6_addTold 21 = .ok (.getfield 18, 3) := by decide +kernel
theorem dX6_addTold_24 : decode cX6_addTold 24 = .ok (.aload_n 0, 1) := by decide +kernel
theorem dX6_addTold_25 : decode cX6_addTold 25 = .ok (.getfield 42, 3) := by decide +kernel
theorem dX6_addTold_28 : decode cX6_addTold 28 = .ok (.iload_n 3, 1) := by decide +kernel
theorem dX6_addTold_29 : decode cX6_addTold 29 = .ok (.iastore, 1) := by decide +kernel
theorem dX6_addTold_30 : decode cX6_addTold 30 = .ok (.aload_n 0, 1) := by decide +kernel
theorem dX6_addTold_31 : decode cX6_addTold 31 = .ok (.getfield 21, 3) := by decide +kernel
theorem dX6_addTold_34 : decode cX6_addTold 34 = .ok (.aload_n 0, 1) := by decide +kernel
theorem dX6_addTold_35 : decode cX6_addTold 35 = .ok (.getfield 42, 3) := by decide +kernel
theorem dX6_addTold_38 : decode cX6_addTold 38 = .ok (.iload 4, 2) := by decide +kernel
theorem dX6_addTold_40 : decode cX6_addTold 40 = .ok (.bastore, 1) := by decide +kernel
theorem dX6_addTold_41 : decode cX6_addTold 41 = .ok (.aload_n 0, 1) := by decide +kernel
theorem dX6_addTold_42 : decode cX6_addTold 42 = .ok (.dup, 1) := by decide +kernel
theorem dX6_addTold_43 : decode cX6_addTold 43 = .ok (.getfield 42, 3) := by decide +kernel
theorem dX6_addTold_46 : decode cX6_addTold 46 = .ok (.iconst 1, 1) := by decide +kernel
theorem dX6_addTold_47 : decode cX6_addTold 47 = .ok (.iadd, 1) := by decide +kernel
theorem dX6_addTold_48 : decode cX6_addTold 48 = .ok (.putfield 42, 3) := by decide +kernel
theorem dX6_addTold_51 : decode cX6_addTold 51 = .ok (.return_, 1) := by decide +kernel
theorem dX6_weeksWaited_0 : decode cX6_weeksWaited 0 = .ok (.iconst 0, 1) := by decide +kernel
theorem dX6_weeksWaited_1 : decode cX6_weeksWaited 1 = .ok (.istore 4, 2) := by decide +kernel
theorem dX6_weeksWaited_3 : decode cX6_weeksWaited 3 = .ok (.iload_n 2, 1) := by decide +kernel
theorem dX6_weeksWaited_4 : decode cX6_weeksWaited 4 = .ok (.istore 5, 2) := by decide +kernel
theorem dX6_weeksWaited_6 : decode cX6_weeksWaited 6 = .ok (.iload 5, 2) := by decide +kernel
theorem dX6_weeksWaited_8 : decode cX6_weeksWaited 8 = .ok (.iload_n 3, 1) := by decide +kernel
theorem dX6_weeksWaited_9 : decode cX6_weeksWaited 9 = .ok (.if_icmp .gt 30, 3) := by decide +kernel
theorem dX6_weeksWaited_12 : decode cX6_weeksWaited 12 = .ok (.aload_n 0, 1) := by decide +kernel
theorem dX6_weeksWaited_13 : decode cX6_weeksWaited 13 = .ok (.iload 5, 2) := by decide +kernel
theorem dX6_weeksWaited_15 : decode cX6_weeksWaited 15 = .ok (.invokevirtual 45, 3) := by decide +kernel
theorem dX6_weeksWaited_18 : decode cX6_weeksWaited 18 = .ok (.aload_n 0, 1) := by decide +kernel
theorem dX6_weeksWaited_19 : decode cX6_weeksWaited 19 = .ok (.iload_n 1, 1) := by decide +kernel
theorem dX6_weeksWaited_20 : decode cX6_weeksWaited 20 = .ok (.invokevirtual 49, 3) := by decide +kernel
theorem dX6_weeksWaited_23 : decode cX6_weeksWaited 23 = .ok (.aload_n 0, 1) := by decide +kernel
theorem dX6_weeksWaited_24 : decode cX6_weeksWaited 24 = .ok (.getfield 35, 3) := by decide +kernel
theorem dX6_weeksWaited_27 : decode cX6_weeksWaited 27 = .ok (.if_icmp .lt 6, 3) := by decide +kernel
theorem dX6_weeksWaited_30 : decode cX6_weeksWaited 30 = .ok (.iinc 4 1, 3) := by decide +kernel
theorem dX6_weeksWaited_33 : decode cX6_weeksWaited 33 = .ok (.iinc 5 1, 3) := by decide +kernel
theorem dX6_weeksWaited_36 : decode cX6_weeksWaited 36 = .ok (.goto (-30), 3) := by decide +kernel
theorem dX6_weeksWaited_39 : decode cX6_weeksWaited 39 = .ok (.iload 4, 2) := by decide +kernel
theorem dX6_weeksWaited_41 : decode cX6_weeksWaited 41 = .ok (.ireturn, 1) := by decide +kernel
theorem dX6_firstWeekAhead_0 : decode cX6_firstWeekAhead 0 = .ok (.iload_n 2, 1) := by decide +kernel
theorem dX6_firstWeekAhead_1 : decode cX6_firstWeekAhead 1 = .ok (.istore 4, 2) := by decide +kernel
theorem dX6_firstWeekAhead_3 : decode cX6_firstWeekAhead 3 = .ok (.iload 4, 2) := by decide +kernel
theorem dX6_firstWeekAhead_5 : decode cX6_firstWeekAhead 5 = .ok (.iload_n 3, 1) := by decide +kernel
theorem dX6_firstWeekAhead_6 : decode cX6_firstWeekAhead 6 = .ok (.if_icmp .gt 28, 3) := by decide +kernel
theorem dX6_firstWeekAhead_9 : decode cX6_firstWeekAhead 9 = .ok (.aload_n 0, 1) := by decide +kernel
theorem dX6_firstWeekAhead_10 : decode cX6_firstWeekAhead 10 = .ok (.iload 4, 2) := by decide +kernel
theorem dX6_firstWeekAhead_12 : decode cX6_firstWeekAhead 12 = .ok (.invokevirtual 45, 3) := by decide +kernel
theorem dX6_firstWeekAhead_15 : decode cX6_firstWeekAhead 15 = .ok (.aload_n 0, 1) := by decide +kernel
theorem dX6_firstWeekAhead_16 : decode cX6_firstWeekAhead 16 = .ok (.getfield 25, 3) := by decide +kernel
theorem dX6_firstWeekAhead_19 : decode cX6_firstWeekAhead 19 = .ok (.iconst 0, 1) := by decide +kernel
theorem dX6_firstWeekAhead_20 : decode cX6_firstWeekAhead 20 = .ok (.iaload, 1) := by decide +kernel
theorem dX6_firstWeekAhead_21 : decode cX6_firstWeekAhead 21 = .ok (.iload_n 1, 1) := by decide +kernel
theorem dX6_firstWeekAhead_22 : decode cX6_firstWeekAhead 22 = .ok (.if_icmp .ne 6, 3) := by decide +kernel
theorem dX6_firstWeekAhead_25 : decode cX6_firstWeekAhead 25 = .ok (.iload 4, 2) := by decide +kernel
theorem dX6_firstWeekAhead_27 : decode cX6_firstWeekAhead 27 = .ok (.ireturn, 1) := by decide +kernel
theorem dX6_firstWeekAhead_28 : decode cX6_firstWeekAhead 28 = .ok (.iinc 4 1, 3) := by decide +kernel
theorem dX6_firstWeekAhead_31 : decode cX6_firstWeekAhead 31 = .ok (.goto (-28), 3) := by decide +kernel
theorem dX6_firstWeekAhead_34 : decode cX6_firstWeekAhead 34 = .ok (.iconst (-1), 1) := by decide +kernel
theorem dX6_firstWeekAhead_35 : decode cX6_firstWeekAhead 35 = .ok (.ireturn, 1) := by decide +kernel
theorem dX6_makeRow_0 : decode cX6_makeRow 0 = .ok (.aload_n 0, 1) := by decide +kernel
theorem dX6_makeRow_1 : decode cX6_makeRow 1 = .ok (.getfield 32, 3) := by decide +kernel
theorem dX6_makeRow_4 : decode cX6_makeRow 4 = .ok (.ifCond .ne 11, 3) := by decide +kernel
theorem dX6_makeRow_7 : decode cX6_makeRow 7 = .ok (.aload_n 0, 1) := by decide +kernel
theorem dX6_makeRow_8 : decode cX6_makeRow 8 = .ok (.iload_n 1, 1) := by decide +kernel
theorem dX6_makeRow_9 : decode cX6_makeRow 9 = .ok (.invokevirtual 53, 3) := by decide +kernel
theorem dX6_makeRow_12 : decode cX6_makeRow 12 = .ok (.goto 8, 3) := by decide +kernel
theorem dX6_makeRow_15 : decode cX6_makeRow 15 = .ok (.aload_n 0, 1) := by decide +kernel
theorem dX6_makeRow_16 : decode cX6_makeRow 16 = .ok (.iload_n 1, 1) := by decide +kernel
theorem dX6_makeRow_17 : decode cX6_makeRow 17 = .ok (.invokevirtual 56, 3) := by decide +kernel
theorem dX6_makeRow_20 : decode cX6_makeRow 20 = .ok (.iconst 0, 1) := by decide +kernel
theorem dX6_makeRow_21 : decode cX6_makeRow 21 = .ok (.istore_n 2, 1) := by decide +kernel
theorem dX6_makeRow_22 : decode cX6_makeRow 22 = .ok (.iload_n 2, 1) := by decide +kernel
theorem dX6_makeRow_23 : decode cX6_makeRow 23 = .ok (.aload_n 0, 1) := by decide +kernel
theorem dX6_makeRow_24 : decode cX6_makeRow 24 = .ok (.getfield 42, 3) := by decide +kernel
theorem dX6_makeRow_27 : decode cX6_makeRow 27 = .ok (.if_icmp .ge 71, 3) := by decide +kernel
theorem dX6_makeRow_30 : decode cX6_makeRow 30 = .ok (.aload_n 0, 1) := by decide +kernel
theorem dX6_makeRow_31 : decode cX6_makeRow 31 = .ok (.getfield 9, 3) := by decide +kernel
theorem dX6_makeRow_34 : decode cX6_makeRow 34 = .ok (.iload_n 2, 1) := by decide +kernel
theorem dX6_makeRow_35 : decode cX6_makeRow 35 = .ok (.iaload, 1) := by decide +kernel
theorem dX6_makeRow_36 : decode cX6_makeRow 36 = .ok (.iload_n 1, 1) := by decide +kernel
theorem dX6_makeRow_37 : decode cX6_makeRow 37 = .ok (.if_icmp .ne 55, 3) := by decide +kernel
theorem dX6_makeRow_40 : decode cX6_makeRow 40 = .ok (.aload_n 0, 1) := by decide +kernel
theorem dX6_makeRow_41 : decode cX6_makeRow 41 = .ok (.getfield 21, 3) := by decide +kernel
theorem dX6_makeRow_44 : decode cX6_makeRow 44 = .ok (.iload_n 2, 1) := by decide +kernel
theorem dX6_makeRow_45 : decode cX6_makeRow 45 = .ok (.baload, 1) := by decide +kernel
theorem dX6_makeRow_46 : decode cX6_makeRow 46 = .ok (.ifCond .eq 22, 3) := by decide +kernel
theorem dX6_makeRow_49 : decode cX6_makeRow 49 = .ok (.aload_n 0, 1) := by decide +kernel
theorem dX6_makeRow_50 : decode cX6_makeRow 50 = .ok (.aload_n 0, 1) := by decide +kernel
theorem dX6_makeRow_51 : decode cX6_makeRow 51 = .ok (.getfield 15, 3) := by decide +kernel
theorem dX6_makeRow_54 : decode cX6_makeRow 54 = .ok (.iload_n 2, 1) := by decide +kernel
theorem dX6_makeRow_55 : decode cX6_makeRow 55 = .ok (.iaload, 1) := by decide +kernel
theorem dX6_makeRow_56 : decode cX6_makeRow 56 = .ok (.aload_n 0, 1) := by decide +kernel
theorem dX6_makeRow_57 : decode cX6_makeRow 57 = .ok (.getfield 18, 3) := by decide +kernel
theorem dX6_makeRow_60 : decode cX6_makeRow 60 = .ok (.iload_n 2, 1) := by decide +kernel
theorem dX6_makeRow_61 : decode cX6_makeRow 61 = .ok (.iaload, 1) := by decide +kernel
theorem dX6_makeRow_62 : decode cX6_makeRow 62 = .ok (.invokevirtual 59, 3) := by decide +kernel
theorem dX6_makeRow_65 : decode cX6_makeRow 65 = .ok (.goto 27, 3) := by decide +kernel
theorem dX6_makeRow_68 : decode cX6_makeRow 68 = .ok (.aload_n 0, 1) := by decide +kernel
theorem dX6_makeRow_69 : decode cX6_makeRow 69 = .ok (.aload_n 0, 1) := by decide +kernel
theorem dX6_makeRow_70 : decode cX6_makeRow 70 = .ok (.aload_n 0, 1) := by decide +kernel
theorem dX6_makeRow_71 : decode cX6_makeRow 71 = .ok (.getfield 15, 3) := by decide +kernel
theorem dX6_makeRow_74 : decode cX6_makeRow 74 = .ok (.iload_n 2, 1) := by decide +kernel
theorem dX6_makeRow_75 : decode cX6_makeRow 75 = .ok (.iaload, 1) := by decide +kernel
theorem dX6_makeRow_76 : decode cX6_makeRow 76 = .ok (.invokevirtual 49, 3) := by decide +kernel
theorem dX6_makeRow_79 : decode cX6_makeRow 79 = .ok (.aload_n 0, 1) := by decide +kernel
theorem dX6_makeRow_80 : decode cX6_makeRow 80 = .ok (.aload_n 0, 1) := by decide +kernel
theorem dX6_makeRow_81 : decode cX6_makeRow 81 = .ok (.getfield 18, 3) := by decide +kernel
theorem dX6_makeRow_84 : decode cX6_makeRow 84 = .ok (.iload_n 2, 1) := by decide +kernel
theorem dX6_makeRow_85 : decode cX6_makeRow 85 = .ok (.iaload, 1) := by decide +kernel
theorem dX6_makeRow_86 : decode cX6_makeRow 86 = .ok (.invokevirtual 49, 3) := by decide +kernel
theorem dX6_makeRow_89 : decode cX6_makeRow 89 = .ok (.invokevirtual 63, 3) := by decide +kernel
theorem dX6_makeRow_92 : decode cX6_makeRow 92 = .ok (.iinc 2 1, 3) := by decide +kernel
theorem dX6_makeRow_95 : decode cX6_makeRow 95 = .ok (.goto (-73), 3) := by decide +kernel
theorem dX6_makeRow_98 : decode cX6_makeRow 98 = .ok (.return_, 1) := by decide +kernel
theorem dX6_goRound_0 : decode cX6_goRound 0 = .ok (.iconst 0, 1) := by decide +kernel
theorem dX6_goRound_1 : decode cX6_goRound 1 = .ok (.istore_n 2, 1) := by decide +kernel
theorem dX6_goRound_2 : decode cX6_goRound 2 = .ok (.iload_n 2, 1) := by decide +kernel
theorem dX6_goRound_3 : decode cX6_goRound 3 = .ok (.aload_n 0, 1) := by decide +kernel
theorem dX6_goRound_4 : decode cX6_goRound 4 = .ok (.getfield 28, 3) := by decide +kernel
theorem dX6_goRound_7 : decode cX6_goRound 7 = .ok (.if_icmp .ge 23, 3) := by decide +kernel
theorem dX6_goRound_10 : decode cX6_goRound 10 = .ok (.aload_n 0, 1) := by decide +kernel
theorem dX6_goRound_11 : decode cX6_goRound 11 = .ok (.getfield 25, 3) := by decide +kernel
theorem dX6_goRound_14 : decode cX6_goRound 14 = .ok (.iload_n 2, 1) := by decide +kernel
theorem dX6_goRound_15 : decode cX6_goRound 15 = .ok (.iload_n 1, 1) := by decide +kernel
theorem dX6_goRound_16 : decode cX6_goRound 16 = .ok (.iload_n 2, 1) := by decide +kernel
theorem dX6_goRound_17 : decode cX6_goRound 17 = .ok (.iadd, 1) := by decide +kernel
theorem dX6_goRound_18 : decode cX6_goRound 18 = .ok (.aload_n 0, 1) := by decide +kernel
theorem dX6_goRound_19 : decode cX6_goRound 19 = .ok (.getfield 28, 3) := by decide +kernel
theorem dX6_goRound_22 : decode cX6_goRound 22 = .ok (.irem, 1) := by decide +kernel
theorem dX6_goRound_23 : decode cX6_goRound 23 = .ok (.iastore, 1) := by decide +kernel
theorem dX6_goRound_24 : decode cX6_goRound 24 = .ok (.iinc 2 1, 3) := by decide +kernel
theorem dX6_goRound_27 : decode cX6_goRound 27 = .ok (.goto (-25), 3) := by decide +kernel
theorem dX6_goRound_30 : decode cX6_goRound 30 = .ok (.return_, 1) := by decide +kernel
theorem dX6_drawLots_0 : decode cX6_drawLots 0 = .ok (.iconst 0, 1) := by decide +kernel
theorem dX6_drawLots_1 : decode cX6_drawLots 1 = .ok (.istore_n 2, 1) := by decide +kernel
theorem dX6_drawLots_2 : decode cX6_drawLots 2 = .ok (.iload_n 2, 1) := by decide +kernel
theorem dX6_drawLots_3 : decode cX6_drawLots 3 = .ok (.aload_n 0, 1) := by decide +kernel
theorem dX6_drawLots_4 : decode cX6_drawLots 4 = .ok (.getfield 28, 3) := by decide +kernel
theorem dX6_drawLots_7 : decode cX6_drawLots 7 = .ok (.if_icmp .ge 16, 3) := by decide +kernel
theorem dX6_drawLots_10 : decode cX6_drawLots 10 = .ok (.aload_n 0, 1) := by decide +kernel
theorem dX6_drawLots_11 : decode cX6_drawLots 11 = .ok (.getfield 25, 3) := by decide +kernel
theorem dX6_drawLots_14 : decode cX6_drawLots 14 = .ok (.iload_n 2, 1) := by decide +kernel
theorem dX6_drawLots_15 : decode cX6_drawLots 15 = .ok (.iload_n 2, 1) := by decide +kernel
theorem dX6_drawLots_16 : decode cX6_drawLots 16 = .ok (.iastore, 1) := by decide +kernel
theorem dX6_drawLots_17 : decode cX6_drawLots 17 = .ok (.iinc 2 1, 3) := by decide +kernel
theorem dX6_drawLots_20 : decode cX6_drawLots 20 = .ok (.goto (-18), 3) := by decide +kernel
theorem dX6_drawLots_23 : decode cX6_drawLots 23 = .ok (.aload_n 0, 1) := by decide +kernel
theorem dX6_drawLots_24 : decode cX6_drawLots 24 = .ok (.getfield 66, 3) := by decide +kernel
theorem dX6_drawLots_27 : decode cX6_drawLots 27 = .ok (.i2l, 1) := by decide +kernel
theorem dX6_drawLots_28 : decode cX6_drawLots 28 = .ok (.iload_n 1, 1) := by decide +kernel
theorem dX6_drawLots_29 : decode cX6_drawLots 29 = .ok (.i2l, 1) := by decide +kernel
theorem dX6_drawLots_30 : decode cX6_drawLots 30 = .ok (.ladd, 1) := by decide +kernel
theorem dX6_drawLots_31 : decode cX6_drawLots 31 = .ok (.ldc2_w 69, 3) := by decide +kernel
theorem dX6_drawLots_34 : decode cX6_drawLots 34 = .ok (.land, 1) := by decide +kernel
theorem dX6_drawLots_35 : decode cX6_drawLots 35 = .ok (.lstore_n 2, 1) := by decide +kernel
theorem dX6_drawLots_36 : decode cX6_drawLots 36 = .ok (.aload_n 0, 1) := by decide +kernel
theorem dX6_drawLots_37 : decode cX6_drawLots 37 = .ok (.getfield 28, 3) := by decide +kernel
theorem dX6_drawLots_40 : decode cX6_drawLots 40 = .ok (.iconst 1, 1) := by decide +kernel
theorem dX6_drawLots_41 : decode cX6_drawLots 41 = .ok (.isub, 1) := by decide +kernel
theorem dX6_drawLots_42 : decode cX6_drawLots 42 = .ok (.istore 4, 2) := by decide +kernel
theorem dX6_drawLots_44 : decode cX6_drawLots 44 = .ok (.iload 4, 2) := by decide +kernel
theorem dX6_drawLots_46 : decode cX6_drawLots 46 = .ok (.iconst 1, 1) := by decide +kernel
theorem dX6_drawLots_47 : decode cX6_drawLots 47 = .ok (.if_icmp .lt 41, 3) := by decide +kernel
theorem dX6_drawLots_50 : decode cX6_drawLots 50 = .ok (.ldc2_w 71, 3) := by decide +kernel
theorem dX6_drawLots_53 : decode cX6_drawLots 53 = .ok (.lload_n 2, 1) := by decide +kernel
theorem dX6_drawLots_54 : decode cX6_drawLots 54 = .ok (.lmul, 1) := by decide +kernel
theorem dX6_drawLots_55 : decode cX6_drawLots 55 = .ok (.ldc2_w 73, 3) := by decide +kernel
theorem dX6_drawLots_58 : decode cX6_drawLots 58 = .ok (.ladd, 1) := by decide +kernel
theorem dX6_drawLots_59 : decode cX6_drawLots 59 = .ok (.ldc2_w 69, 3) := by decide +kernel
theorem dX6_drawLots_62 : decode cX6_drawLots 62 = .ok (.land, 1) := by decide +kernel
theorem dX6_drawLots_63 : decode cX6_drawLots 63 = .ok (.lstore_n 2, 1) := by decide +kernel
theorem dX6_drawLots_64 : decode cX6_drawLots 64 = .ok (.aload_n 0, 1) := by decide +kernel
theorem dX6_drawLots_65 : decode cX6_drawLots 65 = .ok (.iload 4, 2) := by decide +kernel
theorem dX6_drawLots_67 : decode cX6_drawLots 67 = .ok (.lload_n 2, 1) := by decide +kernel
theorem dX6_drawLots_68 : decode cX6_drawLots 68 = .ok (.ldc2_w 75, 3) := by decide +kernel
theorem dX6_drawLots_71 : decode cX6_drawLots 71 = .ok (.ldiv, 1) := by decide +kernel
theorem dX6_drawLots_72 : decode cX6_drawLots 72 = .ok (.iload 4, 2) := by decide +kernel
theorem dX6_drawLots_74 : decode cX6_drawLots 74 = .ok (.iconst 1, 1) := by decide +kernel
theorem dX6_drawLots_75 : decode cX6_drawLots 75 = .ok (.iadd, 1) := by decide +kernel
theorem dX6_drawLots_76 : decode cX6_drawLots 76 = .ok (.i2l, 1) := by decide +kernel
theorem dX6_drawLots_77 : decode cX6_drawLots 77 = .ok (.lrem, 1) := by decide +kernel
theorem dX6_drawLots_78 : decode cX6_drawLots 78 = .ok (.l2i, 1) := by decide +kernel
theorem dX6_drawLots_79 : decode cX6_drawLots 79 = .ok (.invokevirtual 63, 3) := by decide +kernel
theorem dX6_drawLots_82 : decode cX6_drawLots 82 = .ok (.iinc 4 (-1), 3) := by decide +kernel
theorem dX6_drawLots_85 : decode cX6_drawLots 85 = .ok (.goto (-41), 3) := by decide +kernel
theorem dX6_drawLots_88 : decode cX6_drawLots 88 = .ok (.return_, 1) := by decide +kernel
theorem dX6_placeOf_0 : decode cX6_placeOf 0 = .ok (.iconst 0, 1) := by decide +kernel
theorem dX6_placeOf_1 : decode cX6_placeOf 1 = .ok (.istore_n 2, 1) := by decide +kernel
theorem dX6_placeOf_2 : decode cX6_placeOf 2 = .ok (.iconst 0, 1) := by decide +kernel
theorem dX6_placeOf_3 : decode cX6_placeOf 3 = .ok (.istore_n 3, 1) := by decide +kernel
theorem dX6_placeOf_4 : decode cX6_placeOf 4 = .ok (.iload_n 3, 1) := by decide +kernel
theorem dX6_placeOf_5 : decode cX6_placeOf 5 = .ok (.aload_n 0, 1) := by decide +kernel
theorem dX6_placeOf_6 : decode cX6_placeOf 6 = .ok (.getfield 28, 3) := by decide +kernel
theorem dX6_placeOf_9 : decode cX6_placeOf 9 = .ok (.if_icmp .ge 21, 3) := by decide +kernel
theorem dX6_placeOf_12 : decode cX6_placeOf 12 = .ok (.aload_n 0, 1) := by decide +kernel
theorem dX6_placeOf_13 : decode cX6_placeOf 13 = .ok (.getfield 25, 3) := by decide +kernel
theorem dX6_placeOf_16 : decode cX6_placeOf 16 = .ok (.iload_n 3, 1) := by decide +kernel
theorem dX6_placeOf_17 : decode cX6_placeOf 17 = .ok (.iaload, 1) := by decide +kernel
theorem dX6_placeOf_18 : decode cX6_placeOf 18 = .ok (.iload_n 1, 1) := by decide +kernel
theorem dX6_placeOf_19 : decode cX6_placeOf 19 = .ok (.if_icmp .ne 5, 3) := by decide +kernel
theorem dX6_placeOf_22 : decode cX6_placeOf 22 = .ok (.iload_n 3, 1) := by decide +kernel
theorem dX6_placeOf_23 : decode cX6_placeOf 23 = .ok (.istore_n 2, 1) := by decide +kernel
theorem dX6_placeOf_24 : decode cX6_placeOf 24 = .ok (.iinc 3 1, 3) := by decide +kernel
theorem dX6_placeOf_27 : decode cX6_placeOf 27 = .ok (.goto (-23), 3) := by decide +kernel
theorem dX6_placeOf_30 : decode cX6_placeOf 30 = .ok (.iload_n 2, 1) := by decide +kernel
theorem dX6_placeOf_31 : decode cX6_placeOf 31 = .ok (.ireturn, 1) := by decide +kernel
theorem dX6_exchange_0 : decode cX6_exchange 0 = .ok (.aload_n 0, 1) := by decide +kernel
theorem dX6_exchange_1 : decode cX6_exchange 1 = .ok (.getfield 25, 3) := by decide +kernel
theorem dX6_exchange_4 : decode cX6_exchange 4 = .ok (.iload_n 1, 1) := by decide +kernel
theorem dX6_exchange_5 : decode cX6_exchange 5 = .ok (.iaload, 1) := by decide +kernel
theorem dX6_exchange_6 : decode cX6_exchange 6 = .ok (.istore_n 3, 1) := by decide +kernel
theorem dX6_exchange_7 : decode cX6_exchange 7 = .ok (.aload_n 0, 1) := by decide +kernel
theorem dX6_exchange_8 : decode cX6_exchange 8 = .ok (.getfield 25, 3) := by decide +kernel
theorem dX6_exchange_11 : decode cX6_exchange 11 = .ok (.iload_n 1, 1) := by decide +kernel
theorem dX6_exchange_12 : decode cX6_exchange 12 = .ok (.aload_n 0, 1) := by decide +kernel
theorem dX6_exchange_13 : decode cX6_exchange 13 = .ok (.getfield 25, 3) := by decide +kernel
theorem dX6_exchange_16 : decode cX6_exchange 16 = .ok (.iload_n 2, 1) := by decide +kernel
theorem dX6_exchange_17 : decode cX6_exchange 17 = .ok (.iaload, 1) := by decide +kernel
theorem dX6_exchange_18 : decode cX6_exchange 18 = .ok (.iastore, 1) := by decide +kernel
theorem dX6_exchange_19 : decode cX6_exchange 19 = .ok (.aload_n 0, 1) := by decide +kernel
theorem dX6_exchange_20 : decode cX6_exchange 20 = .ok (.getfield 25, 3) := by decide +kernel
theorem dX6_exchange_23 : decode cX6_exchange 23 = .ok (.iload_n 2, 1) := by decide +kernel
theorem dX6_exchange_24 : decode cX6_exchange 24 = .ok (.iload_n 3, 1) := by decide +kernel
theorem dX6_exchange_25 : decode cX6_exchange 25 = .ok (.iastore, 1) := by decide +kernel
theorem dX6_exchange_26 : decode cX6_exchange 26 = .ok (.return_, 1) := by decide +kernel
theorem dX6_giveTurn_0 : decode cX6_giveTurn 0 = .ok (.aload_n 0, 1) := by decide +kernel
theorem dX6_giveTurn_1 : decode cX6_giveTurn 1 = .ok (.iload_n 2, 1) := by decide +kernel
theorem dX6_giveTurn_2 : decode cX6_giveTurn 2 = .ok (.invokevirtual 49, 3) := by decide +kernel
theorem dX6_giveTurn_5 : decode cX6_giveTurn 5 = .ok (.istore_n 3, 1) := by decide +kernel
theorem dX6_giveTurn_6 : decode cX6_giveTurn 6 = .ok (.aload_n 0, 1) := by decide +kernel
theorem dX6_giveTurn_7 : decode cX6_giveTurn 7 = .ok (.iload_n 1, 1) := by decide +kernel
theorem dX6_giveTurn_8 : decode cX6_giveTurn 8 = .ok (.invokevirtual 49, 3) := by decide +kernel
theorem dX6_giveTurn_11 : decode cX6_giveTurn 11 = .ok (.istore 4, 2) := by decide +kernel
theorem dX6_giveTurn_13 : decode cX6_giveTurn 13 = .ok (.iload_n 3, 1) := by decide +kernel
theorem dX6_giveTurn_14 : decode cX6_giveTurn 14 = .ok (.istore 5, 2) := by decide +kernel
theorem dX6_giveTurn_16 : decode cX6_giveTurn 16 = .ok (.iload 5, 2) := by decide +kernel
theorem dX6_giveTurn_18 : decode cX6_giveTurn 18 = .ok (.iload 4, 2) := by decide +kernel
theorem dX6_giveTurn_20 : decode cX6_giveTurn 20 = .ok (.if_icmp .ge 25, 3) := by decide +kernel
theorem dX6_giveTurn_23 : decode cX6_giveTurn 23 = .ok (.aload_n 0, 1) := by decide +kernel
theorem dX6_giveTurn_24 : decode cX6_giveTurn 24 = .ok (.getfield 25, 3) := by decide +kernel
theorem dX6_giveTurn_27 : decode cX6_giveTurn 27 = .ok (.iload 5, 2) := by decide +kernel
theorem dX6_giveTurn_29 : decode cX6_giveTurn 29 = .ok (.aload_n 0, 1) := by decide +kernel
theorem dX6_giveTurn_30 : decode cX6_giveTurn 30 = .ok (.getfield 25, 3) := by decide +kernel
theorem dX6_giveTurn_33 : decode cX6_giveTurn 33 = .ok (.iload 5, 2) := by decide +kernel
theorem dX6_giveTurn_35 : decode cX6_giveTurn 35 = .ok (.iconst 1, 1) := by decide +kernel
theorem dX6_giveTurn_36 : decode cX6_giveTurn 36 = .ok (.iadd, 1) := by decide +kernel
theorem dX6_giveTurn_37 : decode cX6_giveTurn 37 = .ok (.iaload, 1) := by decide +kernel
theorem dX6_giveTurn_38 : decode cX6_giveTurn 38 = .ok (.iastore, 1) := by decide +kernel
theorem dX6_giveTurn_39 : decode cX6_giveTurn 39 = .ok (.iinc 5 1, 3) := by decide +kernel
theorem dX6_giveTurn_42 : decode cX6_giveTurn 42 = .ok (.goto (-26), 3) := by decide +kernel
theorem dX6_giveTurn_45 : decode cX6_giveTurn 45 = .ok (.iload_n 3, 1) := by decide +kernel
theorem dX6_giveTurn_46 : decode cX6_giveTurn 46 = .ok (.istore 5, 2) := by decide +kernel
theorem dX6_giveTurn_48 : decode cX6_giveTurn 48 = .ok (.iload 5, 2) := by decide +kernel
theorem dX6_giveTurn_50 : decode cX6_giveTurn 50 = .ok (.iload 4, 2) := by decide +kernel
theorem dX6_giveTurn_52 : decode cX6_giveTurn 52 = .ok (.if_icmp .le 25, 3) := by decide +kernel
theorem dX6_giveTurn_55 : decode cX6_giveTurn 55 = .ok (.aload_n 0, 1) := by decide +kernel
theorem dX6_giveTurn_56 : decode cX6_giveTurn 56 = .ok (.getfield 25, 3) := by decide +kernel
theorem dX6_giveTurn_59 : decode cX6_giveTurn 59 = .ok (.iload 5, 2) := by decide +kernel
theorem dX6_giveTurn_61 : decode cX6_giveTurn 61 = .ok (.aload_n 0, 1) := by decide +kernel
theorem dX6_giveTurn_62 : decode cX6_giveTurn 62 = .ok (.getfield 25, 3) := by decide +kernel
theorem dX6_giveTurn_65 : decode cX6_giveTurn 65 = .ok (.iload 5, 2) := by decide +kernel
theorem dX6_giveTurn_67 : decode cX6_giveTurn 67 = .ok (.iconst 1, 1) := by decide +kernel
theorem dX6_giveTurn_68 : decode cX6_giveTurn 68 = .ok (.isub, 1) := by decide +kernel
theorem dX6_giveTurn_69 : decode cX6_giveTurn 69 = .ok (.iaload, 1) := by decide +kernel
theorem dX6_giveTurn_70 : decode cX6_giveTurn 70 = .ok (.iastore, 1) := by decide +kernel
theorem dX6_giveTurn_71 : decode cX6_giveTurn 71 = .ok (.iinc 5 (-1), 3) := by decide +kernel
theorem dX6_giveTurn_74 : decode cX6_giveTurn 74 = .ok (.goto (-26), 3) := by decide +kernel
theorem dX6_giveTurn_77 : decode cX6_giveTurn 77 = .ok (.aload_n 0, 1) := by decide +kernel
theorem dX6_giveTurn_78 : decode cX6_giveTurn 78 = .ok (.getfield 25, 3) := by decide +kernel
theorem dX6_giveTurn_81 : decode cX6_giveTurn 81 = .ok (.iload 4, 2) := by decide +kernel
theorem dX6_giveTurn_83 : decode cX6_giveTurn 83 = .ok (.iload_n 2, 1) := by decide +kernel
theorem dX6_giveTurn_84 : decode cX6_giveTurn 84 = .ok (.iastore, 1) := by decide +kernel
theorem dX6_giveTurn_85 : decode cX6_giveTurn 85 = .ok (.return_, 1) := by decide +kernel
theorem dX7_init_0 : decode cX7_init 0 = .ok (.aload_n 0, 1) := by decide +kernel
theorem dX7_init_1 : decode cX7_init 1 = .ok (.invokespecial 3, 3) := by decide +kernel
theorem dX7_init_4 : decode cX7_init 4 = .ok (.aload_n 0, 1) := by decide +kernel
theorem dX7_init_5 : decode cX7_init 5 = .ok (.new 9, 3) := by decide +kernel
theorem dX7_init_8 : decode cX7_init 8 = .ok (.dup, 1) := by decide +kernel
theorem dX7_init_9 : decode cX7_init 9 = .ok (.invokespecial 11, 3) := by decide +kernel
theorem dX7_init_12 : decode cX7_init 12 = .ok (.putfield 12, 3) := by decide +kernel
theorem dX7_init_15 : decode cX7_init 15 = .ok (.aload_n 0, 1) := by decide +kernel
theorem dX7_init_16 : decode cX7_init 16 = .ok (.new 9, 3) := by decide +kernel
theorem dX7_init_19 : decode cX7_init 19 = .ok (.dup, 1) := by decide +kernel
theorem dX7_init_20 : decode cX7_init 20 = .ok (.invokespecial 11, 3) := by decide +kernel
theorem dX7_init_23 : decode cX7_init 23 = .ok (.putfield 18, 3) := by decide +kernel
theorem dX7_init_26 : decode cX7_init 26 = .ok (.return_, 1) := by decide +kernel
theorem dX7_begin_0 : decode cX7_begin 0 = .ok (.aload_n 0, 1) := by decide +kernel
theorem dX7_begin_1 : decode cX7_begin 1 = .ok (.getfield 12, 3) := by decide +kernel
theorem dX7_begin_4 : decode cX7_begin 4 = .ok (.aload_n 1, 1) := by decide +kernel
theorem dX7_begin_5 : decode cX7_begin 5 = .ok (.invokevirtual 21, 3) := by decide +kernel
theorem dX7_begin_8 : decode cX7_begin 8 = .ok (.aload_n 0, 1) := by decide +kernel
theorem dX7_begin_9 : decode cX7_begin 9 = .ok (.getfield 12, 3) := by decide +kernel
theorem dX7_begin_12 : decode cX7_begin 12 = .ok (.getfield 25, 3) := by decide +kernel
theorem dX7_begin_15 : decode cX7_begin 15 = .ok (.istore_n 2, 1) := by decide +kernel
theorem dX7_begin_16 : decode cX7_begin 16 = .ok (.iconst 0, 1) := by decide +kernel
theorem dX7_begin_17 : decode cX7_begin 17 = .ok (.istore_n 3, 1) := by decide +kernel
theorem dX7_begin_18 : decode cX7_begin 18 = .ok (.iload_n 3, 1) := by decide +kernel
theorem dX7_begin_19 : decode cX7_begin 19 = .ok (.iload_n 2, 1) := by decide +kernel
theorem dX7_begin_20 : decode cX7_begin 20 = .ok (.if_icmp .ge 17, 3) := by decide +kernel
theorem dX7_begin_23 : decode cX7_begin 23 = .ok (.aload_n 0, 1) := by decide +kernel
theorem dX7_begin_24 : decode cX7_begin 24 = .ok (.getfield 12, 3) := by decide +kernel
theorem dX7_begin_27 : decode cX7_begin 27 = .ok (.iconst 0, 1) := by decide +kernel
theorem dX7_begin_28 : decode cX7_begin 28 = .ok (.invokevirtual 29, 3) := by decide +kernel
theorem dX7_begin_31 : decode cX7_begin 31 = .ok (.iinc 3 1, 3) := by decide +kernel
theorem dX7_begin_34 : decode cX7_begin 34 = .ok (.goto (-16), 3) := by decide +kernel
theorem dX7_begin_37 : decode cX7_begin 37 = .ok (.return_, 1) := by decide +kernel
theorem dX7_burnOneMore_0 : decode cX7_burnOneMore 0 = .ok (.aload_n 0, 1) := by decide +kernel
theorem dX7_burnOneMore_1 : decode cX7_burnOneMore 1 = .ok (.getfield 12, 3) := by decide +kernel
theorem dX7_burnOneMore_4 : decode cX7_burnOneMore 4 = .ok (.iload_n 1, 1) := by decide +kernel
theorem dX7_burnOneMore_5 : decode cX7_burnOneMore 5 = .ok (.iload_n 2, 1) := by decide +kernel
theorem dX7_burnOneMore_6 : decode cX7_burnOneMore 6 = .ok (.invokevirtual 33, 3) := by decide +kernel
theorem dX7_burnOneMore_9 : decode cX7_burnOneMore 9 = .ok (.aload_n 0, 1) := by decide +kernel
theorem dX7_burnOneMore_10 : decode cX7_burnOneMore 10 = .ok (.getfield 12, 3) := by decide +kernel
theorem dX7_burnOneMore_13 : decode cX7_burnOneMore 13 = .ok (.iconst 0, 1) := by decide +kernel
theorem dX7_burnOneMore_14 : decode cX7_burnOneMore 14 = .ok (.invokevirtual 29, 3) := by decide +kernel
theorem dX7_burnOneMore_17 : decode cX7_burnOneMore 17 = .ok (.return_, 1) := by decide +kernel
theorem dX7_warmthAfter_0 : decode cX7_warmthAfter 0 = .ok (.aload_n 0, 1) := by decide +kernel
theorem dX7_warmthAfter_1 : decode cX7_warmthAfter 1 = .ok (.getfield 18, 3) := by decide +kernel
theorem dX7_warmthAfter_4 : decode cX7_warmthAfter 4 = .ok (.aload_n 0, 1) := by decide +kernel
theorem dX7_warmthAfter_5 : decode cX7_warmthAfter 5 = .ok (.getfield 12, 3) := by decide +kernel
theorem dX7_warmthAfter_8 : decode cX7_warmthAfter 8 = .ok (.invokevirtual 21, 3) := by decide +kernel
theorem dX7_warmthAfter_11 : decode cX7_warmthAfter 11 = .ok (.iconst 0, 1) := by decide +kernel
theorem dX7_warmthAfter_12 : decode cX7_warmthAfter 12 = .ok (.istore_n 3, 1) := by decide +kernel
theorem dX7_warmthAfter_13 : decode cX7_warmthAfter 13 = .ok (.iload_n 3, 1) := by decide +kernel
theorem dX7_warmthAfter_14 : decode cX7_warmthAfter 14 = .ok (.iload_n 1, 1) := by decide +kernel
theorem dX7_warmthAfter_15 : decode cX7_warmthAfter 15 = .ok (.if_icmp .ge 17, 3) := by decide +kernel
theorem dX7_warmthAfter_18 : decode cX7_warmthAfter 18 = .ok (.aload_n 0, 1) := by decide +kernel
theorem dX7_warmthAfter_19 : decode cX7_warmthAfter 19 = .ok (.getfield 18, 3) := by decide +kernel
theorem dX7_warmthAfter_22 : decode cX7_warmthAfter 22 = .ok (.iconst 0, 1) := by decide +kernel
theorem dX7_warmthAfter_23 : decode cX7_warmthAfter 23 = .ok (.invokevirtual 29, 3) := by decide +kernel
theorem dX7_warmthAfter_26 : decode cX7_warmthAfter 26 = .ok (.iinc 3 1, 3) := by decide +kernel
theorem dX7_warmthAfter_29 : decode cX7_warmthAfter 29 = .ok (.goto (-16), 3) := by decide +kernel
theorem dX7_warmthAfter_32 : decode cX7_warmthAfter 32 = .ok (.aload_n 0, 1) := by decide +kernel
theorem dX7_warmthAfter_33 : decode cX7_warmthAfter 33 = .ok (.getfield 18, 3) := by decide +kernel
theorem dX7_warmthAfter_36 : decode cX7_warmthAfter 36 = .ok (.iload_n 2, 1) := by decide +kernel
theorem dX7_warmthAfter_37 : decode cX7_warmthAfter 37 = .ok (.iconst 0, 1) := by decide +kernel
theorem dX7_warmthAfter_38 : decode cX7_warmthAfter 38 = .ok (.invokevirtual 37, 3) := by decide +kernel
theorem dX7_warmthAfter_41 : decode cX7_warmthAfter 41 = .ok (.lreturn, 1) := by decide +kernel
theorem dX8_init_0 : decode cX8_init 0 = .ok (.aload_n 0, 1) := by decide +kernel
theorem dX8_init_1 : decode cX8_init 1 = .ok (.invokespecial 1, 3) := by decide +kernel
theorem dX8_init_4 : decode cX8_init 4 = .ok (.aload_n 0, 1) := by decide +kernel
theorem dX8_init_5 : decode cX8_init 5 = .ok (.new 7, 3) := by decide +kernel
theorem dX8_init_8 : decode cX8_init 8 = .ok (.dup, 1) := by decide +kernel
theorem dX8_init_9 : decode cX8_init 9 = .ok (.invokespecial 9, 3) := by decide +kernel
theorem dX8_init_12 : decode cX8_init 12 = .ok (.putfield 10, 3) := by decide +kernel
theorem dX8_init_15 : decode cX8_init 15 = .ok (.aload_n 0, 1) := by decide +kernel
theorem dX8_init_16 : decode cX8_init 16 = .ok (.new 16, 3) := by decide +kernel
theorem dX8_init_19 : decode cX8_init 19 = .ok (.dup, 1) := by decide +kernel
theorem dX8_init_20 : decode cX8_init 20 = .ok (.invokespecial 18, 3) := by decide +kernel
theorem dX8_init_23 : decode cX8_init 23 = .ok (.putfield 19, 3) := by decide +kernel
theorem dX8_init_26 : decode cX8_init 26 = .ok (.aload_n 0, 1) := by decide +kernel
theorem dX8_init_27 : decode cX8_init 27 = .ok (.new 23, 3) := by decide +kernel
theorem dX8_init_30 : decode cX8_init 30 = .ok (.dup, 1) := by decide +kernel
theorem dX8_init_31 : decode cX8_init 31 = .ok (.aload_n 0, 1) := by decide +kernel
theorem dX8_init_32 : decode cX8_init 32 = .ok (.getfield 19, 3) := by decide +kernel
theorem dX8_init_35 : decode cX8_init 35 = .ok (.invokespecial 25, 3) := by decide +kernel
theorem dX8_init_38 : decode cX8_init 38 = .ok (.putfield 28, 3) := by decide +kernel
theorem dX8_init_41 : decode cX8_init 41 = .ok (.aload_n 0, 1) := by decide +kernel
theorem dX8_init_42 : decode cX8_init 42 = .ok (.new 32, 3) := by decide +kernel
theorem dX8_init_45 : decode cX8_init 45 = .ok (.dup, 1) := by decide +kernel
theorem dX8_init_46 : decode cX8_init 46 = .ok (.aload_n 0, 1) := by decide +kernel
theorem dX8_init_47 : decode cX8_init 47 = .ok (.getfield 19, 3) := by decide +kernel
theorem dX8_init_50 : decode cX8_init 50 = .ok (.invokespecial 34, 3) := by decide +kernel
theorem dX8_init_53 : decode cX8_init 53 = .ok (.putfield 35, 3) := by decide +kernel
theorem dX8_init_56 : decode cX8_init 56 = .ok (.aload_n 0, 1) := by decide +kernel
theorem dX8_init_57 : decode cX8_init 57 = .ok (.new 39, 3) := by decide +kernel
theorem dX8_init_60 : decode cX8_init 60 = .ok (.dup, 1) := by decide +kernel
theorem dX8_init_61 : decode cX8_init 61 = .ok (.invokespecial 41, 3) := by decide +kernel
theorem dX8_init_64 : decode cX8_init 64 = .ok (.putfield 42, 3) := by decide +kernel
theorem dX8_init_67 : decode cX8_init 67 = .ok (.aload_n 0, 1) := by decide +kernel
theorem dX8_init_68 : decode cX8_init 68 = .ok (.new 46, 3) := by decide +kernel
theorem dX8_init_71 : decode cX8_init 71 = .ok (.dup, 1) := by decide +kernel
theorem dX8_init_72 : decode cX8_init 72 = .ok (.invokespecial 48, 3) := by decide +kernel
theorem dX8_init_75 : decode cX8_init 75 = .ok (.putfield 49, 3) := by decide +kernel
theorem dX8_init_78 : decode cX8_init 78 = .ok (.aload_n 0, 1) := by decide +kernel
theorem dX8_init_79 : decode cX8_init 79 = .ok (.new 53, 3) := by decide +kernel
theorem dX8_init_82 : decode cX8_init 82 = .ok (.dup, 1) := by decide +kernel
theorem dX8_init_83 : decode cX8_init 83 = .ok (.invokespecial 55, 3) := by decide +kernel
theorem dX8_init_86 : decode cX8_init 86 = .ok (.putfield 56, 3) := by decide +kernel
theorem dX8_init_89 : decode cX8_init 89 = .ok (.aload_n 0, 1) := by decide +kernel
theorem dX8_init_90 : decode cX8_init 90 = .ok (.iconst 0, 1) := by decide +kernel
theorem dX8_init_91 : decode cX8_init 91 = .ok (.putfield 60, 3) := by decide +kernel
theorem dX8_init_94 : decode cX8_init 94 = .ok (.return_, 1) := by decide +kernel
theorem dX8_air_0 : decode cX8_air 0 = .ok (.iload_n 1, 1) := by decide +kernel
theorem dX8_air_1 : decode cX8_air 1 = .ok (.iconst 0, 1) := by decide +kernel
theorem dX8_air_2 : decode cX8_air 2 = .ok (.bipush 40, 2) := by decide +kernel
theorem dX8_air_4 : decode cX8_air 4 = .ok (.invokestatic 64, 3) := by decide +kernel
theorem dX8_air_7 : decode cX8_air 7 = .ok (.ifCond .ne 6, 3) := by decide +kernel
theorem dX8_air_10 : decode cX8_air 10 = .ok (.bipush (-2), 2) := by decide +kernel
theorem dX8_air_12 : decode cX8_air 12 = .ok (.ireturn, 1) := by decide +kernel
theorem dX8_air_13 : decode cX8_air 13 = .ok (.aload_n 0, 1) := by decide +kernel
theorem dX8_air_14 : decode cX8_air 14 = .ok (.getfield 10, 3) := by decide +kernel
theorem dX8_air_17 : decode cX8_air 17 = .ok (.getfield 68, 3) := by decide +kernel
theorem dX8_air_20 : decode cX8_air 20 = .ok (.istore_n 2, 1) := by decide +kernel
theorem dX8_air_21 : decode cX8_air 21 = .ok (.aload_n 0, 1) := by decide +kernel
theorem dX8_air_22 : decode cX8_air 22 = .ok (.getfield 10, 3) := by decide +kernel
theorem dX8_air_25 : decode cX8_air 25 = .ok (.iload_n 1, 1) := by decide +kernel
theorem dX8_air_26 : decode cX8_air 26 = .ok (.putfield 68, 3) := by decide +kernel
theorem dX8_air_29 : decode cX8_air 29 = .ok (.iload_n 2, 1) := by decide +kernel
theorem dX8_air_30 : decode cX8_air 30 = .ok (.ireturn, 1) := by decide +kernel
theorem dX8_damp_0 : decode cX8_damp 0 = .ok (.iload_n 1, 1) := by decide +kernel
theorem dX8_damp_1 : decode cX8_damp 1 = .ok (.invokestatic 71, 3) := by decide +kernel
theorem dX8_damp_4 : decode cX8_damp 4 = .ok (.ifCond .eq 14, 3) := by decide +kernel
theorem dX8_damp_7 : decode cX8_damp 7 = .ok (.iload_n 2, 1) := by decide +kernel
theorem dX8_damp_8 : decode cX8_damp 8 = .ok (.iconst 0, 1) := by decide +kernel
theorem dX8_damp_9 : decode cX8_damp 9 = .ok (.sipush 1000, 3) := by decide +kernel
theorem dX8_damp_12 : decode cX8_damp 12 = .ok (.invokestatic 64, 3) := by decide +kernel
theorem dX8_damp_15 : decode cX8_damp 15 = .ok (.ifCond .ne 6, 3) := by decide +kernel
theorem dX8_damp_18 : decode cX8_damp 18 = .ok (.bipush (-2), 2) := by decide +kernel
theorem dX8_damp_20 : decode cX8_damp 20 = .ok (.ireturn, 1) := by decide +kernel
theorem dX8_damp_21 : decode cX8_damp 21 = .ok (.aload_n 0, 1) := by decide +kernel
theorem dX8_damp_22 : decode cX8_damp 22 = .ok (.getfield 10, 3) := by decide +kernel
theorem dX8_damp_25 : decode cX8_damp 25 = .ok (.getfield 75, 3) := by decide +kernel
theorem dX8_damp_28 : decode cX8_damp 28 = .ok (.iload_n 1, 1) := by decide +kernel
theorem dX8_damp_29 : decode cX8_damp 29 = .ok (.iaload, 1) := by decide +kernel
theorem dX8_damp_30 : decode cX8_damp 30 = .ok (.istore_n 3, 1) := by decide +kernel
theorem dX8_damp_31 : decode cX8_damp 31 = .ok (.aload_n 0, 1) := by decide +kernel
theorem dX8_damp_32 : decode cX8_damp 32 = .ok (.getfield 10, 3) := by decide +kernel
theorem dX8_damp_35 : decode cX8_damp 35 = .ok (.getfield 75, 3) := by decide +kernel
theorem dX8_damp_38 : decode cX8_damp 38 = .ok (.iload_n 1, 1) := by decide +kernel
theorem dX8_damp_39 : decode cX8_damp 39 = .ok (.iload_n 2, 1) := by decide +kernel
theorem dX8_damp_40 : decode cX8_damp 40 = .ok (.iastore, 1) := by decide +kernel
theorem dX8_damp_41 : decode cX8_damp 41 = .ok (.iload_n 3, 1) := by decide +kernel
theorem dX8_damp_42 : decode cX8_damp 42 = .ok (.ireturn, 1) := by decide +kernel
theorem dX8_crack_0 : decode cX8_crack 0 = .ok (.iload_n 1, 1) := by decide +kernel
theorem dX8_crack_1 : decode cX8_crack 1 = .ok (.invokestatic 71, 3) := by decide +kernel
theorem dX8_crack_4 : decode cX8_crack 4 = .ok (.ifCond .eq 12, 3) := by decide +kernel
theorem dX8_crack_7 : decode cX8_crack 7 = .ok (.iload_n 2, 1) := by decide +kernel
theorem dX8_crack_8 : decode cX8_crack 8 = .ok (.iconst 0, 1) := by decide +kernel
theorem dX8_crack_9 : decode cX8_crack 9 = .ok (.iconst 4, 1) := by decide +kernel
theorem dX8_crack_10 : decode cX8_crack 10 = .ok (.invokestatic 64, 3) := by decide +kernel
theorem dX8_crack_13 : decode cX8_crack 13 = .ok (.ifCond .ne 6, 3) := by decide +kernel
theorem dX8_crack_16 : decode cX8_crack 16 = .ok (.bipush (-2), 2) := by decide +kernel
theorem dX8_crack_18 : decode cX8_crack 18 = .ok (.ireturn, 1) := by decide +kernel
theorem dX8_crack_19 : decode cX8_crack 19 = .ok (.aload_n 0, 1) := by decide +kernel
theorem dX8_crack_20 : decode cX8_crack 20 = .ok (.getfield 10, 3) := by decide +kernel
theorem dX8_crack_23 : decode cX8_crack 23 = .ok (.getfield 79, 3) := by decide +kernel
theorem dX8_crack_26 : decode cX8_crack 26 = .ok (.iload_n 1, 1) := by decide +kernel
theorem dX8_crack_27 : decode cX8_crack 27 = .ok (.iaload, 1) := by decide +kernel
theorem dX8_crack_28 : decode cX8_crack 28 = .ok (.istore_n 3, 1) := by decide +kernel
theorem dX8_crack_29 : decode cX8_crack 29 = .ok (.aload_n 0, 1) := by decide +kernel
theorem dX8_crack_30 : decode cX8_crack 30 = .ok (.getfield 10, 3) := by decide +kernel
theorem dX8_crack_33 : decode cX8_crack 33 = .ok (.getfield 79, 3) := by decide +kernel
theorem dX8_crack_36 : decode cX8_crack 36 = .ok (.iload_n 1, 1) := by decide +kernel
theorem dX8_crack_37 : decode cX8_crack 37 = .ok (.iload_n 2, 1) := by decide +kernel
theorem dX8_crack_38 : decode cX8_crack 38 = .ok (.iastore, 1) := by decide +kernel
theorem dX8_crack_39 : decode cX8_crack 39 = .ok (.iload_n 3, 1) := by decide +kernel
theorem dX8_crack_40 : decode cX8_crack 40 = .ok (.ireturn, 1) := by decide +kernel
theorem dX8_fire_0 : decode cX8_fire 0 = .ok (.iload_n 1, 1) := by decide +kernel
theorem dX8_fire_1 : decode cX8_fire 1 = .ok (.iconst 0, 1) := by decide +kernel
theorem dX8_fire_2 : decode cX8_fire 2 = .ok (.iconst 2, 1) := by decide +kernel
theorem dX8_fire_3 : decode cX8_fire 3 = .ok (.invokestatic 64, 3) := by decide +kernel
theorem dX8_fire_6 : decode cX8_fire 6 = .ok (.ifCond .ne 6, 3) := by decide +kernel
theorem dX8_fire_9 : decode cX8_fire 9 = .ok (.bipush (-2), 2) := by decide +kernel
theorem dX8_fire_11 : decode cX8_fire 11 = .ok (.ireturn, 1) := by decide +kernel
theorem dX8_fire_12 : decode cX8_fire 12 = .ok (.aload_n 0, 1) := by decide +kernel
theorem dX8_fire_13 : decode cX8_fire 13 = .ok (.getfield 10, 3) := by decide +kernel
theorem dX8_fire_16 : decode cX8_fire 16 = .ok (.getfield 82, 3) := by decide +kernel
theorem dX8_fire_19 : decode cX8_fire 19 = .ok (.istore_n 2, 1) := by decide +kernel
theorem dX8_fire_20 : decode cX8_fire 20 = .ok (.aload_n 0, 1) := by decide +kernel
theorem dX8_fire_21 : decode cX8_fire 21 = .ok (.getfield 10, 3) := by decide +kernel
theorem dX8_fire_24 : decode cX8_fire 24 = .ok (.iload_n 1, 1) := by decide +kernel
theorem dX8_fire_25 : decode cX8_fire 25 = .ok (.putfield 82, 3) := by decide +kernel
theorem dX8_fire_28 : decode cX8_fire 28 = .ok (.iload_n 2, 1) := by decide +kernel
theorem dX8_fire_29 : decode cX8_fire 29 = .ok (.ireturn, 1) := by decide +kernel
theorem dX8_log_0 : decode cX8_log 0 = .ok (.iload_n 1, 1) := by decide +kernel
theorem dX8_log_1 : decode cX8_log 1 = .ok (.iload_n 2, 1) := by decide +kernel
theorem dX8_log_2 : decode cX8_log 2 = .ok (.invokestatic 85, 3) := by decide +kernel
theorem dX8_log_5 : decode cX8_log 5 = .ok (.ifCond .ne 6, 3) := by decide +kernel
theorem dX8_log_8 : decode cX8_log 8 = .ok (.bipush (-2), 2) := by decide +kernel
theorem dX8_log_10 : decode cX8_log 10 = .ok (.ireturn, 1) := by decide +kernel
theorem dX8_log_11 : decode cX8_log 11 = .ok (.aload_n 0, 1) := by decide +kernel
theorem dX8_log_12 : decode cX8_log 12 = .ok (.getfield 10, 3) := by decide +kernel
theorem dX8_log_15 : decode cX8_log 15 = .ok (.getfield 89, 3) := by decide +kernel
theorem dX8_log_18 : decode cX8_log 18 = .ok (.bipush 30, 2) := by decide +kernel
theorem dX8_log_20 : decode cX8_log 20 = .ok (.if_icmp .lt 6, 3) := by decide +kernel
theorem dX8_log_23 : decode cX8_log 23 = .ok (.bipush (-4), 2) := by decide +kernel
theorem dX8_log_25 : decode cX8_log 25 = .ok (.ireturn, 1) := by decide +kernel
theorem dX8_log_26 : decode cX8_log 26 = .ok (.aload_n 0, 1) := by decide +kernel
theorem dX8_log_27 : decode cX8_log 27 = .ok (.getfield 10, 3) := by decide +kernel
theorem dX8_log_30 : decode cX8_log 30 = .ok (.iload_n 1, 1) := by decide +kernel
theorem dX8_log_31 : decode cX8_log 31 = .ok (.iload_n 2, 1) := by decide +kernel
theorem dX8_log_32 : decode cX8_log 32 = .ok (.invokevirtual 92, 3) := by decide +kernel
theorem dX8_log_35 : decode cX8_log 35 = .ok (.aload_n 0, 1) := by decide +kernel
theorem dX8_log_36 : decode cX8_log 36 = .ok (.getfield 10, 3) := by decide +kernel
theorem dX8_log_39 : decode cX8_log 39 = .ok (.getfield 89, 3) := by decide +kernel
theorem dX8_log_42 : decode cX8_log 42 = .ok (.ireturn, 1) := by decide +kernel
theorem dX8_ticks_0 : decode cX8_ticks 0 = .ok (.iload_n 1, 1) := by decide +kernel
theorem dX8_ticks_1 : decode cX8_ticks 1 = .ok (.iconst 1, 1) := by decide +kernel
theorem dX8_ticks_2 : decode cX8_ticks 2 = .ok (.bipush 60, 2) := by decide +kernel
theorem dX8_ticks_4 : decode cX8_ticks 4 = .ok (.invokestatic 64, 3) := by decide +kernel
theorem dX8_ticks_7 : decode cX8_ticks 7 = .ok (.ifCond .ne 6, 3) := by decide +kernel
theorem dX8_ticks_10 : decode cX8_ticks 10 = .ok (.bipush (-2), 2) := by decide +kernel
theorem dX8_ticks_12 : decode cX8_ticks 12 = .ok (.ireturn, 1) := by decide +kernel
theorem dX8_ticks_13 : decode cX8_ticks 13 = .ok (.iconst 0, 1) := by decide +kernel
theorem dX8_ticks_14 : decode cX8_ticks 14 = .ok (.istore_n 2, 1) := by decide +kernel
theorem dX8_ticks_15 : decode cX8_ticks 15 = .ok (.iload_n 2, 1) := by decide +kernel
theorem dX8_ticks_16 : decode cX8_ticks 16 = .ok (.iload_n 1, 1) := by decide +kernel
theorem dX8_ticks_17 : decode cX8_ticks 17 = .ok (.if_icmp .ge 52, 3) := by decide +kernel
theorem dX8_ticks_20 : decode cX8_ticks 20 = .ok (.aload_n 0, 1) := by decide +kernel
theorem dX8_ticks_21 : decode cX8_ticks 21 = .ok (.getfield 10, 3) := by decide +kernel
theorem dX8_ticks_24 : decode cX8_ticks 24 = .ok (.aload_n 0, 1) := by decide +kernel
theorem dX8_ticks_25 : decode cX8_ticks 25 = .ok (.getfield 28, 3) := by decide +kernel
theorem dX8_ticks_28 : decode cX8_ticks 28 = .ok (.getfield 96, 3) := by decide +kernel
theorem dX8_ticks_31 : decode cX8_ticks 31 = .ok (.invokevirtual 100, 3) := by decide +kernel
theorem dX8_ticks_34 : decode cX8_ticks 34 = .ok (.aload_n 0, 1) := by decide +kernel
theorem dX8_ticks_35 : decode cX8_ticks 35 = .ok (.getfield 28, 3) := by decide +kernel
theorem dX8_ticks_38 : decode cX8_ticks 38 = .ok (.aload_n 0, 1) := by decide +kernel
theorem dX8_ticks_39 : decode cX8_ticks 39 = .ok (.getfield 10, 3) := by decide +kernel
theorem dX8_ticks_42 : decode cX8_ticks 42 = .ok (.invokevirtual 104, 3) := by decide +kernel
theorem dX8_ticks_45 : decode cX8_ticks 45 = .ok (.aload_n 0, 1) := by decide +kernel
theorem dX8_ticks_46 : decode cX8_ticks 46 = .ok (.getfield 28, 3) := by decide +kernel
theorem dX8_ticks_49 : decode cX8_ticks 49 = .ok (.iconst 0, 1) := by decide +kernel
theorem dX8_ticks_50 : decode cX8_ticks 50 = .ok (.putfield 96, 3) := by decide +kernel
theorem dX8_ticks_53 : decode cX8_ticks 53 = .ok (.aload_n 0, 1) := by decide +kernel
theorem dX8_ticks_54 : decode cX8_ticks 54 = .ok (.dup, 1) := by decide +kernel
theorem dX8_ticks_55 : decode cX8_ticks 55 = .ok (.getfield 60, 3) := by decide +kernel
theorem dX8_ticks_58 : decode cX8_ticks 58 = .ok (.iconst 1, 1) := by decide +kernel
theorem dX8_ticks_59 : decode cX8_ticks 59 = .ok (.iadd, 1) := by decide +kernel
theorem dX8_ticks_60 : decode cX8_ticks 60 = .ok (.putfield 60, 3) := by decide +kernel
theorem dX8_ticks_63 : decode cX8_ticks 63 = .ok (.iinc 2 1, 3) := by decide +kernel
theorem dX8_ticks_66 : decode cX8_ticks 66 = .ok (.goto (-51), 3) := by decide +kernel
theorem dX8_ticks_69 : decode cX8_ticks 69 = .ok (.aload_n 0, 1) := by decide +kernel
theorem dX8_ticks_70 : decode cX8_ticks 70 = .ok (.getfield 10, 3) := by decide +kernel
theorem dX8_ticks_73 : decode cX8_ticks 73 = .ok (.getfield 89, 3) := by decide +kernel
theorem dX8_ticks_76 : decode cX8_ticks 76 = .ok (.ireturn, 1) := by decide +kernel
theorem dX8_heat_0 : decode cX8_heat 0 = .ok (.iload_n 1, 1) := by decide +kernel
theorem dX8_heat_1 : decode cX8_heat 1 = .ok (.invokestatic 71, 3) := by decide +kernel
theorem dX8_heat_4 : decode cX8_heat 4 = .ok (.ifCond .eq 21, 3) := by decide +kernel
theorem dX8_heat_7 : decode cX8_heat 7 = .ok (.iload_n 2, 1) := by decide +kernel
theorem dX8_heat_8 : decode cX8_heat 8 = .ok (.iconst 0, 1) := by decide +kernel
theorem dX8_heat_9 : decode cX8_heat 9 = .ok (.iconst 2, 1) := by decide +kernel
theorem dX8_heat_10 : decode cX8_heat 10 = .ok (.invokestatic 64, 3) := by decide +kernel
theorem dX8_heat_13 : decode cX8_heat 13 = .ok (.ifCond .eq 12, 3) := by decide +kernel
theorem dX8_heat_16 : decode cX8_heat 16 = .ok (.iload_n 3, 1) := by decide +kernel
theorem dX8_heat_17 : decode cX8_heat 17 = .ok (.iconst 0, 1) := by decide +kernel
theorem dX8_heat_18 : decode cX8_heat 18 = .ok (.iconst 1, 1) := by decide +kernel
theorem dX8_heat_19 : decode cX8_heat 19 = .ok (.invokestatic 64, 3) := by decide +kernel
theorem dX8_heat_22 : decode cX8_heat 22 = .ok (.ifCond .ne 7, 3) := by decide +kernel
theorem dX8_heat_25 : decode cX8_heat 25 = .ok (.ldc2_w 108, 3) := by decide +kernel
theorem dX8_heat_28 : decode cX8_heat 28 = .ok (.lreturn, 1) := by decide +kernel
theorem dX8_heat_29 : decode cX8_heat 29 = .ok (.iload_n 3, 1) := by decide +kernel
theorem dX8_heat_30 : decode cX8_heat 30 = .ok (.ifCond .ne 15, 3) := by decide +kernel
theorem dX8_heat_33 : decode cX8_heat 33 = .ok (.aload_n 0, 1) := by decide +kernel
theorem dX8_heat_34 : decode cX8_heat 34 = .ok (.getfield 10, 3) := by decide +kernel
theorem dX8_heat_37 : decode cX8_heat 37 = .ok (.iload_n 1, 1) := by decide +kernel
theorem dX8_heat_38 : decode cX8_heat 38 = .ok (.iload_n 2, 1) := by decide +kernel
theorem dX8_heat_39 : decode cX8_heat 39 = .ok (.invokevirtual 110, 3) := by decide +kernel
theorem dX8_heat_42 : decode cX8_heat 42 = .ok (.goto 12, 3) := by decide +kernel
theorem dX8_heat_45 : decode cX8_heat 45 = .ok (.aload_n 0, 1) := by decide +kernel
theorem dX8_heat_46 : decode cX8_heat 46 = .ok (.getfield 10, 3) := by decide +kernel
theorem dX8_heat_49 : decode cX8_heat 49 = .ok (.iload_n 1, 1) := by decide +kernel
theorem dX8_heat_50 : decode cX8_heat 50 = .ok (.iload_n 2, 1) := by decide +kernel
theorem dX8_heat_51 : decode cX8_heat 51 = .ok (.invokevirtual 114, 3) := by decide +kernel
theorem dX8_heat_54 : decode cX8_heat 54 = .ok (.lreturn, 1) := by decide +kernel
theorem dX8_sum_0 : decode cX8_sum 0 = .ok (.iload_n 1, 1) := by decide +kernel
theorem dX8_sum_1 : decode cX8_sum 1 = .ok (.tableswitch 71 0 4 #[35, 43, 51, 59, 67], 35) := by decide +kernel
theorem dX8_sum_36 : decode cX8_sum 36 = .ok (.aload_n 0, 1) := by decide +kernel
theorem dX8_sum_37 : decode cX8_sum 37 = .ok (.getfield 10, 3) := by decide +kernel
theorem dX8_sum_40 : decode cX8_sum 40 = .ok (.getfield 117, 3) := by decide +kernel
theorem dX8_sum_43 : decode cX8_sum 43 = .ok (.lreturn, 1) := by decide +kernel
theorem dX8_sum_44 : decode cX8_sum 44 = .ok (.aload_n 0, 1) := by decide +kernel
theorem dX8_sum_45 : decode cX8_sum 45 = .ok (.getfield 10, 3) := by decide +kernel
theorem dX8_sum_48 : decode cX8_sum 48 = .ok (.invokevirtual 121, 3) := by decide +kernel
theorem dX8_sum_51 : decode cX8_sum 51 = .ok (.lreturn, 1) := by decide +kernel
theorem dX8_sum_52 : decode cX8_sum 52 = .ok (.aload_n 0, 1) := by decide +kernel
theorem dX8_sum_53 : decode cX8_sum 53 = .ok (.getfield 10, 3) := by decide +kernel
theorem dX8_sum_56 : decode cX8_sum 56 = .ok (.getfield 125, 3) := by decide +kernel
theorem dX8_sum_59 : decode cX8_sum 59 = .ok (.lreturn, 1) := by decide +kernel
theorem dX8_sum_60 : decode cX8_sum 60 = .ok (.aload_n 0, 1) := by decide +kernel
theorem dX8_sum_61 : decode cX8_sum 61 = .ok (.getfield 28, 3) := by decide +kernel
theorem dX8_sum_64 : decode cX8_sum 64 = .ok (.getfield 128, 3) := by decide +kernel
theorem dX8_sum_67 : decode cX8_sum 67 = .ok (.lreturn, 1) := by decide +kernel
theorem dX8_sum_68 : decode cX8_sum 68 = .ok (.ldc2_w 131, 3) := by decide +kernel
theorem dX8_sum_71 : decode cX8_sum 71 = .ok (.lreturn, 1) := by decide +kernel
theorem dX8_sum_72 : decode cX8_sum 72 = .ok (.ldc2_w 108, 3) := by decide +kernel
theorem dX8_sum_75 : decode cX8_sum 75 = .ok (.lreturn, 1) := by decide +kernel
theorem dX8_kind_0 : decode cX8_kind 0 = .ok (.iload_n 1, 1) := by decide +kernel
theorem dX8_kind_1 : decode cX8_kind 1 = .ok (.iconst 1, 1) := by decide +kernel
theorem dX8_kind_2 : decode cX8_kind 2 = .ok (.iconst 3, 1) := by decide +kernel
theorem dX8_kind_3 : decode cX8_kind 3 = .ok (.invokestatic 64, 3) := by decide +kernel
theorem dX8_kind_6 : decode cX8_kind 6 = .ok (.ifCond .eq 12, 3) := by decide +kernel
theorem dX8_kind_9 : decode cX8_kind 9 = .ok (.iload_n 2, 1) := by decide +kernel
theorem dX8_kind_10 : decode cX8_kind 10 = .ok (.ifCond .eq 11, 3) := by decide +kernel
theorem dX8_kind_13 : decode cX8_kind 13 = .ok (.iload_n 1, 1) := by decide +kernel
theorem dX8_kind_14 : decode cX8_kind 14 = .ok (.iconst 1, 1) := by decide +kernel
theorem dX8_kind_15 : decode cX8_kind 15 = .ok (.if_icmp .ne 6, 3) := by decide +kernel
theorem dX8_kind_18 : decode cX8_kind 18 = .ok (.bipush (-2), 2) := by decide +kernel
theorem dX8_kind_20 : decode cX8_kind 20 = .ok (.ireturn, 1) := by decide +kernel
theorem dX8_kind_21 : decode cX8_kind 21 = .ok (.iload_n 3, 1) := by decide +kernel
theorem dX8_kind_22 : decode cX8_kind 22 = .ok (.iconst 1, 1) := by decide +kernel
theorem dX8_kind_23 : decode cX8_kind 23 = .ok (.bipush 30, 2) := by decide +kernel
theorem dX8_kind_25 : decode cX8_kind 25 = .ok (.invokestatic 64, 3) := by decide +kernel
theorem dX8_kind_28 : decode cX8_kind 28 = .ok (.ifCond .eq 14, 3) := by decide +kernel
theorem dX8_kind_31 : decode cX8_kind 31 = .ok (.iload 4, 2) := by decide +kernel
theorem dX8_kind_33 : decode cX8_kind 33 = .ok (.iload_n 3, 1) := by decide +kernel
theorem dX8_kind_34 : decode cX8_kind 34 = .ok (.bipush 60, 2) := by decide +kernel
theorem dX8_kind_36 : decode cX8_kind 36 = .ok (.invokestatic 64, 3) := by decide +kernel
theorem dX8_kind_39 : decode cX8_kind 39 = .ok (.ifCond .ne 6, 3) := by decide +kernel
theorem dX8_kind_42 : decode cX8_kind 42 = .ok (.bipush (-2), 2) := by decide +kernel
theorem dX8_kind_44 : decode cX8_kind 44 = .ok (.ireturn, 1) := by decide +kernel
theorem dX8_kind_45 : decode cX8_kind 45 = .ok (.iload 5, 2) := by decide +kernel
theorem dX8_kind_47 : decode cX8_kind 47 = .ok (.iload 6, 2) := by decide +kernel
theorem dX8_kind_49 : decode cX8_kind 49 = .ok (.invokestatic 133, 3) := by decide +kernel
theorem dX8_kind_52 : decode cX8_kind 52 = .ok (.ifCond .eq 14, 3) := by decide +kernel
theorem dX8_kind_55 : decode cX8_kind 55 = .ok (.iload 7, 2) := by decide +kernel
theorem dX8_kind_57 : decode cX8_kind 57 = .ok (.iconst 0, 1) := by decide +kernel
theorem dX8_kind_58 : decode cX8_kind 58 = .ok (.bipush 9, 2) := by decide +kernel
theorem dX8_kind_60 : decode cX8_kind 60 = .ok (.invokestatic 64, 3) := by decide +kernel
theorem dX8_kind_63 : decode cX8_kind 63 = .ok (.ifCond .ne 6, 3) := by decide +kernel
theorem dX8_kind_66 : decode cX8_kind 66 = .ok (.bipush (-2), 2) := by decide +kernel
theorem dX8_kind_68 : decode cX8_kind 68 = .ok (.ireturn, 1) := by decide +kernel
theorem dX8_kind_69 : decode cX8_kind 69 = .ok (.aload_n 0, 1) := by decide +kernel
theorem dX8_kind_70 : decode cX8_kind 70 = .ok (.getfield 19, 3) := by decide +kernel
theorem dX8_kind_73 : decode cX8_kind 73 = .ok (.getfield 136, 3) := by decide +kernel
theorem dX8_kind_76 : decode cX8_kind 76 = .ok (.bipush 8, 2) := by decide +kernel
theorem dX8_kind_78 : decode cX8_kind 78 = .ok (.if_icmp .lt 6, 3) := by decide +kernel
theorem dX8_kind_81 : decode cX8_kind 81 = .ok (.bipush (-4), 2) := by decide +kernel
theorem dX8_kind_83 : decode cX8_kind 83 = .ok (.ireturn, 1) := by decide +kernel
theorem dX8_kind_84 : decode cX8_kind 84 = .ok (.aload_n 0, 1) := by decide +kernel
theorem dX8_kind_85 : decode cX8_kind 85 = .ok (.getfield 19, 3) := by decide +kernel
theorem dX8_kind_88 : decode cX8_kind 88 = .ok (.iload_n 1, 1) := by decide +kernel
theorem dX8_kind_89 : decode cX8_kind 89 = .ok (.iload_n 2, 1) := by decide +kernel
theorem dX8_kind_90 : decode cX8_kind 90 = .ok (.iload_n 3, 1) := by decide +kernel
theorem dX8_kind_91 : decode cX8_kind 91 = .ok (.iload 4, 2) := by decide +kernel
theorem dX8_kind_93 : decode cX8_kind 93 = .ok (.iload 5, 2) := by decide +kernel
theorem dX8_kind_95 : decode cX8_kind 95 = .ok (.iload 6, 2) := by decide +kernel
theorem dX8_kind_97 : decode cX8_kind 97 = .ok (.iload 7, 2) := by decide +kernel
theorem dX8_kind_99 : decode cX8_kind 99 = .ok (.invokevirtual 139, 3) := by decide +kernel
theorem dX8_kind_102 : decode cX8_kind 102 = .ok (.ireturn, 1) := by decide +kernel
theorem dX8_second_0 : decode cX8_second 0 = .ok (.aload_n 0, 1) := by decide +kernel
theorem dX8_second_1 : decode cX8_second 1 = .ok (.getfield 19, 3) := by decide +kernel
theorem dX8_second_4 : decode cX8_second 4 = .ok (.iload_n 1, 1) := by decide +kernel
theorem dX8_second_5 : decode cX8_second 5 = .ok (.invokevirtual 143, 3) := by decide +kernel
theorem dX8_second_8 : decode cX8_second 8 = .ok (.ifCond .eq 22, 3) := by decide +kernel
theorem dX8_second_11 : decode cX8_second 11 = .ok (.iload_n 2, 1) := by decide +kernel
theorem dX8_second_12 : decode cX8_second 12 = .ok (.iconst 1, 1) := by decide +kernel
theorem dX8_second_13 : decode cX8_second 13 = .ok (.bipush 30, 2) := by decide +kernel
theorem dX8_second_15 : decode cX8_second 15 = .ok (.invokestatic 64, 3) := by decide +kernel
theorem dX8_second_18 : decode cX8_second 18 = .ok (.ifCond .eq 12, 3) := by decide +kernel
theorem dX8_second_21 : decode cX8_second 21 = .ok (.iload_n 3, 1) := by decide +kernel
theorem dX8_second_22 : decode cX8_second 22 = .ok (.iload 4, 2) := by decide +kernel
theorem dX8_second_24 : decode cX8_second 24 = .ok (.invokestatic 133, 3) := by decide +kernel
theorem dX8_second_27 : decode cX8_second 27 = .ok (.ifCond .ne 6, 3) := by decide +kernel
theorem dX8_second_30 : decode cX8_second 30 = .ok (.bipush (-2), 2) := by decide +kernel
theorem dX8_second_32 : decode cX8_second 32 = .ok (.ireturn, 1) := by decide +kernel
theorem dX8_second_33 : decode cX8_second 33 = .ok (.aload_n 0, 1) := by decide +kernel
theorem dX8_second_34 : decode cX8_second 34 = .ok (.getfield 19, 3) := by decide +kernel
theorem dX8_second_37 : decode cX8_second 37 = .ok (.iload_n 1, 1) := by decide +kernel
theorem dX8_second_38 : decode cX8_second 38 = .ok (.invokevirtual 146, 3) := by decide +kernel
theorem dX8_second_41 : decode cX8_second 41 = .ok (.ifCond .ne 14, 3) := by decide +kernel
theorem dX8_second_44 : decode cX8_second 44 = .ok (.aload_n 0, 1) := by decide +kernel
theorem dX8_second_45 : decode cX8_second 45 = .ok (.getfield 28, 3) := by decide +kernel
theorem dX8_second_48 : decode cX8_second 48 = .ok (.iload_n 1, 1) := by decide +kernel
theorem dX8_second_49 : decode cX8_second 49 = .ok (.invokevirtual 149, 3) := by decide +kernel
theorem dX8_second_52 : decode cX8_second 52 = .ok (.ifCond .eq 6, 3) := by decide +kernel
theorem dX8_second_55 : decode cX8_second 55 = .ok (.bipush (-3), 2) := by decide +kernel
theorem dX8_second_57 : decode cX8_second 57 = .ok (.ireturn, 1) := by decide +kernel
theorem dX8_second_58 : decode cX8_second 58 = .ok (.aload_n 0, 1) := by decide +kernel
theorem dX8_second_59 : decode cX8_second 59 = .ok (.getfield 19, 3) := by decide +kernel
theorem dX8_second_62 : decode cX8_second 62 = .ok (.iload_n 1, 1) := by decide +kernel
theorem dX8_second_63 : decode cX8_second 63 = .ok (.iload_n 2, 1) := by decide +kernel
theorem dX8_second_64 : decode cX8_second 64 = .ok (.iload_n 3, 1) := by decide +kernel
theorem dX8_second_65 : decode cX8_second 65 = .ok (.iload 4, 2) := by decide +kernel
theorem dX8_second_67 : decode cX8_second 67 = .ok (.invokevirtual 152, 3) := by decide +kernel
theorem dX8_second_70 : decode cX8_second 70 = .ok (.iconst 1, 1) := by decide +kernel
theorem dX8_second_71 : decode cX8_second 71 = .ok (.ireturn, 1) := by decide +kernel
theorem dX8_put_0 : decode cX8_put 0 = .ok (.aload_n 0, 1) := by decide +kernel
theorem dX8_put_1 : decode cX8_put 1 = .ok (.getfield 19, 3) := by decide +kernel
theorem dX8_put_4 : decode cX8_put 4 = .ok (.iload_n 1, 1) := by decide +kernel
theorem dX8_put_5 : decode cX8_put 5 = .ok (.invokevirtual 143, 3) := by decide +kernel
theorem dX8_put_8 : decode cX8_put 8 = .ok (.ifCond .eq 10, 3) := by decide +kernel
theorem dX8_put_11 : decode cX8_put 11 = .ok (.iload_n 2, 1) := by decide +kernel
theorem dX8_put_12 : decode cX8_put 12 = .ok (.invokestatic 71, 3) := by decide +kernel
theorem dX8_put_15 : decode cX8_put 15 = .ok (.ifCond .ne 6, 3) := by decide +kernel
theorem dX8_put_18 : decode cX8_put 18 = .ok (.bipush (-2), 2) := by decide +kernel
theorem dX8_put_20 : decode cX8_put 20 = .ok (.ireturn, 1) := by decide +kernel
theorem dX8_put_21 : decode cX8_put 21 = .ok (.aload_n 0, 1) := by decide +kernel
theorem dX8_put_22 : decode cX8_put 22 = .ok (.getfield 28, 3) := by decide +kernel
theorem dX8_put_25 : decode cX8_put 25 = .ok (.iload_n 1, 1) := by decide +kernel
theorem dX8_put_26 : decode cX8_put 26 = .ok (.iload_n 2, 1) := by decide +kernel
theorem dX8_put_27 : decode cX8_put 27 = .ok (.invokevirtual 156, 3) := by decide +kernel
theorem dX8_put_30 : decode cX8_put 30 = .ok (.ifCond .ne 6, 3) := by decide +kernel
theorem dX8_put_33 : decode cX8_put 33 = .ok (.bipush (-3), 2) := by decide +kernel
theorem dX8_put_35 : decode cX8_put 35 = .ok (.ireturn, 1) := by decide +kernel
theorem dX8_put_36 : decode cX8_put 36 = .ok (.aload_n 0, 1) := by decide +kernel
theorem dX8_put_37 : decode cX8_put 37 = .ok (.getfield 28, 3) := by decide +kernel
theorem dX8_put_40 : decode cX8_put 40 = .ok (.getfield 159, 3) := by decide +kernel
theorem dX8_put_43 : decode cX8_put 43 = .ok (.bipush 12, 2) := by decide +kernel
theorem dX8_put_45 : decode cX8_put 45 = .ok (.if_icmp .ge 16, 3) := by decide +kernel
theorem dX8_put_48 : decode cX8_put 48 = .ok (.aload_n 0, 1) := by decide +kernel
theorem dX8_put_49 : decode cX8_put 49 = .ok (.getfield 28, 3) := by decide +kernel
theorem dX8_put_52 : decode cX8_put 52 = .ok (.getfield 162, 3) := by decide +kernel
theorem dX8_put_55 : decode cX8_put 55 = .ok (.sipush 200, 3) := by decide +kernel
theorem dX8_put_58 : decode cX8_put 58 = .ok (.if_icmp .lt 6, 3) := by decide +kernel
theorem dX8_put_61 : decode cX8_put 61 = .ok (.bipush (-4), 2) := by decide +kernel
theorem dX8_put_63 : decode cX8_put 63 = .ok (.ireturn, 1) := by decide +kernel
theorem dX8_put_64 : decode cX8_put 64 = .ok (.aload_n 0, 1) := by decide +kernel
theorem dX8_put_65 : decode cX8_put 65 = .ok (.getfield 28, 3) := by decide +kernel
theorem dX8_put_68 : decode cX8_put 68 = .ok (.iload_n 1, 1) := by decide +kernel
theorem dX8_put_69 : decode cX8_put 69 = .ok (.iload_n 2, 1) := by decide +kernel
theorem dX8_put_70 : decode cX8_put 70 = .ok (.invokevirtual 165, 3) := by decide +kernel
theorem dX8_put_73 : decode cX8_put 73 = .ok (.ireturn, 1) := by decide +kernel
theorem dX8_move_0 : decode cX8_move 0 = .ok (.aload_n 0, 1) := by decide +kernel
theorem dX8_move_1 : decode cX8_move 1 = .ok (.getfield 28, 3) := by decide +kernel
theorem dX8_move_4 : decode cX8_move 4 = .ok (.iload_n 1, 1) := by decide +kernel
theorem dX8_move_5 : decode cX8_move 5 = .ok (.invokevirtual 169, 3) := by decide +kernel
theorem dX8_move_8 : decode cX8_move 8 = .ok (.ifCond .eq 23, 3) := by decide +kernel
theorem dX8_move_11 : decode cX8_move 11 = .ok (.iload_n 2, 1) := by decide +kernel
theorem dX8_move_12 : decode cX8_move 12 = .ok (.invokestatic 71, 3) := by decide +kernel
theorem dX8_move_15 : decode cX8_move 15 = .ok (.ifCond .eq 16, 3) := by decide +kernel
theorem dX8_move_18 : decode cX8_move 18 = .ok (.aload_n 0, 1) := by decide +kernel
theorem dX8_move_19 : decode cX8_move 19 = .ok (.getfield 28, 3) := by decide +kernel
theorem dX8_move_22 : decode cX8_move 22 = .ok (.getfield 170, 3) := by decide +kernel
theorem dX8_move_25 : decode cX8_move 25 = .ok (.iload_n 1, 1) := by decide +kernel
theorem dX8_move_26 : decode cX8_move 26 = .ok (.iaload, 1) := by decide +kernel
theorem dX8_move_27 : decode cX8_move 27 = .ok (.iload_n 2, 1) := by decide +kernel
theorem dX8_move_28 : decode cX8_move 28 = .ok (.if_icmp .ne 6, 3) := by decide +kernel
theorem dX8_move_31 : decode cX8_move 31 = .ok (.bipush (-2), 2) := by decide +kernel
theorem dX8_move_33 : decode cX8_move 33 = .ok (.ireturn, 1) := by decide +kernel
theorem dX8_move_34 : decode cX8_move 34 = .ok (.aload_n 0, 1) := by decide +kernel
theorem dX8_move_35 : decode cX8_move 35 = .ok (.getfield 28, 3) := by decide +kernel
theorem dX8_move_38 : decode cX8_move 38 = .ok (.iload_n 1, 1) := by decide +kernel
theorem dX8_move_39 : decode cX8_move 39 = .ok (.invokevirtual 173, 3) := by decide +kernel
theorem dX8_move_42 : decode cX8_move 42 = .ok (.ifCond .ne 34, 3) := by decide +kernel
theorem dX8_move_45 : decode cX8_move 45 = .ok (.aload_n 0, 1) := by decide +kernel
theorem dX8_move_46 : decode cX8_move 46 = .ok (.getfield 28, 3) := by decide +kernel
theorem dX8_move_49 : decode cX8_move 49 = .ok (.aload_n 0, 1) := by decide +kernel
theorem dX8_move_50 : decode cX8_move 50 = .ok (.getfield 28, 3) := by decide +kernel
theorem dX8_move_53 : decode cX8_move 53 = .ok (.getfield 176, 3) := by decide +kernel
theorem dX8_move_56 : decode cX8_move 56 = .ok (.iload_n 1, 1) := by decide +kernel
theorem dX8_move_57 : decode cX8_move 57 = .ok (.iaload, 1) := by decide +kernel
theorem dX8_move_58 : decode cX8_move 58 = .ok (.iload_n 2, 1) := by decide +kernel
theorem dX8_move_59 : decode cX8_move 59 = .ok (.invokevirtual 156, 3) := by decide +kernel
theorem dX8_move_62 : decode cX8_move 62 = .ok (.ifCond .eq 14, 3) := by decide +kernel
theorem dX8_move_65 : decode cX8_move 65 = .ok (.aload_n 0, 1) := by decide +kernel
theorem dX8_move_66 : decode cX8_move 66 = .ok (.getfield 28, 3) := by decide +kernel
theorem dX8_move_69 : decode cX8_move 69 = .ok (.iload_n 1, 1) := by decide +kernel
theorem dX8_move_70 : decode cX8_move 70 = .ok (.invokevirtual 179, 3) := by decide +kernel
theorem dX8_move_73 : decode cX8_move 73 = .ok (.ifCond .ne 6, 3) := by decide +kernel
theorem dX8_move_76 : decode cX8_move 76 = .ok (.bipush (-3), 2) := by decide +kernel
theorem dX8_move_78 : decode cX8_move 78 = .ok (.ireturn, 1) := by decide +kernel
theorem dX8_move_79 : decode cX8_move 79 = .ok (.aload_n 0, 1) := by decide +kernel
theorem dX8_move_80 : decode cX8_move 80 = .ok (.getfield 28, 3) := by decide +kernel
theorem dX8_move_83 : decode cX8_move 83 = .ok (.iload_n 1, 1) := by decide +kernel
theorem dX8_move_84 : decode cX8_move 84 = .ok (.iload_n 2, 1) := by decide +kernel
theorem dX8_move_85 : decode cX8_move 85 = .ok (.invokevirtual 182, 3) := by decide +kernel
theorem dX8_move_88 : decode cX8_move 88 = .ok (.ireturn, 1) := by decide +kernel
theorem dX8_take_0 : decode cX8_take 0 = .ok (.aload_n 0, 1) := by decide +kernel
theorem dX8_take_1 : decode cX8_take 1 = .ok (.getfield 28, 3) := by decide +kernel
theorem dX8_take_4 : decode cX8_take 4 = .ok (.iload_n 1, 1) := by decide +kernel
theorem dX8_take_5 : decode cX8_take 5 = .ok (.invokevirtual 169, 3) := by decide +kernel
theorem dX8_take_8 : decode cX8_take 8 = .ok (.ifCond .ne 6, 3) := by decide +kernel
theorem dX8_take_11 : decode cX8_take 11 = .ok (.bipush (-2), 2) := by decide +kernel
theorem dX8_take_13 : decode cX8_take 13 = .ok (.ireturn, 1) := by decide +kernel
theorem dX8_take_14 : decode cX8_take 14 = .ok (.aload_n 0, 1) := by decide +kernel
theorem dX8_take_15 : decode cX8_take 15 = .ok (.getfield 28, 3) := by decide +kernel
theorem dX8_take_18 : decode cX8_take 18 = .ok (.iload_n 1, 1) := by decide +kernel
theorem dX8_take_19 : decode cX8_take 19 = .ok (.invokevirtual 173, 3) := by decide +kernel
theorem dX8_take_22 : decode cX8_take 22 = .ok (.ifCond .ne 14, 3) := by decide +kernel
theorem dX8_take_25 : decode cX8_take 25 = .ok (.aload_n 0, 1) := by decide +kernel
theorem dX8_take_26 : decode cX8_take 26 = .ok (.getfield 28, 3) := by decide +kernel
theorem dX8_take_29 : decode cX8_take 29 = .ok (.iload_n 1, 1) := by decide +kernel
theorem dX8_take_30 : decode cX8_take 30 = .ok (.invokevirtual 179, 3) := by decide +kernel
theorem dX8_take_33 : decode cX8_take 33 = .ok (.ifCond .ne 6, 3) := by decide +kernel
theorem dX8_take_36 : decode cX8_take 36 = .ok (.bipush (-3), 2) := by decide +kernel
theorem dX8_take_38 : decode cX8_take 38 = .ok (.ireturn, 1) := by decide +kernel
theorem dX8_take_39 : decode cX8_take 39 = .ok (.aload_n 0, 1) := by decide +kernel
theorem dX8_take_40 : decode cX8_take 40 = .ok (.getfield 28, 3) := by decide +kernel
theorem dX8_take_43 : decode cX8_take 43 = .ok (.iload_n 1, 1) := by decide +kernel
theorem dX8_take_44 : decode cX8_take 44 = .ok (.invokevirtual 185, 3) := by decide +kernel
theorem dX8_take_47 : decode cX8_take 47 = .ok (.ireturn, 1) := by decide +kernel
theorem dX8_loaf_0 : decode cX8_loaf 0 = .ok (.aload_n 0, 1) := by decide +kernel
theorem dX8_loaf_1 : decode cX8_loaf 1 = .ok (.getfield 28, 3) := by decide +kernel
theorem dX8_loaf_4 : decode cX8_loaf 4 = .ok (.iload_n 1, 1) := by decide +kernel
theorem dX8_loaf_5 : decode cX8_loaf 5 = .ok (.invokevirtual 169, 3) := by decide +kernel
theorem dX8_loaf_8 : decode cX8_loaf 8 = .ok (.ifCond .ne 6, 3) := by decide +kernel
theorem dX8_loaf_11 : decode cX8_loaf 11 = .ok (.bipush (-2), 2) := by decide +kernel
theorem dX8_loaf_13 : decode cX8_loaf 13 = .ok (.ireturn, 1) := by decide +kernel
theorem dX8_loaf_14 : decode cX8_loaf 14 = .ok (.iload_n 2, 1) := by decide +kernel
theorem dX8_loaf_15 : decode cX8_loaf 15 = .ok (.tableswitch 97 0 5 #[37, 47, 57, 67, 77, 87], 37) := by decide +kernel
theorem dX8_loaf_52 : decode cX8_loaf 52 = .ok (.aload_n 0, 1) := by decide +kernel
theorem dX8_loaf_53 : decode cX8_loaf 53 = .ok (.getfield 28, 3) := by decide +kernel
theorem dX8_loaf_56 : decode cX8_loaf 56 = .ok (.getfield 176, 3) := by decide +kernel
theorem dX8_loaf_59 : decode cX8_loaf 59 = .ok (.iload_n 1, 1) := by decide +kernel
theorem dX8_loaf_60 : decode cX8_loaf 60 = .ok (.iaload, 1) := by decide +kernel
theorem dX8_loaf_61 : decode cX8_loaf 61 = .ok (.ireturn, 1) := by decide +kernel
theorem dX8_loaf_62 : decode cX8_loaf 62 = .ok (.aload_n 0, 1) := by decide +kernel
theorem dX8_loaf_63 : decode cX8_loaf 63 = .ok (.getfield 28, 3) := by decide +kernel
theorem dX8_loaf_66 : decode cX8_loaf 66 = .ok (.getfield 170, 3) := by decide +kernel
theorem dX8_loaf_69 : decode cX8_loaf 69 = .ok (.iload_n 1, 1) := by decide +kernel
theorem dX8_loaf_70 : decode cX8_loaf 70 = .ok (.iaload, 1) := by decide +kernel
theorem dX8_loaf_71 : decode cX8_loaf 71 = .ok (.ireturn, 1) := by decide +kernel
theorem dX8_loaf_72 : decode cX8_loaf 72 = .ok (.aload_n 0, 1) := by decide +kernel
theorem dX8_loaf_73 : decode cX8_loaf 73 = .ok (.getfield 28, 3) := by decide +kernel
theorem dX8_loaf_76 : decode cX8_loaf 76 = .ok (.getfield 189, 3) := by decide +kernel
theorem dX8_loaf_79 : decode cX8_loaf 79 = .ok (.iload_n 1, 1) := by decide +kernel
theorem dX8_loaf_80 : decode cX8_loaf 80 = .ok (.iaload, 1) := by decide +kernel
theorem dX8_loaf_81 : decode cX8_loaf 81 = .ok (.ireturn, 1) := by decide +kernel
theorem dX8_loaf_82 : decode cX8_loaf 82 = .ok (.aload_n 0, 1) := by decide +kernel
theorem dX8_loaf_83 : decode cX8_loaf 83 = .ok (.getfield 28, 3) := by decide +kernel
theorem dX8_loaf_86 : decode cX8_loaf 86 = .ok (.getfield 192, 3) := by decide +kernel
theorem dX8_loaf_89 : decode cX8_loaf 89 = .ok (.iload_n 1, 1) := by decide +kernel
theorem dX8_loaf_90 : decode cX8_loaf 90 = .ok (.iaload, 1) := by decide +kernel
theorem dX8_loaf_91 : decode cX8_loaf 91 = .ok (.ireturn, 1) := by decide +kernel
theorem dX8_loaf_92 : decode cX8_loaf 92 = .ok (.aload_n 0, 1) := by decide +kernel
theorem dX8_loaf_93 : decode cX8_loaf 93 = .ok (.getfield 28, 3) := by decide +kernel
theorem dX8_loaf_96 : decode cX8_loaf 96 = .ok (.getfield 195, 3) := by decide +kernel
theorem dX8_loaf_99 : decode cX8_loaf 99 = .ok (.iload_n 1, 1) := by decide +kernel
theorem dX8_loaf_100 : decode cX8_loaf 100 = .ok (.iaload, 1) := by decide +kernel
theorem dX8_loaf_101 : decode cX8_loaf 101 = .ok (.ireturn, 1) := by decide +kernel
theorem dX8_loaf_102 : decode cX8_loaf 102 = .ok (.aload_n 0, 1) := by decide +kernel
theorem dX8_loaf_103 : decode cX8_loaf 103 = .ok (.getfield 28, 3) := by decide +kernel
theorem dX8_loaf_106 : decode cX8_loaf 106 = .ok (.getfield 198, 3) := by decide +kernel
theorem dX8_loaf_109 : decode cX8_loaf 109 = .ok (.iload_n 1, 1) := by decide +kernel
theorem dX8_loaf_110 : decode cX8_loaf 110 = .ok (.iaload, 1) := by decide +kernel
theorem dX8_loaf_111 : decode cX8_loaf 111 = .ok (.ireturn, 1) := by decide +kernel
theorem dX8_loaf_112 : decode cX8_loaf 112 = .ok (.bipush (-2), 2) := by decide +kernel
theorem dX8_loaf_114 : decode cX8_loaf 114 = .ok (.ireturn, 1) := by decide +kernel
theorem dX8_room_0 : decode cX8_room 0 = .ok (.iload_n 1, 1) := by decide +kernel
theorem dX8_room_1 : decode cX8_room 1 = .ok (.invokestatic 71, 3) := by decide +kernel
theorem dX8_room_4 : decode cX8_room 4 = .ok (.ifCond .ne 6, 3) := by decide +kernel
theorem dX8_room_7 : decode cX8_room 7 = .ok (.bipush (-2), 2) := by decide +kernel
theorem dX8_room_9 : decode cX8_room 9 = .ok (.ireturn, 1) := by decide +kernel
theorem dX8_room_10 : decode cX8_room 10 = .ok (.getstatic 201, 3) := by decide +kernel
theorem dX8_room_13 : decode cX8_room 13 = .ok (.iload_n 1, 1) := by decide +kernel
theorem dX8_room_14 : decode cX8_room 14 = .ok (.iaload, 1) := by decide +kernel
theorem dX8_room_15 : decode cX8_room 15 = .ok (.aload_n 0, 1) := by decide +kernel
theorem dX8_room_16 : decode cX8_room 16 = .ok (.getfield 28, 3) := by decide +kernel
theorem dX8_room_19 : decode cX8_room 19 = .ok (.getfield 204, 3) := by decide +kernel
theorem dX8_room_22 : decode cX8_room 22 = .ok (.iload_n 1, 1) := by decide +kernel
theorem dX8_room_23 : decode cX8_room 23 = .ok (.aaload, 1) := by decide +kernel
theorem dX8_room_24 : decode cX8_room 24 = .ok (.invokevirtual 208, 3) := by decide +kernel
theorem dX8_room_27 : decode cX8_room 27 = .ok (.isub, 1) := by decide +kernel
theorem dX8_room_28 : decode cX8_room 28 = .ok (.ireturn, 1) := by decide +kernel
theorem dX8_order_0 : decode cX8_order 0 = .ok (.aload_n 0, 1) := by decide +kernel
theorem dX8_order_1 : decode cX8_order 1 = .ok (.getfield 19, 3) := by decide +kernel
theorem dX8_order_4 : decode cX8_order 4 = .ok (.iload_n 1, 1) := by decide +kernel
theorem dX8_order_5 : decode cX8_order 5 = .ok (.invokevirtual 143, 3) := by decide +kernel
theorem dX8_order_8 : decode cX8_order 8 = .ok (.ifCond .ne 6, 3) := by decide +kernel
theorem dX8_order_11 : decode cX8_order 11 = .ok (.bipush (-2), 2) := by decide +kernel
theorem dX8_order_13 : decode cX8_order 13 = .ok (.ireturn, 1) := by decide +kernel
theorem dX8_order_14 : decode cX8_order 14 = .ok (.aload_n 0, 1) := by decide +kernel
theorem dX8_order_15 : decode cX8_order 15 = .ok (.getfield 35, 3) := by decide +kernel
theorem dX8_order_18 : decode cX8_order 18 = .ok (.getfield 214, 3) := by decide +kernel
theorem dX8_order_21 : decode cX8_order 21 = .ok (.iconst 4, 1) := by decide +kernel
theorem dX8_order_22 : decode cX8_order 22 = .ok (.if_icmp .lt 6, 3) := by decide +kernel
theorem dX8_order_25 : decode cX8_order 25 = .ok (.bipush (-4), 2) := by decide +kernel
theorem dX8_order_27 : decode cX8_order 27 = .ok (.ireturn, 1) := by decide +kernel
theorem dX8_order_28 : decode cX8_order 28 = .ok (.aload_n 0, 1) := by decide +kernel
theorem dX8_order_29 : decode cX8_order 29 = .ok (.getfield 35, 3) := by decide +kernel
theorem dX8_order_32 : decode cX8_order 32 = .ok (.iload_n 1, 1) := by decide +kernel
theorem dX8_order_33 : decode cX8_order 33 = .ok (.invokevirtual 217, 3) := by decide +kernel
theorem dX8_order_36 : decode cX8_order 36 = .ok (.ireturn, 1) := by decide +kernel
theorem dX8_opening_0 : decode cX8_opening 0 = .ok (.iload_n 1, 1) := by decide +kernel
theorem dX8_opening_1 : decode cX8_opening 1 = .ok (.aload_n 0, 1) := by decide +kernel
theorem dX8_opening_2 : decode cX8_opening 2 = .ok (.getfield 35, 3) := by decide +kernel
theorem dX8_opening_5 : decode cX8_opening 5 = .ok (.invokevirtual 220, 3) := by decide +kernel
theorem dX8_opening_8 : decode cX8_opening 8 = .ok (.bipush 40, 2) := by decide +kernel
theorem dX8_opening_10 : decode cX8_opening 10 = .ok (.invokestatic 64, 3) := by decide +kernel
theorem dX8_opening_13 : decode cX8_opening 13 = .ok (.ifCond .ne 6, 3) := by decide +kernel
theorem dX8_opening_16 : decode cX8_opening 16 = .ok (.bipush (-2), 2) := by decide +kernel
theorem dX8_opening_18 : decode cX8_opening 18 = .ok (.ireturn, 1) := by decide +kernel
theorem dX8_opening_19 : decode cX8_opening 19 = .ok (.aload_n 0, 1) := by decide +kernel
theorem dX8_opening_20 : decode cX8_opening 20 = .ok (.getfield 35, 3) := by decide +kernel
theorem dX8_opening_23 : decode cX8_opening 23 = .ok (.getfield 223, 3) := by decide +kernel
theorem dX8_opening_26 : decode cX8_opening 26 = .ok (.iconst 3, 1) := by decide +kernel
theorem dX8_opening_27 : decode cX8_opening 27 = .ok (.if_icmp .lt 6, 3) := by decide +kernel
theorem dX8_opening_30 : decode cX8_opening 30 = .ok (.bipush (-4), 2) := by decide +kernel
theorem dX8_opening_32 : decode cX8_opening 32 = .ok (.ireturn, 1) := by decide +kernel
theorem dX8_opening_33 : decode cX8_opening 33 = .ok (.aload_n 0, 1) := by decide +kernel
theorem dX8_opening_34 : decode cX8_opening 34 = .ok (.getfield 35, 3) := by decide +kernel
theorem dX8_opening_37 : decode cX8_opening 37 = .ok (.iload_n 1, 1) := by decide +kernel
theorem dX8_opening_38 : decode cX8_opening 38 = .ok (.invokevirtual 226, 3) := by decide +kernel
theorem dX8_opening_41 : decode cX8_opening 41 = .ok (.ireturn, 1) := by decide +kernel
theorem dX8_clear_0 : decode cX8_clear 0 = .ok (.aload_n 0, 1) := by decide +kernel
theorem dX8_clear_1 : decode cX8_clear 1 = .ok (.getfield 35, 3) := by decide +kernel
theorem dX8_clear_4 : decode cX8_clear 4 = .ok (.getfield 214, 3) := by decide +kernel
theorem dX8_clear_7 : decode cX8_clear 7 = .ok (.istore_n 1, 1) := by decide +kernel
theorem dX8_clear_8 : decode cX8_clear 8 = .ok (.aload_n 0, 1) := by decide +kernel
theorem dX8_clear_9 : decode cX8_clear 9 = .ok (.getfield 35, 3) := by decide +kernel
theorem dX8_clear_12 : decode cX8_clear 12 = .ok (.iconst 0, 1) := by decide +kernel
theorem dX8_clear_13 : decode cX8_clear 13 = .ok (.putfield 214, 3) := by decide +kernel
theorem dX8_clear_16 : decode cX8_clear 16 = .ok (.aload_n 0, 1) := by decide +kernel
theorem dX8_clear_17 : decode cX8_clear 17 = .ok (.getfield 35, 3) := by decide +kernel
theorem dX8_clear_20 : decode cX8_clear 20 = .ok (.iconst 0, 1) := by decide +kernel
theorem dX8_clear_21 : decode cX8_clear 21 = .ok (.putfield 223, 3) := by decide +kernel
theorem dX8_clear_24 : decode cX8_clear 24 = .ok (.iload_n 1, 1) := by decide +kernel
theorem dX8_clear_25 : decode cX8_clear 25 = .ok (.ireturn, 1) := by decide +kernel
theorem dX8_plan_0 : decode cX8_plan 0 = .ok (.aload_n 0, 1) := by decide +kernel
theorem dX8_plan_1 : decode cX8_plan 1 = .ok (.getfield 28, 3) := by decide +kernel
theorem dX8_plan_4 : decode cX8_plan 4 = .ok (.getfield 159, 3) := by decide +kernel
theorem dX8_plan_7 : decode cX8_plan 7 = .ok (.ifCond .le 6, 3) := by decide +kernel
theorem dX8_plan_10 : decode cX8_plan 10 = .ok (.bipush (-3), 2) := by decide +kernel
theorem dX8_plan_12 : decode cX8_plan 12 = .ok (.ireturn, 1) := by decide +kernel
theorem dX8_plan_13 : decode cX8_plan 13 = .ok (.aload_n 0, 1) := by decide +kernel
theorem dX8_plan_14 : decode cX8_plan 14 = .ok (.getfield 35, 3) := by decide +kernel
theorem dX8_plan_17 : decode cX8_plan 17 = .ok (.aload_n 0, 1) := by decide +kernel
theorem dX8_plan_18 : decode cX8_plan 18 = .ok (.getfield 10, 3) := by decide +kernel
theorem dX8_plan_21 : decode cX8_plan 21 = .ok (.invokevirtual 229, 3) := by decide +kernel
theorem dX8_plan_24 : decode cX8_plan 24 = .ok (.aload_n 0, 1) := by decide +kernel
theorem dX8_plan_25 : decode cX8_plan 25 = .ok (.getfield 35, 3) := by decide +kernel
theorem dX8_plan_28 : decode cX8_plan 28 = .ok (.getfield 232, 3) := by decide +kernel
theorem dX8_plan_31 : decode cX8_plan 31 = .ok (.ireturn, 1) := by decide +kernel
theorem dX8_planned_0 : decode cX8_planned 0 = .ok (.iload_n 1, 1) := by decide +kernel
theorem dX8_planned_1 : decode cX8_planned 1 = .ok (.iconst 0, 1) := by decide +kernel
theorem dX8_planned_2 : decode cX8_planned 2 = .ok (.aload_n 0, 1) := by decide +kernel
theorem dX8_planned_3 : decode cX8_planned 3 = .ok (.getfield 35, 3) := by decide +kernel
theorem dX8_planned_6 : decode cX8_planned 6 = .ok (.getfield 214, 3) := by decide +kernel
theorem dX8_planned_9 : decode cX8_planned 9 = .ok (.iconst 1, 1) := by decide +kernel
theorem dX8_planned_10 : decode cX8_planned 10 = .ok (.isub, 1) := by decide +kernel
theorem dX8_planned_11 : decode cX8_planned 11 = .ok (.invokestatic 64, 3) := by decide +kernel
theorem dX8_planned_14 : decode cX8_planned 14 = .ok (.ifCond .eq 12, 3) := by decide +kernel
theorem dX8_planned_17 : decode cX8_planned 17 = .ok (.iload_n 2, 1) := by decide +kernel
theorem dX8_planned_18 : decode cX8_planned 18 = .ok (.iconst 0, 1) := by decide +kernel
theorem dX8_planned_19 : decode cX8_planned 19 = .ok (.iconst 2, 1) := by decide +kernel
theorem dX8_planned_20 : decode cX8_planned 20 = .ok (.invokestatic 64, 3) := by decide +kernel
theorem dX8_planned_23 : decode cX8_planned 23 = .ok (.ifCond .ne 6, 3) := by decide +kernel
theorem dX8_planned_26 : decode cX8_planned 26 = .ok (.bipush (-2), 2) := by decide +kernel
theorem dX8_planned_28 : decode cX8_planned 28 = .ok (.ireturn, 1) := by decide +kernel
theorem dX8_planned_29 : decode cX8_planned 29 = .ok (.aload_n 0, 1) := by decide +kernel
theorem dX8_planned_30 : decode cX8_planned 30 = .ok (.getfield 28, 3) := by decide +kernel
theorem dX8_planned_33 : decode cX8_planned 33 = .ok (.getfield 159, 3) := by decide +kernel
theorem dX8_planned_36 : decode cX8_planned 36 = .ok (.ifCond .le 6, 3) := by decide +kernel
theorem dX8_planned_39 : decode cX8_planned 39 = .ok (.bipush (-3), 2) := by decide +kernel
theorem dX8_planned_41 : decode cX8_planned 41 = .ok (.ireturn, 1) := by decide +kernel
theorem dX8_planned_42 : decode cX8_planned 42 = .ok (.aload_n 0, 1) := by decide +kernel
theorem dX8_planned_43 : decode cX8_planned 43 = .ok (.getfield 35, 3) := by decide +kernel
theorem dX8_planned_46 : decode cX8_planned 46 = .ok (.aload_n 0, 1) := by decide +kernel
theorem dX8_planned_47 : decode cX8_planned 47 = .ok (.getfield 10, 3) := by decide +kernel
theorem dX8_planned_50 : decode cX8_planned 50 = .ok (.invokevirtual 229, 3) := by decide +kernel
theorem dX8_planned_53 : decode cX8_planned 53 = .ok (.aload_n 0, 1) := by decide +kernel
theorem dX8_planned_54 : decode cX8_planned 54 = .ok (.getfield 35, 3) := by decide +kernel
theorem dX8_planned_57 : decode cX8_planned 57 = .ok (.iload_n 1, 1) := by decide +kernel
theorem dX8_planned_58 : decode cX8_planned 58 = .ok (.iload_n 2, 1) := by decide +kernel
theorem dX8_planned_59 : decode cX8_planned 59 = .ok (.invokevirtual 235, 3) := by decide +kernel
theorem dX8_planned_62 : decode cX8_planned 62 = .ok (.ireturn, 1) := by decide +kernel
theorem dX8_last_0 : decode cX8_last 0 = .ok (.iload_n 1, 1) := by decide +kernel
theorem dX8_last_1 : decode cX8_last 1 = .ok (.iconst 0, 1) := by decide +kernel
theorem dX8_last_2 : decode cX8_last 2 = .ok (.iconst 1, 1) := by decide +kernel
theorem dX8_last_3 : decode cX8_last 3 = .ok (.invokestatic 64, 3) := by decide +kernel
theorem dX8_last_6 : decode cX8_last 6 = .ok (.ifCond .ne 6, 3) := by decide +kernel
theorem dX8_last_9 : decode cX8_last 9 = .ok (.bipush (-2), 2) := by decide +kernel
theorem dX8_last_11 : decode cX8_last 11 = .ok (.ireturn, 1) := by decide +kernel
theorem dX8_last_12 : decode cX8_last 12 = .ok (.aload_n 0, 1) := by decide +kernel
theorem dX8_last_13 : decode cX8_last 13 = .ok (.getfield 28, 3) := by decide +kernel
theorem dX8_last_16 : decode cX8_last 16 = .ok (.getfield 159, 3) := by decide +kernel
theorem dX8_last_19 : decode cX8_last 19 = .ok (.ifCond .le 6, 3) := by decide +kernel
theorem dX8_last_22 : decode cX8_last 22 = .ok (.bipush (-3), 2) := by decide +kernel
theorem dX8_last_24 : decode cX8_last 24 = .ok (.ireturn, 1) := by decide +kernel
theorem dX8_last_25 : decode cX8_last 25 = .ok (.aload_n 0, 1) := by decide +kernel
theorem dX8_last_26 : decode cX8_last 26 = .ok (.getfield 35, 3) := by decide +kernel
theorem dX8_last_29 : decode cX8_last 29 = .ok (.getfield 223, 3) := by decide +kernel
theorem dX8_last_32 : decode cX8_last 32 = .ok (.iconst 3, 1) := by decide +kernel
theorem dX8_last_33 : decode cX8_last 33 = .ok (.if_icmp .lt 6, 3) := by decide +kernel
theorem dX8_last_36 : decode cX8_last 36 = .ok (.bipush (-4), 2) := by decide +kernel
theorem dX8_last_38 : decode cX8_last 38 = .ok (.ireturn, 1) := by decide +kernel
theorem dX8_last_39 : decode cX8_last 39 = .ok (.aload_n 0, 1) := by decide +kernel
theorem dX8_last_40 : decode cX8_last 40 = .ok (.getfield 35, 3) := by decide +kernel
theorem dX8_last_43 : decode cX8_last 43 = .ok (.aload_n 0, 1) := by decide +kernel
theorem dX8_last_44 : decode cX8_last 44 = .ok (.getfield 10, 3) := by decide +kernel
theorem dX8_last_47 : decode cX8_last 47 = .ok (.invokevirtual 238, 3) := by decide +kernel
theorem dX8_last_50 : decode cX8_last 50 = .ok (.iload_n 1, 1) := by decide +kernel
theorem dX8_last_51 : decode cX8_last 51 = .ok (.ifCond .ne 13, 3) := by decide +kernel
theorem dX8_last_54 : decode cX8_last 54 = .ok (.aload_n 0, 1) := by decide +kernel
theorem dX8_last_55 : decode cX8_last 55 = .ok (.getfield 35, 3) := by decide +kernel
theorem dX8_last_58 : decode cX8_last 58 = .ok (.getfield 241, 3) := by decide +kernel
theorem dX8_last_61 : decode cX8_last 61 = .ok (.goto 10, 3) := by decide +kernel
theorem dX8_last_64 : decode cX8_last 64 = .ok (.aload_n 0, 1) := by decide +kernel
theorem dX8_last_65 : decode cX8_last 65 = .ok (.getfield 35, 3) := by decide +kernel
theorem dX8_last_68 : decode cX8_last 68 = .ok (.getfield 244, 3) := by decide +kernel
theorem dX8_last_71 : decode cX8_last 71 = .ok (.ireturn, 1) := by decide +kernel
theorem dX8_wood_0 : decode cX8_wood 0 = .ok (.iload_n 1, 1) := by decide +kernel
theorem dX8_wood_1 : decode cX8_wood 1 = .ok (.iconst 0, 1) := by decide +kernel
theorem dX8_wood_2 : decode cX8_wood 2 = .ok (.sipush 2000, 3) := by decide +kernel
theorem dX8_wood_5 : decode cX8_wood 5 = .ok (.invokestatic 64, 3) := by decide +kernel
theorem dX8_wood_8 : decode cX8_wood 8 = .ok (.ifCond .eq 30, 3) := by decide +kernel
theorem dX8_wood_11 : decode cX8_wood 11 = .ok (.iload_n 2, 1) := by decide +kernel
theorem dX8_wood_12 : decode cX8_wood 12 = .ok (.invokestatic 71, 3) := by decide +kernel
theorem dX8_wood_15 : decode cX8_wood 15 = .ok (.ifCond .eq 23, 3) := by decide +kernel
theorem dX8_wood_18 : decode cX8_wood 18 = .ok (.iload_n 3, 1) := by decide +kernel
theorem dX8_wood_19 : decode cX8_wood 19 = .ok (.iconst 0, 1) := by decide +kernel
theorem dX8_wood_20 : decode cX8_wood 20 = .ok (.bipush 40, 2) := by decide +kernel
theorem dX8_wood_22 : decode cX8_wood 22 = .ok (.invokestatic 64, 3) := by decide +kernel
theorem dX8_wood_25 : decode cX8_wood 25 = .ok (.ifCond .eq 13, 3) := by decide +kernel
theorem dX8_wood_28 : decode cX8_wood 28 = .ok (.iload 4, 2) := by decide +kernel
theorem dX8_wood_30 : decode cX8_wood 30 = .ok (.iload 5, 2) := by decide +kernel
theorem dX8_wood_32 : decode cX8_wood 32 = .ok (.invokestatic 85, 3) := by decide +kernel
theorem dX8_wood_35 : decode cX8_wood 35 = .ok (.ifCond .ne 6, 3) := by decide +kernel
theorem dX8_wood_38 : decode cX8_wood 38 = .ok (.bipush (-2), 2) := by decide +kernel
theorem dX8_wood_40 : decode cX8_wood 40 = .ok (.ireturn, 1) := by decide +kernel
theorem dX8_wood_41 : decode cX8_wood 41 = .ok (.aload_n 0, 1) := by decide +kernel
theorem dX8_wood_42 : decode cX8_wood 42 = .ok (.getfield 28, 3) := by decide +kernel
theorem dX8_wood_45 : decode cX8_wood 45 = .ok (.getfield 159, 3) := by decide +kernel
theorem dX8_wood_48 : decode cX8_wood 48 = .ok (.ifCond .le 6, 3) := by decide +kernel
theorem dX8_wood_51 : decode cX8_wood 51 = .ok (.bipush (-3), 2) := by decide +kernel
theorem dX8_wood_53 : decode cX8_wood 53 = .ok (.ireturn, 1) := by decide +kernel
theorem dX8_wood_54 : decode cX8_wood 54 = .ok (.aload_n 0, 1) := by decide +kernel
theorem dX8_wood_55 : decode cX8_wood 55 = .ok (.getfield 42, 3) := by decide +kernel
theorem dX8_wood_58 : decode cX8_wood 58 = .ok (.aload_n 0, 1) := by decide +kernel
theorem dX8_wood_59 : decode cX8_wood 59 = .ok (.getfield 10, 3) := by decide +kernel
theorem dX8_wood_62 : decode cX8_wood 62 = .ok (.invokevirtual 247, 3) := by decide +kernel
theorem dX8_wood_65 : decode cX8_wood 65 = .ok (.iconst 1, 1) := by decide +kernel
theorem dX8_wood_66 : decode cX8_wood 66 = .ok (.istore 6, 2) := by decide +kernel
theorem dX8_wood_68 : decode cX8_wood 68 = .ok (.iload 6, 2) := by decide +kernel
theorem dX8_wood_70 : decode cX8_wood 70 = .ok (.bipush 30, 2) := by decide +kernel
theorem dX8_wood_72 : decode cX8_wood 72 = .ok (.if_icmp .gt 38, 3) := by decide +kernel
theorem dX8_wood_75 : decode cX8_wood 75 = .ok (.aload_n 0, 1) := by decide +kernel
theorem dX8_wood_76 : decode cX8_wood 76 = .ok (.getfield 42, 3) := by decide +kernel
theorem dX8_wood_79 : decode cX8_wood 79 = .ok (.iload 4, 2) := by decide +kernel
theorem dX8_wood_81 : decode cX8_wood 81 = .ok (.iload 5, 2) := by decide +kernel
theorem dX8_wood_83 : decode cX8_wood 83 = .ok (.invokevirtual 250, 3) := by decide +kernel
theorem dX8_wood_86 : decode cX8_wood 86 = .ok (.aload_n 0, 1) := by decide +kernel
theorem dX8_wood_87 : decode cX8_wood 87 = .ok (.getfield 42, 3) := by decide +kernel
theorem dX8_wood_90 : decode cX8_wood 90 = .ok (.iload_n 3, 1) := by decide +kernel
theorem dX8_wood_91 : decode cX8_wood 91 = .ok (.iload_n 2, 1) := by decide +kernel
theorem dX8_wood_92 : decode cX8_wood 92 = .ok (.invokevirtual 253, 3) := by decide +kernel
theorem dX8_wood_95 : decode cX8_wood 95 = .ok (.iload_n 1, 1) := by decide +kernel
theorem dX8_wood_96 : decode cX8_wood 96 = .ok (.i2l, 1) := by decide +kernel
theorem dX8_wood_97 : decode cX8_wood 97 = .ok (.lcmp, 1) := by decide +kernel
theorem dX8_wood_98 : decode cX8_wood 98 = .ok (.ifCond .lt 6, 3) := by decide +kernel
theorem dX8_wood_101 : decode cX8_wood 101 = .ok (.iload 6, 2) := by decide +kernel
theorem dX8_wood_103 : decode cX8_wood 103 = .ok (.ireturn, 1) := by decide +kernel
theorem dX8_wood_104 : decode cX8_wood 104 = .ok (.iinc 6 1, 3) := by decide +kernel
theorem dX8_wood_107 : decode cX8_wood 107 = .ok (.goto (-39), 3) := by decide +kernel
theorem dX8_wood_110 : decode cX8_wood 110 = .ok (.iconst (-1), 1) := by decide +kernel
theorem dX8_wood_111 : decode cX8_wood 111 = .ok (.ireturn, 1) := by decide +kernel
theorem dX8_households_0 : decode cX8_households 0 = .ok (.iload_n 1, 1) := by decide +kernel
theorem dX8_households_1 : decode cX8_households 1 = .ok (.iconst 2, 1) := by decide +kernel
theorem dX8_households_2 : decode cX8_households 2 = .ok (.bipush 8, 2) := by decide +kernel
theorem dX8_households_4 : decode cX8_households 4 = .ok (.invokestatic 64, 3) := by decide +kernel
theorem dX8_households_7 : decode cX8_households 7 = .ok (.ifCond .ne 6, 3) := by decide +kernel
theorem dX8_households_10 : decode cX8_households 10 = .ok (.bipush (-2), 2) := by decide +kernel
theorem dX8_households_12 : decode cX8_households 12 = .ok (.ireturn, 1) := by decide +kernel
theorem dX8_households_13 : decode cX8_households 13 = .ok (.aload_n 0, 1) := by decide +kernel
theorem dX8_households_14 : decode cX8_households 14 = .ok (.getfield 49, 3) := by decide +kernel
theorem dX8_households_17 : decode cX8_households 17 = .ok (.getfield 256, 3) := by decide +kernel
theorem dX8_households_20 : decode cX8_households 20 = .ok (.istore_n 2, 1) := by decide +kernel
theorem dX8_households_21 : decode cX8_households 21 = .ok (.aload_n 0, 1) := by decide +kernel
theorem dX8_households_22 : decode cX8_households 22 = .ok (.getfield 49, 3) := by decide +kernel
theorem dX8_households_25 : decode cX8_households 25 = .ok (.iload_n 1, 1) := by decide +kernel
theorem dX8_households_26 : decode cX8_households 26 = .ok (.putfield 256, 3) := by decide +kernel
theorem dX8_households_29 : decode cX8_households 29 = .ok (.aload_n 0, 1) := by decide +kernel
theorem dX8_households_30 : decode cX8_households 30 = .ok (.getfield 49, 3) := by decide +kernel
theorem dX8_households_33 : decode cX8_households 33 = .ok (.iconst 0, 1) := by decide +kernel
theorem dX8_households_34 : decode cX8_households 34 = .ok (.putfield 257, 3) := by decide +kernel
theorem dX8_households_37 : decode cX8_households 37 = .ok (.iload_n 2, 1) := by decide +kernel
theorem dX8_households_38 : decode cX8_households 38 = .ok (.ireturn, 1) := by decide +kernel
theorem dX8_custom_0 : decode cX8_custom 0 = .ok (.iload_n 1, 1) := by decide +kernel
theorem dX8_custom_1 : decode cX8_custom 1 = .ok (.iconst 0, 1) := by decide +kernel
theorem dX8_custom_2 : decode cX8_custom 2 = .ok (.iconst 1, 1) := by decide +kernel
theorem dX8_custom_3 : decode cX8_custom 3 = .ok (.invokestatic 64, 3) := by decide +kernel
theorem dX8_custom_6 : decode cX8_custom 6 = .ok (.ifCond .eq 7, 3) := by decide +kernel
theorem dX8_custom_9 : decode cX8_custom 9 = .ok (.iload_n 2, 1) := by decide +kernel
theorem dX8_custom_10 : decode cX8_custom 10 = .ok (.ifCond .ge 6, 3) := by decide +kernel
theorem dX8_custom_13 : decode cX8_custom 13 = .ok (.bipush (-2), 2) := by decide +kernel
theorem dX8_custom_15 : decode cX8_custom 15 = .ok (.ireturn, 1) := by decide +kernel
theorem dX8_custom_16 : decode cX8_custom 16 = .ok (.aload_n 0, 1) := by decide +kernel
theorem dX8_custom_17 : decode cX8_custom 17 = .ok (.getfield 49, 3) := by decide +kernel
theorem dX8_custom_20 : decode cX8_custom 20 = .ok (.iload_n 1, 1) := by decide +kernel
theorem dX8_custom_21 : decode cX8_custom 21 = .ok (.putfield 260, 3) := by decide +kernel
theorem dX8_custom_24 : decode cX8_custom 24 = .ok (.aload_n 0, 1) := by decide +kernel
theorem dX8_custom_25 : decode cX8_custom 25 = .ok (.getfield 49, 3) := by decide +kernel
theorem dX8_custom_28 : decode cX8_custom 28 = .ok (.iload_n 2, 1) := by decide +kernel
theorem dX8_custom_29 : decode cX8_custom 29 = .ok (.putfield 263, 3) := by decide +kernel
theorem dX8_custom_32 : decode cX8_custom 32 = .ok (.iconst 1, 1) := by decide +kernel
theorem dX8_custom_33 : decode cX8_custom 33 = .ok (.ireturn, 1) := by decide +kernel
theorem dX8_told_0 : decode cX8_told 0 = .ok (.iload_n 1, 1) := by decide +kernel
theorem dX8_told_1 : decode cX8_told 1 = .ok (.invokestatic 266, 3) := by decide +kernel
theorem dX8_told_4 : decode cX8_told 4 = .ok (.ifCond .eq 30, 3) := by decide +kernel
theorem dX8_told_7 : decode cX8_told 7 = .ok (.aload_n 0, 1) := by decide +kernel
theorem dX8_told_8 : decode cX8_told 8 = .ok (.getfield 49, 3) := by decide +kernel
theorem dX8_told_11 : decode cX8_told 11 = .ok (.iload_n 2, 1) := by decide +kernel
theorem dX8_told_12 : decode cX8_told 12 = .ok (.invokevirtual 269, 3) := by decide +kernel
theorem dX8_told_15 : decode cX8_told 15 = .ok (.ifCond .eq 19, 3) := by decide +kernel
theorem dX8_told_18 : decode cX8_told 18 = .ok (.aload_n 0, 1) := by decide +kernel
theorem dX8_told_19 : decode cX8_told 19 = .ok (.getfield 49, 3) := by decide +kernel
theorem dX8_told_22 : decode cX8_told 22 = .ok (.iload_n 3, 1) := by decide +kernel
theorem dX8_told_23 : decode cX8_told 23 = .ok (.invokevirtual 269, 3) := by decide +kernel
theorem dX8_told_26 : decode cX8_told 26 = .ok (.ifCond .eq 8, 3) := by decide +kernel
theorem dX8_told_29 : decode cX8_told 29 = .ok (.iload_n 2, 1) := by decide +kernel
theorem dX8_told_30 : decode cX8_told 30 = .ok (.iload_n 3, 1) := by decide +kernel
theorem dX8_told_31 : decode cX8_told 31 = .ok (.if_icmp .ne 6, 3) := by decide +kernel
theorem dX8_told_34 : decode cX8_told 34 = .ok (.bipush (-2), 2) := by decide +kernel
theorem dX8_told_36 : decode cX8_told 36 = .ok (.ireturn, 1) := by decide +kernel
theorem dX8_told_37 : decode cX8_told 37 = .ok (.aload_n 0, 1) := by decide +kernel
theorem dX8_told_38 : decode cX8_told 38 = .ok (.getfield 49, 3) := by decide +kernel
theorem dX8_told_41 : decode cX8_told 41 = .ok (.getfield 257, 3) := by decide +kernel
theorem dX8_told_44 : decode cX8_told 44 = .ok (.bipush 30, 2) := by decide +kernel
theorem dX8_told_46 : decode cX8_told 46 = .ok (.if_icmp .lt 6, 3) := by decide +kernel
theorem dX8_told_49 : decode cX8_told 49 = .ok (.bipush (-4), 2) := by decide +kernel
theorem dX8_told_51 : decode cX8_told 51 = .ok (.ireturn, 1) := by decide +kernel
theorem dX8_told_52 : decode cX8_told 52 = .ok (.aload_n 0, 1) := by decide +kernel
theorem dX8_told_53 : decode cX8_told 53 = .ok (.getfield 49, 3) := by decide +kernel
theorem dX8_told_56 : decode cX8_told 56 = .ok (.iload_n 1, 1) := by decide +kernel
theorem dX8_told_57 : decode cX8_told 57 = .ok (.iload_n 2, 1) := by decide +kernel
theorem dX8_told_58 : decode cX8_told 58 = .ok (.iload_n 3, 1) := by decide +kernel
theorem dX8_told_59 : decode cX8_told 59 = .ok (.iload 4, 2) := by decide +kernel
theorem dX8_told_61 : decode cX8_told 61 = .ok (.invokevirtual 270, 3) := by decide +kernel
theorem dX8_told_64 : decode cX8_told 64 = .ok (.iconst 1, 1) := by decide +kernel
theorem dX8_told_65 : decode cX8_told 65 = .ok (.ireturn, 1) := by decide +kernel
theorem dX8_slots_0 : decode cX8_slots 0 = .ok (.iload_n 1, 1) := by decide +kernel
theorem dX8_slots_1 : decode cX8_slots 1 = .ok (.iconst 1, 1) := by decide +kernel
theorem dX8_slots_2 : decode cX8_slots 2 = .ok (.bipush 8, 2) := by decide +kernel
theorem dX8_slots_4 : decode cX8_slots 4 = .ok (.invokestatic 64, 3) := by decide +kernel
theorem dX8_slots_7 : decode cX8_slots 7 = .ok (.ifCond .ne 6, 3) := by decide +kernel
theorem dX8_slots_10 : decode cX8_slots 10 = .ok (.bipush (-2), 2) := by decide +kernel
theorem dX8_slots_12 : decode cX8_slots 12 = .ok (.ireturn, 1) := by decide +kernel
theorem dX8_slots_13 : decode cX8_slots 13 = .ok (.aload_n 0, 1) := by decide +kernel
theorem dX8_slots_14 : decode cX8_slots 14 = .ok (.getfield 49, 3) := by decide +kernel
theorem dX8_slots_17 : decode cX8_slots 17 = .ok (.getfield 274, 3) := by decide +kernel
theorem dX8_slots_20 : decode cX8_slots 20 = .ok (.istore_n 2, 1) := by decide +kernel
theorem dX8_slots_21 : decode cX8_slots 21 = .ok (.aload_n 0, 1) := by decide +kernel
theorem dX8_slots_22 : decode cX8_slots 22 = .ok (.getfield 49, 3) := by decide +kernel
theorem dX8_slots_25 : decode cX8_slots 25 = .ok (.iload_n 1, 1) := by decide +kernel
theorem dX8_slots_26 : decode cX8_slots 26 = .ok (.putfield 274, 3) := by decide +kernel
theorem dX8_slots_29 : decode cX8_slots 29 = .ok (.iload_n 2, 1) := by decide +kernel
theorem dX8_slots_30 : decode cX8_slots 30 = .ok (.ireturn, 1) := by decide +kernel
theorem dX8_at_0 : decode cX8_at 0 = .ok (.iload_n 1, 1) := by decide +kernel
theorem dX8_at_1 : decode cX8_at 1 = .ok (.invokestatic 266, 3) := by decide +kernel
theorem dX8_at_4 : decode cX8_at 4 = .ok (.ifCond .eq 20, 3) := by decide +kernel
theorem dX8_at_7 : decode cX8_at 7 = .ok (.iload_n 2, 1) := by decide +kernel
theorem dX8_at_8 : decode cX8_at 8 = .ok (.iconst 0, 1) := by decide +kernel
theorem dX8_at_9 : decode cX8_at 9 = .ok (.aload_n 0, 1) := by decide +kernel
theorem dX8_at_10 : decode cX8_at 10 = .ok (.getfield 49, 3) := by decide +kernel
theorem dX8_at_13 : decode cX8_at 13 = .ok (.getfield 256, 3) := by decide +kernel
theorem dX8_at_16 : decode cX8_at 16 = .ok (.iconst 1, 1) := by decide +kernel
theorem dX8_at_17 : decode cX8_at 17 = .ok (.isub, 1) := by decide +kernel
theorem dX8_at_18 : decode cX8_at 18 = .ok (.invokestatic 64, 3) := by decide +kernel
theorem dX8_at_21 : decode cX8_at 21 = .ok (.ifCond .ne 6, 3) := by decide +kernel
theorem dX8_at_24 : decode cX8_at 24 = .ok (.bipush (-2), 2) := by decide +kernel
theorem dX8_at_26 : decode cX8_at 26 = .ok (.ireturn, 1) := by decide +kernel
theorem dX8_at_27 : decode cX8_at 27 = .ok (.aload_n 0, 1) := by decide +kernel
theorem dX8_at_28 : decode cX8_at 28 = .ok (.getfield 49, 3) := by decide +kernel
theorem dX8_at_31 : decode cX8_at 31 = .ok (.iload_n 1, 1) := by decide +kernel
theorem dX8_at_32 : decode cX8_at 32 = .ok (.invokevirtual 277, 3) := by decide +kernel
theorem dX8_at_35 : decode cX8_at 35 = .ok (.aload_n 0, 1) := by decide +kernel
theorem dX8_at_36 : decode cX8_at 36 = .ok (.getfield 49, 3) := by decide +kernel
theorem dX8_at_39 : decode cX8_at 39 = .ok (.getfield 281, 3) := by decide +kernel
theorem dX8_at_42 : decode cX8_at 42 = .ok (.iload_n 2, 1) := by decide +kernel
theorem dX8_at_43 : decode cX8_at 43 = .ok (.iaload, 1) := by decide +kernel
theorem dX8_at_44 : decode cX8_at 44 = .ok (.ireturn, 1) := by decide +kernel
theorem dX8_waits_0 : decode cX8_waits 0 = .ok (.aload_n 0, 1) := by decide +kernel
theorem dX8_waits_1 : decode cX8_waits 1 = .ok (.getfield 49, 3) := by decide +kernel
theorem dX8_waits_4 : decode cX8_waits 4 = .ok (.iload_n 1, 1) := by decide +kernel
theorem dX8_waits_5 : decode cX8_waits 5 = .ok (.invokevirtual 269, 3) := by decide +kernel
theorem dX8_waits_8 : decode cX8_waits 8 = .ok (.ifCond .eq 32, 3) := by decide +kernel
theorem dX8_waits_11 : decode cX8_waits 11 = .ok (.iload_n 2, 1) := by decide +kernel
theorem dX8_waits_12 : decode cX8_waits 12 = .ok (.invokestatic 266, 3) := by decide +kernel
theorem dX8_waits_15 : decode cX8_waits 15 = .ok (.ifCond .eq 25, 3) := by decide +kernel
theorem dX8_waits_18 : decode cX8_waits 18 = .ok (.iload_n 3, 1) := by decide +kernel
theorem dX8_waits_19 : decode cX8_waits 19 = .ok (.invokestatic 266, 3) := by decide +kernel
theorem dX8_waits_22 : decode cX8_waits 22 = .ok (.ifCond .eq 18, 3) := by decide +kernel
theorem dX8_waits_25 : decode cX8_waits 25 = .ok (.iload_n 2, 1) := by decide +kernel
theorem dX8_waits_26 : decode cX8_waits 26 = .ok (.iload_n 3, 1) := by decide +kernel
theorem dX8_waits_27 : decode cX8_waits 27 = .ok (.if_icmp .gt 13, 3) := by decide +kernel
theorem dX8_waits_30 : decode cX8_waits 30 = .ok (.iload 4, 2) := by decide +kernel
theorem dX8_waits_32 : decode cX8_waits 32 = .ok (.iconst 0, 1) := by decide +kernel
theorem dX8_waits_33 : decode cX8_waits 33 = .ok (.iconst 1, 1) := by decide +kernel
theorem dX8_waits_34 : decode cX8_waits 34 = .ok (.invokestatic 64, 3) := by decide +kernel
theorem dX8_waits_37 : decode cX8_waits 37 = .ok (.ifCond .ne 6, 3) := by decide +kernel
theorem dX8_waits_40 : decode cX8_waits 40 = .ok (.bipush (-2), 2) := by decide +kernel
theorem dX8_waits_42 : decode cX8_waits 42 = .ok (.ireturn, 1) := by decide +kernel
theorem dX8_waits_43 : decode cX8_waits 43 = .ok (.iload 4, 2) := by decide +kernel
theorem dX8_waits_45 : decode cX8_waits 45 = .ok (.ifCond .ne 16, 3) := by decide +kernel
theorem dX8_waits_48 : decode cX8_waits 48 = .ok (.aload_n 0, 1) := by decide +kernel
theorem dX8_waits_49 : decode cX8_waits 49 = .ok (.getfield 49, 3) := by decide +kernel
theorem dX8_waits_52 : decode cX8_waits 52 = .ok (.iload_n 1, 1) := by decide +kernel
theorem dX8_waits_53 : decode cX8_waits 53 = .ok (.iload_n 2, 1) := by decide +kernel
theorem dX8_waits_54 : decode cX8_waits 54 = .ok (.iload_n 3, 1) := by decide +kernel
theorem dX8_waits_55 : decode cX8_waits 55 = .ok (.invokevirtual 284, 3) := by decide +kernel
theorem dX8_waits_58 : decode cX8_waits 58 = .ok (.goto 13, 3) := by decide +kernel
theorem dX8_waits_61 : decode cX8_waits 61 = .ok (.aload_n 0, 1) := by decide +kernel
theorem dX8_waits_62 : decode cX8_waits 62 = .ok (.getfield 49, 3) := by decide +kernel
theorem dX8_waits_65 : decode cX8_waits 65 = .ok (.iload_n 1, 1) := by decide +kernel
theorem dX8_waits_66 : decode cX8_waits 66 = .ok (.iload_n 2, 1) := by decide +kernel
theorem dX8_waits_67 : decode cX8_waits 67 = .ok (.iload_n 3, 1) := by decide +kernel
theorem dX8_waits_68 : decode cX8_waits 68 = .ok (.invokevirtual 288, 3) := by decide +kernel
theorem dX8_waits_71 : decode cX8_waits 71 = .ok (.ireturn, 1) := by decide +kernel
theorem dX8_note_0 : decode cX8_note 0 = .ok (.iload_n 1, 1) := by decide +kernel
theorem dX8_note_1 : decode cX8_note 1 = .ok (.invokestatic 266, 3) := by decide +kernel
theorem dX8_note_4 : decode cX8_note 4 = .ok (.ifCond .eq 19, 3) := by decide +kernel
theorem dX8_note_7 : decode cX8_note 7 = .ok (.iload_n 2, 1) := by decide +kernel
theorem dX8_note_8 : decode cX8_note 8 = .ok (.invokestatic 71, 3) := by decide +kernel
theorem dX8_note_11 : decode cX8_note 11 = .ok (.ifCond .eq 12, 3) := by decide +kernel
theorem dX8_note_14 : decode cX8_note 14 = .ok (.iload_n 3, 1) := by decide +kernel
theorem dX8_note_15 : decode cX8_note 15 = .ok (.iconst 0, 1) := by decide +kernel
theorem dX8_note_16 : decode cX8_note 16 = .ok (.iconst 3, 1) := by decide +kernel
theorem dX8_note_17 : decode cX8_note 17 = .ok (.invokestatic 64, 3) := by decide +kernel
theorem dX8_note_20 : decode cX8_note 20 = .ok (.ifCond .ne 6, 3) := by decide +kernel
theorem dX8_note_23 : decode cX8_note 23 = .ok (.bipush (-2), 2) := by decide +kernel
theorem dX8_note_25 : decode cX8_note 25 = .ok (.ireturn, 1) := by decide +kernel
theorem dX8_note_26 : decode cX8_note 26 = .ok (.aload_n 0, 1) := by decide +kernel
theorem dX8_note_27 : decode cX8_note 27 = .ok (.getfield 56, 3) := by decide +kernel
theorem dX8_note_30 : decode cX8_note 30 = .ok (.getfield 291, 3) := by decide +kernel
theorem dX8_note_33 : decode cX8_note 33 = .ok (.iload_n 1, 1) := by decide +kernel
theorem dX8_note_34 : decode cX8_note 34 = .ok (.iconst 4, 1) := by decide +kernel
theorem dX8_note_35 : decode cX8_note 35 = .ok (.imul, 1) := by decide +kernel
theorem dX8_note_36 : decode cX8_note 36 = .ok (.iload_n 2, 1) := by decide +kernel
theorem dX8_note_37 : decode cX8_note 37 = .ok (.iadd, 1) := by decide +kernel
theorem dX8_note_38 : decode cX8_note 38 = .ok (.iaload, 1) := by decide +kernel
theorem dX8_note_39 : decode cX8_note 39 = .ok (.istore 4, 2) := by decide +kernel
theorem dX8_note_41 : decode cX8_note 41 = .ok (.aload_n 0, 1) := by decide +kernel
theorem dX8_note_42 : decode cX8_note 42 = .ok (.getfield 56, 3) := by decide +kernel
theorem dX8_note_45 : decode cX8_note 45 = .ok (.getfield 291, 3) := by decide +kernel
theorem dX8_note_48 : decode cX8_note 48 = .ok (.iload_n 1, 1) := by decide +kernel
theorem dX8_note_49 : decode cX8_note 49 = .ok (.iconst 4, 1) := by decide +kernel
theorem dX8_note_50 : decode cX8_note 50 = .ok (.imul, 1) := by decide +kernel
theorem dX8_note_51 : decode cX8_note 51 = .ok (.iload_n 2, 1) := by decide +kernel
theorem dX8_note_52 : decode cX8_note 52 = .ok (.iadd, 1) := by decide +kernel
theorem dX8_note_53 : decode cX8_note 53 = .ok (.iload_n 3, 1) := by decide +kernel
theorem dX8_note_54 : decode cX8_note 54 = .ok (.iastore, 1) := by decide +kernel
theorem dX8_note_55 : decode cX8_note 55 = .ok (.iload 4, 2) := by decide +kernel
theorem dX8_note_57 : decode cX8_note 57 = .ok (.ireturn, 1) := by decide +kernel
theorem dX8_lose_0 : decode cX8_lose 0 = .ok (.iload_n 1, 1) := by decide +kernel
theorem dX8_lose_1 : decode cX8_lose 1 = .ok (.invokestatic 266, 3) := by decide +kernel
theorem dX8_lose_4 : decode cX8_lose 4 = .ok (.ifCond .ne 6, 3) := by decide +kernel
theorem dX8_lose_7 : decode cX8_lose 7 = .ok (.bipush (-2), 2) := by decide +kernel
theorem dX8_lose_9 : decode cX8_lose 9 = .ok (.ireturn, 1) := by decide +kernel
theorem dX8_lose_10 : decode cX8_lose 10 = .ok (.aload_n 0, 1) := by decide +kernel
theorem dX8_lose_11 : decode cX8_lose 11 = .ok (.getfield 56, 3) := by decide +kernel
theorem dX8_lose_14 : decode cX8_lose 14 = .ok (.iload_n 1, 1) := by decide +kernel
theorem dX8_lose_15 : decode cX8_lose 15 = .ok (.invokevirtual 294, 3) := by decide +kernel
theorem dX8_lose_18 : decode cX8_lose 18 = .ok (.ireturn, 1) := by decide +kernel
theorem dX8_bricks_0 : decode cX8_bricks 0 = .ok (.iload_n 1, 1) := by decide +kernel
theorem dX8_bricks_1 : decode cX8_bricks 1 = .ok (.invokestatic 71, 3) := by decide +kernel
theorem dX8_bricks_4 : decode cX8_bricks 4 = .ok (.ifCond .eq 10, 3) := by decide +kernel
theorem dX8_bricks_7 : decode cX8_bricks 7 = .ok (.iload_n 2, 1) := by decide +kernel
theorem dX8_bricks_8 : decode cX8_bricks 8 = .ok (.invokestatic 266, 3) := by decide +kernel
theorem dX8_bricks_11 : decode cX8_bricks 11 = .ok (.ifCond .ne 6, 3) := by decide +kernel
theorem dX8_bricks_14 : decode cX8_bricks 14 = .ok (.bipush (-2), 2) := by decide +kernel
theorem dX8_bricks_16 : decode cX8_bricks 16 = .ok (.ireturn, 1) := by decide +kernel
theorem dX8_bricks_17 : decode cX8_bricks 17 = .ok (.aload_n 0, 1) := by decide +kernel
theorem dX8_bricks_18 : decode cX8_bricks 18 = .ok (.getfield 56, 3) := by decide +kernel
theorem dX8_bricks_21 : decode cX8_bricks 21 = .ok (.getfield 297, 3) := by decide +kernel
theorem dX8_bricks_24 : decode cX8_bricks 24 = .ok (.bipush 10, 2) := by decide +kernel
theorem dX8_bricks_26 : decode cX8_bricks 26 = .ok (.if_icmp .lt 6, 3) := by decide +kernel
theorem dX8_bricks_29 : decode cX8_bricks 29 = .ok (.bipush (-4), 2) := by decide +kernel
theorem dX8_bricks_31 : decode cX8_bricks 31 = .ok (.ireturn, 1) := by decide +kernel
theorem dX8_bricks_32 : decode cX8_bricks 32 = .ok (.aload_n 0, 1) := by decide +kernel
theorem dX8_bricks_33 : decode cX8_bricks 33 = .ok (.getfield 56, 3) := by decide +kernel
theorem dX8_bricks_36 : decode cX8_bricks 36 = .ok (.iload_n 1, 1) := by decide +kernel
theorem dX8_bricks_37 : decode cX8_bricks 37 = .ok (.iload_n 2, 1) := by decide +kernel
theorem dX8_bricks_38 : decode cX8_bricks 38 = .ok (.invokevirtual 300, 3) := by decide +kernel
theorem dX8_bricks_41 : decode cX8_bricks 41 = .ok (.ireturn, 1) := by decide +kernel
theorem dX8_best_0 : decode cX8_best 0 = .ok (.iload_n 1, 1) := by decide +kernel
theorem dX8_best_1 : decode cX8_best 1 = .ok (.iconst 0, 1) := by decide +kernel
theorem dX8_best_2 : decode cX8_best 2 = .ok (.iconst 3, 1) := by decide +kernel
theorem dX8_best_3 : decode cX8_best 3 = .ok (.invokestatic 64, 3) := by decide +kernel
theorem dX8_best_6 : decode cX8_best 6 = .ok (.ifCond .ne 6, 3) := by decide +kernel
theorem dX8_best_9 : decode cX8_best 9 = .ok (.bipush (-2), 2) := by decide +kernel
theorem dX8_best_11 : decode cX8_best 11 = .ok (.ireturn, 1) := by decide +kernel
theorem dX8_best_12 : decode cX8_best 12 = .ok (.aload_n 0, 1) := by decide +kernel
theorem dX8_best_13 : decode cX8_best 13 = .ok (.getfield 56, 3) := by decide +kernel
theorem dX8_best_16 : decode cX8_best 16 = .ok (.invokevirtual 303, 3) := by decide +kernel
theorem dX8_best_19 : decode cX8_best 19 = .ok (.iload_n 1, 1) := by decide +kernel
theorem dX8_best_20 : decode cX8_best 20 = .ok (.tableswitch 52 0 2 #[28, 36, 44], 28) := by decide +kernel
theorem dX8_best_48 : decode cX8_best 48 = .ok (.aload_n 0, 1) := by decide +kernel
theorem dX8_best_49 : decode cX8_best 49 = .ok (.getfield 56, 3) := by decide +kernel
theorem dX8_best_52 : decode cX8_best 52 = .ok (.getfield 306, 3) := by decide +kernel
theorem dX8_best_55 : decode cX8_best 55 = .ok (.ireturn, 1) := by decide +kernel
theorem dX8_best_56 : decode cX8_best 56 = .ok (.aload_n 0, 1) := by decide +kernel
theorem dX8_best_57 : decode cX8_best 57 = .ok (.getfield 56, 3) := by decide +kernel
theorem dX8_best_60 : decode cX8_best 60 = .ok (.getfield 309, 3) := by decide +kernel
theorem dX8_best_63 : decode cX8_best 63 = .ok (.ireturn, 1) := by decide +kernel
theorem dX8_best_64 : decode cX8_best 64 = .ok (.aload_n 0, 1) := by decide +kernel
theorem dX8_best_65 : decode cX8_best 65 = .ok (.getfield 56, 3) := by decide +kernel
theorem dX8_best_68 : decode cX8_best 68 = .ok (.getfield 312, 3) := by decide +kernel
theorem dX8_best_71 : decode cX8_best 71 = .ok (.ireturn, 1) := by decide +kernel
theorem dX8_best_72 : decode cX8_best 72 = .ok (.aload_n 0, 1) := by decide +kernel
theorem dX8_best_73 : decode cX8_best 73 = .ok (.getfield 56, 3) := by decide +kernel
theorem dX8_best_76 : decode cX8_best 76 = .ok (.getfield 315, 3) := by decide +kernel
theorem dX8_best_79 : decode cX8_best 79 = .ok (.ireturn, 1) := by decide +kernel
