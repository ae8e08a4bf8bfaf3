theorem dX0_init_0 : decode cX0_init 0 = .ok (.aload_n 0, 1) := by decide +kernel
theorem dX0_init_1 : decode cX0_init 1 = .ok (.invokespecial 3, 3) := by decide +kernel
theorem dX0_init_4 : decode cX0_init 4 = .ok (.aload_n 0, 1) := by decide +kernel
theorem dX0_init_5 : decode cX0_init 5 = .ok (.sipush 192, 3) := by decide +kernel
theorem dX0_init_8 : decode cX0_init 8 = .ok (.newarray .int, 2) := by decide +kernel
theorem dX0_init_10 : decode cX0_init 10 = .ok (.putfield 9, 3) := by decide +kernel
theorem dX0_init_13 : decode cX0_init 13 = .ok (.aload_n 0, 1) := by decide +kernel
theorem dX0_init_14 : decode cX0_init 14 = .ok (.sipush 192, 3) := by decide +kernel
theorem dX0_init_17 : decode cX0_init 17 = .ok (.newarray .long, 2) := by decide +kernel
theorem dX0_init_19 : decode cX0_init 19 = .ok (.putfield 15, 3) := by decide +kernel
theorem dX0_init_22 : decode cX0_init 22 = .ok (.aload_n 0, 1) := by decide +kernel
theorem dX0_init_23 : decode cX0_init 23 = .ok (.sipush 192, 3) := by decide +kernel
theorem dX0_init_26 : decode cX0_init 26 = .ok (.newarray .int, 2) := by decide +kernel
theorem dX0_init_28 : decode cX0_init 28 = .ok (.putfield 19, 3) := by decide +kernel
theorem dX0_init_31 : decode cX0_init 31 = .ok (.aload_n 0, 1) := by decide +kernel
theorem dX0_init_32 : decode cX0_init 32 = .ok (.sipush 192, 3) := by decide +kernel
theorem dX0_init_35 : decode cX0_init 35 = .ok (.newarray .long, 2) := by decide +kernel
theorem dX0_init_37 : decode cX0_init 37 = .ok (.putfield 22, 3) := by decide +kernel
theorem dX0_init_40 : decode cX0_init 40 = .ok (.return_, 1) := by decide +kernel
theorem dX0_restart_0 : decode cX0_restart 0 = .ok (.aload_n 0, 1) := by decide +kernel
theorem dX0_restart_1 : decode cX0_restart 1 = .ok (.iconst 0, 1) := by decide +kernel
theorem dX0_restart_2 : decode cX0_restart 2 = .ok (.putfield 25, 3) := by decide +kernel
theorem dX0_restart_5 : decode cX0_restart 5 = .ok (.return_, 1) := by decide +kernel
theorem dX0_take_0 : decode cX0_take 0 = .ok (.aload_n 0, 1) := by decide +kernel
theorem dX0_take_1 : decode cX0_take 1 = .ok (.getfield 25, 3) := by decide +kernel
theorem dX0_take_4 : decode cX0_take 4 = .ok (.sipush 192, 3) := by decide +kernel
theorem dX0_take_7 : decode cX0_take 7 = .ok (.if_icmp .ge 33, 3) := by decide +kernel
theorem dX0_take_10 : decode cX0_take 10 = .ok (.aload_n 0, 1) := by decide +kernel
theorem dX0_take_11 : decode cX0_take 11 = .ok (.getfield 9, 3) := by decide +kernel
theorem dX0_take_14 : decode cX0_take 14 = .ok (.aload_n 0, 1) := by decide +kernel
theorem dX0_take_15 : decode cX0_take 15 = .ok (.getfield 25, 3) := by decide +kernel
theorem dX0_take_18 : decode cX0_take 18 = .ok (.iload_n 1, 1) := by decide +kernel
theorem dX0_take_19 : decode cX0_take 19 = .ok (.iastore, 1) := by decide +kernel
theorem dX0_take_20 : decode cX0_take 20 = .ok (.aload_n 0, 1) := by decide +kernel
theorem dX0_take_21 : decode cX0_take 21 = .ok (.getfield 15, 3) := by decide +kernel
theorem dX0_take_24 : decode cX0_take 24 = .ok (.aload_n 0, 1) := by decide +kernel
theorem dX0_take_25 : decode cX0_take 25 = .ok (.getfield 25, 3) := by decide +kernel
theorem dX0_take_28 : decode cX0_take 28 = .ok (.lload_n 2, 1) := by decide +kernel
theorem dX0_take_29 : decode cX0_take 29 = .ok (.lastore, 1) := by decide +kernel
theorem dX0_take_30 : decode cX0_take 30 = .ok (.aload_n 0, 1) := by decide +kernel
theorem dX0_take_31 : decode cX0_take 31 = .ok (.dup, 1) := by decide +kernel
theorem dX0_take_32 : decode cX0_take 32 = .ok (.getfield 25, 3) := by decide +kernel
theorem dX0_take_35 : decode cX0_take 35 = .ok (.iconst 1, 1) := by decide +kernel
theorem dX0_take_36 : decode cX0_take 36 = .ok (.iadd, 1) := by decide +kernel
theorem dX0_take_37 : decode cX0_take 37 = .ok (.putfield 25, 3) := by decide +kernel
theorem dX0_take_40 : decode cX0_take 40 = .ok (.return_, 1) := by decide +kernel
theorem dX0_numberOrNothing_0 : decode cX0_numberOrNothing 0 = .ok (.iload_n 1, 1) := by decide +kernel
theorem dX0_numberOrNothing_1 : decode cX0_numberOrNothing 1 = .ok (.ifCond .lt 20, 3) := by decide +kernel
theorem dX0_numberOrNothing_4 : decode cX0_numberOrNothing 4 = .ok (.iload_n 1, 1) := by decide +kernel
theorem dX0_numberOrNothing_5 : decode cX0_numberOrNothing 5 = .ok (.aload_n 0, 1) := by decide +kernel
theorem dX0_numberOrNothing_6 : decode cX0_numberOrNothing 6 = .ok (.getfield 25, 3) := by decide +kernel
theorem dX0_numberOrNothing_9 : decode cX0_numberOrNothing 9 = .ok (.if_icmp .ge 12, 3) := by decide +kernel
theorem dX0_numberOrNothing_12 : decode cX0_numberOrNothing 12 = .ok (.aload_n 0, 1) := by decide +kernel
theorem dX0_numberOrNothing_13 : decode cX0_numberOrNothing 13 = .ok (.getfield 15, 3) := by decide +kernel
theorem dX0_numberOrNothing_16 : decode cX0_numberOrNothing 16 = .ok (.iload_n 1, 1) := by decide +kernel
theorem dX0_numberOrNothing_17 : decode cX0_numberOrNothing 17 = .ok (.laload, 1) := by decide +kernel
theorem dX0_numberOrNothing_18 : decode cX0_numberOrNothing 18 = .ok (.goto 6, 3) := by decide +kernel
theorem dX0_numberOrNothing_21 : decode cX0_numberOrNothing 21 = .ok (.ldc2_w 29, 3) := by decide +kernel
theorem dX0_numberOrNothing_24 : decode cX0_numberOrNothing 24 = .ok (.lreturn, 1) := by decide +kernel
theorem dX0_howMany_0 : decode cX0_howMany 0 = .ok (.iconst 0, 1) := by decide +kernel
theorem dX0_howMany_1 : decode cX0_howMany 1 = .ok (.istore 4, 2) := by decide +kernel
theorem dX0_howMany_3 : decode cX0_howMany 3 = .ok (.iconst 0, 1) := by decide +kernel
theorem dX0_howMany_4 : decode cX0_howMany 4 = .ok (.istore 5, 2) := by decide +kernel
theorem dX0_howMany_6 : decode cX0_howMany 6 = .ok (.iload 5, 2) := by decide +kernel
theorem dX0_howMany_8 : decode cX0_howMany 8 = .ok (.aload_n 0, 1) := by decide +kernel
theorem dX0_howMany_9 : decode cX0_howMany 9 = .ok (.getfield 25, 3) := by decide +kernel
theorem dX0_howMany_12 : decode cX0_howMany 12 = .ok (.if_icmp .ge 34, 3) := by decide +kernel
theorem dX0_howMany_15 : decode cX0_howMany 15 = .ok (.iload 4, 2) := by decide +kernel
theorem dX0_howMany_17 : decode cX0_howMany 17 = .ok (.aload_n 0, 1) := by decide +kernel
theorem dX0_howMany_18 : decode cX0_howMany 18 = .ok (.getfield 15, 3) := by decide +kernel
theorem dX0_howMany_21 : decode cX0_howMany 21 = .ok (.iload 5, 2) := by decide +kernel
theorem dX0_howMany_23 : decode cX0_howMany 23 = .ok (.laload, 1) := by decide +kernel
theorem dX0_howMany_24 : decode cX0_howMany 24 = .ok (.iload_n 1, 1) := by decide +kernel
theorem dX0_howMany_25 : decode cX0_howMany 25 = .ok (.lload_n 2, 1) := by decide +kernel
theorem dX0_howMany_26 : decode cX0_howMany 26 = .ok (.invokestatic 31, 3) := by decide +kernel
theorem dX0_howMany_29 : decode cX0_howMany 29 = .ok (.ifCond .eq 7, 3) := by decide +kernel
theorem dX0_howMany_32 : decode cX0_howMany 32 = .ok (.iconst 1, 1) := by decide +kernel
theorem dX0_howMany_33 : decode cX0_howMany 33 = .ok (.goto 4, 3) := by decide +kernel
theorem dX0_howMany_36 : decode cX0_howMany 36 = .ok (.iconst 0, 1) := by decide +kernel
theorem dX0_howMany_37 : decode cX0_howMany 37 = .ok (.iadd, 1) := by decide +kernel
theorem dX0_howMany_38 : decode cX0_howMany 38 = .ok (.istore 4, 2) := by decide +kernel
theorem dX0_howMany_40 : decode cX0_howMany 40 = .ok (.iinc 5 1, 3) := by decide +kernel
theorem dX0_howMany_43 : decode cX0_howMany 43 = .ok (.goto (-37), 3) := by decide +kernel
theorem dX0_howMany_46 : decode cX0_howMany 46 = .ok (.iload 4, 2) := by decide +kernel
theorem dX0_howMany_48 : decode cX0_howMany 48 = .ok (.ireturn, 1) := by decide +kernel
theorem dX0_howManyElsewhere_0 : decode cX0_howManyElsewhere 0 = .ok (.iconst 0, 1) := by decide +kernel
theorem dX0_howManyElsewhere_1 : decode cX0_howManyElsewhere 1 = .ok (.istore_n 1, 1) := by decide +kernel
theorem dX0_howManyElsewhere_2 : decode cX0_howManyElsewhere 2 = .ok (.iconst 0, 1) := by decide +kernel
theorem dX0_howManyElsewhere_3 : decode cX0_howManyElsewhere 3 = .ok (.istore_n 2, 1) := by decide +kernel
theorem dX0_howManyElsewhere_4 : decode cX0_howManyElsewhere 4 = .ok (.iload_n 2, 1) := by decide +kernel
theorem dX0_howManyElsewhere_5 : decode cX0_howManyElsewhere 5 = .ok (.aload_n 0, 1) := by decide +kernel
theorem dX0_howManyElsewhere_6 : decode cX0_howManyElsewhere 6 = .ok (.getfield 25, 3) := by decide +kernel
theorem dX0_howManyElsewhere_9 : decode cX0_howManyElsewhere 9 = .ok (.if_icmp .ge 27, 3) := by decide +kernel
theorem dX0_howManyElsewhere_12 : decode cX0_howManyElsewhere 12 = .ok (.iload_n 1, 1) := by decide +kernel
theorem dX0_howManyElsewhere_13 : decode cX0_howManyElsewhere 13 = .ok (.aload_n 0, 1) := by decide +kernel
theorem dX0_howManyElsewhere_14 : decode cX0_howManyElsewhere 14 = .ok (.getfield 9, 3) := by decide +kernel
theorem dX0_howManyElsewhere_17 : decode cX0_howManyElsewhere 17 = .ok (.iload_n 2, 1) := by decide +kernel
theorem dX0_howManyElsewhere_18 : decode cX0_howManyElsewhere 18 = .ok (.iaload, 1) := by decide +kernel
theorem dX0_howManyElsewhere_19 : decode cX0_howManyElsewhere 19 = .ok (.iload_n 2, 1) := by decide +kernel
theorem dX0_howManyElsewhere_20 : decode cX0_howManyElsewhere 20 = .ok (.if_icmp .ne 7, 3) := by decide +kernel
theorem dX0_howManyElsewhere_23 : decode cX0_howManyElsewhere 23 = .ok (.iconst 0, 1) := by decide +kernel
theorem dX0_howManyElsewhere_24 : decode cX0_howManyElsewhere 24 = .ok (.goto 4, 3) := by decide +kernel
theorem dX0_howManyElsewhere_27 : decode cX0_howManyElsewhere 27 = .ok (.iconst 1, 1) := by decide +kernel
theorem dX0_howManyElsewhere_28 : decode cX0_howManyElsewhere 28 = .ok (.iadd, 1) := by decide +kernel
theorem dX0_howManyElsewhere_29 : decode cX0_howManyElsewhere 29 = .ok (.istore_n 1, 1) := by decide +kernel
theorem dX0_howManyElsewhere_30 : decode cX0_howManyElsewhere 30 = .ok (.iinc 2 1, 3) := by decide +kernel
theorem dX0_howManyElsewhere_33 : decode cX0_howManyElsewhere 33 = .ok (.goto (-29), 3) := by decide +kernel
theorem dX0_howManyElsewhere_36 : decode cX0_howManyElsewhere 36 = .ok (.iload_n 1, 1) := by decide +kernel
theorem dX0_howManyElsewhere_37 : decode cX0_howManyElsewhere 37 = .ok (.ireturn, 1) := by decide +kernel
theorem dX0_putInOrder_0 : decode cX0_putInOrder 0 = .ok (.iconst 0, 1) := by decide +kernel
theorem dX0_putInOrder_1 : decode cX0_putInOrder 1 = .ok (.istore_n 2, 1) := by decide +kernel
theorem dX0_putInOrder_2 : decode cX0_putInOrder 2 = .ok (.iconst 1, 1) := by decide +kernel
theorem dX0_putInOrder_3 : decode cX0_putInOrder 3 = .ok (.istore_n 3, 1) := by decide +kernel
theorem dX0_putInOrder_4 : decode cX0_putInOrder 4 = .ok (.iload_n 3, 1) := by decide +kernel
theorem dX0_putInOrder_5 : decode cX0_putInOrder 5 = .ok (.aload_n 0, 1) := by decide +kernel
theorem dX0_putInOrder_6 : decode cX0_putInOrder 6 = .ok (.getfield 25, 3) := by decide +kernel
theorem dX0_putInOrder_9 : decode cX0_putInOrder 9 = .ok (.if_icmp .ge 103, 3) := by decide +kernel
theorem dX0_putInOrder_12 : decode cX0_putInOrder 12 = .ok (.iconst 0, 1) := by decide +kernel
theorem dX0_putInOrder_13 : decode cX0_putInOrder 13 = .ok (.istore 4, 2) := by decide +kernel
theorem dX0_putInOrder_15 : decode cX0_putInOrder 15 = .ok (.iload 4, 2) := by decide +kernel
theorem dX0_putInOrder_17 : decode cX0_putInOrder 17 = .ok (.aload_n 0, 1) := by decide +kernel
theorem dX0_putInOrder_18 : decode cX0_putInOrder 18 = .ok (.getfield 25, 3) := by decide +kernel
theorem dX0_putInOrder_21 : decode cX0_putInOrder 21 = .ok (.if_icmp .ge 50, 3) := by decide +kernel
theorem dX0_putInOrder_24 : decode cX0_putInOrder 24 = .ok (.iload 4, 2) := by decide +kernel
theorem dX0_putInOrder_26 : decode cX0_putInOrder 26 = .ok (.iload_n 3, 1) := by decide +kernel
theorem dX0_putInOrder_27 : decode cX0_putInOrder 27 = .ok (.iadd, 1) := by decide +kernel
theorem dX0_putInOrder_28 : decode cX0_putInOrder 28 = .ok (.aload_n 0, 1) := by decide +kernel
theorem dX0_putInOrder_29 : decode cX0_putInOrder 29 = .ok (.getfield 25, 3) := by decide +kernel
theorem dX0_putInOrder_32 : decode cX0_putInOrder 32 = .ok (.invokestatic 35, 3) := by decide +kernel
theorem dX0_putInOrder_35 : decode cX0_putInOrder 35 = .ok (.istore 5, 2) := by decide +kernel
theorem dX0_putInOrder_37 : decode cX0_putInOrder 37 = .ok (.iload_n 2, 1) := by decide +kernel
theorem dX0_putInOrder_38 : decode cX0_putInOrder 38 = .ok (.aload_n 0, 1) := by decide +kernel
theorem dX0_putInOrder_39 : decode cX0_putInOrder 39 = .ok (.iload 4, 2) := by decide +kernel
theorem dX0_putInOrder_41 : decode cX0_putInOrder 41 = .ok (.iload 5, 2) := by decide +kernel
theorem dX0_putInOrder_43 : decode cX0_putInOrder 43 = .ok (.iload 5, 2) := by decide +kernel
theorem dX0_putInOrder_45 : decode cX0_putInOrder 45 = .ok (.iload_n 3, 1) := by decide +kernel
theorem dX0_putInOrder_46 : decode cX0_putInOrder 46 = .ok (.iadd, 1) := by decide +kernel
theorem dX0_putInOrder_47 : decode cX0_putInOrder 47 = .ok (.aload_n 0, 1) := by decide +kernel
theorem dX0_putInOrder_48 : decode cX0_putInOrder 48 = .ok (.getfield 25, 3) := by decide +kernel
theorem dX0_putInOrder_51 : decode cX0_putInOrder 51 = .ok (.invokestatic 35, 3) := by decide +kernel
theorem dX0_putInOrder_54 : decode cX0_putInOrder 54 = .ok (.iload_n 1, 1) := by decide +kernel
theorem dX0_putInOrder_55 : decode cX0_putInOrder 55 = .ok (.invokevirtual 41, 3) := by decide +kernel
theorem dX0_putInOrder_58 : decode cX0_putInOrder 58 = .ok (.iadd, 1) := by decide +kernel
theorem dX0_putInOrder_59 : decode cX0_putInOrder 59 = .ok (.istore_n 2, 1) := by decide +kernel
theorem dX0_putInOrder_60 : decode cX0_putInOrder 60 = .ok (.iload 4, 2) := by decide +kernel
theorem dX0_putInOrder_62 : decode cX0_putInOrder 62 = .ok (.iconst 2, 1) := by decide +kernel
theorem dX0_putInOrder_63 : decode cX0_putInOrder 63 = .ok (.iload_n 3, 1) := by decide +kernel
theorem dX0_putInOrder_64 : decode cX0_putInOrder 64 = .ok (.imul, 1) := by decide +kernel
theorem dX0_putInOrder_65 : decode cX0_putInOrder 65 = .ok (.iadd, 1) := by decide +kernel
theorem dX0_putInOrder_66 : decode cX0_putInOrder 66 = .ok (.istore 4, 2) := by decide +kernel
theorem dX0_putInOrder_68 : decode cX0_putInOrder 68 = .ok (.goto (-53), 3) := by decide +kernel
theorem dX0_putInOrder_71 : decode cX0_putInOrder 71 = .ok (.aload_n 0, 1) := by decide +kernel
theorem dX0_putInOrder_72 : decode cX0_putInOrder 72 = .ok (.getfield 19, 3) := by decide +kernel
theorem dX0_putInOrder_75 : decode cX0_putInOrder 75 = .ok (.iconst 0, 1) := by decide +kernel
theorem dX0_putInOrder_76 : decode cX0_putInOrder 76 = .ok (.aload_n 0, 1) := by decide +kernel
theorem dX0_putInOrder_77 : decode cX0_putInOrder 77 = .ok (.getfield 9, 3) := by decide +kernel
theorem dX0_putInOrder_80 : decode cX0_putInOrder 80 = .ok (.iconst 0, 1) := by decide +kernel
theorem dX0_putInOrder_81 : decode cX0_putInOrder 81 = .ok (.aload_n 0, 1) := by decide +kernel
theorem dX0_putInOrder_82 : decode cX0_putInOrder 82 = .ok (.getfield 25, 3) := by decide +kernel
theorem dX0_putInOrder_85 : decode cX0_putInOrder 85 = .ok (.invokestatic 45, 3) := by decide +kernel
theorem dX0_putInOrder_88 : decode cX0_putInOrder 88 = .ok (.aload_n 0, 1) := by decide +kernel
theorem dX0_putInOrder_89 : decode cX0_putInOrder 89 = .ok (.getfield 22, 3) := by decide +kernel
theorem dX0_putInOrder_92 : decode cX0_putInOrder 92 = .ok (.iconst 0, 1) := by decide +kernel
theorem dX0_putInOrder_93 : decode cX0_putInOrder 93 = .ok (.aload_n 0, 1) := by decide +kernel
theorem dX0_putInOrder_94 : decode cX0_putInOrder 94 = .ok (.getfield 15, 3) := by decide +kernel
theorem dX0_putInOrder_97 : decode cX0_putInOrder 97 = .ok (.iconst 0, 1) := by decide +kernel
theorem dX0_putInOrder_98 : decode cX0_putInOrder 98 = .ok (.aload_n 0, 1) := by decide +kernel
theorem dX0_putInOrder_99 : decode cX0_putInOrder 99 = .ok (.getfield 25, 3) := by decide +kernel
theorem dX0_putInOrder_102 : decode cX0_putInOrder 102 = .ok (.invokestatic 45, 3) := by decide +kernel
theorem dX0_putInOrder_105 : decode cX0_putInOrder 105 = .ok (.iload_n 3, 1) := by decide +kernel
theorem dX0_putInOrder_106 : decode cX0_putInOrder 106 = .ok (.iload_n 3, 1) := by decide +kernel
theorem dX0_putInOrder_107 : decode cX0_putInOrder 107 = .ok (.iadd, 1) := by decide +kernel
theorem dX0_putInOrder_108 : decode cX0_putInOrder 108 = .ok (.istore_n 3, 1) := by decide +kernel
theorem dX0_putInOrder_109 : decode cX0_putInOrder 109 = .ok (.goto (-105), 3) := by decide +kernel
theorem dX0_putInOrder_112 : decode cX0_putInOrder 112 = .ok (.iload_n 2, 1) := by decide +kernel
theorem dX0_putInOrder_113 : decode cX0_putInOrder 113 = .ok (.ireturn, 1) := by decide +kernel
theorem dX0_merge_0 : decode cX0_merge 0 = .ok (.iconst 0, 1) := by decide +kernel
theorem dX0_merge_1 : decode cX0_merge 1 = .ok (.istore 5, 2) := by decide +kernel
theorem dX0_merge_3 : decode cX0_merge 3 = .ok (.iload_n 1, 1) := by decide +kernel
theorem dX0_merge_4 : decode cX0_merge 4 = .ok (.istore 6, 2) := by decide +kernel
theorem dX0_merge_6 : decode cX0_merge 6 = .ok (.iload_n 2, 1) := by decide +kernel
theorem dX0_merge_7 : decode cX0_merge 7 = .ok (.istore 7, 2) := by decide +kernel
theorem dX0_merge_9 : decode cX0_merge 9 = .ok (.iload_n 1, 1) := by decide +kernel
theorem dX0_merge_10 : decode cX0_merge 10 = .ok (.istore 8, 2) := by decide +kernel
theorem dX0_merge_12 : decode cX0_merge 12 = .ok (.iload 8, 2) := by decide +kernel
theorem dX0_merge_14 : decode cX0_merge 14 = .ok (.iload_n 3, 1) := by decide +kernel
theorem dX0_merge_15 : decode cX0_merge 15 = .ok (.if_icmp .ge 103, 3) := by decide +kernel
theorem dX0_merge_18 : decode cX0_merge 18 = .ok (.iload 6, 2) := by decide +kernel
theorem dX0_merge_20 : decode cX0_merge 20 = .ok (.iload_n 2, 1) := by decide +kernel
theorem dX0_merge_21 : decode cX0_merge 21 = .ok (.if_icmp .ge 22, 3) := by decide +kernel
theorem dX0_merge_24 : decode cX0_merge 24 = .ok (.iload 7, 2) := by decide +kernel
theorem dX0_merge_26 : decode cX0_merge 26 = .ok (.iload_n 3, 1) := by decide +kernel
theorem dX0_merge_27 : decode cX0_merge 27 = .ok (.if_icmp .ge 20, 3) := by decide +kernel
theorem dX0_merge_30 : decode cX0_merge 30 = .ok (.aload_n 0, 1) := by decide +kernel
theorem dX0_merge_31 : decode cX0_merge 31 = .ok (.iload 7, 2) := by decide +kernel
theorem dX0_merge_33 : decode cX0_merge 33 = .ok (.iload 6, 2) := by decide +kernel
theorem dX0_merge_35 : decode cX0_merge 35 = .ok (.iload 4, 2) := by decide +kernel
theorem dX0_merge_37 : decode cX0_merge 37 = .ok (.invokevirtual 51, 3) := by decide +kernel
theorem dX0_merge_40 : decode cX0_merge 40 = .ok (.ifCond .eq 7, 3) := by decide +kernel
theorem dX0_merge_43 : decode cX0_merge 43 = .ok (.iconst 1, 1) := by decide +kernel
theorem dX0_merge_44 : decode cX0_merge 44 = .ok (.goto 4, 3) := by decide +kernel
theorem dX0_merge_47 : decode cX0_merge 47 = .ok (.iconst 0, 1) := by decide +kernel
theorem dX0_merge_48 : decode cX0_merge 48 = .ok (.istore 9, 2) := by decide +kernel
theorem dX0_merge_50 : decode cX0_merge 50 = .ok (.iload 9, 2) := by decide +kernel
theorem dX0_merge_52 : decode cX0_merge 52 = .ok (.ifCond .eq 12, 3) := by decide +kernel
theorem dX0_merge_55 : decode cX0_merge 55 = .ok (.iload 5, 2) := by decide +kernel
theorem dX0_merge_57 : decode cX0_merge 57 = .ok (.iload_n 2, 1) := by decide +kernel
theorem dX0_merge_58 : decode cX0_merge 58 = .ok (.iload 6, 2) := by decide +kernel
theorem dX0_merge_60 : decode cX0_merge 60 = .ok (.isub, 1) := by decide +kernel
theorem dX0_merge_61 : decode cX0_merge 61 = .ok (.iadd, 1) := by decide +kernel
theorem dX0_merge_62 : decode cX0_merge 62 = .ok (.istore 5, 2) := by decide +kernel
theorem dX0_merge_64 : decode cX0_merge 64 = .ok (.iload 9, 2) := by decide +kernel
theorem dX0_merge_66 : decode cX0_merge 66 = .ok (.ifCond .eq 11, 3) := by decide +kernel
theorem dX0_merge_69 : decode cX0_merge 69 = .ok (.iload 7, 2) := by decide +kernel
theorem dX0_merge_71 : decode cX0_merge 71 = .ok (.iinc 7 1, 3) := by decide +kernel
theorem dX0_merge_74 : decode cX0_merge 74 = .ok (.goto 8, 3) := by decide +kernel
theorem dX0_merge_77 : decode cX0_merge 77 = .ok (.iload 6, 2) := by decide +kernel
theorem dX0_merge_79 : decode cX0_merge 79 = .ok (.iinc 6 1, 3) := by decide +kernel
theorem dX0_merge_82 : decode cX0_merge 82 = .ok (.istore 10, 2) := by decide +kernel
theorem dX0_merge_84 : decode cX0_merge 84 = .ok (.aload_n 0, 1) := by decide +kernel
theorem dX0_merge_85 : decode cX0_merge 85 = .ok (.getfield 19, 3) := by decide +kernel
theorem dX0_merge_88 : decode cX0_merge 88 = .ok (.iload 8, 2) := by decide +kernel
theorem dX0_merge_90 : decode cX0_merge 90 = .ok (.aload_n 0, 1) := by decide +kernel
theorem dX0_merge_91 : decode cX0_merge 91 = .ok (.getfield 9, 3) := by decide +kernel
theorem dX0_merge_94 : decode cX0_merge 94 = .ok (.iload 10, 2) := by decide +kernel
theorem dX0_merge_96 : decode cX0_merge 96 = .ok (.iaload, 1) := by decide +kernel
theorem dX0_merge_97 : decode cX0_merge 97 = .ok (.iastore, 1) := by decide +kernel
theorem dX0_merge_98 : decode cX0_merge 98 = .ok (.aload_n 0, 1) := by decide +kernel
theorem dX0_merge_99 : decode cX0_merge 99 = .ok (.getfield 22, 3) := by decide +kernel
theorem dX0_merge_102 : decode cX0_merge 102 = .ok (.iload 8, 2) := by decide +kernel
theorem dX0_merge_104 : decode cX0_merge 104 = .ok (.aload_n 0, 1) := by decide +kernel
theorem dX0_merge_105 : decode cX0_merge 105 = .ok (.getfield 15, 3) := by decide +kernel
theorem dX0_merge_108 : decode cX0_merge 108 = .ok (.iload 10, 2) := by decide +kernel
theorem dX0_merge_110 : decode cX0_merge 110 = .ok (.laload, 1) := by decide +kernel
theorem dX0_merge_111 : decode cX0_merge 111 = .ok (.lastore, 1) := by decide +kernel
theorem dX0_merge_112 : decode cX0_merge 112 = .ok (.iinc 8 1, 3) := by decide +kernel
theorem dX0_merge_115 : decode cX0_merge 115 = .ok (.goto (-103), 3) := by decide +kernel
theorem dX0_merge_118 : decode cX0_merge 118 = .ok (.iload 5, 2) := by decide +kernel
theorem dX0_merge_120 : decode cX0_merge 120 = .ok (.ireturn, 1) := by decide +kernel
theorem dX0_isAhead_0 : decode cX0_isAhead 0 = .ok (.iload_n 3, 1) := by decide +kernel
theorem dX0_isAhead_1 : decode cX0_isAhead 1 = .ok (.ifCond .eq 27, 3) := by decide +kernel
theorem dX0_isAhead_4 : decode cX0_isAhead 4 = .ok (.aload_n 0, 1) := by decide +kernel
theorem dX0_isAhead_5 : decode cX0_isAhead 5 = .ok (.getfield 15, 3) := by decide +kernel
theorem dX0_isAhead_8 : decode cX0_isAhead 8 = .ok (.iload_n 1, 1) := by decide +kernel
theorem dX0_isAhead_9 : decode cX0_isAhead 9 = .ok (.laload, 1) := by decide +kernel
theorem dX0_isAhead_10 : decode cX0_isAhead 10 = .ok (.aload_n 0, 1) := by decide +kernel
theorem dX0_isAhead_11 : decode cX0_isAhead 11 = .ok (.getfield 15, 3) := by decide +kernel
theorem dX0_isAhead_14 : decode cX0_isAhead 14 = .ok (.iload_n 2, 1) := by decide +kernel
theorem dX0_isAhead_15 : decode cX0_isAhead 15 = .ok (.laload, 1) := by decide +kernel
theorem dX0_isAhead_16 : decode cX0_isAhead 16 = .ok (.lcmp, 1) := by decide +kernel
theorem dX0_isAhead_17 : decode cX0_isAhead 17 = .ok (.ifCond .le 7, 3) := by decide +kernel
theorem dX0_isAhead_20 : decode cX0_isAhead 20 = .ok (.iconst 1, 1) := by decide +kernel
theorem dX0_isAhead_21 : decode cX0_isAhead 21 = .ok (.goto 28, 3) := by decide +kernel
theorem dX0_isAhead_24 : decode cX0_isAhead 24 = .ok (.iconst 0, 1) := by decide +kernel
theorem dX0_isAhead_25 : decode cX0_isAhead 25 = .ok (.goto 24, 3) := by decide +kernel
theorem dX0_isAhead_28 : decode cX0_isAhead 28 = .ok (.aload_n 0, 1) := by decide +kernel
theorem dX0_isAhead_29 : decode cX0_isAhead 29 = .ok (.getfield 15, 3) := by decide +kernel
theorem dX0_isAhead_32 : decode cX0_isAhead 32 = .ok (.iload_n 1, 1) := by decide +kernel
theorem dX0_isAhead_33 : decode cX0_isAhead 33 = .ok (.laload, 1) := by decide +kernel
theorem dX0_isAhead_34 : decode cX0_isAhead 34 = .ok (.aload_n 0, 1) := by decide +kernel
theorem dX0_isAhead_35 : decode cX0_isAhead 35 = .ok (.getfield 15, 3) := by decide +kernel
theorem dX0_isAhead_38 : decode cX0_isAhead 38 = .ok (.iload_n 2, 1) := by decide +kernel
theorem dX0_isAhead_39 : decode cX0_isAhead 39 = .ok (.laload, 1) := by decide +kernel
theorem dX0_isAhead_40 : decode cX0_isAhead 40 = .ok (.lcmp, 1) := by decide +kernel
theorem dX0_isAhead_41 : decode cX0_isAhead 41 = .ok (.ifCond .ge 7, 3) := by decide +kernel
theorem dX0_isAhead_44 : decode cX0_isAhead 44 = .ok (.iconst 1, 1) := by decide +kernel
theorem dX0_isAhead_45 : decode cX0_isAhead 45 = .ok (.goto 4, 3) := by decide +kernel
theorem dX0_isAhead_48 : decode cX0_isAhead 48 = .ok (.iconst 0, 1) := by decide +kernel
theorem dX0_isAhead_49 : decode cX0_isAhead 49 = .ok (.ireturn, 1) := by decide +kernel
theorem dX1_init_0 : decode cX1_init 0 = .ok (.aload_n 0, 1) := by decide +kernel
theorem dX1_init_1 : decode cX1_init 1 = .ok (.invokespecial 3, 3) := by decide +kernel
theorem dX1_init_4 : decode cX1_init 4 = .ok (.aload_n 0, 1) := by decide +kernel
theorem dX1_init_5 : decode cX1_init 5 = .ok (.bipush 6, 2) := by decide +kernel
theorem dX1_init_7 : decode cX1_init 7 = .ok (.newarray .int, 2) := by decide +kernel
theorem dX1_init_9 : decode cX1_init 9 = .ok (.putfield 9, 3) := by decide +kernel
theorem dX1_init_12 : decode cX1_init 12 = .ok (.aload_n 0, 1) := by decide +kernel
theorem dX1_init_13 : decode cX1_init 13 = .ok (.bipush 6, 2) := by decide +kernel
theorem dX1_init_15 : decode cX1_init 15 = .ok (.sipush 192, 3) := by decide +kernel
theorem dX1_init_18 : decode cX1_init 18 = .ok (.multianewarray 15 2, 4) := by decide +kernel
theorem dX1_init_22 : decode cX1_init 22 = .ok (.putfield 17, 3) := by decide +kernel
theorem dX1_init_25 : decode cX1_init 25 = .ok (.aload_n 0, 1) := by decide +kernel
theorem dX1_init_26 : decode cX1_init 26 = .ok (.bipush 8, 2) := by decide +kernel
theorem dX1_init_28 : decode cX1_init 28 = .ok (.iconst 3, 1) := by decide +kernel
theorem dX1_init_29 : decode cX1_init 29 = .ok (.multianewarray 15 2, 4) := by decide +kernel
theorem dX1_init_33 : decode cX1_init 33 = .ok (.putfield 20, 3) := by decide +kernel
theorem dX1_init_36 : decode cX1_init 36 = .ok (.return_, 1) := by decide +kernel
theorem dX1_becomeLike_0 : decode cX1_becomeLike 0 = .ok (.aload_n 0, 1) := by decide +kernel
theorem dX1_becomeLike_1 : decode cX1_becomeLike 1 = .ok (.aload_n 1, 1) := by decide +kernel
theorem dX1_becomeLike_2 : decode cX1_becomeLike 2 = .ok (.getfield 23, 3) := by decide +kernel
theorem dX1_becomeLike_5 : decode cX1_becomeLike 5 = .ok (.putfield 23, 3) := by decide +kernel
theorem dX1_becomeLike_8 : decode cX1_becomeLike 8 = .ok (.aload_n 0, 1) := by decide +kernel
theorem dX1_becomeLike_9 : decode cX1_becomeLike 9 = .ok (.aload_n 1, 1) := by decide +kernel
theorem dX1_becomeLike_10 : decode cX1_becomeLike 10 = .ok (.getfield 27, 3) := by decide +kernel
theorem dX1_becomeLike_13 : decode cX1_becomeLike 13 = .ok (.putfield 27, 3) := by decide +kernel
theorem dX1_becomeLike_16 : decode cX1_becomeLike 16 = .ok (.aload_n 1, 1) := by decide +kernel
theorem dX1_becomeLike_17 : decode cX1_becomeLike 17 = .ok (.getfield 9, 3) := by decide +kernel
theorem dX1_becomeLike_20 : decode cX1_becomeLike 20 = .ok (.iconst 0, 1) := by decide +kernel
theorem dX1_becomeLike_21 : decode cX1_becomeLike 21 = .ok (.aload_n 0, 1) := by decide +kernel
theorem dX1_becomeLike_22 : decode cX1_becomeLike 22 = .ok (.getfield 9, 3) := by decide +kernel
theorem dX1_becomeLike_25 : decode cX1_becomeLike 25 = .ok (.iconst 0, 1) := by decide +kernel
theorem dX1_becomeLike_26 : decode cX1_becomeLike 26 = .ok (.bipush 6, 2) := by decide +kernel
theorem dX1_becomeLike_28 : decode cX1_becomeLike 28 = .ok (.invokestatic 30, 3) := by decide +kernel
theorem dX1_becomeLike_31 : decode cX1_becomeLike 31 = .ok (.iconst 0, 1) := by decide +kernel
theorem dX1_becomeLike_32 : decode cX1_becomeLike 32 = .ok (.istore_n 2, 1) := by decide +kernel
theorem dX1_becomeLike_33 : decode cX1_becomeLike 33 = .ok (.iload_n 2, 1) := by decide +kernel
theorem dX1_becomeLike_34 : decode cX1_becomeLike 34 = .ok (.bipush 6, 2) := by decide +kernel
theorem dX1_becomeLike_36 : decode cX1_becomeLike 36 = .ok (.if_icmp .ge 29, 3) := by decide +kernel
theorem dX1_becomeLike_39 : decode cX1_becomeLike 39 = .ok (.aload_n 1, 1) := by decide +kernel
theorem dX1_becomeLike_40 : decode cX1_becomeLike 40 = .ok (.getfield 17, 3) := by decide +kernel
theorem dX1_becomeLike_43 : decode cX1_becomeLike 43 = .ok (.iload_n 2, 1) := by decide +kernel
theorem dX1_becomeLike_44 : decode cX1_becomeLike 44 = .ok (.aaload, 1) := by decide +kernel
theorem dX1_becomeLike_45 : decode cX1_becomeLike 45 = .ok (.iconst 0, 1) := by decide +kernel
theorem dX1_becomeLike_46 : decode cX1_becomeLike 46 = .ok (.aload_n 0, 1) := by decide +kernel
theorem dX1_becomeLike_47 : decode cX1_becomeLike 47 = .ok (.getfield 17, 3) := by decide +kernel
theorem dX1_becomeLike_50 : decode cX1_becomeLike 50 = .ok (.iload_n 2, 1) := by decide +kernel
theorem dX1_becomeLike_51 : decode cX1_becomeLike 51 = .ok (.aaload, 1) := by decide +kernel
theorem dX1_becomeLike_52 : decode cX1_becomeLike 52 = .ok (.iconst 0, 1) := by decide +kernel
theorem dX1_becomeLike_53 : decode cX1_becomeLike 53 = .ok (.sipush 192, 3) := by decide +kernel
theorem dX1_becomeLike_56 : decode cX1_becomeLike 56 = .ok (.invokestatic 30, 3) := by decide +kernel
theorem dX1_becomeLike_59 : decode cX1_becomeLike 59 = .ok (.iinc 2 1, 3) := by decide +kernel
theorem dX1_becomeLike_62 : decode cX1_becomeLike 62 = .ok (.goto (-29), 3) := by decide +kernel
theorem dX1_becomeLike_65 : decode cX1_becomeLike 65 = .ok (.iconst 0, 1) := by decide +kernel
theorem dX1_becomeLike_66 : decode cX1_becomeLike 66 = .ok (.istore_n 2, 1) := by decide +kernel
theorem dX1_becomeLike_67 : decode cX1_becomeLike 67 = .ok (.iload_n 2, 1) := by decide +kernel
theorem dX1_becomeLike_68 : decode cX1_becomeLike 68 = .ok (.bipush 8, 2) := by decide +kernel
theorem dX1_becomeLike_70 : decode cX1_becomeLike 70 = .ok (.if_icmp .ge 27, 3) := by decide +kernel
theorem dX1_becomeLike_73 : decode cX1_becomeLike 73 = .ok (.aload_n 1, 1) := by decide +kernel
theorem dX1_becomeLike_74 : decode cX1_becomeLike 74 = .ok (.getfield 20, 3) := by decide +kernel
theorem dX1_becomeLike_77 : decode cX1_becomeLike 77 = .ok (.iload_n 2, 1) := by decide +kernel
theorem dX1_becomeLike_78 : decode cX1_becomeLike 78 = .ok (.aaload, 1) := by decide +kernel
theorem dX1_becomeLike_79 : decode cX1_becomeLike 79 = .ok (.iconst 0, 1) := by decide +kernel
theorem dX1_becomeLike_80 : decode cX1_becomeLike 80 = .ok (.aload_n 0, 1) := by decide +kernel
theorem dX1_becomeLike_81 : decode cX1_becomeLike 81 = .ok (.getfield 20, 3) := by decide +kernel
theorem dX1_becomeLike_84 : decode cX1_becomeLike 84 = .ok (.iload_n 2, 1) := by decide +kernel
theorem dX1_becomeLike_85 : decode cX1_becomeLike 85 = .ok (.aaload, 1) := by decide +kernel
theorem dX1_becomeLike_86 : decode cX1_becomeLike 86 = .ok (.iconst 0, 1) := by decide +kernel
theorem dX1_becomeLike_87 : decode cX1_becomeLike 87 = .ok (.iconst 3, 1) := by decide +kernel
theorem dX1_becomeLike_88 : decode cX1_becomeLike 88 = .ok (.invokestatic 30, 3) := by decide +kernel
theorem dX1_becomeLike_91 : decode cX1_becomeLike 91 = .ok (.iinc 2 1, 3) := by decide +kernel
theorem dX1_becomeLike_94 : decode cX1_becomeLike 94 = .ok (.goto (-27), 3) := by decide +kernel
theorem dX1_becomeLike_97 : decode cX1_becomeLike 97 = .ok (.return_, 1) := by decide +kernel
theorem dX1_emptyCells_0 : decode cX1_emptyCells 0 = .ok (.iload_n 2, 1) := by decide +kernel
theorem dX1_emptyCells_1 : decode cX1_emptyCells 1 = .ok (.istore 4, 2) := by decide +kernel
theorem dX1_emptyCells_3 : decode cX1_emptyCells 3 = .ok (.iload 4, 2) := by decide +kernel
theorem dX1_emptyCells_5 : decode cX1_emptyCells 5 = .ok (.iload_n 3, 1) := by decide +kernel
theorem dX1_emptyCells_6 : decode cX1_emptyCells 6 = .ok (.if_icmp .ge 21, 3) := by decide +kernel
theorem dX1_emptyCells_9 : decode cX1_emptyCells 9 = .ok (.aload_n 0, 1) := by decide +kernel
theorem dX1_emptyCells_10 : decode cX1_emptyCells 10 = .ok (.getfield 17, 3) := by decide +kernel
theorem dX1_emptyCells_13 : decode cX1_emptyCells 13 = .ok (.iload_n 1, 1) := by decide +kernel
theorem dX1_emptyCells_14 : decode cX1_emptyCells 14 = .ok (.aaload, 1) := by decide +kernel
theorem dX1_emptyCells_15 : decode cX1_emptyCells 15 = .ok (.iload 4, 2) := by decide +kernel
theorem dX1_emptyCells_17 : decode cX1_emptyCells 17 = .ok (.ldc2_w 36, 3) := by decide +kernel
theorem dX1_emptyCells_20 : decode cX1_emptyCells 20 = .ok (.lastore, 1) := by decide +kernel
theorem dX1_emptyCells_21 : decode cX1_emptyCells 21 = .ok (.iinc 4 1, 3) := by decide +kernel
theorem dX1_emptyCells_24 : decode cX1_emptyCells 24 = .ok (.goto (-21), 3) := by decide +kernel
theorem dX1_emptyCells_27 : decode cX1_emptyCells 27 = .ok (.return_, 1) := by decide +kernel
theorem dX1_exchangeColumns_0 : decode cX1_exchangeColumns 0 = .ok (.aload_n 0, 1) := by decide +kernel
theorem dX1_exchangeColumns_1 : decode cX1_exchangeColumns 1 = .ok (.getfield 9, 3) := by decide +kernel
theorem dX1_exchangeColumns_4 : decode cX1_exchangeColumns 4 = .ok (.iload_n 1, 1) := by decide +kernel
theorem dX1_exchangeColumns_5 : decode cX1_exchangeColumns 5 = .ok (.iaload, 1) := by decide +kernel
theorem dX1_exchangeColumns_6 : decode cX1_exchangeColumns 6 = .ok (.istore_n 3, 1) := by decide +kernel
theorem dX1_exchangeColumns_7 : decode cX1_exchangeColumns 7 = .ok (.aload_n 0, 1) := by decide +kernel
theorem dX1_exchangeColumns_8 : decode cX1_exchangeColumns 8 = .ok (.getfield 9, 3) := by decide +kernel
theorem dX1_exchangeColumns_11 : decode cX1_exchangeColumns 11 = .ok (.iload_n 1, 1) := by decide +kernel
theorem dX1_exchangeColumns_12 : decode cX1_exchangeColumns 12 = .ok (.aload_n 0, 1) := by decide +kernel
theorem dX1_exchangeColumns_13 : decode cX1_exchangeColumns 13 = .ok (.getfield 9, 3) := by decide +kernel
theorem dX1_exchangeColumns_16 : decode cX1_exchangeColumns 16 = .ok (.iload_n 2, 1) := by decide +kernel
theorem dX1_exchangeColumns_17 : decode cX1_exchangeColumns 17 = .ok (.iaload, 1) := by decide +kernel
theorem dX1_exchangeColumns_18 : decode cX1_exchangeColumns 18 = .ok (.iastore, 1) := by decide +kernel
theorem dX1_exchangeColumns_19 : decode cX1_exchangeColumns 19 = .ok (.aload_n 0, 1) := by decide +kernel
theorem dX1_exchangeColumns_20 : decode cX1_exchangeColumns 20 = .ok (.getfield 9, 3) := by decide +kernel
theorem dX1_exchangeColumns_23 : decode cX1_exchangeColumns 23 = .ok (.iload_n 2, 1) := by decide +kernel
theorem dX1_exchangeColumns_24 : decode cX1_exchangeColumns 24 = .ok (.iload_n 3, 1) := by decide +kernel
theorem dX1_exchangeColumns_25 : decode cX1_exchangeColumns 25 = .ok (.iastore, 1) := by decide +kernel
theorem dX1_exchangeColumns_26 : decode cX1_exchangeColumns 26 = .ok (.iconst 0, 1) := by decide +kernel
theorem dX1_exchangeColumns_27 : decode cX1_exchangeColumns 27 = .ok (.istore 4, 2) := by decide +kernel
theorem dX1_exchangeColumns_29 : decode cX1_exchangeColumns 29 = .ok (.iload 4, 2) := by decide +kernel
theorem dX1_exchangeColumns_31 : decode cX1_exchangeColumns 31 = .ok (.aload_n 0, 1) := by decide +kernel
theorem dX1_exchangeColumns_32 : decode cX1_exchangeColumns 32 = .ok (.getfield 23, 3) := by decide +kernel
theorem dX1_exchangeColumns_35 : decode cX1_exchangeColumns 35 = .ok (.if_icmp .ge 49, 3) := by decide +kernel
theorem dX1_exchangeColumns_38 : decode cX1_exchangeColumns 38 = .ok (.aload_n 0, 1) := by decide +kernel
theorem dX1_exchangeColumns_39 : decode cX1_exchangeColumns 39 = .ok (.getfield 17, 3) := by decide +kernel
theorem dX1_exchangeColumns_42 : decode cX1_exchangeColumns 42 = .ok (.iload_n 1, 1) := by decide +kernel
theorem dX1_exchangeColumns_43 : decode cX1_exchangeColumns 43 = .ok (.aaload, 1) := by decide +kernel
theorem dX1_exchangeColumns_44 : decode cX1_exchangeColumns 44 = .ok (.iload 4, 2) := by decide +kernel
theorem dX1_exchangeColumns_46 : decode cX1_exchangeColumns 46 = .ok (.laload, 1) := by decide +kernel
theorem dX1_exchangeColumns_47 : decode cX1_exchangeColumns 47 = .ok (.lstore 5, 2) := by decide +kernel
theorem dX1_exchangeColumns_49 : decode cX1_exchangeColumns 49 = .ok (.aload_n 0, 1) := by decide +kernel
theorem dX1_exchangeColumns_50 : decode cX1_exchangeColumns 50 = .ok (.getfield 17, 3) := by decide +kernel
theorem dX1_exchangeColumns_53 : decode cX1_exchangeColumns 53 = .ok (.iload_n 1, 1) := by decide +kernel
theorem dX1_exchangeColumns_54 : decode cX1_exchangeColumns 54 = .ok (.aaload, 1) := by decide +kernel
theorem dX1_exchangeColumns_55 : decode cX1_exchangeColumns 55 = .ok (.iload 4, 2) := by decide +kernel
theorem dX1_exchangeColumns_57 : decode cX1_exchangeColumns 57 = .ok (.aload_n 0, 1) := by decide +kernel
theorem dX1_exchangeColumns_58 : decode cX1_exchangeColumns 58 = .ok (.getfield 17, 3) := by decide +kernel
theorem dX1_exchangeColumns_61 : decode cX1_exchangeColumns 61 = .ok (.iload_n 2, 1) := by decide +kernel
theorem dX1_exchangeColumns_62 : decode cX1_exchangeColumns 62 = .ok (.aaload, 1) := by decide +kernel
theorem dX1_exchangeColumns_63 : decode cX1_exchangeColumns 63 = .ok (.iload 4, 2) := by decide +kernel
theorem dX1_exchangeColumns_65 : decode cX1_exchangeColumns 65 = .ok (.laload, 1) := by decide +kernel
theorem dX1_exchangeColumns_66 : decode cX1_exchangeColumns 66 = .ok (.lastore, 1) := by decide +kernel
theorem dX1_exchangeColumns_67 : decode cX1_exchangeColumns 67 = .ok (.aload_n 0, 1) := by decide +kernel
theorem dX1_exchangeColumns_68 : decode cX1_exchangeColumns 68 = .ok (.getfield 17, 3) := by decide +kernel
theorem dX1_exchangeColumns_71 : decode cX1_exchangeColumns 71 = .ok (.iload_n 2, 1) := by decide +kernel
theorem dX1_exchangeColumns_72 : decode cX1_exchangeColumns 72 = .ok (.aaload, 1) := by decide +kernel
theorem dX1_exchangeColumns_73 : decode cX1_exchangeColumns 73 = .ok (.iload 4, 2) := by decide +kernel
theorem dX1_exchangeColumns_75 : decode cX1_exchangeColumns 75 = .ok (.lload 5, 2) := by decide +kernel
theorem dX1_exchangeColumns_77 : decode cX1_exchangeColumns 77 = .ok (.lastore, 1) := by decide +kernel
theorem dX1_exchangeColumns_78 : decode cX1_exchangeColumns 78 = .ok (.iinc 4 1, 3) := by decide +kernel
theorem dX1_exchangeColumns_81 : decode cX1_exchangeColumns 81 = .ok (.goto (-52), 3) := by decide +kernel
theorem dX1_exchangeColumns_84 : decode cX1_exchangeColumns 84 = .ok (.return_, 1) := by decide +kernel
theorem dX1_numbersOf_0 : decode cX1_numbersOf 0 = .ok (.iconst 0, 1) := by decide +kernel
theorem dX1_numbersOf_1 : decode cX1_numbersOf 1 = .ok (.istore_n 2, 1) := by decide +kernel
theorem dX1_numbersOf_2 : decode cX1_numbersOf 2 = .ok (.iconst 0, 1) := by decide +kernel
theorem dX1_numbersOf_3 : decode cX1_numbersOf 3 = .ok (.istore_n 3, 1) := by decide +kernel
theorem dX1_numbersOf_4 : decode cX1_numbersOf 4 = .ok (.iload_n 3, 1) := by decide +kernel
theorem dX1_numbersOf_5 : decode cX1_numbersOf 5 = .ok (.aload_n 0, 1) := by decide +kernel
theorem dX1_numbersOf_6 : decode cX1_numbersOf 6 = .ok (.getfield 23, 3) := by decide +kernel
theorem dX1_numbersOf_9 : decode cX1_numbersOf 9 = .ok (.if_icmp .ge 32, 3) := by decide +kernel
theorem dX1_numbersOf_12 : decode cX1_numbersOf 12 = .ok (.iload_n 2, 1) := by decide +kernel
theorem dX1_numbersOf_13 : decode cX1_numbersOf 13 = .ok (.aload_n 0, 1) := by decide +kernel
theorem dX1_numbersOf_14 : decode cX1_numbersOf 14 = .ok (.getfield 17, 3) := by decide +kernel
theorem dX1_numbersOf_17 : decode cX1_numbersOf 17 = .ok (.iload_n 1, 1) := by decide +kernel
theorem dX1_numbersOf_18 : decode cX1_numbersOf 18 = .ok (.aaload, 1) := by decide +kernel
theorem dX1_numbersOf_19 : decode cX1_numbersOf 19 = .ok (.iload_n 3, 1) := by decide +kernel
theorem dX1_numbersOf_20 : decode cX1_numbersOf 20 = .ok (.laload, 1) := by decide +kernel
theorem dX1_numbersOf_21 : decode cX1_numbersOf 21 = .ok (.ldc2_w 36, 3) := by decide +kernel
theorem dX1_numbersOf_24 : decode cX1_numbersOf 24 = .ok (.lcmp, 1) := by decide +kernel
theorem dX1_numbersOf_25 : decode cX1_numbersOf 25 = .ok (.ifCond .ne 7, 3) := by decide +kernel
theorem dX1_numbersOf_28 : decode cX1_numbersOf 28 = .ok (.iconst 0, 1) := by decide +kernel
theorem dX1_numbersOf_29 : decode cX1_numbersOf 29 = .ok (.goto 4, 3) := by decide +kernel
theorem dX1_numbersOf_32 : decode cX1_numbersOf 32 = .ok (.iconst 1, 1) := by decide +kernel
theorem dX1_numbersOf_33 : decode cX1_numbersOf 33 = .ok (.iadd, 1) := by decide +kernel
theorem dX1_numbersOf_34 : decode cX1_numbersOf 34 = .ok (.istore_n 2, 1) := by decide +kernel
theorem dX1_numbersOf_35 : decode cX1_numbersOf 35 = .ok (.iinc 3 1, 3) := by decide +kernel
theorem dX1_numbersOf_38 : decode cX1_numbersOf 38 = .ok (.goto (-34), 3) := by decide +kernel
theorem dX1_numbersOf_41 : decode cX1_numbersOf 41 = .ok (.iload_n 2, 1) := by decide +kernel
theorem dX1_numbersOf_42 : decode cX1_numbersOf 42 = .ok (.ireturn, 1) := by decide +kernel
theorem dX1_allNumbers_0 : decode cX1_allNumbers 0 = .ok (.iconst 0, 1) := by decide +kernel
theorem dX1_allNumbers_1 : decode cX1_allNumbers 1 = .ok (.istore_n 1, 1) := by decide +kernel
theorem dX1_allNumbers_2 : decode cX1_allNumbers 2 = .ok (.iconst 0, 1) := by decide +kernel
theorem dX1_allNumbers_3 : decode cX1_allNumbers 3 = .ok (.istore_n 2, 1) := by decide +kernel
theorem dX1_allNumbers_4 : decode cX1_allNumbers 4 = .ok (.iload_n 2, 1) := by decide +kernel
theorem dX1_allNumbers_5 : decode cX1_allNumbers 5 = .ok (.aload_n 0, 1) := by decide +kernel
theorem dX1_allNumbers_6 : decode cX1_allNumbers 6 = .ok (.getfield 27, 3) := by decide +kernel
theorem dX1_allNumbers_9 : decode cX1_allNumbers 9 = .ok (.if_icmp .ge 17, 3) := by decide +kernel
theorem dX1_allNumbers_12 : decode cX1_allNumbers 12 = .ok (.iload_n 1, 1) := by decide +kernel
theorem dX1_allNumbers_13 : decode cX1_allNumbers 13 = .ok (.aload_n 0, 1) := by decide +kernel
theorem dX1_allNumbers_14 : decode cX1_allNumbers 14 = .ok (.iload_n 2, 1) := by decide +kernel
theorem dX1_allNumbers_15 : decode cX1_allNumbers 15 = .ok (.invokevirtual 38, 3) := by decide +kernel
theorem dX1_allNumbers_18 : decode cX1_allNumbers 18 = .ok (.iadd, 1) := by decide +kernel
theorem dX1_allNumbers_19 : decode cX1_allNumbers 19 = .ok (.istore_n 1, 1) := by decide +kernel
theorem dX1_allNumbers_20 : decode cX1_allNumbers 20 = .ok (.iinc 2 1, 3) := by decide +kernel
theorem dX1_allNumbers_23 : decode cX1_allNumbers 23 = .ok (.goto (-19), 3) := by decide +kernel
theorem dX1_allNumbers_26 : decode cX1_allNumbers 26 = .ok (.iload_n 1, 1) := by decide +kernel
theorem dX1_allNumbers_27 : decode cX1_allNumbers 27 = .ok (.ireturn, 1) := by decide +kernel
theorem dX1_allWidths_0 : decode cX1_allWidths 0 = .ok (.iconst 0, 1) := by decide +kernel
theorem dX1_allWidths_1 : decode cX1_allWidths 1 = .ok (.istore_n 1, 1) := by decide +kernel
theorem dX1_allWidths_2 : decode cX1_allWidths 2 = .ok (.iconst 0, 1) := by decide +kernel
theorem dX1_allWidths_3 : decode cX1_allWidths 3 = .ok (.istore_n 2, 1) := by decide +kernel
theorem dX1_allWidths_4 : decode cX1_allWidths 4 = .ok (.iload_n 2, 1) := by decide +kernel
theorem dX1_allWidths_5 : decode cX1_allWidths 5 = .ok (.aload_n 0, 1) := by decide +kernel
theorem dX1_allWidths_6 : decode cX1_allWidths 6 = .ok (.getfield 27, 3) := by decide +kernel
theorem dX1_allWidths_9 : decode cX1_allWidths 9 = .ok (.if_icmp .ge 18, 3) := by decide +kernel
theorem dX1_allWidths_12 : decode cX1_allWidths 12 = .ok (.iload_n 1, 1) := by decide +kernel
theorem dX1_allWidths_13 : decode cX1_allWidths 13 = .ok (.aload_n 0, 1) := by decide +kernel
theorem dX1_allWidths_14 : decode cX1_allWidths 14 = .ok (.getfield 9, 3) := by decide +kernel
theorem dX1_allWidths_17 : decode cX1_allWidths 17 = .ok (.iload_n 2, 1) := by decide +kernel
theorem dX1_allWidths_18 : decode cX1_allWidths 18 = .ok (.iaload, 1) := by decide +kernel
theorem dX1_allWidths_19 : decode cX1_allWidths 19 = .ok (.iadd, 1) := by decide +kernel
theorem dX1_allWidths_20 : decode cX1_allWidths 20 = .ok (.istore_n 1, 1) := by decide +kernel
theorem dX1_allWidths_21 : decode cX1_allWidths 21 = .ok (.iinc 2 1, 3) := by decide +kernel
theorem dX1_allWidths_24 : decode cX1_allWidths 24 = .ok (.goto (-20), 3) := by decide +kernel
theorem dX1_allWidths_27 : decode cX1_allWidths 27 = .ok (.iload_n 1, 1) := by decide +kernel
theorem dX1_allWidths_28 : decode cX1_allWidths 28 = .ok (.ireturn, 1) := by decide +kernel
theorem dX1_emptyRows_0 : decode cX1_emptyRows 0 = .ok (.iconst 0, 1) := by decide +kernel
theorem dX1_emptyRows_1 : decode cX1_emptyRows 1 = .ok (.istore_n 1, 1) := by decide +kernel
theorem dX1_emptyRows_2 : decode cX1_emptyRows 2 = .ok (.iconst 0, 1) := by decide +kernel
theorem dX1_emptyRows_3 : decode cX1_emptyRows 3 = .ok (.istore_n 2, 1) := by decide +kernel
theorem dX1_emptyRows_4 : decode cX1_emptyRows 4 = .ok (.iload_n 2, 1) := by decide +kernel
theorem dX1_emptyRows_5 : decode cX1_emptyRows 5 = .ok (.aload_n 0, 1) := by decide +kernel
theorem dX1_emptyRows_6 : decode cX1_emptyRows 6 = .ok (.getfield 23, 3) := by decide +kernel
theorem dX1_emptyRows_9 : decode cX1_emptyRows 9 = .ok (.if_icmp .ge 67, 3) := by decide +kernel
theorem dX1_emptyRows_12 : decode cX1_emptyRows 12 = .ok (.iconst 1, 1) := by decide +kernel
theorem dX1_emptyRows_13 : decode cX1_emptyRows 13 = .ok (.istore_n 3, 1) := by decide +kernel
theorem dX1_emptyRows_14 : decode cX1_emptyRows 14 = .ok (.iconst 0, 1) := by decide +kernel
theorem dX1_emptyRows_15 : decode cX1_emptyRows 15 = .ok (.istore 4, 2) := by decide +kernel
theorem dX1_emptyRows_17 : decode cX1_emptyRows 17 = .ok (.iload 4, 2) := by decide +kernel
theorem dX1_emptyRows_19 : decode cX1_emptyRows 19 = .ok (.aload_n 0, 1) := by decide +kernel
theorem dX1_emptyRows_20 : decode cX1_emptyRows 20 = .ok (.getfield 27, 3) := by decide +kernel
theorem dX1_emptyRows_23 : decode cX1_emptyRows 23 = .ok (.if_icmp .ge 35, 3) := by decide +kernel
theorem dX1_emptyRows_26 : decode cX1_emptyRows 26 = .ok (.iload_n 3, 1) := by decide +kernel
theorem dX1_emptyRows_27 : decode cX1_emptyRows 27 = .ok (.ifCond .eq 23, 3) := by decide +kernel
theorem dX1_emptyRows_30 : decode cX1_emptyRows 30 = .ok (.aload_n 0, 1) := by decide +kernel
theorem dX1_emptyRows_31 : decode cX1_emptyRows 31 = .ok (.getfield 17, 3) := by decide +kernel
theorem dX1_emptyRows_34 : decode cX1_emptyRows 34 = .ok (.iload 4, 2) := by decide +kernel
theorem dX1_emptyRows_36 : decode cX1_emptyRows 36 = .ok (.aaload, 1) := by decide +kernel
theorem dX1_emptyRows_37 : decode cX1_emptyRows 37 = .ok (.iload_n 2, 1) := by decide +kernel
theorem dX1_emptyRows_38 : decode cX1_emptyRows 38 = .ok (.laload, 1) := by decide +kernel
theorem dX1_emptyRows_39 : decode cX1_emptyRows 39 = .ok (.ldc2_w 36, 3) := by decide +kernel
theorem dX1_emptyRows_42 : decode cX1_emptyRows 42 = .ok (.lcmp, 1) := by decide +kernel
theorem dX1_emptyRows_43 : decode cX1_emptyRows 43 = .ok (.ifCond .ne 7, 3) := by decide +kernel
theorem dX1_emptyRows_46 : decode cX1_emptyRows 46 = .ok (.iconst 1, 1) := by decide +kernel
theorem dX1_emptyRows_47 : decode cX1_emptyRows 47 = .ok (.goto 4, 3) := by decide +kernel
theorem dX1_emptyRows_50 : decode cX1_emptyRows 50 = .ok (.iconst 0, 1) := by decide +kernel
theorem dX1_emptyRows_51 : decode cX1_emptyRows 51 = .ok (.istore_n 3, 1) := by decide +kernel
theorem dX1_emptyRows_52 : decode cX1_emptyRows 52 = .ok (.iinc 4 1, 3) := by decide +kernel
theorem dX1_emptyRows_55 : decode cX1_emptyRows 55 = .ok (.goto (-38), 3) := by decide +kernel
theorem dX1_emptyRows_58 : decode cX1_emptyRows 58 = .ok (.iload_n 1, 1) := by decide +kernel
theorem dX1_emptyRows_59 : decode cX1_emptyRows 59 = .ok (.iload_n 3, 1) := by decide +kernel
theorem dX1_emptyRows_60 : decode cX1_emptyRows 60 = .ok (.ifCond .eq 7, 3) := by decide +kernel
theorem dX1_emptyRows_63 : decode cX1_emptyRows 63 = .ok (.iconst 1, 1) := by decide +kernel
theorem dX1_emptyRows_64 : decode cX1_emptyRows 64 = .ok (.goto 4, 3) := by decide +kernel
theorem dX1_emptyRows_67 : decode cX1_emptyRows 67 = .ok (.iconst 0, 1) := by decide +kernel
theorem dX1_emptyRows_68 : decode cX1_emptyRows 68 = .ok (.iadd, 1) := by decide +kernel
theorem dX1_emptyRows_69 : decode cX1_emptyRows 69 = .ok (.istore_n 1, 1) := by decide +kernel
theorem dX1_emptyRows_70 : decode cX1_emptyRows 70 = .ok (.iinc 2 1, 3) := by decide +kernel
theorem dX1_emptyRows_73 : decode cX1_emptyRows 73 = .ok (.goto (-69), 3) := by decide +kernel
theorem dX1_emptyRows_76 : decode cX1_emptyRows 76 = .ok (.iload_n 1, 1) := by decide +kernel
theorem dX1_emptyRows_77 : decode cX1_emptyRows 77 = .ok (.ireturn, 1) := by decide +kernel
theorem dX1_leastWidth_0 : decode cX1_leastWidth 0 = .ok (.iconst 2, 1) := by decide +kernel
theorem dX1_leastWidth_1 : decode cX1_leastWidth 1 = .ok (.istore_n 2, 1) := by decide +kernel
theorem dX1_leastWidth_2 : decode cX1_leastWidth 2 = .ok (.iconst 0, 1) := by decide +kernel
theorem dX1_leastWidth_3 : decode cX1_leastWidth 3 = .ok (.istore_n 3, 1) := by decide +kernel
theorem dX1_leastWidth_4 : decode cX1_leastWidth 4 = .ok (.iload_n 3, 1) := by decide +kernel
theorem dX1_leastWidth_5 : decode cX1_leastWidth 5 = .ok (.aload_n 0, 1) := by decide +kernel
theorem dX1_leastWidth_6 : decode cX1_leastWidth 6 = .ok (.getfield 23, 3) := by decide +kernel
theorem dX1_leastWidth_9 : decode cX1_leastWidth 9 = .ok (.if_icmp .ge 51, 3) := by decide +kernel
theorem dX1_leastWidth_12 : decode cX1_leastWidth 12 = .ok (.iload_n 2, 1) := by decide +kernel
theorem dX1_leastWidth_13 : decode cX1_leastWidth 13 = .ok (.bipush 63, 2) := by decide +kernel
theorem dX1_leastWidth_15 : decode cX1_leastWidth 15 = .ok (.if_icmp .ge 39, 3) := by decide +kernel
theorem dX1_leastWidth_18 : decode cX1_leastWidth 18 = .ok (.aload_n 0, 1) := by decide +kernel
theorem dX1_leastWidth_19 : decode cX1_leastWidth 19 = .ok (.getfield 17, 3) := by decide +kernel
theorem dX1_leastWidth_22 : decode cX1_leastWidth 22 = .ok (.iload_n 1, 1) := by decide +kernel
theorem dX1_leastWidth_23 : decode cX1_leastWidth 23 = .ok (.aaload, 1) := by decide +kernel
theorem dX1_leastWidth_24 : decode cX1_leastWidth 24 = .ok (.iload_n 3, 1) := by decide +kernel
theorem dX1_leastWidth_25 : decode cX1_leastWidth 25 = .ok (.laload, 1) := by decide +kernel
theorem dX1_leastWidth_26 : decode cX1_leastWidth 26 = .ok (.ldc2_w 36, 3) := by decide +kernel
theorem dX1_leastWidth_29 : decode cX1_leastWidth 29 = .ok (.lcmp, 1) := by decide +kernel
theorem dX1_leastWidth_30 : decode cX1_leastWidth 30 = .ok (.ifCond .eq 24, 3) := by decide +kernel
theorem dX1_leastWidth_33 : decode cX1_leastWidth 33 = .ok (.iload_n 2, 1) := by decide +kernel
theorem dX1_leastWidth_34 : decode cX1_leastWidth 34 = .ok (.aload_n 0, 1) := by decide +kernel
theorem dX1_leastWidth_35 : decode cX1_leastWidth 35 = .ok (.getfield 17, 3) := by decide +kernel
theorem dX1_leastWidth_38 : decode cX1_leastWidth 38 = .ok (.iload_n 1, 1) := by decide +kernel
theorem dX1_leastWidth_39 : decode cX1_leastWidth 39 = .ok (.aaload, 1) := by decide +kernel
theorem dX1_leastWidth_40 : decode cX1_leastWidth 40 = .ok (.iload_n 3, 1) := by decide +kernel
theorem dX1_leastWidth_41 : decode cX1_leastWidth 41 = .ok (.laload, 1) := by decide +kernel
theorem dX1_leastWidth_42 : decode cX1_leastWidth 42 = .ok (.invokestatic 42, 3) := by decide +kernel
theorem dX1_leastWidth_45 : decode cX1_leastWidth 45 = .ok (.ifCond .ne 9, 3) := by decide +kernel
theorem dX1_leastWidth_48 : decode cX1_leastWidth 48 = .ok (.iinc 2 1, 3) := by decide +kernel
theorem dX1_leastWidth_51 : decode cX1_leastWidth 51 = .ok (.goto (-39), 3) := by decide +kernel
theorem dX1_leastWidth_54 : decode cX1_leastWidth 54 = .ok (.iinc 3 1, 3) := by decide +kernel
theorem dX1_leastWidth_57 : decode cX1_leastWidth 57 = .ok (.goto (-53), 3) := by decide +kernel
theorem dX1_leastWidth_60 : decode cX1_leastWidth 60 = .ok (.iload_n 2, 1) := by decide +kernel
theorem dX1_leastWidth_61 : decode cX1_leastWidth 61 = .ok (.ireturn, 1) := by decide +kernel
theorem dX1_areAlike_0 : decode cX1_areAlike 0 = .ok (.iconst 0, 1) := by decide +kernel
theorem dX1_areAlike_1 : decode cX1_areAlike 1 = .ok (.istore_n 3, 1) := by decide +kernel
theorem dX1_areAlike_2 : decode cX1_areAlike 2 = .ok (.iload_n 3, 1) := by decide +kernel
theorem dX1_areAlike_3 : decode cX1_areAlike 3 = .ok (.aload_n 0, 1) := by decide +kernel
theorem dX1_areAlike_4 : decode cX1_areAlike 4 = .ok (.getfield 27, 3) := by decide +kernel
theorem dX1_areAlike_7 : decode cX1_areAlike 7 = .ok (.if_icmp .ge 31, 3) := by decide +kernel
theorem dX1_areAlike_10 : decode cX1_areAlike 10 = .ok (.aload_n 0, 1) := by decide +kernel
theorem dX1_areAlike_11 : decode cX1_areAlike 11 = .ok (.getfield 17, 3) := by decide +kernel
theorem dX1_areAlike_14 : decode cX1_areAlike 14 = .ok (.iload_n 3, 1) := by decide +kernel
theorem dX1_areAlike_15 : decode cX1_areAlike 15 = .ok (.aaload, 1) := by decide +kernel
theorem dX1_areAlike_16 : decode cX1_areAlike 16 = .ok (.iload_n 1, 1) := by decide +kernel
theorem dX1_areAlike_17 : decode cX1_areAlike 17 = .ok (.laload, 1) := by decide +kernel
theorem dX1_areAlike_18 : decode cX1_areAlike 18 = .ok (.aload_n 0, 1) := by decide +kernel
theorem dX1_areAlike_19 : decode cX1_areAlike 19 = .ok (.getfield 17, 3) := by decide +kernel
theorem dX1_areAlike_22 : decode cX1_areAlike 22 = .ok (.iload_n 3, 1) := by decide +kernel
theorem dX1_areAlike_23 : decode cX1_areAlike 23 = .ok (.aaload, 1) := by decide +kernel
theorem dX1_areAlike_24 : decode cX1_areAlike 24 = .ok (.iload_n 2, 1) := by decide +kernel
theorem dX1_areAlike_25 : decode cX1_areAlike 25 = .ok (.laload, 1) := by decide +kernel
theorem dX1_areAlike_26 : decode cX1_areAlike 26 = .ok (.lcmp, 1) := by decide +kernel
theorem dX1_areAlike_27 : decode cX1_areAlike 27 = .ok (.ifCond .eq 5, 3) := by decide +kernel
theorem dX1_areAlike_30 : decode cX1_areAlike 30 = .ok (.iconst 0, 1) := by decide +kernel
theorem dX1_areAlike_31 : decode cX1_areAlike 31 = .ok (.ireturn, 1) := by decide +kernel
theorem dX1_areAlike_32 : decode cX1_areAlike 32 = .ok (.iinc 3 1, 3) := by decide +kernel
theorem dX1_areAlike_35 : decode cX1_areAlike 35 = .ok (.goto (-33), 3) := by decide +kernel
theorem dX1_areAlike_38 : decode cX1_areAlike 38 = .ok (.iconst 1, 1) := by decide +kernel
theorem dX1_areAlike_39 : decode cX1_areAlike 39 = .ok (.ireturn, 1) := by decide +kernel
theorem dX1_isUnder_0 : decode cX1_isUnder 0 = .ok (.aload_n 0, 1) := by decide +kernel
theorem dX1_isUnder_1 : decode cX1_isUnder 1 = .ok (.getfield 20, 3) := by decide +kernel
theorem dX1_isUnder_4 : decode cX1_isUnder 4 = .ok (.iload_n 2, 1) := by decide +kernel
theorem dX1_isUnder_5 : decode cX1_isUnder 5 = .ok (.aaload, 1) := by decide +kernel
theorem dX1_isUnder_6 : decode cX1_isUnder 6 = .ok (.iload_n 1, 1) := by decide +kernel
theorem dX1_isUnder_7 : decode cX1_isUnder 7 = .ok (.invokestatic 46, 3) := by decide +kernel
theorem dX1_isUnder_10 : decode cX1_isUnder 10 = .ok (.ireturn, 1) := by decide +kernel
theorem dX1_isNumbered_0 : decode cX1_isNumbered 0 = .ok (.aload_n 0, 1) := by decide +kernel
theorem dX1_isNumbered_1 : decode cX1_isNumbered 1 = .ok (.getfield 17, 3) := by decide +kernel
theorem dX1_isNumbered_4 : decode cX1_isNumbered 4 = .ok (.iload_n 1, 1) := by decide +kernel
theorem dX1_isNumbered_5 : decode cX1_isNumbered 5 = .ok (.aaload, 1) := by decide +kernel
theorem dX1_isNumbered_6 : decode cX1_isNumbered 6 = .ok (.iload_n 2, 1) := by decide +kernel
theorem dX1_isNumbered_7 : decode cX1_isNumbered 7 = .ok (.laload, 1) := by decide +kernel
theorem dX1_isNumbered_8 : decode cX1_isNumbered 8 = .ok (.ldc2_w 36, 3) := by decide +kernel
theorem dX1_isNumbered_11 : decode cX1_isNumbered 11 = .ok (.lcmp, 1) := by decide +kernel
theorem dX1_isNumbered_12 : decode cX1_isNumbered 12 = .ok (.ifCond .eq 16, 3) := by decide +kernel
theorem dX1_isNumbered_15 : decode cX1_isNumbered 15 = .ok (.aload_n 0, 1) := by decide +kernel
theorem dX1_isNumbered_16 : decode cX1_isNumbered 16 = .ok (.iload_n 2, 1) := by decide +kernel
theorem dX1_isNumbered_17 : decode cX1_isNumbered 17 = .ok (.iload_n 3, 1) := by decide +kernel
theorem dX1_isNumbered_18 : decode cX1_isNumbered 18 = .ok (.invokevirtual 50, 3) := by decide +kernel
theorem dX1_isNumbered_21 : decode cX1_isNumbered 21 = .ok (.ifCond .eq 7, 3) := by decide +kernel
theorem dX1_isNumbered_24 : decode cX1_isNumbered 24 = .ok (.iconst 1, 1) := by decide +kernel
theorem dX1_isNumbered_25 : decode cX1_isNumbered 25 = .ok (.goto 4, 3) := by decide +kernel
theorem dX1_isNumbered_28 : decode cX1_isNumbered 28 = .ok (.iconst 0, 1) := by decide +kernel
theorem dX1_isNumbered_29 : decode cX1_isNumbered 29 = .ok (.ireturn, 1) := by decide +kernel
theorem dX1_areBothNumbered_0 : decode cX1_areBothNumbered 0 = .ok (.aload_n 0, 1) := by decide +kernel
theorem dX1_areBothNumbered_1 : decode cX1_areBothNumbered 1 = .ok (.getfield 17, 3) := by decide +kernel
theorem dX1_areBothNumbered_4 : decode cX1_areBothNumbered 4 = .ok (.iload_n 2, 1) := by decide +kernel
theorem dX1_areBothNumbered_5 : decode cX1_areBothNumbered 5 = .ok (.aaload, 1) := by decide +kernel
theorem dX1_areBothNumbered_6 : decode cX1_areBothNumbered 6 = .ok (.iload_n 3, 1) := by decide +kernel
theorem dX1_areBothNumbered_7 : decode cX1_areBothNumbered 7 = .ok (.laload, 1) := by decide +kernel
theorem dX1_areBothNumbered_8 : decode cX1_areBothNumbered 8 = .ok (.ldc2_w 36, 3) := by decide +kernel
theorem dX1_areBothNumbered_11 : decode cX1_areBothNumbered 11 = .ok (.lcmp, 1) := by decide +kernel
theorem dX1_areBothNumbered_12 : decode cX1_areBothNumbered 12 = .ok (.ifCond .eq 18, 3) := by decide +kernel
theorem dX1_areBothNumbered_15 : decode cX1_areBothNumbered 15 = .ok (.aload_n 0, 1) := by decide +kernel
theorem dX1_areBothNumbered_16 : decode cX1_areBothNumbered 16 = .ok (.iload_n 1, 1) := by decide +kernel
theorem dX1_areBothNumbered_17 : decode cX1_areBothNumbered 17 = .ok (.iload_n 3, 1) := by decide +kernel
theorem dX1_areBothNumbered_18 : decode cX1_areBothNumbered 18 = .ok (.iload 4, 2) := by decide +kernel
theorem dX1_areBothNumbered_20 : decode cX1_areBothNumbered 20 = .ok (.invokevirtual 54, 3) := by decide +kernel
theorem dX1_areBothNumbered_23 : decode cX1_areBothNumbered 23 = .ok (.ifCond .eq 7, 3) := by decide +kernel
theorem dX1_areBothNumbered_26 : decode cX1_areBothNumbered 26 = .ok (.iconst 1, 1) := by decide +kernel
theorem dX1_areBothNumbered_27 : decode cX1_areBothNumbered 27 = .ok (.goto 4, 3) := by decide +kernel
theorem dX1_areBothNumbered_30 : decode cX1_areBothNumbered 30 = .ok (.iconst 0, 1) := by decide +kernel
theorem dX1_areBothNumbered_31 : decode cX1_areBothNumbered 31 = .ok (.ireturn, 1) := by decide +kernel
theorem dX1_maskCount_0 : decode cX1_maskCount 0 = .ok (.iconst 0, 1) := by decide +kernel
theorem dX1_maskCount_1 : decode cX1_maskCount 1 = .ok (.istore_n 2, 1) := by decide +kernel
theorem dX1_maskCount_2 : decode cX1_maskCount 2 = .ok (.iconst 0, 1) := by decide +kernel
theorem dX1_maskCount_3 : decode cX1_maskCount 3 = .ok (.istore_n 3, 1) := by decide +kernel
theorem dX1_maskCount_4 : decode cX1_maskCount 4 = .ok (.iload_n 3, 1) := by decide +kernel
theorem dX1_maskCount_5 : decode cX1_maskCount 5 = .ok (.iconst 3, 1) := by decide +kernel
theorem dX1_maskCount_6 : decode cX1_maskCount 6 = .ok (.if_icmp .ge 23, 3) := by decide +kernel
theorem dX1_maskCount_9 : decode cX1_maskCount 9 = .ok (.iload_n 2, 1) := by decide +kernel
theorem dX1_maskCount_10 : decode cX1_maskCount 10 = .ok (.aload_n 0, 1) := by decide +kernel
theorem dX1_maskCount_11 : decode cX1_maskCount 11 = .ok (.getfield 20, 3) := by decide +kernel
theorem dX1_maskCount_14 : decode cX1_maskCount 14 = .ok (.iload_n 1, 1) := by decide +kernel
theorem dX1_maskCount_15 : decode cX1_maskCount 15 = .ok (.aaload, 1) := by decide +kernel
theorem dX1_maskCount_16 : decode cX1_maskCount 16 = .ok (.iload_n 3, 1) := by decide +kernel
theorem dX1_maskCount_17 : decode cX1_maskCount 17 = .ok (.laload, 1) := by decide +kernel
theorem dX1_maskCount_18 : decode cX1_maskCount 18 = .ok (.invokestatic 58, 3) := by decide +kernel
theorem dX1_maskCount_21 : decode cX1_maskCount 21 = .ok (.iadd, 1) := by decide +kernel
theorem dX1_maskCount_22 : decode cX1_maskCount 22 = .ok (.istore_n 2, 1) := by decide +kernel
theorem dX1_maskCount_23 : decode cX1_maskCount 23 = .ok (.iinc 3 1, 3) := by decide +kernel
theorem dX1_maskCount_26 : decode cX1_maskCount 26 = .ok (.goto (-22), 3) := by decide +kernel
theorem dX1_maskCount_29 : decode cX1_maskCount 29 = .ok (.iload_n 2, 1) := by decide +kernel
theorem dX1_maskCount_30 : decode cX1_maskCount 30 = .ok (.ireturn, 1) := by decide +kernel
theorem dX1_rowsOfWord_0 : decode cX1_rowsOfWord 0 = .ok (.aload_n 0, 1) := by decide +kernel
theorem dX1_rowsOfWord_1 : decode cX1_rowsOfWord 1 = .ok (.getfield 23, 3) := by decide +kernel
theorem dX1_rowsOfWord_4 : decode cX1_rowsOfWord 4 = .ok (.iload_n 1, 1) := by decide +kernel
theorem dX1_rowsOfWord_5 : decode cX1_rowsOfWord 5 = .ok (.bipush 64, 2) := by decide +kernel
theorem dX1_rowsOfWord_7 : decode cX1_rowsOfWord 7 = .ok (.imul, 1) := by decide +kernel
theorem dX1_rowsOfWord_8 : decode cX1_rowsOfWord 8 = .ok (.isub, 1) := by decide +kernel
theorem dX1_rowsOfWord_9 : decode cX1_rowsOfWord 9 = .ok (.istore_n 2, 1) := by decide +kernel
theorem dX1_rowsOfWord_10 : decode cX1_rowsOfWord 10 = .ok (.iload_n 2, 1) := by decide +kernel
theorem dX1_rowsOfWord_11 : decode cX1_rowsOfWord 11 = .ok (.ifCond .gt 5, 3) := by decide +kernel
theorem dX1_rowsOfWord_14 : decode cX1_rowsOfWord 14 = .ok (.lconst 0, 1) := by decide +kernel
theorem dX1_rowsOfWord_15 : decode cX1_rowsOfWord 15 = .ok (.lreturn, 1) := by decide +kernel
theorem dX1_rowsOfWord_16 : decode cX1_rowsOfWord 16 = .ok (.iload_n 2, 1) := by decide +kernel
theorem dX1_rowsOfWord_17 : decode cX1_rowsOfWord 17 = .ok (.bipush 64, 2) := by decide +kernel
theorem dX1_rowsOfWord_19 : decode cX1_rowsOfWord 19 = .ok (.if_icmp .lt 9, 3) := by decide +kernel
theorem dX1_rowsOfWord_22 : decode cX1_rowsOfWord 22 = .ok (.ldc2_w 64, 3) := by decide +kernel
theorem dX1_rowsOfWord_25 : decode cX1_rowsOfWord 25 = .ok (.goto 8, 3) := by decide +kernel
theorem dX1_rowsOfWord_28 : decode cX1_rowsOfWord 28 = .ok (.lconst 1, 1) := by decide +kernel
theorem dX1_rowsOfWord_29 : decode cX1_rowsOfWord 29 = .ok (.iload_n 2, 1) := by decide +kernel
theorem dX1_rowsOfWord_30 : decode cX1_rowsOfWord 30 = .ok (.lshl, 1) := by decide +kernel
theorem dX1_rowsOfWord_31 : decode cX1_rowsOfWord 31 = .ok (.lconst 1, 1) := by decide +kernel
theorem dX1_rowsOfWord_32 : decode cX1_rowsOfWord 32 = .ok (.lsub, 1) := by decide +kernel
theorem dX1_rowsOfWord_33 : decode cX1_rowsOfWord 33 = .ok (.lreturn, 1) := by decide +kernel
theorem dX2_init_0 : decode cX2_init 0 = .ok (.aload_n 0, 1) := by decide +kernel
theorem dX2_init_1 : decode cX2_init 1 = .ok (.invokespecial 3, 3) := by decide +kernel
theorem dX2_init_4 : decode cX2_init 4 = .ok (.aload_n 0, 1) := by decide +kernel
theorem dX2_init_5 : decode cX2_init 5 = .ok (.iconst 4, 1) := by decide +kernel
theorem dX2_init_6 : decode cX2_init 6 = .ok (.newarray .long, 2) := by decide +kernel
theorem dX2_init_8 : decode cX2_init 8 = .ok (.putfield 9, 3) := by decide +kernel
theorem dX2_init_11 : decode cX2_init 11 = .ok (.return_, 1) := by decide +kernel
theorem dX2_restart_0 : decode cX2_restart 0 = .ok (.iconst 0, 1) := by decide +kernel
theorem dX2_restart_1 : decode cX2_restart 1 = .ok (.istore_n 1, 1) := by decide +kernel
theorem dX2_restart_2 : decode cX2_restart 2 = .ok (.iload_n 1, 1) := by decide +kernel
theorem dX2_restart_3 : decode cX2_restart 3 = .ok (.iconst 3, 1) := by decide +kernel
theorem dX2_restart_4 : decode cX2_restart 4 = .ok (.if_icmp .gt 16, 3) := by decide +kernel
theorem dX2_restart_7 : decode cX2_restart 7 = .ok (.aload_n 0, 1) := by decide +kernel
theorem dX2_restart_8 : decode cX2_restart 8 = .ok (.getfield 9, 3) := by decide +kernel
theorem dX2_restart_11 : decode cX2_restart 11 = .ok (.iload_n 1, 1) := by decide +kernel
theorem dX2_restart_12 : decode cX2_restart 12 = .ok (.lconst 0, 1) := by decide +kernel
theorem dX2_restart_13 : decode cX2_restart 13 = .ok (.lastore, 1) := by decide +kernel
theorem dX2_restart_14 : decode cX2_restart 14 = .ok (.iinc 1 1, 3) := by decide +kernel
theorem dX2_restart_17 : decode cX2_restart 17 = .ok (.goto (-15), 3) := by decide +kernel
theorem dX2_restart_20 : decode cX2_restart 20 = .ok (.return_, 1) := by decide +kernel
theorem dX2_include_0 : decode cX2_include 0 = .ok (.aload_n 0, 1) := by decide +kernel
theorem dX2_include_1 : decode cX2_include 1 = .ok (.iconst 0, 1) := by decide +kernel
theorem dX2_include_2 : decode cX2_include 2 = .ok (.lload_n 1, 1) := by decide +kernel
theorem dX2_include_3 : decode cX2_include 3 = .ok (.ldc2_w 13, 3) := by decide +kernel
theorem dX2_include_6 : decode cX2_include 6 = .ok (.land, 1) := by decide +kernel
theorem dX2_include_7 : decode cX2_include 7 = .ok (.invokevirtual 15, 3) := by decide +kernel
theorem dX2_include_10 : decode cX2_include 10 = .ok (.aload_n 0, 1) := by decide +kernel
theorem dX2_include_11 : decode cX2_include 11 = .ok (.iconst 1, 1) := by decide +kernel
theorem dX2_include_12 : decode cX2_include 12 = .ok (.lload_n 1, 1) := by decide +kernel
theorem dX2_include_13 : decode cX2_include 13 = .ok (.bipush 31, 2) := by decide +kernel
theorem dX2_include_15 : decode cX2_include 15 = .ok (.lshr, 1) := by decide +kernel
theorem dX2_include_16 : decode cX2_include 16 = .ok (.invokevirtual 15, 3) := by decide +kernel
theorem dX2_include_19 : decode cX2_include 19 = .ok (.return_, 1) := by decide +kernel
theorem dX2_includeProduct_0 : decode cX2_includeProduct 0 = .ok (.lload_n 1, 1) := by decide +kernel
theorem dX2_includeProduct_1 : decode cX2_includeProduct 1 = .ok (.ldc2_w 13, 3) := by decide +kernel
theorem dX2_includeProduct_4 : decode cX2_includeProduct 4 = .ok (.land, 1) := by decide +kernel
theorem dX2_includeProduct_5 : decode cX2_includeProduct 5 = .ok (.lstore 5, 2) := by decide +kernel
theorem dX2_includeProduct_7 : decode cX2_includeProduct 7 = .ok (.lload_n 1, 1) := by decide +kernel
theorem dX2_includeProduct_8 : decode cX2_includeProduct 8 = .ok (.bipush 31, 2) := by decide +kernel
theorem dX2_includeProduct_10 : decode cX2_includeProduct 10 = .ok (.lshr, 1) := by decide +kernel
theorem dX2_includeProduct_11 : decode cX2_includeProduct 11 = .ok (.lstore 7, 2) := by decide +kernel
theorem dX2_includeProduct_13 : decode cX2_includeProduct 13 = .ok (.lload_n 3, 1) := by decide +kernel
theorem dX2_includeProduct_14 : decode cX2_includeProduct 14 = .ok (.ldc2_w 13, 3) := by decide +kernel
theorem dX2_includeProduct_17 : decode cX2_includeProduct 17 = .ok (.land, 1) := by decide +kernel
theorem dX2_includeProduct_18 : decode cX2_includeProduct 18 = .ok (.lstore 9, 2) := by decide +kernel
theorem dX2_includeProduct_20 : decode cX2_includeProduct 20 = .ok (.lload_n 3, 1) := by decide +kernel
theorem dX2_includeProduct_21 : decode cX2_includeProduct 21 = .ok (.bipush 31, 2) := by decide +kernel
theorem dX2_includeProduct_23 : decode cX2_includeProduct 23 = .ok (.lshr, 1) := by decide +kernel
theorem dX2_includeProduct_24 : decode cX2_includeProduct 24 = .ok (.lstore 11, 2) := by decide +kernel
theorem dX2_includeProduct_26 : decode cX2_includeProduct 26 = .ok (.aload_n 0, 1) := by decide +kernel
theorem dX2_includeProduct_27 : decode cX2_includeProduct 27 = .ok (.iconst 0, 1) := by decide +kernel
theorem dX2_includeProduct_28 : decode cX2_includeProduct 28 = .ok (.lload 5, 2) := by decide +kernel
theorem dX2_includeProduct_30 : decode cX2_includeProduct 30 = .ok (.lload 9, 2) := by decide +kernel
theorem dX2_includeProduct_32 : decode cX2_includeProduct 32 = .ok (.lmul, 1) := by decide +kernel
theorem dX2_includeProduct_33 : decode cX2_includeProduct 33 = .ok (.invokevirtual 15, 3) := by decide +kernel
theorem dX2_includeProduct_36 : decode cX2_includeProduct 36 = .ok (.aload_n 0, 1) := by decide +kernel
theorem dX2_includeProduct_37 : decode cX2_includeProduct 37 = .ok (.iconst 1, 1) := by decide +kernel
theorem dX2_includeProduct_38 : decode cX2_includeProduct 38 = .ok (.lload 7, 2) := by decide +kernel
theorem dX2_includeProduct_40 : decode cX2_includeProduct 40 = .ok (.lload 9, 2) := by decide +kernel
theorem dX2_includeProduct_42 : decode cX2_includeProduct 42 = .ok (.lmul, 1) := by decide +kernel
theorem dX2_includeProduct_43 : decode cX2_includeProduct 43 = .ok (.invokevirtual 15, 3) := by decide +kernel
theorem dX2_includeProduct_46 : decode cX2_includeProduct 46 = .ok (.aload_n 0, 1) := by decide +kernel
theorem dX2_includeProduct_47 : decode cX2_includeProduct 47 = .ok (.iconst 1, 1) := by decide +kernel
theorem dX2_includeProduct_48 : decode cX2_includeProduct 48 = .ok (.lload 5, 2) := by decide +kernel
theorem dX2_includeProduct_50 : decode cX2_includeProduct 50 = .ok (.lload 11, 2) := by decide +kernel
theorem dX2_includeProduct_52 : decode cX2_includeProduct 52 = .ok (.lmul, 1) := by decide +kernel
theorem dX2_includeProduct_53 : decode cX2_includeProduct 53 = .ok (.invokevirtual 15, 3) := by decide +kernel
theorem dX2_includeProduct_56 : decode cX2_includeProduct 56 = .ok (.aload_n 0, 1) := by decide +kernel
theorem dX2_includeProduct_57 : decode cX2_includeProduct 57 = .ok (.iconst 2, 1) := by decide +kernel
theorem dX2_includeProduct_58 : decode cX2_includeProduct 58 = .ok (.lload 7, 2) := by decide +kernel
theorem dX2_includeProduct_60 : decode cX2_includeProduct 60 = .ok (.lload 11, 2) := by decide +kernel
theorem dX2_includeProduct_62 : decode cX2_includeProduct 62 = .ok (.lmul, 1) := by decide +kernel
theorem dX2_includeProduct_63 : decode cX2_includeProduct 63 = .ok (.invokevirtual 15, 3) := by decide +kernel
theorem dX2_includeProduct_66 : decode cX2_includeProduct 66 = .ok (.return_, 1) := by decide +kernel
theorem dX2_includeAt_0 : decode cX2_includeAt 0 = .ok (.lload_n 2, 1) := by decide +kernel
theorem dX2_includeAt_1 : decode cX2_includeAt 1 = .ok (.lstore 4, 2) := by decide +kernel
theorem dX2_includeAt_3 : decode cX2_includeAt 3 = .ok (.iload_n 1, 1) := by decide +kernel
theorem dX2_includeAt_4 : decode cX2_includeAt 4 = .ok (.istore 6, 2) := by decide +kernel
theorem dX2_includeAt_6 : decode cX2_includeAt 6 = .ok (.iload 6, 2) := by decide +kernel
theorem dX2_includeAt_8 : decode cX2_includeAt 8 = .ok (.iconst 3, 1) := by decide +kernel
theorem dX2_includeAt_9 : decode cX2_includeAt 9 = .ok (.if_icmp .ge 41, 3) := by decide +kernel
theorem dX2_includeAt_12 : decode cX2_includeAt 12 = .ok (.aload_n 0, 1) := by decide +kernel
theorem dX2_includeAt_13 : decode cX2_includeAt 13 = .ok (.getfield 9, 3) := by decide +kernel
theorem dX2_includeAt_16 : decode cX2_includeAt 16 = .ok (.iload 6, 2) := by decide +kernel
theorem dX2_includeAt_18 : decode cX2_includeAt 18 = .ok (.laload, 1) := by decide +kernel
theorem dX2_includeAt_19 : decode cX2_includeAt 19 = .ok (.lload 4, 2) := by decide +kernel
theorem dX2_includeAt_21 : decode cX2_includeAt 21 = .ok (.ladd, 1) := by decide +kernel
theorem dX2_includeAt_22 : decode cX2_includeAt 22 = .ok (.lstore 7, 2) := by decide +kernel
theorem dX2_includeAt_24 : decode cX2_includeAt 24 = .ok (.aload_n 0, 1) := by decide +kernel
theorem dX2_includeAt_25 : decode cX2_includeAt 25 = .ok (.getfield 9, 3) := by decide +kernel
theorem dX2_includeAt_28 : decode cX2_includeAt 28 = .ok (.iload 6, 2) := by decide +kernel
theorem dX2_includeAt_30 : decode cX2_includeAt 30 = .ok (.lload 7, 2) := by decide +kernel
theorem dX2_includeAt_32 : decode cX2_includeAt 32 = .ok (.ldc2_w 13, 3) := by decide +kernel
theorem dX2_includeAt_35 : decode cX2_includeAt 35 = .ok (.land, 1) := by decide +kernel
theorem dX2_includeAt_36 : decode cX2_includeAt 36 = .ok (.lastore, 1) := by decide +kernel
theorem dX2_includeAt_37 : decode cX2_includeAt 37 = .ok (.lload 7, 2) := by decide +kernel
theorem dX2_includeAt_39 : decode cX2_includeAt 39 = .ok (.bipush 31, 2) := by decide +kernel
theorem dX2_includeAt_41 : decode cX2_includeAt 41 = .ok (.lshr, 1) := by decide +kernel
theorem dX2_includeAt_42 : decode cX2_includeAt 42 = .ok (.lstore 4, 2) := by decide +kernel
theorem dX2_includeAt_44 : decode cX2_includeAt 44 = .ok (.iinc 6 1, 3) := by decide +kernel
theorem dX2_includeAt_47 : decode cX2_includeAt 47 = .ok (.goto (-41), 3) := by decide +kernel
theorem dX2_includeAt_50 : decode cX2_includeAt 50 = .ok (.aload_n 0, 1) := by decide +kernel
theorem dX2_includeAt_51 : decode cX2_includeAt 51 = .ok (.getfield 9, 3) := by decide +kernel
theorem dX2_includeAt_54 : decode cX2_includeAt 54 = .ok (.iconst 3, 1) := by decide +kernel
theorem dX2_includeAt_55 : decode cX2_includeAt 55 = .ok (.dup2, 1) := by decide +kernel
theorem dX2_includeAt_56 : decode cX2_includeAt 56 = .ok (.laload, 1) := by decide +kernel
theorem dX2_includeAt_57 : decode cX2_includeAt 57 = .ok (.lload 4, 2) := by decide +kernel
theorem dX2_includeAt_59 : decode cX2_includeAt 59 = .ok (.ladd, 1) := by decide +kernel
theorem dX2_includeAt_60 : decode cX2_includeAt 60 = .ok (.lastore, 1) := by decide +kernel
theorem dX2_includeAt_61 : decode cX2_includeAt 61 = .ok (.return_, 1) := by decide +kernel
theorem dX2_isLong_0 : decode cX2_isLong 0 = .ok (.aload_n 0, 1) := by decide +kernel
theorem dX2_isLong_1 : decode cX2_isLong 1 = .ok (.getfield 9, 3) := by decide +kernel
theorem dX2_isLong_4 : decode cX2_isLong 4 = .ok (.iconst 3, 1) := by decide +kernel
theorem dX2_isLong_5 : decode cX2_isLong 5 = .ok (.laload, 1) := by decide +kernel
theorem dX2_isLong_6 : decode cX2_isLong 6 = .ok (.lconst 0, 1) := by decide +kernel
theorem dX2_isLong_7 : decode cX2_isLong 7 = .ok (.lcmp, 1) := by decide +kernel
theorem dX2_isLong_8 : decode cX2_isLong 8 = .ok (.ifCond .ne 18, 3) := by decide +kernel
theorem dX2_isLong_11 : decode cX2_isLong 11 = .ok (.aload_n 0, 1) := by decide +kernel
theorem dX2_isLong_12 : decode cX2_isLong 12 = .ok (.getfield 9, 3) := by decide +kernel
theorem dX2_isLong_15 : decode cX2_isLong 15 = .ok (.iconst 2, 1) := by decide +kernel
theorem dX2_isLong_16 : decode cX2_isLong 16 = .ok (.laload, 1) := by decide +kernel
theorem dX2_isLong_17 : decode cX2_isLong 17 = .ok (.lconst 1, 1) := by decide +kernel
theorem dX2_isLong_18 : decode cX2_isLong 18 = .ok (.lcmp, 1) := by decide +kernel
theorem dX2_isLong_19 : decode cX2_isLong 19 = .ok (.ifCond .gt 7, 3) := by decide +kernel
theorem dX2_isLong_22 : decode cX2_isLong 22 = .ok (.iconst 1, 1) := by decide +kernel
theorem dX2_isLong_23 : decode cX2_isLong 23 = .ok (.goto 4, 3) := by decide +kernel
theorem dX2_isLong_26 : decode cX2_isLong 26 = .ok (.iconst 0, 1) := by decide +kernel
theorem dX2_isLong_27 : decode cX2_isLong 27 = .ok (.istore_n 1, 1) := by decide +kernel
theorem dX2_isLong_28 : decode cX2_isLong 28 = .ok (.aload_n 0, 1) := by decide +kernel
theorem dX2_isLong_29 : decode cX2_isLong 29 = .ok (.getfield 9, 3) := by decide +kernel
theorem dX2_isLong_32 : decode cX2_isLong 32 = .ok (.iconst 3, 1) := by decide +kernel
theorem dX2_isLong_33 : decode cX2_isLong 33 = .ok (.laload, 1) := by decide +kernel
theorem dX2_isLong_34 : decode cX2_isLong 34 = .ok (.ldc2_w 19, 3) := by decide +kernel
theorem dX2_isLong_37 : decode cX2_isLong 37 = .ok (.lcmp, 1) := by decide +kernel
theorem dX2_isLong_38 : decode cX2_isLong 38 = .ok (.ifCond .ne 20, 3) := by decide +kernel
theorem dX2_isLong_41 : decode cX2_isLong 41 = .ok (.aload_n 0, 1) := by decide +kernel
theorem dX2_isLong_42 : decode cX2_isLong 42 = .ok (.getfield 9, 3) := by decide +kernel
theorem dX2_isLong_45 : decode cX2_isLong 45 = .ok (.iconst 2, 1) := by decide +kernel
theorem dX2_isLong_46 : decode cX2_isLong 46 = .ok (.laload, 1) := by decide +kernel
theorem dX2_isLong_47 : decode cX2_isLong 47 = .ok (.ldc2_w 21, 3) := by decide +kernel
theorem dX2_isLong_50 : decode cX2_isLong 50 = .ok (.lcmp, 1) := by decide +kernel
theorem dX2_isLong_51 : decode cX2_isLong 51 = .ok (.ifCond .lt 7, 3) := by decide +kernel
theorem dX2_isLong_54 : decode cX2_isLong 54 = .ok (.iconst 1, 1) := by decide +kernel
theorem dX2_isLong_55 : decode cX2_isLong 55 = .ok (.goto 4, 3) := by decide +kernel
theorem dX2_isLong_58 : decode cX2_isLong 58 = .ok (.iconst 0, 1) := by decide +kernel
theorem dX2_isLong_59 : decode cX2_isLong 59 = .ok (.istore_n 2, 1) := by decide +kernel
theorem dX2_isLong_60 : decode cX2_isLong 60 = .ok (.iload_n 1, 1) := by decide +kernel
theorem dX2_isLong_61 : decode cX2_isLong 61 = .ok (.ifCond .ne 7, 3) := by decide +kernel
theorem dX2_isLong_64 : decode cX2_isLong 64 = .ok (.iload_n 2, 1) := by decide +kernel
theorem dX2_isLong_65 : decode cX2_isLong 65 = .ok (.ifCond .eq 7, 3) := by decide +kernel
theorem dX2_isLong_68 : decode cX2_isLong 68 = .ok (.iconst 1, 1) := by decide +kernel
theorem dX2_isLong_69 : decode cX2_isLong 69 = .ok (.goto 4, 3) := by decide +kernel
theorem dX2_isLong_72 : decode cX2_isLong 72 = .ok (.iconst 0, 1) := by decide +kernel
theorem dX2_isLong_73 : decode cX2_isLong 73 = .ok (.ireturn, 1) := by decide +kernel
theorem dX2_asLong_0 : decode cX2_asLong 0 = .ok (.aload_n 0, 1) := by decide +kernel
theorem dX2_asLong_1 : decode cX2_asLong 1 = .ok (.getfield 9, 3) := by decide +kernel
theorem dX2_asLong_4 : decode cX2_asLong 4 = .ok (.iconst 0, 1) := by decide +kernel
theorem dX2_asLong_5 : decode cX2_asLong 5 = .ok (.laload, 1) := by decide +kernel
theorem dX2_asLong_6 : decode cX2_asLong 6 = .ok (.aload_n 0, 1) := by decide +kernel
theorem dX2_asLong_7 : decode cX2_asLong 7 = .ok (.getfield 9, 3) := by decide +kernel
theorem dX2_asLong_10 : decode cX2_asLong 10 = .ok (.iconst 1, 1) := by decide +kernel
theorem dX2_asLong_11 : decode cX2_asLong 11 = .ok (.laload, 1) := by decide +kernel
theorem dX2_asLong_12 : decode cX2_asLong 12 = .ok (.bipush 31, 2) := by decide +kernel
theorem dX2_asLong_14 : decode cX2_asLong 14 = .ok (.lshl, 1) := by decide +kernel
theorem dX2_asLong_15 : decode cX2_asLong 15 = .ok (.lor, 1) := by decide +kernel
theorem dX2_asLong_16 : decode cX2_asLong 16 = .ok (.aload_n 0, 1) := by decide +kernel
theorem dX2_asLong_17 : decode cX2_asLong 17 = .ok (.getfield 9, 3) := by decide +kernel
theorem dX2_asLong_20 : decode cX2_asLong 20 = .ok (.iconst 2, 1) := by decide +kernel
theorem dX2_asLong_21 : decode cX2_asLong 21 = .ok (.laload, 1) := by decide +kernel
theorem dX2_asLong_22 : decode cX2_asLong 22 = .ok (.bipush 62, 2) := by decide +kernel
theorem dX2_asLong_24 : decode cX2_asLong 24 = .ok (.lshl, 1) := by decide +kernel
theorem dX2_asLong_25 : decode cX2_asLong 25 = .ok (.lor, 1) := by decide +kernel
theorem dX2_asLong_26 : decode cX2_asLong 26 = .ok (.lreturn, 1) := by decide +kernel
theorem dX2_exactLong_0 : decode cX2_exactLong 0 = .ok (.aload_n 0, 1) := by decide +kernel
theorem dX2_exactLong_1 : decode cX2_exactLong 1 = .ok (.invokevirtual 23, 3) := by decide +kernel
theorem dX2_exactLong_4 : decode cX2_exactLong 4 = .ok (.invokestatic 27, 3) := by decide +kernel
theorem dX2_exactLong_7 : decode cX2_exactLong 7 = .ok (.aload_n 0, 1) := by decide +kernel
theorem dX2_exactLong_8 : decode cX2_exactLong 8 = .ok (.invokevirtual 33, 3) := by decide +kernel
theorem dX2_exactLong_11 : decode cX2_exactLong 11 = .ok (.lreturn, 1) := by decide +kernel
theorem dX3_init_0 : decode cX3_init 0 = .ok (.aload_n 0, 1) := by decide +kernel
theorem dX3_init_1 : decode cX3_init 1 = .ok (.invokespecial 5, 3) := by decide +kernel
theorem dX3_init_4 : decode cX3_init 4 = .ok (.aload_n 0, 1) := by decide +kernel
theorem dX3_init_5 : decode cX3_init 5 = .ok (.new 11, 3) := by decide +kernel
theorem dX3_init_8 : decode cX3_init 8 = .ok (.dup, 1) := by decide +kernel
theorem dX3_init_9 : decode cX3_init 9 = .ok (.invokespecial 13, 3) := by decide +kernel
theorem dX3_init_12 : decode cX3_init 12 = .ok (.putfield 14, 3) := by decide +kernel
theorem dX3_init_15 : decode cX3_init 15 = .ok (.aload_n 0, 1) := by decide +kernel
theorem dX3_init_16 : decode cX3_init 16 = .ok (.iconst 2, 1) := by decide +kernel
theorem dX3_init_17 : decode cX3_init 17 = .ok (.anewarray 11, 3) := by decide +kernel
theorem dX3_init_20 : decode cX3_init 20 = .ok (.putfield 18, 3) := by decide +kernel
theorem dX3_init_23 : decode cX3_init 23 = .ok (.aload_n 0, 1) := by decide +kernel
theorem dX3_init_24 : decode cX3_init 24 = .ok (.new 22, 3) := by decide +kernel
theorem dX3_init_27 : decode cX3_init 27 = .ok (.dup, 1) := by decide +kernel
theorem dX3_init_28 : decode cX3_init 28 = .ok (.invokespecial 24, 3) := by decide +kernel
theorem dX3_init_31 : decode cX3_init 31 = .ok (.putfield 25, 3) := by decide +kernel
theorem dX3_init_34 : decode cX3_init 34 = .ok (.aload_n 0, 1) := by decide +kernel
theorem dX3_init_35 : decode cX3_init 35 = .ok (.new 29, 3) := by decide +kernel
theorem dX3_init_38 : decode cX3_init 38 = .ok (.dup, 1) := by decide +kernel
theorem dX3_init_39 : decode cX3_init 39 = .ok (.invokespecial 31, 3) := by decide +kernel
theorem dX3_init_42 : decode cX3_init 42 = .ok (.putfield 32, 3) := by decide +kernel
theorem dX3_init_45 : decode cX3_init 45 = .ok (.aload_n 0, 1) := by decide +kernel
theorem dX3_init_46 : decode cX3_init 46 = .ok (.iconst 3, 1) := by decide +kernel
theorem dX3_init_47 : decode cX3_init 47 = .ok (.newarray .long, 2) := by decide +kernel
theorem dX3_init_49 : decode cX3_init 49 = .ok (.putfield 36, 3) := by decide +kernel
theorem dX3_init_52 : decode cX3_init 52 = .ok (.aload_n 0, 1) := by decide +kernel
theorem dX3_init_53 : decode cX3_init 53 = .ok (.sipush 192, 3) := by decide +kernel
theorem dX3_init_56 : decode cX3_init 56 = .ok (.newarray .long, 2) := by decide +kernel
theorem dX3_init_58 : decode cX3_init 58 = .ok (.putfield 40, 3) := by decide +kernel
theorem dX3_init_61 : decode cX3_init 61 = .ok (.aload_n 0, 1) := by decide +kernel
theorem dX3_init_62 : decode cX3_init 62 = .ok (.iconst 0, 1) := by decide +kernel
theorem dX3_init_63 : decode cX3_init 63 = .ok (.putfield 43, 3) := by decide +kernel
theorem dX3_init_66 : decode cX3_init 66 = .ok (.return_, 1) := by decide +kernel
theorem dX3_column_0 : decode cX3_column 0 = .ok (.iload_n 1, 1) := by decide +kernel
theorem dX3_column_1 : decode cX3_column 1 = .ok (.invokestatic 47, 3) := by decide +kernel
theorem dX3_column_4 : decode cX3_column 4 = .ok (.aload_n 0, 1) := by decide +kernel
theorem dX3_column_5 : decode cX3_column 5 = .ok (.getfield 14, 3) := by decide +kernel
theorem dX3_column_8 : decode cX3_column 8 = .ok (.getfield 51, 3) := by decide +kernel
theorem dX3_column_11 : decode cX3_column 11 = .ok (.bipush 6, 2) := by decide +kernel
theorem dX3_column_13 : decode cX3_column 13 = .ok (.if_icmp .ge 7, 3) := by decide +kernel
theorem dX3_column_16 : decode cX3_column 16 = .ok (.iconst 1, 1) := by decide +kernel
theorem dX3_column_17 : decode cX3_column 17 = .ok (.goto 4, 3) := by decide +kernel
theorem dX3_column_20 : decode cX3_column 20 = .ok (.iconst 0, 1) := by decide +kernel
theorem dX3_column_21 : decode cX3_column 21 = .ok (.invokestatic 54, 3) := by decide +kernel
theorem dX3_column_24 : decode cX3_column 24 = .ok (.aload_n 0, 1) := by decide +kernel
theorem dX3_column_25 : decode cX3_column 25 = .ok (.getfield 14, 3) := by decide +kernel
theorem dX3_column_28 : decode cX3_column 28 = .ok (.getfield 51, 3) := by decide +kernel
theorem dX3_column_31 : decode cX3_column 31 = .ok (.istore_n 2, 1) := by decide +kernel
theorem dX3_column_32 : decode cX3_column 32 = .ok (.aload_n 0, 1) := by decide +kernel
theorem dX3_column_33 : decode cX3_column 33 = .ok (.getfield 14, 3) := by decide +kernel
theorem dX3_column_36 : decode cX3_column 36 = .ok (.iload_n 2, 1) := by decide +kernel
theorem dX3_column_37 : decode cX3_column 37 = .ok (.iconst 1, 1) := by decide +kernel
theorem dX3_column_38 : decode cX3_column 38 = .ok (.iadd, 1) := by decide +kernel
theorem dX3_column_39 : decode cX3_column 39 = .ok (.putfield 51, 3) := by decide +kernel
theorem dX3_column_42 : decode cX3_column 42 = .ok (.aload_n 0, 1) := by decide +kernel
theorem dX3_column_43 : decode cX3_column 43 = .ok (.getfield 14, 3) := by decide +kernel
theorem dX3_column_46 : decode cX3_column 46 = .ok (.getfield 58, 3) := by decide +kernel
theorem dX3_column_49 : decode cX3_column 49 = .ok (.iload_n 2, 1) := by decide +kernel
theorem dX3_column_50 : decode cX3_column 50 = .ok (.iload_n 1, 1) := by decide +kernel
theorem dX3_column_51 : decode cX3_column 51 = .ok (.iastore, 1) := by decide +kernel
theorem dX3_column_52 : decode cX3_column 52 = .ok (.aload_n 0, 1) := by decide +kernel
theorem dX3_column_53 : decode cX3_column 53 = .ok (.getfield 14, 3) := by decide +kernel
theorem dX3_column_56 : decode cX3_column 56 = .ok (.iload_n 2, 1) := by decide +kernel
theorem dX3_column_57 : decode cX3_column 57 = .ok (.iconst 0, 1) := by decide +kernel
theorem dX3_column_58 : decode cX3_column 58 = .ok (.sipush 192, 3) := by decide +kernel
theorem dX3_column_61 : decode cX3_column 61 = .ok (.invokevirtual 62, 3) := by decide +kernel
theorem dX3_column_64 : decode cX3_column 64 = .ok (.iload_n 2, 1) := by decide +kernel
theorem dX3_column_65 : decode cX3_column 65 = .ok (.ireturn, 1) := by decide +kernel
theorem dX3_drop_0 : decode cX3_drop 0 = .ok (.aload_n 0, 1) := by decide +kernel
theorem dX3_drop_1 : decode cX3_drop 1 = .ok (.iload_n 1, 1) := by decide +kernel
theorem dX3_drop_2 : decode cX3_drop 2 = .ok (.invokevirtual 66, 3) := by decide +kernel
theorem dX3_drop_5 : decode cX3_drop 5 = .ok (.iload_n 1, 1) := by decide +kernel
theorem dX3_drop_6 : decode cX3_drop 6 = .ok (.istore_n 2, 1) := by decide +kernel
theorem dX3_drop_7 : decode cX3_drop 7 = .ok (.iload_n 2, 1) := by decide +kernel
theorem dX3_drop_8 : decode cX3_drop 8 = .ok (.iconst 1, 1) := by decide +kernel
theorem dX3_drop_9 : decode cX3_drop 9 = .ok (.iadd, 1) := by decide +kernel
theorem dX3_drop_10 : decode cX3_drop 10 = .ok (.aload_n 0, 1) := by decide +kernel
theorem dX3_drop_11 : decode cX3_drop 11 = .ok (.getfield 14, 3) := by decide +kernel
theorem dX3_drop_14 : decode cX3_drop 14 = .ok (.getfield 51, 3) := by decide +kernel
theorem dX3_drop_17 : decode cX3_drop 17 = .ok (.if_icmp .ge 20, 3) := by decide +kernel
theorem dX3_drop_20 : decode cX3_drop 20 = .ok (.aload_n 0, 1) := by decide +kernel
theorem dX3_drop_21 : decode cX3_drop 21 = .ok (.getfield 14, 3) := by decide +kernel
theorem dX3_drop_24 : decode cX3_drop 24 = .ok (.iload_n 2, 1) := by decide +kernel
theorem dX3_drop_25 : decode cX3_drop 25 = .ok (.iload_n 2, 1) := by decide +kernel
theorem dX3_drop_26 : decode cX3_drop 26 = .ok (.iconst 1, 1) := by decide +kernel
theorem dX3_drop_27 : decode cX3_drop 27 = .ok (.iadd, 1) := by decide +kernel
theorem dX3_drop_28 : decode cX3_drop 28 = .ok (.invokevirtual 69, 3) := by decide +kernel
theorem dX3_drop_31 : decode cX3_drop 31 = .ok (.iinc 2 1, 3) := by decide +kernel
theorem dX3_drop_34 : decode cX3_drop 34 = .ok (.goto (-27), 3) := by decide +kernel
theorem dX3_drop_37 : decode cX3_drop 37 = .ok (.aload_n 0, 1) := by decide +kernel
theorem dX3_drop_38 : decode cX3_drop 38 = .ok (.getfield 14, 3) := by decide +kernel
theorem dX3_drop_41 : decode cX3_drop 41 = .ok (.dup, 1) := by decide +kernel
theorem dX3_drop_42 : decode cX3_drop 42 = .ok (.getfield 51, 3) := by decide +kernel
theorem dX3_drop_45 : decode cX3_drop 45 = .ok (.iconst 1, 1) := by decide +kernel
theorem dX3_drop_46 : decode cX3_drop 46 = .ok (.isub, 1) := by decide +kernel
theorem dX3_drop_47 : decode cX3_drop 47 = .ok (.putfield 51, 3) := by decide +kernel
theorem dX3_drop_50 : decode cX3_drop 50 = .ok (.aload_n 0, 1) := by decide +kernel
theorem dX3_drop_51 : decode cX3_drop 51 = .ok (.getfield 14, 3) := by decide +kernel
theorem dX3_drop_54 : decode cX3_drop 54 = .ok (.getfield 51, 3) := by decide +kernel
theorem dX3_drop_57 : decode cX3_drop 57 = .ok (.ireturn, 1) := by decide +kernel
theorem dX3_rows_0 : decode cX3_rows 0 = .ok (.iload_n 1, 1) := by decide +kernel
theorem dX3_rows_1 : decode cX3_rows 1 = .ok (.iconst 1, 1) := by decide +kernel
theorem dX3_rows_2 : decode cX3_rows 2 = .ok (.if_icmp .lt 13, 3) := by decide +kernel
theorem dX3_rows_5 : decode cX3_rows 5 = .ok (.iload_n 1, 1) := by decide +kernel
theorem dX3_rows_6 : decode cX3_rows 6 = .ok (.bipush 64, 2) := by decide +kernel
theorem dX3_rows_8 : decode cX3_rows 8 = .ok (.if_icmp .gt 7, 3) := by decide +kernel
theorem dX3_rows_11 : decode cX3_rows 11 = .ok (.iconst 1, 1) := by decide +kernel
theorem dX3_rows_12 : decode cX3_rows 12 = .ok (.goto 4, 3) := by decide +kernel
theorem dX3_rows_15 : decode cX3_rows 15 = .ok (.iconst 0, 1) := by decide +kernel
theorem dX3_rows_16 : decode cX3_rows 16 = .ok (.invokestatic 73, 3) := by decide +kernel
theorem dX3_rows_19 : decode cX3_rows 19 = .ok (.aload_n 0, 1) := by decide +kernel
theorem dX3_rows_20 : decode cX3_rows 20 = .ok (.getfield 14, 3) := by decide +kernel
theorem dX3_rows_23 : decode cX3_rows 23 = .ok (.getfield 76, 3) := by decide +kernel
theorem dX3_rows_26 : decode cX3_rows 26 = .ok (.iload_n 1, 1) := by decide +kernel
theorem dX3_rows_27 : decode cX3_rows 27 = .ok (.iadd, 1) := by decide +kernel
theorem dX3_rows_28 : decode cX3_rows 28 = .ok (.sipush 192, 3) := by decide +kernel
theorem dX3_rows_31 : decode cX3_rows 31 = .ok (.if_icmp .gt 7, 3) := by decide +kernel
theorem dX3_rows_34 : decode cX3_rows 34 = .ok (.iconst 1, 1) := by decide +kernel
theorem dX3_rows_35 : decode cX3_rows 35 = .ok (.goto 4, 3) := by decide +kernel
theorem dX3_rows_38 : decode cX3_rows 38 = .ok (.iconst 0, 1) := by decide +kernel
theorem dX3_rows_39 : decode cX3_rows 39 = .ok (.invokestatic 54, 3) := by decide +kernel
theorem dX3_rows_42 : decode cX3_rows 42 = .ok (.aload_n 0, 1) := by decide +kernel
theorem dX3_rows_43 : decode cX3_rows 43 = .ok (.getfield 14, 3) := by decide +kernel
theorem dX3_rows_46 : decode cX3_rows 46 = .ok (.getfield 76, 3) := by decide +kernel
theorem dX3_rows_49 : decode cX3_rows 49 = .ok (.iload_n 1, 1) := by decide +kernel
theorem dX3_rows_50 : decode cX3_rows 50 = .ok (.iadd, 1) := by decide +kernel
theorem dX3_rows_51 : decode cX3_rows 51 = .ok (.istore_n 2, 1) := by decide +kernel
theorem dX3_rows_52 : decode cX3_rows 52 = .ok (.iconst 0, 1) := by decide +kernel
theorem dX3_rows_53 : decode cX3_rows 53 = .ok (.istore_n 3, 1) := by decide +kernel
theorem dX3_rows_54 : decode cX3_rows 54 = .ok (.iload_n 3, 1) := by decide +kernel
theorem dX3_rows_55 : decode cX3_rows 55 = .ok (.aload_n 0, 1) := by decide +kernel
theorem dX3_rows_56 : decode cX3_rows 56 = .ok (.getfield 14, 3) := by decide +kernel
theorem dX3_rows_59 : decode cX3_rows 59 = .ok (.getfield 51, 3) := by decide +kernel
theorem dX3_rows_62 : decode cX3_rows 62 = .ok (.if_icmp .ge 25, 3) := by decide +kernel
theorem dX3_rows_65 : decode cX3_rows 65 = .ok (.aload_n 0, 1) := by decide +kernel
theorem dX3_rows_66 : decode cX3_rows 66 = .ok (.getfield 14, 3) := by decide +kernel
theorem dX3_rows_69 : decode cX3_rows 69 = .ok (.iload_n 3, 1) := by decide +kernel
theorem dX3_rows_70 : decode cX3_rows 70 = .ok (.aload_n 0, 1) := by decide +kernel
theorem dX3_rows_71 : decode cX3_rows 71 = .ok (.getfield 14, 3) := by decide +kernel
theorem dX3_rows_74 : decode cX3_rows 74 = .ok (.getfield 76, 3) := by decide +kernel
theorem dX3_rows_77 : decode cX3_rows 77 = .ok (.iload_n 2, 1) := by decide +kernel
theorem dX3_rows_78 : decode cX3_rows 78 = .ok (.invokevirtual 62, 3) := by decide +kernel
theorem dX3_rows_81 : decode cX3_rows 81 = .ok (.iinc 3 1, 3) := by decide +kernel
theorem dX3_rows_84 : decode cX3_rows 84 = .ok (.goto (-30), 3) := by decide +kernel
theorem dX3_rows_87 : decode cX3_rows 87 = .ok (.aload_n 0, 1) := by decide +kernel
theorem dX3_rows_88 : decode cX3_rows 88 = .ok (.getfield 14, 3) := by decide +kernel
theorem dX3_rows_91 : decode cX3_rows 91 = .ok (.iload_n 2, 1) := by decide +kernel
theorem dX3_rows_92 : decode cX3_rows 92 = .ok (.putfield 76, 3) := by decide +kernel
theorem dX3_rows_95 : decode cX3_rows 95 = .ok (.iload_n 2, 1) := by decide +kernel
theorem dX3_rows_96 : decode cX3_rows 96 = .ok (.ireturn, 1) := by decide +kernel
theorem dX3_set_0 : decode cX3_set 0 = .ok (.aload_n 0, 1) := by decide +kernel
theorem dX3_set_1 : decode cX3_set 1 = .ok (.iload_n 1, 1) := by decide +kernel
theorem dX3_set_2 : decode cX3_set 2 = .ok (.invokevirtual 66, 3) := by decide +kernel
theorem dX3_set_5 : decode cX3_set 5 = .ok (.aload_n 0, 1) := by decide +kernel
theorem dX3_set_6 : decode cX3_set 6 = .ok (.iload_n 2, 1) := by decide +kernel
theorem dX3_set_7 : decode cX3_set 7 = .ok (.invokevirtual 79, 3) := by decide +kernel
theorem dX3_set_10 : decode cX3_set 10 = .ok (.aload_n 0, 1) := by decide +kernel
theorem dX3_set_11 : decode cX3_set 11 = .ok (.iload_n 1, 1) := by decide +kernel
theorem dX3_set_12 : decode cX3_set 12 = .ok (.lload_n 3, 1) := by decide +kernel
theorem dX3_set_13 : decode cX3_set 13 = .ok (.invokevirtual 82, 3) := by decide +kernel
theorem dX3_set_16 : decode cX3_set 16 = .ok (.aload_n 0, 1) := by decide +kernel
theorem dX3_set_17 : decode cX3_set 17 = .ok (.getfield 14, 3) := by decide +kernel
theorem dX3_set_20 : decode cX3_set 20 = .ok (.getfield 86, 3) := by decide +kernel
theorem dX3_set_23 : decode cX3_set 23 = .ok (.iload_n 1, 1) := by decide +kernel
theorem dX3_set_24 : decode cX3_set 24 = .ok (.aaload, 1) := by decide +kernel
theorem dX3_set_25 : decode cX3_set 25 = .ok (.iload_n 2, 1) := by decide +kernel
theorem dX3_set_26 : decode cX3_set 26 = .ok (.laload, 1) := by decide +kernel
theorem dX3_set_27 : decode cX3_set 27 = .ok (.ldc2_w 90, 3) := by decide +kernel
theorem dX3_set_30 : decode cX3_set 30 = .ok (.lcmp, 1) := by decide +kernel
theorem dX3_set_31 : decode cX3_set 31 = .ok (.ifCond .ne 7, 3) := by decide +kernel
theorem dX3_set_34 : decode cX3_set 34 = .ok (.iconst 1, 1) := by decide +kernel
theorem dX3_set_35 : decode cX3_set 35 = .ok (.goto 4, 3) := by decide +kernel
theorem dX3_set_38 : decode cX3_set 38 = .ok (.iconst 0, 1) := by decide +kernel
theorem dX3_set_39 : decode cX3_set 39 = .ok (.istore 5, 2) := by decide +kernel
theorem dX3_set_41 : decode cX3_set 41 = .ok (.aload_n 0, 1) := by decide +kernel
theorem dX3_set_42 : decode cX3_set 42 = .ok (.getfield 14, 3) := by decide +kernel
theorem dX3_set_45 : decode cX3_set 45 = .ok (.getfield 86, 3) := by decide +kernel
theorem dX3_set_48 : decode cX3_set 48 = .ok (.iload_n 1, 1) := by decide +kernel
theorem dX3_set_49 : decode cX3_set 49 = .ok (.aaload, 1) := by decide +kernel
theorem dX3_set_50 : decode cX3_set 50 = .ok (.iload_n 2, 1) := by decide +kernel
theorem dX3_set_51 : decode cX3_set 51 = .ok (.lload_n 3, 1) := by decide +kernel
theorem dX3_set_52 : decode cX3_set 52 = .ok (.lastore, 1) := by decide +kernel
theorem dX3_set_53 : decode cX3_set 53 = .ok (.iload 5, 2) := by decide +kernel
theorem dX3_set_55 : decode cX3_set 55 = .ok (.ireturn, 1) := by decide +kernel
theorem dX3_clear_0 : decode cX3_clear 0 = .ok (.aload_n 0, 1) := by decide +kernel
theorem dX3_clear_1 : decode cX3_clear 1 = .ok (.iload_n 1, 1) := by decide +kernel
theorem dX3_clear_2 : decode cX3_clear 2 = .ok (.invokevirtual 66, 3) := by decide +kernel
theorem dX3_clear_5 : decode cX3_clear 5 = .ok (.aload_n 0, 1) := by decide +kernel
theorem dX3_clear_6 : decode cX3_clear 6 = .ok (.iload_n 2, 1) := by decide +kernel
theorem dX3_clear_7 : decode cX3_clear 7 = .ok (.invokevirtual 79, 3) := by decide +kernel
theorem dX3_clear_10 : decode cX3_clear 10 = .ok (.aload_n 0, 1) := by decide +kernel
theorem dX3_clear_11 : decode cX3_clear 11 = .ok (.getfield 14, 3) := by decide +kernel
theorem dX3_clear_14 : decode cX3_clear 14 = .ok (.getfield 86, 3) := by decide +kernel
theorem dX3_clear_17 : decode cX3_clear 17 = .ok (.iload_n 1, 1) := by decide +kernel
theorem dX3_clear_18 : decode cX3_clear 18 = .ok (.aaload, 1) := by decide +kernel
theorem dX3_clear_19 : decode cX3_clear 19 = .ok (.iload_n 2, 1) := by decide +kernel
theorem dX3_clear_20 : decode cX3_clear 20 = .ok (.laload, 1) := by decide +kernel
theorem dX3_clear_21 : decode cX3_clear 21 = .ok (.ldc2_w 90, 3) := by decide +kernel
theorem dX3_clear_24 : decode cX3_clear 24 = .ok (.lcmp, 1) := by decide +kernel
theorem dX3_clear_25 : decode cX3_clear 25 = .ok (.ifCond .ne 7, 3) := by decide +kernel
theorem dX3_clear_28 : decode cX3_clear 28 = .ok (.iconst 0, 1) := by decide +kernel
theorem dX3_clear_29 : decode cX3_clear 29 = .ok (.goto 4, 3) := by decide +kernel
theorem dX3_clear_32 : decode cX3_clear 32 = .ok (.iconst 1, 1) := by decide +kernel
theorem dX3_clear_33 : decode cX3_clear 33 = .ok (.istore_n 3, 1) := by decide +kernel
theorem dX3_clear_34 : decode cX3_clear 34 = .ok (.aload_n 0, 1) := by decide +kernel
theorem dX3_clear_35 : decode cX3_clear 35 = .ok (.getfield 14, 3) := by decide +kernel
theorem dX3_clear_38 : decode cX3_clear 38 = .ok (.getfield 86, 3) := by decide +kernel
theorem dX3_clear_41 : decode cX3_clear 41 = .ok (.iload_n 1, 1) := by decide +kernel
theorem dX3_clear_42 : decode cX3_clear 42 = .ok (.aaload, 1) := by decide +kernel
theorem dX3_clear_43 : decode cX3_clear 43 = .ok (.iload_n 2, 1) := by decide +kernel
theorem dX3_clear_44 : decode cX3_clear 44 = .ok (.ldc2_w 90, 3) := by decide +kernel
theorem dX3_clear_47 : decode cX3_clear 47 = .ok (.lastore, 1) := by decide +kernel
theorem dX3_clear_48 : decode cX3_clear 48 = .ok (.iload_n 3, 1) := by decide +kernel
theorem dX3_clear_49 : decode cX3_clear 49 = .ok (.ireturn, 1) := by decide +kernel
theorem dX3_get_0 : decode cX3_get 0 = .ok (.aload_n 0, 1) := by decide +kernel
theorem dX3_get_1 : decode cX3_get 1 = .ok (.iload_n 1, 1) := by decide +kernel
theorem dX3_get_2 : decode cX3_get 2 = .ok (.invokevirtual 66, 3) := by decide +kernel
theorem dX3_get_5 : decode cX3_get 5 = .ok (.aload_n 0, 1) := by decide +kernel
theorem dX3_get_6 : decode cX3_get 6 = .ok (.iload_n 2, 1) := by decide +kernel
theorem dX3_get_7 : decode cX3_get 7 = .ok (.invokevirtual 79, 3) := by decide +kernel
theorem dX3_get_10 : decode cX3_get 10 = .ok (.aload_n 0, 1) := by decide +kernel
theorem dX3_get_11 : decode cX3_get 11 = .ok (.getfield 14, 3) := by decide +kernel
theorem dX3_get_14 : decode cX3_get 14 = .ok (.getfield 86, 3) := by decide +kernel
theorem dX3_get_17 : decode cX3_get 17 = .ok (.iload_n 1, 1) := by decide +kernel
theorem dX3_get_18 : decode cX3_get 18 = .ok (.aaload, 1) := by decide +kernel
theorem dX3_get_19 : decode cX3_get 19 = .ok (.iload_n 2, 1) := by decide +kernel
theorem dX3_get_20 : decode cX3_get 20 = .ok (.laload, 1) := by decide +kernel
theorem dX3_get_21 : decode cX3_get 21 = .ok (.lreturn, 1) := by decide +kernel
theorem dX3_has_0 : decode cX3_has 0 = .ok (.iload_n 1, 1) := by decide +kernel
theorem dX3_has_1 : decode cX3_has 1 = .ok (.tableswitch 112 0 6 #[43, 51, 59, 67, 91, 99, 107], 43) := by decide +kernel
theorem dX3_has_44 : decode cX3_has 44 = .ok (.aload_n 0, 1) := by decide +kernel
theorem dX3_has_45 : decode cX3_has 45 = .ok (.getfield 14, 3) := by decide +kernel
theorem dX3_has_48 : decode cX3_has 48 = .ok (.getfield 76, 3) := by decide +kernel
theorem dX3_has_51 : decode cX3_has 51 = .ok (.ireturn, 1) := by decide +kernel
theorem dX3_has_52 : decode cX3_has 52 = .ok (.aload_n 0, 1) := by decide +kernel
theorem dX3_has_53 : decode cX3_has 53 = .ok (.getfield 14, 3) := by decide +kernel
theorem dX3_has_56 : decode cX3_has 56 = .ok (.getfield 51, 3) := by decide +kernel
theorem dX3_has_59 : decode cX3_has 59 = .ok (.ireturn, 1) := by decide +kernel
theorem dX3_has_60 : decode cX3_has 60 = .ok (.aload_n 0, 1) := by decide +kernel
theorem dX3_has_61 : decode cX3_has 61 = .ok (.getfield 14, 3) := by decide +kernel
theorem dX3_has_64 : decode cX3_has 64 = .ok (.invokevirtual 92, 3) := by decide +kernel
theorem dX3_has_67 : decode cX3_has 67 = .ok (.ireturn, 1) := by decide +kernel
theorem dX3_has_68 : decode cX3_has 68 = .ok (.aload_n 0, 1) := by decide +kernel
theorem dX3_has_69 : decode cX3_has 69 = .ok (.getfield 14, 3) := by decide +kernel
theorem dX3_has_72 : decode cX3_has 72 = .ok (.getfield 76, 3) := by decide +kernel
theorem dX3_has_75 : decode cX3_has 75 = .ok (.aload_n 0, 1) := by decide +kernel
theorem dX3_has_76 : decode cX3_has 76 = .ok (.getfield 14, 3) := by decide +kernel
theorem dX3_has_79 : decode cX3_has 79 = .ok (.getfield 51, 3) := by decide +kernel
theorem dX3_has_82 : decode cX3_has 82 = .ok (.imul, 1) := by decide +kernel
theorem dX3_has_83 : decode cX3_has 83 = .ok (.aload_n 0, 1) := by decide +kernel
theorem dX3_has_84 : decode cX3_has 84 = .ok (.getfield 14, 3) := by decide +kernel
theorem dX3_has_87 : decode cX3_has 87 = .ok (.invokevirtual 92, 3) := by decide +kernel
theorem dX3_has_90 : decode cX3_has 90 = .ok (.isub, 1) := by decide +kernel
theorem dX3_has_91 : decode cX3_has 91 = .ok (.ireturn, 1) := by decide +kernel
theorem dX3_has_92 : decode cX3_has 92 = .ok (.aload_n 0, 1) := by decide +kernel
theorem dX3_has_93 : decode cX3_has 93 = .ok (.getfield 14, 3) := by decide +kernel
theorem dX3_has_96 : decode cX3_has 96 = .ok (.invokevirtual 96, 3) := by decide +kernel
theorem dX3_has_99 : decode cX3_has 99 = .ok (.ireturn, 1) := by decide +kernel
theorem dX3_has_100 : decode cX3_has 100 = .ok (.aload_n 0, 1) := by decide +kernel
theorem dX3_has_101 : decode cX3_has 101 = .ok (.getfield 14, 3) := by decide +kernel
theorem dX3_has_104 : decode cX3_has 104 = .ok (.invokevirtual 99, 3) := by decide +kernel
theorem dX3_has_107 : decode cX3_has 107 = .ok (.ireturn, 1) := by decide +kernel
theorem dX3_has_108 : decode cX3_has 108 = .ok (.aload_n 0, 1) := by decide +kernel
theorem dX3_has_109 : decode cX3_has 109 = .ok (.getfield 43, 3) := by decide +kernel
theorem dX3_has_112 : decode cX3_has 112 = .ok (.ireturn, 1) := by decide +kernel
theorem dX3_has_113 : decode cX3_has 113 = .ok (.iconst (-1), 1) := by decide +kernel
theorem dX3_has_114 : decode cX3_has 114 = .ok (.ireturn, 1) := by decide +kernel
theorem dX3_width_0 : decode cX3_width 0 = .ok (.aload_n 0, 1) := by decide +kernel
theorem dX3_width_1 : decode cX3_width 1 = .ok (.iload_n 1, 1) := by decide +kernel
theorem dX3_width_2 : decode cX3_width 2 = .ok (.invokevirtual 66, 3) := by decide +kernel
theorem dX3_width_5 : decode cX3_width 5 = .ok (.iload_n 2, 1) := by decide +kernel
theorem dX3_width_6 : decode cX3_width 6 = .ok (.ifCond .lt 12, 3) := by decide +kernel
theorem dX3_width_9 : decode cX3_width 9 = .ok (.iload_n 2, 1) := by decide +kernel
theorem dX3_width_10 : decode cX3_width 10 = .ok (.iconst 2, 1) := by decide +kernel
theorem dX3_width_11 : decode cX3_width 11 = .ok (.if_icmp .gt 7, 3) := by decide +kernel
theorem dX3_width_14 : decode cX3_width 14 = .ok (.iconst 1, 1) := by decide +kernel
theorem dX3_width_15 : decode cX3_width 15 = .ok (.goto 4, 3) := by decide +kernel
theorem dX3_width_18 : decode cX3_width 18 = .ok (.iconst 0, 1) := by decide +kernel
theorem dX3_width_19 : decode cX3_width 19 = .ok (.invokestatic 73, 3) := by decide +kernel
theorem dX3_width_22 : decode cX3_width 22 = .ok (.iload_n 2, 1) := by decide +kernel
theorem dX3_width_23 : decode cX3_width 23 = .ok (.ifCond .ne 13, 3) := by decide +kernel
theorem dX3_width_26 : decode cX3_width 26 = .ok (.aload_n 0, 1) := by decide +kernel
theorem dX3_width_27 : decode cX3_width 27 = .ok (.getfield 14, 3) := by decide +kernel
theorem dX3_width_30 : decode cX3_width 30 = .ok (.getfield 58, 3) := by decide +kernel
theorem dX3_width_33 : decode cX3_width 33 = .ok (.iload_n 1, 1) := by decide +kernel
theorem dX3_width_34 : decode cX3_width 34 = .ok (.iaload, 1) := by decide +kernel
theorem dX3_width_35 : decode cX3_width 35 = .ok (.ireturn, 1) := by decide +kernel
theorem dX3_width_36 : decode cX3_width 36 = .ok (.iload_n 2, 1) := by decide +kernel
theorem dX3_width_37 : decode cX3_width 37 = .ok (.iconst 1, 1) := by decide +kernel
theorem dX3_width_38 : decode cX3_width 38 = .ok (.if_icmp .ne 14, 3) := by decide +kernel
theorem dX3_width_41 : decode cX3_width 41 = .ok (.aload_n 0, 1) := by decide +kernel
theorem dX3_width_42 : decode cX3_width 42 = .ok (.getfield 14, 3) := by decide +kernel
theorem dX3_width_45 : decode cX3_width 45 = .ok (.iload_n 1, 1) := by decide +kernel
theorem dX3_width_46 : decode cX3_width 46 = .ok (.invokevirtual 102, 3) := by decide +kernel
theorem dX3_width_49 : decode cX3_width 49 = .ok (.goto 11, 3) := by decide +kernel
theorem dX3_width_52 : decode cX3_width 52 = .ok (.aload_n 0, 1) := by decide +kernel
theorem dX3_width_53 : decode cX3_width 53 = .ok (.getfield 14, 3) := by decide +kernel
theorem dX3_width_56 : decode cX3_width 56 = .ok (.iload_n 1, 1) := by decide +kernel
theorem dX3_width_57 : decode cX3_width 57 = .ok (.invokevirtual 106, 3) := by decide +kernel
theorem dX3_width_60 : decode cX3_width 60 = .ok (.ireturn, 1) := by decide +kernel
theorem dX3_slice_0 : decode cX3_slice 0 = .ok (.aload_n 0, 1) := by decide +kernel
theorem dX3_slice_1 : decode cX3_slice 1 = .ok (.iload_n 1, 1) := by decide +kernel
theorem dX3_slice_2 : decode cX3_slice 2 = .ok (.invokevirtual 66, 3) := by decide +kernel
theorem dX3_slice_5 : decode cX3_slice 5 = .ok (.aload_n 0, 1) := by decide +kernel
theorem dX3_slice_6 : decode cX3_slice 6 = .ok (.iload_n 1, 1) := by decide +kernel
theorem dX3_slice_7 : decode cX3_slice 7 = .ok (.iload_n 2, 1) := by decide +kernel
theorem dX3_slice_8 : decode cX3_slice 8 = .ok (.invokevirtual 109, 3) := by decide +kernel
theorem dX3_slice_11 : decode cX3_slice 11 = .ok (.iload_n 3, 1) := by decide +kernel
theorem dX3_slice_12 : decode cX3_slice 12 = .ok (.invokestatic 112, 3) := by decide +kernel
theorem dX3_slice_15 : decode cX3_slice 15 = .ok (.aload_n 0, 1) := by decide +kernel
theorem dX3_slice_16 : decode cX3_slice 16 = .ok (.invokevirtual 115, 3) := by decide +kernel
theorem dX3_slice_19 : decode cX3_slice 19 = .ok (.iconst 0, 1) := by decide +kernel
theorem dX3_slice_20 : decode cX3_slice 20 = .ok (.istore 4, 2) := by decide +kernel
theorem dX3_slice_22 : decode cX3_slice 22 = .ok (.iload 4, 2) := by decide +kernel
theorem dX3_slice_24 : decode cX3_slice 24 = .ok (.aload_n 0, 1) := by decide +kernel
theorem dX3_slice_25 : decode cX3_slice 25 = .ok (.getfield 14, 3) := by decide +kernel
theorem dX3_slice_28 : decode cX3_slice 28 = .ok (.getfield 76, 3) := by decide +kernel
theorem dX3_slice_31 : decode cX3_slice 31 = .ok (.if_icmp .ge 34, 3) := by decide +kernel
theorem dX3_slice_34 : decode cX3_slice 34 = .ok (.aload_n 0, 1) := by decide +kernel
theorem dX3_slice_35 : decode cX3_slice 35 = .ok (.getfield 14, 3) := by decide +kernel
theorem dX3_slice_38 : decode cX3_slice 38 = .ok (.getfield 86, 3) := by decide +kernel
theorem dX3_slice_41 : decode cX3_slice 41 = .ok (.iload_n 1, 1) := by decide +kernel
theorem dX3_slice_42 : decode cX3_slice 42 = .ok (.aaload, 1) := by decide +kernel
theorem dX3_slice_43 : decode cX3_slice 43 = .ok (.iload 4, 2) := by decide +kernel
theorem dX3_slice_45 : decode cX3_slice 45 = .ok (.laload, 1) := by decide +kernel
theorem dX3_slice_46 : decode cX3_slice 46 = .ok (.iload_n 2, 1) := by decide +kernel
theorem dX3_slice_47 : decode cX3_slice 47 = .ok (.invokestatic 118, 3) := by decide +kernel
theorem dX3_slice_50 : decode cX3_slice 50 = .ok (.ifCond .eq 9, 3) := by decide +kernel
theorem dX3_slice_53 : decode cX3_slice 53 = .ok (.aload_n 0, 1) := by decide +kernel
theorem dX3_slice_54 : decode cX3_slice 54 = .ok (.iload 4, 2) := by decide +kernel
theorem dX3_slice_56 : decode cX3_slice 56 = .ok (.invokevirtual 122, 3) := by decide +kernel
theorem dX3_slice_59 : decode cX3_slice 59 = .ok (.iinc 4 1, 3) := by decide +kernel
theorem dX3_slice_62 : decode cX3_slice 62 = .ok (.goto (-40), 3) := by decide +kernel
theorem dX3_slice_65 : decode cX3_slice 65 = .ok (.aload_n 0, 1) := by decide +kernel
theorem dX3_slice_66 : decode cX3_slice 66 = .ok (.getfield 36, 3) := by decide +kernel
theorem dX3_slice_69 : decode cX3_slice 69 = .ok (.iload_n 3, 1) := by decide +kernel
theorem dX3_slice_70 : decode cX3_slice 70 = .ok (.laload, 1) := by decide +kernel
theorem dX3_slice_71 : decode cX3_slice 71 = .ok (.lreturn, 1) := by decide +kernel
theorem dX3_mask_0 : decode cX3_mask 0 = .ok (.iload_n 1, 1) := by decide +kernel
theorem dX3_mask_1 : decode cX3_mask 1 = .ok (.invokestatic 125, 3) := by decide +kernel
theorem dX3_mask_4 : decode cX3_mask 4 = .ok (.iload_n 2, 1) := by decide +kernel
theorem dX3_mask_5 : decode cX3_mask 5 = .ok (.ifCond .lt 12, 3) := by decide +kernel
theorem dX3_mask_8 : decode cX3_mask 8 = .ok (.iload_n 2, 1) := by decide +kernel
theorem dX3_mask_9 : decode cX3_mask 9 = .ok (.iconst 3, 1) := by decide +kernel
theorem dX3_mask_10 : decode cX3_mask 10 = .ok (.if_icmp .gt 7, 3) := by decide +kernel
theorem dX3_mask_13 : decode cX3_mask 13 = .ok (.iconst 1, 1) := by decide +kernel
theorem dX3_mask_14 : decode cX3_mask 14 = .ok (.goto 4, 3) := by decide +kernel
theorem dX3_mask_17 : decode cX3_mask 17 = .ok (.iconst 0, 1) := by decide +kernel
theorem dX3_mask_18 : decode cX3_mask 18 = .ok (.invokestatic 73, 3) := by decide +kernel
theorem dX3_mask_21 : decode cX3_mask 21 = .ok (.iload_n 2, 1) := by decide +kernel
theorem dX3_mask_22 : decode cX3_mask 22 = .ok (.iconst 2, 1) := by decide +kernel
theorem dX3_mask_23 : decode cX3_mask 23 = .ok (.if_icmp .ne 25, 3) := by decide +kernel
theorem dX3_mask_26 : decode cX3_mask 26 = .ok (.iload_n 3, 1) := by decide +kernel
theorem dX3_mask_27 : decode cX3_mask 27 = .ok (.ifCond .lt 25, 3) := by decide +kernel
theorem dX3_mask_30 : decode cX3_mask 30 = .ok (.iload_n 3, 1) := by decide +kernel
theorem dX3_mask_31 : decode cX3_mask 31 = .ok (.iload 4, 2) := by decide +kernel
theorem dX3_mask_33 : decode cX3_mask 33 = .ok (.if_icmp .gt 19, 3) := by decide +kernel
theorem dX3_mask_36 : decode cX3_mask 36 = .ok (.iload 4, 2) := by decide +kernel
theorem dX3_mask_38 : decode cX3_mask 38 = .ok (.aload_n 0, 1) := by decide +kernel
theorem dX3_mask_39 : decode cX3_mask 39 = .ok (.getfield 14, 3) := by decide +kernel
theorem dX3_mask_42 : decode cX3_mask 42 = .ok (.getfield 76, 3) := by decide +kernel
theorem dX3_mask_45 : decode cX3_mask 45 = .ok (.if_icmp .gt 7, 3) := by decide +kernel
theorem dX3_mask_48 : decode cX3_mask 48 = .ok (.iconst 1, 1) := by decide +kernel
theorem dX3_mask_49 : decode cX3_mask 49 = .ok (.goto 4, 3) := by decide +kernel
theorem dX3_mask_52 : decode cX3_mask 52 = .ok (.iconst 0, 1) := by decide +kernel
theorem dX3_mask_53 : decode cX3_mask 53 = .ok (.invokestatic 73, 3) := by decide +kernel
theorem dX3_mask_56 : decode cX3_mask 56 = .ok (.iload_n 2, 1) := by decide +kernel
theorem dX3_mask_57 : decode cX3_mask 57 = .ok (.iconst 3, 1) := by decide +kernel
theorem dX3_mask_58 : decode cX3_mask 58 = .ok (.if_icmp .ne 19, 3) := by decide +kernel
theorem dX3_mask_61 : decode cX3_mask 61 = .ok (.iload_n 3, 1) := by decide +kernel
theorem dX3_mask_62 : decode cX3_mask 62 = .ok (.iconst 1, 1) := by decide +kernel
theorem dX3_mask_63 : decode cX3_mask 63 = .ok (.if_icmp .lt 18, 3) := by decide +kernel
theorem dX3_mask_66 : decode cX3_mask 66 = .ok (.iload 4, 2) := by decide +kernel
theorem dX3_mask_68 : decode cX3_mask 68 = .ok (.ifCond .lt 13, 3) := by decide +kernel
theorem dX3_mask_71 : decode cX3_mask 71 = .ok (.iload 4, 2) := by decide +kernel
theorem dX3_mask_73 : decode cX3_mask 73 = .ok (.iload_n 3, 1) := by decide +kernel
theorem dX3_mask_74 : decode cX3_mask 74 = .ok (.if_icmp .ge 7, 3) := by decide +kernel
theorem dX3_mask_77 : decode cX3_mask 77 = .ok (.iconst 1, 1) := by decide +kernel
theorem dX3_mask_78 : decode cX3_mask 78 = .ok (.goto 4, 3) := by decide +kernel
theorem dX3_mask_81 : decode cX3_mask 81 = .ok (.iconst 0, 1) := by decide +kernel
theorem dX3_mask_82 : decode cX3_mask 82 = .ok (.invokestatic 73, 3) := by decide +kernel
theorem dX3_mask_85 : decode cX3_mask 85 = .ok (.aload_n 0, 1) := by decide +kernel
theorem dX3_mask_86 : decode cX3_mask 86 = .ok (.invokevirtual 115, 3) := by decide +kernel
theorem dX3_mask_89 : decode cX3_mask 89 = .ok (.iload_n 2, 1) := by decide +kernel
theorem dX3_mask_90 : decode cX3_mask 90 = .ok (.ifCond .ne 19, 3) := by decide +kernel
theorem dX3_mask_93 : decode cX3_mask 93 = .ok (.aload_n 0, 1) := by decide +kernel
theorem dX3_mask_94 : decode cX3_mask 94 = .ok (.iconst 1, 1) := by decide +kernel
theorem dX3_mask_95 : decode cX3_mask 95 = .ok (.iconst 0, 1) := by decide +kernel
theorem dX3_mask_96 : decode cX3_mask 96 = .ok (.aload_n 0, 1) := by decide +kernel
theorem dX3_mask_97 : decode cX3_mask 97 = .ok (.getfield 14, 3) := by decide +kernel
theorem dX3_mask_100 : decode cX3_mask 100 = .ok (.getfield 76, 3) := by decide +kernel
theorem dX3_mask_103 : decode cX3_mask 103 = .ok (.invokevirtual 128, 3) := by decide +kernel
theorem dX3_mask_106 : decode cX3_mask 106 = .ok (.goto 38, 3) := by decide +kernel
theorem dX3_mask_109 : decode cX3_mask 109 = .ok (.iload_n 2, 1) := by decide +kernel
theorem dX3_mask_110 : decode cX3_mask 110 = .ok (.iconst 2, 1) := by decide +kernel
theorem dX3_mask_111 : decode cX3_mask 111 = .ok (.if_icmp .ne 14, 3) := by decide +kernel
theorem dX3_mask_114 : decode cX3_mask 114 = .ok (.aload_n 0, 1) := by decide +kernel
theorem dX3_mask_115 : decode cX3_mask 115 = .ok (.iconst 1, 1) := by decide +kernel
theorem dX3_mask_116 : decode cX3_mask 116 = .ok (.iload_n 3, 1) := by decide +kernel
theorem dX3_mask_117 : decode cX3_mask 117 = .ok (.iload 4, 2) := by decide +kernel
theorem dX3_mask_119 : decode cX3_mask 119 = .ok (.invokevirtual 128, 3) := by decide +kernel
theorem dX3_mask_122 : decode cX3_mask 122 = .ok (.goto 22, 3) := by decide +kernel
theorem dX3_mask_125 : decode cX3_mask 125 = .ok (.iload_n 2, 1) := by decide +kernel
theorem dX3_mask_126 : decode cX3_mask 126 = .ok (.iconst 3, 1) := by decide +kernel
theorem dX3_mask_127 : decode cX3_mask 127 = .ok (.if_icmp .ne 17, 3) := by decide +kernel
theorem dX3_mask_130 : decode cX3_mask 130 = .ok (.aload_n 0, 1) := by decide +kernel
theorem dX3_mask_131 : decode cX3_mask 131 = .ok (.iload_n 3, 1) := by decide +kernel
theorem dX3_mask_132 : decode cX3_mask 132 = .ok (.iload 4, 2) := by decide +kernel
theorem dX3_mask_134 : decode cX3_mask 134 = .ok (.aload_n 0, 1) := by decide +kernel
theorem dX3_mask_135 : decode cX3_mask 135 = .ok (.getfield 14, 3) := by decide +kernel
theorem dX3_mask_138 : decode cX3_mask 138 = .ok (.getfield 76, 3) := by decide +kernel
theorem dX3_mask_141 : decode cX3_mask 141 = .ok (.invokevirtual 128, 3) := by decide +kernel
theorem dX3_mask_144 : decode cX3_mask 144 = .ok (.aload_n 0, 1) := by decide +kernel
theorem dX3_mask_145 : decode cX3_mask 145 = .ok (.iload_n 1, 1) := by decide +kernel
theorem dX3_mask_146 : decode cX3_mask 146 = .ok (.invokevirtual 131, 3) := by decide +kernel
theorem dX3_mask_149 : decode cX3_mask 149 = .ok (.ireturn, 1) := by decide +kernel
theorem dX3_bits_0 : decode cX3_bits 0 = .ok (.iload_n 1, 1) := by decide +kernel
theorem dX3_bits_1 : decode cX3_bits 1 = .ok (.invokestatic 125, 3) := by decide +kernel
theorem dX3_bits_4 : decode cX3_bits 4 = .ok (.iload_n 2, 1) := by decide +kernel
theorem dX3_bits_5 : decode cX3_bits 5 = .ok (.invokestatic 112, 3) := by decide +kernel
theorem dX3_bits_8 : decode cX3_bits 8 = .ok (.aload_n 0, 1) := by decide +kernel
theorem dX3_bits_9 : decode cX3_bits 9 = .ok (.getfield 14, 3) := by decide +kernel
theorem dX3_bits_12 : decode cX3_bits 12 = .ok (.getfield 134, 3) := by decide +kernel
theorem dX3_bits_15 : decode cX3_bits 15 = .ok (.iload_n 1, 1) := by decide +kernel
theorem dX3_bits_16 : decode cX3_bits 16 = .ok (.aaload, 1) := by decide +kernel
theorem dX3_bits_17 : decode cX3_bits 17 = .ok (.iload_n 2, 1) := by decide +kernel
theorem dX3_bits_18 : decode cX3_bits 18 = .ok (.lload_n 3, 1) := by decide +kernel
theorem dX3_bits_19 : decode cX3_bits 19 = .ok (.aload_n 0, 1) := by decide +kernel
theorem dX3_bits_20 : decode cX3_bits 20 = .ok (.getfield 14, 3) := by decide +kernel
theorem dX3_bits_23 : decode cX3_bits 23 = .ok (.iload_n 2, 1) := by decide +kernel
theorem dX3_bits_24 : decode cX3_bits 24 = .ok (.invokevirtual 137, 3) := by decide +kernel
theorem dX3_bits_27 : decode cX3_bits 27 = .ok (.land, 1) := by decide +kernel
theorem dX3_bits_28 : decode cX3_bits 28 = .ok (.lastore, 1) := by decide +kernel
theorem dX3_bits_29 : decode cX3_bits 29 = .ok (.aload_n 0, 1) := by decide +kernel
theorem dX3_bits_30 : decode cX3_bits 30 = .ok (.getfield 14, 3) := by decide +kernel
theorem dX3_bits_33 : decode cX3_bits 33 = .ok (.iload_n 1, 1) := by decide +kernel
theorem dX3_bits_34 : decode cX3_bits 34 = .ok (.invokevirtual 141, 3) := by decide +kernel
theorem dX3_bits_37 : decode cX3_bits 37 = .ok (.ireturn, 1) := by decide +kernel
theorem dX3_join_0 : decode cX3_join 0 = .ok (.iload_n 1, 1) := by decide +kernel
theorem dX3_join_1 : decode cX3_join 1 = .ok (.invokestatic 125, 3) := by decide +kernel
theorem dX3_join_4 : decode cX3_join 4 = .ok (.iload_n 2, 1) := by decide +kernel
theorem dX3_join_5 : decode cX3_join 5 = .ok (.invokestatic 125, 3) := by decide +kernel
theorem dX3_join_8 : decode cX3_join 8 = .ok (.iload_n 3, 1) := by decide +kernel
theorem dX3_join_9 : decode cX3_join 9 = .ok (.invokestatic 125, 3) := by decide +kernel
theorem dX3_join_12 : decode cX3_join 12 = .ok (.iload 4, 2) := by decide +kernel
theorem dX3_join_14 : decode cX3_join 14 = .ok (.ifCond .lt 13, 3) := by decide +kernel
theorem dX3_join_17 : decode cX3_join 17 = .ok (.iload 4, 2) := by decide +kernel
theorem dX3_join_19 : decode cX3_join 19 = .ok (.iconst 3, 1) := by decide +kernel
theorem dX3_join_20 : decode cX3_join 20 = .ok (.if_icmp .gt 7, 3) := by decide +kernel
theorem dX3_join_23 : decode cX3_join 23 = .ok (.iconst 1, 1) := by decide +kernel
theorem dX3_join_24 : decode cX3_join 24 = .ok (.goto 4, 3) := by decide +kernel
theorem dX3_join_27 : decode cX3_join 27 = .ok (.iconst 0, 1) := by decide +kernel
theorem dX3_join_28 : decode cX3_join 28 = .ok (.invokestatic 73, 3) := by decide +kernel
theorem dX3_join_31 : decode cX3_join 31 = .ok (.iconst 0, 1) := by decide +kernel
theorem dX3_join_32 : decode cX3_join 32 = .ok (.istore 5, 2) := by decide +kernel
theorem dX3_join_34 : decode cX3_join 34 = .ok (.iload 5, 2) := by decide +kernel
theorem dX3_join_36 : decode cX3_join 36 = .ok (.iconst 3, 1) := by decide +kernel
theorem dX3_join_37 : decode cX3_join 37 = .ok (.if_icmp .ge 45, 3) := by decide +kernel
theorem dX3_join_40 : decode cX3_join 40 = .ok (.aload_n 0, 1) := by decide +kernel
theorem dX3_join_41 : decode cX3_join 41 = .ok (.getfield 36, 3) := by decide +kernel
theorem dX3_join_44 : decode cX3_join 44 = .ok (.iload 5, 2) := by decide +kernel
theorem dX3_join_46 : decode cX3_join 46 = .ok (.aload_n 0, 1) := by decide +kernel
theorem dX3_join_47 : decode cX3_join 47 = .ok (.getfield 14, 3) := by decide +kernel
theorem dX3_join_50 : decode cX3_join 50 = .ok (.getfield 134, 3) := by decide +kernel
theorem dX3_join_53 : decode cX3_join 53 = .ok (.iload_n 2, 1) := by decide +kernel
theorem dX3_join_54 : decode cX3_join 54 = .ok (.aaload, 1) := by decide +kernel
theorem dX3_join_55 : decode cX3_join 55 = .ok (.iload 5, 2) := by decide +kernel
theorem dX3_join_57 : decode cX3_join 57 = .ok (.laload, 1) := by decide +kernel
theorem dX3_join_58 : decode cX3_join 58 = .ok (.aload_n 0, 1) := by decide +kernel
theorem dX3_join_59 : decode cX3_join 59 = .ok (.getfield 14, 3) := by decide +kernel
theorem dX3_join_62 : decode cX3_join 62 = .ok (.getfield 134, 3) := by decide +kernel
theorem dX3_join_65 : decode cX3_join 65 = .ok (.iload_n 3, 1) := by decide +kernel
theorem dX3_join_66 : decode cX3_join 66 = .ok (.aaload, 1) := by decide +kernel
theorem dX3_join_67 : decode cX3_join 67 = .ok (.iload 5, 2) := by decide +kernel
theorem dX3_join_69 : decode cX3_join 69 = .ok (.laload, 1) := by decide +kernel
theorem dX3_join_70 : decode cX3_join 70 = .ok (.iload 4, 2) := by decide +kernel
theorem dX3_join_72 : decode cX3_join 72 = .ok (.invokestatic 144, 3) := by decide +kernel
theorem dX3_join_75 : decode cX3_join 75 = .ok (.lastore, 1) := by decide +kernel
theorem dX3_join_76 : decode cX3_join 76 = .ok (.iinc 5 1, 3) := by decide +kernel
theorem dX3_join_79 : decode cX3_join 79 = .ok (.goto (-45), 3) := by decide +kernel
theorem dX3_join_82 : decode cX3_join 82 = .ok (.aload_n 0, 1) := by decide +kernel
theorem dX3_join_83 : decode cX3_join 83 = .ok (.iload_n 1, 1) := by decide +kernel
theorem dX3_join_84 : decode cX3_join 84 = .ok (.invokevirtual 131, 3) := by decide +kernel
theorem dX3_join_87 : decode cX3_join 87 = .ok (.ireturn, 1) := by decide +kernel
theorem dX3_turn_0 : decode cX3_turn 0 = .ok (.iload_n 1, 1) := by decide +kernel
theorem dX3_turn_1 : decode cX3_turn 1 = .ok (.invokestatic 125, 3) := by decide +kernel
theorem dX3_turn_4 : decode cX3_turn 4 = .ok (.iload_n 2, 1) := by decide +kernel
theorem dX3_turn_5 : decode cX3_turn 5 = .ok (.invokestatic 125, 3) := by decide +kernel
theorem dX3_turn_8 : decode cX3_turn 8 = .ok (.iconst 0, 1) := by decide +kernel
theorem dX3_turn_9 : decode cX3_turn 9 = .ok (.istore_n 3, 1) := by decide +kernel
theorem dX3_turn_10 : decode cX3_turn 10 = .ok (.iload_n 3, 1) := by decide +kernel
theorem dX3_turn_11 : decode cX3_turn 11 = .ok (.iconst 3, 1) := by decide +kernel
theorem dX3_turn_12 : decode cX3_turn 12 = .ok (.if_icmp .ge 39, 3) := by decide +kernel
theorem dX3_turn_15 : decode cX3_turn 15 = .ok (.aload_n 0, 1) := by decide +kernel
theorem dX3_turn_16 : decode cX3_turn 16 = .ok (.getfield 36, 3) := by decide +kernel
theorem dX3_turn_19 : decode cX3_turn 19 = .ok (.iload_n 3, 1) := by decide +kernel
theorem dX3_turn_20 : decode cX3_turn 20 = .ok (.aload_n 0, 1) := by decide +kernel
theorem dX3_turn_21 : decode cX3_turn 21 = .ok (.getfield 14, 3) := by decide +kernel
theorem dX3_turn_24 : decode cX3_turn 24 = .ok (.getfield 134, 3) := by decide +kernel
theorem dX3_turn_27 : decode cX3_turn 27 = .ok (.iload_n 2, 1) := by decide +kernel
theorem dX3_turn_28 : decode cX3_turn 28 = .ok (.aaload, 1) := by decide +kernel
theorem dX3_turn_29 : decode cX3_turn 29 = .ok (.iload_n 3, 1) := by decide +kernel
theorem dX3_turn_30 : decode cX3_turn 30 = .ok (.laload, 1) := by decide +kernel
theorem dX3_turn_31 : decode cX3_turn 31 = .ok (.ldc2_w 148, 3) := by decide +kernel
theorem dX3_turn_34 : decode cX3_turn 34 = .ok (.lxor, 1) := by decide +kernel
theorem dX3_turn_35 : decode cX3_turn 35 = .ok (.aload_n 0, 1) := by decide +kernel
theorem dX3_turn_36 : decode cX3_turn 36 = .ok (.getfield 14, 3) := by decide +kernel
theorem dX3_turn_39 : decode cX3_turn 39 = .ok (.iload_n 3, 1) := by decide +kernel
theorem dX3_turn_40 : decode cX3_turn 40 = .ok (.invokevirtual 137, 3) := by decide +kernel
theorem dX3_turn_43 : decode cX3_turn 43 = .ok (.land, 1) := by decide +kernel
theorem dX3_turn_44 : decode cX3_turn 44 = .ok (.lastore, 1) := by decide +kernel
theorem dX3_turn_45 : decode cX3_turn 45 = .ok (.iinc 3 1, 3) := by decide +kernel
theorem dX3_turn_48 : decode cX3_turn 48 = .ok (.goto (-38), 3) := by decide +kernel
theorem dX3_turn_51 : decode cX3_turn 51 = .ok (.aload_n 0, 1) := by decide +kernel
theorem dX3_turn_52 : decode cX3_turn 52 = .ok (.iload_n 1, 1) := by decide +kernel
theorem dX3_turn_53 : decode cX3_turn 53 = .ok (.invokevirtual 131, 3) := by decide +kernel
theorem dX3_turn_56 : decode cX3_turn 56 = .ok (.ireturn, 1) := by decide +kernel
theorem dX3_compare_0 : decode cX3_compare 0 = .ok (.iload_n 1, 1) := by decide +kernel
theorem dX3_compare_1 : decode cX3_compare 1 = .ok (.invokestatic 125, 3) := by decide +kernel
theorem dX3_compare_4 : decode cX3_compare 4 = .ok (.aload_n 0, 1) := by decide +kernel
theorem dX3_compare_5 : decode cX3_compare 5 = .ok (.iload_n 2, 1) := by decide +kernel
theorem dX3_compare_6 : decode cX3_compare 6 = .ok (.invokevirtual 66, 3) := by decide +kernel
theorem dX3_compare_9 : decode cX3_compare 9 = .ok (.iload 6, 2) := by decide +kernel
theorem dX3_compare_11 : decode cX3_compare 11 = .ok (.invokestatic 125, 3) := by decide +kernel
theorem dX3_compare_14 : decode cX3_compare 14 = .ok (.iload_n 3, 1) := by decide +kernel
theorem dX3_compare_15 : decode cX3_compare 15 = .ok (.ifCond .lt 12, 3) := by decide +kernel
theorem dX3_compare_18 : decode cX3_compare 18 = .ok (.iload_n 3, 1) := by decide +kernel
theorem dX3_compare_19 : decode cX3_compare 19 = .ok (.iconst 5, 1) := by decide +kernel
theorem dX3_compare_20 : decode cX3_compare 20 = .ok (.if_icmp .gt 7, 3) := by decide +kernel
theorem dX3_compare_23 : decode cX3_compare 23 = .ok (.iconst 1, 1) := by decide +kernel
theorem dX3_compare_24 : decode cX3_compare 24 = .ok (.goto 4, 3) := by decide +kernel
theorem dX3_compare_27 : decode cX3_compare 27 = .ok (.iconst 0, 1) := by decide +kernel
theorem dX3_compare_28 : decode cX3_compare 28 = .ok (.invokestatic 73, 3) := by decide +kernel
theorem dX3_compare_31 : decode cX3_compare 31 = .ok (.aload_n 0, 1) := by decide +kernel
theorem dX3_compare_32 : decode cX3_compare 32 = .ok (.invokevirtual 115, 3) := by decide +kernel
theorem dX3_compare_35 : decode cX3_compare 35 = .ok (.iconst 0, 1) := by decide +kernel
theorem dX3_compare_36 : decode cX3_compare 36 = .ok (.istore 7, 2) := by decide +kernel
theorem dX3_compare_38 : decode cX3_compare 38 = .ok (.iload 7, 2) := by decide +kernel
theorem dX3_compare_40 : decode cX3_compare 40 = .ok (.aload_n 0, 1) := by decide +kernel
theorem dX3_compare_41 : decode cX3_compare 41 = .ok (.getfield 14, 3) := by decide +kernel
theorem dX3_compare_44 : decode cX3_compare 44 = .ok (.getfield 76, 3) := by decide +kernel
theorem dX3_compare_47 : decode cX3_compare 47 = .ok (.if_icmp .ge 51, 3) := by decide +kernel
theorem dX3_compare_50 : decode cX3_compare 50 = .ok (.aload_n 0, 1) := by decide +kernel
theorem dX3_compare_51 : decode cX3_compare 51 = .ok (.getfield 14, 3) := by decide +kernel
theorem dX3_compare_54 : decode cX3_compare 54 = .ok (.iload_n 2, 1) := by decide +kernel
theorem dX3_compare_55 : decode cX3_compare 55 = .ok (.iload 7, 2) := by decide +kernel
theorem dX3_compare_57 : decode cX3_compare 57 = .ok (.iload 6, 2) := by decide +kernel
theorem dX3_compare_59 : decode cX3_compare 59 = .ok (.invokevirtual 150, 3) := by decide +kernel
theorem dX3_compare_62 : decode cX3_compare 62 = .ok (.ifCond .eq 30, 3) := by decide +kernel
theorem dX3_compare_65 : decode cX3_compare 65 = .ok (.aload_n 0, 1) := by decide +kernel
theorem dX3_compare_66 : decode cX3_compare 66 = .ok (.getfield 14, 3) := by decide +kernel
theorem dX3_compare_69 : decode cX3_compare 69 = .ok (.getfield 86, 3) := by decide +kernel
theorem dX3_compare_72 : decode cX3_compare 72 = .ok (.iload_n 2, 1) := by decide +kernel
theorem dX3_compare_73 : decode cX3_compare 73 = .ok (.aaload, 1) := by decide +kernel
theorem dX3_compare_74 : decode cX3_compare 74 = .ok (.iload 7, 2) := by decide +kernel
theorem dX3_compare_76 : decode cX3_compare 76 = .ok (.laload, 1) := by decide +kernel
theorem dX3_compare_77 : decode cX3_compare 77 = .ok (.iload_n 3, 1) := by decide +kernel
theorem dX3_compare_78 : decode cX3_compare 78 = .ok (.lload 4, 2) := by decide +kernel
theorem dX3_compare_80 : decode cX3_compare 80 = .ok (.invokestatic 154, 3) := by decide +kernel
theorem dX3_compare_83 : decode cX3_compare 83 = .ok (.ifCond .eq 9, 3) := by decide +kernel
theorem dX3_compare_86 : decode cX3_compare 86 = .ok (.aload_n 0, 1) := by decide +kernel
theorem dX3_compare_87 : decode cX3_compare 87 = .ok (.iload 7, 2) := by decide +kernel
theorem dX3_compare_89 : decode cX3_compare 89 = .ok (.invokevirtual 122, 3) := by decide +kernel
theorem dX3_compare_92 : decode cX3_compare 92 = .ok (.iinc 7 1, 3) := by decide +kernel
theorem dX3_compare_95 : decode cX3_compare 95 = .ok (.goto (-57), 3) := by decide +kernel
theorem dX3_compare_98 : decode cX3_compare 98 = .ok (.aload_n 0, 1) := by decide +kernel
theorem dX3_compare_99 : decode cX3_compare 99 = .ok (.iload_n 1, 1) := by decide +kernel
theorem dX3_compare_100 : decode cX3_compare 100 = .ok (.invokevirtual 131, 3) := by decide +kernel
theorem dX3_compare_103 : decode cX3_compare 103 = .ok (.ireturn, 1) := by decide +kernel
theorem dX3_against_0 : decode cX3_against 0 = .ok (.iload_n 1, 1) := by decide +kernel
theorem dX3_against_1 : decode cX3_against 1 = .ok (.invokestatic 125, 3) := by decide +kernel
theorem dX3_against_4 : decode cX3_against 4 = .ok (.aload_n 0, 1) := by decide +kernel
theorem dX3_against_5 : decode cX3_against 5 = .ok (.iload_n 2, 1) := by decide +kernel
theorem dX3_against_6 : decode cX3_against 6 = .ok (.invokevirtual 66, 3) := by decide +kernel
theorem dX3_against_9 : decode cX3_against 9 = .ok (.aload_n 0, 1) := by decide +kernel
theorem dX3_against_10 : decode cX3_against 10 = .ok (.iload_n 3, 1) := by decide +kernel
theorem dX3_against_11 : decode cX3_against 11 = .ok (.invokevirtual 66, 3) := by decide +kernel
theorem dX3_against_14 : decode cX3_against 14 = .ok (.iload 5, 2) := by decide +kernel
theorem dX3_against_16 : decode cX3_against 16 = .ok (.invokestatic 125, 3) := by decide +kernel
theorem dX3_against_19 : decode cX3_against 19 = .ok (.iload 4, 2) := by decide +kernel
theorem dX3_against_21 : decode cX3_against 21 = .ok (.ifCond .lt 13, 3) := by decide +kernel
theorem dX3_against_24 : decode cX3_against 24 = .ok (.iload 4, 2) := by decide +kernel
theorem dX3_against_26 : decode cX3_against 26 = .ok (.iconst 5, 1) := by decide +kernel
theorem dX3_against_27 : decode cX3_against 27 = .ok (.if_icmp .gt 7, 3) := by decide +kernel
theorem dX3_against_30 : decode cX3_against 30 = .ok (.iconst 1, 1) := by decide +kernel
theorem dX3_against_31 : decode cX3_against 31 = .ok (.goto 4, 3) := by decide +kernel
theorem dX3_against_34 : decode cX3_against 34 = .ok (.iconst 0, 1) := by decide +kernel
theorem dX3_against_35 : decode cX3_against 35 = .ok (.invokestatic 73, 3) := by decide +kernel
theorem dX3_against_38 : decode cX3_against 38 = .ok (.aload_n 0, 1) := by decide +kernel
theorem dX3_against_39 : decode cX3_against 39 = .ok (.invokevirtual 115, 3) := by decide +kernel
theorem dX3_against_42 : decode cX3_against 42 = .ok (.iconst 0, 1) := by decide +kernel
theorem dX3_against_43 : decode cX3_against 43 = .ok (.istore 6, 2) := by decide +kernel
theorem dX3_against_45 : decode cX3_against 45 = .ok (.iload 6, 2) := by decide +kernel
theorem dX3_against_47 : decode cX3_against 47 = .ok (.aload_n 0, 1) := by decide +kernel
theorem dX3_against_48 : decode cX3_against 48 = .ok (.getfield 14, 3) := by decide +kernel
theorem dX3_against_51 : decode cX3_against 51 = .ok (.getfield 76, 3) := by decide +kernel
theorem dX3_against_54 : decode cX3_against 54 = .ok (.if_icmp .ge 63, 3) := by decide +kernel
theorem dX3_against_57 : decode cX3_against 57 = .ok (.aload_n 0, 1) := by decide +kernel
theorem dX3_against_58 : decode cX3_against 58 = .ok (.getfield 14, 3) := by decide +kernel
theorem dX3_against_61 : decode cX3_against 61 = .ok (.iload_n 2, 1) := by decide +kernel
theorem dX3_against_62 : decode cX3_against 62 = .ok (.iload_n 3, 1) := by decide +kernel
theorem dX3_against_63 : decode cX3_against 63 = .ok (.iload 6, 2) := by decide +kernel
theorem dX3_against_65 : decode cX3_against 65 = .ok (.iload 5, 2) := by decide +kernel
theorem dX3_against_67 : decode cX3_against 67 = .ok (.invokevirtual 158, 3) := by decide +kernel
theorem dX3_against_70 : decode cX3_against 70 = .ok (.ifCond .eq 41, 3) := by decide +kernel
theorem dX3_against_73 : decode cX3_against 73 = .ok (.aload_n 0, 1) := by decide +kernel
theorem dX3_against_74 : decode cX3_against 74 = .ok (.getfield 14, 3) := by decide +kernel
theorem dX3_against_77 : decode cX3_against 77 = .ok (.getfield 86, 3) := by decide +kernel
theorem dX3_against_80 : decode cX3_against 80 = .ok (.iload_n 2, 1) := by decide +kernel
theorem dX3_against_81 : decode cX3_against 81 = .ok (.aaload, 1) := by decide +kernel
theorem dX3_against_82 : decode cX3_against 82 = .ok (.iload 6, 2) := by decide +kernel
theorem dX3_against_84 : decode cX3_against 84 = .ok (.laload, 1) := by decide +kernel
theorem dX3_against_85 : decode cX3_against 85 = .ok (.iload 4, 2) := by decide +kernel
theorem dX3_against_87 : decode cX3_against 87 = .ok (.aload_n 0, 1) := by decide +kernel
theorem dX3_against_88 : decode cX3_against 88 = .ok (.getfield 14, 3) := by decide +kernel
theorem dX3_against_91 : decode cX3_against 91 = .ok (.getfield 86, 3) := by decide +kernel
theorem dX3_against_94 : decode cX3_against 94 = .ok (.iload_n 3, 1) := by decide +kernel
theorem dX3_against_95 : decode cX3_against 95 = .ok (.aaload, 1) := by decide +kernel
theorem dX3_against_96 : decode cX3_against 96 = .ok (.iload 6, 2) := by decide +kernel
theorem dX3_against_98 : decode cX3_against 98 = .ok (.laload, 1) := by decide +kernel
theorem dX3_against_99 : decode cX3_against 99 = .ok (.invokestatic 154, 3) := by decide +kernel
theorem dX3_against_102 : decode cX3_against 102 = .ok (.ifCond .eq 9, 3) := by decide +kernel
theorem dX3_against_105 : decode cX3_against 105 = .ok (.aload_n 0, 1) := by decide +kernel
theorem dX3_against_106 : decode cX3_against 106 = .ok (.iload 6, 2) := by decide +kernel
theorem dX3_against_108 : decode cX3_against 108 = .ok (.invokevirtual 122, 3) := by decide +kernel
theorem dX3_against_111 : decode cX3_against 111 = .ok (.iinc 6 1, 3) := by decide +kernel
theorem dX3_against_114 : decode cX3_against 114 = .ok (.goto (-69), 3) := by decide +kernel
theorem dX3_against_117 : decode cX3_against 117 = .ok (.aload_n 0, 1) := by decide +kernel
theorem dX3_against_118 : decode cX3_against 118 = .ok (.iload_n 1, 1) := by decide +kernel
theorem dX3_against_119 : decode cX3_against 119 = .ok (.invokevirtual 131, 3) := by decide +kernel
theorem dX3_against_122 : decode cX3_against 122 = .ok (.ireturn, 1) := by decide +kernel
theorem dX3_empty_0 : decode cX3_empty 0 = .ok (.iload_n 1, 1) := by decide +kernel
theorem dX3_empty_1 : decode cX3_empty 1 = .ok (.invokestatic 125, 3) := by decide +kernel
theorem dX3_empty_4 : decode cX3_empty 4 = .ok (.aload_n 0, 1) := by decide +kernel
theorem dX3_empty_5 : decode cX3_empty 5 = .ok (.iload_n 2, 1) := by decide +kernel
theorem dX3_empty_6 : decode cX3_empty 6 = .ok (.invokevirtual 66, 3) := by decide +kernel
theorem dX3_empty_9 : decode cX3_empty 9 = .ok (.iload_n 3, 1) := by decide +kernel
theorem dX3_empty_10 : decode cX3_empty 10 = .ok (.invokestatic 125, 3) := by decide +kernel
theorem dX3_empty_13 : decode cX3_empty 13 = .ok (.aload_n 0, 1) := by decide +kernel
theorem dX3_empty_14 : decode cX3_empty 14 = .ok (.invokevirtual 115, 3) := by decide +kernel
theorem dX3_empty_17 : decode cX3_empty 17 = .ok (.iconst 0, 1) := by decide +kernel
theorem dX3_empty_18 : decode cX3_empty 18 = .ok (.istore 4, 2) := by decide +kernel
theorem dX3_empty_20 : decode cX3_empty 20 = .ok (.iload 4, 2) := by decide +kernel
theorem dX3_empty_22 : decode cX3_empty 22 = .ok (.aload_n 0, 1) := by decide +kernel
theorem dX3_empty_23 : decode cX3_empty 23 = .ok (.getfield 14, 3) := by decide +kernel
theorem dX3_empty_26 : decode cX3_empty 26 = .ok (.getfield 76, 3) := by decide +kernel
theorem dX3_empty_29 : decode cX3_empty 29 = .ok (.if_icmp .ge 47, 3) := by decide +kernel
theorem dX3_empty_32 : decode cX3_empty 32 = .ok (.aload_n 0, 1) := by decide +kernel
theorem dX3_empty_33 : decode cX3_empty 33 = .ok (.getfield 14, 3) := by decide +kernel
theorem dX3_empty_36 : decode cX3_empty 36 = .ok (.iload 4, 2) := by decide +kernel
theorem dX3_empty_38 : decode cX3_empty 38 = .ok (.iload_n 3, 1) := by decide +kernel
theorem dX3_empty_39 : decode cX3_empty 39 = .ok (.invokevirtual 162, 3) := by decide +kernel
theorem dX3_empty_42 : decode cX3_empty 42 = .ok (.ifCond .eq 28, 3) := by decide +kernel
theorem dX3_empty_45 : decode cX3_empty 45 = .ok (.aload_n 0, 1) := by decide +kernel
theorem dX3_empty_46 : decode cX3_empty 46 = .ok (.getfield 14, 3) := by decide +kernel
theorem dX3_empty_49 : decode cX3_empty 49 = .ok (.getfield 86, 3) := by decide +kernel
theorem dX3_empty_52 : decode cX3_empty 52 = .ok (.iload_n 2, 1) := by decide +kernel
theorem dX3_empty_53 : decode cX3_empty 53 = .ok (.aaload, 1) := by decide +kernel
theorem dX3_empty_54 : decode cX3_empty 54 = .ok (.iload 4, 2) := by decide +kernel
theorem dX3_empty_56 : decode cX3_empty 56 = .ok (.laload, 1) := by decide +kernel
theorem dX3_empty_57 : decode cX3_empty 57 = .ok (.ldc2_w 90, 3) := by decide +kernel
theorem dX3_empty_60 : decode cX3_empty 60 = .ok (.lcmp, 1) := by decide +kernel
theorem dX3_empty_61 : decode cX3_empty 61 = .ok (.ifCond .ne 9, 3) := by decide +kernel
theorem dX3_empty_64 : decode cX3_empty 64 = .ok (.aload_n 0, 1) := by decide +kernel
theorem dX3_empty_65 : decode cX3_empty 65 = .ok (.iload 4, 2) := by decide +kernel
theorem dX3_empty_67 : decode cX3_empty 67 = .ok (.invokevirtual 122, 3) := by decide +kernel
theorem dX3_empty_70 : decode cX3_empty 70 = .ok (.iinc 4 1, 3) := by decide +kernel
theorem dX3_empty_73 : decode cX3_empty 73 = .ok (.goto (-53), 3) := by decide +kernel
theorem dX3_empty_76 : decode cX3_empty 76 = .ok (.aload_n 0, 1) := by decide +kernel
theorem dX3_empty_77 : decode cX3_empty 77 = .ok (.iload_n 1, 1) := by decide +kernel
theorem dX3_empty_78 : decode cX3_empty 78 = .ok (.invokevirtual 131, 3) := by decide +kernel
theorem dX3_empty_81 : decode cX3_empty 81 = .ok (.ireturn, 1) := by decide +kernel
theorem dX3_top_0 : decode cX3_top 0 = .ok (.iload_n 1, 1) := by decide +kernel
theorem dX3_top_1 : decode cX3_top 1 = .ok (.invokestatic 125, 3) := by decide +kernel
theorem dX3_top_4 : decode cX3_top 4 = .ok (.aload_n 0, 1) := by decide +kernel
theorem dX3_top_5 : decode cX3_top 5 = .ok (.iload_n 2, 1) := by decide +kernel
theorem dX3_top_6 : decode cX3_top 6 = .ok (.invokevirtual 66, 3) := by decide +kernel
theorem dX3_top_9 : decode cX3_top 9 = .ok (.iload_n 3, 1) := by decide +kernel
theorem dX3_top_10 : decode cX3_top 10 = .ok (.invokestatic 125, 3) := by decide +kernel
theorem dX3_top_13 : decode cX3_top 13 = .ok (.iload 4, 2) := by decide +kernel
theorem dX3_top_15 : decode cX3_top 15 = .ok (.ifCond .lt 7, 3) := by decide +kernel
theorem dX3_top_18 : decode cX3_top 18 = .ok (.iconst 1, 1) := by decide +kernel
theorem dX3_top_19 : decode cX3_top 19 = .ok (.goto 4, 3) := by decide +kernel
theorem dX3_top_22 : decode cX3_top 22 = .ok (.iconst 0, 1) := by decide +kernel
theorem dX3_top_23 : decode cX3_top 23 = .ok (.invokestatic 73, 3) := by decide +kernel
theorem dX3_top_26 : decode cX3_top 26 = .ok (.aload_n 0, 1) := by decide +kernel
theorem dX3_top_27 : decode cX3_top 27 = .ok (.iload_n 2, 1) := by decide +kernel
theorem dX3_top_28 : decode cX3_top 28 = .ok (.iload_n 3, 1) := by decide +kernel
theorem dX3_top_29 : decode cX3_top 29 = .ok (.invokevirtual 166, 3) := by decide +kernel
theorem dX3_top_32 : decode cX3_top 32 = .ok (.aload_n 0, 1) := by decide +kernel
theorem dX3_top_33 : decode cX3_top 33 = .ok (.getfield 25, 3) := by decide +kernel
theorem dX3_top_36 : decode cX3_top 36 = .ok (.iconst 1, 1) := by decide +kernel
theorem dX3_top_37 : decode cX3_top 37 = .ok (.invokevirtual 169, 3) := by decide +kernel
theorem dX3_top_40 : decode cX3_top 40 = .ok (.pop, 1) := by decide +kernel
theorem dX3_top_41 : decode cX3_top 41 = .ok (.aload_n 0, 1) := by decide +kernel
theorem dX3_top_42 : decode cX3_top 42 = .ok (.invokevirtual 115, 3) := by decide +kernel
theorem dX3_top_45 : decode cX3_top 45 = .ok (.iconst 0, 1) := by decide +kernel
theorem dX3_top_46 : decode cX3_top 46 = .ok (.istore 5, 2) := by decide +kernel
theorem dX3_top_48 : decode cX3_top 48 = .ok (.iload 5, 2) := by decide +kernel
theorem dX3_top_50 : decode cX3_top 50 = .ok (.aload_n 0, 1) := by decide +kernel
theorem dX3_top_51 : decode cX3_top 51 = .ok (.getfield 25, 3) := by decide +kernel
theorem dX3_top_54 : decode cX3_top 54 = .ok (.getfield 173, 3) := by decide +kernel
theorem dX3_top_57 : decode cX3_top 57 = .ok (.if_icmp .ge 30, 3) := by decide +kernel
theorem dX3_top_60 : decode cX3_top 60 = .ok (.iload 5, 2) := by decide +kernel
theorem dX3_top_62 : decode cX3_top 62 = .ok (.iload 4, 2) := by decide +kernel
theorem dX3_top_64 : decode cX3_top 64 = .ok (.if_icmp .ge 23, 3) := by decide +kernel
theorem dX3_top_67 : decode cX3_top 67 = .ok (.aload_n 0, 1) := by decide +kernel
theorem dX3_top_68 : decode cX3_top 68 = .ok (.aload_n 0, 1) := by decide +kernel
theorem dX3_top_69 : decode cX3_top 69 = .ok (.getfield 25, 3) := by decide +kernel
theorem dX3_top_72 : decode cX3_top 72 = .ok (.getfield 176, 3) := by decide +kernel
theorem dX3_top_75 : decode cX3_top 75 = .ok (.iload 5, 2) := by decide +kernel
theorem dX3_top_77 : decode cX3_top 77 = .ok (.iaload, 1) := by decide +kernel
theorem dX3_top_78 : decode cX3_top 78 = .ok (.invokevirtual 122, 3) := by decide +kernel
theorem dX3_top_81 : decode cX3_top 81 = .ok (.iinc 5 1, 3) := by decide +kernel
theorem dX3_top_84 : decode cX3_top 84 = .ok (.goto (-36), 3) := by decide +kernel
theorem dX3_top_87 : decode cX3_top 87 = .ok (.aload_n 0, 1) := by decide +kernel
theorem dX3_top_88 : decode cX3_top 88 = .ok (.iload_n 1, 1) := by decide +kernel
theorem dX3_top_89 : decode cX3_top 89 = .ok (.invokevirtual 131, 3) := by decide +kernel
theorem dX3_top_92 : decode cX3_top 92 = .ok (.ireturn, 1) := by decide +kernel
theorem dX3_field_0 : decode cX3_field 0 = .ok (.iload_n 1, 1) := by decide +kernel
theorem dX3_field_1 : decode cX3_field 1 = .ok (.invokestatic 125, 3) := by decide +kernel
theorem dX3_field_4 : decode cX3_field 4 = .ok (.aload_n 0, 1) := by decide +kernel
theorem dX3_field_5 : decode cX3_field 5 = .ok (.iload_n 2, 1) := by decide +kernel
theorem dX3_field_6 : decode cX3_field 6 = .ok (.invokevirtual 66, 3) := by decide +kernel
theorem dX3_field_9 : decode cX3_field 9 = .ok (.iload 6, 2) := by decide +kernel
theorem dX3_field_11 : decode cX3_field 11 = .ok (.invokestatic 125, 3) := by decide +kernel
theorem dX3_field_14 : decode cX3_field 14 = .ok (.aload_n 0, 1) := by decide +kernel
theorem dX3_field_15 : decode cX3_field 15 = .ok (.iload_n 2, 1) := by decide +kernel
theorem dX3_field_16 : decode cX3_field 16 = .ok (.iload_n 3, 1) := by decide +kernel
theorem dX3_field_17 : decode cX3_field 17 = .ok (.invokevirtual 109, 3) := by decide +kernel
theorem dX3_field_20 : decode cX3_field 20 = .ok (.iload 4, 2) := by decide +kernel
theorem dX3_field_22 : decode cX3_field 22 = .ok (.iconst 1, 1) := by decide +kernel
theorem dX3_field_23 : decode cX3_field 23 = .ok (.if_icmp .lt 30, 3) := by decide +kernel
theorem dX3_field_26 : decode cX3_field 26 = .ok (.iload 4, 2) := by decide +kernel
theorem dX3_field_28 : decode cX3_field 28 = .ok (.bipush 16, 2) := by decide +kernel
theorem dX3_field_30 : decode cX3_field 30 = .ok (.if_icmp .gt 23, 3) := by decide +kernel
theorem dX3_field_33 : decode cX3_field 33 = .ok (.iload 4, 2) := by decide +kernel
theorem dX3_field_35 : decode cX3_field 35 = .ok (.aload_n 0, 1) := by decide +kernel
theorem dX3_field_36 : decode cX3_field 36 = .ok (.getfield 14, 3) := by decide +kernel
theorem dX3_field_39 : decode cX3_field 39 = .ok (.getfield 58, 3) := by decide +kernel
theorem dX3_field_42 : decode cX3_field 42 = .ok (.iload_n 2, 1) := by decide +kernel
theorem dX3_field_43 : decode cX3_field 43 = .ok (.iaload, 1) := by decide +kernel
theorem dX3_field_44 : decode cX3_field 44 = .ok (.iload_n 3, 1) := by decide +kernel
theorem dX3_field_45 : decode cX3_field 45 = .ok (.isub, 1) := by decide +kernel
theorem dX3_field_46 : decode cX3_field 46 = .ok (.if_icmp .gt 7, 3) := by decide +kernel
theorem dX3_field_49 : decode cX3_field 49 = .ok (.iconst 1, 1) := by decide +kernel
theorem dX3_field_50 : decode cX3_field 50 = .ok (.goto 4, 3) := by decide +kernel
theorem dX3_field_53 : decode cX3_field 53 = .ok (.iconst 0, 1) := by decide +kernel
theorem dX3_field_54 : decode cX3_field 54 = .ok (.invokestatic 73, 3) := by decide +kernel
theorem dX3_field_57 : decode cX3_field 57 = .ok (.iconst 1, 1) := by decide +kernel
theorem dX3_field_58 : decode cX3_field 58 = .ok (.iload 4, 2) := by decide +kernel
theorem dX3_field_60 : decode cX3_field 60 = .ok (.ishl, 1) := by decide +kernel
theorem dX3_field_61 : decode cX3_field 61 = .ok (.iconst 1, 1) := by decide +kernel
theorem dX3_field_62 : decode cX3_field 62 = .ok (.isub, 1) := by decide +kernel
theorem dX3_field_63 : decode cX3_field 63 = .ok (.istore 7, 2) := by decide +kernel
theorem dX3_field_65 : decode cX3_field 65 = .ok (.iload 5, 2) := by decide +kernel
theorem dX3_field_67 : decode cX3_field 67 = .ok (.ifCond .lt 14, 3) := by decide +kernel
theorem dX3_field_70 : decode cX3_field 70 = .ok (.iload 5, 2) := by decide +kernel
theorem dX3_field_72 : decode cX3_field 72 = .ok (.iload 7, 2) := by decide +kernel
theorem dX3_field_74 : decode cX3_field 74 = .ok (.if_icmp .gt 7, 3) := by decide +kernel
theorem dX3_field_77 : decode cX3_field 77 = .ok (.iconst 1, 1) := by decide +kernel
theorem dX3_field_78 : decode cX3_field 78 = .ok (.goto 4, 3) := by decide +kernel
theorem dX3_field_81 : decode cX3_field 81 = .ok (.iconst 0, 1) := by decide +kernel
theorem dX3_field_82 : decode cX3_field 82 = .ok (.invokestatic 73, 3) := by decide +kernel
theorem dX3_field_85 : decode cX3_field 85 = .ok (.aload_n 0, 1) := by decide +kernel
theorem dX3_field_86 : decode cX3_field 86 = .ok (.invokevirtual 115, 3) := by decide +kernel
theorem dX3_field_89 : decode cX3_field 89 = .ok (.iconst 0, 1) := by decide +kernel
theorem dX3_field_90 : decode cX3_field 90 = .ok (.istore 8, 2) := by decide +kernel
theorem dX3_field_92 : decode cX3_field 92 = .ok (.iload 8, 2) := by decide +kernel
theorem dX3_field_94 : decode cX3_field 94 = .ok (.aload_n 0, 1) := by decide +kernel
theorem dX3_field_95 : decode cX3_field 95 = .ok (.getfield 14, 3) := by decide +kernel
theorem dX3_field_98 : decode cX3_field 98 = .ok (.getfield 76, 3) := by decide +kernel
theorem dX3_field_101 : decode cX3_field 101 = .ok (.if_icmp .ge 55, 3) := by decide +kernel
theorem dX3_field_104 : decode cX3_field 104 = .ok (.aload_n 0, 1) := by decide +kernel
theorem dX3_field_105 : decode cX3_field 105 = .ok (.getfield 14, 3) := by decide +kernel
theorem dX3_field_108 : decode cX3_field 108 = .ok (.iload_n 2, 1) := by decide +kernel
theorem dX3_field_109 : decode cX3_field 109 = .ok (.iload 8, 2) := by decide +kernel
theorem dX3_field_111 : decode cX3_field 111 = .ok (.iload 6, 2) := by decide +kernel
theorem dX3_field_113 : decode cX3_field 113 = .ok (.invokevirtual 150, 3) := by decide +kernel
theorem dX3_field_116 : decode cX3_field 116 = .ok (.ifCond .eq 34, 3) := by decide +kernel
theorem dX3_field_119 : decode cX3_field 119 = .ok (.aload_n 0, 1) := by decide +kernel
theorem dX3_field_120 : decode cX3_field 120 = .ok (.getfield 14, 3) := by decide +kernel
theorem dX3_field_123 : decode cX3_field 123 = .ok (.getfield 86, 3) := by decide +kernel
theorem dX3_field_126 : decode cX3_field 126 = .ok (.iload_n 2, 1) := by decide +kernel
theorem dX3_field_127 : decode cX3_field 127 = .ok (.aaload, 1) := by decide +kernel
theorem dX3_field_128 : decode cX3_field 128 = .ok (.iload 8, 2) := by decide +kernel
theorem dX3_field_130 : decode cX3_field 130 = .ok (.laload, 1) := by decide +kernel
theorem dX3_field_131 : decode cX3_field 131 = .ok (.iload_n 3, 1) := by decide +kernel
theorem dX3_field_132 : decode cX3_field 132 = .ok (.lshr, 1) := by decide +kernel
theorem dX3_field_133 : decode cX3_field 133 = .ok (.iload 7, 2) := by decide +kernel
theorem dX3_field_135 : decode cX3_field 135 = .ok (.i2l, 1) := by decide +kernel
theorem dX3_field_136 : decode cX3_field 136 = .ok (.land, 1) := by decide +kernel
theorem dX3_field_137 : decode cX3_field 137 = .ok (.iload 5, 2) := by decide +kernel
theorem dX3_field_139 : decode cX3_field 139 = .ok (.i2l, 1) := by decide +kernel
theorem dX3_field_140 : decode cX3_field 140 = .ok (.lcmp, 1) := by decide +kernel
theorem dX3_field_141 : decode cX3_field 141 = .ok (.ifCond .ne 9, 3) := by decide +kernel
theorem dX3_field_144 : decode cX3_field 144 = .ok (.aload_n 0, 1) := by decide +kernel
theorem dX3_field_145 : decode cX3_field 145 = .ok (.iload 8, 2) := by decide +kernel
theorem dX3_field_147 : decode cX3_field 147 = .ok (.invokevirtual 122, 3) := by decide +kernel
theorem dX3_field_150 : decode cX3_field 150 = .ok (.iinc 8 1, 3) := by decide +kernel
theorem dX3_field_153 : decode cX3_field 153 = .ok (.goto (-61), 3) := by decide +kernel
theorem dX3_field_156 : decode cX3_field 156 = .ok (.aload_n 0, 1) := by decide +kernel
theorem dX3_field_157 : decode cX3_field 157 = .ok (.iload_n 1, 1) := by decide +kernel
theorem dX3_field_158 : decode cX3_field 158 = .ok (.invokevirtual 131, 3) := by decide +kernel
theorem dX3_field_161 : decode cX3_field 161 = .ok (.ireturn, 1) := by decide +kernel
theorem dX3_move_0 : decode cX3_move 0 = .ok (.iload_n 1, 1) := by decide +kernel
theorem dX3_move_1 : decode cX3_move 1 = .ok (.invokestatic 125, 3) := by decide +kernel
theorem dX3_move_4 : decode cX3_move 4 = .ok (.iload_n 2, 1) := by decide +kernel
theorem dX3_move_5 : decode cX3_move 5 = .ok (.invokestatic 125, 3) := by decide +kernel
theorem dX3_move_8 : decode cX3_move 8 = .ok (.iload_n 3, 1) := by decide +kernel
theorem dX3_move_9 : decode cX3_move 9 = .ok (.sipush (-192), 3) := by decide +kernel
theorem dX3_move_12 : decode cX3_move 12 = .ok (.if_icmp .lt 14, 3) := by decide +kernel
theorem dX3_move_15 : decode cX3_move 15 = .ok (.iload_n 3, 1) := by decide +kernel
theorem dX3_move_16 : decode cX3_move 16 = .ok (.sipush 192, 3) := by decide +kernel
theorem dX3_move_19 : decode cX3_move 19 = .ok (.if_icmp .gt 7, 3) := by decide +kernel
theorem dX3_move_22 : decode cX3_move 22 = .ok (.iconst 1, 1) := by decide +kernel
theorem dX3_move_23 : decode cX3_move 23 = .ok (.goto 4, 3) := by decide +kernel
theorem dX3_move_26 : decode cX3_move 26 = .ok (.iconst 0, 1) := by decide +kernel
theorem dX3_move_27 : decode cX3_move 27 = .ok (.invokestatic 73, 3) := by decide +kernel
theorem dX3_move_30 : decode cX3_move 30 = .ok (.aload_n 0, 1) := by decide +kernel
theorem dX3_move_31 : decode cX3_move 31 = .ok (.invokevirtual 115, 3) := by decide +kernel
theorem dX3_move_34 : decode cX3_move 34 = .ok (.iconst 0, 1) := by decide +kernel
theorem dX3_move_35 : decode cX3_move 35 = .ok (.istore 4, 2) := by decide +kernel
theorem dX3_move_37 : decode cX3_move 37 = .ok (.iload 4, 2) := by decide +kernel
theorem dX3_move_39 : decode cX3_move 39 = .ok (.aload_n 0, 1) := by decide +kernel
theorem dX3_move_40 : decode cX3_move 40 = .ok (.getfield 14, 3) := by decide +kernel
theorem dX3_move_43 : decode cX3_move 43 = .ok (.getfield 76, 3) := by decide +kernel
theorem dX3_move_46 : decode cX3_move 46 = .ok (.if_icmp .ge 30, 3) := by decide +kernel
theorem dX3_move_49 : decode cX3_move 49 = .ok (.aload_n 0, 1) := by decide +kernel
theorem dX3_move_50 : decode cX3_move 50 = .ok (.getfield 14, 3) := by decide +kernel
theorem dX3_move_53 : decode cX3_move 53 = .ok (.iload 4, 2) := by decide +kernel
theorem dX3_move_55 : decode cX3_move 55 = .ok (.iload_n 2, 1) := by decide +kernel
theorem dX3_move_56 : decode cX3_move 56 = .ok (.invokevirtual 162, 3) := by decide +kernel
theorem dX3_move_59 : decode cX3_move 59 = .ok (.ifCond .eq 11, 3) := by decide +kernel
theorem dX3_move_62 : decode cX3_move 62 = .ok (.aload_n 0, 1) := by decide +kernel
theorem dX3_move_63 : decode cX3_move 63 = .ok (.iload 4, 2) := by decide +kernel
theorem dX3_move_65 : decode cX3_move 65 = .ok (.iload_n 3, 1) := by decide +kernel
theorem dX3_move_66 : decode cX3_move 66 = .ok (.iadd, 1) := by decide +kernel
theorem dX3_move_67 : decode cX3_move 67 = .ok (.invokevirtual 122, 3) := by decide +kernel
theorem dX3_move_70 : decode cX3_move 70 = .ok (.iinc 4 1, 3) := by decide +kernel
theorem dX3_move_73 : decode cX3_move 73 = .ok (.goto (-36), 3) := by decide +kernel
theorem dX3_move_76 : decode cX3_move 76 = .ok (.aload_n 0, 1) := by decide +kernel
theorem dX3_move_77 : decode cX3_move 77 = .ok (.iload_n 1, 1) := by decide +kernel
theorem dX3_move_78 : decode cX3_move 78 = .ok (.invokevirtual 131, 3) := by decide +kernel
theorem dX3_move_81 : decode cX3_move 81 = .ok (.ireturn, 1) := by decide +kernel
theorem dX3_firsts_0 : decode cX3_firsts 0 = .ok (.iload_n 1, 1) := by decide +kernel
theorem dX3_firsts_1 : decode cX3_firsts 1 = .ok (.invokestatic 125, 3) := by decide +kernel
theorem dX3_firsts_4 : decode cX3_firsts 4 = .ok (.iload_n 2, 1) := by decide +kernel
theorem dX3_firsts_5 : decode cX3_firsts 5 = .ok (.invokestatic 125, 3) := by decide +kernel
theorem dX3_firsts_8 : decode cX3_firsts 8 = .ok (.aload_n 0, 1) := by decide +kernel
theorem dX3_firsts_9 : decode cX3_firsts 9 = .ok (.invokevirtual 115, 3) := by decide +kernel
theorem dX3_firsts_12 : decode cX3_firsts 12 = .ok (.iconst 0, 1) := by decide +kernel
theorem dX3_firsts_13 : decode cX3_firsts 13 = .ok (.istore_n 3, 1) := by decide +kernel
theorem dX3_firsts_14 : decode cX3_firsts 14 = .ok (.iload_n 3, 1) := by decide +kernel
theorem dX3_firsts_15 : decode cX3_firsts 15 = .ok (.aload_n 0, 1) := by decide +kernel
theorem dX3_firsts_16 : decode cX3_firsts 16 = .ok (.getfield 14, 3) := by decide +kernel
theorem dX3_firsts_19 : decode cX3_firsts 19 = .ok (.getfield 76, 3) := by decide +kernel
theorem dX3_firsts_22 : decode cX3_firsts 22 = .ok (.if_icmp .ge 34, 3) := by decide +kernel
theorem dX3_firsts_25 : decode cX3_firsts 25 = .ok (.aload_n 0, 1) := by decide +kernel
theorem dX3_firsts_26 : decode cX3_firsts 26 = .ok (.getfield 14, 3) := by decide +kernel
theorem dX3_firsts_29 : decode cX3_firsts 29 = .ok (.iload_n 3, 1) := by decide +kernel
theorem dX3_firsts_30 : decode cX3_firsts 30 = .ok (.iload_n 2, 1) := by decide +kernel
theorem dX3_firsts_31 : decode cX3_firsts 31 = .ok (.invokevirtual 162, 3) := by decide +kernel
theorem dX3_firsts_34 : decode cX3_firsts 34 = .ok (.ifCond .eq 16, 3) := by decide +kernel
theorem dX3_firsts_37 : decode cX3_firsts 37 = .ok (.aload_n 0, 1) := by decide +kernel
theorem dX3_firsts_38 : decode cX3_firsts 38 = .ok (.iload_n 3, 1) := by decide +kernel
theorem dX3_firsts_39 : decode cX3_firsts 39 = .ok (.invokevirtual 179, 3) := by decide +kernel
theorem dX3_firsts_42 : decode cX3_firsts 42 = .ok (.ifCond .ne 8, 3) := by decide +kernel
theorem dX3_firsts_45 : decode cX3_firsts 45 = .ok (.aload_n 0, 1) := by decide +kernel
theorem dX3_firsts_46 : decode cX3_firsts 46 = .ok (.iload_n 3, 1) := by decide +kernel
theorem dX3_firsts_47 : decode cX3_firsts 47 = .ok (.invokevirtual 122, 3) := by decide +kernel
theorem dX3_firsts_50 : decode cX3_firsts 50 = .ok (.iinc 3 1, 3) := by decide +kernel
theorem dX3_firsts_53 : decode cX3_firsts 53 = .ok (.goto (-39), 3) := by decide +kernel
theorem dX3_firsts_56 : decode cX3_firsts 56 = .ok (.aload_n 0, 1) := by decide +kernel
theorem dX3_firsts_57 : decode cX3_firsts 57 = .ok (.iload_n 1, 1) := by decide +kernel
theorem dX3_firsts_58 : decode cX3_firsts 58 = .ok (.invokevirtual 131, 3) := by decide +kernel
theorem dX3_firsts_61 : decode cX3_firsts 61 = .ok (.ireturn, 1) := by decide +kernel
theorem dX3_runs_0 : decode cX3_runs 0 = .ok (.iload_n 1, 1) := by decide +kernel
theorem dX3_runs_1 : decode cX3_runs 1 = .ok (.invokestatic 125, 3) := by decide +kernel
theorem dX3_runs_4 : decode cX3_runs 4 = .ok (.iload_n 2, 1) := by decide +kernel
theorem dX3_runs_5 : decode cX3_runs 5 = .ok (.ifCond .lt 12, 3) := by decide +kernel
theorem dX3_runs_8 : decode cX3_runs 8 = .ok (.iload_n 2, 1) := by decide +kernel
theorem dX3_runs_9 : decode cX3_runs 9 = .ok (.iconst 2, 1) := by decide +kernel
theorem dX3_runs_10 : decode cX3_runs 10 = .ok (.if_icmp .gt 7, 3) := by decide +kernel
theorem dX3_runs_13 : decode cX3_runs 13 = .ok (.iconst 1, 1) := by decide +kernel
theorem dX3_runs_14 : decode cX3_runs 14 = .ok (.goto 4, 3) := by decide +kernel
theorem dX3_runs_17 : decode cX3_runs 17 = .ok (.iconst 0, 1) := by decide +kernel
theorem dX3_runs_18 : decode cX3_runs 18 = .ok (.invokestatic 73, 3) := by decide +kernel
theorem dX3_runs_21 : decode cX3_runs 21 = .ok (.iconst 0, 1) := by decide +kernel
theorem dX3_runs_22 : decode cX3_runs 22 = .ok (.istore_n 3, 1) := by decide +kernel
theorem dX3_runs_23 : decode cX3_runs 23 = .ok (.iconst 0, 1) := by decide +kernel
theorem dX3_runs_24 : decode cX3_runs 24 = .ok (.istore 4, 2) := by decide +kernel
theorem dX3_runs_26 : decode cX3_runs 26 = .ok (.iconst (-1), 1) := by decide +kernel
theorem dX3_runs_27 : decode cX3_runs 27 = .ok (.istore 5, 2) := by decide +kernel
theorem dX3_runs_29 : decode cX3_runs 29 = .ok (.iconst 0, 1) := by decide +kernel
theorem dX3_runs_30 : decode cX3_runs 30 = .ok (.istore 6, 2) := by decide +kernel
theorem dX3_runs_32 : decode cX3_runs 32 = .ok (.iconst 0, 1) := by decide +kernel
theorem dX3_runs_33 : decode cX3_runs 33 = .ok (.istore 7, 2) := by decide +kernel
theorem dX3_runs_35 : decode cX3_runs 35 = .ok (.iload 7, 2) := by decide +kernel
theorem dX3_runs_37 : decode cX3_runs 37 = .ok (.aload_n 0, 1) := by decide +kernel
theorem dX3_runs_38 : decode cX3_runs 38 = .ok (.getfield 14, 3) := by decide +kernel
theorem dX3_runs_41 : decode cX3_runs 41 = .ok (.getfield 76, 3) := by decide +kernel
theorem dX3_runs_44 : decode cX3_runs 44 = .ok (.if_icmp .ge 61, 3) := by decide +kernel
theorem dX3_runs_47 : decode cX3_runs 47 = .ok (.aload_n 0, 1) := by decide +kernel
theorem dX3_runs_48 : decode cX3_runs 48 = .ok (.getfield 14, 3) := by decide +kernel
theorem dX3_runs_51 : decode cX3_runs 51 = .ok (.iload 7, 2) := by decide +kernel
theorem dX3_runs_53 : decode cX3_runs 53 = .ok (.iload_n 1, 1) := by decide +kernel
theorem dX3_runs_54 : decode cX3_runs 54 = .ok (.invokevirtual 162, 3) := by decide +kernel
theorem dX3_runs_57 : decode cX3_runs 57 = .ok (.ifCond .eq 10, 3) := by decide +kernel
theorem dX3_runs_60 : decode cX3_runs 60 = .ok (.iload 6, 2) := by decide +kernel
theorem dX3_runs_62 : decode cX3_runs 62 = .ok (.iconst 1, 1) := by decide +kernel
theorem dX3_runs_63 : decode cX3_runs 63 = .ok (.iadd, 1) := by decide +kernel
theorem dX3_runs_64 : decode cX3_runs 64 = .ok (.goto 4, 3) := by decide +kernel
theorem dX3_runs_67 : decode cX3_runs 67 = .ok (.iconst 0, 1) := by decide +kernel
theorem dX3_runs_68 : decode cX3_runs 68 = .ok (.istore 6, 2) := by decide +kernel
theorem dX3_runs_70 : decode cX3_runs 70 = .ok (.iload 6, 2) := by decide +kernel
theorem dX3_runs_72 : decode cX3_runs 72 = .ok (.iconst 1, 1) := by decide +kernel
theorem dX3_runs_73 : decode cX3_runs 73 = .ok (.if_icmp .ne 6, 3) := by decide +kernel
theorem dX3_runs_76 : decode cX3_runs 76 = .ok (.iinc 3 1, 3) := by decide +kernel
theorem dX3_runs_79 : decode cX3_runs 79 = .ok (.iload 6, 2) := by decide +kernel
theorem dX3_runs_81 : decode cX3_runs 81 = .ok (.iload 4, 2) := by decide +kernel
theorem dX3_runs_83 : decode cX3_runs 83 = .ok (.if_icmp .le 16, 3) := by decide +kernel
theorem dX3_runs_86 : decode cX3_runs 86 = .ok (.iload 6, 2) := by decide +kernel
theorem dX3_runs_88 : decode cX3_runs 88 = .ok (.istore 4, 2) := by decide +kernel
theorem dX3_runs_90 : decode cX3_runs 90 = .ok (.iload 7, 2) := by decide +kernel
theorem dX3_runs_92 : decode cX3_runs 92 = .ok (.iload 6, 2) := by decide +kernel
theorem dX3_runs_94 : decode cX3_runs 94 = .ok (.isub, 1) := by decide +kernel
theorem dX3_runs_95 : decode cX3_runs 95 = .ok (.iconst 1, 1) := by decide +kernel
theorem dX3_runs_96 : decode cX3_runs 96 = .ok (.iadd, 1) := by decide +kernel
theorem dX3_runs_97 : decode cX3_runs 97 = .ok (.istore 5, 2) := by decide +kernel
theorem dX3_runs_99 : decode cX3_runs 99 = .ok (.iinc 7 1, 3) := by decide +kernel
theorem dX3_runs_102 : decode cX3_runs 102 = .ok (.goto (-67), 3) := by decide +kernel
theorem dX3_runs_105 : decode cX3_runs 105 = .ok (.iload_n 2, 1) := by decide +kernel
theorem dX3_runs_106 : decode cX3_runs 106 = .ok (.ifCond .ne 5, 3) := by decide +kernel
theorem dX3_runs_109 : decode cX3_runs 109 = .ok (.iload_n 3, 1) := by decide +kernel
theorem dX3_runs_110 : decode cX3_runs 110 = .ok (.ireturn, 1) := by decide +kernel
theorem dX3_runs_111 : decode cX3_runs 111 = .ok (.iload_n 2, 1) := by decide +kernel
theorem dX3_runs_112 : decode cX3_runs 112 = .ok (.iconst 1, 1) := by decide +kernel
theorem dX3_runs_113 : decode cX3_runs 113 = .ok (.if_icmp .ne 8, 3) := by decide +kernel
theorem dX3_runs_116 : decode cX3_runs 116 = .ok (.iload 4, 2) := by decide +kernel
theorem dX3_runs_118 : decode cX3_runs 118 = .ok (.goto 5, 3) := by decide +kernel
theorem dX3_runs_121 : decode cX3_runs 121 = .ok (.iload 5, 2) := by decide +kernel
theorem dX3_runs_123 : decode cX3_runs 123 = .ok (.ireturn, 1) := by decide +kernel
theorem dX3_alike_0 : decode cX3_alike 0 = .ok (.aload_n 0, 1) := by decide +kernel
theorem dX3_alike_1 : decode cX3_alike 1 = .ok (.iload_n 1, 1) := by decide +kernel
theorem dX3_alike_2 : decode cX3_alike 2 = .ok (.invokevirtual 79, 3) := by decide +kernel
theorem dX3_alike_5 : decode cX3_alike 5 = .ok (.aload_n 0, 1) := by decide +kernel
theorem dX3_alike_6 : decode cX3_alike 6 = .ok (.iload_n 2, 1) := by decide +kernel
theorem dX3_alike_7 : decode cX3_alike 7 = .ok (.invokevirtual 79, 3) := by decide +kernel
theorem dX3_alike_10 : decode cX3_alike 10 = .ok (.aload_n 0, 1) := by decide +kernel
theorem dX3_alike_11 : decode cX3_alike 11 = .ok (.getfield 14, 3) := by decide +kernel
theorem dX3_alike_14 : decode cX3_alike 14 = .ok (.iload_n 1, 1) := by decide +kernel
theorem dX3_alike_15 : decode cX3_alike 15 = .ok (.iload_n 2, 1) := by decide +kernel
theorem dX3_alike_16 : decode cX3_alike 16 = .ok (.invokevirtual 183, 3) := by decide +kernel
theorem dX3_alike_19 : decode cX3_alike 19 = .ok (.ifCond .eq 7, 3) := by decide +kernel
theorem dX3_alike_22 : decode cX3_alike 22 = .ok (.iconst 1, 1) := by decide +kernel
theorem dX3_alike_23 : decode cX3_alike 23 = .ok (.goto 4, 3) := by decide +kernel
theorem dX3_alike_26 : decode cX3_alike 26 = .ok (.iconst 0, 1) := by decide +kernel
theorem dX3_alike_27 : decode cX3_alike 27 = .ok (.ireturn, 1) := by decide +kernel
theorem dX3_row_0 : decode cX3_row 0 = .ok (.iload_n 1, 1) := by decide +kernel
theorem dX3_row_1 : decode cX3_row 1 = .ok (.invokestatic 125, 3) := by decide +kernel
theorem dX3_row_4 : decode cX3_row 4 = .ok (.iload_n 2, 1) := by decide +kernel
theorem dX3_row_5 : decode cX3_row 5 = .ok (.iconst (-1), 1) := by decide +kernel
theorem dX3_row_6 : decode cX3_row 6 = .ok (.if_icmp .ne 12, 3) := by decide +kernel
theorem dX3_row_9 : decode cX3_row 9 = .ok (.aload_n 0, 1) := by decide +kernel
theorem dX3_row_10 : decode cX3_row 10 = .ok (.getfield 14, 3) := by decide +kernel
theorem dX3_row_13 : decode cX3_row 13 = .ok (.iload_n 1, 1) := by decide +kernel
theorem dX3_row_14 : decode cX3_row 14 = .ok (.invokevirtual 141, 3) := by decide +kernel
theorem dX3_row_17 : decode cX3_row 17 = .ok (.ireturn, 1) := by decide +kernel
theorem dX3_row_18 : decode cX3_row 18 = .ok (.iconst 0, 1) := by decide +kernel
theorem dX3_row_19 : decode cX3_row 19 = .ok (.istore_n 3, 1) := by decide +kernel
theorem dX3_row_20 : decode cX3_row 20 = .ok (.iconst 0, 1) := by decide +kernel
theorem dX3_row_21 : decode cX3_row 21 = .ok (.istore 4, 2) := by decide +kernel
theorem dX3_row_23 : decode cX3_row 23 = .ok (.iload 4, 2) := by decide +kernel
theorem dX3_row_25 : decode cX3_row 25 = .ok (.aload_n 0, 1) := by decide +kernel
theorem dX3_row_26 : decode cX3_row 26 = .ok (.getfield 14, 3) := by decide +kernel
theorem dX3_row_29 : decode cX3_row 29 = .ok (.getfield 76, 3) := by decide +kernel
theorem dX3_row_32 : decode cX3_row 32 = .ok (.if_icmp .ge 33, 3) := by decide +kernel
theorem dX3_row_35 : decode cX3_row 35 = .ok (.aload_n 0, 1) := by decide +kernel
theorem dX3_row_36 : decode cX3_row 36 = .ok (.getfield 14, 3) := by decide +kernel
theorem dX3_row_39 : decode cX3_row 39 = .ok (.iload 4, 2) := by decide +kernel
theorem dX3_row_41 : decode cX3_row 41 = .ok (.iload_n 1, 1) := by decide +kernel
theorem dX3_row_42 : decode cX3_row 42 = .ok (.invokevirtual 162, 3) := by decide +kernel
theorem dX3_row_45 : decode cX3_row 45 = .ok (.ifCond .eq 14, 3) := by decide +kernel
theorem dX3_row_48 : decode cX3_row 48 = .ok (.iload_n 3, 1) := by decide +kernel
theorem dX3_row_49 : decode cX3_row 49 = .ok (.iload_n 2, 1) := by decide +kernel
theorem dX3_row_50 : decode cX3_row 50 = .ok (.if_icmp .ne 6, 3) := by decide +kernel
theorem dX3_row_53 : decode cX3_row 53 = .ok (.iload 4, 2) := by decide +kernel
theorem dX3_row_55 : decode cX3_row 55 = .ok (.ireturn, 1) := by decide +kernel
theorem dX3_row_56 : decode cX3_row 56 = .ok (.iinc 3 1, 3) := by decide +kernel
theorem dX3_row_59 : decode cX3_row 59 = .ok (.iinc 4 1, 3) := by decide +kernel
theorem dX3_row_62 : decode cX3_row 62 = .ok (.goto (-39), 3) := by decide +kernel
theorem dX3_row_65 : decode cX3_row 65 = .ok (.iconst (-1), 1) := by decide +kernel
theorem dX3_row_66 : decode cX3_row 66 = .ok (.ireturn, 1) := by decide +kernel
theorem dX3_word_0 : decode cX3_word 0 = .ok (.iload_n 1, 1) := by decide +kernel
theorem dX3_word_1 : decode cX3_word 1 = .ok (.invokestatic 125, 3) := by decide +kernel
theorem dX3_word_4 : decode cX3_word 4 = .ok (.iload_n 2, 1) := by decide +kernel
theorem dX3_word_5 : decode cX3_word 5 = .ok (.invokestatic 112, 3) := by decide +kernel
theorem dX3_word_8 : decode cX3_word 8 = .ok (.aload_n 0, 1) := by decide +kernel
theorem dX3_word_9 : decode cX3_word 9 = .ok (.getfield 14, 3) := by decide +kernel
theorem dX3_word_12 : decode cX3_word 12 = .ok (.getfield 134, 3) := by decide +kernel
theorem dX3_word_15 : decode cX3_word 15 = .ok (.iload_n 1, 1) := by decide +kernel
theorem dX3_word_16 : decode cX3_word 16 = .ok (.aaload, 1) := by decide +kernel
theorem dX3_word_17 : decode cX3_word 17 = .ok (.iload_n 2, 1) := by decide +kernel
theorem dX3_word_18 : decode cX3_word 18 = .ok (.laload, 1) := by decide +kernel
theorem dX3_word_19 : decode cX3_word 19 = .ok (.lreturn, 1) := by decide +kernel
theorem dX3_count_0 : decode cX3_count 0 = .ok (.aload_n 0, 1) := by decide +kernel
theorem dX3_count_1 : decode cX3_count 1 = .ok (.iload_n 1, 1) := by decide +kernel
theorem dX3_count_2 : decode cX3_count 2 = .ok (.invokevirtual 66, 3) := by decide +kernel
theorem dX3_count_5 : decode cX3_count 5 = .ok (.iload_n 2, 1) := by decide +kernel
theorem dX3_count_6 : decode cX3_count 6 = .ok (.invokestatic 125, 3) := by decide +kernel
theorem dX3_count_9 : decode cX3_count 9 = .ok (.aload_n 0, 1) := by decide +kernel
theorem dX3_count_10 : decode cX3_count 10 = .ok (.iload_n 1, 1) := by decide +kernel
theorem dX3_count_11 : decode cX3_count 11 = .ok (.iload_n 2, 1) := by decide +kernel
theorem dX3_count_12 : decode cX3_count 12 = .ok (.invokevirtual 166, 3) := by decide +kernel
theorem dX3_count_15 : decode cX3_count 15 = .ok (.aload_n 0, 1) := by decide +kernel
theorem dX3_count_16 : decode cX3_count 16 = .ok (.getfield 25, 3) := by decide +kernel
theorem dX3_count_19 : decode cX3_count 19 = .ok (.getfield 173, 3) := by decide +kernel
theorem dX3_count_22 : decode cX3_count 22 = .ok (.ireturn, 1) := by decide +kernel
theorem dX3_sum_0 : decode cX3_sum 0 = .ok (.aload_n 0, 1) := by decide +kernel
theorem dX3_sum_1 : decode cX3_sum 1 = .ok (.iload_n 1, 1) := by decide +kernel
theorem dX3_sum_2 : decode cX3_sum 2 = .ok (.invokevirtual 66, 3) := by decide +kernel
theorem dX3_sum_5 : decode cX3_sum 5 = .ok (.iload_n 2, 1) := by decide +kernel
theorem dX3_sum_6 : decode cX3_sum 6 = .ok (.invokestatic 125, 3) := by decide +kernel
theorem dX3_sum_9 : decode cX3_sum 9 = .ok (.aload_n 0, 1) := by decide +kernel
theorem dX3_sum_10 : decode cX3_sum 10 = .ok (.iload_n 1, 1) := by decide +kernel
theorem dX3_sum_11 : decode cX3_sum 11 = .ok (.iload_n 2, 1) := by decide +kernel
theorem dX3_sum_12 : decode cX3_sum 12 = .ok (.aload_n 0, 1) := by decide +kernel
theorem dX3_sum_13 : decode cX3_sum 13 = .ok (.getfield 14, 3) := by decide +kernel
theorem dX3_sum_16 : decode cX3_sum 16 = .ok (.getfield 76, 3) := by decide +kernel
theorem dX3_sum_19 : decode cX3_sum 19 = .ok (.invokevirtual 186, 3) := by decide +kernel
theorem dX3_sum_22 : decode cX3_sum 22 = .ok (.lreturn, 1) := by decide +kernel
theorem dX3_mean_0 : decode cX3_mean 0 = .ok (.aload_n 0, 1) := by decide +kernel
theorem dX3_mean_1 : decode cX3_mean 1 = .ok (.iload_n 1, 1) := by decide +kernel
theorem dX3_mean_2 : decode cX3_mean 2 = .ok (.invokevirtual 66, 3) := by decide +kernel
theorem dX3_mean_5 : decode cX3_mean 5 = .ok (.iload_n 2, 1) := by decide +kernel
theorem dX3_mean_6 : decode cX3_mean 6 = .ok (.invokestatic 125, 3) := by decide +kernel
theorem dX3_mean_9 : decode cX3_mean 9 = .ok (.iload_n 3, 1) := by decide +kernel
theorem dX3_mean_10 : decode cX3_mean 10 = .ok (.ifCond .eq 8, 3) := by decide +kernel
theorem dX3_mean_13 : decode cX3_mean 13 = .ok (.iload_n 3, 1) := by decide +kernel
theorem dX3_mean_14 : decode cX3_mean 14 = .ok (.iconst 1, 1) := by decide +kernel
theorem dX3_mean_15 : decode cX3_mean 15 = .ok (.if_icmp .ne 7, 3) := by decide +kernel
theorem dX3_mean_18 : decode cX3_mean 18 = .ok (.iconst 1, 1) := by decide +kernel
theorem dX3_mean_19 : decode cX3_mean 19 = .ok (.goto 4, 3) := by decide +kernel
theorem dX3_mean_22 : decode cX3_mean 22 = .ok (.iconst 0, 1) := by decide +kernel
theorem dX3_mean_23 : decode cX3_mean 23 = .ok (.invokestatic 73, 3) := by decide +kernel
theorem dX3_mean_26 : decode cX3_mean 26 = .ok (.aload_n 0, 1) := by decide +kernel
theorem dX3_mean_27 : decode cX3_mean 27 = .ok (.iload_n 1, 1) := by decide +kernel
theorem dX3_mean_28 : decode cX3_mean 28 = .ok (.iload_n 2, 1) := by decide +kernel
theorem dX3_mean_29 : decode cX3_mean 29 = .ok (.invokevirtual 166, 3) := by decide +kernel
theorem dX3_mean_32 : decode cX3_mean 32 = .ok (.aload_n 0, 1) := by decide +kernel
theorem dX3_mean_33 : decode cX3_mean 33 = .ok (.getfield 25, 3) := by decide +kernel
theorem dX3_mean_36 : decode cX3_mean 36 = .ok (.getfield 173, 3) := by decide +kernel
theorem dX3_mean_39 : decode cX3_mean 39 = .ok (.istore 4, 2) := by decide +kernel
theorem dX3_mean_41 : decode cX3_mean 41 = .ok (.iload 4, 2) := by decide +kernel
theorem dX3_mean_43 : decode cX3_mean 43 = .ok (.ifCond .le 7, 3) := by decide +kernel
theorem dX3_mean_46 : decode cX3_mean 46 = .ok (.iconst 1, 1) := by decide +kernel
theorem dX3_mean_47 : decode cX3_mean 47 = .ok (.goto 4, 3) := by decide +kernel
theorem dX3_mean_50 : decode cX3_mean 50 = .ok (.iconst 0, 1) := by decide +kernel
theorem dX3_mean_51 : decode cX3_mean 51 = .ok (.invokestatic 54, 3) := by decide +kernel
theorem dX3_mean_54 : decode cX3_mean 54 = .ok (.lconst 0, 1) := by decide +kernel
theorem dX3_mean_55 : decode cX3_mean 55 = .ok (.lstore 5, 2) := by decide +kernel
theorem dX3_mean_57 : decode cX3_mean 57 = .ok (.lconst 0, 1) := by decide +kernel
theorem dX3_mean_58 : decode cX3_mean 58 = .ok (.lstore 7, 2) := by decide +kernel
theorem dX3_mean_60 : decode cX3_mean 60 = .ok (.iconst 0, 1) := by decide +kernel
theorem dX3_mean_61 : decode cX3_mean 61 = .ok (.istore 9, 2) := by decide +kernel
theorem dX3_mean_63 : decode cX3_mean 63 = .ok (.iload 9, 2) := by decide +kernel
theorem dX3_mean_65 : decode cX3_mean 65 = .ok (.iload 4, 2) := by decide +kernel
theorem dX3_mean_67 : decode cX3_mean 67 = .ok (.if_icmp .ge 51, 3) := by decide +kernel
theorem dX3_mean_70 : decode cX3_mean 70 = .ok (.lload 5, 2) := by decide +kernel
theorem dX3_mean_72 : decode cX3_mean 72 = .ok (.aload_n 0, 1) := by decide +kernel
theorem dX3_mean_73 : decode cX3_mean 73 = .ok (.getfield 25, 3) := by decide +kernel
theorem dX3_mean_76 : decode cX3_mean 76 = .ok (.getfield 190, 3) := by decide +kernel
theorem dX3_mean_79 : decode cX3_mean 79 = .ok (.iload 9, 2) := by decide +kernel
theorem dX3_mean_81 : decode cX3_mean 81 = .ok (.laload, 1) := by decide +kernel
theorem dX3_mean_82 : decode cX3_mean 82 = .ok (.iload 4, 2) := by decide +kernel
theorem dX3_mean_84 : decode cX3_mean 84 = .ok (.i2l, 1) := by decide +kernel
theorem dX3_mean_85 : decode cX3_mean 85 = .ok (.invokestatic 193, 3) := by decide +kernel
theorem dX3_mean_88 : decode cX3_mean 88 = .ok (.ladd, 1) := by decide +kernel
theorem dX3_mean_89 : decode cX3_mean 89 = .ok (.lstore 5, 2) := by decide +kernel
theorem dX3_mean_91 : decode cX3_mean 91 = .ok (.lload 7, 2) := by decide +kernel
theorem dX3_mean_93 : decode cX3_mean 93 = .ok (.aload_n 0, 1) := by decide +kernel
theorem dX3_mean_94 : decode cX3_mean 94 = .ok (.getfield 25, 3) := by decide +kernel
theorem dX3_mean_97 : decode cX3_mean 97 = .ok (.getfield 190, 3) := by decide +kernel
theorem dX3_mean_100 : decode cX3_mean 100 = .ok (.iload 9, 2) := by decide +kernel
theorem dX3_mean_102 : decode cX3_mean 102 = .ok (.laload, 1) := by decide +kernel
theorem dX3_mean_103 : decode cX3_mean 103 = .ok (.iload 4, 2) := by decide +kernel
theorem dX3_mean_105 : decode cX3_mean 105 = .ok (.i2l, 1) := by decide +kernel
theorem dX3_mean_106 : decode cX3_mean 106 = .ok (.invokestatic 199, 3) := by decide +kernel
theorem dX3_mean_109 : decode cX3_mean 109 = .ok (.ladd, 1) := by decide +kernel
theorem dX3_mean_110 : decode cX3_mean 110 = .ok (.lstore 7, 2) := by decide +kernel
theorem dX3_mean_112 : decode cX3_mean 112 = .ok (.iinc 9 1, 3) := by decide +kernel
theorem dX3_mean_115 : decode cX3_mean 115 = .ok (.goto (-52), 3) := by decide +kernel
theorem dX3_mean_118 : decode cX3_mean 118 = .ok (.iload_n 3, 1) := by decide +kernel
theorem dX3_mean_119 : decode cX3_mean 119 = .ok (.ifCond .ne 15, 3) := by decide +kernel
theorem dX3_mean_122 : decode cX3_mean 122 = .ok (.lload 5, 2) := by decide +kernel
theorem dX3_mean_124 : decode cX3_mean 124 = .ok (.lload 7, 2) := by decide +kernel
theorem dX3_mean_126 : decode cX3_mean 126 = .ok (.iload 4, 2) := by decide +kernel
theorem dX3_mean_128 : decode cX3_mean 128 = .ok (.i2l, 1) := by decide +kernel
theorem dX3_mean_129 : decode cX3_mean 129 = .ok (.ldiv, 1) := by decide +kernel
theorem dX3_mean_130 : decode cX3_mean 130 = .ok (.ladd, 1) := by decide +kernel
theorem dX3_mean_131 : decode cX3_mean 131 = .ok (.goto 9, 3) := by decide +kernel
theorem dX3_mean_134 : decode cX3_mean 134 = .ok (.lload 7, 2) := by decide +kernel
theorem dX3_mean_136 : decode cX3_mean 136 = .ok (.iload 4, 2) := by decide +kernel
theorem dX3_mean_138 : decode cX3_mean 138 = .ok (.i2l, 1) := by decide +kernel
theorem dX3_mean_139 : decode cX3_mean 139 = .ok (.lrem, 1) := by decide +kernel
theorem dX3_mean_140 : decode cX3_mean 140 = .ok (.lreturn, 1) := by decide +kernel
theorem dX3_kth_0 : decode cX3_kth 0 = .ok (.aload_n 0, 1) := by decide +kernel
theorem dX3_kth_1 : decode cX3_kth 1 = .ok (.iload_n 1, 1) := by decide +kernel
theorem dX3_kth_2 : decode cX3_kth 2 = .ok (.invokevirtual 66, 3) := by decide +kernel
theorem dX3_kth_5 : decode cX3_kth 5 = .ok (.iload_n 2, 1) := by decide +kernel
theorem dX3_kth_6 : decode cX3_kth 6 = .ok (.invokestatic 125, 3) := by decide +kernel
theorem dX3_kth_9 : decode cX3_kth 9 = .ok (.aload_n 0, 1) := by decide +kernel
theorem dX3_kth_10 : decode cX3_kth 10 = .ok (.iload_n 1, 1) := by decide +kernel
theorem dX3_kth_11 : decode cX3_kth 11 = .ok (.iload_n 2, 1) := by decide +kernel
theorem dX3_kth_12 : decode cX3_kth 12 = .ok (.invokevirtual 166, 3) := by decide +kernel
theorem dX3_kth_15 : decode cX3_kth 15 = .ok (.aload_n 0, 1) := by decide +kernel
theorem dX3_kth_16 : decode cX3_kth 16 = .ok (.getfield 25, 3) := by decide +kernel
theorem dX3_kth_19 : decode cX3_kth 19 = .ok (.iconst 0, 1) := by decide +kernel
theorem dX3_kth_20 : decode cX3_kth 20 = .ok (.invokevirtual 169, 3) := by decide +kernel
theorem dX3_kth_23 : decode cX3_kth 23 = .ok (.pop, 1) := by decide +kernel
theorem dX3_kth_24 : decode cX3_kth 24 = .ok (.aload_n 0, 1) := by decide +kernel
theorem dX3_kth_25 : decode cX3_kth 25 = .ok (.getfield 25, 3) := by decide +kernel
theorem dX3_kth_28 : decode cX3_kth 28 = .ok (.iload_n 3, 1) := by decide +kernel
theorem dX3_kth_29 : decode cX3_kth 29 = .ok (.ifCond .ge 15, 3) := by decide +kernel
theorem dX3_kth_32 : decode cX3_kth 32 = .ok (.aload_n 0, 1) := by decide +kernel
theorem dX3_kth_33 : decode cX3_kth 33 = .ok (.getfield 25, 3) := by decide +kernel
theorem dX3_kth_36 : decode cX3_kth 36 = .ok (.getfield 173, 3) := by decide +kernel
theorem dX3_kth_39 : decode cX3_kth 39 = .ok (.iload_n 3, 1) := by decide +kernel
theorem dX3_kth_40 : decode cX3_kth 40 = .ok (.iadd, 1) := by decide +kernel
theorem dX3_kth_41 : decode cX3_kth 41 = .ok (.goto 4, 3) := by decide +kernel
theorem dX3_kth_44 : decode cX3_kth 44 = .ok (.iload_n 3, 1) := by decide +kernel
theorem dX3_kth_45 : decode cX3_kth 45 = .ok (.invokevirtual 202, 3) := by decide +kernel
theorem dX3_kth_48 : decode cX3_kth 48 = .ok (.lreturn, 1) := by decide +kernel
theorem dX3_share_0 : decode cX3_share 0 = .ok (.aload_n 0, 1) := by decide +kernel
theorem dX3_share_1 : decode cX3_share 1 = .ok (.iload_n 1, 1) := by decide +kernel
theorem dX3_share_2 : decode cX3_share 2 = .ok (.invokevirtual 66, 3) := by decide +kernel
theorem dX3_share_5 : decode cX3_share 5 = .ok (.iload_n 2, 1) := by decide +kernel
theorem dX3_share_6 : decode cX3_share 6 = .ok (.invokestatic 125, 3) := by decide +kernel
theorem dX3_share_9 : decode cX3_share 9 = .ok (.iload 4, 2) := by decide +kernel
theorem dX3_share_11 : decode cX3_share 11 = .ok (.iconst 1, 1) := by decide +kernel
theorem dX3_share_12 : decode cX3_share 12 = .ok (.if_icmp .lt 15, 3) := by decide +kernel
theorem dX3_share_15 : decode cX3_share 15 = .ok (.iload 4, 2) := by decide +kernel
theorem dX3_share_17 : decode cX3_share 17 = .ok (.sipush 1000, 3) := by decide +kernel
theorem dX3_share_20 : decode cX3_share 20 = .ok (.if_icmp .gt 7, 3) := by decide +kernel
theorem dX3_share_23 : decode cX3_share 23 = .ok (.iconst 1, 1) := by decide +kernel
theorem dX3_share_24 : decode cX3_share 24 = .ok (.goto 4, 3) := by decide +kernel
theorem dX3_share_27 : decode cX3_share 27 = .ok (.iconst 0, 1) := by decide +kernel
theorem dX3_share_28 : decode cX3_share 28 = .ok (.invokestatic 73, 3) := by decide +kernel
theorem dX3_share_31 : decode cX3_share 31 = .ok (.iload_n 3, 1) := by decide +kernel
theorem dX3_share_32 : decode cX3_share 32 = .ok (.ifCond .lt 13, 3) := by decide +kernel
theorem dX3_share_35 : decode cX3_share 35 = .ok (.iload_n 3, 1) := by decide +kernel
theorem dX3_share_36 : decode cX3_share 36 = .ok (.iload 4, 2) := by decide +kernel
theorem dX3_share_38 : decode cX3_share 38 = .ok (.if_icmp .gt 7, 3) := by decide +kernel
theorem dX3_share_41 : decode cX3_share 41 = .ok (.iconst 1, 1) := by decide +kernel
theorem dX3_share_42 : decode cX3_share 42 = .ok (.goto 4, 3) := by decide +kernel
theorem dX3_share_45 : decode cX3_share 45 = .ok (.iconst 0, 1) := by decide +kernel
theorem dX3_share_46 : decode cX3_share 46 = .ok (.invokestatic 73, 3) := by decide +kernel
theorem dX3_share_49 : decode cX3_share 49 = .ok (.aload_n 0, 1) := by decide +kernel
theorem dX3_share_50 : decode cX3_share 50 = .ok (.iload_n 1, 1) := by decide +kernel
theorem dX3_share_51 : decode cX3_share 51 = .ok (.iload_n 2, 1) := by decide +kernel
theorem dX3_share_52 : decode cX3_share 52 = .ok (.invokevirtual 166, 3) := by decide +kernel
theorem dX3_share_55 : decode cX3_share 55 = .ok (.aload_n 0, 1) := by decide +kernel
theorem dX3_share_56 : decode cX3_share 56 = .ok (.getfield 25, 3) := by decide +kernel
theorem dX3_share_59 : decode cX3_share 59 = .ok (.iconst 0, 1) := by decide +kernel
theorem dX3_share_60 : decode cX3_share 60 = .ok (.invokevirtual 169, 3) := by decide +kernel
theorem dX3_share_63 : decode cX3_share 63 = .ok (.pop, 1) := by decide +kernel
theorem dX3_share_64 : decode cX3_share 64 = .ok (.iload_n 3, 1) := by decide +kernel
theorem dX3_share_65 : decode cX3_share 65 = .ok (.aload_n 0, 1) := by decide +kernel
theorem dX3_share_66 : decode cX3_share 66 = .ok (.getfield 25, 3) := by decide +kernel
theorem dX3_share_69 : decode cX3_share 69 = .ok (.getfield 173, 3) := by decide +kernel
theorem dX3_share_72 : decode cX3_share 72 = .ok (.imul, 1) := by decide +kernel
theorem dX3_share_73 : decode cX3_share 73 = .ok (.iload 4, 2) := by decide +kernel
theorem dX3_share_75 : decode cX3_share 75 = .ok (.iadd, 1) := by decide +kernel
theorem dX3_share_76 : decode cX3_share 76 = .ok (.iconst 1, 1) := by decide +kernel
theorem dX3_share_77 : decode cX3_share 77 = .ok (.isub, 1) := by decide +kernel
theorem dX3_share_78 : decode cX3_share 78 = .ok (.iload 4, 2) := by decide +kernel
theorem dX3_share_80 : decode cX3_share 80 = .ok (.idiv, 1) := by decide +kernel
theorem dX3_share_81 : decode cX3_share 81 = .ok (.istore 5, 2) := by decide +kernel
theorem dX3_share_83 : decode cX3_share 83 = .ok (.aload_n 0, 1) := by decide +kernel
theorem dX3_share_84 : decode cX3_share 84 = .ok (.getfield 25, 3) := by decide +kernel
theorem dX3_share_87 : decode cX3_share 87 = .ok (.iload 5, 2) := by decide +kernel
theorem dX3_share_89 : decode cX3_share 89 = .ok (.iconst 1, 1) := by decide +kernel
theorem dX3_share_90 : decode cX3_share 90 = .ok (.isub, 1) := by decide +kernel
theorem dX3_share_91 : decode cX3_share 91 = .ok (.iconst 0, 1) := by decide +kernel
theorem dX3_share_92 : decode cX3_share 92 = .ok (.invokestatic 205, 3) := by decide +kernel
theorem dX3_share_95 : decode cX3_share 95 = .ok (.invokevirtual 202, 3) := by decide +kernel
theorem dX3_share_98 : decode cX3_share 98 = .ok (.lreturn, 1) := by decide +kernel
theorem dX3_upset_0 : decode cX3_upset 0 = .ok (.aload_n 0, 1) := by decide +kernel
theorem dX3_upset_1 : decode cX3_upset 1 = .ok (.iload_n 1, 1) := by decide +kernel
theorem dX3_upset_2 : decode cX3_upset 2 = .ok (.invokevirtual 66, 3) := by decide +kernel
theorem dX3_upset_5 : decode cX3_upset 5 = .ok (.iload_n 2, 1) := by decide +kernel
theorem dX3_upset_6 : decode cX3_upset 6 = .ok (.invokestatic 125, 3) := by decide +kernel
theorem dX3_upset_9 : decode cX3_upset 9 = .ok (.aload_n 0, 1) := by decide +kernel
theorem dX3_upset_10 : decode cX3_upset 10 = .ok (.iload_n 1, 1) := by decide +kernel
theorem dX3_upset_11 : decode cX3_upset 11 = .ok (.iload_n 2, 1) := by decide +kernel
theorem dX3_upset_12 : decode cX3_upset 12 = .ok (.invokevirtual 166, 3) := by decide +kernel
theorem dX3_upset_15 : decode cX3_upset 15 = .ok (.aload_n 0, 1) := by decide +kernel
theorem dX3_upset_16 : decode cX3_upset 16 = .ok (.getfield 25, 3) := by decide +kernel
theorem dX3_upset_19 : decode cX3_upset 19 = .ok (.iconst 0, 1) := by decide +kernel
theorem dX3_upset_20 : decode cX3_upset 20 = .ok (.invokevirtual 169, 3) := by decide +kernel
theorem dX3_upset_23 : decode cX3_upset 23 = .ok (.ireturn, 1) := by decide +kernel
theorem dX3_rank_0 : decode cX3_rank 0 = .ok (.aload_n 0, 1) := by decide +kernel
theorem dX3_rank_1 : decode cX3_rank 1 = .ok (.iload_n 1, 1) := by decide +kernel
theorem dX3_rank_2 : decode cX3_rank 2 = .ok (.invokevirtual 66, 3) := by decide +kernel
theorem dX3_rank_5 : decode cX3_rank 5 = .ok (.iload_n 2, 1) := by decide +kernel
theorem dX3_rank_6 : decode cX3_rank 6 = .ok (.invokestatic 125, 3) := by decide +kernel
theorem dX3_rank_9 : decode cX3_rank 9 = .ok (.iload 5, 2) := by decide +kernel
theorem dX3_rank_11 : decode cX3_rank 11 = .ok (.ifCond .lt 13, 3) := by decide +kernel
theorem dX3_rank_14 : decode cX3_rank 14 = .ok (.iload 5, 2) := by decide +kernel
theorem dX3_rank_16 : decode cX3_rank 16 = .ok (.iconst 2, 1) := by decide +kernel
theorem dX3_rank_17 : decode cX3_rank 17 = .ok (.if_icmp .gt 7, 3) := by decide +kernel
theorem dX3_rank_20 : decode cX3_rank 20 = .ok (.iconst 1, 1) := by decide +kernel
theorem dX3_rank_21 : decode cX3_rank 21 = .ok (.goto 4, 3) := by decide +kernel
theorem dX3_rank_24 : decode cX3_rank 24 = .ok (.iconst 0, 1) := by decide +kernel
theorem dX3_rank_25 : decode cX3_rank 25 = .ok (.invokestatic 73, 3) := by decide +kernel
theorem dX3_rank_28 : decode cX3_rank 28 = .ok (.aload_n 0, 1) := by decide +kernel
theorem dX3_rank_29 : decode cX3_rank 29 = .ok (.iload_n 1, 1) := by decide +kernel
theorem dX3_rank_30 : decode cX3_rank 30 = .ok (.iload_n 2, 1) := by decide +kernel
theorem dX3_rank_31 : decode cX3_rank 31 = .ok (.invokevirtual 166, 3) := by decide +kernel
theorem dX3_rank_34 : decode cX3_rank 34 = .ok (.iload 5, 2) := by decide +kernel
theorem dX3_rank_36 : decode cX3_rank 36 = .ok (.ifCond .ne 13, 3) := by decide +kernel
theorem dX3_rank_39 : decode cX3_rank 39 = .ok (.aload_n 0, 1) := by decide +kernel
theorem dX3_rank_40 : decode cX3_rank 40 = .ok (.getfield 25, 3) := by decide +kernel
theorem dX3_rank_43 : decode cX3_rank 43 = .ok (.iconst 0, 1) := by decide +kernel
theorem dX3_rank_44 : decode cX3_rank 44 = .ok (.lload_n 3, 1) := by decide +kernel
theorem dX3_rank_45 : decode cX3_rank 45 = .ok (.invokevirtual 209, 3) := by decide +kernel
theorem dX3_rank_48 : decode cX3_rank 48 = .ok (.ireturn, 1) := by decide +kernel
theorem dX3_rank_49 : decode cX3_rank 49 = .ok (.aload_n 0, 1) := by decide +kernel
theorem dX3_rank_50 : decode cX3_rank 50 = .ok (.getfield 25, 3) := by decide +kernel
theorem dX3_rank_53 : decode cX3_rank 53 = .ok (.iload 5, 2) := by decide +kernel
theorem dX3_rank_55 : decode cX3_rank 55 = .ok (.iconst 1, 1) := by decide +kernel
theorem dX3_rank_56 : decode cX3_rank 56 = .ok (.if_icmp .ne 7, 3) := by decide +kernel
theorem dX3_rank_59 : decode cX3_rank 59 = .ok (.iconst 2, 1) := by decide +kernel
theorem dX3_rank_60 : decode cX3_rank 60 = .ok (.goto 4, 3) := by decide +kernel
theorem dX3_rank_63 : decode cX3_rank 63 = .ok (.iconst 5, 1) := by decide +kernel
theorem dX3_rank_64 : decode cX3_rank 64 = .ok (.lload_n 3, 1) := by decide +kernel
theorem dX3_rank_65 : decode cX3_rank 65 = .ok (.invokevirtual 209, 3) := by decide +kernel
theorem dX3_rank_68 : decode cX3_rank 68 = .ok (.ireturn, 1) := by decide +kernel
theorem dX3_unlike_0 : decode cX3_unlike 0 = .ok (.aload_n 0, 1) := by decide +kernel
theorem dX3_unlike_1 : decode cX3_unlike 1 = .ok (.iload_n 1, 1) := by decide +kernel
theorem dX3_unlike_2 : decode cX3_unlike 2 = .ok (.invokevirtual 66, 3) := by decide +kernel
theorem dX3_unlike_5 : decode cX3_unlike 5 = .ok (.iload_n 2, 1) := by decide +kernel
theorem dX3_unlike_6 : decode cX3_unlike 6 = .ok (.invokestatic 125, 3) := by decide +kernel
theorem dX3_unlike_9 : decode cX3_unlike 9 = .ok (.iload_n 3, 1) := by decide +kernel
theorem dX3_unlike_10 : decode cX3_unlike 10 = .ok (.ifCond .lt 12, 3) := by decide +kernel
theorem dX3_unlike_13 : decode cX3_unlike 13 = .ok (.iload_n 3, 1) := by decide +kernel
theorem dX3_unlike_14 : decode cX3_unlike 14 = .ok (.iconst 2, 1) := by decide +kernel
theorem dX3_unlike_15 : decode cX3_unlike 15 = .ok (.if_icmp .gt 7, 3) := by decide +kernel
theorem dX3_unlike_18 : decode cX3_unlike 18 = .ok (.iconst 1, 1) := by decide +kernel
theorem dX3_unlike_19 : decode cX3_unlike 19 = .ok (.goto 4, 3) := by decide +kernel
theorem dX3_unlike_22 : decode cX3_unlike 22 = .ok (.iconst 0, 1) := by decide +kernel
theorem dX3_unlike_23 : decode cX3_unlike 23 = .ok (.invokestatic 73, 3) := by decide +kernel
theorem dX3_unlike_26 : decode cX3_unlike 26 = .ok (.aload_n 0, 1) := by decide +kernel
theorem dX3_unlike_27 : decode cX3_unlike 27 = .ok (.iload_n 1, 1) := by decide +kernel
theorem dX3_unlike_28 : decode cX3_unlike 28 = .ok (.iload_n 2, 1) := by decide +kernel
theorem dX3_unlike_29 : decode cX3_unlike 29 = .ok (.invokevirtual 166, 3) := by decide +kernel
theorem dX3_unlike_32 : decode cX3_unlike 32 = .ok (.aload_n 0, 1) := by decide +kernel
theorem dX3_unlike_33 : decode cX3_unlike 33 = .ok (.getfield 25, 3) := by decide +kernel
theorem dX3_unlike_36 : decode cX3_unlike 36 = .ok (.iconst 0, 1) := by decide +kernel
theorem dX3_unlike_37 : decode cX3_unlike 37 = .ok (.invokevirtual 169, 3) := by decide +kernel
theorem dX3_unlike_40 : decode cX3_unlike 40 = .ok (.pop, 1) := by decide +kernel
theorem dX3_unlike_41 : decode cX3_unlike 41 = .ok (.iconst 0, 1) := by decide +kernel
theorem dX3_unlike_42 : decode cX3_unlike 42 = .ok (.istore 4, 2) := by decide +kernel
theorem dX3_unlike_44 : decode cX3_unlike 44 = .ok (.iconst 0, 1) := by decide +kernel
theorem dX3_unlike_45 : decode cX3_unlike 45 = .ok (.istore 5, 2) := by decide +kernel
theorem dX3_unlike_47 : decode cX3_unlike 47 = .ok (.ldc2_w 90, 3) := by decide +kernel
theorem dX3_unlike_50 : decode cX3_unlike 50 = .ok (.lstore 6, 2) := by decide +kernel
theorem dX3_unlike_52 : decode cX3_unlike 52 = .ok (.iconst 0, 1) := by decide +kernel
theorem dX3_unlike_53 : decode cX3_unlike 53 = .ok (.istore 8, 2) := by decide +kernel
theorem dX3_unlike_55 : decode cX3_unlike 55 = .ok (.iconst 0, 1) := by decide +kernel
theorem dX3_unlike_56 : decode cX3_unlike 56 = .ok (.istore 9, 2) := by decide +kernel
theorem dX3_unlike_58 : decode cX3_unlike 58 = .ok (.iload 9, 2) := by decide +kernel
theorem dX3_unlike_60 : decode cX3_unlike 60 = .ok (.aload_n 0, 1) := by decide +kernel
theorem dX3_unlike_61 : decode cX3_unlike 61 = .ok (.getfield 25, 3) := by decide +kernel
theorem dX3_unlike_64 : decode cX3_unlike 64 = .ok (.getfield 173, 3) := by decide +kernel
theorem dX3_unlike_67 : decode cX3_unlike 67 = .ok (.if_icmp .ge 100, 3) := by decide +kernel
theorem dX3_unlike_70 : decode cX3_unlike 70 = .ok (.iload 9, 2) := by decide +kernel
theorem dX3_unlike_72 : decode cX3_unlike 72 = .ok (.ifCond .le 33, 3) := by decide +kernel
theorem dX3_unlike_75 : decode cX3_unlike 75 = .ok (.aload_n 0, 1) := by decide +kernel
theorem dX3_unlike_76 : decode cX3_unlike 76 = .ok (.getfield 25, 3) := by decide +kernel
theorem dX3_unlike_79 : decode cX3_unlike 79 = .ok (.getfield 190, 3) := by decide +kernel
theorem dX3_unlike_82 : decode cX3_unlike 82 = .ok (.iload 9, 2) := by decide +kernel
theorem dX3_unlike_84 : decode cX3_unlike 84 = .ok (.laload, 1) := by decide +kernel
theorem dX3_unlike_85 : decode cX3_unlike 85 = .ok (.aload_n 0, 1) := by decide +kernel
theorem dX3_unlike_86 : decode cX3_unlike 86 = .ok (.getfield 25, 3) := by decide +kernel
theorem dX3_unlike_89 : decode cX3_unlike 89 = .ok (.getfield 190, 3) := by decide +kernel
theorem dX3_unlike_92 : decode cX3_unlike 92 = .ok (.iload 9, 2) := by decide +kernel
theorem dX3_unlike_94 : decode cX3_unlike 94 = .ok (.iconst 1, 1) := by decide +kernel
theorem dX3_unlike_95 : decode cX3_unlike 95 = .ok (.isub, 1) := by decide +kernel
theorem dX3_unlike_96 : decode cX3_unlike 96 = .ok (.laload, 1) := by decide +kernel
theorem dX3_unlike_97 : decode cX3_unlike 97 = .ok (.lcmp, 1) := by decide +kernel
theorem dX3_unlike_98 : decode cX3_unlike 98 = .ok (.ifCond .ne 7, 3) := by decide +kernel
theorem dX3_unlike_101 : decode cX3_unlike 101 = .ok (.iconst 1, 1) := by decide +kernel
theorem dX3_unlike_102 : decode cX3_unlike 102 = .ok (.goto 4, 3) := by decide +kernel
theorem dX3_unlike_105 : decode cX3_unlike 105 = .ok (.iconst 0, 1) := by decide +kernel
theorem dX3_unlike_106 : decode cX3_unlike 106 = .ok (.istore 10, 2) := by decide +kernel
theorem dX3_unlike_108 : decode cX3_unlike 108 = .ok (.iload 10, 2) := by decide +kernel
theorem dX3_unlike_110 : decode cX3_unlike 110 = .ok (.ifCond .eq 10, 3) := by decide +kernel
theorem dX3_unlike_113 : decode cX3_unlike 113 = .ok (.iload 8, 2) := by decide +kernel
theorem dX3_unlike_115 : decode cX3_unlike 115 = .ok (.iconst 1, 1) := by decide +kernel
theorem dX3_unlike_116 : decode cX3_unlike 116 = .ok (.iadd, 1) := by decide +kernel
theorem dX3_unlike_117 : decode cX3_unlike 117 = .ok (.goto 4, 3) := by decide +kernel
theorem dX3_unlike_120 : decode cX3_unlike 120 = .ok (.iconst 1, 1) := by decide +kernel
theorem dX3_unlike_121 : decode cX3_unlike 121 = .ok (.istore 8, 2) := by decide +kernel
theorem dX3_unlike_123 : decode cX3_unlike 123 = .ok (.iload 4, 2) := by decide +kernel
theorem dX3_unlike_125 : decode cX3_unlike 125 = .ok (.iload 10, 2) := by decide +kernel
theorem dX3_unlike_127 : decode cX3_unlike 127 = .ok (.ifCond .eq 7, 3) := by decide +kernel
theorem dX3_unlike_130 : decode cX3_unlike 130 = .ok (.iconst 0, 1) := by decide +kernel
theorem dX3_unlike_131 : decode cX3_unlike 131 = .ok (.goto 4, 3) := by decide +kernel
theorem dX3_unlike_134 : decode cX3_unlike 134 = .ok (.iconst 1, 1) := by decide +kernel
theorem dX3_unlike_135 : decode cX3_unlike 135 = .ok (.iadd, 1) := by decide +kernel
theorem dX3_unlike_136 : decode cX3_unlike 136 = .ok (.istore 4, 2) := by decide +kernel
theorem dX3_unlike_138 : decode cX3_unlike 138 = .ok (.iload 8, 2) := by decide +kernel
theorem dX3_unlike_140 : decode cX3_unlike 140 = .ok (.iload 5, 2) := by decide +kernel
theorem dX3_unlike_142 : decode cX3_unlike 142 = .ok (.if_icmp .le 19, 3) := by decide +kernel
theorem dX3_unlike_145 : decode cX3_unlike 145 = .ok (.iload 8, 2) := by decide +kernel
theorem dX3_unlike_147 : decode cX3_unlike 147 = .ok (.istore 5, 2) := by decide +kernel
theorem dX3_unlike_149 : decode cX3_unlike 149 = .ok (.aload_n 0, 1) := by decide +kernel
theorem dX3_unlike_150 : decode cX3_unlike 150 = .ok (.getfield 25, 3) := by decide +kernel
theorem dX3_unlike_153 : decode cX3_unlike 153 = .ok (.getfield 190, 3) := by decide +kernel
theorem dX3_unlike_156 : decode cX3_unlike 156 = .ok (.iload 9, 2) := by decide +kernel
theorem dX3_unlike_158 : decode cX3_unlike 158 = .ok (.laload, 1) := by decide +kernel
theorem dX3_unlike_159 : decode cX3_unlike 159 = .ok (.lstore 6, 2) := by decide +kernel
theorem dX3_unlike_161 : decode cX3_unlike 161 = .ok (.iinc 9 1, 3) := by decide +kernel
theorem dX3_unlike_164 : decode cX3_unlike 164 = .ok (.goto (-106), 3) := by decide +kernel
theorem dX3_unlike_167 : decode cX3_unlike 167 = .ok (.iload_n 3, 1) := by decide +kernel
theorem dX3_unlike_168 : decode cX3_unlike 168 = .ok (.ifCond .ne 7, 3) := by decide +kernel
theorem dX3_unlike_171 : decode cX3_unlike 171 = .ok (.iload 4, 2) := by decide +kernel
theorem dX3_unlike_173 : decode cX3_unlike 173 = .ok (.i2l, 1) := by decide +kernel
theorem dX3_unlike_174 : decode cX3_unlike 174 = .ok (.lreturn, 1) := by decide +kernel
theorem dX3_unlike_175 : decode cX3_unlike 175 = .ok (.iload_n 3, 1) := by decide +kernel
theorem dX3_unlike_176 : decode cX3_unlike 176 = .ok (.iconst 1, 1) := by decide +kernel
theorem dX3_unlike_177 : decode cX3_unlike 177 = .ok (.if_icmp .ne 8, 3) := by decide +kernel
theorem dX3_unlike_180 : decode cX3_unlike 180 = .ok (.lload 6, 2) := by decide +kernel
theorem dX3_unlike_182 : decode cX3_unlike 182 = .ok (.goto 6, 3) := by decide +kernel
theorem dX3_unlike_185 : decode cX3_unlike 185 = .ok (.iload 5, 2) := by decide +kernel
theorem dX3_unlike_187 : decode cX3_unlike 187 = .ok (.i2l, 1) := by decide +kernel
theorem dX3_unlike_188 : decode cX3_unlike 188 = .ok (.lreturn, 1) := by decide +kernel
theorem dX3_ones_0 : decode cX3_ones 0 = .ok (.aload_n 0, 1) := by decide +kernel
theorem dX3_ones_1 : decode cX3_ones 1 = .ok (.iload_n 1, 1) := by decide +kernel
theorem dX3_ones_2 : decode cX3_ones 2 = .ok (.invokevirtual 66, 3) := by decide +kernel
theorem dX3_ones_5 : decode cX3_ones 5 = .ok (.aload_n 0, 1) := by decide +kernel
theorem dX3_ones_6 : decode cX3_ones 6 = .ok (.iload_n 1, 1) := by decide +kernel
theorem dX3_ones_7 : decode cX3_ones 7 = .ok (.iload_n 2, 1) := by decide +kernel
theorem dX3_ones_8 : decode cX3_ones 8 = .ok (.invokevirtual 109, 3) := by decide +kernel
theorem dX3_ones_11 : decode cX3_ones 11 = .ok (.iload_n 3, 1) := by decide +kernel
theorem dX3_ones_12 : decode cX3_ones 12 = .ok (.invokestatic 125, 3) := by decide +kernel
theorem dX3_ones_15 : decode cX3_ones 15 = .ok (.aload_n 0, 1) := by decide +kernel
theorem dX3_ones_16 : decode cX3_ones 16 = .ok (.iload_n 1, 1) := by decide +kernel
theorem dX3_ones_17 : decode cX3_ones 17 = .ok (.iload_n 3, 1) := by decide +kernel
theorem dX3_ones_18 : decode cX3_ones 18 = .ok (.invokevirtual 166, 3) := by decide +kernel
theorem dX3_ones_21 : decode cX3_ones 21 = .ok (.iconst 0, 1) := by decide +kernel
theorem dX3_ones_22 : decode cX3_ones 22 = .ok (.istore 4, 2) := by decide +kernel
theorem dX3_ones_24 : decode cX3_ones 24 = .ok (.iconst 0, 1) := by decide +kernel
theorem dX3_ones_25 : decode cX3_ones 25 = .ok (.istore 5, 2) := by decide +kernel
theorem dX3_ones_27 : decode cX3_ones 27 = .ok (.iload 5, 2) := by decide +kernel
theorem dX3_ones_29 : decode cX3_ones 29 = .ok (.aload_n 0, 1) := by decide +kernel
theorem dX3_ones_30 : decode cX3_ones 30 = .ok (.getfield 25, 3) := by decide +kernel
theorem dX3_ones_33 : decode cX3_ones 33 = .ok (.getfield 173, 3) := by decide +kernel
theorem dX3_ones_36 : decode cX3_ones 36 = .ok (.if_icmp .ge 36, 3) := by decide +kernel
theorem dX3_ones_39 : decode cX3_ones 39 = .ok (.iload 4, 2) := by decide +kernel
theorem dX3_ones_41 : decode cX3_ones 41 = .ok (.aload_n 0, 1) := by decide +kernel
theorem dX3_ones_42 : decode cX3_ones 42 = .ok (.getfield 25, 3) := by decide +kernel
theorem dX3_ones_45 : decode cX3_ones 45 = .ok (.getfield 190, 3) := by decide +kernel
theorem dX3_ones_48 : decode cX3_ones 48 = .ok (.iload 5, 2) := by decide +kernel
theorem dX3_ones_50 : decode cX3_ones 50 = .ok (.laload, 1) := by decide +kernel
theorem dX3_ones_51 : decode cX3_ones 51 = .ok (.iload_n 2, 1) := by decide +kernel
theorem dX3_ones_52 : decode cX3_ones 52 = .ok (.invokestatic 118, 3) := by decide +kernel
theorem dX3_ones_55 : decode cX3_ones 55 = .ok (.ifCond .eq 7, 3) := by decide +kernel
theorem dX3_ones_58 : decode cX3_ones 58 = .ok (.iconst 1, 1) := by decide +kernel
theorem dX3_ones_59 : decode cX3_ones 59 = .ok (.goto 4, 3) := by decide +kernel
theorem dX3_ones_62 : decode cX3_ones 62 = .ok (.iconst 0, 1) := by decide +kernel
theorem dX3_ones_63 : decode cX3_ones 63 = .ok (.iadd, 1) := by decide +kernel
theorem dX3_ones_64 : decode cX3_ones 64 = .ok (.istore 4, 2) := by decide +kernel
theorem dX3_ones_66 : decode cX3_ones 66 = .ok (.iinc 5 1, 3) := by decide +kernel
theorem dX3_ones_69 : decode cX3_ones 69 = .ok (.goto (-42), 3) := by decide +kernel
theorem dX3_ones_72 : decode cX3_ones 72 = .ok (.iload 4, 2) := by decide +kernel
theorem dX3_ones_74 : decode cX3_ones 74 = .ok (.ireturn, 1) := by decide +kernel
theorem dX3_where_0 : decode cX3_where 0 = .ok (.aload_n 0, 1) := by decide +kernel
theorem dX3_where_1 : decode cX3_where 1 = .ok (.iload_n 1, 1) := by decide +kernel
theorem dX3_where_2 : decode cX3_where 2 = .ok (.invokevirtual 66, 3) := by decide +kernel
theorem dX3_where_5 : decode cX3_where 5 = .ok (.iload_n 2, 1) := by decide +kernel
theorem dX3_where_6 : decode cX3_where 6 = .ok (.invokestatic 125, 3) := by decide +kernel
theorem dX3_where_9 : decode cX3_where 9 = .ok (.iconst 0, 1) := by decide +kernel
theorem dX3_where_10 : decode cX3_where 10 = .ok (.istore 5, 2) := by decide +kernel
theorem dX3_where_12 : decode cX3_where 12 = .ok (.iload 5, 2) := by decide +kernel
theorem dX3_where_14 : decode cX3_where 14 = .ok (.aload_n 0, 1) := by decide +kernel
theorem dX3_where_15 : decode cX3_where 15 = .ok (.getfield 14, 3) := by decide +kernel
theorem dX3_where_18 : decode cX3_where 18 = .ok (.getfield 76, 3) := by decide +kernel
theorem dX3_where_21 : decode cX3_where 21 = .ok (.if_icmp .ge 43, 3) := by decide +kernel
theorem dX3_where_24 : decode cX3_where 24 = .ok (.aload_n 0, 1) := by decide +kernel
theorem dX3_where_25 : decode cX3_where 25 = .ok (.getfield 14, 3) := by decide +kernel
theorem dX3_where_28 : decode cX3_where 28 = .ok (.iload_n 1, 1) := by decide +kernel
theorem dX3_where_29 : decode cX3_where 29 = .ok (.iload 5, 2) := by decide +kernel
theorem dX3_where_31 : decode cX3_where 31 = .ok (.iload_n 2, 1) := by decide +kernel
theorem dX3_where_32 : decode cX3_where 32 = .ok (.invokevirtual 150, 3) := by decide +kernel
theorem dX3_where_35 : decode cX3_where 35 = .ok (.ifCond .eq 23, 3) := by decide +kernel
theorem dX3_where_38 : decode cX3_where 38 = .ok (.aload_n 0, 1) := by decide +kernel
theorem dX3_where_39 : decode cX3_where 39 = .ok (.getfield 14, 3) := by decide +kernel
theorem dX3_where_42 : decode cX3_where 42 = .ok (.getfield 86, 3) := by decide +kernel
theorem dX3_where_45 : decode cX3_where 45 = .ok (.iload_n 1, 1) := by decide +kernel
theorem dX3_where_46 : decode cX3_where 46 = .ok (.aaload, 1) := by decide +kernel
theorem dX3_where_47 : decode cX3_where 47 = .ok (.iload 5, 2) := by decide +kernel
theorem dX3_where_49 : decode cX3_where 49 = .ok (.laload, 1) := by decide +kernel
theorem dX3_where_50 : decode cX3_where 50 = .ok (.lload_n 3, 1) := by decide +kernel
theorem dX3_where_51 : decode cX3_where 51 = .ok (.lcmp, 1) := by decide +kernel
theorem dX3_where_52 : decode cX3_where 52 = .ok (.ifCond .ne 6, 3) := by decide +kernel
theorem dX3_where_55 : decode cX3_where 55 = .ok (.iload 5, 2) := by decide +kernel
theorem dX3_where_57 : decode cX3_where 57 = .ok (.ireturn, 1) := by decide +kernel
theorem dX3_where_58 : decode cX3_where 58 = .ok (.iinc 5 1, 3) := by decide +kernel
theorem dX3_where_61 : decode cX3_where 61 = .ok (.goto (-49), 3) := by decide +kernel
theorem dX3_where_64 : decode cX3_where 64 = .ok (.iconst (-1), 1) := by decide +kernel
theorem dX3_where_65 : decode cX3_where 65 = .ok (.ireturn, 1) := by decide +kernel
theorem dX3_dot_0 : decode cX3_dot 0 = .ok (.aload_n 0, 1) := by decide +kernel
theorem dX3_dot_1 : decode cX3_dot 1 = .ok (.iload_n 1, 1) := by decide +kernel
theorem dX3_dot_2 : decode cX3_dot 2 = .ok (.invokevirtual 66, 3) := by decide +kernel
theorem dX3_dot_5 : decode cX3_dot 5 = .ok (.aload_n 0, 1) := by decide +kernel
theorem dX3_dot_6 : decode cX3_dot 6 = .ok (.iload_n 2, 1) := by decide +kernel
theorem dX3_dot_7 : decode cX3_dot 7 = .ok (.invokevirtual 66, 3) := by decide +kernel
theorem dX3_dot_10 : decode cX3_dot 10 = .ok (.iload_n 3, 1) := by decide +kernel
theorem dX3_dot_11 : decode cX3_dot 11 = .ok (.invokestatic 125, 3) := by decide +kernel
theorem dX3_dot_14 : decode cX3_dot 14 = .ok (.aload_n 0, 1) := by decide +kernel
theorem dX3_dot_15 : decode cX3_dot 15 = .ok (.getfield 32, 3) := by decide +kernel
theorem dX3_dot_18 : decode cX3_dot 18 = .ok (.invokevirtual 213, 3) := by decide +kernel
theorem dX3_dot_21 : decode cX3_dot 21 = .ok (.iconst 0, 1) := by decide +kernel
theorem dX3_dot_22 : decode cX3_dot 22 = .ok (.istore 4, 2) := by decide +kernel
theorem dX3_dot_24 : decode cX3_dot 24 = .ok (.iload 4, 2) := by decide +kernel
theorem dX3_dot_26 : decode cX3_dot 26 = .ok (.aload_n 0, 1) := by decide +kernel
theorem dX3_dot_27 : decode cX3_dot 27 = .ok (.getfield 14, 3) := by decide +kernel
theorem dX3_dot_30 : decode cX3_dot 30 = .ok (.getfield 76, 3) := by decide +kernel
theorem dX3_dot_33 : decode cX3_dot 33 = .ok (.if_icmp .ge 55, 3) := by decide +kernel
theorem dX3_dot_36 : decode cX3_dot 36 = .ok (.aload_n 0, 1) := by decide +kernel
theorem dX3_dot_37 : decode cX3_dot 37 = .ok (.getfield 14, 3) := by decide +kernel
theorem dX3_dot_40 : decode cX3_dot 40 = .ok (.iload_n 1, 1) := by decide +kernel
theorem dX3_dot_41 : decode cX3_dot 41 = .ok (.iload_n 2, 1) := by decide +kernel
theorem dX3_dot_42 : decode cX3_dot 42 = .ok (.iload 4, 2) := by decide +kernel
theorem dX3_dot_44 : decode cX3_dot 44 = .ok (.iload_n 3, 1) := by decide +kernel
theorem dX3_dot_45 : decode cX3_dot 45 = .ok (.invokevirtual 158, 3) := by decide +kernel
theorem dX3_dot_48 : decode cX3_dot 48 = .ok (.ifCond .eq 34, 3) := by decide +kernel
theorem dX3_dot_51 : decode cX3_dot 51 = .ok (.aload_n 0, 1) := by decide +kernel
theorem dX3_dot_52 : decode cX3_dot 52 = .ok (.getfield 32, 3) := by decide +kernel
theorem dX3_dot_55 : decode cX3_dot 55 = .ok (.aload_n 0, 1) := by decide +kernel
theorem dX3_dot_56 : decode cX3_dot 56 = .ok (.getfield 14, 3) := by decide +kernel
theorem dX3_dot_59 : decode cX3_dot 59 = .ok (.getfield 86, 3) := by decide +kernel
theorem dX3_dot_62 : decode cX3_dot 62 = .ok (.iload_n 1, 1) := by decide +kernel
theorem dX3_dot_63 : decode cX3_dot 63 = .ok (.aaload, 1) := by decide +kernel
theorem dX3_dot_64 : decode cX3_dot 64 = .ok (.iload 4, 2) := by decide +kernel
theorem dX3_dot_66 : decode cX3_dot 66 = .ok (.laload, 1) := by decide +kernel
theorem dX3_dot_67 : decode cX3_dot 67 = .ok (.aload_n 0, 1) := by decide +kernel
theorem dX3_dot_68 : decode cX3_dot 68 = .ok (.getfield 14, 3) := by decide +kernel
theorem dX3_dot_71 : decode cX3_dot 71 = .ok (.getfield 86, 3) := by decide +kernel
theorem dX3_dot_74 : decode cX3_dot 74 = .ok (.iload_n 2, 1) := by decide +kernel
theorem dX3_dot_75 : decode cX3_dot 75 = .ok (.aaload, 1) := by decide +kernel
theorem dX3_dot_76 : decode cX3_dot 76 = .ok (.iload 4, 2) := by decide +kernel
theorem dX3_dot_78 : decode cX3_dot 78 = .ok (.laload, 1) := by decide +kernel
theorem dX3_dot_79 : decode cX3_dot 79 = .ok (.invokevirtual 216, 3) := by decide +kernel
theorem dX3_dot_82 : decode cX3_dot 82 = .ok (.iinc 4 1, 3) := by decide +kernel
theorem dX3_dot_85 : decode cX3_dot 85 = .ok (.goto (-61), 3) := by decide +kernel
theorem dX3_dot_88 : decode cX3_dot 88 = .ok (.aload_n 0, 1) := by decide +kernel
theorem dX3_dot_89 : decode cX3_dot 89 = .ok (.getfield 32, 3) := by decide +kernel
theorem dX3_dot_92 : decode cX3_dot 92 = .ok (.invokevirtual 220, 3) := by decide +kernel
theorem dX3_dot_95 : decode cX3_dot 95 = .ok (.lreturn, 1) := by decide +kernel
theorem dX3_steps_0 : decode cX3_steps 0 = .ok (.aload_n 0, 1) := by decide +kernel
theorem dX3_steps_1 : decode cX3_steps 1 = .ok (.iload_n 1, 1) := by decide +kernel
theorem dX3_steps_2 : decode cX3_steps 2 = .ok (.invokevirtual 66, 3) := by decide +kernel
theorem dX3_steps_5 : decode cX3_steps 5 = .ok (.iload_n 2, 1) := by decide +kernel
theorem dX3_steps_6 : decode cX3_steps 6 = .ok (.invokestatic 125, 3) := by decide +kernel
theorem dX3_steps_9 : decode cX3_steps 9 = .ok (.aload_n 0, 1) := by decide +kernel
theorem dX3_steps_10 : decode cX3_steps 10 = .ok (.iload_n 1, 1) := by decide +kernel
theorem dX3_steps_11 : decode cX3_steps 11 = .ok (.iload_n 2, 1) := by decide +kernel
theorem dX3_steps_12 : decode cX3_steps 12 = .ok (.invokevirtual 166, 3) := by decide +kernel
theorem dX3_steps_15 : decode cX3_steps 15 = .ok (.aload_n 0, 1) := by decide +kernel
theorem dX3_steps_16 : decode cX3_steps 16 = .ok (.getfield 32, 3) := by decide +kernel
theorem dX3_steps_19 : decode cX3_steps 19 = .ok (.invokevirtual 213, 3) := by decide +kernel
theorem dX3_steps_22 : decode cX3_steps 22 = .ok (.iconst 1, 1) := by decide +kernel
theorem dX3_steps_23 : decode cX3_steps 23 = .ok (.istore_n 3, 1) := by decide +kernel
theorem dX3_steps_24 : decode cX3_steps 24 = .ok (.iload_n 3, 1) := by decide +kernel
theorem dX3_steps_25 : decode cX3_steps 25 = .ok (.aload_n 0, 1) := by decide +kernel
theorem dX3_steps_26 : decode cX3_steps 26 = .ok (.getfield 25, 3) := by decide +kernel
theorem dX3_steps_29 : decode cX3_steps 29 = .ok (.getfield 173, 3) := by decide +kernel
theorem dX3_steps_32 : decode cX3_steps 32 = .ok (.if_icmp .ge 40, 3) := by decide +kernel
theorem dX3_steps_35 : decode cX3_steps 35 = .ok (.aload_n 0, 1) := by decide +kernel
theorem dX3_steps_36 : decode cX3_steps 36 = .ok (.getfield 32, 3) := by decide +kernel
theorem dX3_steps_39 : decode cX3_steps 39 = .ok (.aload_n 0, 1) := by decide +kernel
theorem dX3_steps_40 : decode cX3_steps 40 = .ok (.getfield 25, 3) := by decide +kernel
theorem dX3_steps_43 : decode cX3_steps 43 = .ok (.getfield 190, 3) := by decide +kernel
theorem dX3_steps_46 : decode cX3_steps 46 = .ok (.iload_n 3, 1) := by decide +kernel
theorem dX3_steps_47 : decode cX3_steps 47 = .ok (.laload, 1) := by decide +kernel
theorem dX3_steps_48 : decode cX3_steps 48 = .ok (.aload_n 0, 1) := by decide +kernel
theorem dX3_steps_49 : decode cX3_steps 49 = .ok (.getfield 25, 3) := by decide +kernel
theorem dX3_steps_52 : decode cX3_steps 52 = .ok (.getfield 190, 3) := by decide +kernel
theorem dX3_steps_55 : decode cX3_steps 55 = .ok (.iload_n 3, 1) := by decide +kernel
theorem dX3_steps_56 : decode cX3_steps 56 = .ok (.iconst 1, 1) := by decide +kernel
theorem dX3_steps_57 : decode cX3_steps 57 = .ok (.isub, 1) := by decide +kernel
theorem dX3_steps_58 : decode cX3_steps 58 = .ok (.laload, 1) := by decide +kernel
theorem dX3_steps_59 : decode cX3_steps 59 = .ok (.lsub, 1) := by decide +kernel
theorem dX3_steps_60 : decode cX3_steps 60 = .ok (.invokestatic 224, 3) := by decide +kernel
theorem dX3_steps_63 : decode cX3_steps 63 = .ok (.invokevirtual 228, 3) := by decide +kernel
theorem dX3_steps_66 : decode cX3_steps 66 = .ok (.iinc 3 1, 3) := by decide +kernel
theorem dX3_steps_69 : decode cX3_steps 69 = .ok (.goto (-45), 3) := by decide +kernel
theorem dX3_steps_72 : decode cX3_steps 72 = .ok (.aload_n 0, 1) := by decide +kernel
theorem dX3_steps_73 : decode cX3_steps 73 = .ok (.getfield 32, 3) := by decide +kernel
theorem dX3_steps_76 : decode cX3_steps 76 = .ok (.invokevirtual 220, 3) := by decide +kernel
theorem dX3_steps_79 : decode cX3_steps 79 = .ok (.lreturn, 1) := by decide +kernel
theorem dX3_upTo_0 : decode cX3_upTo 0 = .ok (.aload_n 0, 1) := by decide +kernel
theorem dX3_upTo_1 : decode cX3_upTo 1 = .ok (.iload_n 1, 1) := by decide +kernel
theorem dX3_upTo_2 : decode cX3_upTo 2 = .ok (.invokevirtual 66, 3) := by decide +kernel
theorem dX3_upTo_5 : decode cX3_upTo 5 = .ok (.aload_n 0, 1) := by decide +kernel
theorem dX3_upTo_6 : decode cX3_upTo 6 = .ok (.iload_n 2, 1) := by decide +kernel
theorem dX3_upTo_7 : decode cX3_upTo 7 = .ok (.invokevirtual 79, 3) := by decide +kernel
theorem dX3_upTo_10 : decode cX3_upTo 10 = .ok (.iload_n 3, 1) := by decide +kernel
theorem dX3_upTo_11 : decode cX3_upTo 11 = .ok (.invokestatic 125, 3) := by decide +kernel
theorem dX3_upTo_14 : decode cX3_upTo 14 = .ok (.aload_n 0, 1) := by decide +kernel
theorem dX3_upTo_15 : decode cX3_upTo 15 = .ok (.iload_n 1, 1) := by decide +kernel
theorem dX3_upTo_16 : decode cX3_upTo 16 = .ok (.iload_n 3, 1) := by decide +kernel
theorem dX3_upTo_17 : decode cX3_upTo 17 = .ok (.iload_n 2, 1) := by decide +kernel
theorem dX3_upTo_18 : decode cX3_upTo 18 = .ok (.iconst 1, 1) := by decide +kernel
theorem dX3_upTo_19 : decode cX3_upTo 19 = .ok (.iadd, 1) := by decide +kernel
theorem dX3_upTo_20 : decode cX3_upTo 20 = .ok (.invokevirtual 186, 3) := by decide +kernel
theorem dX3_upTo_23 : decode cX3_upTo 23 = .ok (.lreturn, 1) := by decide +kernel
theorem dX3_fold_0 : decode cX3_fold 0 = .ok (.aload_n 0, 1) := by decide +kernel
theorem dX3_fold_1 : decode cX3_fold 1 = .ok (.iload_n 1, 1) := by decide +kernel
theorem dX3_fold_2 : decode cX3_fold 2 = .ok (.invokevirtual 66, 3) := by decide +kernel
theorem dX3_fold_5 : decode cX3_fold 5 = .ok (.iload_n 2, 1) := by decide +kernel
theorem dX3_fold_6 : decode cX3_fold 6 = .ok (.invokestatic 125, 3) := by decide +kernel
theorem dX3_fold_9 : decode cX3_fold 9 = .ok (.iload_n 3, 1) := by decide +kernel
theorem dX3_fold_10 : decode cX3_fold 10 = .ok (.ifCond .lt 12, 3) := by decide +kernel
theorem dX3_fold_13 : decode cX3_fold 13 = .ok (.iload_n 3, 1) := by decide +kernel
theorem dX3_fold_14 : decode cX3_fold 14 = .ok (.iconst 2, 1) := by decide +kernel
theorem dX3_fold_15 : decode cX3_fold 15 = .ok (.if_icmp .gt 7, 3) := by decide +kernel
theorem dX3_fold_18 : decode cX3_fold 18 = .ok (.iconst 1, 1) := by decide +kernel
theorem dX3_fold_19 : decode cX3_fold 19 = .ok (.goto 4, 3) := by decide +kernel
theorem dX3_fold_22 : decode cX3_fold 22 = .ok (.iconst 0, 1) := by decide +kernel
theorem dX3_fold_23 : decode cX3_fold 23 = .ok (.invokestatic 73, 3) := by decide +kernel
theorem dX3_fold_26 : decode cX3_fold 26 = .ok (.aload_n 0, 1) := by decide +kernel
theorem dX3_fold_27 : decode cX3_fold 27 = .ok (.iload_n 1, 1) := by decide +kernel
theorem dX3_fold_28 : decode cX3_fold 28 = .ok (.iload_n 2, 1) := by decide +kernel
theorem dX3_fold_29 : decode cX3_fold 29 = .ok (.invokevirtual 166, 3) := by decide +kernel
theorem dX3_fold_32 : decode cX3_fold 32 = .ok (.iload_n 3, 1) := by decide +kernel
theorem dX3_fold_33 : decode cX3_fold 33 = .ok (.ifCond .ne 9, 3) := by decide +kernel
theorem dX3_fold_36 : decode cX3_fold 36 = .ok (.ldc2_w 148, 3) := by decide +kernel
theorem dX3_fold_39 : decode cX3_fold 39 = .ok (.goto 4, 3) := by decide +kernel
theorem dX3_fold_42 : decode cX3_fold 42 = .ok (.lconst 0, 1) := by decide +kernel
theorem dX3_fold_43 : decode cX3_fold 43 = .ok (.lstore 4, 2) := by decide +kernel
theorem dX3_fold_45 : decode cX3_fold 45 = .ok (.iconst 0, 1) := by decide +kernel
theorem dX3_fold_46 : decode cX3_fold 46 = .ok (.istore 6, 2) := by decide +kernel
theorem dX3_fold_48 : decode cX3_fold 48 = .ok (.iload 6, 2) := by decide +kernel
theorem dX3_fold_50 : decode cX3_fold 50 = .ok (.aload_n 0, 1) := by decide +kernel
theorem dX3_fold_51 : decode cX3_fold 51 = .ok (.getfield 25, 3) := by decide +kernel
theorem dX3_fold_54 : decode cX3_fold 54 = .ok (.getfield 173, 3) := by decide +kernel
theorem dX3_fold_57 : decode cX3_fold 57 = .ok (.if_icmp .ge 27, 3) := by decide +kernel
theorem dX3_fold_60 : decode cX3_fold 60 = .ok (.lload 4, 2) := by decide +kernel
theorem dX3_fold_62 : decode cX3_fold 62 = .ok (.aload_n 0, 1) := by decide +kernel
theorem dX3_fold_63 : decode cX3_fold 63 = .ok (.getfield 25, 3) := by decide +kernel
theorem dX3_fold_66 : decode cX3_fold 66 = .ok (.getfield 190, 3) := by decide +kernel
theorem dX3_fold_69 : decode cX3_fold 69 = .ok (.iload 6, 2) := by decide +kernel
theorem dX3_fold_71 : decode cX3_fold 71 = .ok (.laload, 1) := by decide +kernel
theorem dX3_fold_72 : decode cX3_fold 72 = .ok (.iload_n 3, 1) := by decide +kernel
theorem dX3_fold_73 : decode cX3_fold 73 = .ok (.invokestatic 144, 3) := by decide +kernel
theorem dX3_fold_76 : decode cX3_fold 76 = .ok (.lstore 4, 2) := by decide +kernel
theorem dX3_fold_78 : decode cX3_fold 78 = .ok (.iinc 6 1, 3) := by decide +kernel
theorem dX3_fold_81 : decode cX3_fold 81 = .ok (.goto (-33), 3) := by decide +kernel
theorem dX3_fold_84 : decode cX3_fold 84 = .ok (.lload 4, 2) := by decide +kernel
theorem dX3_fold_86 : decode cX3_fold 86 = .ok (.lreturn, 1) := by decide +kernel
theorem dX3_spread_0 : decode cX3_spread 0 = .ok (.aload_n 0, 1) := by decide +kernel
theorem dX3_spread_1 : decode cX3_spread 1 = .ok (.iload_n 1, 1) := by decide +kernel
theorem dX3_spread_2 : decode cX3_spread 2 = .ok (.invokevirtual 66, 3) := by decide +kernel
theorem dX3_spread_5 : decode cX3_spread 5 = .ok (.iload_n 2, 1) := by decide +kernel
theorem dX3_spread_6 : decode cX3_spread 6 = .ok (.invokestatic 125, 3) := by decide +kernel
theorem dX3_spread_9 : decode cX3_spread 9 = .ok (.aload_n 0, 1) := by decide +kernel
theorem dX3_spread_10 : decode cX3_spread 10 = .ok (.iload_n 1, 1) := by decide +kernel
theorem dX3_spread_11 : decode cX3_spread 11 = .ok (.iload_n 2, 1) := by decide +kernel
theorem dX3_spread_12 : decode cX3_spread 12 = .ok (.invokevirtual 166, 3) := by decide +kernel
theorem dX3_spread_15 : decode cX3_spread 15 = .ok (.aload_n 0, 1) := by decide +kernel
theorem dX3_spread_16 : decode cX3_spread 16 = .ok (.getfield 25, 3) := by decide +kernel
theorem dX3_spread_19 : decode cX3_spread 19 = .ok (.getfield 173, 3) := by decide +kernel
theorem dX3_spread_22 : decode cX3_spread 22 = .ok (.istore_n 3, 1) := by decide +kernel
theorem dX3_spread_23 : decode cX3_spread 23 = .ok (.iload_n 3, 1) := by decide +kernel
theorem dX3_spread_24 : decode cX3_spread 24 = .ok (.ifCond .ne 5, 3) := by decide +kernel
theorem dX3_spread_27 : decode cX3_spread 27 = .ok (.lconst 0, 1) := by decide +kernel
theorem dX3_spread_28 : decode cX3_spread 28 = .ok (.lreturn, 1) := by decide +kernel
theorem dX3_spread_29 : decode cX3_spread 29 = .ok (.aload_n 0, 1) := by decide +kernel
theorem dX3_spread_30 : decode cX3_spread 30 = .ok (.getfield 25, 3) := by decide +kernel
theorem dX3_spread_33 : decode cX3_spread 33 = .ok (.getfield 190, 3) := by decide +kernel
theorem dX3_spread_36 : decode cX3_spread 36 = .ok (.iconst 0, 1) := by decide +kernel
theorem dX3_spread_37 : decode cX3_spread 37 = .ok (.laload, 1) := by decide +kernel
theorem dX3_spread_38 : decode cX3_spread 38 = .ok (.lstore 4, 2) := by decide +kernel
theorem dX3_spread_40 : decode cX3_spread 40 = .ok (.lconst 0, 1) := by decide +kernel
theorem dX3_spread_41 : decode cX3_spread 41 = .ok (.lstore 6, 2) := by decide +kernel
theorem dX3_spread_43 : decode cX3_spread 43 = .ok (.aload_n 0, 1) := by decide +kernel
theorem dX3_spread_44 : decode cX3_spread 44 = .ok (.getfield 32, 3) := by decide +kernel
theorem dX3_spread_47 : decode cX3_spread 47 = .ok (.invokevirtual 213, 3) := by decide +kernel
theorem dX3_spread_50 : decode cX3_spread 50 = .ok (.iconst 0, 1) := by decide +kernel
theorem dX3_spread_51 : decode cX3_spread 51 = .ok (.istore 8, 2) := by decide +kernel
theorem dX3_spread_53 : decode cX3_spread 53 = .ok (.iload 8, 2) := by decide +kernel
theorem dX3_spread_55 : decode cX3_spread 55 = .ok (.iload_n 3, 1) := by decide +kernel
theorem dX3_spread_56 : decode cX3_spread 56 = .ok (.if_icmp .ge 65, 3) := by decide +kernel
theorem dX3_spread_59 : decode cX3_spread 59 = .ok (.aload_n 0, 1) := by decide +kernel
theorem dX3_spread_60 : decode cX3_spread 60 = .ok (.getfield 25, 3) := by decide +kernel
theorem dX3_spread_63 : decode cX3_spread 63 = .ok (.getfield 190, 3) := by decide +kernel
theorem dX3_spread_66 : decode cX3_spread 66 = .ok (.iload 8, 2) := by decide +kernel
theorem dX3_spread_68 : decode cX3_spread 68 = .ok (.laload, 1) := by decide +kernel
theorem dX3_spread_69 : decode cX3_spread 69 = .ok (.lload 4, 2) := by decide +kernel
theorem dX3_spread_71 : decode cX3_spread 71 = .ok (.lsub, 1) := by decide +kernel
theorem dX3_spread_72 : decode cX3_spread 72 = .ok (.lstore 9, 2) := by decide +kernel
theorem dX3_spread_74 : decode cX3_spread 74 = .ok (.lload 9, 2) := by decide +kernel
theorem dX3_spread_76 : decode cX3_spread 76 = .ok (.invokestatic 224, 3) := by decide +kernel
theorem dX3_spread_79 : decode cX3_spread 79 = .ok (.ldc2_w 231, 3) := by decide +kernel
theorem dX3_spread_82 : decode cX3_spread 82 = .ok (.lcmp, 1) := by decide +kernel
theorem dX3_spread_83 : decode cX3_spread 83 = .ok (.ifCond .gt 7, 3) := by decide +kernel
theorem dX3_spread_86 : decode cX3_spread 86 = .ok (.iconst 1, 1) := by decide +kernel
theorem dX3_spread_87 : decode cX3_spread 87 = .ok (.goto 4, 3) := by decide +kernel
theorem dX3_spread_90 : decode cX3_spread 90 = .ok (.iconst 0, 1) := by decide +kernel
theorem dX3_spread_91 : decode cX3_spread 91 = .ok (.invokestatic 233, 3) := by decide +kernel
theorem dX3_spread_94 : decode cX3_spread 94 = .ok (.lload 6, 2) := by decide +kernel
theorem dX3_spread_96 : decode cX3_spread 96 = .ok (.lload 9, 2) := by decide +kernel
theorem dX3_spread_98 : decode cX3_spread 98 = .ok (.ladd, 1) := by decide +kernel
theorem dX3_spread_99 : decode cX3_spread 99 = .ok (.lstore 6, 2) := by decide +kernel
theorem dX3_spread_101 : decode cX3_spread 101 = .ok (.aload_n 0, 1) := by decide +kernel
theorem dX3_spread_102 : decode cX3_spread 102 = .ok (.getfield 32, 3) := by decide +kernel
theorem dX3_spread_105 : decode cX3_spread 105 = .ok (.lload 9, 2) := by decide +kernel
theorem dX3_spread_107 : decode cX3_spread 107 = .ok (.iload_n 3, 1) := by decide +kernel
theorem dX3_spread_108 : decode cX3_spread 108 = .ok (.i2l, 1) := by decide +kernel
theorem dX3_spread_109 : decode cX3_spread 109 = .ok (.lmul, 1) := by decide +kernel
theorem dX3_spread_110 : decode cX3_spread 110 = .ok (.lload 9, 2) := by decide +kernel
theorem dX3_spread_112 : decode cX3_spread 112 = .ok (.invokevirtual 216, 3) := by decide +kernel
theorem dX3_spread_115 : decode cX3_spread 115 = .ok (.iinc 8 1, 3) := by decide +kernel
theorem dX3_spread_118 : decode cX3_spread 118 = .ok (.goto (-65), 3) := by decide +kernel
theorem dX3_spread_121 : decode cX3_spread 121 = .ok (.aload_n 0, 1) := by decide +kernel
theorem dX3_spread_122 : decode cX3_spread 122 = .ok (.getfield 32, 3) := by decide +kernel
theorem dX3_spread_125 : decode cX3_spread 125 = .ok (.lload 6, 2) := by decide +kernel
theorem dX3_spread_127 : decode cX3_spread 127 = .ok (.lload 6, 2) := by decide +kernel
theorem dX3_spread_129 : decode cX3_spread 129 = .ok (.lneg, 1) := by decide +kernel
theorem dX3_spread_130 : decode cX3_spread 130 = .ok (.invokevirtual 216, 3) := by decide +kernel
theorem dX3_spread_133 : decode cX3_spread 133 = .ok (.aload_n 0, 1) := by decide +kernel
theorem dX3_spread_134 : decode cX3_spread 134 = .ok (.getfield 32, 3) := by decide +kernel
theorem dX3_spread_137 : decode cX3_spread 137 = .ok (.invokevirtual 220, 3) := by decide +kernel
theorem dX3_spread_140 : decode cX3_spread 140 = .ok (.lreturn, 1) := by decide +kernel
theorem dX3_nearest_0 : decode cX3_nearest 0 = .ok (.aload_n 0, 1) := by decide +kernel
theorem dX3_nearest_1 : decode cX3_nearest 1 = .ok (.iload_n 1, 1) := by decide +kernel
theorem dX3_nearest_2 : decode cX3_nearest 2 = .ok (.invokevirtual 66, 3) := by decide +kernel
theorem dX3_nearest_5 : decode cX3_nearest 5 = .ok (.iload_n 2, 1) := by decide +kernel
theorem dX3_nearest_6 : decode cX3_nearest 6 = .ok (.invokestatic 125, 3) := by decide +kernel
theorem dX3_nearest_9 : decode cX3_nearest 9 = .ok (.aload_n 0, 1) := by decide +kernel
theorem dX3_nearest_10 : decode cX3_nearest 10 = .ok (.iload_n 1, 1) := by decide +kernel
theorem dX3_nearest_11 : decode cX3_nearest 11 = .ok (.iload_n 2, 1) := by decide +kernel
theorem dX3_nearest_12 : decode cX3_nearest 12 = .ok (.invokevirtual 166, 3) := by decide +kernel
theorem dX3_nearest_15 : decode cX3_nearest 15 = .ok (.ldc2_w 236, 3) := by decide +kernel
theorem dX3_nearest_18 : decode cX3_nearest 18 = .ok (.ldc2_w 238, 3) := by decide +kernel
theorem dX3_nearest_21 : decode cX3_nearest 21 = .ok (.lload_n 3, 1) := by decide +kernel
theorem dX3_nearest_22 : decode cX3_nearest 22 = .ok (.invokestatic 240, 3) := by decide +kernel
theorem dX3_nearest_25 : decode cX3_nearest 25 = .ok (.invokestatic 243, 3) := by decide +kernel
theorem dX3_nearest_28 : decode cX3_nearest 28 = .ok (.lstore 5, 2) := by decide +kernel
theorem dX3_nearest_30 : decode cX3_nearest 30 = .ok (.ldc2_w 90, 3) := by decide +kernel
theorem dX3_nearest_33 : decode cX3_nearest 33 = .ok (.lstore 7, 2) := by decide +kernel
theorem dX3_nearest_35 : decode cX3_nearest 35 = .ok (.lconst 0, 1) := by decide +kernel
theorem dX3_nearest_36 : decode cX3_nearest 36 = .ok (.lstore 9, 2) := by decide +kernel
theorem dX3_nearest_38 : decode cX3_nearest 38 = .ok (.iconst 0, 1) := by decide +kernel
theorem dX3_nearest_39 : decode cX3_nearest 39 = .ok (.istore 11, 2) := by decide +kernel
theorem dX3_nearest_41 : decode cX3_nearest 41 = .ok (.iload 11, 2) := by decide +kernel
theorem dX3_nearest_43 : decode cX3_nearest 43 = .ok (.aload_n 0, 1) := by decide +kernel
theorem dX3_nearest_44 : decode cX3_nearest 44 = .ok (.getfield 25, 3) := by decide +kernel
theorem dX3_nearest_47 : decode cX3_nearest 47 = .ok (.getfield 173, 3) := by decide +kernel
theorem dX3_nearest_50 : decode cX3_nearest 50 = .ok (.if_icmp .ge 72, 3) := by decide +kernel
theorem dX3_nearest_53 : decode cX3_nearest 53 = .ok (.aload_n 0, 1) := by decide +kernel
theorem dX3_nearest_54 : decode cX3_nearest 54 = .ok (.getfield 25, 3) := by decide +kernel
theorem dX3_nearest_57 : decode cX3_nearest 57 = .ok (.getfield 190, 3) := by decide +kernel
theorem dX3_nearest_60 : decode cX3_nearest 60 = .ok (.iload 11, 2) := by decide +kernel
theorem dX3_nearest_62 : decode cX3_nearest 62 = .ok (.laload, 1) := by decide +kernel
theorem dX3_nearest_63 : decode cX3_nearest 63 = .ok (.lstore 12, 2) := by decide +kernel
theorem dX3_nearest_65 : decode cX3_nearest 65 = .ok (.lload 12, 2) := by decide +kernel
theorem dX3_nearest_67 : decode cX3_nearest 67 = .ok (.lload 5, 2) := by decide +kernel
theorem dX3_nearest_69 : decode cX3_nearest 69 = .ok (.lsub, 1) := by decide +kernel
theorem dX3_nearest_70 : decode cX3_nearest 70 = .ok (.invokestatic 224, 3) := by decide +kernel
theorem dX3_nearest_73 : decode cX3_nearest 73 = .ok (.lstore 14, 2) := by decide +kernel
theorem dX3_nearest_75 : decode cX3_nearest 75 = .ok (.lload 7, 2) := by decide +kernel
theorem dX3_nearest_77 : decode cX3_nearest 77 = .ok (.ldc2_w 90, 3) := by decide +kernel
theorem dX3_nearest_80 : decode cX3_nearest 80 = .ok (.lcmp, 1) := by decide +kernel
theorem dX3_nearest_81 : decode cX3_nearest 81 = .ok (.ifCond .eq 27, 3) := by decide +kernel
theorem dX3_nearest_84 : decode cX3_nearest 84 = .ok (.lload 14, 2) := by decide +kernel
theorem dX3_nearest_86 : decode cX3_nearest 86 = .ok (.lload 9, 2) := by decide +kernel
theorem dX3_nearest_88 : decode cX3_nearest 88 = .ok (.lcmp, 1) := by decide +kernel
theorem dX3_nearest_89 : decode cX3_nearest 89 = .ok (.ifCond .lt 19, 3) := by decide +kernel
theorem dX3_nearest_92 : decode cX3_nearest 92 = .ok (.lload 14, 2) := by decide +kernel
theorem dX3_nearest_94 : decode cX3_nearest 94 = .ok (.lload 9, 2) := by decide +kernel
theorem dX3_nearest_96 : decode cX3_nearest 96 = .ok (.lcmp, 1) := by decide +kernel
theorem dX3_nearest_97 : decode cX3_nearest 97 = .ok (.ifCond .ne 19, 3) := by decide +kernel
theorem dX3_nearest_100 : decode cX3_nearest 100 = .ok (.lload 12, 2) := by decide +kernel
theorem dX3_nearest_102 : decode cX3_nearest 102 = .ok (.lload 7, 2) := by decide +kernel
theorem dX3_nearest_104 : decode cX3_nearest 104 = .ok (.lcmp, 1) := by decide +kernel
theorem dX3_nearest_105 : decode cX3_nearest 105 = .ok (.ifCond .ge 11, 3) := by decide +kernel
theorem dX3_nearest_108 : decode cX3_nearest 108 = .ok (.lload 12, 2) := by decide +kernel
theorem dX3_nearest_110 : decode cX3_nearest 110 = .ok (.lstore 7, 2) := by decide +kernel
theorem dX3_nearest_112 : decode cX3_nearest 112 = .ok (.lload 14, 2) := by decide +kernel
theorem dX3_nearest_114 : decode cX3_nearest 114 = .ok (.lstore 9, 2) := by decide +kernel
theorem dX3_nearest_116 : decode cX3_nearest 116 = .ok (.iinc 11 1, 3) := by decide +kernel
theorem dX3_nearest_119 : decode cX3_nearest 119 = .ok (.goto (-78), 3) := by decide +kernel
theorem dX3_nearest_122 : decode cX3_nearest 122 = .ok (.lload 7, 2) := by decide +kernel
theorem dX3_nearest_124 : decode cX3_nearest 124 = .ok (.lreturn, 1) := by decide +kernel
theorem dX3_box_0 : decode cX3_box 0 = .ok (.aload_n 0, 1) := by decide +kernel
theorem dX3_box_1 : decode cX3_box 1 = .ok (.iload_n 1, 1) := by decide +kernel
theorem dX3_box_2 : decode cX3_box 2 = .ok (.invokevirtual 66, 3) := by decide +kernel
theorem dX3_box_5 : decode cX3_box 5 = .ok (.iload_n 2, 1) := by decide +kernel
theorem dX3_box_6 : decode cX3_box 6 = .ok (.invokestatic 125, 3) := by decide +kernel
theorem dX3_box_9 : decode cX3_box 9 = .ok (.lload 5, 2) := by decide +kernel
theorem dX3_box_11 : decode cX3_box 11 = .ok (.lconst 1, 1) := by decide +kernel
theorem dX3_box_12 : decode cX3_box 12 = .ok (.lcmp, 1) := by decide +kernel
theorem dX3_box_13 : decode cX3_box 13 = .ok (.ifCond .lt 7, 3) := by decide +kernel
theorem dX3_box_16 : decode cX3_box 16 = .ok (.iconst 1, 1) := by decide +kernel
theorem dX3_box_17 : decode cX3_box 17 = .ok (.goto 4, 3) := by decide +kernel
theorem dX3_box_20 : decode cX3_box 20 = .ok (.iconst 0, 1) := by decide +kernel
theorem dX3_box_21 : decode cX3_box 21 = .ok (.invokestatic 73, 3) := by decide +kernel
theorem dX3_box_24 : decode cX3_box 24 = .ok (.iload 7, 2) := by decide +kernel
theorem dX3_box_26 : decode cX3_box 26 = .ok (.ifCond .lt 7, 3) := by decide +kernel
theorem dX3_box_29 : decode cX3_box 29 = .ok (.iconst 1, 1) := by decide +kernel
theorem dX3_box_30 : decode cX3_box 30 = .ok (.goto 4, 3) := by decide +kernel
theorem dX3_box_33 : decode cX3_box 33 = .ok (.iconst 0, 1) := by decide +kernel
theorem dX3_box_34 : decode cX3_box 34 = .ok (.invokestatic 73, 3) := by decide +kernel
theorem dX3_box_37 : decode cX3_box 37 = .ok (.aload_n 0, 1) := by decide +kernel
theorem dX3_box_38 : decode cX3_box 38 = .ok (.iload_n 1, 1) := by decide +kernel
theorem dX3_box_39 : decode cX3_box 39 = .ok (.iload_n 2, 1) := by decide +kernel
theorem dX3_box_40 : decode cX3_box 40 = .ok (.invokevirtual 166, 3) := by decide +kernel
theorem dX3_box_43 : decode cX3_box 43 = .ok (.aload_n 0, 1) := by decide +kernel
theorem dX3_box_44 : decode cX3_box 44 = .ok (.getfield 32, 3) := by decide +kernel
theorem dX3_box_47 : decode cX3_box 47 = .ok (.invokevirtual 213, 3) := by decide +kernel
theorem dX3_box_50 : decode cX3_box 50 = .ok (.aload_n 0, 1) := by decide +kernel
theorem dX3_box_51 : decode cX3_box 51 = .ok (.getfield 32, 3) := by decide +kernel
theorem dX3_box_54 : decode cX3_box 54 = .ok (.lload_n 3, 1) := by decide +kernel
theorem dX3_box_55 : decode cX3_box 55 = .ok (.invokevirtual 228, 3) := by decide +kernel
theorem dX3_box_58 : decode cX3_box 58 = .ok (.aload_n 0, 1) := by decide +kernel
theorem dX3_box_59 : decode cX3_box 59 = .ok (.getfield 32, 3) := by decide +kernel
theorem dX3_box_62 : decode cX3_box 62 = .ok (.lload 5, 2) := by decide +kernel
theorem dX3_box_64 : decode cX3_box 64 = .ok (.iload 7, 2) := by decide +kernel
theorem dX3_box_66 : decode cX3_box 66 = .ok (.i2l, 1) := by decide +kernel
theorem dX3_box_67 : decode cX3_box 67 = .ok (.invokevirtual 216, 3) := by decide +kernel
theorem dX3_box_70 : decode cX3_box 70 = .ok (.aload_n 0, 1) := by decide +kernel
theorem dX3_box_71 : decode cX3_box 71 = .ok (.getfield 32, 3) := by decide +kernel
theorem dX3_box_74 : decode cX3_box 74 = .ok (.invokevirtual 245, 3) := by decide +kernel
theorem dX3_box_77 : decode cX3_box 77 = .ok (.ifCond .ne 5, 3) := by decide +kernel
theorem dX3_box_80 : decode cX3_box 80 = .ok (.iconst 0, 1) := by decide +kernel
theorem dX3_box_81 : decode cX3_box 81 = .ok (.ireturn, 1) := by decide +kernel
theorem dX3_box_82 : decode cX3_box 82 = .ok (.aload_n 0, 1) := by decide +kernel
theorem dX3_box_83 : decode cX3_box 83 = .ok (.getfield 25, 3) := by decide +kernel
theorem dX3_box_86 : decode cX3_box 86 = .ok (.iconst 4, 1) := by decide +kernel
theorem dX3_box_87 : decode cX3_box 87 = .ok (.aload_n 0, 1) := by decide +kernel
theorem dX3_box_88 : decode cX3_box 88 = .ok (.getfield 32, 3) := by decide +kernel
theorem dX3_box_91 : decode cX3_box 91 = .ok (.invokevirtual 249, 3) := by decide +kernel
theorem dX3_box_94 : decode cX3_box 94 = .ok (.invokevirtual 209, 3) := by decide +kernel
theorem dX3_box_97 : decode cX3_box 97 = .ok (.istore 8, 2) := by decide +kernel
theorem dX3_box_99 : decode cX3_box 99 = .ok (.aload_n 0, 1) := by decide +kernel
theorem dX3_box_100 : decode cX3_box 100 = .ok (.getfield 32, 3) := by decide +kernel
theorem dX3_box_103 : decode cX3_box 103 = .ok (.lload 5, 2) := by decide +kernel
theorem dX3_box_105 : decode cX3_box 105 = .ok (.invokevirtual 228, 3) := by decide +kernel
theorem dX3_box_108 : decode cX3_box 108 = .ok (.aload_n 0, 1) := by decide +kernel
theorem dX3_box_109 : decode cX3_box 109 = .ok (.getfield 32, 3) := by decide +kernel
theorem dX3_box_112 : decode cX3_box 112 = .ok (.invokevirtual 245, 3) := by decide +kernel
theorem dX3_box_115 : decode cX3_box 115 = .ok (.ifCond .eq 24, 3) := by decide +kernel
theorem dX3_box_118 : decode cX3_box 118 = .ok (.iload 8, 2) := by decide +kernel
theorem dX3_box_120 : decode cX3_box 120 = .ok (.aload_n 0, 1) := by decide +kernel
theorem dX3_box_121 : decode cX3_box 121 = .ok (.getfield 25, 3) := by decide +kernel
theorem dX3_box_124 : decode cX3_box 124 = .ok (.iconst 4, 1) := by decide +kernel
theorem dX3_box_125 : decode cX3_box 125 = .ok (.aload_n 0, 1) := by decide +kernel
theorem dX3_box_126 : decode cX3_box 126 = .ok (.getfield 32, 3) := by decide +kernel
theorem dX3_box_129 : decode cX3_box 129 = .ok (.invokevirtual 249, 3) := by decide +kernel
theorem dX3_box_132 : decode cX3_box 132 = .ok (.invokevirtual 209, 3) := by decide +kernel
theorem dX3_box_135 : decode cX3_box 135 = .ok (.isub, 1) := by decide +kernel
theorem dX3_box_136 : decode cX3_box 136 = .ok (.goto 5, 3) := by decide +kernel
theorem dX3_box_139 : decode cX3_box 139 = .ok (.iload 8, 2) := by decide +kernel
theorem dX3_box_141 : decode cX3_box 141 = .ok (.ireturn, 1) := by decide +kernel
theorem dX3_add_0 : decode cX3_add 0 = .ok (.aload_n 0, 1) := by decide +kernel
theorem dX3_add_1 : decode cX3_add 1 = .ok (.iload_n 1, 1) := by decide +kernel
theorem dX3_add_2 : decode cX3_add 2 = .ok (.invokevirtual 66, 3) := by decide +kernel
theorem dX3_add_5 : decode cX3_add 5 = .ok (.iload 4, 2) := by decide +kernel
theorem dX3_add_7 : decode cX3_add 7 = .ok (.invokestatic 125, 3) := by decide +kernel
theorem dX3_add_10 : decode cX3_add 10 = .ok (.aload_n 0, 1) := by decide +kernel
theorem dX3_add_11 : decode cX3_add 11 = .ok (.iload_n 1, 1) := by decide +kernel
theorem dX3_add_12 : decode cX3_add 12 = .ok (.invokevirtual 252, 3) := by decide +kernel
theorem dX3_add_15 : decode cX3_add 15 = .ok (.iconst 0, 1) := by decide +kernel
theorem dX3_add_16 : decode cX3_add 16 = .ok (.istore 5, 2) := by decide +kernel
theorem dX3_add_18 : decode cX3_add 18 = .ok (.iconst 0, 1) := by decide +kernel
theorem dX3_add_19 : decode cX3_add 19 = .ok (.istore 6, 2) := by decide +kernel
theorem dX3_add_21 : decode cX3_add 21 = .ok (.iload 6, 2) := by decide +kernel
theorem dX3_add_23 : decode cX3_add 23 = .ok (.aload_n 0, 1) := by decide +kernel
theorem dX3_add_24 : decode cX3_add 24 = .ok (.getfield 14, 3) := by decide +kernel
theorem dX3_add_27 : decode cX3_add 27 = .ok (.getfield 76, 3) := by decide +kernel
theorem dX3_add_30 : decode cX3_add 30 = .ok (.if_icmp .ge 50, 3) := by decide +kernel
theorem dX3_add_33 : decode cX3_add 33 = .ok (.aload_n 0, 1) := by decide +kernel
theorem dX3_add_34 : decode cX3_add 34 = .ok (.getfield 14, 3) := by decide +kernel
theorem dX3_add_37 : decode cX3_add 37 = .ok (.iload_n 1, 1) := by decide +kernel
theorem dX3_add_38 : decode cX3_add 38 = .ok (.iload 6, 2) := by decide +kernel
theorem dX3_add_40 : decode cX3_add 40 = .ok (.iload 4, 2) := by decide +kernel
theorem dX3_add_42 : decode cX3_add 42 = .ok (.invokevirtual 150, 3) := by decide +kernel
theorem dX3_add_45 : decode cX3_add 45 = .ok (.ifCond .eq 29, 3) := by decide +kernel
theorem dX3_add_48 : decode cX3_add 48 = .ok (.aload_n 0, 1) := by decide +kernel
theorem dX3_add_49 : decode cX3_add 49 = .ok (.getfield 40, 3) := by decide +kernel
theorem dX3_add_52 : decode cX3_add 52 = .ok (.iload 6, 2) := by decide +kernel
theorem dX3_add_54 : decode cX3_add 54 = .ok (.aload_n 0, 1) := by decide +kernel
theorem dX3_add_55 : decode cX3_add 55 = .ok (.getfield 14, 3) := by decide +kernel
theorem dX3_add_58 : decode cX3_add 58 = .ok (.getfield 86, 3) := by decide +kernel
theorem dX3_add_61 : decode cX3_add 61 = .ok (.iload_n 1, 1) := by decide +kernel
theorem dX3_add_62 : decode cX3_add 62 = .ok (.aaload, 1) := by decide +kernel
theorem dX3_add_63 : decode cX3_add 63 = .ok (.iload 6, 2) := by decide +kernel
theorem dX3_add_65 : decode cX3_add 65 = .ok (.laload, 1) := by decide +kernel
theorem dX3_add_66 : decode cX3_add 66 = .ok (.lload_n 2, 1) := by decide +kernel
theorem dX3_add_67 : decode cX3_add 67 = .ok (.invokestatic 255, 3) := by decide +kernel
theorem dX3_add_70 : decode cX3_add 70 = .ok (.lastore, 1) := by decide +kernel
theorem dX3_add_71 : decode cX3_add 71 = .ok (.iinc 5 1, 3) := by decide +kernel
theorem dX3_add_74 : decode cX3_add 74 = .ok (.iinc 6 1, 3) := by decide +kernel
theorem dX3_add_77 : decode cX3_add 77 = .ok (.goto (-56), 3) := by decide +kernel
theorem dX3_add_80 : decode cX3_add 80 = .ok (.aload_n 0, 1) := by decide +kernel
theorem dX3_add_81 : decode cX3_add 81 = .ok (.iload_n 1, 1) := by decide +kernel
theorem dX3_add_82 : decode cX3_add 82 = .ok (.invokevirtual 258, 3) := by decide +kernel
theorem dX3_add_85 : decode cX3_add 85 = .ok (.pop, 1) := by decide +kernel
theorem dX3_add_86 : decode cX3_add 86 = .ok (.iload 5, 2) := by decide +kernel
theorem dX3_add_88 : decode cX3_add 88 = .ok (.ireturn, 1) := by decide +kernel
theorem dX3_plus_0 : decode cX3_plus 0 = .ok (.aload_n 0, 1) := by decide +kernel
theorem dX3_plus_1 : decode cX3_plus 1 = .ok (.iload_n 1, 1) := by decide +kernel
theorem dX3_plus_2 : decode cX3_plus 2 = .ok (.invokevirtual 66, 3) := by decide +kernel
theorem dX3_plus_5 : decode cX3_plus 5 = .ok (.aload_n 0, 1) := by decide +kernel
theorem dX3_plus_6 : decode cX3_plus 6 = .ok (.iload_n 2, 1) := by decide +kernel
theorem dX3_plus_7 : decode cX3_plus 7 = .ok (.invokevirtual 66, 3) := by decide +kernel
theorem dX3_plus_10 : decode cX3_plus 10 = .ok (.iload 4, 2) := by decide +kernel
theorem dX3_plus_12 : decode cX3_plus 12 = .ok (.invokestatic 125, 3) := by decide +kernel
theorem dX3_plus_15 : decode cX3_plus 15 = .ok (.aload_n 0, 1) := by decide +kernel
theorem dX3_plus_16 : decode cX3_plus 16 = .ok (.iload_n 1, 1) := by decide +kernel
theorem dX3_plus_17 : decode cX3_plus 17 = .ok (.invokevirtual 252, 3) := by decide +kernel
theorem dX3_plus_20 : decode cX3_plus 20 = .ok (.iconst 0, 1) := by decide +kernel
theorem dX3_plus_21 : decode cX3_plus 21 = .ok (.istore 5, 2) := by decide +kernel
theorem dX3_plus_23 : decode cX3_plus 23 = .ok (.iconst 0, 1) := by decide +kernel
theorem dX3_plus_24 : decode cX3_plus 24 = .ok (.istore 6, 2) := by decide +kernel
theorem dX3_plus_26 : decode cX3_plus 26 = .ok (.iload 6, 2) := by decide +kernel
theorem dX3_plus_28 : decode cX3_plus 28 = .ok (.aload_n 0, 1) := by decide +kernel
theorem dX3_plus_29 : decode cX3_plus 29 = .ok (.getfield 14, 3) := by decide +kernel
theorem dX3_plus_32 : decode cX3_plus 32 = .ok (.getfield 76, 3) := by decide +kernel
theorem dX3_plus_35 : decode cX3_plus 35 = .ok (.if_icmp .ge 76, 3) := by decide +kernel
theorem dX3_plus_38 : decode cX3_plus 38 = .ok (.aload_n 0, 1) := by decide +kernel
theorem dX3_plus_39 : decode cX3_plus 39 = .ok (.getfield 14, 3) := by decide +kernel
theorem dX3_plus_42 : decode cX3_plus 42 = .ok (.iload_n 1, 1) := by decide +kernel
theorem dX3_plus_43 : decode cX3_plus 43 = .ok (.iload_n 2, 1) := by decide +kernel
theorem dX3_plus_44 : decode cX3_plus 44 = .ok (.iload 6, 2) := by decide +kernel
theorem dX3_plus_46 : decode cX3_plus 46 = .ok (.iload 4, 2) := by decide +kernel
theorem dX3_plus_48 : decode cX3_plus 48 = .ok (.invokevirtual 158, 3) := by decide +kernel
theorem dX3_plus_51 : decode cX3_plus 51 = .ok (.ifCond .eq 54, 3) := by decide +kernel
theorem dX3_plus_54 : decode cX3_plus 54 = .ok (.aload_n 0, 1) := by decide +kernel
theorem dX3_plus_55 : decode cX3_plus 55 = .ok (.getfield 14, 3) := by decide +kernel
theorem dX3_plus_58 : decode cX3_plus 58 = .ok (.getfield 86, 3) := by decide +kernel
theorem dX3_plus_61 : decode cX3_plus 61 = .ok (.iload_n 2, 1) := by decide +kernel
theorem dX3_plus_62 : decode cX3_plus 62 = .ok (.aaload, 1) := by decide +kernel
theorem dX3_plus_63 : decode cX3_plus 63 = .ok (.iload 6, 2) := by decide +kernel
theorem dX3_plus_65 : decode cX3_plus 65 = .ok (.laload, 1) := by decide +kernel
theorem dX3_plus_66 : decode cX3_plus 66 = .ok (.lstore 7, 2) := by decide +kernel
theorem dX3_plus_68 : decode cX3_plus 68 = .ok (.aload_n 0, 1) := by decide +kernel
theorem dX3_plus_69 : decode cX3_plus 69 = .ok (.getfield 40, 3) := by decide +kernel
theorem dX3_plus_72 : decode cX3_plus 72 = .ok (.iload 6, 2) := by decide +kernel
theorem dX3_plus_74 : decode cX3_plus 74 = .ok (.aload_n 0, 1) := by decide +kernel
theorem dX3_plus_75 : decode cX3_plus 75 = .ok (.getfield 14, 3) := by decide +kernel
theorem dX3_plus_78 : decode cX3_plus 78 = .ok (.getfield 86, 3) := by decide +kernel
theorem dX3_plus_81 : decode cX3_plus 81 = .ok (.iload_n 1, 1) := by decide +kernel
theorem dX3_plus_82 : decode cX3_plus 82 = .ok (.aaload, 1) := by decide +kernel
theorem dX3_plus_83 : decode cX3_plus 83 = .ok (.iload 6, 2) := by decide +kernel
theorem dX3_plus_85 : decode cX3_plus 85 = .ok (.laload, 1) := by decide +kernel
theorem dX3_plus_86 : decode cX3_plus 86 = .ok (.iload_n 3, 1) := by decide +kernel
theorem dX3_plus_87 : decode cX3_plus 87 = .ok (.ifCond .eq 9, 3) := by decide +kernel
theorem dX3_plus_90 : decode cX3_plus 90 = .ok (.lload 7, 2) := by decide +kernel
theorem dX3_plus_92 : decode cX3_plus 92 = .ok (.lneg, 1) := by decide +kernel
theorem dX3_plus_93 : decode cX3_plus 93 = .ok (.goto 5, 3) := by decide +kernel
theorem dX3_plus_96 : decode cX3_plus 96 = .ok (.lload 7, 2) := by decide +kernel
theorem dX3_plus_98 : decode cX3_plus 98 = .ok (.invokestatic 255, 3) := by decide +kernel
theorem dX3_plus_101 : decode cX3_plus 101 = .ok (.lastore, 1) := by decide +kernel
theorem dX3_plus_102 : decode cX3_plus 102 = .ok (.iinc 5 1, 3) := by decide +kernel
theorem dX3_plus_105 : decode cX3_plus 105 = .ok (.iinc 6 1, 3) := by decide +kernel
theorem dX3_plus_108 : decode cX3_plus 108 = .ok (.goto (-82), 3) := by decide +kernel
theorem dX3_plus_111 : decode cX3_plus 111 = .ok (.aload_n 0, 1) := by decide +kernel
theorem dX3_plus_112 : decode cX3_plus 112 = .ok (.iload_n 1, 1) := by decide +kernel
theorem dX3_plus_113 : decode cX3_plus 113 = .ok (.invokevirtual 258, 3) := by decide +kernel
theorem dX3_plus_116 : decode cX3_plus 116 = .ok (.pop, 1) := by decide +kernel
theorem dX3_plus_117 : decode cX3_plus 117 = .ok (.iload 5, 2) := by decide +kernel
theorem dX3_plus_119 : decode cX3_plus 119 = .ok (.ireturn, 1) := by decide +kernel
theorem dX3_scale_0 : decode cX3_scale 0 = .ok (.aload_n 0, 1) := by decide +kernel
theorem dX3_scale_1 : decode cX3_scale 1 = .ok (.iload_n 1, 1) := by decide +kernel
theorem dX3_scale_2 : decode cX3_scale 2 = .ok (.invokevirtual 66, 3) := by decide +kernel
theorem dX3_scale_5 : decode cX3_scale 5 = .ok (.iload_n 3, 1) := by decide +kernel
theorem dX3_scale_6 : decode cX3_scale 6 = .ok (.invokestatic 125, 3) := by decide +kernel
theorem dX3_scale_9 : decode cX3_scale 9 = .ok (.iload_n 2, 1) := by decide +kernel
theorem dX3_scale_10 : decode cX3_scale 10 = .ok (.bipush (-9), 2) := by decide +kernel
theorem dX3_scale_12 : decode cX3_scale 12 = .ok (.if_icmp .lt 13, 3) := by decide +kernel
theorem dX3_scale_15 : decode cX3_scale 15 = .ok (.iload_n 2, 1) := by decide +kernel
theorem dX3_scale_16 : decode cX3_scale 16 = .ok (.bipush 9, 2) := by decide +kernel
theorem dX3_scale_18 : decode cX3_scale 18 = .ok (.if_icmp .gt 7, 3) := by decide +kernel
theorem dX3_scale_21 : decode cX3_scale 21 = .ok (.iconst 1, 1) := by decide +kernel
theorem dX3_scale_22 : decode cX3_scale 22 = .ok (.goto 4, 3) := by decide +kernel
theorem dX3_scale_25 : decode cX3_scale 25 = .ok (.iconst 0, 1) := by decide +kernel
theorem dX3_scale_26 : decode cX3_scale 26 = .ok (.invokestatic 73, 3) := by decide +kernel
theorem dX3_scale_29 : decode cX3_scale 29 = .ok (.aload_n 0, 1) := by decide +kernel
theorem dX3_scale_30 : decode cX3_scale 30 = .ok (.iload_n 1, 1) := by decide +kernel
theorem dX3_scale_31 : decode cX3_scale 31 = .ok (.invokevirtual 252, 3) := by decide +kernel
theorem dX3_scale_34 : decode cX3_scale 34 = .ok (.iconst 0, 1) := by decide +kernel
theorem dX3_scale_35 : decode cX3_scale 35 = .ok (.istore 4, 2) := by decide +kernel
theorem dX3_scale_37 : decode cX3_scale 37 = .ok (.iconst 0, 1) := by decide +kernel
theorem dX3_scale_38 : decode cX3_scale 38 = .ok (.istore 5, 2) := by decide +kernel
theorem dX3_scale_40 : decode cX3_scale 40 = .ok (.iload 5, 2) := by decide +kernel
theorem dX3_scale_42 : decode cX3_scale 42 = .ok (.aload_n 0, 1) := by decide +kernel
theorem dX3_scale_43 : decode cX3_scale 43 = .ok (.getfield 14, 3) := by decide +kernel
theorem dX3_scale_46 : decode cX3_scale 46 = .ok (.getfield 76, 3) := by decide +kernel
theorem dX3_scale_49 : decode cX3_scale 49 = .ok (.if_icmp .ge 49, 3) := by decide +kernel
theorem dX3_scale_52 : decode cX3_scale 52 = .ok (.aload_n 0, 1) := by decide +kernel
theorem dX3_scale_53 : decode cX3_scale 53 = .ok (.getfield 14, 3) := by decide +kernel
theorem dX3_scale_56 : decode cX3_scale 56 = .ok (.iload_n 1, 1) := by decide +kernel
theorem dX3_scale_57 : decode cX3_scale 57 = .ok (.iload 5, 2) := by decide +kernel
theorem dX3_scale_59 : decode cX3_scale 59 = .ok (.iload_n 3, 1) := by decide +kernel
theorem dX3_scale_60 : decode cX3_scale 60 = .ok (.invokevirtual 150, 3) := by decide +kernel
theorem dX3_scale_63 : decode cX3_scale 63 = .ok (.ifCond .eq 29, 3) := by decide +kernel
theorem dX3_scale_66 : decode cX3_scale 66 = .ok (.aload_n 0, 1) := by decide +kernel
theorem dX3_scale_67 : decode cX3_scale 67 = .ok (.getfield 40, 3) := by decide +kernel
theorem dX3_scale_70 : decode cX3_scale 70 = .ok (.iload 5, 2) := by decide +kernel
theorem dX3_scale_72 : decode cX3_scale 72 = .ok (.aload_n 0, 1) := by decide +kernel
theorem dX3_scale_73 : decode cX3_scale 73 = .ok (.getfield 14, 3) := by decide +kernel
theorem dX3_scale_76 : decode cX3_scale 76 = .ok (.getfield 86, 3) := by decide +kernel
theorem dX3_scale_79 : decode cX3_scale 79 = .ok (.iload_n 1, 1) := by decide +kernel
theorem dX3_scale_80 : decode cX3_scale 80 = .ok (.aaload, 1) := by decide +kernel
theorem dX3_scale_81 : decode cX3_scale 81 = .ok (.iload 5, 2) := by decide +kernel
theorem dX3_scale_83 : decode cX3_scale 83 = .ok (.laload, 1) := by decide +kernel
theorem dX3_scale_84 : decode cX3_scale 84 = .ok (.iload_n 2, 1) := by decide +kernel
theorem dX3_scale_85 : decode cX3_scale 85 = .ok (.invokestatic 261, 3) := by decide +kernel
theorem dX3_scale_88 : decode cX3_scale 88 = .ok (.lastore, 1) := by decide +kernel
theorem dX3_scale_89 : decode cX3_scale 89 = .ok (.iinc 4 1, 3) := by decide +kernel
theorem dX3_scale_92 : decode cX3_scale 92 = .ok (.iinc 5 1, 3) := by decide +kernel
theorem dX3_scale_95 : decode cX3_scale 95 = .ok (.goto (-55), 3) := by decide +kernel
theorem dX3_scale_98 : decode cX3_scale 98 = .ok (.aload_n 0, 1) := by decide +kernel
theorem dX3_scale_99 : decode cX3_scale 99 = .ok (.iload_n 1, 1) := by decide +kernel
theorem dX3_scale_100 : decode cX3_scale 100 = .ok (.invokevirtual 258, 3) := by decide +kernel
theorem dX3_scale_103 : decode cX3_scale 103 = .ok (.pop, 1) := by decide +kernel
theorem dX3_scale_104 : decode cX3_scale 104 = .ok (.iload 4, 2) := by decide +kernel
theorem dX3_scale_106 : decode cX3_scale 106 = .ok (.ireturn, 1) := by decide +kernel
theorem dX3_shift_0 : decode cX3_shift 0 = .ok (.aload_n 0, 1) := by decide +kernel
theorem dX3_shift_1 : decode cX3_shift 1 = .ok (.iload_n 1, 1) := by decide +kernel
theorem dX3_shift_2 : decode cX3_shift 2 = .ok (.invokevirtual 66, 3) := by decide +kernel
theorem dX3_shift_5 : decode cX3_shift 5 = .ok (.iload_n 3, 1) := by decide +kernel
theorem dX3_shift_6 : decode cX3_shift 6 = .ok (.invokestatic 125, 3) := by decide +kernel
theorem dX3_shift_9 : decode cX3_shift 9 = .ok (.iload_n 2, 1) := by decide +kernel
theorem dX3_shift_10 : decode cX3_shift 10 = .ok (.ifCond .eq 19, 3) := by decide +kernel
theorem dX3_shift_13 : decode cX3_shift 13 = .ok (.iload_n 2, 1) := by decide +kernel
theorem dX3_shift_14 : decode cX3_shift 14 = .ok (.bipush (-62), 2) := by decide +kernel
theorem dX3_shift_16 : decode cX3_shift 16 = .ok (.if_icmp .lt 13, 3) := by decide +kernel
theorem dX3_shift_19 : decode cX3_shift 19 = .ok (.iload_n 2, 1) := by decide +kernel
theorem dX3_shift_20 : decode cX3_shift 20 = .ok (.bipush 62, 2) := by decide +kernel
theorem dX3_shift_22 : decode cX3_shift 22 = .ok (.if_icmp .gt 7, 3) := by decide +kernel
theorem dX3_shift_25 : decode cX3_shift 25 = .ok (.iconst 1, 1) := by decide +kernel
theorem dX3_shift_26 : decode cX3_shift 26 = .ok (.goto 4, 3) := by decide +kernel
theorem dX3_shift_29 : decode cX3_shift 29 = .ok (.iconst 0, 1) := by decide +kernel
theorem dX3_shift_30 : decode cX3_shift 30 = .ok (.invokestatic 73, 3) := by decide +kernel
theorem dX3_shift_33 : decode cX3_shift 33 = .ok (.aload_n 0, 1) := by decide +kernel
theorem dX3_shift_34 : decode cX3_shift 34 = .ok (.iload_n 1, 1) := by decide +kernel
theorem dX3_shift_35 : decode cX3_shift 35 = .ok (.invokevirtual 252, 3) := by decide +kernel
theorem dX3_shift_38 : decode cX3_shift 38 = .ok (.iconst 0, 1) := by decide +kernel
theorem dX3_shift_39 : decode cX3_shift 39 = .ok (.istore 4, 2) := by decide +kernel
theorem dX3_shift_41 : decode cX3_shift 41 = .ok (.iconst 0, 1) := by decide +kernel
theorem dX3_shift_42 : decode cX3_shift 42 = .ok (.istore 5, 2) := by decide +kernel
theorem dX3_shift_44 : decode cX3_shift 44 = .ok (.iload 5, 2) := by decide +kernel
theorem dX3_shift_46 : decode cX3_shift 46 = .ok (.aload_n 0, 1) := by decide +kernel
theorem dX3_shift_47 : decode cX3_shift 47 = .ok (.getfield 14, 3) := by decide +kernel
theorem dX3_shift_50 : decode cX3_shift 50 = .ok (.getfield 76, 3) := by decide +kernel
theorem dX3_shift_53 : decode cX3_shift 53 = .ok (.if_icmp .ge 49, 3) := by decide +kernel
theorem dX3_shift_56 : decode cX3_shift 56 = .ok (.aload_n 0, 1) := by decide +kernel
theorem dX3_shift_57 : decode cX3_shift 57 = .ok (.getfield 14, 3) := by decide +kernel
theorem dX3_shift_60 : decode cX3_shift 60 = .ok (.iload_n 1, 1) := by decide +kernel
theorem dX3_shift_61 : decode cX3_shift 61 = .ok (.iload 5, 2) := by decide +kernel
theorem dX3_shift_63 : decode cX3_shift 63 = .ok (.iload_n 3, 1) := by decide +kernel
theorem dX3_shift_64 : decode cX3_shift 64 = .ok (.invokevirtual 150, 3) := by decide +kernel
theorem dX3_shift_67 : decode cX3_shift 67 = .ok (.ifCond .eq 29, 3) := by decide +kernel
theorem dX3_shift_70 : decode cX3_shift 70 = .ok (.aload_n 0, 1) := by decide +kernel
theorem dX3_shift_71 : decode cX3_shift 71 = .ok (.getfield 40, 3) := by decide +kernel
theorem dX3_shift_74 : decode cX3_shift 74 = .ok (.iload 5, 2) := by decide +kernel
theorem dX3_shift_76 : decode cX3_shift 76 = .ok (.aload_n 0, 1) := by decide +kernel
theorem dX3_shift_77 : decode cX3_shift 77 = .ok (.getfield 14, 3) := by decide +kernel
theorem dX3_shift_80 : decode cX3_shift 80 = .ok (.getfield 86, 3) := by decide +kernel
theorem dX3_shift_83 : decode cX3_shift 83 = .ok (.iload_n 1, 1) := by decide +kernel
theorem dX3_shift_84 : decode cX3_shift 84 = .ok (.aaload, 1) := by decide +kernel
theorem dX3_shift_85 : decode cX3_shift 85 = .ok (.iload 5, 2) := by decide +kernel
theorem dX3_shift_87 : decode cX3_shift 87 = .ok (.laload, 1) := by decide +kernel
theorem dX3_shift_88 : decode cX3_shift 88 = .ok (.iload_n 2, 1) := by decide +kernel
theorem dX3_shift_89 : decode cX3_shift 89 = .ok (.invokestatic 265, 3) := by decide +kernel
theorem dX3_shift_92 : decode cX3_shift 92 = .ok (.lastore, 1) := by decide +kernel
theorem dX3_shift_93 : decode cX3_shift 93 = .ok (.iinc 4 1, 3) := by decide +kernel
theorem dX3_shift_96 : decode cX3_shift 96 = .ok (.iinc 5 1, 3) := by decide +kernel
theorem dX3_shift_99 : decode cX3_shift 99 = .ok (.goto (-55), 3) := by decide +kernel
theorem dX3_shift_102 : decode cX3_shift 102 = .ok (.aload_n 0, 1) := by decide +kernel
theorem dX3_shift_103 : decode cX3_shift 103 = .ok (.iload_n 1, 1) := by decide +kernel
theorem dX3_shift_104 : decode cX3_shift 104 = .ok (.invokevirtual 258, 3) := by decide +kernel
theorem dX3_shift_107 : decode cX3_shift 107 = .ok (.pop, 1) := by decide +kernel
theorem dX3_shift_108 : decode cX3_shift 108 = .ok (.iload 4, 2) := by decide +kernel
theorem dX3_shift_110 : decode cX3_shift 110 = .ok (.ireturn, 1) := by decide +kernel
theorem dX3_hold_0 : decode cX3_hold 0 = .ok (.aload_n 0, 1) := by decide +kernel
theorem dX3_hold_1 : decode cX3_hold 1 = .ok (.iload_n 1, 1) := by decide +kernel
theorem dX3_hold_2 : decode cX3_hold 2 = .ok (.invokevirtual 66, 3) := by decide +kernel
theorem dX3_hold_5 : decode cX3_hold 5 = .ok (.iload 6, 2) := by decide +kernel
theorem dX3_hold_7 : decode cX3_hold 7 = .ok (.invokestatic 125, 3) := by decide +kernel
theorem dX3_hold_10 : decode cX3_hold 10 = .ok (.lload_n 2, 1) := by decide +kernel
theorem dX3_hold_11 : decode cX3_hold 11 = .ok (.lload 4, 2) := by decide +kernel
theorem dX3_hold_13 : decode cX3_hold 13 = .ok (.lcmp, 1) := by decide +kernel
theorem dX3_hold_14 : decode cX3_hold 14 = .ok (.ifCond .gt 7, 3) := by decide +kernel
theorem dX3_hold_17 : decode cX3_hold 17 = .ok (.iconst 1, 1) := by decide +kernel
theorem dX3_hold_18 : decode cX3_hold 18 = .ok (.goto 4, 3) := by decide +kernel
theorem dX3_hold_21 : decode cX3_hold 21 = .ok (.iconst 0, 1) := by decide +kernel
theorem dX3_hold_22 : decode cX3_hold 22 = .ok (.invokestatic 73, 3) := by decide +kernel
theorem dX3_hold_25 : decode cX3_hold 25 = .ok (.aload_n 0, 1) := by decide +kernel
theorem dX3_hold_26 : decode cX3_hold 26 = .ok (.iload_n 1, 1) := by decide +kernel
theorem dX3_hold_27 : decode cX3_hold 27 = .ok (.lload_n 2, 1) := by decide +kernel
theorem dX3_hold_28 : decode cX3_hold 28 = .ok (.invokevirtual 82, 3) := by decide +kernel
theorem dX3_hold_31 : decode cX3_hold 31 = .ok (.aload_n 0, 1) := by decide +kernel
theorem dX3_hold_32 : decode cX3_hold 32 = .ok (.iload_n 1, 1) := by decide +kernel
theorem dX3_hold_33 : decode cX3_hold 33 = .ok (.lload 4, 2) := by decide +kernel
theorem dX3_hold_35 : decode cX3_hold 35 = .ok (.invokevirtual 82, 3) := by decide +kernel
theorem dX3_hold_38 : decode cX3_hold 38 = .ok (.aload_n 0, 1) := by decide +kernel
theorem dX3_hold_39 : decode cX3_hold 39 = .ok (.iload_n 1, 1) := by decide +kernel
theorem dX3_hold_40 : decode cX3_hold 40 = .ok (.invokevirtual 252, 3) := by decide +kernel
theorem dX3_hold_43 : decode cX3_hold 43 = .ok (.iconst 0, 1) := by decide +kernel
theorem dX3_hold_44 : decode cX3_hold 44 = .ok (.istore 7, 2) := by decide +kernel
theorem dX3_hold_46 : decode cX3_hold 46 = .ok (.iload 7, 2) := by decide +kernel
theorem dX3_hold_48 : decode cX3_hold 48 = .ok (.aload_n 0, 1) := by decide +kernel
theorem dX3_hold_49 : decode cX3_hold 49 = .ok (.getfield 14, 3) := by decide +kernel
theorem dX3_hold_52 : decode cX3_hold 52 = .ok (.getfield 76, 3) := by decide +kernel
theorem dX3_hold_55 : decode cX3_hold 55 = .ok (.if_icmp .ge 52, 3) := by decide +kernel
theorem dX3_hold_58 : decode cX3_hold 58 = .ok (.aload_n 0, 1) := by decide +kernel
theorem dX3_hold_59 : decode cX3_hold 59 = .ok (.getfield 14, 3) := by decide +kernel
theorem dX3_hold_62 : decode cX3_hold 62 = .ok (.iload_n 1, 1) := by decide +kernel
theorem dX3_hold_63 : decode cX3_hold 63 = .ok (.iload 7, 2) := by decide +kernel
theorem dX3_hold_65 : decode cX3_hold 65 = .ok (.iload 6, 2) := by decide +kernel
theorem dX3_hold_67 : decode cX3_hold 67 = .ok (.invokevirtual 150, 3) := by decide +kernel
theorem dX3_hold_70 : decode cX3_hold 70 = .ok (.ifCond .eq 31, 3) := by decide +kernel
theorem dX3_hold_73 : decode cX3_hold 73 = .ok (.aload_n 0, 1) := by decide +kernel
theorem dX3_hold_74 : decode cX3_hold 74 = .ok (.getfield 40, 3) := by decide +kernel
theorem dX3_hold_77 : decode cX3_hold 77 = .ok (.iload 7, 2) := by decide +kernel
theorem dX3_hold_79 : decode cX3_hold 79 = .ok (.lload_n 2, 1) := by decide +kernel
theorem dX3_hold_80 : decode cX3_hold 80 = .ok (.lload 4, 2) := by decide +kernel
theorem dX3_hold_82 : decode cX3_hold 82 = .ok (.aload_n 0, 1) := by decide +kernel
theorem dX3_hold_83 : decode cX3_hold 83 = .ok (.getfield 14, 3) := by decide +kernel
theorem dX3_hold_86 : decode cX3_hold 86 = .ok (.getfield 86, 3) := by decide +kernel
theorem dX3_hold_89 : decode cX3_hold 89 = .ok (.iload_n 1, 1) := by decide +kernel
theorem dX3_hold_90 : decode cX3_hold 90 = .ok (.aaload, 1) := by decide +kernel
theorem dX3_hold_91 : decode cX3_hold 91 = .ok (.iload 7, 2) := by decide +kernel
theorem dX3_hold_93 : decode cX3_hold 93 = .ok (.laload, 1) := by decide +kernel
theorem dX3_hold_94 : decode cX3_hold 94 = .ok (.invokestatic 240, 3) := by decide +kernel
theorem dX3_hold_97 : decode cX3_hold 97 = .ok (.invokestatic 243, 3) := by decide +kernel
theorem dX3_hold_100 : decode cX3_hold 100 = .ok (.lastore, 1) := by decide +kernel
theorem dX3_hold_101 : decode cX3_hold 101 = .ok (.iinc 7 1, 3) := by decide +kernel
theorem dX3_hold_104 : decode cX3_hold 104 = .ok (.goto (-58), 3) := by decide +kernel
theorem dX3_hold_107 : decode cX3_hold 107 = .ok (.aload_n 0, 1) := by decide +kernel
theorem dX3_hold_108 : decode cX3_hold 108 = .ok (.iload_n 1, 1) := by decide +kernel
theorem dX3_hold_109 : decode cX3_hold 109 = .ok (.invokevirtual 258, 3) := by decide +kernel
theorem dX3_hold_112 : decode cX3_hold 112 = .ok (.ireturn, 1) := by decide +kernel
theorem dX3_fill_0 : decode cX3_fill 0 = .ok (.aload_n 0, 1) := by decide +kernel
theorem dX3_fill_1 : decode cX3_fill 1 = .ok (.iload_n 1, 1) := by decide +kernel
theorem dX3_fill_2 : decode cX3_fill 2 = .ok (.invokevirtual 66, 3) := by decide +kernel
theorem dX3_fill_5 : decode cX3_fill 5 = .ok (.iload 4, 2) := by decide +kernel
theorem dX3_fill_7 : decode cX3_fill 7 = .ok (.invokestatic 125, 3) := by decide +kernel
theorem dX3_fill_10 : decode cX3_fill 10 = .ok (.aload_n 0, 1) := by decide +kernel
theorem dX3_fill_11 : decode cX3_fill 11 = .ok (.iload_n 1, 1) := by decide +kernel
theorem dX3_fill_12 : decode cX3_fill 12 = .ok (.lload_n 2, 1) := by decide +kernel
theorem dX3_fill_13 : decode cX3_fill 13 = .ok (.invokevirtual 82, 3) := by decide +kernel
theorem dX3_fill_16 : decode cX3_fill 16 = .ok (.iconst 0, 1) := by decide +kernel
theorem dX3_fill_17 : decode cX3_fill 17 = .ok (.istore 5, 2) := by decide +kernel
theorem dX3_fill_19 : decode cX3_fill 19 = .ok (.iconst 0, 1) := by decide +kernel
theorem dX3_fill_20 : decode cX3_fill 20 = .ok (.istore 6, 2) := by decide +kernel
theorem dX3_fill_22 : decode cX3_fill 22 = .ok (.iload 6, 2) := by decide +kernel
theorem dX3_fill_24 : decode cX3_fill 24 = .ok (.aload_n 0, 1) := by decide +kernel
theorem dX3_fill_25 : decode cX3_fill 25 = .ok (.getfield 14, 3) := by decide +kernel
theorem dX3_fill_28 : decode cX3_fill 28 = .ok (.getfield 76, 3) := by decide +kernel
theorem dX3_fill_31 : decode cX3_fill 31 = .ok (.if_icmp .ge 65, 3) := by decide +kernel
theorem dX3_fill_34 : decode cX3_fill 34 = .ok (.aload_n 0, 1) := by decide +kernel
theorem dX3_fill_35 : decode cX3_fill 35 = .ok (.getfield 14, 3) := by decide +kernel
theorem dX3_fill_38 : decode cX3_fill 38 = .ok (.iload 6, 2) := by decide +kernel
theorem dX3_fill_40 : decode cX3_fill 40 = .ok (.iload 4, 2) := by decide +kernel
theorem dX3_fill_42 : decode cX3_fill 42 = .ok (.invokevirtual 162, 3) := by decide +kernel
theorem dX3_fill_45 : decode cX3_fill 45 = .ok (.ifCond .eq 45, 3) := by decide +kernel
theorem dX3_fill_48 : decode cX3_fill 48 = .ok (.iload 5, 2) := by decide +kernel
theorem dX3_fill_50 : decode cX3_fill 50 = .ok (.aload_n 0, 1) := by decide +kernel
theorem dX3_fill_51 : decode cX3_fill 51 = .ok (.getfield 14, 3) := by decide +kernel
theorem dX3_fill_54 : decode cX3_fill 54 = .ok (.getfield 86, 3) := by decide +kernel
theorem dX3_fill_57 : decode cX3_fill 57 = .ok (.iload_n 1, 1) := by decide +kernel
theorem dX3_fill_58 : decode cX3_fill 58 = .ok (.aaload, 1) := by decide +kernel
theorem dX3_fill_59 : decode cX3_fill 59 = .ok (.iload 6, 2) := by decide +kernel
theorem dX3_fill_61 : decode cX3_fill 61 = .ok (.laload, 1) := by decide +kernel
theorem dX3_fill_62 : decode cX3_fill 62 = .ok (.ldc2_w 90, 3) := by decide +kernel
theorem dX3_fill_65 : decode cX3_fill 65 = .ok (.lcmp, 1) := by decide +kernel
theorem dX3_fill_66 : decode cX3_fill 66 = .ok (.ifCond .ne 7, 3) := by decide +kernel
theorem dX3_fill_69 : decode cX3_fill 69 = .ok (.iconst 1, 1) := by decide +kernel
theorem dX3_fill_70 : decode cX3_fill 70 = .ok (.goto 4, 3) := by decide +kernel
theorem dX3_fill_73 : decode cX3_fill 73 = .ok (.iconst 0, 1) := by decide +kernel
theorem dX3_fill_74 : decode cX3_fill 74 = .ok (.iadd, 1) := by decide +kernel
theorem dX3_fill_75 : decode cX3_fill 75 = .ok (.istore 5, 2) := by decide +kernel
theorem dX3_fill_77 : decode cX3_fill 77 = .ok (.aload_n 0, 1) := by decide +kernel
theorem dX3_fill_78 : decode cX3_fill 78 = .ok (.getfield 14, 3) := by decide +kernel
theorem dX3_fill_81 : decode cX3_fill 81 = .ok (.getfield 86, 3) := by decide +kernel
theorem dX3_fill_84 : decode cX3_fill 84 = .ok (.iload_n 1, 1) := by decide +kernel
theorem dX3_fill_85 : decode cX3_fill 85 = .ok (.aaload, 1) := by decide +kernel
theorem dX3_fill_86 : decode cX3_fill 86 = .ok (.iload 6, 2) := by decide +kernel
theorem dX3_fill_88 : decode cX3_fill 88 = .ok (.lload_n 2, 1) := by decide +kernel
theorem dX3_fill_89 : decode cX3_fill 89 = .ok (.lastore, 1) := by decide +kernel
theorem dX3_fill_90 : decode cX3_fill 90 = .ok (.iinc 6 1, 3) := by decide +kernel
theorem dX3_fill_93 : decode cX3_fill 93 = .ok (.goto (-71), 3) := by decide +kernel
theorem dX3_fill_96 : decode cX3_fill 96 = .ok (.iload 5, 2) := by decide +kernel
theorem dX3_fill_98 : decode cX3_fill 98 = .ok (.ireturn, 1) := by decide +kernel
theorem dX3_copy_0 : decode cX3_copy 0 = .ok (.aload_n 0, 1) := by decide +kernel
theorem dX3_copy_1 : decode cX3_copy 1 = .ok (.iload_n 1, 1) := by decide +kernel
theorem dX3_copy_2 : decode cX3_copy 2 = .ok (.invokevirtual 66, 3) := by decide +kernel
theorem dX3_copy_5 : decode cX3_copy 5 = .ok (.aload_n 0, 1) := by decide +kernel
theorem dX3_copy_6 : decode cX3_copy 6 = .ok (.iload_n 2, 1) := by decide +kernel
theorem dX3_copy_7 : decode cX3_copy 7 = .ok (.invokevirtual 66, 3) := by decide +kernel
theorem dX3_copy_10 : decode cX3_copy 10 = .ok (.iload_n 3, 1) := by decide +kernel
theorem dX3_copy_11 : decode cX3_copy 11 = .ok (.invokestatic 125, 3) := by decide +kernel
theorem dX3_copy_14 : decode cX3_copy 14 = .ok (.aload_n 0, 1) := by decide +kernel
theorem dX3_copy_15 : decode cX3_copy 15 = .ok (.iload_n 1, 1) := by decide +kernel
theorem dX3_copy_16 : decode cX3_copy 16 = .ok (.invokevirtual 252, 3) := by decide +kernel
theorem dX3_copy_19 : decode cX3_copy 19 = .ok (.iconst 0, 1) := by decide +kernel
theorem dX3_copy_20 : decode cX3_copy 20 = .ok (.istore 4, 2) := by decide +kernel
theorem dX3_copy_22 : decode cX3_copy 22 = .ok (.iload 4, 2) := by decide +kernel
theorem dX3_copy_24 : decode cX3_copy 24 = .ok (.aload_n 0, 1) := by decide +kernel
theorem dX3_copy_25 : decode cX3_copy 25 = .ok (.getfield 14, 3) := by decide +kernel
theorem dX3_copy_28 : decode cX3_copy 28 = .ok (.getfield 76, 3) := by decide +kernel
theorem dX3_copy_31 : decode cX3_copy 31 = .ok (.if_icmp .ge 41, 3) := by decide +kernel
theorem dX3_copy_34 : decode cX3_copy 34 = .ok (.aload_n 0, 1) := by decide +kernel
theorem dX3_copy_35 : decode cX3_copy 35 = .ok (.getfield 14, 3) := by decide +kernel
theorem dX3_copy_38 : decode cX3_copy 38 = .ok (.iload 4, 2) := by decide +kernel
theorem dX3_copy_40 : decode cX3_copy 40 = .ok (.iload_n 3, 1) := by decide +kernel
theorem dX3_copy_41 : decode cX3_copy 41 = .ok (.invokevirtual 162, 3) := by decide +kernel
theorem dX3_copy_44 : decode cX3_copy 44 = .ok (.ifCond .eq 22, 3) := by decide +kernel
theorem dX3_copy_47 : decode cX3_copy 47 = .ok (.aload_n 0, 1) := by decide +kernel
theorem dX3_copy_48 : decode cX3_copy 48 = .ok (.getfield 40, 3) := by decide +kernel
theorem dX3_copy_51 : decode cX3_copy 51 = .ok (.iload 4, 2) := by decide +kernel
theorem dX3_copy_53 : decode cX3_copy 53 = .ok (.aload_n 0, 1) := by decide +kernel
theorem dX3_copy_54 : decode cX3_copy 54 = .ok (.getfield 14, 3) := by decide +kernel
theorem dX3_copy_57 : decode cX3_copy 57 = .ok (.getfield 86, 3) := by decide +kernel
theorem dX3_copy_60 : decode cX3_copy 60 = .ok (.iload_n 2, 1) := by decide +kernel
theorem dX3_copy_61 : decode cX3_copy 61 = .ok (.aaload, 1) := by decide +kernel
theorem dX3_copy_62 : decode cX3_copy 62 = .ok (.iload 4, 2) := by decide +kernel
theorem dX3_copy_64 : decode cX3_copy 64 = .ok (.laload, 1) := by decide +kernel
theorem dX3_copy_65 : decode cX3_copy 65 = .ok (.lastore, 1) := by decide +kernel
theorem dX3_copy_66 : decode cX3_copy 66 = .ok (.iinc 4 1, 3) := by decide +kernel
theorem dX3_copy_69 : decode cX3_copy 69 = .ok (.goto (-47), 3) := by decide +kernel
theorem dX3_copy_72 : decode cX3_copy 72 = .ok (.aload_n 0, 1) := by decide +kernel
theorem dX3_copy_73 : decode cX3_copy 73 = .ok (.iload_n 1, 1) := by decide +kernel
theorem dX3_copy_74 : decode cX3_copy 74 = .ok (.invokevirtual 258, 3) := by decide +kernel
theorem dX3_copy_77 : decode cX3_copy 77 = .ok (.ireturn, 1) := by decide +kernel
theorem dX3_pick_0 : decode cX3_pick 0 = .ok (.aload_n 0, 1) := by decide +kernel
theorem dX3_pick_1 : decode cX3_pick 1 = .ok (.iload_n 1, 1) := by decide +kernel
theorem dX3_pick_2 : decode cX3_pick 2 = .ok (.invokevirtual 66, 3) := by decide +kernel
theorem dX3_pick_5 : decode cX3_pick 5 = .ok (.aload_n 0, 1) := by decide +kernel
theorem dX3_pick_6 : decode cX3_pick 6 = .ok (.iload_n 2, 1) := by decide +kernel
theorem dX3_pick_7 : decode cX3_pick 7 = .ok (.invokevirtual 66, 3) := by decide +kernel
theorem dX3_pick_10 : decode cX3_pick 10 = .ok (.iload 4, 2) := by decide +kernel
theorem dX3_pick_12 : decode cX3_pick 12 = .ok (.invokestatic 125, 3) := by decide +kernel
theorem dX3_pick_15 : decode cX3_pick 15 = .ok (.aload_n 0, 1) := by decide +kernel
theorem dX3_pick_16 : decode cX3_pick 16 = .ok (.iload_n 1, 1) := by decide +kernel
theorem dX3_pick_17 : decode cX3_pick 17 = .ok (.invokevirtual 252, 3) := by decide +kernel
theorem dX3_pick_20 : decode cX3_pick 20 = .ok (.iconst 0, 1) := by decide +kernel
theorem dX3_pick_21 : decode cX3_pick 21 = .ok (.istore 5, 2) := by decide +kernel
theorem dX3_pick_23 : decode cX3_pick 23 = .ok (.iload 5, 2) := by decide +kernel
theorem dX3_pick_25 : decode cX3_pick 25 = .ok (.aload_n 0, 1) := by decide +kernel
theorem dX3_pick_26 : decode cX3_pick 26 = .ok (.getfield 14, 3) := by decide +kernel
theorem dX3_pick_29 : decode cX3_pick 29 = .ok (.getfield 76, 3) := by decide +kernel
theorem dX3_pick_32 : decode cX3_pick 32 = .ok (.if_icmp .ge 81, 3) := by decide +kernel
theorem dX3_pick_35 : decode cX3_pick 35 = .ok (.aload_n 0, 1) := by decide +kernel
theorem dX3_pick_36 : decode cX3_pick 36 = .ok (.getfield 14, 3) := by decide +kernel
theorem dX3_pick_39 : decode cX3_pick 39 = .ok (.iload_n 1, 1) := by decide +kernel
theorem dX3_pick_40 : decode cX3_pick 40 = .ok (.iload_n 2, 1) := by decide +kernel
theorem dX3_pick_41 : decode cX3_pick 41 = .ok (.iload 5, 2) := by decide +kernel
theorem dX3_pick_43 : decode cX3_pick 43 = .ok (.iload 4, 2) := by decide +kernel
theorem dX3_pick_45 : decode cX3_pick 45 = .ok (.invokevirtual 158, 3) := by decide +kernel
theorem dX3_pick_48 : decode cX3_pick 48 = .ok (.ifCond .eq 59, 3) := by decide +kernel
theorem dX3_pick_51 : decode cX3_pick 51 = .ok (.aload_n 0, 1) := by decide +kernel
theorem dX3_pick_52 : decode cX3_pick 52 = .ok (.getfield 14, 3) := by decide +kernel
theorem dX3_pick_55 : decode cX3_pick 55 = .ok (.getfield 86, 3) := by decide +kernel
theorem dX3_pick_58 : decode cX3_pick 58 = .ok (.iload_n 1, 1) := by decide +kernel
theorem dX3_pick_59 : decode cX3_pick 59 = .ok (.aaload, 1) := by decide +kernel
theorem dX3_pick_60 : decode cX3_pick 60 = .ok (.iload 5, 2) := by decide +kernel
theorem dX3_pick_62 : decode cX3_pick 62 = .ok (.laload, 1) := by decide +kernel
theorem dX3_pick_63 : decode cX3_pick 63 = .ok (.lstore 6, 2) := by decide +kernel
theorem dX3_pick_65 : decode cX3_pick 65 = .ok (.aload_n 0, 1) := by decide +kernel
theorem dX3_pick_66 : decode cX3_pick 66 = .ok (.getfield 14, 3) := by decide +kernel
theorem dX3_pick_69 : decode cX3_pick 69 = .ok (.getfield 86, 3) := by decide +kernel
theorem dX3_pick_72 : decode cX3_pick 72 = .ok (.iload_n 2, 1) := by decide +kernel
theorem dX3_pick_73 : decode cX3_pick 73 = .ok (.aaload, 1) := by decide +kernel
theorem dX3_pick_74 : decode cX3_pick 74 = .ok (.iload 5, 2) := by decide +kernel
theorem dX3_pick_76 : decode cX3_pick 76 = .ok (.laload, 1) := by decide +kernel
theorem dX3_pick_77 : decode cX3_pick 77 = .ok (.lstore 8, 2) := by decide +kernel
theorem dX3_pick_79 : decode cX3_pick 79 = .ok (.aload_n 0, 1) := by decide +kernel
theorem dX3_pick_80 : decode cX3_pick 80 = .ok (.getfield 40, 3) := by decide +kernel
theorem dX3_pick_83 : decode cX3_pick 83 = .ok (.iload 5, 2) := by decide +kernel
theorem dX3_pick_85 : decode cX3_pick 85 = .ok (.iload_n 3, 1) := by decide +kernel
theorem dX3_pick_86 : decode cX3_pick 86 = .ok (.ifCond .eq 13, 3) := by decide +kernel
theorem dX3_pick_89 : decode cX3_pick 89 = .ok (.lload 6, 2) := by decide +kernel
theorem dX3_pick_91 : decode cX3_pick 91 = .ok (.lload 8, 2) := by decide +kernel
theorem dX3_pick_93 : decode cX3_pick 93 = .ok (.invokestatic 243, 3) := by decide +kernel
theorem dX3_pick_96 : decode cX3_pick 96 = .ok (.goto 10, 3) := by decide +kernel
theorem dX3_pick_99 : decode cX3_pick 99 = .ok (.lload 6, 2) := by decide +kernel
theorem dX3_pick_101 : decode cX3_pick 101 = .ok (.lload 8, 2) := by decide +kernel
theorem dX3_pick_103 : decode cX3_pick 103 = .ok (.invokestatic 240, 3) := by decide +kernel
theorem dX3_pick_106 : decode cX3_pick 106 = .ok (.lastore, 1) := by decide +kernel
theorem dX3_pick_107 : decode cX3_pick 107 = .ok (.iinc 5 1, 3) := by decide +kernel
theorem dX3_pick_110 : decode cX3_pick 110 = .ok (.goto (-87), 3) := by decide +kernel
theorem dX3_pick_113 : decode cX3_pick 113 = .ok (.aload_n 0, 1) := by decide +kernel
theorem dX3_pick_114 : decode cX3_pick 114 = .ok (.iload_n 1, 1) := by decide +kernel
theorem dX3_pick_115 : decode cX3_pick 115 = .ok (.invokevirtual 258, 3) := by decide +kernel
theorem dX3_pick_118 : decode cX3_pick 118 = .ok (.ireturn, 1) := by decide +kernel
theorem dX3_wipe_0 : decode cX3_wipe 0 = .ok (.aload_n 0, 1) := by decide +kernel
theorem dX3_wipe_1 : decode cX3_wipe 1 = .ok (.iload_n 1, 1) := by decide +kernel
theorem dX3_wipe_2 : decode cX3_wipe 2 = .ok (.invokevirtual 66, 3) := by decide +kernel
theorem dX3_wipe_5 : decode cX3_wipe 5 = .ok (.iload_n 2, 1) := by decide +kernel
theorem dX3_wipe_6 : decode cX3_wipe 6 = .ok (.invokestatic 125, 3) := by decide +kernel
theorem dX3_wipe_9 : decode cX3_wipe 9 = .ok (.iconst 0, 1) := by decide +kernel
theorem dX3_wipe_10 : decode cX3_wipe 10 = .ok (.istore_n 3, 1) := by decide +kernel
theorem dX3_wipe_11 : decode cX3_wipe 11 = .ok (.iconst 0, 1) := by decide +kernel
theorem dX3_wipe_12 : decode cX3_wipe 12 = .ok (.istore 4, 2) := by decide +kernel
theorem dX3_wipe_14 : decode cX3_wipe 14 = .ok (.iload 4, 2) := by decide +kernel
theorem dX3_wipe_16 : decode cX3_wipe 16 = .ok (.aload_n 0, 1) := by decide +kernel
theorem dX3_wipe_17 : decode cX3_wipe 17 = .ok (.getfield 14, 3) := by decide +kernel
theorem dX3_wipe_20 : decode cX3_wipe 20 = .ok (.getfield 76, 3) := by decide +kernel
theorem dX3_wipe_23 : decode cX3_wipe 23 = .ok (.if_icmp .ge 41, 3) := by decide +kernel
theorem dX3_wipe_26 : decode cX3_wipe 26 = .ok (.aload_n 0, 1) := by decide +kernel
theorem dX3_wipe_27 : decode cX3_wipe 27 = .ok (.getfield 14, 3) := by decide +kernel
theorem dX3_wipe_30 : decode cX3_wipe 30 = .ok (.iload_n 1, 1) := by decide +kernel
theorem dX3_wipe_31 : decode cX3_wipe 31 = .ok (.iload 4, 2) := by decide +kernel
theorem dX3_wipe_33 : decode cX3_wipe 33 = .ok (.iload_n 2, 1) := by decide +kernel
theorem dX3_wipe_34 : decode cX3_wipe 34 = .ok (.invokevirtual 150, 3) := by decide +kernel
theorem dX3_wipe_37 : decode cX3_wipe 37 = .ok (.ifCond .eq 21, 3) := by decide +kernel
theorem dX3_wipe_40 : decode cX3_wipe 40 = .ok (.aload_n 0, 1) := by decide +kernel
theorem dX3_wipe_41 : decode cX3_wipe 41 = .ok (.getfield 14, 3) := by decide +kernel
theorem dX3_wipe_44 : decode cX3_wipe 44 = .ok (.getfield 86, 3) := by decide +kernel
theorem dX3_wipe_47 : decode cX3_wipe 47 = .ok (.iload_n 1, 1) := by decide +kernel
theorem dX3_wipe_48 : decode cX3_wipe 48 = .ok (.aaload, 1) := by decide +kernel
theorem dX3_wipe_49 : decode cX3_wipe 49 = .ok (.iload 4, 2) := by decide +kernel
theorem dX3_wipe_51 : decode cX3_wipe 51 = .ok (.ldc2_w 90, 3) := by decide +kernel
theorem dX3_wipe_54 : decode cX3_wipe 54 = .ok (.lastore, 1) := by decide +kernel
theorem dX3_wipe_55 : decode cX3_wipe 55 = .ok (.iinc 3 1, 3) := by decide +kernel
theorem dX3_wipe_58 : decode cX3_wipe 58 = .ok (.iinc 4 1, 3) := by decide +kernel
theorem dX3_wipe_61 : decode cX3_wipe 61 = .ok (.goto (-47), 3) := by decide +kernel
theorem dX3_wipe_64 : decode cX3_wipe 64 = .ok (.iload_n 3, 1) := by decide +kernel
theorem dX3_wipe_65 : decode cX3_wipe 65 = .ok (.ireturn, 1) := by decide +kernel
theorem dX3_widen_0 : decode cX3_widen 0 = .ok (.aload_n 0, 1) := by decide +kernel
theorem dX3_widen_1 : decode cX3_widen 1 = .ok (.iload_n 1, 1) := by decide +kernel
theorem dX3_widen_2 : decode cX3_widen 2 = .ok (.invokevirtual 66, 3) := by decide +kernel
theorem dX3_widen_5 : decode cX3_widen 5 = .ok (.iload_n 2, 1) := by decide +kernel
theorem dX3_widen_6 : decode cX3_widen 6 = .ok (.invokestatic 47, 3) := by decide +kernel
theorem dX3_widen_9 : decode cX3_widen 9 = .ok (.aload_n 0, 1) := by decide +kernel
theorem dX3_widen_10 : decode cX3_widen 10 = .ok (.aload_n 0, 1) := by decide +kernel
theorem dX3_widen_11 : decode cX3_widen 11 = .ok (.getfield 14, 3) := by decide +kernel
theorem dX3_widen_14 : decode cX3_widen 14 = .ok (.iload_n 1, 1) := by decide +kernel
theorem dX3_widen_15 : decode cX3_widen 15 = .ok (.invokevirtual 106, 3) := by decide +kernel
theorem dX3_widen_18 : decode cX3_widen 18 = .ok (.iload_n 2, 1) := by decide +kernel
theorem dX3_widen_19 : decode cX3_widen 19 = .ok (.if_icmp .gt 7, 3) := by decide +kernel
theorem dX3_widen_22 : decode cX3_widen 22 = .ok (.iconst 1, 1) := by decide +kernel
theorem dX3_widen_23 : decode cX3_widen 23 = .ok (.goto 4, 3) := by decide +kernel
theorem dX3_widen_26 : decode cX3_widen 26 = .ok (.iconst 0, 1) := by decide +kernel
theorem dX3_widen_27 : decode cX3_widen 27 = .ok (.invokevirtual 268, 3) := by decide +kernel
theorem dX3_widen_30 : decode cX3_widen 30 = .ok (.aload_n 0, 1) := by decide +kernel
theorem dX3_widen_31 : decode cX3_widen 31 = .ok (.getfield 14, 3) := by decide +kernel
theorem dX3_widen_34 : decode cX3_widen 34 = .ok (.getfield 58, 3) := by decide +kernel
theorem dX3_widen_37 : decode cX3_widen 37 = .ok (.iload_n 1, 1) := by decide +kernel
theorem dX3_widen_38 : decode cX3_widen 38 = .ok (.iaload, 1) := by decide +kernel
theorem dX3_widen_39 : decode cX3_widen 39 = .ok (.istore_n 3, 1) := by decide +kernel
theorem dX3_widen_40 : decode cX3_widen 40 = .ok (.aload_n 0, 1) := by decide +kernel
theorem dX3_widen_41 : decode cX3_widen 41 = .ok (.getfield 14, 3) := by decide +kernel
theorem dX3_widen_44 : decode cX3_widen 44 = .ok (.getfield 58, 3) := by decide +kernel
theorem dX3_widen_47 : decode cX3_widen 47 = .ok (.iload_n 1, 1) := by decide +kernel
theorem dX3_widen_48 : decode cX3_widen 48 = .ok (.iload_n 2, 1) := by decide +kernel
theorem dX3_widen_49 : decode cX3_widen 49 = .ok (.iastore, 1) := by decide +kernel
theorem dX3_widen_50 : decode cX3_widen 50 = .ok (.iload_n 3, 1) := by decide +kernel
theorem dX3_widen_51 : decode cX3_widen 51 = .ok (.ireturn, 1) := by decide +kernel
theorem dX3_remove_0 : decode cX3_remove 0 = .ok (.iload_n 1, 1) := by decide +kernel
theorem dX3_remove_1 : decode cX3_remove 1 = .ok (.invokestatic 125, 3) := by decide +kernel
theorem dX3_remove_4 : decode cX3_remove 4 = .ok (.aload_n 0, 1) := by decide +kernel
theorem dX3_remove_5 : decode cX3_remove 5 = .ok (.getfield 25, 3) := by decide +kernel
theorem dX3_remove_8 : decode cX3_remove 8 = .ok (.invokevirtual 271, 3) := by decide +kernel
theorem dX3_remove_11 : decode cX3_remove 11 = .ok (.aload_n 0, 1) := by decide +kernel
theorem dX3_remove_12 : decode cX3_remove 12 = .ok (.iload_n 1, 1) := by decide +kernel
theorem dX3_remove_13 : decode cX3_remove 13 = .ok (.iconst 0, 1) := by decide +kernel
theorem dX3_remove_14 : decode cX3_remove 14 = .ok (.invokevirtual 272, 3) := by decide +kernel
theorem dX3_remove_17 : decode cX3_remove 17 = .ok (.aload_n 0, 1) := by decide +kernel
theorem dX3_remove_18 : decode cX3_remove 18 = .ok (.invokevirtual 276, 3) := by decide +kernel
theorem dX3_remove_21 : decode cX3_remove 21 = .ok (.pop, 1) := by decide +kernel
theorem dX3_remove_22 : decode cX3_remove 22 = .ok (.aload_n 0, 1) := by decide +kernel
theorem dX3_remove_23 : decode cX3_remove 23 = .ok (.getfield 14, 3) := by decide +kernel
theorem dX3_remove_26 : decode cX3_remove 26 = .ok (.getfield 76, 3) := by decide +kernel
theorem dX3_remove_29 : decode cX3_remove 29 = .ok (.ireturn, 1) := by decide +kernel
theorem dX3_first_0 : decode cX3_first 0 = .ok (.iload_n 1, 1) := by decide +kernel
theorem dX3_first_1 : decode cX3_first 1 = .ok (.invokestatic 125, 3) := by decide +kernel
theorem dX3_first_4 : decode cX3_first 4 = .ok (.aload_n 0, 1) := by decide +kernel
theorem dX3_first_5 : decode cX3_first 5 = .ok (.getfield 25, 3) := by decide +kernel
theorem dX3_first_8 : decode cX3_first 8 = .ok (.invokevirtual 271, 3) := by decide +kernel
theorem dX3_first_11 : decode cX3_first 11 = .ok (.aload_n 0, 1) := by decide +kernel
theorem dX3_first_12 : decode cX3_first 12 = .ok (.iload_n 1, 1) := by decide +kernel
theorem dX3_first_13 : decode cX3_first 13 = .ok (.iconst 1, 1) := by decide +kernel
theorem dX3_first_14 : decode cX3_first 14 = .ok (.invokevirtual 272, 3) := by decide +kernel
theorem dX3_first_17 : decode cX3_first 17 = .ok (.aload_n 0, 1) := by decide +kernel
theorem dX3_first_18 : decode cX3_first 18 = .ok (.iload_n 1, 1) := by decide +kernel
theorem dX3_first_19 : decode cX3_first 19 = .ok (.iconst 0, 1) := by decide +kernel
theorem dX3_first_20 : decode cX3_first 20 = .ok (.invokevirtual 272, 3) := by decide +kernel
theorem dX3_first_23 : decode cX3_first 23 = .ok (.aload_n 0, 1) := by decide +kernel
theorem dX3_first_24 : decode cX3_first 24 = .ok (.invokevirtual 276, 3) := by decide +kernel
theorem dX3_first_27 : decode cX3_first 27 = .ok (.ireturn, 1) := by decide +kernel
theorem dX3_sort_0 : decode cX3_sort 0 = .ok (.aload_n 0, 1) := by decide +kernel
theorem dX3_sort_1 : decode cX3_sort 1 = .ok (.iload_n 1, 1) := by decide +kernel
theorem dX3_sort_2 : decode cX3_sort 2 = .ok (.invokevirtual 66, 3) := by decide +kernel
theorem dX3_sort_5 : decode cX3_sort 5 = .ok (.aload_n 0, 1) := by decide +kernel
theorem dX3_sort_6 : decode cX3_sort 6 = .ok (.getfield 25, 3) := by decide +kernel
theorem dX3_sort_9 : decode cX3_sort 9 = .ok (.invokevirtual 271, 3) := by decide +kernel
theorem dX3_sort_12 : decode cX3_sort 12 = .ok (.iconst 0, 1) := by decide +kernel
theorem dX3_sort_13 : decode cX3_sort 13 = .ok (.istore_n 3, 1) := by decide +kernel
theorem dX3_sort_14 : decode cX3_sort 14 = .ok (.iload_n 3, 1) := by decide +kernel
theorem dX3_sort_15 : decode cX3_sort 15 = .ok (.aload_n 0, 1) := by decide +kernel
theorem dX3_sort_16 : decode cX3_sort 16 = .ok (.getfield 14, 3) := by decide +kernel
theorem dX3_sort_19 : decode cX3_sort 19 = .ok (.getfield 76, 3) := by decide +kernel
theorem dX3_sort_22 : decode cX3_sort 22 = .ok (.if_icmp .ge 46, 3) := by decide +kernel
theorem dX3_sort_25 : decode cX3_sort 25 = .ok (.aload_n 0, 1) := by decide +kernel
theorem dX3_sort_26 : decode cX3_sort 26 = .ok (.getfield 14, 3) := by decide +kernel
theorem dX3_sort_29 : decode cX3_sort 29 = .ok (.getfield 86, 3) := by decide +kernel
theorem dX3_sort_32 : decode cX3_sort 32 = .ok (.iload_n 1, 1) := by decide +kernel
theorem dX3_sort_33 : decode cX3_sort 33 = .ok (.aaload, 1) := by decide +kernel
theorem dX3_sort_34 : decode cX3_sort 34 = .ok (.iload_n 3, 1) := by decide +kernel
theorem dX3_sort_35 : decode cX3_sort 35 = .ok (.laload, 1) := by decide +kernel
theorem dX3_sort_36 : decode cX3_sort 36 = .ok (.ldc2_w 90, 3) := by decide +kernel
theorem dX3_sort_39 : decode cX3_sort 39 = .ok (.lcmp, 1) := by decide +kernel
theorem dX3_sort_40 : decode cX3_sort 40 = .ok (.ifCond .eq 22, 3) := by decide +kernel
theorem dX3_sort_43 : decode cX3_sort 43 = .ok (.aload_n 0, 1) := by decide +kernel
theorem dX3_sort_44 : decode cX3_sort 44 = .ok (.getfield 25, 3) := by decide +kernel
theorem dX3_sort_47 : decode cX3_sort 47 = .ok (.iload_n 3, 1) := by decide +kernel
theorem dX3_sort_48 : decode cX3_sort 48 = .ok (.aload_n 0, 1) := by decide +kernel
theorem dX3_sort_49 : decode cX3_sort 49 = .ok (.getfield 14, 3) := by decide +kernel
theorem dX3_sort_52 : decode cX3_sort 52 = .ok (.getfield 86, 3) := by decide +kernel
theorem dX3_sort_55 : decode cX3_sort 55 = .ok (.iload_n 1, 1) := by decide +kernel
theorem dX3_sort_56 : decode cX3_sort 56 = .ok (.aaload, 1) := by decide +kernel
theorem dX3_sort_57 : decode cX3_sort 57 = .ok (.iload_n 3, 1) := by decide +kernel
theorem dX3_sort_58 : decode cX3_sort 58 = .ok (.laload, 1) := by decide +kernel
theorem dX3_sort_59 : decode cX3_sort 59 = .ok (.invokevirtual 279, 3) := by decide +kernel
theorem dX3_sort_62 : decode cX3_sort 62 = .ok (.iinc 3 1, 3) := by decide +kernel
theorem dX3_sort_65 : decode cX3_sort 65 = .ok (.goto (-51), 3) := by decide +kernel
theorem dX3_sort_68 : decode cX3_sort 68 = .ok (.aload_n 0, 1) := by decide +kernel
theorem dX3_sort_69 : decode cX3_sort 69 = .ok (.getfield 25, 3) := by decide +kernel
theorem dX3_sort_72 : decode cX3_sort 72 = .ok (.iload_n 2, 1) := by decide +kernel
theorem dX3_sort_73 : decode cX3_sort 73 = .ok (.invokevirtual 169, 3) := by decide +kernel
theorem dX3_sort_76 : decode cX3_sort 76 = .ok (.pop, 1) := by decide +kernel
theorem dX3_sort_77 : decode cX3_sort 77 = .ok (.iconst 0, 1) := by decide +kernel
theorem dX3_sort_78 : decode cX3_sort 78 = .ok (.istore_n 3, 1) := by decide +kernel
theorem dX3_sort_79 : decode cX3_sort 79 = .ok (.iload_n 3, 1) := by decide +kernel
theorem dX3_sort_80 : decode cX3_sort 80 = .ok (.aload_n 0, 1) := by decide +kernel
theorem dX3_sort_81 : decode cX3_sort 81 = .ok (.getfield 14, 3) := by decide +kernel
theorem dX3_sort_84 : decode cX3_sort 84 = .ok (.getfield 76, 3) := by decide +kernel
theorem dX3_sort_87 : decode cX3_sort 87 = .ok (.if_icmp .ge 38, 3) := by decide +kernel
theorem dX3_sort_90 : decode cX3_sort 90 = .ok (.aload_n 0, 1) := by decide +kernel
theorem dX3_sort_91 : decode cX3_sort 91 = .ok (.getfield 14, 3) := by decide +kernel
theorem dX3_sort_94 : decode cX3_sort 94 = .ok (.getfield 86, 3) := by decide +kernel
theorem dX3_sort_97 : decode cX3_sort 97 = .ok (.iload_n 1, 1) := by decide +kernel
theorem dX3_sort_98 : decode cX3_sort 98 = .ok (.aaload, 1) := by decide +kernel
theorem dX3_sort_99 : decode cX3_sort 99 = .ok (.iload_n 3, 1) := by decide +kernel
theorem dX3_sort_100 : decode cX3_sort 100 = .ok (.laload, 1) := by decide +kernel
theorem dX3_sort_101 : decode cX3_sort 101 = .ok (.ldc2_w 90, 3) := by decide +kernel
theorem dX3_sort_104 : decode cX3_sort 104 = .ok (.lcmp, 1) := by decide +kernel
theorem dX3_sort_105 : decode cX3_sort 105 = .ok (.ifCond .ne 14, 3) := by decide +kernel
theorem dX3_sort_108 : decode cX3_sort 108 = .ok (.aload_n 0, 1) := by decide +kernel
theorem dX3_sort_109 : decode cX3_sort 109 = .ok (.getfield 25, 3) := by decide +kernel
theorem dX3_sort_112 : decode cX3_sort 112 = .ok (.iload_n 3, 1) := by decide +kernel
theorem dX3_sort_113 : decode cX3_sort 113 = .ok (.ldc2_w 90, 3) := by decide +kernel
theorem dX3_sort_116 : decode cX3_sort 116 = .ok (.invokevirtual 279, 3) := by decide +kernel
theorem dX3_sort_119 : decode cX3_sort 119 = .ok (.iinc 3 1, 3) := by decide +kernel
theorem dX3_sort_122 : decode cX3_sort 122 = .ok (.goto (-43), 3) := by decide +kernel
theorem dX3_sort_125 : decode cX3_sort 125 = .ok (.aload_n 0, 1) := by decide +kernel
theorem dX3_sort_126 : decode cX3_sort 126 = .ok (.invokevirtual 276, 3) := by decide +kernel
theorem dX3_sort_129 : decode cX3_sort 129 = .ok (.ireturn, 1) := by decide +kernel
theorem dX3_reverse_0 : decode cX3_reverse 0 = .ok (.aload_n 0, 1) := by decide +kernel
theorem dX3_reverse_1 : decode cX3_reverse 1 = .ok (.getfield 25, 3) := by decide +kernel
theorem dX3_reverse_4 : decode cX3_reverse 4 = .ok (.invokevirtual 271, 3) := by decide +kernel
theorem dX3_reverse_7 : decode cX3_reverse 7 = .ok (.aload_n 0, 1) := by decide +kernel
theorem dX3_reverse_8 : decode cX3_reverse 8 = .ok (.getfield 14, 3) := by decide +kernel
theorem dX3_reverse_11 : decode cX3_reverse 11 = .ok (.getfield 76, 3) := by decide +kernel
theorem dX3_reverse_14 : decode cX3_reverse 14 = .ok (.iconst 1, 1) := by decide +kernel
theorem dX3_reverse_15 : decode cX3_reverse 15 = .ok (.isub, 1) := by decide +kernel
theorem dX3_reverse_16 : decode cX3_reverse 16 = .ok (.istore_n 1, 1) := by decide +kernel
theorem dX3_reverse_17 : decode cX3_reverse 17 = .ok (.iload_n 1, 1) := by decide +kernel
theorem dX3_reverse_18 : decode cX3_reverse 18 = .ok (.ifCond .lt 20, 3) := by decide +kernel
theorem dX3_reverse_21 : decode cX3_reverse 21 = .ok (.aload_n 0, 1) := by decide +kernel
theorem dX3_reverse_22 : decode cX3_reverse 22 = .ok (.getfield 25, 3) := by decide +kernel
theorem dX3_reverse_25 : decode cX3_reverse 25 = .ok (.iload_n 1, 1) := by decide +kernel
theorem dX3_reverse_26 : decode cX3_reverse 26 = .ok (.ldc2_w 90, 3) := by decide +kernel
theorem dX3_reverse_29 : decode cX3_reverse 29 = .ok (.invokevirtual 279, 3) := by decide +kernel
theorem dX3_reverse_32 : decode cX3_reverse 32 = .ok (.iinc 1 (-1), 3) := by decide +kernel
theorem dX3_reverse_35 : decode cX3_reverse 35 = .ok (.goto (-18), 3) := by decide +kernel
theorem dX3_reverse_38 : decode cX3_reverse 38 = .ok (.aload_n 0, 1) := by decide +kernel
theorem dX3_reverse_39 : decode cX3_reverse 39 = .ok (.invokevirtual 276, 3) := by decide +kernel
theorem dX3_reverse_42 : decode cX3_reverse 42 = .ok (.pop, 1) := by decide +kernel
theorem dX3_reverse_43 : decode cX3_reverse 43 = .ok (.aload_n 0, 1) := by decide +kernel
theorem dX3_reverse_44 : decode cX3_reverse 44 = .ok (.getfield 14, 3) := by decide +kernel
theorem dX3_reverse_47 : decode cX3_reverse 47 = .ok (.getfield 76, 3) := by decide +kernel
theorem dX3_reverse_50 : decode cX3_reverse 50 = .ok (.ireturn, 1) := by decide +kernel
theorem dX3_swap_0 : decode cX3_swap 0 = .ok (.aload_n 0, 1) := by decide +kernel
theorem dX3_swap_1 : decode cX3_swap 1 = .ok (.iload_n 1, 1) := by decide +kernel
theorem dX3_swap_2 : decode cX3_swap 2 = .ok (.invokevirtual 66, 3) := by decide +kernel
theorem dX3_swap_5 : decode cX3_swap 5 = .ok (.aload_n 0, 1) := by decide +kernel
theorem dX3_swap_6 : decode cX3_swap 6 = .ok (.iload_n 2, 1) := by decide +kernel
theorem dX3_swap_7 : decode cX3_swap 7 = .ok (.invokevirtual 66, 3) := by decide +kernel
theorem dX3_swap_10 : decode cX3_swap 10 = .ok (.aload_n 0, 1) := by decide +kernel
theorem dX3_swap_11 : decode cX3_swap 11 = .ok (.getfield 14, 3) := by decide +kernel
theorem dX3_swap_14 : decode cX3_swap 14 = .ok (.iload_n 1, 1) := by decide +kernel
theorem dX3_swap_15 : decode cX3_swap 15 = .ok (.iload_n 2, 1) := by decide +kernel
theorem dX3_swap_16 : decode cX3_swap 16 = .ok (.invokevirtual 69, 3) := by decide +kernel
theorem dX3_swap_19 : decode cX3_swap 19 = .ok (.aload_n 0, 1) := by decide +kernel
theorem dX3_swap_20 : decode cX3_swap 20 = .ok (.getfield 14, 3) := by decide +kernel
theorem dX3_swap_23 : decode cX3_swap 23 = .ok (.getfield 58, 3) := by decide +kernel
theorem dX3_swap_26 : decode cX3_swap 26 = .ok (.iload_n 1, 1) := by decide +kernel
theorem dX3_swap_27 : decode cX3_swap 27 = .ok (.iaload, 1) := by decide +kernel
theorem dX3_swap_28 : decode cX3_swap 28 = .ok (.ireturn, 1) := by decide +kernel
theorem dX3_keep_0 : decode cX3_keep 0 = .ok (.iload_n 1, 1) := by decide +kernel
theorem dX3_keep_1 : decode cX3_keep 1 = .ok (.invokestatic 282, 3) := by decide +kernel
theorem dX3_keep_4 : decode cX3_keep 4 = .ok (.aload_n 0, 1) := by decide +kernel
theorem dX3_keep_5 : decode cX3_keep 5 = .ok (.getfield 18, 3) := by decide +kernel
theorem dX3_keep_8 : decode cX3_keep 8 = .ok (.iload_n 1, 1) := by decide +kernel
theorem dX3_keep_9 : decode cX3_keep 9 = .ok (.aaload, 1) := by decide +kernel
theorem dX3_keep_10 : decode cX3_keep 10 = .ok (.ifnonnull 16, 3) := by decide +kernel
theorem dX3_keep_13 : decode cX3_keep 13 = .ok (.aload_n 0, 1) := by decide +kernel
theorem dX3_keep_14 : decode cX3_keep 14 = .ok (.getfield 18, 3) := by decide +kernel
theorem dX3_keep_17 : decode cX3_keep 17 = .ok (.iload_n 1, 1) := by decide +kernel
theorem dX3_keep_18 : decode cX3_keep 18 = .ok (.new 11, 3) := by decide +kernel
theorem dX3_keep_21 : decode cX3_keep 21 = .ok (.dup, 1) := by decide +kernel
theorem dX3_keep_22 : decode cX3_keep 22 = .ok (.invokespecial 13, 3) := by decide +kernel
theorem dX3_keep_25 : decode cX3_keep 25 = .ok (.aastore, 1) := by decide +kernel
theorem dX3_keep_26 : decode cX3_keep 26 = .ok (.aload_n 0, 1) := by decide +kernel
theorem dX3_keep_27 : decode cX3_keep 27 = .ok (.getfield 18, 3) := by decide +kernel
theorem dX3_keep_30 : decode cX3_keep 30 = .ok (.iload_n 1, 1) := by decide +kernel
theorem dX3_keep_31 : decode cX3_keep 31 = .ok (.aaload, 1) := by decide +kernel
theorem dX3_keep_32 : decode cX3_keep 32 = .ok (.aload_n 0, 1) := by decide +kernel
theorem dX3_keep_33 : decode cX3_keep 33 = .ok (.getfield 14, 3) := by decide +kernel
theorem dX3_keep_36 : decode cX3_keep 36 = .ok (.invokevirtual 285, 3) := by decide +kernel
theorem dX3_keep_39 : decode cX3_keep 39 = .ok (.aload_n 0, 1) := by decide +kernel
theorem dX3_keep_40 : decode cX3_keep 40 = .ok (.getfield 14, 3) := by decide +kernel
theorem dX3_keep_43 : decode cX3_keep 43 = .ok (.getfield 76, 3) := by decide +kernel
theorem dX3_keep_46 : decode cX3_keep 46 = .ok (.ireturn, 1) := by decide +kernel
theorem dX3_back_0 : decode cX3_back 0 = .ok (.iload_n 1, 1) := by decide +kernel
theorem dX3_back_1 : decode cX3_back 1 = .ok (.invokestatic 282, 3) := by decide +kernel
theorem dX3_back_4 : decode cX3_back 4 = .ok (.aload_n 0, 1) := by decide +kernel
theorem dX3_back_5 : decode cX3_back 5 = .ok (.getfield 18, 3) := by decide +kernel
theorem dX3_back_8 : decode cX3_back 8 = .ok (.iload_n 1, 1) := by decide +kernel
theorem dX3_back_9 : decode cX3_back 9 = .ok (.aaload, 1) := by decide +kernel
theorem dX3_back_10 : decode cX3_back 10 = .ok (.astore_n 2, 1) := by decide +kernel
theorem dX3_back_11 : decode cX3_back 11 = .ok (.aload_n 2, 1) := by decide +kernel
theorem dX3_back_12 : decode cX3_back 12 = .ok (.ifnonnull 14, 3) := by decide +kernel
theorem dX3_back_15 : decode cX3_back 15 = .ok (.new 289, 3) := by decide +kernel
theorem dX3_back_18 : decode cX3_back 18 = .ok (.dup, 1) := by decide +kernel
theorem dX3_back_19 : decode cX3_back 19 = .ok (.ldc_w 291, 3) := by decide +kernel
theorem dX3_back_22 : decode cX3_back 22 = .ok (.invokespecial 293, 3) := by decide +kernel
theorem dX3_back_25 : decode cX3_back 25 = .ok (.athrow, 1) := by decide +kernel
theorem dX3_back_26 : decode cX3_back 26 = .ok (.aload_n 0, 1) := by decide +kernel
theorem dX3_back_27 : decode cX3_back 27 = .ok (.getfield 14, 3) := by decide +kernel
theorem dX3_back_30 : decode cX3_back 30 = .ok (.aload_n 2, 1) := by decide +kernel
theorem dX3_back_31 : decode cX3_back 31 = .ok (.invokevirtual 285, 3) := by decide +kernel
theorem dX3_back_34 : decode cX3_back 34 = .ok (.aload_n 0, 1) := by decide +kernel
theorem dX3_back_35 : decode cX3_back 35 = .ok (.getfield 14, 3) := by decide +kernel
theorem dX3_back_38 : decode cX3_back 38 = .ok (.getfield 76, 3) := by decide +kernel
theorem dX3_back_41 : decode cX3_back 41 = .ok (.ireturn, 1) := by decide +kernel
theorem dX3_needColumn_0 : decode cX3_needColumn 0 = .ok (.iload_n 1, 1) := by decide +kernel
theorem dX3_needColumn_1 : decode cX3_needColumn 1 = .ok (.ifCond .lt 14, 3) := by decide +kernel
theorem dX3_needColumn_4 : decode cX3_needColumn 4 = .ok (.iload_n 1, 1) := by decide +kernel
theorem dX3_needColumn_5 : decode cX3_needColumn 5 = .ok (.aload_n 0, 1) := by decide +kernel
theorem dX3_needColumn_6 : decode cX3_needColumn 6 = .ok (.getfield 14, 3) := by decide +kernel
theorem dX3_needColumn_9 : decode cX3_needColumn 9 = .ok (.getfield 51, 3) := by decide +kernel
theorem dX3_needColumn_12 : decode cX3_needColumn 12 = .ok (.if_icmp .lt 14, 3) := by decide +kernel
theorem dX3_needColumn_15 : decode cX3_needColumn 15 = .ok (.new 296, 3) := by decide +kernel
theorem dX3_needColumn_18 : decode cX3_needColumn 18 = .ok (.dup, 1) := by decide +kernel
theorem dX3_needColumn_19 : decode cX3_needColumn 19 = .ok (.ldc_w 298, 3) := by decide +kernel
theorem dX3_needColumn_22 : decode cX3_needColumn 22 = .ok (.invokespecial 300, 3) := by decide +kernel
theorem dX3_needColumn_25 : decode cX3_needColumn 25 = .ok (.athrow, 1) := by decide +kernel
theorem dX3_needColumn_26 : decode cX3_needColumn 26 = .ok (.return_, 1) := by decide +kernel
theorem dX3_needRow_0 : decode cX3_needRow 0 = .ok (.iload_n 1, 1) := by decide +kernel
theorem dX3_needRow_1 : decode cX3_needRow 1 = .ok (.ifCond .lt 14, 3) := by decide +kernel
theorem dX3_needRow_4 : decode cX3_needRow 4 = .ok (.iload_n 1, 1) := by decide +kernel
theorem dX3_needRow_5 : decode cX3_needRow 5 = .ok (.aload_n 0, 1) := by decide +kernel
theorem dX3_needRow_6 : decode cX3_needRow 6 = .ok (.getfield 14, 3) := by decide +kernel
theorem dX3_needRow_9 : decode cX3_needRow 9 = .ok (.getfield 76, 3) := by decide +kernel
theorem dX3_needRow_12 : decode cX3_needRow 12 = .ok (.if_icmp .lt 14, 3) := by decide +kernel
theorem dX3_needRow_15 : decode cX3_needRow 15 = .ok (.new 296, 3) := by decide +kernel
theorem dX3_needRow_18 : decode cX3_needRow 18 = .ok (.dup, 1) := by decide +kernel
theorem dX3_needRow_19 : decode cX3_needRow 19 = .ok (.ldc_w 301, 3) := by decide +kernel
theorem dX3_needRow_22 : decode cX3_needRow 22 = .ok (.invokespecial 300, 3) := by decide +kernel
theorem dX3_needRow_25 : decode cX3_needRow 25 = .ok (.athrow, 1) := by decide +kernel
theorem dX3_needRow_26 : decode cX3_needRow 26 = .ok (.return_, 1) := by decide +kernel
theorem dX3_needBit_0 : decode cX3_needBit 0 = .ok (.iload_n 2, 1) := by decide +kernel
theorem dX3_needBit_1 : decode cX3_needBit 1 = .ok (.ifCond .lt 16, 3) := by decide +kernel
theorem dX3_needBit_4 : decode cX3_needBit 4 = .ok (.iload_n 2, 1) := by decide +kernel
theorem dX3_needBit_5 : decode cX3_needBit 5 = .ok (.aload_n 0, 1) := by decide +kernel
theorem dX3_needBit_6 : decode cX3_needBit 6 = .ok (.getfield 14, 3) := by decide +kernel
theorem dX3_needBit_9 : decode cX3_needBit 9 = .ok (.getfield 58, 3) := by decide +kernel
theorem dX3_needBit_12 : decode cX3_needBit 12 = .ok (.iload_n 1, 1) := by decide +kernel
theorem dX3_needBit_13 : decode cX3_needBit 13 = .ok (.iaload, 1) := by decide +kernel
theorem dX3_needBit_14 : decode cX3_needBit 14 = .ok (.if_icmp .lt 14, 3) := by decide +kernel
theorem dX3_needBit_17 : decode cX3_needBit 17 = .ok (.new 296, 3) := by decide +kernel
theorem dX3_needBit_20 : decode cX3_needBit 20 = .ok (.dup, 1) := by decide +kernel
theorem dX3_needBit_21 : decode cX3_needBit 21 = .ok (.ldc_w 303, 3) := by decide +kernel
theorem dX3_needBit_24 : decode cX3_needBit 24 = .ok (.invokespecial 300, 3) := by decide +kernel
theorem dX3_needBit_27 : decode cX3_needBit 27 = .ok (.athrow, 1) := by decide +kernel
theorem dX3_needBit_28 : decode cX3_needBit 28 = .ok (.return_, 1) := by decide +kernel
theorem dX3_needMask_0 : decode cX3_needMask 0 = .ok (.iload_n 0, 1) := by decide +kernel
theorem dX3_needMask_1 : decode cX3_needMask 1 = .ok (.ifCond .lt 9, 3) := by decide +kernel
theorem dX3_needMask_4 : decode cX3_needMask 4 = .ok (.iload_n 0, 1) := by decide +kernel
theorem dX3_needMask_5 : decode cX3_needMask 5 = .ok (.bipush 8, 2) := by decide +kernel
theorem dX3_needMask_7 : decode cX3_needMask 7 = .ok (.if_icmp .lt 14, 3) := by decide +kernel
theorem dX3_needMask_10 : decode cX3_needMask 10 = .ok (.new 296, 3) := by decide +kernel
theorem dX3_needMask_13 : decode cX3_needMask 13 = .ok (.dup, 1) := by decide +kernel
theorem dX3_needMask_14 : decode cX3_needMask 14 = .ok (.ldc_w 305, 3) := by decide +kernel
theorem dX3_needMask_17 : decode cX3_needMask 17 = .ok (.invokespecial 300, 3) := by decide +kernel
theorem dX3_needMask_20 : decode cX3_needMask 20 = .ok (.athrow, 1) := by decide +kernel
theorem dX3_needMask_21 : decode cX3_needMask 21 = .ok (.return_, 1) := by decide +kernel
theorem dX3_needWord_0 : decode cX3_needWord 0 = .ok (.iload_n 0, 1) := by decide +kernel
theorem dX3_needWord_1 : decode cX3_needWord 1 = .ok (.ifCond .lt 8, 3) := by decide +kernel
theorem dX3_needWord_4 : decode cX3_needWord 4 = .ok (.iload_n 0, 1) := by decide +kernel
theorem dX3_needWord_5 : decode cX3_needWord 5 = .ok (.iconst 3, 1) := by decide +kernel
theorem dX3_needWord_6 : decode cX3_needWord 6 = .ok (.if_icmp .lt 14, 3) := by decide +kernel
theorem dX3_needWord_9 : decode cX3_needWord 9 = .ok (.new 296, 3) := by decide +kernel
theorem dX3_needWord_12 : decode cX3_needWord 12 = .ok (.dup, 1) := by decide +kernel
theorem dX3_needWord_13 : decode cX3_needWord 13 = .ok (.ldc_w 307, 3) := by decide +kernel
theorem dX3_needWord_16 : decode cX3_needWord 16 = .ok (.invokespecial 300, 3) := by decide +kernel
theorem dX3_needWord_19 : decode cX3_needWord 19 = .ok (.athrow, 1) := by decide +kernel
theorem dX3_needWord_20 : decode cX3_needWord 20 = .ok (.return_, 1) := by decide +kernel
theorem dX3_needImage_0 : decode cX3_needImage 0 = .ok (.iload_n 0, 1) := by decide +kernel
theorem dX3_needImage_1 : decode cX3_needImage 1 = .ok (.ifCond .lt 8, 3) := by decide +kernel
theorem dX3_needImage_4 : decode cX3_needImage 4 = .ok (.iload_n 0, 1) := by decide +kernel
theorem dX3_needImage_5 : decode cX3_needImage 5 = .ok (.iconst 2, 1) := by decide +kernel
theorem dX3_needImage_6 : decode cX3_needImage 6 = .ok (.if_icmp .lt 14, 3) := by decide +kernel
theorem dX3_needImage_9 : decode cX3_needImage 9 = .ok (.new 296, 3) := by decide +kernel
theorem dX3_needImage_12 : decode cX3_needImage 12 = .ok (.dup, 1) := by decide +kernel
theorem dX3_needImage_13 : decode cX3_needImage 13 = .ok (.ldc_w 309, 3) := by decide +kernel
theorem dX3_needImage_16 : decode cX3_needImage 16 = .ok (.invokespecial 300, 3) := by decide +kernel
theorem dX3_needImage_19 : decode cX3_needImage 19 = .ok (.athrow, 1) := by decide +kernel
theorem dX3_needImage_20 : decode cX3_needImage 20 = .ok (.return_, 1) := by decide +kernel
theorem dX3_needWidth_0 : decode cX3_needWidth 0 = .ok (.iload_n 0, 1) := by decide +kernel
theorem dX3_needWidth_1 : decode cX3_needWidth 1 = .ok (.iconst 2, 1) := by decide +kernel
theorem dX3_needWidth_2 : decode cX3_needWidth 2 = .ok (.if_icmp .lt 13, 3) := by decide +kernel
theorem dX3_needWidth_5 : decode cX3_needWidth 5 = .ok (.iload_n 0, 1) := by decide +kernel
theorem dX3_needWidth_6 : decode cX3_needWidth 6 = .ok (.bipush 63, 2) := by decide +kernel
theorem dX3_needWidth_8 : decode cX3_needWidth 8 = .ok (.if_icmp .gt 7, 3) := by decide +kernel
theorem dX3_needWidth_11 : decode cX3_needWidth 11 = .ok (.iconst 1, 1) := by decide +kernel
theorem dX3_needWidth_12 : decode cX3_needWidth 12 = .ok (.goto 4, 3) := by decide +kernel
theorem dX3_needWidth_15 : decode cX3_needWidth 15 = .ok (.iconst 0, 1) := by decide +kernel
theorem dX3_needWidth_16 : decode cX3_needWidth 16 = .ok (.invokestatic 73, 3) := by decide +kernel
theorem dX3_needWidth_19 : decode cX3_needWidth 19 = .ok (.return_, 1) := by decide +kernel
theorem dX3_needArgument_0 : decode cX3_needArgument 0 = .ok (.iload_n 0, 1) := by decide +kernel
theorem dX3_needArgument_1 : decode cX3_needArgument 1 = .ok (.ifCond .ne 14, 3) := by decide +kernel
theorem dX3_needArgument_4 : decode cX3_needArgument 4 = .ok (.new 311, 3) := by decide +kernel
theorem dX3_needArgument_7 : decode cX3_needArgument 7 = .ok (.dup, 1) := by decide +kernel
theorem dX3_needArgument_8 : decode cX3_needArgument 8 = .ok (.ldc_w 313, 3) := by decide +kernel
theorem dX3_needArgument_11 : decode cX3_needArgument 11 = .ok (.invokespecial 315, 3) := by decide +kernel
theorem dX3_needArgument_14 : decode cX3_needArgument 14 = .ok (.athrow, 1) := by decide +kernel
theorem dX3_needArgument_15 : decode cX3_needArgument 15 = .ok (.return_, 1) := by decide +kernel
theorem dX3_needState_0 : decode cX3_needState 0 = .ok (.iload_n 0, 1) := by decide +kernel
theorem dX3_needState_1 : decode cX3_needState 1 = .ok (.ifCond .ne 14, 3) := by decide +kernel
theorem dX3_needState_4 : decode cX3_needState 4 = .ok (.new 289, 3) := by decide +kernel
theorem dX3_needState_7 : decode cX3_needState 7 = .ok (.dup, 1) := by decide +kernel
theorem dX3_needState_8 : decode cX3_needState 8 = .ok (.ldc_w 316, 3) := by decide +kernel
theorem dX3_needState_11 : decode cX3_needState 11 = .ok (.invokespecial 293, 3) := by decide +kernel
theorem dX3_needState_14 : decode cX3_needState 14 = .ok (.athrow, 1) := by decide +kernel
theorem dX3_needState_15 : decode cX3_needState 15 = .ok (.return_, 1) := by decide +kernel
theorem dX3_needLong_0 : decode cX3_needLong 0 = .ok (.iload_n 0, 1) := by decide +kernel
theorem dX3_needLong_1 : decode cX3_needLong 1 = .ok (.ifCond .ne 14, 3) := by decide +kernel
theorem dX3_needLong_4 : decode cX3_needLong 4 = .ok (.new 318, 3) := by decide +kernel
theorem dX3_needLong_7 : decode cX3_needLong 7 = .ok (.dup, 1) := by decide +kernel
theorem dX3_needLong_8 : decode cX3_needLong 8 = .ok (.ldc_w 320, 3) := by decide +kernel
theorem dX3_needLong_11 : decode cX3_needLong 11 = .ok (.invokespecial 322, 3) := by decide +kernel
theorem dX3_needLong_14 : decode cX3_needLong 14 = .ok (.athrow, 1) := by decide +kernel
theorem dX3_needLong_15 : decode cX3_needLong 15 = .ok (.return_, 1) := by decide +kernel
theorem dX3_needFit_0 : decode cX3_needFit 0 = .ok (.aload_n 0, 1) := by decide +kernel
theorem dX3_needFit_1 : decode cX3_needFit 1 = .ok (.aload_n 0, 1) := by decide +kernel
theorem dX3_needFit_2 : decode cX3_needFit 2 = .ok (.getfield 14, 3) := by decide +kernel
theorem dX3_needFit_5 : decode cX3_needFit 5 = .ok (.getfield 58, 3) := by decide +kernel
theorem dX3_needFit_8 : decode cX3_needFit 8 = .ok (.iload_n 1, 1) := by decide +kernel
theorem dX3_needFit_9 : decode cX3_needFit 9 = .ok (.iaload, 1) := by decide +kernel
theorem dX3_needFit_10 : decode cX3_needFit 10 = .ok (.lload_n 2, 1) := by decide +kernel
theorem dX3_needFit_11 : decode cX3_needFit 11 = .ok (.invokestatic 323, 3) := by decide +kernel
theorem dX3_needFit_14 : decode cX3_needFit 14 = .ok (.invokevirtual 268, 3) := by decide +kernel
theorem dX3_needFit_17 : decode cX3_needFit 17 = .ok (.return_, 1) := by decide +kernel
theorem dX3_needAct_0 : decode cX3_needAct 0 = .ok (.iload_n 1, 1) := by decide +kernel
theorem dX3_needAct_1 : decode cX3_needAct 1 = .ok (.ifCond .ne 24, 3) := by decide +kernel
theorem dX3_needAct_4 : decode cX3_needAct 4 = .ok (.aload_n 0, 1) := by decide +kernel
theorem dX3_needAct_5 : decode cX3_needAct 5 = .ok (.dup, 1) := by decide +kernel
theorem dX3_needAct_6 : decode cX3_needAct 6 = .ok (.getfield 43, 3) := by decide +kernel
theorem dX3_needAct_9 : decode cX3_needAct 9 = .ok (.iconst 1, 1) := by decide +kernel
theorem dX3_needAct_10 : decode cX3_needAct 10 = .ok (.iadd, 1) := by decide +kernel
theorem dX3_needAct_11 : decode cX3_needAct 11 = .ok (.putfield 43, 3) := by decide +kernel
theorem dX3_needAct_14 : decode cX3_needAct 14 = .ok (.new 318, 3) := by decide +kernel
theorem dX3_needAct_17 : decode cX3_needAct 17 = .ok (.dup, 1) := by decide +kernel
theorem dX3_needAct_18 : decode cX3_needAct 18 = .ok (.ldc_w 327, 3) := by decide +kernel
theorem dX3_needAct_21 : decode cX3_needAct 21 = .ok (.invokespecial 322, 3) := by decide +kernel
theorem dX3_needAct_24 : decode cX3_needAct 24 = .ok (.athrow, 1) := by decide +kernel
theorem dX3_needAct_25 : decode cX3_needAct 25 = .ok (.return_, 1) := by decide +kernel
theorem dX3_fits_0 : decode cX3_fits 0 = .ok (.lload_n 1, 1) := by decide +kernel
theorem dX3_fits_1 : decode cX3_fits 1 = .ok (.iload_n 0, 1) := by decide +kernel
theorem dX3_fits_2 : decode cX3_fits 2 = .ok (.iconst 1, 1) := by decide +kernel
theorem dX3_fits_3 : decode cX3_fits 3 = .ok (.isub, 1) := by decide +kernel
theorem dX3_fits_4 : decode cX3_fits 4 = .ok (.lshr, 1) := by decide +kernel
theorem dX3_fits_5 : decode cX3_fits 5 = .ok (.lstore_n 3, 1) := by decide +kernel
theorem dX3_fits_6 : decode cX3_fits 6 = .ok (.lload_n 3, 1) := by decide +kernel
theorem dX3_fits_7 : decode cX3_fits 7 = .ok (.lconst 0, 1) := by decide +kernel
theorem dX3_fits_8 : decode cX3_fits 8 = .ok (.lcmp, 1) := by decide +kernel
theorem dX3_fits_9 : decode cX3_fits 9 = .ok (.ifCond .eq 11, 3) := by decide +kernel
theorem dX3_fits_12 : decode cX3_fits 12 = .ok (.lload_n 3, 1) := by decide +kernel
theorem dX3_fits_13 : decode cX3_fits 13 = .ok (.ldc2_w 148, 3) := by decide +kernel
theorem dX3_fits_16 : decode cX3_fits 16 = .ok (.lcmp, 1) := by decide +kernel
theorem dX3_fits_17 : decode cX3_fits 17 = .ok (.ifCond .ne 7, 3) := by decide +kernel
theorem dX3_fits_20 : decode cX3_fits 20 = .ok (.iconst 1, 1) := by decide +kernel
theorem dX3_fits_21 : decode cX3_fits 21 = .ok (.goto 4, 3) := by decide +kernel
theorem dX3_fits_24 : decode cX3_fits 24 = .ok (.iconst 0, 1) := by decide +kernel
theorem dX3_fits_25 : decode cX3_fits 25 = .ok (.ireturn, 1) := by decide +kernel
theorem dX3_hasBit_0 : decode cX3_hasBit 0 = .ok (.lload_n 0, 1) := by decide +kernel
theorem dX3_hasBit_1 : decode cX3_hasBit 1 = .ok (.iload_n 2, 1) := by decide +kernel
theorem dX3_hasBit_2 : decode cX3_hasBit 2 = .ok (.lshr, 1) := by decide +kernel
theorem dX3_hasBit_3 : decode cX3_hasBit 3 = .ok (.lconst 1, 1) := by decide +kernel
theorem dX3_hasBit_4 : decode cX3_hasBit 4 = .ok (.land, 1) := by decide +kernel
theorem dX3_hasBit_5 : decode cX3_hasBit 5 = .ok (.lconst 0, 1) := by decide +kernel
theorem dX3_hasBit_6 : decode cX3_hasBit 6 = .ok (.lcmp, 1) := by decide +kernel
theorem dX3_hasBit_7 : decode cX3_hasBit 7 = .ok (.ifCond .eq 7, 3) := by decide +kernel
theorem dX3_hasBit_10 : decode cX3_hasBit 10 = .ok (.iconst 1, 1) := by decide +kernel
theorem dX3_hasBit_11 : decode cX3_hasBit 11 = .ok (.goto 4, 3) := by decide +kernel
theorem dX3_hasBit_14 : decode cX3_hasBit 14 = .ok (.iconst 0, 1) := by decide +kernel
theorem dX3_hasBit_15 : decode cX3_hasBit 15 = .ok (.ireturn, 1) := by decide +kernel
theorem dX3_stands_0 : decode cX3_stands 0 = .ok (.iload_n 2, 1) := by decide +kernel
theorem dX3_stands_1 : decode cX3_stands 1 = .ok (.tableswitch 95 0 4 #[35, 47, 59, 71, 83], 35) := by decide +kernel
theorem dX3_stands_36 : decode cX3_stands 36 = .ok (.lload_n 0, 1) := by decide +kernel
theorem dX3_stands_37 : decode cX3_stands 37 = .ok (.lload_n 3, 1) := by decide +kernel
theorem dX3_stands_38 : decode cX3_stands 38 = .ok (.lcmp, 1) := by decide +kernel
theorem dX3_stands_39 : decode cX3_stands 39 = .ok (.ifCond .ge 7, 3) := by decide +kernel
theorem dX3_stands_42 : decode cX3_stands 42 = .ok (.iconst 1, 1) := by decide +kernel
theorem dX3_stands_43 : decode cX3_stands 43 = .ok (.goto 4, 3) := by decide +kernel
theorem dX3_stands_46 : decode cX3_stands 46 = .ok (.iconst 0, 1) := by decide +kernel
theorem dX3_stands_47 : decode cX3_stands 47 = .ok (.ireturn, 1) := by decide +kernel
theorem dX3_stands_48 : decode cX3_stands 48 = .ok (.lload_n 0, 1) := by decide +kernel
theorem dX3_stands_49 : decode cX3_stands 49 = .ok (.lload_n 3, 1) := by decide +kernel
theorem dX3_stands_50 : decode cX3_stands 50 = .ok (.lcmp, 1) := by decide +kernel
theorem dX3_stands_51 : decode cX3_stands 51 = .ok (.ifCond .gt 7, 3) := by decide +kernel
theorem dX3_stands_54 : decode cX3_stands 54 = .ok (.iconst 1, 1) := by decide +kernel
theorem dX3_stands_55 : decode cX3_stands 55 = .ok (.goto 4, 3) := by decide +kernel
theorem dX3_stands_58 : decode cX3_stands 58 = .ok (.iconst 0, 1) := by decide +kernel
theorem dX3_stands_59 : decode cX3_stands 59 = .ok (.ireturn, 1) := by decide +kernel
theorem dX3_stands_60 : decode cX3_stands 60 = .ok (.lload_n 0, 1) := by decide +kernel
theorem dX3_stands_61 : decode cX3_stands 61 = .ok (.lload_n 3, 1) := by decide +kernel
theorem dX3_stands_62 : decode cX3_stands 62 = .ok (.lcmp, 1) := by decide +kernel
theorem dX3_stands_63 : decode cX3_stands 63 = .ok (.ifCond .ne 7, 3) := by decide +kernel
theorem dX3_stands_66 : decode cX3_stands 66 = .ok (.iconst 1, 1) := by decide +kernel
theorem dX3_stands_67 : decode cX3_stands 67 = .ok (.goto 4, 3) := by decide +kernel
theorem dX3_stands_70 : decode cX3_stands 70 = .ok (.iconst 0, 1) := by decide +kernel
theorem dX3_stands_71 : decode cX3_stands 71 = .ok (.ireturn, 1) := by decide +kernel
theorem dX3_stands_72 : decode cX3_stands 72 = .ok (.lload_n 0, 1) := by decide +kernel
theorem dX3_stands_73 : decode cX3_stands 73 = .ok (.lload_n 3, 1) := by decide +kernel
theorem dX3_stands_74 : decode cX3_stands 74 = .ok (.lcmp, 1) := by decide +kernel
theorem dX3_stands_75 : decode cX3_stands 75 = .ok (.ifCond .eq 7, 3) := by decide +kernel
theorem dX3_stands_78 : decode cX3_stands 78 = .ok (.iconst 1, 1) := by decide +kernel
theorem dX3_stands_79 : decode cX3_stands 79 = .ok (.goto 4, 3) := by decide +kernel
theorem dX3_stands_82 : decode cX3_stands 82 = .ok (.iconst 0, 1) := by decide +kernel
theorem dX3_stands_83 : decode cX3_stands 83 = .ok (.ireturn, 1) := by decide +kernel
theorem dX3_stands_84 : decode cX3_stands 84 = .ok (.lload_n 0, 1) := by decide +kernel
theorem dX3_stands_85 : decode cX3_stands 85 = .ok (.lload_n 3, 1) := by decide +kernel
theorem dX3_stands_86 : decode cX3_stands 86 = .ok (.lcmp, 1) := by decide +kernel
theorem dX3_stands_87 : decode cX3_stands 87 = .ok (.ifCond .lt 7, 3) := by decide +kernel
theorem dX3_stands_90 : decode cX3_stands 90 = .ok (.iconst 1, 1) := by decide +kernel
theorem dX3_stands_91 : decode cX3_stands 91 = .ok (.goto 4, 3) := by decide +kernel
theorem dX3_stands_94 : decode cX3_stands 94 = .ok (.iconst 0, 1) := by decide +kernel
theorem dX3_stands_95 : decode cX3_stands 95 = .ok (.ireturn, 1) := by decide +kernel
theorem dX3_stands_96 : decode cX3_stands 96 = .ok (.lload_n 0, 1) := by decide +kernel
theorem dX3_stands_97 : decode cX3_stands 97 = .ok (.lload_n 3, 1) := by decide +kernel
theorem dX3_stands_98 : decode cX3_stands 98 = .ok (.lcmp, 1) := by decide +kernel
theorem dX3_stands_99 : decode cX3_stands 99 = .ok (.ifCond .le 7, 3) := by decide +kernel
theorem dX3_stands_102 : decode cX3_stands 102 = .ok (.iconst 1, 1) := by decide +kernel
theorem dX3_stands_103 : decode cX3_stands 103 = .ok (.goto 4, 3) := by decide +kernel
theorem dX3_stands_106 : decode cX3_stands 106 = .ok (.iconst 0, 1) := by decide +kernel
theorem dX3_stands_107 : decode cX3_stands 107 = .ok (.ireturn, 1) := by decide +kernel
theorem dX3_joined_0 : decode cX3_joined 0 = .ok (.iload 4, 2) := by decide +kernel
theorem dX3_joined_2 : decode cX3_joined 2 = .ok (.tableswitch 38 0 2 #[26, 30, 34], 26) := by decide +kernel
theorem dX3_joined_28 : decode cX3_joined 28 = .ok (.lload_n 0, 1) := by decide +kernel
theorem dX3_joined_29 : decode cX3_joined 29 = .ok (.lload_n 2, 1) := by decide +kernel
theorem dX3_joined_30 : decode cX3_joined 30 = .ok (.land, 1) := by decide +kernel
theorem dX3_joined_31 : decode cX3_joined 31 = .ok (.lreturn, 1) := by decide +kernel
theorem dX3_joined_32 : decode cX3_joined 32 = .ok (.lload_n 0, 1) := by decide +kernel
theorem dX3_joined_33 : decode cX3_joined 33 = .ok (.lload_n 2, 1) := by decide +kernel
theorem dX3_joined_34 : decode cX3_joined 34 = .ok (.lor, 1) := by decide +kernel
theorem dX3_joined_35 : decode cX3_joined 35 = .ok (.lreturn, 1) := by decide +kernel
theorem dX3_joined_36 : decode cX3_joined 36 = .ok (.lload_n 0, 1) := by decide +kernel
theorem dX3_joined_37 : decode cX3_joined 37 = .ok (.lload_n 2, 1) := by decide +kernel
theorem dX3_joined_38 : decode cX3_joined 38 = .ok (.lxor, 1) := by decide +kernel
theorem dX3_joined_39 : decode cX3_joined 39 = .ok (.lreturn, 1) := by decide +kernel
theorem dX3_joined_40 : decode cX3_joined 40 = .ok (.lload_n 0, 1) := by decide +kernel
theorem dX3_joined_41 : decode cX3_joined 41 = .ok (.lload_n 2, 1) := by decide +kernel
theorem dX3_joined_42 : decode cX3_joined 42 = .ok (.ldc2_w 148, 3) := by decide +kernel
theorem dX3_joined_45 : decode cX3_joined 45 = .ok (.lxor, 1) := by decide +kernel
theorem dX3_joined_46 : decode cX3_joined 46 = .ok (.land, 1) := by decide +kernel
theorem dX3_joined_47 : decode cX3_joined 47 = .ok (.lreturn, 1) := by decide +kernel
theorem dX3_sumOrTooGreat_0 : decode cX3_sumOrTooGreat 0 = .ok (.lload_n 2, 1) := by decide +kernel
theorem dX3_sumOrTooGreat_1 : decode cX3_sumOrTooGreat 1 = .ok (.ldc2_w 236, 3) := by decide +kernel
theorem dX3_sumOrTooGreat_4 : decode cX3_sumOrTooGreat 4 = .ok (.lload_n 0, 1) := by decide +kernel
theorem dX3_sumOrTooGreat_5 : decode cX3_sumOrTooGreat 5 = .ok (.lsub, 1) := by decide +kernel
theorem dX3_sumOrTooGreat_6 : decode cX3_sumOrTooGreat 6 = .ok (.lcmp, 1) := by decide +kernel
theorem dX3_sumOrTooGreat_7 : decode cX3_sumOrTooGreat 7 = .ok (.ifCond .lt 17, 3) := by decide +kernel
theorem dX3_sumOrTooGreat_10 : decode cX3_sumOrTooGreat 10 = .ok (.lload_n 2, 1) := by decide +kernel
theorem dX3_sumOrTooGreat_11 : decode cX3_sumOrTooGreat 11 = .ok (.ldc2_w 238, 3) := by decide +kernel
theorem dX3_sumOrTooGreat_14 : decode cX3_sumOrTooGreat 14 = .ok (.lload_n 0, 1) := by decide +kernel
theorem dX3_sumOrTooGreat_15 : decode cX3_sumOrTooGreat 15 = .ok (.lsub, 1) := by decide +kernel
theorem dX3_sumOrTooGreat_16 : decode cX3_sumOrTooGreat 16 = .ok (.lcmp, 1) := by decide +kernel
theorem dX3_sumOrTooGreat_17 : decode cX3_sumOrTooGreat 17 = .ok (.ifCond .gt 7, 3) := by decide +kernel
theorem dX3_sumOrTooGreat_20 : decode cX3_sumOrTooGreat 20 = .ok (.iconst 1, 1) := by decide +kernel
theorem dX3_sumOrTooGreat_21 : decode cX3_sumOrTooGreat 21 = .ok (.goto 4, 3) := by decide +kernel
theorem dX3_sumOrTooGreat_24 : decode cX3_sumOrTooGreat 24 = .ok (.iconst 0, 1) := by decide +kernel
theorem dX3_sumOrTooGreat_25 : decode cX3_sumOrTooGreat 25 = .ok (.istore 4, 2) := by decide +kernel
theorem dX3_sumOrTooGreat_27 : decode cX3_sumOrTooGreat 27 = .ok (.iload 4, 2) := by decide +kernel
theorem dX3_sumOrTooGreat_29 : decode cX3_sumOrTooGreat 29 = .ok (.ifCond .eq 9, 3) := by decide +kernel
theorem dX3_sumOrTooGreat_32 : decode cX3_sumOrTooGreat 32 = .ok (.lload_n 0, 1) := by decide +kernel
theorem dX3_sumOrTooGreat_33 : decode cX3_sumOrTooGreat 33 = .ok (.lload_n 2, 1) := by decide +kernel
theorem dX3_sumOrTooGreat_34 : decode cX3_sumOrTooGreat 34 = .ok (.ladd, 1) := by decide +kernel
theorem dX3_sumOrTooGreat_35 : decode cX3_sumOrTooGreat 35 = .ok (.goto 6, 3) := by decide +kernel
theorem dX3_sumOrTooGreat_38 : decode cX3_sumOrTooGreat 38 = .ok (.ldc2_w 329, 3) := by decide +kernel
theorem dX3_sumOrTooGreat_41 : decode cX3_sumOrTooGreat 41 = .ok (.lreturn, 1) := by decide +kernel
theorem dX3_productOrTooGreat_0 : decode cX3_productOrTooGreat 0 = .ok (.iload_n 2, 1) := by decide +kernel
theorem dX3_productOrTooGreat_1 : decode cX3_productOrTooGreat 1 = .ok (.ifCond .ne 5, 3) := by decide +kernel
theorem dX3_productOrTooGreat_4 : decode cX3_productOrTooGreat 4 = .ok (.lconst 0, 1) := by decide +kernel
theorem dX3_productOrTooGreat_5 : decode cX3_productOrTooGreat 5 = .ok (.lreturn, 1) := by decide +kernel
theorem dX3_productOrTooGreat_6 : decode cX3_productOrTooGreat 6 = .ok (.ldc2_w 331, 3) := by decide +kernel
theorem dX3_productOrTooGreat_9 : decode cX3_productOrTooGreat 9 = .ok (.iload_n 2, 1) := by decide +kernel
theorem dX3_productOrTooGreat_10 : decode cX3_productOrTooGreat 10 = .ok (.invokestatic 333, 3) := by decide +kernel
theorem dX3_productOrTooGreat_13 : decode cX3_productOrTooGreat 13 = .ok (.i2l, 1) := by decide +kernel
theorem dX3_productOrTooGreat_14 : decode cX3_productOrTooGreat 14 = .ok (.ldiv, 1) := by decide +kernel
theorem dX3_productOrTooGreat_15 : decode cX3_productOrTooGreat 15 = .ok (.lstore_n 3, 1) := by decide +kernel
theorem dX3_productOrTooGreat_16 : decode cX3_productOrTooGreat 16 = .ok (.lload_n 0, 1) := by decide +kernel
theorem dX3_productOrTooGreat_17 : decode cX3_productOrTooGreat 17 = .ok (.invokestatic 224, 3) := by decide +kernel
theorem dX3_productOrTooGreat_20 : decode cX3_productOrTooGreat 20 = .ok (.lload_n 3, 1) := by decide +kernel
theorem dX3_productOrTooGreat_21 : decode cX3_productOrTooGreat 21 = .ok (.lcmp, 1) := by decide +kernel
theorem dX3_productOrTooGreat_22 : decode cX3_productOrTooGreat 22 = .ok (.ifCond .gt 10, 3) := by decide +kernel
theorem dX3_productOrTooGreat_25 : decode cX3_productOrTooGreat 25 = .ok (.lload_n 0, 1) := by decide +kernel
theorem dX3_productOrTooGreat_26 : decode cX3_productOrTooGreat 26 = .ok (.iload_n 2, 1) := by decide +kernel
theorem dX3_productOrTooGreat_27 : decode cX3_productOrTooGreat 27 = .ok (.i2l, 1) := by decide +kernel
theorem dX3_productOrTooGreat_28 : decode cX3_productOrTooGreat 28 = .ok (.lmul, 1) := by decide +kernel
theorem dX3_productOrTooGreat_29 : decode cX3_productOrTooGreat 29 = .ok (.goto 6, 3) := by decide +kernel
theorem dX3_productOrTooGreat_32 : decode cX3_productOrTooGreat 32 = .ok (.ldc2_w 329, 3) := by decide +kernel
theorem dX3_productOrTooGreat_35 : decode cX3_productOrTooGreat 35 = .ok (.lreturn, 1) := by decide +kernel
theorem dX3_shiftedOrTooGreat_0 : decode cX3_shiftedOrTooGreat 0 = .ok (.iload_n 2, 1) := by decide +kernel
theorem dX3_shiftedOrTooGreat_1 : decode cX3_shiftedOrTooGreat 1 = .ok (.ifCond .ge 8, 3) := by decide +kernel
theorem dX3_shiftedOrTooGreat_4 : decode cX3_shiftedOrTooGreat 4 = .ok (.lload_n 0, 1) := by decide +kernel
theorem dX3_shiftedOrTooGreat_5 : decode cX3_shiftedOrTooGreat 5 = .ok (.iload_n 2, 1) := by decide +kernel
theorem dX3_shiftedOrTooGreat_6 : decode cX3_shiftedOrTooGreat 6 = .ok (.ineg, 1) := by decide +kernel
theorem dX3_shiftedOrTooGreat_7 : decode cX3_shiftedOrTooGreat 7 = .ok (.lshr, 1) := by decide +kernel
theorem dX3_shiftedOrTooGreat_8 : decode cX3_shiftedOrTooGreat 8 = .ok (.lreturn, 1) := by decide +kernel
theorem dX3_shiftedOrTooGreat_9 : decode cX3_shiftedOrTooGreat 9 = .ok (.lload_n 0, 1) := by decide +kernel
theorem dX3_shiftedOrTooGreat_10 : decode cX3_shiftedOrTooGreat 10 = .ok (.ldc2_w 236, 3) := by decide +kernel
theorem dX3_shiftedOrTooGreat_13 : decode cX3_shiftedOrTooGreat 13 = .ok (.iload_n 2, 1) := by decide +kernel
theorem dX3_shiftedOrTooGreat_14 : decode cX3_shiftedOrTooGreat 14 = .ok (.lshr, 1) := by decide +kernel
theorem dX3_shiftedOrTooGreat_15 : decode cX3_shiftedOrTooGreat 15 = .ok (.lcmp, 1) := by decide +kernel
theorem dX3_shiftedOrTooGreat_16 : decode cX3_shiftedOrTooGreat 16 = .ok (.ifCond .lt 17, 3) := by decide +kernel
theorem dX3_shiftedOrTooGreat_19 : decode cX3_shiftedOrTooGreat 19 = .ok (.lload_n 0, 1) := by decide +kernel
theorem dX3_shiftedOrTooGreat_20 : decode cX3_shiftedOrTooGreat 20 = .ok (.ldc2_w 238, 3) := by decide +kernel
theorem dX3_shiftedOrTooGreat_23 : decode cX3_shiftedOrTooGreat 23 = .ok (.iload_n 2, 1) := by decide +kernel
theorem dX3_shiftedOrTooGreat_24 : decode cX3_shiftedOrTooGreat 24 = .ok (.lshr, 1) := by decide +kernel
theorem dX3_shiftedOrTooGreat_25 : decode cX3_shiftedOrTooGreat 25 = .ok (.lcmp, 1) := by decide +kernel
theorem dX3_shiftedOrTooGreat_26 : decode cX3_shiftedOrTooGreat 26 = .ok (.ifCond .gt 7, 3) := by decide +kernel
theorem dX3_shiftedOrTooGreat_29 : decode cX3_shiftedOrTooGreat 29 = .ok (.iconst 1, 1) := by decide +kernel
theorem dX3_shiftedOrTooGreat_30 : decode cX3_shiftedOrTooGreat 30 = .ok (.goto 4, 3) := by decide +kernel
theorem dX3_shiftedOrTooGreat_33 : decode cX3_shiftedOrTooGreat 33 = .ok (.iconst 0, 1) := by decide +kernel
theorem dX3_shiftedOrTooGreat_34 : decode cX3_shiftedOrTooGreat 34 = .ok (.istore_n 3, 1) := by decide +kernel
theorem dX3_shiftedOrTooGreat_35 : decode cX3_shiftedOrTooGreat 35 = .ok (.iload_n 3, 1) := by decide +kernel
theorem dX3_shiftedOrTooGreat_36 : decode cX3_shiftedOrTooGreat 36 = .ok (.ifCond .eq 9, 3) := by decide +kernel
theorem dX3_shiftedOrTooGreat_39 : decode cX3_shiftedOrTooGreat 39 = .ok (.lload_n 0, 1) := by decide +kernel
theorem dX3_shiftedOrTooGreat_40 : decode cX3_shiftedOrTooGreat 40 = .ok (.iload_n 2, 1) := by decide +kernel
theorem dX3_shiftedOrTooGreat_41 : decode cX3_shiftedOrTooGreat 41 = .ok (.lshl, 1) := by decide +kernel
theorem dX3_shiftedOrTooGreat_42 : decode cX3_shiftedOrTooGreat 42 = .ok (.goto 6, 3) := by decide +kernel
theorem dX3_shiftedOrTooGreat_45 : decode cX3_shiftedOrTooGreat 45 = .ok (.ldc2_w 329, 3) := by decide +kernel
theorem dX3_shiftedOrTooGreat_48 : decode cX3_shiftedOrTooGreat 48 = .ok (.lreturn, 1) := by decide +kernel
theorem dX3_gather_0 : decode cX3_gather 0 = .ok (.aload_n 0, 1) := by decide +kernel
theorem dX3_gather_1 : decode cX3_gather 1 = .ok (.getfield 25, 3) := by decide +kernel
theorem dX3_gather_4 : decode cX3_gather 4 = .ok (.invokevirtual 271, 3) := by decide +kernel
theorem dX3_gather_7 : decode cX3_gather 7 = .ok (.iconst 0, 1) := by decide +kernel
theorem dX3_gather_8 : decode cX3_gather 8 = .ok (.istore_n 3, 1) := by decide +kernel
theorem dX3_gather_9 : decode cX3_gather 9 = .ok (.iload_n 3, 1) := by decide +kernel
theorem dX3_gather_10 : decode cX3_gather 10 = .ok (.aload_n 0, 1) := by decide +kernel
theorem dX3_gather_11 : decode cX3_gather 11 = .ok (.getfield 14, 3) := by decide +kernel
theorem dX3_gather_14 : decode cX3_gather 14 = .ok (.getfield 76, 3) := by decide +kernel
theorem dX3_gather_17 : decode cX3_gather 17 = .ok (.if_icmp .ge 41, 3) := by decide +kernel
theorem dX3_gather_20 : decode cX3_gather 20 = .ok (.aload_n 0, 1) := by decide +kernel
theorem dX3_gather_21 : decode cX3_gather 21 = .ok (.getfield 14, 3) := by decide +kernel
theorem dX3_gather_24 : decode cX3_gather 24 = .ok (.iload_n 1, 1) := by decide +kernel
theorem dX3_gather_25 : decode cX3_gather 25 = .ok (.iload_n 3, 1) := by decide +kernel
theorem dX3_gather_26 : decode cX3_gather 26 = .ok (.iload_n 2, 1) := by decide +kernel
theorem dX3_gather_27 : decode cX3_gather 27 = .ok (.invokevirtual 150, 3) := by decide +kernel
theorem dX3_gather_30 : decode cX3_gather 30 = .ok (.ifCond .eq 22, 3) := by decide +kernel
theorem dX3_gather_33 : decode cX3_gather 33 = .ok (.aload_n 0, 1) := by decide +kernel
theorem dX3_gather_34 : decode cX3_gather 34 = .ok (.getfield 25, 3) := by decide +kernel
theorem dX3_gather_37 : decode cX3_gather 37 = .ok (.iload_n 3, 1) := by decide +kernel
theorem dX3_gather_38 : decode cX3_gather 38 = .ok (.aload_n 0, 1) := by decide +kernel
theorem dX3_gather_39 : decode cX3_gather 39 = .ok (.getfield 14, 3) := by decide +kernel
theorem dX3_gather_42 : decode cX3_gather 42 = .ok (.getfield 86, 3) := by decide +kernel
theorem dX3_gather_45 : decode cX3_gather 45 = .ok (.iload_n 1, 1) := by decide +kernel
theorem dX3_gather_46 : decode cX3_gather 46 = .ok (.aaload, 1) := by decide +kernel
theorem dX3_gather_47 : decode cX3_gather 47 = .ok (.iload_n 3, 1) := by decide +kernel
theorem dX3_gather_48 : decode cX3_gather 48 = .ok (.laload, 1) := by decide +kernel
theorem dX3_gather_49 : decode cX3_gather 49 = .ok (.invokevirtual 279, 3) := by decide +kernel
theorem dX3_gather_52 : decode cX3_gather 52 = .ok (.iinc 3 1, 3) := by decide +kernel
theorem dX3_gather_55 : decode cX3_gather 55 = .ok (.goto (-46), 3) := by decide +kernel
theorem dX3_gather_58 : decode cX3_gather 58 = .ok (.return_, 1) := by decide +kernel
theorem dX3_sumUpTo_0 : decode cX3_sumUpTo 0 = .ok (.aload_n 0, 1) := by decide +kernel
theorem dX3_sumUpTo_1 : decode cX3_sumUpTo 1 = .ok (.getfield 32, 3) := by decide +kernel
theorem dX3_sumUpTo_4 : decode cX3_sumUpTo 4 = .ok (.invokevirtual 213, 3) := by decide +kernel
theorem dX3_sumUpTo_7 : decode cX3_sumUpTo 7 = .ok (.iconst 0, 1) := by decide +kernel
theorem dX3_sumUpTo_8 : decode cX3_sumUpTo 8 = .ok (.istore 4, 2) := by decide +kernel
theorem dX3_sumUpTo_10 : decode cX3_sumUpTo 10 = .ok (.iload 4, 2) := by decide +kernel
theorem dX3_sumUpTo_12 : decode cX3_sumUpTo 12 = .ok (.iload_n 3, 1) := by decide +kernel
theorem dX3_sumUpTo_13 : decode cX3_sumUpTo 13 = .ok (.if_icmp .ge 54, 3) := by decide +kernel
theorem dX3_sumUpTo_16 : decode cX3_sumUpTo 16 = .ok (.iload 4, 2) := by decide +kernel
theorem dX3_sumUpTo_18 : decode cX3_sumUpTo 18 = .ok (.aload_n 0, 1) := by decide +kernel
theorem dX3_sumUpTo_19 : decode cX3_sumUpTo 19 = .ok (.getfield 14, 3) := by decide +kernel
theorem dX3_sumUpTo_22 : decode cX3_sumUpTo 22 = .ok (.getfield 76, 3) := by decide +kernel
theorem dX3_sumUpTo_25 : decode cX3_sumUpTo 25 = .ok (.if_icmp .ge 42, 3) := by decide +kernel
theorem dX3_sumUpTo_28 : decode cX3_sumUpTo 28 = .ok (.aload_n 0, 1) := by decide +kernel
theorem dX3_sumUpTo_29 : decode cX3_sumUpTo 29 = .ok (.getfield 14, 3) := by decide +kernel
theorem dX3_sumUpTo_32 : decode cX3_sumUpTo 32 = .ok (.iload_n 1, 1) := by decide +kernel
theorem dX3_sumUpTo_33 : decode cX3_sumUpTo 33 = .ok (.iload 4, 2) := by decide +kernel
theorem dX3_sumUpTo_35 : decode cX3_sumUpTo 35 = .ok (.iload_n 2, 1) := by decide +kernel
theorem dX3_sumUpTo_36 : decode cX3_sumUpTo 36 = .ok (.invokevirtual 150, 3) := by decide +kernel
theorem dX3_sumUpTo_39 : decode cX3_sumUpTo 39 = .ok (.ifCond .eq 22, 3) := by decide +kernel
theorem dX3_sumUpTo_42 : decode cX3_sumUpTo 42 = .ok (.aload_n 0, 1) := by decide +kernel
theorem dX3_sumUpTo_43 : decode cX3_sumUpTo 43 = .ok (.getfield 32, 3) := by decide +kernel
theorem dX3_sumUpTo_46 : decode cX3_sumUpTo 46 = .ok (.aload_n 0, 1) := by decide +kernel
theorem dX3_sumUpTo_47 : decode cX3_sumUpTo 47 = .ok (.getfield 14, 3) := by decide +kernel
theorem dX3_sumUpTo_50 : decode cX3_sumUpTo 50 = .ok (.getfield 86, 3) := by decide +kernel
theorem dX3_sumUpTo_53 : decode cX3_sumUpTo 53 = .ok (.iload_n 1, 1) := by decide +kernel
theorem dX3_sumUpTo_54 : decode cX3_sumUpTo 54 = .ok (.aaload, 1) := by decide +kernel
theorem dX3_sumUpTo_55 : decode cX3_sumUpTo 55 = .ok (.iload 4, 2) := by decide +kernel
theorem dX3_sumUpTo_57 : decode cX3_sumUpTo 57 = .ok (.laload, 1) := by decide +kernel
theorem dX3_sumUpTo_58 : decode cX3_sumUpTo 58 = .ok (.invokevirtual 228, 3) := by decide +kernel
theorem dX3_sumUpTo_61 : decode cX3_sumUpTo 61 = .ok (.iinc 4 1, 3) := by decide +kernel
theorem dX3_sumUpTo_64 : decode cX3_sumUpTo 64 = .ok (.goto (-54), 3) := by decide +kernel
theorem dX3_sumUpTo_67 : decode cX3_sumUpTo 67 = .ok (.aload_n 0, 1) := by decide +kernel
theorem dX3_sumUpTo_68 : decode cX3_sumUpTo 68 = .ok (.getfield 32, 3) := by decide +kernel
theorem dX3_sumUpTo_71 : decode cX3_sumUpTo 71 = .ok (.invokevirtual 220, 3) := by decide +kernel
theorem dX3_sumUpTo_74 : decode cX3_sumUpTo 74 = .ok (.lreturn, 1) := by decide +kernel
theorem dX3_begin_0 : decode cX3_begin 0 = .ok (.iconst 0, 1) := by decide +kernel
theorem dX3_begin_1 : decode cX3_begin 1 = .ok (.istore_n 1, 1) := by decide +kernel
theorem dX3_begin_2 : decode cX3_begin 2 = .ok (.iload_n 1, 1) := by decide +kernel
theorem dX3_begin_3 : decode cX3_begin 3 = .ok (.iconst 3, 1) := by decide +kernel
theorem dX3_begin_4 : decode cX3_begin 4 = .ok (.if_icmp .ge 16, 3) := by decide +kernel
theorem dX3_begin_7 : decode cX3_begin 7 = .ok (.aload_n 0, 1) := by decide +kernel
theorem dX3_begin_8 : decode cX3_begin 8 = .ok (.getfield 36, 3) := by decide +kernel
theorem dX3_begin_11 : decode cX3_begin 11 = .ok (.iload_n 1, 1) := by decide +kernel
theorem dX3_begin_12 : decode cX3_begin 12 = .ok (.lconst 0, 1) := by decide +kernel
theorem dX3_begin_13 : decode cX3_begin 13 = .ok (.lastore, 1) := by decide +kernel
theorem dX3_begin_14 : decode cX3_begin 14 = .ok (.iinc 1 1, 3) := by decide +kernel
theorem dX3_begin_17 : decode cX3_begin 17 = .ok (.goto (-15), 3) := by decide +kernel
theorem dX3_begin_20 : decode cX3_begin 20 = .ok (.return_, 1) := by decide +kernel
theorem dX3_include_0 : decode cX3_include 0 = .ok (.iload_n 1, 1) := by decide +kernel
theorem dX3_include_1 : decode cX3_include 1 = .ok (.ifCond .lt 32, 3) := by decide +kernel
theorem dX3_include_4 : decode cX3_include 4 = .ok (.iload_n 1, 1) := by decide +kernel
theorem dX3_include_5 : decode cX3_include 5 = .ok (.aload_n 0, 1) := by decide +kernel
theorem dX3_include_6 : decode cX3_include 6 = .ok (.getfield 14, 3) := by decide +kernel
theorem dX3_include_9 : decode cX3_include 9 = .ok (.getfield 76, 3) := by decide +kernel
theorem dX3_include_12 : decode cX3_include 12 = .ok (.if_icmp .ge 21, 3) := by decide +kernel
theorem dX3_include_15 : decode cX3_include 15 = .ok (.aload_n 0, 1) := by decide +kernel
theorem dX3_include_16 : decode cX3_include 16 = .ok (.getfield 36, 3) := by decide +kernel
theorem dX3_include_19 : decode cX3_include 19 = .ok (.iload_n 1, 1) := by decide +kernel
theorem dX3_include_20 : decode cX3_include 20 = .ok (.bipush 64, 2) := by decide +kernel
theorem dX3_include_22 : decode cX3_include 22 = .ok (.idiv, 1) := by decide +kernel
theorem dX3_include_23 : decode cX3_include 23 = .ok (.dup2, 1) := by decide +kernel
theorem dX3_include_24 : decode cX3_include 24 = .ok (.laload, 1) := by decide +kernel
theorem dX3_include_25 : decode cX3_include 25 = .ok (.lconst 1, 1) := by decide +kernel
theorem dX3_include_26 : decode cX3_include 26 = .ok (.iload_n 1, 1) := by decide +kernel
theorem dX3_include_27 : decode cX3_include 27 = .ok (.bipush 64, 2) := by decide +kernel
theorem dX3_include_29 : decode cX3_include 29 = .ok (.irem, 1) := by decide +kernel
theorem dX3_include_30 : decode cX3_include 30 = .ok (.lshl, 1) := by decide +kernel
theorem dX3_include_31 : decode cX3_include 31 = .ok (.lor, 1) := by decide +kernel
theorem dX3_include_32 : decode cX3_include 32 = .ok (.lastore, 1) := by decide +kernel
theorem dX3_include_33 : decode cX3_include 33 = .ok (.return_, 1) := by decide +kernel
theorem dX3_includeEach_0 : decode cX3_includeEach 0 = .ok (.iconst 1, 1) := by decide +kernel
theorem dX3_includeEach_1 : decode cX3_includeEach 1 = .ok (.iload_n 1, 1) := by decide +kernel
theorem dX3_includeEach_2 : decode cX3_includeEach 2 = .ok (.sipush 192, 3) := by decide +kernel
theorem dX3_includeEach_5 : decode cX3_includeEach 5 = .ok (.invokestatic 335, 3) := by decide +kernel
theorem dX3_includeEach_8 : decode cX3_includeEach 8 = .ok (.invokestatic 205, 3) := by decide +kernel
theorem dX3_includeEach_11 : decode cX3_includeEach 11 = .ok (.istore 4, 2) := by decide +kernel
theorem dX3_includeEach_13 : decode cX3_includeEach 13 = .ok (.iload_n 2, 1) := by decide +kernel
theorem dX3_includeEach_14 : decode cX3_includeEach 14 = .ok (.istore 5, 2) := by decide +kernel
theorem dX3_includeEach_16 : decode cX3_includeEach 16 = .ok (.iload 5, 2) := by decide +kernel
theorem dX3_includeEach_18 : decode cX3_includeEach 18 = .ok (.iload_n 3, 1) := by decide +kernel
theorem dX3_includeEach_19 : decode cX3_includeEach 19 = .ok (.if_icmp .ge 19, 3) := by decide +kernel
theorem dX3_includeEach_22 : decode cX3_includeEach 22 = .ok (.aload_n 0, 1) := by decide +kernel
theorem dX3_includeEach_23 : decode cX3_includeEach 23 = .ok (.iload 5, 2) := by decide +kernel
theorem dX3_includeEach_25 : decode cX3_includeEach 25 = .ok (.invokevirtual 122, 3) := by decide +kernel
theorem dX3_includeEach_28 : decode cX3_includeEach 28 = .ok (.iload 5, 2) := by decide +kernel
theorem dX3_includeEach_30 : decode cX3_includeEach 30 = .ok (.iload 4, 2) := by decide +kernel
theorem dX3_includeEach_32 : decode cX3_includeEach 32 = .ok (.iadd, 1) := by decide +kernel
theorem dX3_includeEach_33 : decode cX3_includeEach 33 = .ok (.istore 5, 2) := by decide +kernel
theorem dX3_includeEach_35 : decode cX3_includeEach 35 = .ok (.goto (-19), 3) := by decide +kernel
theorem dX3_includeEach_38 : decode cX3_includeEach 38 = .ok (.return_, 1) := by decide +kernel
theorem dX3_become_0 : decode cX3_become 0 = .ok (.iconst 0, 1) := by decide +kernel
theorem dX3_become_1 : decode cX3_become 1 = .ok (.istore_n 2, 1) := by decide +kernel
theorem dX3_become_2 : decode cX3_become 2 = .ok (.iload_n 2, 1) := by decide +kernel
theorem dX3_become_3 : decode cX3_become 3 = .ok (.iconst 3, 1) := by decide +kernel
theorem dX3_become_4 : decode cX3_become 4 = .ok (.if_icmp .ge 26, 3) := by decide +kernel
theorem dX3_become_7 : decode cX3_become 7 = .ok (.aload_n 0, 1) := by decide +kernel
theorem dX3_become_8 : decode cX3_become 8 = .ok (.getfield 14, 3) := by decide +kernel
theorem dX3_become_11 : decode cX3_become 11 = .ok (.getfield 134, 3) := by decide +kernel
theorem dX3_become_14 : decode cX3_become 14 = .ok (.iload_n 1, 1) := by decide +kernel
theorem dX3_become_15 : decode cX3_become 15 = .ok (.aaload, 1) := by decide +kernel
theorem dX3_become_16 : decode cX3_become 16 = .ok (.iload_n 2, 1) := by decide +kernel
theorem dX3_become_17 : decode cX3_become 17 = .ok (.aload_n 0, 1) := by decide +kernel
theorem dX3_become_18 : decode cX3_become 18 = .ok (.getfield 36, 3) := by decide +kernel
theorem dX3_become_21 : decode cX3_become 21 = .ok (.iload_n 2, 1) := by decide +kernel
theorem dX3_become_22 : decode cX3_become 22 = .ok (.laload, 1) := by decide +kernel
theorem dX3_become_23 : decode cX3_become 23 = .ok (.lastore, 1) := by decide +kernel
theorem dX3_become_24 : decode cX3_become 24 = .ok (.iinc 2 1, 3) := by decide +kernel
theorem dX3_become_27 : decode cX3_become 27 = .ok (.goto (-25), 3) := by decide +kernel
theorem dX3_become_30 : decode cX3_become 30 = .ok (.aload_n 0, 1) := by decide +kernel
theorem dX3_become_31 : decode cX3_become 31 = .ok (.getfield 14, 3) := by decide +kernel
theorem dX3_become_34 : decode cX3_become 34 = .ok (.iload_n 1, 1) := by decide +kernel
theorem dX3_become_35 : decode cX3_become 35 = .ok (.invokevirtual 141, 3) := by decide +kernel
theorem dX3_become_38 : decode cX3_become 38 = .ok (.ireturn, 1) := by decide +kernel
theorem dX3_isLikeOneMade_0 : decode cX3_isLikeOneMade 0 = .ok (.iconst 0, 1) := by decide +kernel
theorem dX3_isLikeOneMade_1 : decode cX3_isLikeOneMade 1 = .ok (.istore_n 2, 1) := by decide +kernel
theorem dX3_isLikeOneMade_2 : decode cX3_isLikeOneMade 2 = .ok (.iload_n 2, 1) := by decide +kernel
theorem dX3_isLikeOneMade_3 : decode cX3_isLikeOneMade 3 = .ok (.iload_n 1, 1) := by decide +kernel
theorem dX3_isLikeOneMade_4 : decode cX3_isLikeOneMade 4 = .ok (.if_icmp .ge 34, 3) := by decide +kernel
theorem dX3_isLikeOneMade_7 : decode cX3_isLikeOneMade 7 = .ok (.aload_n 0, 1) := by decide +kernel
theorem dX3_isLikeOneMade_8 : decode cX3_isLikeOneMade 8 = .ok (.getfield 36, 3) := by decide +kernel
theorem dX3_isLikeOneMade_11 : decode cX3_isLikeOneMade 11 = .ok (.iload_n 2, 1) := by decide +kernel
theorem dX3_isLikeOneMade_12 : decode cX3_isLikeOneMade 12 = .ok (.invokestatic 337, 3) := by decide +kernel
theorem dX3_isLikeOneMade_15 : decode cX3_isLikeOneMade 15 = .ok (.ifCond .eq 17, 3) := by decide +kernel
theorem dX3_isLikeOneMade_18 : decode cX3_isLikeOneMade 18 = .ok (.aload_n 0, 1) := by decide +kernel
theorem dX3_isLikeOneMade_19 : decode cX3_isLikeOneMade 19 = .ok (.getfield 14, 3) := by decide +kernel
theorem dX3_isLikeOneMade_22 : decode cX3_isLikeOneMade 22 = .ok (.iload_n 2, 1) := by decide +kernel
theorem dX3_isLikeOneMade_23 : decode cX3_isLikeOneMade 23 = .ok (.iload_n 1, 1) := by decide +kernel
theorem dX3_isLikeOneMade_24 : decode cX3_isLikeOneMade 24 = .ok (.invokevirtual 183, 3) := by decide +kernel
theorem dX3_isLikeOneMade_27 : decode cX3_isLikeOneMade 27 = .ok (.ifCond .eq 5, 3) := by decide +kernel
theorem dX3_isLikeOneMade_30 : decode cX3_isLikeOneMade 30 = .ok (.iconst 1, 1) := by decide +kernel
theorem dX3_isLikeOneMade_31 : decode cX3_isLikeOneMade 31 = .ok (.ireturn, 1) := by decide +kernel
theorem dX3_isLikeOneMade_32 : decode cX3_isLikeOneMade 32 = .ok (.iinc 2 1, 3) := by decide +kernel
theorem dX3_isLikeOneMade_35 : decode cX3_isLikeOneMade 35 = .ok (.goto (-33), 3) := by decide +kernel
theorem dX3_isLikeOneMade_38 : decode cX3_isLikeOneMade 38 = .ok (.iconst 0, 1) := by decide +kernel
theorem dX3_isLikeOneMade_39 : decode cX3_isLikeOneMade 39 = .ok (.ireturn, 1) := by decide +kernel
theorem dX3_isIn_0 : decode cX3_isIn 0 = .ok (.aload_n 0, 1) := by decide +kernel
theorem dX3_isIn_1 : decode cX3_isIn 1 = .ok (.iload_n 1, 1) := by decide +kernel
theorem dX3_isIn_2 : decode cX3_isIn 2 = .ok (.bipush 64, 2) := by decide +kernel
theorem dX3_isIn_4 : decode cX3_isIn 4 = .ok (.idiv, 1) := by decide +kernel
theorem dX3_isIn_5 : decode cX3_isIn 5 = .ok (.laload, 1) := by decide +kernel
theorem dX3_isIn_6 : decode cX3_isIn 6 = .ok (.iload_n 1, 1) := by decide +kernel
theorem dX3_isIn_7 : decode cX3_isIn 7 = .ok (.bipush 64, 2) := by decide +kernel
theorem dX3_isIn_9 : decode cX3_isIn 9 = .ok (.irem, 1) := by decide +kernel
theorem dX3_isIn_10 : decode cX3_isIn 10 = .ok (.lshr, 1) := by decide +kernel
theorem dX3_isIn_11 : decode cX3_isIn 11 = .ok (.lconst 1, 1) := by decide +kernel
theorem dX3_isIn_12 : decode cX3_isIn 12 = .ok (.land, 1) := by decide +kernel
theorem dX3_isIn_13 : decode cX3_isIn 13 = .ok (.lconst 0, 1) := by decide +kernel
theorem dX3_isIn_14 : decode cX3_isIn 14 = .ok (.lcmp, 1) := by decide +kernel
theorem dX3_isIn_15 : decode cX3_isIn 15 = .ok (.ifCond .eq 7, 3) := by decide +kernel
theorem dX3_isIn_18 : decode cX3_isIn 18 = .ok (.iconst 1, 1) := by decide +kernel
theorem dX3_isIn_19 : decode cX3_isIn 19 = .ok (.goto 4, 3) := by decide +kernel
theorem dX3_isIn_22 : decode cX3_isIn 22 = .ok (.iconst 0, 1) := by decide +kernel
theorem dX3_isIn_23 : decode cX3_isIn 23 = .ok (.ireturn, 1) := by decide +kernel
theorem dX3_expectAsItIs_0 : decode cX3_expectAsItIs 0 = .ok (.iconst 0, 1) := by decide +kernel
theorem dX3_expectAsItIs_1 : decode cX3_expectAsItIs 1 = .ok (.istore_n 2, 1) := by decide +kernel
theorem dX3_expectAsItIs_2 : decode cX3_expectAsItIs 2 = .ok (.iload_n 2, 1) := by decide +kernel
theorem dX3_expectAsItIs_3 : decode cX3_expectAsItIs 3 = .ok (.aload_n 0, 1) := by decide +kernel
theorem dX3_expectAsItIs_4 : decode cX3_expectAsItIs 4 = .ok (.getfield 14, 3) := by decide +kernel
theorem dX3_expectAsItIs_7 : decode cX3_expectAsItIs 7 = .ok (.getfield 76, 3) := by decide +kernel
theorem dX3_expectAsItIs_10 : decode cX3_expectAsItIs 10 = .ok (.if_icmp .ge 26, 3) := by decide +kernel
theorem dX3_expectAsItIs_13 : decode cX3_expectAsItIs 13 = .ok (.aload_n 0, 1) := by decide +kernel
theorem dX3_expectAsItIs_14 : decode cX3_expectAsItIs 14 = .ok (.getfield 40, 3) := by decide +kernel
theorem dX3_expectAsItIs_17 : decode cX3_expectAsItIs 17 = .ok (.iload_n 2, 1) := by decide +kernel
theorem dX3_expectAsItIs_18 : decode cX3_expectAsItIs 18 = .ok (.aload_n 0, 1) := by decide +kernel
theorem dX3_expectAsItIs_19 : decode cX3_expectAsItIs 19 = .ok (.getfield 14, 3) := by decide +kernel
theorem dX3_expectAsItIs_22 : decode cX3_expectAsItIs 22 = .ok (.getfield 86, 3) := by decide +kernel
theorem dX3_expectAsItIs_25 : decode cX3_expectAsItIs 25 = .ok (.iload_n 1, 1) := by decide +kernel
theorem dX3_expectAsItIs_26 : decode cX3_expectAsItIs 26 = .ok (.aaload, 1) := by decide +kernel
theorem dX3_expectAsItIs_27 : decode cX3_expectAsItIs 27 = .ok (.iload_n 2, 1) := by decide +kernel
theorem dX3_expectAsItIs_28 : decode cX3_expectAsItIs 28 = .ok (.laload, 1) := by decide +kernel
theorem dX3_expectAsItIs_29 : decode cX3_expectAsItIs 29 = .ok (.lastore, 1) := by decide +kernel
theorem dX3_expectAsItIs_30 : decode cX3_expectAsItIs 30 = .ok (.iinc 2 1, 3) := by decide +kernel
theorem dX3_expectAsItIs_33 : decode cX3_expectAsItIs 33 = .ok (.goto (-31), 3) := by decide +kernel
theorem dX3_expectAsItIs_36 : decode cX3_expectAsItIs 36 = .ok (.return_, 1) := by decide +kernel
theorem dX3_come_0 : decode cX3_come 0 = .ok (.iconst 1, 1) := by decide +kernel
theorem dX3_come_1 : decode cX3_come 1 = .ok (.istore_n 2, 1) := by decide +kernel
theorem dX3_come_2 : decode cX3_come 2 = .ok (.iconst 0, 1) := by decide +kernel
theorem dX3_come_3 : decode cX3_come 3 = .ok (.istore_n 3, 1) := by decide +kernel
theorem dX3_come_4 : decode cX3_come 4 = .ok (.iload_n 3, 1) := by decide +kernel
theorem dX3_come_5 : decode cX3_come 5 = .ok (.aload_n 0, 1) := by decide +kernel
theorem dX3_come_6 : decode cX3_come 6 = .ok (.getfield 14, 3) := by decide +kernel
theorem dX3_come_9 : decode cX3_come 9 = .ok (.getfield 76, 3) := by decide +kernel
theorem dX3_come_12 : decode cX3_come 12 = .ok (.if_icmp .ge 53, 3) := by decide +kernel
theorem dX3_come_15 : decode cX3_come 15 = .ok (.iload_n 2, 1) := by decide +kernel
theorem dX3_come_16 : decode cX3_come 16 = .ok (.ifCond .eq 41, 3) := by decide +kernel
theorem dX3_come_19 : decode cX3_come 19 = .ok (.aload_n 0, 1) := by decide +kernel
theorem dX3_come_20 : decode cX3_come 20 = .ok (.getfield 40, 3) := by decide +kernel
theorem dX3_come_23 : decode cX3_come 23 = .ok (.iload_n 3, 1) := by decide +kernel
theorem dX3_come_24 : decode cX3_come 24 = .ok (.laload, 1) := by decide +kernel
theorem dX3_come_25 : decode cX3_come 25 = .ok (.ldc2_w 90, 3) := by decide +kernel
theorem dX3_come_28 : decode cX3_come 28 = .ok (.lcmp, 1) := by decide +kernel
theorem dX3_come_29 : decode cX3_come 29 = .ok (.ifCond .eq 24, 3) := by decide +kernel
theorem dX3_come_32 : decode cX3_come 32 = .ok (.aload_n 0, 1) := by decide +kernel
theorem dX3_come_33 : decode cX3_come 33 = .ok (.getfield 14, 3) := by decide +kernel
theorem dX3_come_36 : decode cX3_come 36 = .ok (.getfield 58, 3) := by decide +kernel
theorem dX3_come_39 : decode cX3_come 39 = .ok (.iload_n 1, 1) := by decide +kernel
theorem dX3_come_40 : decode cX3_come 40 = .ok (.iaload, 1) := by decide +kernel
theorem dX3_come_41 : decode cX3_come 41 = .ok (.aload_n 0, 1) := by decide +kernel
theorem dX3_come_42 : decode cX3_come 42 = .ok (.getfield 40, 3) := by decide +kernel
theorem dX3_come_45 : decode cX3_come 45 = .ok (.iload_n 3, 1) := by decide +kernel
theorem dX3_come_46 : decode cX3_come 46 = .ok (.laload, 1) := by decide +kernel
theorem dX3_come_47 : decode cX3_come 47 = .ok (.invokestatic 323, 3) := by decide +kernel
theorem dX3_come_50 : decode cX3_come 50 = .ok (.ifCond .eq 7, 3) := by decide +kernel
theorem dX3_come_53 : decode cX3_come 53 = .ok (.iconst 1, 1) := by decide +kernel
theorem dX3_come_54 : decode cX3_come 54 = .ok (.goto 4, 3) := by decide +kernel
theorem dX3_come_57 : decode cX3_come 57 = .ok (.iconst 0, 1) := by decide +kernel
theorem dX3_come_58 : decode cX3_come 58 = .ok (.istore_n 2, 1) := by decide +kernel
theorem dX3_come_59 : decode cX3_come 59 = .ok (.iinc 3 1, 3) := by decide +kernel
theorem dX3_come_62 : decode cX3_come 62 = .ok (.goto (-58), 3) := by decide +kernel
theorem dX3_come_65 : decode cX3_come 65 = .ok (.aload_n 0, 1) := by decide +kernel
theorem dX3_come_66 : decode cX3_come 66 = .ok (.iload_n 2, 1) := by decide +kernel
theorem dX3_come_67 : decode cX3_come 67 = .ok (.invokevirtual 268, 3) := by decide +kernel
theorem dX3_come_70 : decode cX3_come 70 = .ok (.iconst 0, 1) := by decide +kernel
theorem dX3_come_71 : decode cX3_come 71 = .ok (.istore_n 3, 1) := by decide +kernel
theorem dX3_come_72 : decode cX3_come 72 = .ok (.iconst 0, 1) := by decide +kernel
theorem dX3_come_73 : decode cX3_come 73 = .ok (.istore 4, 2) := by decide +kernel
theorem dX3_come_75 : decode cX3_come 75 = .ok (.iload 4, 2) := by decide +kernel
theorem dX3_come_77 : decode cX3_come 77 = .ok (.aload_n 0, 1) := by decide +kernel
theorem dX3_come_78 : decode cX3_come 78 = .ok (.getfield 14, 3) := by decide +kernel
theorem dX3_come_81 : decode cX3_come 81 = .ok (.getfield 76, 3) := by decide +kernel
theorem dX3_come_84 : decode cX3_come 84 = .ok (.if_icmp .ge 59, 3) := by decide +kernel
theorem dX3_come_87 : decode cX3_come 87 = .ok (.iload_n 3, 1) := by decide +kernel
theorem dX3_come_88 : decode cX3_come 88 = .ok (.aload_n 0, 1) := by decide +kernel
theorem dX3_come_89 : decode cX3_come 89 = .ok (.getfield 14, 3) := by decide +kernel
theorem dX3_come_92 : decode cX3_come 92 = .ok (.getfield 86, 3) := by decide +kernel
theorem dX3_come_95 : decode cX3_come 95 = .ok (.iload_n 1, 1) := by decide +kernel
theorem dX3_come_96 : decode cX3_come 96 = .ok (.aaload, 1) := by decide +kernel
theorem dX3_come_97 : decode cX3_come 97 = .ok (.iload 4, 2) := by decide +kernel
theorem dX3_come_99 : decode cX3_come 99 = .ok (.laload, 1) := by decide +kernel
theorem dX3_come_100 : decode cX3_come 100 = .ok (.aload_n 0, 1) := by decide +kernel
theorem dX3_come_101 : decode cX3_come 101 = .ok (.getfield 40, 3) := by decide +kernel
theorem dX3_come_104 : decode cX3_come 104 = .ok (.iload 4, 2) := by decide +kernel
theorem dX3_come_106 : decode cX3_come 106 = .ok (.laload, 1) := by decide +kernel
theorem dX3_come_107 : decode cX3_come 107 = .ok (.lcmp, 1) := by decide +kernel
theorem dX3_come_108 : decode cX3_come 108 = .ok (.ifCond .ne 7, 3) := by decide +kernel
theorem dX3_come_111 : decode cX3_come 111 = .ok (.iconst 0, 1) := by decide +kernel
theorem dX3_come_112 : decode cX3_come 112 = .ok (.goto 4, 3) := by decide +kernel
theorem dX3_come_115 : decode cX3_come 115 = .ok (.iconst 1, 1) := by decide +kernel
theorem dX3_come_116 : decode cX3_come 116 = .ok (.iadd, 1) := by decide +kernel
theorem dX3_come_117 : decode cX3_come 117 = .ok (.istore_n 3, 1) := by decide +kernel
theorem dX3_come_118 : decode cX3_come 118 = .ok (.aload_n 0, 1) := by decide +kernel
theorem dX3_come_119 : decode cX3_come 119 = .ok (.getfield 14, 3) := by decide +kernel
theorem dX3_come_122 : decode cX3_come 122 = .ok (.getfield 86, 3) := by decide +kernel
theorem dX3_come_125 : decode cX3_come 125 = .ok (.iload_n 1, 1) := by decide +kernel
theorem dX3_come_126 : decode cX3_come 126 = .ok (.aaload, 1) := by decide +kernel
theorem dX3_come_127 : decode cX3_come 127 = .ok (.iload 4, 2) := by decide +kernel
theorem dX3_come_129 : decode cX3_come 129 = .ok (.aload_n 0, 1) := by decide +kernel
theorem dX3_come_130 : decode cX3_come 130 = .ok (.getfield 40, 3) := by decide +kernel
theorem dX3_come_133 : decode cX3_come 133 = .ok (.iload 4, 2) := by decide +kernel
theorem dX3_come_135 : decode cX3_come 135 = .ok (.laload, 1) := by decide +kernel
theorem dX3_come_136 : decode cX3_come 136 = .ok (.lastore, 1) := by decide +kernel
theorem dX3_come_137 : decode cX3_come 137 = .ok (.iinc 4 1, 3) := by decide +kernel
theorem dX3_come_140 : decode cX3_come 140 = .ok (.goto (-65), 3) := by decide +kernel
theorem dX3_come_143 : decode cX3_come 143 = .ok (.iload_n 3, 1) := by decide +kernel
theorem dX3_come_144 : decode cX3_come 144 = .ok (.ireturn, 1) := by decide +kernel
theorem dX3_pickRows_0 : decode cX3_pickRows 0 = .ok (.iconst 0, 1) := by decide +kernel
theorem dX3_pickRows_1 : decode cX3_pickRows 1 = .ok (.istore_n 3, 1) := by decide +kernel
theorem dX3_pickRows_2 : decode cX3_pickRows 2 = .ok (.iload_n 3, 1) := by decide +kernel
theorem dX3_pickRows_3 : decode cX3_pickRows 3 = .ok (.aload_n 0, 1) := by decide +kernel
theorem dX3_pickRows_4 : decode cX3_pickRows 4 = .ok (.getfield 14, 3) := by decide +kernel
theorem dX3_pickRows_7 : decode cX3_pickRows 7 = .ok (.getfield 76, 3) := by decide +kernel
theorem dX3_pickRows_10 : decode cX3_pickRows 10 = .ok (.if_icmp .ge 33, 3) := by decide +kernel
theorem dX3_pickRows_13 : decode cX3_pickRows 13 = .ok (.aload_n 0, 1) := by decide +kernel
theorem dX3_pickRows_14 : decode cX3_pickRows 14 = .ok (.getfield 14, 3) := by decide +kernel
theorem dX3_pickRows_17 : decode cX3_pickRows 17 = .ok (.iload_n 3, 1) := by decide +kernel
theorem dX3_pickRows_18 : decode cX3_pickRows 18 = .ok (.iload_n 1, 1) := by decide +kernel
theorem dX3_pickRows_19 : decode cX3_pickRows 19 = .ok (.invokevirtual 162, 3) := by decide +kernel
theorem dX3_pickRows_22 : decode cX3_pickRows 22 = .ok (.iload_n 2, 1) := by decide +kernel
theorem dX3_pickRows_23 : decode cX3_pickRows 23 = .ok (.if_icmp .ne 14, 3) := by decide +kernel
theorem dX3_pickRows_26 : decode cX3_pickRows 26 = .ok (.aload_n 0, 1) := by decide +kernel
theorem dX3_pickRows_27 : decode cX3_pickRows 27 = .ok (.getfield 25, 3) := by decide +kernel
theorem dX3_pickRows_30 : decode cX3_pickRows 30 = .ok (.iload_n 3, 1) := by decide +kernel
theorem dX3_pickRows_31 : decode cX3_pickRows 31 = .ok (.ldc2_w 90, 3) := by decide +kernel
theorem dX3_pickRows_34 : decode cX3_pickRows 34 = .ok (.invokevirtual 279, 3) := by decide +kernel
theorem dX3_pickRows_37 : decode cX3_pickRows 37 = .ok (.iinc 3 1, 3) := by decide +kernel
theorem dX3_pickRows_40 : decode cX3_pickRows 40 = .ok (.goto (-38), 3) := by decide +kernel
theorem dX3_pickRows_43 : decode cX3_pickRows 43 = .ok (.return_, 1) := by decide +kernel
theorem dX3_arrange_0 : decode cX3_arrange 0 = .ok (.iconst 0, 1) := by decide +kernel
theorem dX3_arrange_1 : decode cX3_arrange 1 = .ok (.istore_n 1, 1) := by decide +kernel
theorem dX3_arrange_2 : decode cX3_arrange 2 = .ok (.iload_n 1, 1) := by decide +kernel
theorem dX3_arrange_3 : decode cX3_arrange 3 = .ok (.aload_n 0, 1) := by decide +kernel
theorem dX3_arrange_4 : decode cX3_arrange 4 = .ok (.getfield 14, 3) := by decide +kernel
theorem dX3_arrange_7 : decode cX3_arrange 7 = .ok (.getfield 51, 3) := by decide +kernel
theorem dX3_arrange_10 : decode cX3_arrange 10 = .ok (.if_icmp .ge 58, 3) := by decide +kernel
theorem dX3_arrange_13 : decode cX3_arrange 13 = .ok (.aload_n 0, 1) := by decide +kernel
theorem dX3_arrange_14 : decode cX3_arrange 14 = .ok (.iload_n 1, 1) := by decide +kernel
theorem dX3_arrange_15 : decode cX3_arrange 15 = .ok (.invokevirtual 252, 3) := by decide +kernel
theorem dX3_arrange_18 : decode cX3_arrange 18 = .ok (.iconst 0, 1) := by decide +kernel
theorem dX3_arrange_19 : decode cX3_arrange 19 = .ok (.istore_n 2, 1) := by decide +kernel
theorem dX3_arrange_20 : decode cX3_arrange 20 = .ok (.iload_n 2, 1) := by decide +kernel
theorem dX3_arrange_21 : decode cX3_arrange 21 = .ok (.aload_n 0, 1) := by decide +kernel
theorem dX3_arrange_22 : decode cX3_arrange 22 = .ok (.getfield 25, 3) := by decide +kernel
theorem dX3_arrange_25 : decode cX3_arrange 25 = .ok (.getfield 173, 3) := by decide +kernel
theorem dX3_arrange_28 : decode cX3_arrange 28 = .ok (.if_icmp .ge 34, 3) := by decide +kernel
theorem dX3_arrange_31 : decode cX3_arrange 31 = .ok (.aload_n 0, 1) := by decide +kernel
theorem dX3_arrange_32 : decode cX3_arrange 32 = .ok (.getfield 14, 3) := by decide +kernel
theorem dX3_arrange_35 : decode cX3_arrange 35 = .ok (.getfield 86, 3) := by decide +kernel
theorem dX3_arrange_38 : decode cX3_arrange 38 = .ok (.iload_n 1, 1) := by decide +kernel
theorem dX3_arrange_39 : decode cX3_arrange 39 = .ok (.aaload, 1) := by decide +kernel
theorem dX3_arrange_40 : decode cX3_arrange 40 = .ok (.iload_n 2, 1) := by decide +kernel
theorem dX3_arrange_41 : decode cX3_arrange 41 = .ok (.aload_n 0, 1) := by decide +kernel
theorem dX3_arrange_42 : decode cX3_arrange 42 = .ok (.getfield 40, 3) := by decide +kernel
theorem dX3_arrange_45 : decode cX3_arrange 45 = .ok (.aload_n 0, 1) := by decide +kernel
theorem dX3_arrange_46 : decode cX3_arrange 46 = .ok (.getfield 25, 3) := by decide +kernel
theorem dX3_arrange_49 : decode cX3_arrange 49 = .ok (.getfield 176, 3) := by decide +kernel
theorem dX3_arrange_52 : decode cX3_arrange 52 = .ok (.iload_n 2, 1) := by decide +kernel
theorem dX3_arrange_53 : decode cX3_arrange 53 = .ok (.iaload, 1) := by decide +kernel
theorem dX3_arrange_54 : decode cX3_arrange 54 = .ok (.laload, 1) := by decide +kernel
theorem dX3_arrange_55 : decode cX3_arrange 55 = .ok (.lastore, 1) := by decide +kernel
theorem dX3_arrange_56 : decode cX3_arrange 56 = .ok (.iinc 2 1, 3) := by decide +kernel
theorem dX3_arrange_59 : decode cX3_arrange 59 = .ok (.goto (-39), 3) := by decide +kernel
theorem dX3_arrange_62 : decode cX3_arrange 62 = .ok (.iinc 1 1, 3) := by decide +kernel
theorem dX3_arrange_65 : decode cX3_arrange 65 = .ok (.goto (-63), 3) := by decide +kernel
theorem dX3_arrange_68 : decode cX3_arrange 68 = .ok (.iconst 0, 1) := by decide +kernel
theorem dX3_arrange_69 : decode cX3_arrange 69 = .ok (.istore_n 1, 1) := by decide +kernel
theorem dX3_arrange_70 : decode cX3_arrange 70 = .ok (.iload_n 1, 1) := by decide +kernel
theorem dX3_arrange_71 : decode cX3_arrange 71 = .ok (.bipush 8, 2) := by decide +kernel
theorem dX3_arrange_73 : decode cX3_arrange 73 = .ok (.if_icmp .ge 63, 3) := by decide +kernel
theorem dX3_arrange_76 : decode cX3_arrange 76 = .ok (.aload_n 0, 1) := by decide +kernel
theorem dX3_arrange_77 : decode cX3_arrange 77 = .ok (.invokevirtual 115, 3) := by decide +kernel
theorem dX3_arrange_80 : decode cX3_arrange 80 = .ok (.iconst 0, 1) := by decide +kernel
theorem dX3_arrange_81 : decode cX3_arrange 81 = .ok (.istore_n 2, 1) := by decide +kernel
theorem dX3_arrange_82 : decode cX3_arrange 82 = .ok (.iload_n 2, 1) := by decide +kernel
theorem dX3_arrange_83 : decode cX3_arrange 83 = .ok (.aload_n 0, 1) := by decide +kernel
theorem dX3_arrange_84 : decode cX3_arrange 84 = .ok (.getfield 25, 3) := by decide +kernel
theorem dX3_arrange_87 : decode cX3_arrange 87 = .ok (.getfield 173, 3) := by decide +kernel
theorem dX3_arrange_90 : decode cX3_arrange 90 = .ok (.if_icmp .ge 34, 3) := by decide +kernel
theorem dX3_arrange_93 : decode cX3_arrange 93 = .ok (.aload_n 0, 1) := by decide +kernel
theorem dX3_arrange_94 : decode cX3_arrange 94 = .ok (.getfield 14, 3) := by decide +kernel
theorem dX3_arrange_97 : decode cX3_arrange 97 = .ok (.aload_n 0, 1) := by decide +kernel
theorem dX3_arrange_98 : decode cX3_arrange 98 = .ok (.getfield 25, 3) := by decide +kernel
theorem dX3_arrange_101 : decode cX3_arrange 101 = .ok (.getfield 176, 3) := by decide +kernel
theorem dX3_arrange_104 : decode cX3_arrange 104 = .ok (.iload_n 2, 1) := by decide +kernel
theorem dX3_arrange_105 : decode cX3_arrange 105 = .ok (.iaload, 1) := by decide +kernel
theorem dX3_arrange_106 : decode cX3_arrange 106 = .ok (.iload_n 1, 1) := by decide +kernel
theorem dX3_arrange_107 : decode cX3_arrange 107 = .ok (.invokevirtual 162, 3) := by decide +kernel
theorem dX3_arrange_110 : decode cX3_arrange 110 = .ok (.ifCond .eq 8, 3) := by decide +kernel
theorem dX3_arrange_113 : decode cX3_arrange 113 = .ok (.aload_n 0, 1) := by decide +kernel
theorem dX3_arrange_114 : decode cX3_arrange 114 = .ok (.iload_n 2, 1) := by decide +kernel
theorem dX3_arrange_115 : decode cX3_arrange 115 = .ok (.invokevirtual 122, 3) := by decide +kernel
theorem dX3_arrange_118 : decode cX3_arrange 118 = .ok (.iinc 2 1, 3) := by decide +kernel
theorem dX3_arrange_121 : decode cX3_arrange 121 = .ok (.goto (-39), 3) := by decide +kernel
theorem dX3_arrange_124 : decode cX3_arrange 124 = .ok (.aload_n 0, 1) := by decide +kernel
theorem dX3_arrange_125 : decode cX3_arrange 125 = .ok (.iload_n 1, 1) := by decide +kernel
theorem dX3_arrange_126 : decode cX3_arrange 126 = .ok (.invokevirtual 131, 3) := by decide +kernel
theorem dX3_arrange_129 : decode cX3_arrange 129 = .ok (.pop, 1) := by decide +kernel
theorem dX3_arrange_130 : decode cX3_arrange 130 = .ok (.iinc 1 1, 3) := by decide +kernel
theorem dX3_arrange_133 : decode cX3_arrange 133 = .ok (.goto (-63), 3) := by decide +kernel
theorem dX3_arrange_136 : decode cX3_arrange 136 = .ok (.aload_n 0, 1) := by decide +kernel
theorem dX3_arrange_137 : decode cX3_arrange 137 = .ok (.getfield 14, 3) := by decide +kernel
theorem dX3_arrange_140 : decode cX3_arrange 140 = .ok (.aload_n 0, 1) := by decide +kernel
theorem dX3_arrange_141 : decode cX3_arrange 141 = .ok (.getfield 25, 3) := by decide +kernel
theorem dX3_arrange_144 : decode cX3_arrange 144 = .ok (.getfield 173, 3) := by decide +kernel
theorem dX3_arrange_147 : decode cX3_arrange 147 = .ok (.putfield 76, 3) := by decide +kernel
theorem dX3_arrange_150 : decode cX3_arrange 150 = .ok (.aload_n 0, 1) := by decide +kernel
theorem dX3_arrange_151 : decode cX3_arrange 151 = .ok (.getfield 25, 3) := by decide +kernel
theorem dX3_arrange_154 : decode cX3_arrange 154 = .ok (.invokevirtual 341, 3) := by decide +kernel
theorem dX3_arrange_157 : decode cX3_arrange 157 = .ok (.ireturn, 1) := by decide +kernel
theorem dJx00060_init_a7421_0 : decode cJx00060_init_a7421 0 = .ok (.aload_n 0, 1) := by decide +kernel
theorem dJx00060_init_a7421_1 : decode cJx00060_init_a7421 1 = .ok (.aload_n 1, 1) := by decide +kernel
theorem dJx00060_init_a7421_2 : decode cJx00060_init_a7421 2 = .ok (.invokespecial 7, 3) := by decide +kernel
theorem dJx00060_init_a7421_5 : decode cJx00060_init_a7421 5 = .ok (.return_, 1) := by decide +kernel
theorem dJ13_bitCount_95d88_0 : decode cJ13_bitCount_95d88 0 = .ok (.lload_n 0, 1) := by decide +kernel
theorem dJ13_bitCount_95d88_1 : decode cJ13_bitCount_95d88 1 = .ok (.lload_n 0, 1) := by decide +kernel
theorem dJ13_bitCount_95d88_2 : decode cJ13_bitCount_95d88 2 = .ok (.iconst 1, 1) := by decide +kernel
theorem dJ13_bitCount_95d88_3 : decode cJ13_bitCount_95d88 3 = .ok (.lushr, 1) := by decide +kernel
theorem dJ13_bitCount_95d88_4 : decode cJ13_bitCount_95d88 4 = .ok (.ldc2_w 314, 3) := by decide +kernel
theorem dJ13_bitCount_95d88_7 : decode cJ13_bitCount_95d88 7 = .ok (.land, 1) := by decide +kernel
theorem dJ13_bitCount_95d88_8 : decode cJ13_bitCount_95d88 8 = .ok (.lsub, 1) := by decide +kernel
theorem dJ13_bitCount_95d88_9 : decode cJ13_bitCount_95d88 9 = .ok (.lstore_n 0, 1) := by decide +kernel
theorem dJ13_bitCount_95d88_10 : decode cJ13_bitCount_95d88 10 = .ok (.lload_n 0, 1) := by decide +kernel
theorem dJ13_bitCount_95d88_11 : decode cJ13_bitCount_95d88 11 = .ok (.ldc2_w 316, 3) := by decide +kernel
theorem dJ13_bitCount_95d88_14 : decode cJ13_bitCount_95d88 14 = .ok (.land, 1) := by decide +kernel
theorem dJ13_bitCount_95d88_15 : decode cJ13_bitCount_95d88 15 = .ok (.lload_n 0, 1) := by decide +kernel
theorem dJ13_bitCount_95d88_16 : decode cJ13_bitCount_95d88 16 = .ok (.iconst 2, 1) := by decide +kernel
theorem dJ13_bitCount_95d88_17 : decode cJ13_bitCount_95d88 17 = .ok (.lushr, 1) := by decide +kernel
theorem dJ13_bitCount_95d88_18 : decode cJ13_bitCount_95d88 18 = .ok (.ldc2_w 316, 3) := by decide +kernel
theorem dJ13_bitCount_95d88_21 : decode cJ13_bitCount_95d88 21 = .ok (.land, 1) := by decide +kernel
theorem dJ13_bitCount_95d88_22 : decode cJ13_bitCount_95d88 22 = .ok (.ladd, 1) := by decide +kernel
theorem dJ13_bitCount_95d88_23 : decode cJ13_bitCount_95d88 23 = .ok (.lstore_n 0, 1) := by decide +kernel
theorem dJ13_bitCount_95d88_24 : decode cJ13_bitCount_95d88 24 = .ok (.lload_n 0, 1) := by decide +kernel
theorem dJ13_bitCount_95d88_25 : decode cJ13_bitCount_95d88 25 = .ok (.lload_n 0, 1) := by decide +kernel
theorem dJ13_bitCount_95d88_26 : decode cJ13_bitCount_95d88 26 = .ok (.iconst 4, 1) := by decide +kernel
theorem dJ13_bitCount_95d88_27 : decode cJ13_bitCount_95d88 27 = .ok (.lushr, 1) := by decide +kernel
theorem dJ13_bitCount_95d88_28 : decode cJ13_bitCount_95d88 28 = .ok (.ladd, 1) := by decide +kernel
theorem dJ13_bitCount_95d88_29 : decode cJ13_bitCount_95d88 29 = .ok (.ldc2_w 318, 3) := by decide +kernel
theorem dJ13_bitCount_95d88_32 : decode cJ13_bitCount_95d88 32 = .ok (.land, 1) := by decide +kernel
theorem dJ13_bitCount_95d88_33 : decode cJ13_bitCount_95d88 33 = .ok (.lstore_n 0, 1) := by decide +kernel
theorem dJ13_bitCount_95d88_34 : decode cJ13_bitCount_95d88 34 = .ok (.lload_n 0, 1) := by decide +kernel
theorem dJ13_bitCount_95d88_35 : decode cJ13_bitCount_95d88 35 = .ok (.lload_n 0, 1) := by decide +kernel
theorem dJ13_bitCount_95d88_36 : decode cJ13_bitCount_95d88 36 = .ok (.bipush 8, 2) := by decide +kernel
theorem dJ13_bitCount_95d88_38 : decode cJ13_bitCount_95d88 38 = .ok (.lushr, 1) := by decide +kernel
theorem dJ13_bitCount_95d88_39 : decode cJ13_bitCount_95d88 39 = .ok (.ladd, 1) := by decide +kernel
theorem dJ13_bitCount_95d88_40 : decode cJ13_bitCount_95d88 40 = .ok (.lstore_n 0, 1) := by decide +kernel
theorem dJ13_bitCount_95d88_41 : decode cJ13_bitCount_95d88 41 = .ok (.lload_n 0, 1) := by decide +kernel
theorem dJ13_bitCount_95d88_42 : decode cJ13_bitCount_95d88 42 = .ok (.lload_n 0, 1) := by decide +kernel
theorem dJ13_bitCount_95d88_43 : decode cJ13_bitCount_95d88 43 = .ok (.bipush 16, 2) := by decide +kernel
theorem dJ13_bitCount_95d88_45 : decode cJ13_bitCount_95d88 45 = .ok (.lushr, 1) := by decide +kernel
theorem dJ13_bitCount_95d88_46 : decode cJ13_bitCount_95d88 46 = .ok (.ladd, 1) := by decide +kernel
theorem dJ13_bitCount_95d88_47 : decode cJ13_bitCount_95d88 47 = .ok (.lstore_n 0, 1) := by decide +kernel
theorem dJ13_bitCount_95d88_48 : decode cJ13_bitCount_95d88 48 = .ok (.lload_n 0, 1) := by decide +kernel
theorem dJ13_bitCount_95d88_49 : decode cJ13_bitCount_95d88 49 = .ok (.lload_n 0, 1) := by decide +kernel
theorem dJ13_bitCount_95d88_50 : decode cJ13_bitCount_95d88 50 = .ok (.bipush 32, 2) := by decide +kernel
theorem dJ13_bitCount_95d88_52 : decode cJ13_bitCount_95d88 52 = .ok (.lushr, 1) := by decide +kernel
theorem dJ13_bitCount_95d88_53 : decode cJ13_bitCount_95d88 53 = .ok (.ladd, 1) := by decide +kernel
theorem dJ13_bitCount_95d88_54 : decode cJ13_bitCount_95d88 54 = .ok (.lstore_n 0, 1) := by decide +kernel
theorem dJ13_bitCount_95d88_55 : decode cJ13_bitCount_95d88 55 = .ok (.lload_n 0, 1) := by decide +kernel
theorem dJ13_bitCount_95d88_56 : decode cJ13_bitCount_95d88 56 = .ok (.l2i, 1) := by decide +kernel
theorem dJ13_bitCount_95d88_57 : decode cJ13_bitCount_95d88 57 = .ok (.bipush 127, 2) := by decide +kernel
theorem dJ13_bitCount_95d88_59 : decode cJ13_bitCount_95d88 59 = .ok (.iand, 1) := by decide +kernel
theorem dJ13_bitCount_95d88_60 : decode cJ13_bitCount_95d88 60 = .ok (.ireturn, 1) := by decide +kernel
theorem dJ9_floorDiv_f86c9_0 : decode cJ9_floorDiv_f86c9 0 = .ok (.lload_n 0, 1) := by decide +kernel
theorem dJ9_floorDiv_f86c9_1 : decode cJ9_floorDiv_f86c9 1 = .ok (.lload_n 2, 1) := by decide +kernel
theorem dJ9_floorDiv_f86c9_2 : decode cJ9_floorDiv_f86c9 2 = .ok (.ldiv, 1) := by decide +kernel
theorem dJ9_floorDiv_f86c9_3 : decode cJ9_floorDiv_f86c9 3 = .ok (.lstore 4, 2) := by decide +kernel
theorem dJ9_floorDiv_f86c9_5 : decode cJ9_floorDiv_f86c9 5 = .ok (.lload_n 0, 1) := by decide +kernel
theorem dJ9_floorDiv_f86c9_6 : decode cJ9_floorDiv_f86c9 6 = .ok (.lload_n 2, 1) := by decide +kernel
theorem dJ9_floorDiv_f86c9_7 : decode cJ9_floorDiv_f86c9 7 = .ok (.lxor, 1) := by decide +kernel
theorem dJ9_floorDiv_f86c9_8 : decode cJ9_floorDiv_f86c9 8 = .ok (.lconst 0, 1) := by decide +kernel
theorem dJ9_floorDiv_f86c9_9 : decode cJ9_floorDiv_f86c9 9 = .ok (.lcmp, 1) := by decide +kernel
theorem dJ9_floorDiv_f86c9_10 : decode cJ9_floorDiv_f86c9 10 = .ok (.ifCond .ge 17, 3) := by decide +kernel
theorem dJ9_floorDiv_f86c9_13 : decode cJ9_floorDiv_f86c9 13 = .ok (.lload 4, 2) := by decide +kernel
theorem dJ9_floorDiv_f86c9_15 : decode cJ9_floorDiv_f86c9 15 = .ok (.lload_n 2, 1) := by decide +kernel
theorem dJ9_floorDiv_f86c9_16 : decode cJ9_floorDiv_f86c9 16 = .ok (.lmul, 1) := by decide +kernel
theorem dJ9_floorDiv_f86c9_17 : decode cJ9_floorDiv_f86c9 17 = .ok (.lload_n 0, 1) := by decide +kernel
theorem dJ9_floorDiv_f86c9_18 : decode cJ9_floorDiv_f86c9 18 = .ok (.lcmp, 1) := by decide +kernel
theorem dJ9_floorDiv_f86c9_19 : decode cJ9_floorDiv_f86c9 19 = .ok (.ifCond .eq 8, 3) := by decide +kernel
theorem dJ9_floorDiv_f86c9_22 : decode cJ9_floorDiv_f86c9 22 = .ok (.lload 4, 2) := by decide +kernel
theorem dJ9_floorDiv_f86c9_24 : decode cJ9_floorDiv_f86c9 24 = .ok (.lconst 1, 1) := by decide +kernel
theorem dJ9_floorDiv_f86c9_25 : decode cJ9_floorDiv_f86c9 25 = .ok (.lsub, 1) := by decide +kernel
theorem dJ9_floorDiv_f86c9_26 : decode cJ9_floorDiv_f86c9 26 = .ok (.lreturn, 1) := by decide +kernel
theorem dJ9_floorDiv_f86c9_27 : decode cJ9_floorDiv_f86c9 27 = .ok (.lload 4, 2) := by decide +kernel
theorem dJ9_floorDiv_f86c9_29 : decode cJ9_floorDiv_f86c9 29 = .ok (.lreturn, 1) := by decide +kernel
theorem dJ9_floorMod_f86c9_0 : decode cJ9_floorMod_f86c9 0 = .ok (.lload_n 0, 1) := by decide +kernel
theorem dJ9_floorMod_f86c9_1 : decode cJ9_floorMod_f86c9 1 = .ok (.lload_n 2, 1) := by decide +kernel
theorem dJ9_floorMod_f86c9_2 : decode cJ9_floorMod_f86c9 2 = .ok (.lrem, 1) := by decide +kernel
theorem dJ9_floorMod_f86c9_3 : decode cJ9_floorMod_f86c9 3 = .ok (.lstore 4, 2) := by decide +kernel
theorem dJ9_floorMod_f86c9_5 : decode cJ9_floorMod_f86c9 5 = .ok (.lload_n 0, 1) := by decide +kernel
theorem dJ9_floorMod_f86c9_6 : decode cJ9_floorMod_f86c9 6 = .ok (.lload_n 2, 1) := by decide +kernel
theorem dJ9_floorMod_f86c9_7 : decode cJ9_floorMod_f86c9 7 = .ok (.lxor, 1) := by decide +kernel
theorem dJ9_floorMod_f86c9_8 : decode cJ9_floorMod_f86c9 8 = .ok (.lconst 0, 1) := by decide +kernel
theorem dJ9_floorMod_f86c9_9 : decode cJ9_floorMod_f86c9 9 = .ok (.lcmp, 1) := by decide +kernel
theorem dJ9_floorMod_f86c9_10 : decode cJ9_floorMod_f86c9 10 = .ok (.ifCond .ge 15, 3) := by decide +kernel
theorem dJ9_floorMod_f86c9_13 : decode cJ9_floorMod_f86c9 13 = .ok (.lload 4, 2) := by decide +kernel
theorem dJ9_floorMod_f86c9_15 : decode cJ9_floorMod_f86c9 15 = .ok (.lconst 0, 1) := by decide +kernel
theorem dJ9_floorMod_f86c9_16 : decode cJ9_floorMod_f86c9 16 = .ok (.lcmp, 1) := by decide +kernel
theorem dJ9_floorMod_f86c9_17 : decode cJ9_floorMod_f86c9 17 = .ok (.ifCond .eq 8, 3) := by decide +kernel
theorem dJ9_floorMod_f86c9_20 : decode cJ9_floorMod_f86c9 20 = .ok (.lload 4, 2) := by decide +kernel
theorem dJ9_floorMod_f86c9_22 : decode cJ9_floorMod_f86c9 22 = .ok (.lload_n 2, 1) := by decide +kernel
theorem dJ9_floorMod_f86c9_23 : decode cJ9_floorMod_f86c9 23 = .ok (.ladd, 1) := by decide +kernel
theorem dJ9_floorMod_f86c9_24 : decode cJ9_floorMod_f86c9 24 = .ok (.lreturn, 1) := by decide +kernel
theorem dJ9_floorMod_f86c9_25 : decode cJ9_floorMod_f86c9 25 = .ok (.lload 4, 2) := by decide +kernel
theorem dJ9_floorMod_f86c9_27 : decode cJ9_floorMod_f86c9 27 = .ok (.lreturn, 1) := by decide +kernel
theorem dJ9_abs_0f7a4_0 : decode cJ9_abs_0f7a4 0 = .ok (.iload_n 0, 1) := by decide +kernel
theorem dJ9_abs_0f7a4_1 : decode cJ9_abs_0f7a4 1 = .ok (.ifCond .ge 8, 3) := by decide +kernel
theorem dJ9_abs_0f7a4_4 : decode cJ9_abs_0f7a4 4 = .ok (.iload_n 0, 1) := by decide +kernel
theorem dJ9_abs_0f7a4_5 : decode cJ9_abs_0f7a4 5 = .ok (.ineg, 1) := by decide +kernel
theorem dJ9_abs_0f7a4_6 : decode cJ9_abs_0f7a4 6 = .ok (.goto 4, 3) := by decide +kernel
theorem dJ9_abs_0f7a4_9 : decode cJ9_abs_0f7a4 9 = .ok (.iload_n 0, 1) := by decide +kernel
theorem dJ9_abs_0f7a4_10 : decode cJ9_abs_0f7a4 10 = .ok (.ireturn, 1) := by decide +kernel
theorem dJ9_abs_067f4_0 : decode cJ9_abs_067f4 0 = .ok (.lload_n 0, 1) := by decide +kernel
theorem dJ9_abs_067f4_1 : decode cJ9_abs_067f4 1 = .ok (.lconst 0, 1) := by decide +kernel
theorem dJ9_abs_067f4_2 : decode cJ9_abs_067f4 2 = .ok (.lcmp, 1) := by decide +kernel
theorem dJ9_abs_067f4_3 : decode cJ9_abs_067f4 3 = .ok (.ifCond .ge 8, 3) := by decide +kernel
theorem dJ9_abs_067f4_6 : decode cJ9_abs_067f4 6 = .ok (.lload_n 0, 1) := by decide +kernel
theorem dJ9_abs_067f4_7 : decode cJ9_abs_067f4 7 = .ok (.lneg, 1) := by decide +kernel
theorem dJ9_abs_067f4_8 : decode cJ9_abs_067f4 8 = .ok (.goto 4, 3) := by decide +kernel
theorem dJ9_abs_067f4_11 : decode cJ9_abs_067f4 11 = .ok (.lload_n 0, 1) := by decide +kernel
theorem dJ9_abs_067f4_12 : decode cJ9_abs_067f4 12 = .ok (.lreturn, 1) := by decide +kernel
theorem dJ9_max_7cf53_0 : decode cJ9_max_7cf53 0 = .ok (.iload_n 0, 1) := by decide +kernel
theorem dJ9_max_7cf53_1 : decode cJ9_max_7cf53 1 = .ok (.iload_n 1, 1) := by decide +kernel
theorem dJ9_max_7cf53_2 : decode cJ9_max_7cf53 2 = .ok (.if_icmp .lt 7, 3) := by decide +kernel
theorem dJ9_max_7cf53_5 : decode cJ9_max_7cf53 5 = .ok (.iload_n 0, 1) := by decide +kernel
theorem dJ9_max_7cf53_6 : decode cJ9_max_7cf53 6 = .ok (.goto 4, 3) := by decide +kernel
theorem dJ9_max_7cf53_9 : decode cJ9_max_7cf53 9 = .ok (.iload_n 1, 1) := by decide +kernel
theorem dJ9_max_7cf53_10 : decode cJ9_max_7cf53 10 = .ok (.ireturn, 1) := by decide +kernel
theorem dJ9_max_f86c9_0 : decode cJ9_max_f86c9 0 = .ok (.lload_n 0, 1) := by decide +kernel
theorem dJ9_max_f86c9_1 : decode cJ9_max_f86c9 1 = .ok (.lload_n 2, 1) := by decide +kernel
theorem dJ9_max_f86c9_2 : decode cJ9_max_f86c9 2 = .ok (.lcmp, 1) := by decide +kernel
theorem dJ9_max_f86c9_3 : decode cJ9_max_f86c9 3 = .ok (.ifCond .lt 7, 3) := by decide +kernel
theorem dJ9_max_f86c9_6 : decode cJ9_max_f86c9 6 = .ok (.lload_n 0, 1) := by decide +kernel
theorem dJ9_max_f86c9_7 : decode cJ9_max_f86c9 7 = .ok (.goto 4, 3) := by decide +kernel
theorem dJ9_max_f86c9_10 : decode cJ9_max_f86c9 10 = .ok (.lload_n 2, 1) := by decide +kernel
theorem dJ9_max_f86c9_11 : decode cJ9_max_f86c9 11 = .ok (.lreturn, 1) := by decide +kernel
theorem dJ9_min_7cf53_0 : decode cJ9_min_7cf53 0 = .ok (.iload_n 0, 1) := by decide +kernel
theorem dJ9_min_7cf53_1 : decode cJ9_min_7cf53 1 = .ok (.iload_n 1, 1) := by decide +kernel
theorem dJ9_min_7cf53_2 : decode cJ9_min_7cf53 2 = .ok (.if_icmp .gt 7, 3) := by decide +kernel
theorem dJ9_min_7cf53_5 : decode cJ9_min_7cf53 5 = .ok (.iload_n 0, 1) := by decide +kernel
theorem dJ9_min_7cf53_6 : decode cJ9_min_7cf53 6 = .ok (.goto 4, 3) := by decide +kernel
theorem dJ9_min_7cf53_9 : decode cJ9_min_7cf53 9 = .ok (.iload_n 1, 1) := by decide +kernel
theorem dJ9_min_7cf53_10 : decode cJ9_min_7cf53 10 = .ok (.ireturn, 1) := by decide +kernel
theorem dJ9_min_f86c9_0 : decode cJ9_min_f86c9 0 = .ok (.lload_n 0, 1) := by decide +kernel
theorem dJ9_min_f86c9_1 : decode cJ9_min_f86c9 1 = .ok (.lload_n 2, 1) := by decide +kernel
theorem dJ9_min_f86c9_2 : decode cJ9_min_f86c9 2 = .ok (.lcmp, 1) := by decide +kernel
theorem dJ9_min_f86c9_3 : decode cJ9_min_f86c9 3 = .ok (.ifCond .gt 7, 3) := by decide +kernel
theorem dJ9_min_f86c9_6 : decode cJ9_min_f86c9 6 = .ok (.lload_n 0, 1) := by decide +kernel
theorem dJ9_min_f86c9_7 : decode cJ9_min_f86c9 7 = .ok (.goto 4, 3) := by decide +kernel
theorem dJ9_min_f86c9_10 : decode cJ9_min_f86c9 10 = .ok (.lload_n 2, 1) := by decide +kernel
theorem dJ9_min_f86c9_11 : decode cJ9_min_f86c9 11 = .ok (.lreturn, 1) := by decide +kernel
