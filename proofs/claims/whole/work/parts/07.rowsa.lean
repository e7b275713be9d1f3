theorem dX0_init_0 : decode cX0_init 0 = .ok (.aload_n 0, 1) := by decide +kernel
theorem dX0_init_1 : decode cX0_init 1 = .ok (.invokespecial 3, 3) := by decide +kernel
theorem dX0_init_4 : decode cX0_init 4 = .ok (.aload_n 0, 1) := by decide +kernel
theorem dX0_init_5 : decode cX0_init 5 = .ok (.iconst (-1), 1) := by decide +kernel
theorem dX0_init_6 : decode cX0_init 6 = .ok (.putfield 9, 3) := by decide +kernel
theorem dX0_init_9 : decode cX0_init 9 = .ok (.aload_n 0, 1) := by decide +kernel
theorem dX0_init_10 : decode cX0_init 10 = .ok (.iconst (-1), 1) := by decide +kernel
theorem dX0_init_11 : decode cX0_init 11 = .ok (.putfield 15, 3) := by decide +kernel
theorem dX0_init_14 : decode cX0_init 14 = .ok (.aload_n 0, 1) := by decide +kernel
theorem dX0_init_15 : decode cX0_init 15 = .ok (.iload_n 1, 1) := by decide +kernel
theorem dX0_init_16 : decode cX0_init 16 = .ok (.putfield 18, 3) := by decide +kernel
theorem dX0_init_19 : decode cX0_init 19 = .ok (.aload_n 0, 1) := by decide +kernel
theorem dX0_init_20 : decode cX0_init 20 = .ok (.iload_n 2, 1) := by decide +kernel
theorem dX0_init_21 : decode cX0_init 21 = .ok (.putfield 21, 3) := by decide +kernel
theorem dX0_init_24 : decode cX0_init 24 = .ok (.return_, 1) := by decide +kernel
theorem dX0_hasJob_0 : decode cX0_hasJob 0 = .ok (.aload_n 0, 1) := by decide +kernel
theorem dX0_hasJob_1 : decode cX0_hasJob 1 = .ok (.getfield 9, 3) := by decide +kernel
theorem dX0_hasJob_4 : decode cX0_hasJob 4 = .ok (.iconst (-1), 1) := by decide +kernel
theorem dX0_hasJob_5 : decode cX0_hasJob 5 = .ok (.if_icmp .eq 7, 3) := by decide +kernel
theorem dX0_hasJob_8 : decode cX0_hasJob 8 = .ok (.iconst 1, 1) := by decide +kernel
theorem dX0_hasJob_9 : decode cX0_hasJob 9 = .ok (.goto 4, 3) := by decide +kernel
theorem dX0_hasJob_12 : decode cX0_hasJob 12 = .ok (.iconst 0, 1) := by decide +kernel
theorem dX0_hasJob_13 : decode cX0_hasJob 13 = .ok (.ireturn, 1) := by decide +kernel
theorem dX0_startJob_0 : decode cX0_startJob 0 = .ok (.aload_n 0, 1) := by decide +kernel
theorem dX0_startJob_1 : decode cX0_startJob 1 = .ok (.iload_n 1, 1) := by decide +kernel
theorem dX0_startJob_2 : decode cX0_startJob 2 = .ok (.putfield 9, 3) := by decide +kernel
theorem dX0_startJob_5 : decode cX0_startJob 5 = .ok (.aload_n 0, 1) := by decide +kernel
theorem dX0_startJob_6 : decode cX0_startJob 6 = .ok (.iload_n 2, 1) := by decide +kernel
theorem dX0_startJob_7 : decode cX0_startJob 7 = .ok (.putfield 15, 3) := by decide +kernel
theorem dX0_startJob_10 : decode cX0_startJob 10 = .ok (.aload_n 0, 1) := by decide +kernel
theorem dX0_startJob_11 : decode cX0_startJob 11 = .ok (.iload_n 3, 1) := by decide +kernel
theorem dX0_startJob_12 : decode cX0_startJob 12 = .ok (.putfield 25, 3) := by decide +kernel
theorem dX0_startJob_15 : decode cX0_startJob 15 = .ok (.aload_n 0, 1) := by decide +kernel
theorem dX0_startJob_16 : decode cX0_startJob 16 = .ok (.iload 4, 2) := by decide +kernel
theorem dX0_startJob_18 : decode cX0_startJob 18 = .ok (.putfield 28, 3) := by decide +kernel
theorem dX0_startJob_21 : decode cX0_startJob 21 = .ok (.aload_n 0, 1) := by decide +kernel
theorem dX0_startJob_22 : decode cX0_startJob 22 = .ok (.iload 5, 2) := by decide +kernel
theorem dX0_startJob_24 : decode cX0_startJob 24 = .ok (.putfield 31, 3) := by decide +kernel
theorem dX0_startJob_27 : decode cX0_startJob 27 = .ok (.aload_n 0, 1) := by decide +kernel
theorem dX0_startJob_28 : decode cX0_startJob 28 = .ok (.iconst 0, 1) := by decide +kernel
theorem dX0_startJob_29 : decode cX0_startJob 29 = .ok (.putfield 34, 3) := by decide +kernel
theorem dX0_startJob_32 : decode cX0_startJob 32 = .ok (.return_, 1) := by decide +kernel
theorem dX0_endJob_0 : decode cX0_endJob 0 = .ok (.aload_n 0, 1) := by decide +kernel
theorem dX0_endJob_1 : decode cX0_endJob 1 = .ok (.iconst (-1), 1) := by decide +kernel
theorem dX0_endJob_2 : decode cX0_endJob 2 = .ok (.putfield 9, 3) := by decide +kernel
theorem dX0_endJob_5 : decode cX0_endJob 5 = .ok (.return_, 1) := by decide +kernel
theorem dX0_nextStop_0 : decode cX0_nextStop 0 = .ok (.aload_n 0, 1) := by decide +kernel
theorem dX0_nextStop_1 : decode cX0_nextStop 1 = .ok (.getfield 34, 3) := by decide +kernel
theorem dX0_nextStop_4 : decode cX0_nextStop 4 = .ok (.ifCond .eq 10, 3) := by decide +kernel
theorem dX0_nextStop_7 : decode cX0_nextStop 7 = .ok (.aload_n 0, 1) := by decide +kernel
theorem dX0_nextStop_8 : decode cX0_nextStop 8 = .ok (.getfield 28, 3) := by decide +kernel
theorem dX0_nextStop_11 : decode cX0_nextStop 11 = .ok (.goto 7, 3) := by decide +kernel
theorem dX0_nextStop_14 : decode cX0_nextStop 14 = .ok (.aload_n 0, 1) := by decide +kernel
theorem dX0_nextStop_15 : decode cX0_nextStop 15 = .ok (.getfield 25, 3) := by decide +kernel
theorem dX0_nextStop_18 : decode cX0_nextStop 18 = .ok (.ireturn, 1) := by decide +kernel
theorem dX0_go_0 : decode cX0_go 0 = .ok (.aload_n 0, 1) := by decide +kernel
theorem dX0_go_1 : decode cX0_go 1 = .ok (.dup, 1) := by decide +kernel
theorem dX0_go_2 : decode cX0_go 2 = .ok (.getfield 18, 3) := by decide +kernel
theorem dX0_go_5 : decode cX0_go 5 = .ok (.iload_n 1, 1) := by decide +kernel
theorem dX0_go_6 : decode cX0_go 6 = .ok (.iadd, 1) := by decide +kernel
theorem dX0_go_7 : decode cX0_go 7 = .ok (.putfield 18, 3) := by decide +kernel
theorem dX0_go_10 : decode cX0_go 10 = .ok (.aload_n 0, 1) := by decide +kernel
theorem dX0_go_11 : decode cX0_go 11 = .ok (.dup, 1) := by decide +kernel
theorem dX0_go_12 : decode cX0_go 12 = .ok (.getfield 37, 3) := by decide +kernel
theorem dX0_go_15 : decode cX0_go 15 = .ok (.iconst 1, 1) := by decide +kernel
theorem dX0_go_16 : decode cX0_go 16 = .ok (.iadd, 1) := by decide +kernel
theorem dX0_go_17 : decode cX0_go 17 = .ok (.putfield 37, 3) := by decide +kernel
theorem dX0_go_20 : decode cX0_go 20 = .ok (.return_, 1) := by decide +kernel
theorem dX0_least_0 : decode cX0_least 0 = .ok (.aload_n 0, 1) := by decide +kernel
theorem dX0_least_1 : decode cX0_least 1 = .ok (.getfield 18, 3) := by decide +kernel
theorem dX0_least_4 : decode cX0_least 4 = .ok (.aload_n 0, 1) := by decide +kernel
theorem dX0_least_5 : decode cX0_least 5 = .ok (.invokevirtual 40, 3) := by decide +kernel
theorem dX0_least_8 : decode cX0_least 8 = .ok (.aload_n 0, 1) := by decide +kernel
theorem dX0_least_9 : decode cX0_least 9 = .ok (.getfield 28, 3) := by decide +kernel
theorem dX0_least_12 : decode cX0_least 12 = .ok (.invokestatic 44, 3) := by decide +kernel
theorem dX0_least_15 : decode cX0_least 15 = .ok (.invokestatic 44, 3) := by decide +kernel
theorem dX0_least_18 : decode cX0_least 18 = .ok (.ireturn, 1) := by decide +kernel
theorem dX0_greatest_0 : decode cX0_greatest 0 = .ok (.aload_n 0, 1) := by decide +kernel
theorem dX0_greatest_1 : decode cX0_greatest 1 = .ok (.getfield 18, 3) := by decide +kernel
theorem dX0_greatest_4 : decode cX0_greatest 4 = .ok (.aload_n 0, 1) := by decide +kernel
theorem dX0_greatest_5 : decode cX0_greatest 5 = .ok (.invokevirtual 40, 3) := by decide +kernel
theorem dX0_greatest_8 : decode cX0_greatest 8 = .ok (.aload_n 0, 1) := by decide +kernel
theorem dX0_greatest_9 : decode cX0_greatest 9 = .ok (.getfield 28, 3) := by decide +kernel
theorem dX0_greatest_12 : decode cX0_greatest 12 = .ok (.invokestatic 50, 3) := by decide +kernel
theorem dX0_greatest_15 : decode cX0_greatest 15 = .ok (.invokestatic 50, 3) := by decide +kernel
theorem dX0_greatest_18 : decode cX0_greatest 18 = .ok (.ireturn, 1) := by decide +kernel
theorem dX1_init_0 : decode cX1_init 0 = .ok (.aload_n 0, 1) := by decide +kernel
theorem dX1_init_1 : decode cX1_init 1 = .ok (.invokespecial 3, 3) := by decide +kernel
theorem dX1_init_4 : decode cX1_init 4 = .ok (.aload_n 0, 1) := by decide +kernel
theorem dX1_init_5 : decode cX1_init 5 = .ok (.iconst 0, 1) := by decide +kernel
theorem dX1_init_6 : decode cX1_init 6 = .ok (.putfield 9, 3) := by decide +kernel
theorem dX1_init_9 : decode cX1_init 9 = .ok (.aload_n 0, 1) := by decide +kernel
theorem dX1_init_10 : decode cX1_init 10 = .ok (.iconst (-1), 1) := by decide +kernel
theorem dX1_init_11 : decode cX1_init 11 = .ok (.putfield 15, 3) := by decide +kernel
theorem dX1_init_14 : decode cX1_init 14 = .ok (.aload_n 0, 1) := by decide +kernel
theorem dX1_init_15 : decode cX1_init 15 = .ok (.iload_n 1, 1) := by decide +kernel
theorem dX1_init_16 : decode cX1_init 16 = .ok (.putfield 18, 3) := by decide +kernel
theorem dX1_init_19 : decode cX1_init 19 = .ok (.aload_n 0, 1) := by decide +kernel
theorem dX1_init_20 : decode cX1_init 20 = .ok (.iload_n 2, 1) := by decide +kernel
theorem dX1_init_21 : decode cX1_init 21 = .ok (.putfield 21, 3) := by decide +kernel
theorem dX1_init_24 : decode cX1_init 24 = .ok (.aload_n 0, 1) := by decide +kernel
theorem dX1_init_25 : decode cX1_init 25 = .ok (.iload_n 3, 1) := by decide +kernel
theorem dX1_init_26 : decode cX1_init 26 = .ok (.putfield 24, 3) := by decide +kernel
theorem dX1_init_29 : decode cX1_init 29 = .ok (.aload_n 0, 1) := by decide +kernel
theorem dX1_init_30 : decode cX1_init 30 = .ok (.iload 4, 2) := by decide +kernel
theorem dX1_init_32 : decode cX1_init 32 = .ok (.putfield 27, 3) := by decide +kernel
theorem dX1_init_35 : decode cX1_init 35 = .ok (.aload_n 0, 1) := by decide +kernel
theorem dX1_init_36 : decode cX1_init 36 = .ok (.iload 5, 2) := by decide +kernel
theorem dX1_init_38 : decode cX1_init 38 = .ok (.putfield 30, 3) := by decide +kernel
theorem dX1_init_41 : decode cX1_init 41 = .ok (.return_, 1) := by decide +kernel
theorem dX1_reachOver_0 : decode cX1_reachOver 0 = .ok (.aload_n 0, 1) := by decide +kernel
theorem dX1_reachOver_1 : decode cX1_reachOver 1 = .ok (.aload_n 0, 1) := by decide +kernel
theorem dX1_reachOver_2 : decode cX1_reachOver 2 = .ok (.getfield 18, 3) := by decide +kernel
theorem dX1_reachOver_5 : decode cX1_reachOver 5 = .ok (.iconst 3, 1) := by decide +kernel
theorem dX1_reachOver_6 : decode cX1_reachOver 6 = .ok (.if_icmp .ne 7, 3) := by decide +kernel
theorem dX1_reachOver_9 : decode cX1_reachOver 9 = .ok (.iconst 0, 1) := by decide +kernel
theorem dX1_reachOver_10 : decode cX1_reachOver 10 = .ok (.goto 7, 3) := by decide +kernel
theorem dX1_reachOver_13 : decode cX1_reachOver 13 = .ok (.aload_n 0, 1) := by decide +kernel
theorem dX1_reachOver_14 : decode cX1_reachOver 14 = .ok (.getfield 24, 3) := by decide +kernel
theorem dX1_reachOver_17 : decode cX1_reachOver 17 = .ok (.putfield 33, 3) := by decide +kernel
theorem dX1_reachOver_20 : decode cX1_reachOver 20 = .ok (.aload_n 0, 1) := by decide +kernel
theorem dX1_reachOver_21 : decode cX1_reachOver 21 = .ok (.aload_n 0, 1) := by decide +kernel
theorem dX1_reachOver_22 : decode cX1_reachOver 22 = .ok (.getfield 18, 3) := by decide +kernel
theorem dX1_reachOver_25 : decode cX1_reachOver 25 = .ok (.iconst 3, 1) := by decide +kernel
theorem dX1_reachOver_26 : decode cX1_reachOver 26 = .ok (.if_icmp .ne 9, 3) := by decide +kernel
theorem dX1_reachOver_29 : decode cX1_reachOver 29 = .ok (.iload_n 1, 1) := by decide +kernel
theorem dX1_reachOver_30 : decode cX1_reachOver 30 = .ok (.iconst 1, 1) := by decide +kernel
theorem dX1_reachOver_31 : decode cX1_reachOver 31 = .ok (.isub, 1) := by decide +kernel
theorem dX1_reachOver_32 : decode cX1_reachOver 32 = .ok (.goto 22, 3) := by decide +kernel
theorem dX1_reachOver_35 : decode cX1_reachOver 35 = .ok (.aload_n 0, 1) := by decide +kernel
theorem dX1_reachOver_36 : decode cX1_reachOver 36 = .ok (.getfield 18, 3) := by decide +kernel
theorem dX1_reachOver_39 : decode cX1_reachOver 39 = .ok (.iconst 1, 1) := by decide +kernel
theorem dX1_reachOver_40 : decode cX1_reachOver 40 = .ok (.if_icmp .ne 10, 3) := by decide +kernel
theorem dX1_reachOver_43 : decode cX1_reachOver 43 = .ok (.aload_n 0, 1) := by decide +kernel
theorem dX1_reachOver_44 : decode cX1_reachOver 44 = .ok (.getfield 27, 3) := by decide +kernel
theorem dX1_reachOver_47 : decode cX1_reachOver 47 = .ok (.goto 7, 3) := by decide +kernel
theorem dX1_reachOver_50 : decode cX1_reachOver 50 = .ok (.aload_n 0, 1) := by decide +kernel
theorem dX1_reachOver_51 : decode cX1_reachOver 51 = .ok (.getfield 24, 3) := by decide +kernel
theorem dX1_reachOver_54 : decode cX1_reachOver 54 = .ok (.putfield 36, 3) := by decide +kernel
theorem dX1_reachOver_57 : decode cX1_reachOver 57 = .ok (.return_, 1) := by decide +kernel
theorem dX1_isScrub_0 : decode cX1_isScrub 0 = .ok (.aload_n 0, 1) := by decide +kernel
theorem dX1_isScrub_1 : decode cX1_isScrub 1 = .ok (.getfield 18, 3) := by decide +kernel
theorem dX1_isScrub_4 : decode cX1_isScrub 4 = .ok (.iconst 3, 1) := by decide +kernel
theorem dX1_isScrub_5 : decode cX1_isScrub 5 = .ok (.if_icmp .ne 7, 3) := by decide +kernel
theorem dX1_isScrub_8 : decode cX1_isScrub 8 = .ok (.iconst 1, 1) := by decide +kernel
theorem dX1_isScrub_9 : decode cX1_isScrub 9 = .ok (.goto 4, 3) := by decide +kernel
theorem dX1_isScrub_12 : decode cX1_isScrub 12 = .ok (.iconst 0, 1) := by decide +kernel
theorem dX1_isScrub_13 : decode cX1_isScrub 13 = .ok (.ireturn, 1) := by decide +kernel
theorem dX1_worthAtOnce_0 : decode cX1_worthAtOnce 0 = .ok (.aload_n 0, 1) := by decide +kernel
theorem dX1_worthAtOnce_1 : decode cX1_worthAtOnce 1 = .ok (.getfield 18, 3) := by decide +kernel
theorem dX1_worthAtOnce_4 : decode cX1_worthAtOnce 4 = .ok (.iconst 4, 1) := by decide +kernel
theorem dX1_worthAtOnce_5 : decode cX1_worthAtOnce 5 = .ok (.if_icmp .ne 8, 3) := by decide +kernel
theorem dX1_worthAtOnce_8 : decode cX1_worthAtOnce 8 = .ok (.bipush 100, 2) := by decide +kernel
theorem dX1_worthAtOnce_10 : decode cX1_worthAtOnce 10 = .ok (.goto 5, 3) := by decide +kernel
theorem dX1_worthAtOnce_13 : decode cX1_worthAtOnce 13 = .ok (.bipush 10, 2) := by decide +kernel
theorem dX1_worthAtOnce_15 : decode cX1_worthAtOnce 15 = .ok (.ireturn, 1) := by decide +kernel
theorem dX2_init_0 : decode cX2_init 0 = .ok (.aload_n 0, 1) := by decide +kernel
theorem dX2_init_1 : decode cX2_init 1 = .ok (.invokespecial 5, 3) := by decide +kernel
theorem dX2_init_4 : decode cX2_init 4 = .ok (.aload_n 0, 1) := by decide +kernel
theorem dX2_init_5 : decode cX2_init 5 = .ok (.bipush 8, 2) := by decide +kernel
theorem dX2_init_7 : decode cX2_init 7 = .ok (.newarray .int, 2) := by decide +kernel
theorem dX2_init_9 : decode cX2_init 9 = .ok (.putfield 11, 3) := by decide +kernel
theorem dX2_init_12 : decode cX2_init 12 = .ok (.aload_n 0, 1) := by decide +kernel
theorem dX2_init_13 : decode cX2_init 13 = .ok (.bipush 8, 2) := by decide +kernel
theorem dX2_init_15 : decode cX2_init 15 = .ok (.newarray .int, 2) := by decide +kernel
theorem dX2_init_17 : decode cX2_init 17 = .ok (.putfield 15, 3) := by decide +kernel
theorem dX2_init_20 : decode cX2_init 20 = .ok (.aload_n 0, 1) := by decide +kernel
theorem dX2_init_21 : decode cX2_init 21 = .ok (.bipush 8, 2) := by decide +kernel
theorem dX2_init_23 : decode cX2_init 23 = .ok (.newarray .int, 2) := by decide +kernel
theorem dX2_init_25 : decode cX2_init 25 = .ok (.putfield 18, 3) := by decide +kernel
theorem dX2_init_28 : decode cX2_init 28 = .ok (.aload_n 0, 1) := by decide +kernel
theorem dX2_init_29 : decode cX2_init 29 = .ok (.sipush 200, 3) := by decide +kernel
theorem dX2_init_32 : decode cX2_init 32 = .ok (.newarray .int, 2) := by decide +kernel
theorem dX2_init_34 : decode cX2_init 34 = .ok (.putfield 21, 3) := by decide +kernel
theorem dX2_init_37 : decode cX2_init 37 = .ok (.aload_n 0, 1) := by decide +kernel
theorem dX2_init_38 : decode cX2_init 38 = .ok (.sipush 200, 3) := by decide +kernel
theorem dX2_init_41 : decode cX2_init 41 = .ok (.newarray .int, 2) := by decide +kernel
theorem dX2_init_43 : decode cX2_init 43 = .ok (.putfield 24, 3) := by decide +kernel
theorem dX2_init_46 : decode cX2_init 46 = .ok (.aload_n 0, 1) := by decide +kernel
theorem dX2_init_47 : decode cX2_init 47 = .ok (.bipush 24, 2) := by decide +kernel
theorem dX2_init_49 : decode cX2_init 49 = .ok (.newarray .int, 2) := by decide +kernel
theorem dX2_init_51 : decode cX2_init 51 = .ok (.putfield 27, 3) := by decide +kernel
theorem dX2_init_54 : decode cX2_init 54 = .ok (.aload_n 0, 1) := by decide +kernel
theorem dX2_init_55 : decode cX2_init 55 = .ok (.sipush 6144, 3) := by decide +kernel
theorem dX2_init_58 : decode cX2_init 58 = .ok (.newarray .int, 2) := by decide +kernel
theorem dX2_init_60 : decode cX2_init 60 = .ok (.putfield 30, 3) := by decide +kernel
theorem dX2_init_63 : decode cX2_init 63 = .ok (.aload_n 0, 1) := by decide +kernel
theorem dX2_init_64 : decode cX2_init 64 = .ok (.bipush 8, 2) := by decide +kernel
theorem dX2_init_66 : decode cX2_init 66 = .ok (.newarray .int, 2) := by decide +kernel
theorem dX2_init_68 : decode cX2_init 68 = .ok (.putfield 33, 3) := by decide +kernel
theorem dX2_init_71 : decode cX2_init 71 = .ok (.return_, 1) := by decide +kernel
theorem dX2_start_0 : decode cX2_start 0 = .ok (.aload_n 0, 1) := by decide +kernel
theorem dX2_start_1 : decode cX2_start 1 = .ok (.iload_n 1, 1) := by decide +kernel
theorem dX2_start_2 : decode cX2_start 2 = .ok (.putfield 36, 3) := by decide +kernel
theorem dX2_start_5 : decode cX2_start 5 = .ok (.aload_n 0, 1) := by decide +kernel
theorem dX2_start_6 : decode cX2_start 6 = .ok (.iconst 0, 1) := by decide +kernel
theorem dX2_start_7 : decode cX2_start 7 = .ok (.putfield 40, 3) := by decide +kernel
theorem dX2_start_10 : decode cX2_start 10 = .ok (.aload_n 0, 1) := by decide +kernel
theorem dX2_start_11 : decode cX2_start 11 = .ok (.iconst 0, 1) := by decide +kernel
theorem dX2_start_12 : decode cX2_start 12 = .ok (.putfield 43, 3) := by decide +kernel
theorem dX2_start_15 : decode cX2_start 15 = .ok (.aload_n 0, 1) := by decide +kernel
theorem dX2_start_16 : decode cX2_start 16 = .ok (.iconst (-1), 1) := by decide +kernel
theorem dX2_start_17 : decode cX2_start 17 = .ok (.putfield 46, 3) := by decide +kernel
theorem dX2_start_20 : decode cX2_start 20 = .ok (.return_, 1) := by decide +kernel
theorem dX2_isFull_0 : decode cX2_isFull 0 = .ok (.aload_n 0, 1) := by decide +kernel
theorem dX2_isFull_1 : decode cX2_isFull 1 = .ok (.getfield 40, 3) := by decide +kernel
theorem dX2_isFull_4 : decode cX2_isFull 4 = .ok (.bipush 8, 2) := by decide +kernel
theorem dX2_isFull_6 : decode cX2_isFull 6 = .ok (.if_icmp .lt 7, 3) := by decide +kernel
theorem dX2_isFull_9 : decode cX2_isFull 9 = .ok (.iconst 1, 1) := by decide +kernel
theorem dX2_isFull_10 : decode cX2_isFull 10 = .ok (.goto 4, 3) := by decide +kernel
theorem dX2_isFull_13 : decode cX2_isFull 13 = .ok (.iconst 0, 1) := by decide +kernel
theorem dX2_isFull_14 : decode cX2_isFull 14 = .ok (.ireturn, 1) := by decide +kernel
theorem dX2_add_0 : decode cX2_add 0 = .ok (.aload_n 0, 1) := by decide +kernel
theorem dX2_add_1 : decode cX2_add 1 = .ok (.getfield 11, 3) := by decide +kernel
theorem dX2_add_4 : decode cX2_add 4 = .ok (.aload_n 0, 1) := by decide +kernel
theorem dX2_add_5 : decode cX2_add 5 = .ok (.getfield 40, 3) := by decide +kernel
theorem dX2_add_8 : decode cX2_add 8 = .ok (.iload_n 1, 1) := by decide +kernel
theorem dX2_add_9 : decode cX2_add 9 = .ok (.invokestatic 49, 3) := by decide +kernel
theorem dX2_add_12 : decode cX2_add 12 = .ok (.aload_n 0, 1) := by decide +kernel
theorem dX2_add_13 : decode cX2_add 13 = .ok (.getfield 15, 3) := by decide +kernel
theorem dX2_add_16 : decode cX2_add 16 = .ok (.aload_n 0, 1) := by decide +kernel
theorem dX2_add_17 : decode cX2_add 17 = .ok (.getfield 40, 3) := by decide +kernel
theorem dX2_add_20 : decode cX2_add 20 = .ok (.iload_n 2, 1) := by decide +kernel
theorem dX2_add_21 : decode cX2_add 21 = .ok (.invokestatic 49, 3) := by decide +kernel
theorem dX2_add_24 : decode cX2_add 24 = .ok (.aload_n 0, 1) := by decide +kernel
theorem dX2_add_25 : decode cX2_add 25 = .ok (.getfield 18, 3) := by decide +kernel
theorem dX2_add_28 : decode cX2_add 28 = .ok (.aload_n 0, 1) := by decide +kernel
theorem dX2_add_29 : decode cX2_add 29 = .ok (.getfield 40, 3) := by decide +kernel
theorem dX2_add_32 : decode cX2_add 32 = .ok (.iload_n 3, 1) := by decide +kernel
theorem dX2_add_33 : decode cX2_add 33 = .ok (.invokestatic 49, 3) := by decide +kernel
theorem dX2_add_36 : decode cX2_add 36 = .ok (.aload_n 0, 1) := by decide +kernel
theorem dX2_add_37 : decode cX2_add 37 = .ok (.dup, 1) := by decide +kernel
theorem dX2_add_38 : decode cX2_add 38 = .ok (.getfield 40, 3) := by decide +kernel
theorem dX2_add_41 : decode cX2_add 41 = .ok (.iconst 1, 1) := by decide +kernel
theorem dX2_add_42 : decode cX2_add 42 = .ok (.iadd, 1) := by decide +kernel
theorem dX2_add_43 : decode cX2_add 43 = .ok (.putfield 40, 3) := by decide +kernel
theorem dX2_add_46 : decode cX2_add 46 = .ok (.return_, 1) := by decide +kernel
theorem dX2_tabulate_0 : decode cX2_tabulate 0 = .ok (.aload_n 0, 1) := by decide +kernel
theorem dX2_tabulate_1 : decode cX2_tabulate 1 = .ok (.bipush 24, 2) := by decide +kernel
theorem dX2_tabulate_3 : decode cX2_tabulate 3 = .ok (.aload_n 0, 1) := by decide +kernel
theorem dX2_tabulate_4 : decode cX2_tabulate 4 = .ok (.getfield 36, 3) := by decide +kernel
theorem dX2_tabulate_7 : decode cX2_tabulate 7 = .ok (.iconst 0, 1) := by decide +kernel
theorem dX2_tabulate_8 : decode cX2_tabulate 8 = .ok (.invokevirtual 53, 3) := by decide +kernel
theorem dX2_tabulate_11 : decode cX2_tabulate 11 = .ok (.iconst 0, 1) := by decide +kernel
theorem dX2_tabulate_12 : decode cX2_tabulate 12 = .ok (.istore_n 1, 1) := by decide +kernel
theorem dX2_tabulate_13 : decode cX2_tabulate 13 = .ok (.iload_n 1, 1) := by decide +kernel
theorem dX2_tabulate_14 : decode cX2_tabulate 14 = .ok (.aload_n 0, 1) := by decide +kernel
theorem dX2_tabulate_15 : decode cX2_tabulate 15 = .ok (.getfield 40, 3) := by decide +kernel
theorem dX2_tabulate_18 : decode cX2_tabulate 18 = .ok (.if_icmp .ge 75, 3) := by decide +kernel
theorem dX2_tabulate_21 : decode cX2_tabulate 21 = .ok (.iconst (-1), 1) := by decide +kernel
theorem dX2_tabulate_22 : decode cX2_tabulate 22 = .ok (.istore_n 2, 1) := by decide +kernel
theorem dX2_tabulate_23 : decode cX2_tabulate 23 = .ok (.iload_n 2, 1) := by decide +kernel
theorem dX2_tabulate_24 : decode cX2_tabulate 24 = .ok (.iconst 1, 1) := by decide +kernel
theorem dX2_tabulate_25 : decode cX2_tabulate 25 = .ok (.if_icmp .gt 62, 3) := by decide +kernel
theorem dX2_tabulate_28 : decode cX2_tabulate 28 = .ok (.aload_n 0, 1) := by decide +kernel
theorem dX2_tabulate_29 : decode cX2_tabulate 29 = .ok (.iload_n 1, 1) := by decide +kernel
theorem dX2_tabulate_30 : decode cX2_tabulate 30 = .ok (.iload_n 2, 1) := by decide +kernel
theorem dX2_tabulate_31 : decode cX2_tabulate 31 = .ok (.invokevirtual 57, 3) := by decide +kernel
theorem dX2_tabulate_34 : decode cX2_tabulate 34 = .ok (.ifCond .eq 47, 3) := by decide +kernel
theorem dX2_tabulate_37 : decode cX2_tabulate 37 = .ok (.iload_n 1, 1) := by decide +kernel
theorem dX2_tabulate_38 : decode cX2_tabulate 38 = .ok (.iconst 3, 1) := by decide +kernel
theorem dX2_tabulate_39 : decode cX2_tabulate 39 = .ok (.imul, 1) := by decide +kernel
theorem dX2_tabulate_40 : decode cX2_tabulate 40 = .ok (.iload_n 2, 1) := by decide +kernel
theorem dX2_tabulate_41 : decode cX2_tabulate 41 = .ok (.iadd, 1) := by decide +kernel
theorem dX2_tabulate_42 : decode cX2_tabulate 42 = .ok (.iconst 1, 1) := by decide +kernel
theorem dX2_tabulate_43 : decode cX2_tabulate 43 = .ok (.iadd, 1) := by decide +kernel
theorem dX2_tabulate_44 : decode cX2_tabulate 44 = .ok (.istore_n 3, 1) := by decide +kernel
theorem dX2_tabulate_45 : decode cX2_tabulate 45 = .ok (.aload_n 0, 1) := by decide +kernel
theorem dX2_tabulate_46 : decode cX2_tabulate 46 = .ok (.getfield 27, 3) := by decide +kernel
theorem dX2_tabulate_49 : decode cX2_tabulate 49 = .ok (.aload_n 0, 1) := by decide +kernel
theorem dX2_tabulate_50 : decode cX2_tabulate 50 = .ok (.getfield 43, 3) := by decide +kernel
theorem dX2_tabulate_53 : decode cX2_tabulate 53 = .ok (.iload_n 3, 1) := by decide +kernel
theorem dX2_tabulate_54 : decode cX2_tabulate 54 = .ok (.invokestatic 49, 3) := by decide +kernel
theorem dX2_tabulate_57 : decode cX2_tabulate 57 = .ok (.aload_n 0, 1) := by decide +kernel
theorem dX2_tabulate_58 : decode cX2_tabulate 58 = .ok (.dup, 1) := by decide +kernel
theorem dX2_tabulate_59 : decode cX2_tabulate 59 = .ok (.getfield 43, 3) := by decide +kernel
theorem dX2_tabulate_62 : decode cX2_tabulate 62 = .ok (.iconst 1, 1) := by decide +kernel
theorem dX2_tabulate_63 : decode cX2_tabulate 63 = .ok (.iadd, 1) := by decide +kernel
theorem dX2_tabulate_64 : decode cX2_tabulate 64 = .ok (.putfield 43, 3) := by decide +kernel
theorem dX2_tabulate_67 : decode cX2_tabulate 67 = .ok (.aload_n 0, 1) := by decide +kernel
theorem dX2_tabulate_68 : decode cX2_tabulate 68 = .ok (.iload_n 3, 1) := by decide +kernel
theorem dX2_tabulate_69 : decode cX2_tabulate 69 = .ok (.aload_n 0, 1) := by decide +kernel
theorem dX2_tabulate_70 : decode cX2_tabulate 70 = .ok (.getfield 18, 3) := by decide +kernel
theorem dX2_tabulate_73 : decode cX2_tabulate 73 = .ok (.iload_n 1, 1) := by decide +kernel
theorem dX2_tabulate_74 : decode cX2_tabulate 74 = .ok (.invokestatic 61, 3) := by decide +kernel
theorem dX2_tabulate_77 : decode cX2_tabulate 77 = .ok (.iload_n 2, 1) := by decide +kernel
theorem dX2_tabulate_78 : decode cX2_tabulate 78 = .ok (.invokevirtual 53, 3) := by decide +kernel
theorem dX2_tabulate_81 : decode cX2_tabulate 81 = .ok (.iinc 2 1, 3) := by decide +kernel
theorem dX2_tabulate_84 : decode cX2_tabulate 84 = .ok (.goto (-61), 3) := by decide +kernel
theorem dX2_tabulate_87 : decode cX2_tabulate 87 = .ok (.iinc 1 1, 3) := by decide +kernel
theorem dX2_tabulate_90 : decode cX2_tabulate 90 = .ok (.goto (-77), 3) := by decide +kernel
theorem dX2_tabulate_93 : decode cX2_tabulate 93 = .ok (.return_, 1) := by decide +kernel
theorem dX2_canLeave_0 : decode cX2_canLeave 0 = .ok (.iload_n 2, 1) := by decide +kernel
theorem dX2_canLeave_1 : decode cX2_canLeave 1 = .ok (.iconst 1, 1) := by decide +kernel
theorem dX2_canLeave_2 : decode cX2_canLeave 2 = .ok (.if_icmp .eq 42, 3) := by decide +kernel
theorem dX2_canLeave_5 : decode cX2_canLeave 5 = .ok (.aload_n 0, 1) := by decide +kernel
theorem dX2_canLeave_6 : decode cX2_canLeave 6 = .ok (.getfield 15, 3) := by decide +kernel
theorem dX2_canLeave_9 : decode cX2_canLeave 9 = .ok (.iload_n 1, 1) := by decide +kernel
theorem dX2_canLeave_10 : decode cX2_canLeave 10 = .ok (.invokestatic 61, 3) := by decide +kernel
theorem dX2_canLeave_13 : decode cX2_canLeave 13 = .ok (.aload_n 0, 1) := by decide +kernel
theorem dX2_canLeave_14 : decode cX2_canLeave 14 = .ok (.getfield 18, 3) := by decide +kernel
theorem dX2_canLeave_17 : decode cX2_canLeave 17 = .ok (.iload_n 1, 1) := by decide +kernel
theorem dX2_canLeave_18 : decode cX2_canLeave 18 = .ok (.invokestatic 61, 3) := by decide +kernel
theorem dX2_canLeave_21 : decode cX2_canLeave 21 = .ok (.if_icmp .ne 27, 3) := by decide +kernel
theorem dX2_canLeave_24 : decode cX2_canLeave 24 = .ok (.iload_n 2, 1) := by decide +kernel
theorem dX2_canLeave_25 : decode cX2_canLeave 25 = .ok (.iconst (-1), 1) := by decide +kernel
theorem dX2_canLeave_26 : decode cX2_canLeave 26 = .ok (.if_icmp .eq 18, 3) := by decide +kernel
theorem dX2_canLeave_29 : decode cX2_canLeave 29 = .ok (.aload_n 0, 1) := by decide +kernel
theorem dX2_canLeave_30 : decode cX2_canLeave 30 = .ok (.getfield 15, 3) := by decide +kernel
theorem dX2_canLeave_33 : decode cX2_canLeave 33 = .ok (.iload_n 1, 1) := by decide +kernel
theorem dX2_canLeave_34 : decode cX2_canLeave 34 = .ok (.invokestatic 61, 3) := by decide +kernel
theorem dX2_canLeave_37 : decode cX2_canLeave 37 = .ok (.aload_n 0, 1) := by decide +kernel
theorem dX2_canLeave_38 : decode cX2_canLeave 38 = .ok (.getfield 36, 3) := by decide +kernel
theorem dX2_canLeave_41 : decode cX2_canLeave 41 = .ok (.if_icmp .ne 7, 3) := by decide +kernel
theorem dX2_canLeave_44 : decode cX2_canLeave 44 = .ok (.iconst 1, 1) := by decide +kernel
theorem dX2_canLeave_45 : decode cX2_canLeave 45 = .ok (.goto 4, 3) := by decide +kernel
theorem dX2_canLeave_48 : decode cX2_canLeave 48 = .ok (.iconst 0, 1) := by decide +kernel
theorem dX2_canLeave_49 : decode cX2_canLeave 49 = .ok (.ireturn, 1) := by decide +kernel
theorem dX2_fillState_0 : decode cX2_fillState 0 = .ok (.iconst 0, 1) := by decide +kernel
theorem dX2_fillState_1 : decode cX2_fillState 1 = .ok (.istore 4, 2) := by decide +kernel
theorem dX2_fillState_3 : decode cX2_fillState 3 = .ok (.iload 4, 2) := by decide +kernel
theorem dX2_fillState_5 : decode cX2_fillState 5 = .ok (.aload_n 0, 1) := by decide +kernel
theorem dX2_fillState_6 : decode cX2_fillState 6 = .ok (.getfield 40, 3) := by decide +kernel
theorem dX2_fillState_9 : decode cX2_fillState 9 = .ok (.if_icmp .ge 93, 3) := by decide +kernel
theorem dX2_fillState_12 : decode cX2_fillState 12 = .ok (.iload_n 1, 1) := by decide +kernel
theorem dX2_fillState_13 : decode cX2_fillState 13 = .ok (.bipush 8, 2) := by decide +kernel
theorem dX2_fillState_15 : decode cX2_fillState 15 = .ok (.imul, 1) := by decide +kernel
theorem dX2_fillState_16 : decode cX2_fillState 16 = .ok (.iload 4, 2) := by decide +kernel
theorem dX2_fillState_18 : decode cX2_fillState 18 = .ok (.iadd, 1) := by decide +kernel
theorem dX2_fillState_19 : decode cX2_fillState 19 = .ok (.istore 5, 2) := by decide +kernel
theorem dX2_fillState_21 : decode cX2_fillState 21 = .ok (.iload_n 2, 1) := by decide +kernel
theorem dX2_fillState_22 : decode cX2_fillState 22 = .ok (.iload_n 3, 1) := by decide +kernel
theorem dX2_fillState_23 : decode cX2_fillState 23 = .ok (.aload_n 0, 1) := by decide +kernel
theorem dX2_fillState_24 : decode cX2_fillState 24 = .ok (.getfield 15, 3) := by decide +kernel
theorem dX2_fillState_27 : decode cX2_fillState 27 = .ok (.iload 4, 2) := by decide +kernel
theorem dX2_fillState_29 : decode cX2_fillState 29 = .ok (.invokestatic 61, 3) := by decide +kernel
theorem dX2_fillState_32 : decode cX2_fillState 32 = .ok (.aload_n 0, 1) := by decide +kernel
theorem dX2_fillState_33 : decode cX2_fillState 33 = .ok (.getfield 18, 3) := by decide +kernel
theorem dX2_fillState_36 : decode cX2_fillState 36 = .ok (.iload 4, 2) := by decide +kernel
theorem dX2_fillState_38 : decode cX2_fillState 38 = .ok (.invokestatic 61, 3) := by decide +kernel
theorem dX2_fillState_41 : decode cX2_fillState 41 = .ok (.invokestatic 65, 3) := by decide +kernel
theorem dX2_fillState_44 : decode cX2_fillState 44 = .ok (.istore 6, 2) := by decide +kernel
theorem dX2_fillState_46 : decode cX2_fillState 46 = .ok (.aload_n 0, 1) := by decide +kernel
theorem dX2_fillState_47 : decode cX2_fillState 47 = .ok (.getfield 21, 3) := by decide +kernel
theorem dX2_fillState_50 : decode cX2_fillState 50 = .ok (.iload 5, 2) := by decide +kernel
theorem dX2_fillState_52 : decode cX2_fillState 52 = .ok (.iload_n 2, 1) := by decide +kernel
theorem dX2_fillState_53 : decode cX2_fillState 53 = .ok (.iload_n 3, 1) := by decide +kernel
theorem dX2_fillState_54 : decode cX2_fillState 54 = .ok (.aload_n 0, 1) := by decide +kernel
theorem dX2_fillState_55 : decode cX2_fillState 55 = .ok (.getfield 15, 3) := by decide +kernel
theorem dX2_fillState_58 : decode cX2_fillState 58 = .ok (.iload 4, 2) := by decide +kernel
theorem dX2_fillState_60 : decode cX2_fillState 60 = .ok (.invokestatic 61, 3) := by decide +kernel
theorem dX2_fillState_63 : decode cX2_fillState 63 = .ok (.aload_n 0, 1) := by decide +kernel
theorem dX2_fillState_64 : decode cX2_fillState 64 = .ok (.getfield 18, 3) := by decide +kernel
theorem dX2_fillState_67 : decode cX2_fillState 67 = .ok (.iload 4, 2) := by decide +kernel
theorem dX2_fillState_69 : decode cX2_fillState 69 = .ok (.invokestatic 61, 3) := by decide +kernel
theorem dX2_fillState_72 : decode cX2_fillState 72 = .ok (.invokestatic 69, 3) := by decide +kernel
theorem dX2_fillState_75 : decode cX2_fillState 75 = .ok (.invokestatic 49, 3) := by decide +kernel
theorem dX2_fillState_78 : decode cX2_fillState 78 = .ok (.aload_n 0, 1) := by decide +kernel
theorem dX2_fillState_79 : decode cX2_fillState 79 = .ok (.getfield 24, 3) := by decide +kernel
theorem dX2_fillState_82 : decode cX2_fillState 82 = .ok (.iload 5, 2) := by decide +kernel
theorem dX2_fillState_84 : decode cX2_fillState 84 = .ok (.iload 4, 2) := by decide +kernel
theorem dX2_fillState_86 : decode cX2_fillState 86 = .ok (.iconst 3, 1) := by decide +kernel
theorem dX2_fillState_87 : decode cX2_fillState 87 = .ok (.imul, 1) := by decide +kernel
theorem dX2_fillState_88 : decode cX2_fillState 88 = .ok (.iload 6, 2) := by decide +kernel
theorem dX2_fillState_90 : decode cX2_fillState 90 = .ok (.iadd, 1) := by decide +kernel
theorem dX2_fillState_91 : decode cX2_fillState 91 = .ok (.iconst 1, 1) := by decide +kernel
theorem dX2_fillState_92 : decode cX2_fillState 92 = .ok (.iadd, 1) := by decide +kernel
theorem dX2_fillState_93 : decode cX2_fillState 93 = .ok (.invokestatic 49, 3) := by decide +kernel
theorem dX2_fillState_96 : decode cX2_fillState 96 = .ok (.iinc 4 1, 3) := by decide +kernel
theorem dX2_fillState_99 : decode cX2_fillState 99 = .ok (.goto (-96), 3) := by decide +kernel
theorem dX2_fillState_102 : decode cX2_fillState 102 = .ok (.return_, 1) := by decide +kernel
theorem dX2_solve_0 : decode cX2_solve 0 = .ok (.iconst 1, 1) := by decide +kernel
theorem dX2_solve_1 : decode cX2_solve 1 = .ok (.aload_n 0, 1) := by decide +kernel
theorem dX2_solve_2 : decode cX2_solve 2 = .ok (.getfield 40, 3) := by decide +kernel
theorem dX2_solve_5 : decode cX2_solve 5 = .ok (.ishl, 1) := by decide +kernel
theorem dX2_solve_6 : decode cX2_solve 6 = .ok (.iconst 1, 1) := by decide +kernel
theorem dX2_solve_7 : decode cX2_solve 7 = .ok (.isub, 1) := by decide +kernel
theorem dX2_solve_8 : decode cX2_solve 8 = .ok (.istore_n 2, 1) := by decide +kernel
theorem dX2_solve_9 : decode cX2_solve 9 = .ok (.iload_n 2, 1) := by decide +kernel
theorem dX2_solve_10 : decode cX2_solve 10 = .ok (.ifCond .le 71, 3) := by decide +kernel
theorem dX2_solve_13 : decode cX2_solve 13 = .ok (.iconst 0, 1) := by decide +kernel
theorem dX2_solve_14 : decode cX2_solve 14 = .ok (.istore_n 3, 1) := by decide +kernel
theorem dX2_solve_15 : decode cX2_solve 15 = .ok (.iload_n 3, 1) := by decide +kernel
theorem dX2_solve_16 : decode cX2_solve 16 = .ok (.aload_n 0, 1) := by decide +kernel
theorem dX2_solve_17 : decode cX2_solve 17 = .ok (.getfield 43, 3) := by decide +kernel
theorem dX2_solve_20 : decode cX2_solve 20 = .ok (.if_icmp .ge 55, 3) := by decide +kernel
theorem dX2_solve_23 : decode cX2_solve 23 = .ok (.aload_n 0, 1) := by decide +kernel
theorem dX2_solve_24 : decode cX2_solve 24 = .ok (.getfield 27, 3) := by decide +kernel
theorem dX2_solve_27 : decode cX2_solve 27 = .ok (.iload_n 3, 1) := by decide +kernel
theorem dX2_solve_28 : decode cX2_solve 28 = .ok (.invokestatic 61, 3) := by decide +kernel
theorem dX2_solve_31 : decode cX2_solve 31 = .ok (.istore 4, 2) := by decide +kernel
theorem dX2_solve_33 : decode cX2_solve 33 = .ok (.iload_n 2, 1) := by decide +kernel
theorem dX2_solve_34 : decode cX2_solve 34 = .ok (.iload 4, 2) := by decide +kernel
theorem dX2_solve_36 : decode cX2_solve 36 = .ok (.iconst 3, 1) := by decide +kernel
theorem dX2_solve_37 : decode cX2_solve 37 = .ok (.idiv, 1) := by decide +kernel
theorem dX2_solve_38 : decode cX2_solve 38 = .ok (.ishr, 1) := by decide +kernel
theorem dX2_solve_39 : decode cX2_solve 39 = .ok (.iconst 1, 1) := by decide +kernel
theorem dX2_solve_40 : decode cX2_solve 40 = .ok (.iand, 1) := by decide +kernel
theorem dX2_solve_41 : decode cX2_solve 41 = .ok (.ifCond .eq 28, 3) := by decide +kernel
theorem dX2_solve_44 : decode cX2_solve 44 = .ok (.aload_n 0, 1) := by decide +kernel
theorem dX2_solve_45 : decode cX2_solve 45 = .ok (.getfield 30, 3) := by decide +kernel
theorem dX2_solve_48 : decode cX2_solve 48 = .ok (.iload_n 2, 1) := by decide +kernel
theorem dX2_solve_49 : decode cX2_solve 49 = .ok (.bipush 24, 2) := by decide +kernel
theorem dX2_solve_51 : decode cX2_solve 51 = .ok (.imul, 1) := by decide +kernel
theorem dX2_solve_52 : decode cX2_solve 52 = .ok (.iload 4, 2) := by decide +kernel
theorem dX2_solve_54 : decode cX2_solve 54 = .ok (.iadd, 1) := by decide +kernel
theorem dX2_solve_55 : decode cX2_solve 55 = .ok (.aload_n 0, 1) := by decide +kernel
theorem dX2_solve_56 : decode cX2_solve 56 = .ok (.iload_n 2, 1) := by decide +kernel
theorem dX2_solve_57 : decode cX2_solve 57 = .ok (.iload 4, 2) := by decide +kernel
theorem dX2_solve_59 : decode cX2_solve 59 = .ok (.iload_n 1, 1) := by decide +kernel
theorem dX2_solve_60 : decode cX2_solve 60 = .ok (.invokevirtual 72, 3) := by decide +kernel
theorem dX2_solve_63 : decode cX2_solve 63 = .ok (.bipush 8, 2) := by decide +kernel
theorem dX2_solve_65 : decode cX2_solve 65 = .ok (.idiv, 1) := by decide +kernel
theorem dX2_solve_66 : decode cX2_solve 66 = .ok (.invokestatic 49, 3) := by decide +kernel
theorem dX2_solve_69 : decode cX2_solve 69 = .ok (.iinc 3 1, 3) := by decide +kernel
theorem dX2_solve_72 : decode cX2_solve 72 = .ok (.goto (-57), 3) := by decide +kernel
theorem dX2_solve_75 : decode cX2_solve 75 = .ok (.iinc 2 (-1), 3) := by decide +kernel
theorem dX2_solve_78 : decode cX2_solve 78 = .ok (.goto (-69), 3) := by decide +kernel
theorem dX2_solve_81 : decode cX2_solve 81 = .ok (.return_, 1) := by decide +kernel
theorem dX2_best_0 : decode cX2_best 0 = .ok (.aload_n 0, 1) := by decide +kernel
theorem dX2_best_1 : decode cX2_best 1 = .ok (.getfield 40, 3) := by decide +kernel
theorem dX2_best_4 : decode cX2_best 4 = .ok (.iload_n 1, 1) := by decide +kernel
theorem dX2_best_5 : decode cX2_best 5 = .ok (.invokestatic 76, 3) := by decide +kernel
theorem dX2_best_8 : decode cX2_best 8 = .ok (.isub, 1) := by decide +kernel
theorem dX2_best_9 : decode cX2_best 9 = .ok (.istore 4, 2) := by decide +kernel
theorem dX2_best_11 : decode cX2_best 11 = .ok (.iload_n 3, 1) := by decide +kernel
theorem dX2_best_12 : decode cX2_best 12 = .ok (.ifCond .eq 8, 3) := by decide +kernel
theorem dX2_best_15 : decode cX2_best 15 = .ok (.iload 4, 2) := by decide +kernel
theorem dX2_best_17 : decode cX2_best 17 = .ok (.goto 4, 3) := by decide +kernel
theorem dX2_best_20 : decode cX2_best 20 = .ok (.iconst 1, 1) := by decide +kernel
theorem dX2_best_21 : decode cX2_best 21 = .ok (.istore 5, 2) := by decide +kernel
theorem dX2_best_23 : decode cX2_best 23 = .ok (.iload 4, 2) := by decide +kernel
theorem dX2_best_25 : decode cX2_best 25 = .ok (.ifCond .ne 7, 3) := by decide +kernel
theorem dX2_best_28 : decode cX2_best 28 = .ok (.iconst 0, 1) := by decide +kernel
theorem dX2_best_29 : decode cX2_best 29 = .ok (.goto 5, 3) := by decide +kernel
theorem dX2_best_32 : decode cX2_best 32 = .ok (.ldc 82, 2) := by decide +kernel
theorem dX2_best_34 : decode cX2_best 34 = .ok (.istore 6, 2) := by decide +kernel
theorem dX2_best_36 : decode cX2_best 36 = .ok (.iconst 0, 1) := by decide +kernel
theorem dX2_best_37 : decode cX2_best 37 = .ok (.istore 7, 2) := by decide +kernel
theorem dX2_best_39 : decode cX2_best 39 = .ok (.iload 7, 2) := by decide +kernel
theorem dX2_best_41 : decode cX2_best 41 = .ok (.aload_n 0, 1) := by decide +kernel
theorem dX2_best_42 : decode cX2_best 42 = .ok (.getfield 40, 3) := by decide +kernel
theorem dX2_best_45 : decode cX2_best 45 = .ok (.if_icmp .ge 85, 3) := by decide +kernel
theorem dX2_best_48 : decode cX2_best 48 = .ok (.iconst 1, 1) := by decide +kernel
theorem dX2_best_49 : decode cX2_best 49 = .ok (.iload 7, 2) := by decide +kernel
theorem dX2_best_51 : decode cX2_best 51 = .ok (.ishl, 1) := by decide +kernel
theorem dX2_best_52 : decode cX2_best 52 = .ok (.istore 8, 2) := by decide +kernel
theorem dX2_best_54 : decode cX2_best 54 = .ok (.iload_n 1, 1) := by decide +kernel
theorem dX2_best_55 : decode cX2_best 55 = .ok (.iload 8, 2) := by decide +kernel
theorem dX2_best_57 : decode cX2_best 57 = .ok (.iand, 1) := by decide +kernel
theorem dX2_best_58 : decode cX2_best 58 = .ok (.ifCond .ne 66, 3) := by decide +kernel
theorem dX2_best_61 : decode cX2_best 61 = .ok (.iload_n 2, 1) := by decide +kernel
theorem dX2_best_62 : decode cX2_best 62 = .ok (.bipush 8, 2) := by decide +kernel
theorem dX2_best_64 : decode cX2_best 64 = .ok (.imul, 1) := by decide +kernel
theorem dX2_best_65 : decode cX2_best 65 = .ok (.iload 7, 2) := by decide +kernel
theorem dX2_best_67 : decode cX2_best 67 = .ok (.iadd, 1) := by decide +kernel
theorem dX2_best_68 : decode cX2_best 68 = .ok (.istore 9, 2) := by decide +kernel
theorem dX2_best_70 : decode cX2_best 70 = .ok (.iload 5, 2) := by decide +kernel
theorem dX2_best_72 : decode cX2_best 72 = .ok (.aload_n 0, 1) := by decide +kernel
theorem dX2_best_73 : decode cX2_best 73 = .ok (.getfield 21, 3) := by decide +kernel
theorem dX2_best_76 : decode cX2_best 76 = .ok (.iload 9, 2) := by decide +kernel
theorem dX2_best_78 : decode cX2_best 78 = .ok (.invokestatic 61, 3) := by decide +kernel
theorem dX2_best_81 : decode cX2_best 81 = .ok (.imul, 1) := by decide +kernel
theorem dX2_best_82 : decode cX2_best 82 = .ok (.aload_n 0, 1) := by decide +kernel
theorem dX2_best_83 : decode cX2_best 83 = .ok (.getfield 30, 3) := by decide +kernel
theorem dX2_best_86 : decode cX2_best 86 = .ok (.iload_n 1, 1) := by decide +kernel
theorem dX2_best_87 : decode cX2_best 87 = .ok (.iload 8, 2) := by decide +kernel
theorem dX2_best_89 : decode cX2_best 89 = .ok (.ior, 1) := by decide +kernel
theorem dX2_best_90 : decode cX2_best 90 = .ok (.bipush 24, 2) := by decide +kernel
theorem dX2_best_92 : decode cX2_best 92 = .ok (.imul, 1) := by decide +kernel
theorem dX2_best_93 : decode cX2_best 93 = .ok (.aload_n 0, 1) := by decide +kernel
theorem dX2_best_94 : decode cX2_best 94 = .ok (.getfield 24, 3) := by decide +kernel
theorem dX2_best_97 : decode cX2_best 97 = .ok (.iload 9, 2) := by decide +kernel
theorem dX2_best_99 : decode cX2_best 99 = .ok (.invokestatic 61, 3) := by decide +kernel
theorem dX2_best_102 : decode cX2_best 102 = .ok (.iadd, 1) := by decide +kernel
theorem dX2_best_103 : decode cX2_best 103 = .ok (.invokestatic 61, 3) := by decide +kernel
theorem dX2_best_106 : decode cX2_best 106 = .ok (.iadd, 1) := by decide +kernel
theorem dX2_best_107 : decode cX2_best 107 = .ok (.istore 10, 2) := by decide +kernel
theorem dX2_best_109 : decode cX2_best 109 = .ok (.iload 6, 2) := by decide +kernel
theorem dX2_best_111 : decode cX2_best 111 = .ok (.iload 10, 2) := by decide +kernel
theorem dX2_best_113 : decode cX2_best 113 = .ok (.bipush 8, 2) := by decide +kernel
theorem dX2_best_115 : decode cX2_best 115 = .ok (.imul, 1) := by decide +kernel
theorem dX2_best_116 : decode cX2_best 116 = .ok (.iload 7, 2) := by decide +kernel
theorem dX2_best_118 : decode cX2_best 118 = .ok (.iadd, 1) := by decide +kernel
theorem dX2_best_119 : decode cX2_best 119 = .ok (.invokestatic 83, 3) := by decide +kernel
theorem dX2_best_122 : decode cX2_best 122 = .ok (.istore 6, 2) := by decide +kernel
theorem dX2_best_124 : decode cX2_best 124 = .ok (.iinc 7 1, 3) := by decide +kernel
theorem dX2_best_127 : decode cX2_best 127 = .ok (.goto (-88), 3) := by decide +kernel
theorem dX2_best_130 : decode cX2_best 130 = .ok (.iload 6, 2) := by decide +kernel
theorem dX2_best_132 : decode cX2_best 132 = .ok (.ireturn, 1) := by decide +kernel
theorem dX2_choose_0 : decode cX2_choose 0 = .ok (.iconst 0, 1) := by decide +kernel
theorem dX2_choose_1 : decode cX2_choose 1 = .ok (.istore_n 1, 1) := by decide +kernel
theorem dX2_choose_2 : decode cX2_choose 2 = .ok (.bipush 24, 2) := by decide +kernel
theorem dX2_choose_4 : decode cX2_choose 4 = .ok (.istore_n 2, 1) := by decide +kernel
theorem dX2_choose_5 : decode cX2_choose 5 = .ok (.aload_n 0, 1) := by decide +kernel
theorem dX2_choose_6 : decode cX2_choose 6 = .ok (.iconst 0, 1) := by decide +kernel
theorem dX2_choose_7 : decode cX2_choose 7 = .ok (.putfield 89, 3) := by decide +kernel
theorem dX2_choose_10 : decode cX2_choose 10 = .ok (.aload_n 0, 1) := by decide +kernel
theorem dX2_choose_11 : decode cX2_choose 11 = .ok (.iconst 0, 1) := by decide +kernel
theorem dX2_choose_12 : decode cX2_choose 12 = .ok (.putfield 92, 3) := by decide +kernel
theorem dX2_choose_15 : decode cX2_choose 15 = .ok (.iconst 0, 1) := by decide +kernel
theorem dX2_choose_16 : decode cX2_choose 16 = .ok (.istore_n 3, 1) := by decide +kernel
theorem dX2_choose_17 : decode cX2_choose 17 = .ok (.iload_n 3, 1) := by decide +kernel
theorem dX2_choose_18 : decode cX2_choose 18 = .ok (.aload_n 0, 1) := by decide +kernel
theorem dX2_choose_19 : decode cX2_choose 19 = .ok (.getfield 40, 3) := by decide +kernel
theorem dX2_choose_22 : decode cX2_choose 22 = .ok (.if_icmp .ge 95, 3) := by decide +kernel
theorem dX2_choose_25 : decode cX2_choose 25 = .ok (.aload_n 0, 1) := by decide +kernel
theorem dX2_choose_26 : decode cX2_choose 26 = .ok (.iload_n 1, 1) := by decide +kernel
theorem dX2_choose_27 : decode cX2_choose 27 = .ok (.iload_n 2, 1) := by decide +kernel
theorem dX2_choose_28 : decode cX2_choose 28 = .ok (.iconst 0, 1) := by decide +kernel
theorem dX2_choose_29 : decode cX2_choose 29 = .ok (.invokevirtual 72, 3) := by decide +kernel
theorem dX2_choose_32 : decode cX2_choose 32 = .ok (.bipush 8, 2) := by decide +kernel
theorem dX2_choose_34 : decode cX2_choose 34 = .ok (.irem, 1) := by decide +kernel
theorem dX2_choose_35 : decode cX2_choose 35 = .ok (.istore 4, 2) := by decide +kernel
theorem dX2_choose_37 : decode cX2_choose 37 = .ok (.iload_n 2, 1) := by decide +kernel
theorem dX2_choose_38 : decode cX2_choose 38 = .ok (.bipush 8, 2) := by decide +kernel
theorem dX2_choose_40 : decode cX2_choose 40 = .ok (.imul, 1) := by decide +kernel
theorem dX2_choose_41 : decode cX2_choose 41 = .ok (.iload 4, 2) := by decide +kernel
theorem dX2_choose_43 : decode cX2_choose 43 = .ok (.iadd, 1) := by decide +kernel
theorem dX2_choose_44 : decode cX2_choose 44 = .ok (.istore 5, 2) := by decide +kernel
theorem dX2_choose_46 : decode cX2_choose 46 = .ok (.aload_n 0, 1) := by decide +kernel
theorem dX2_choose_47 : decode cX2_choose 47 = .ok (.getfield 33, 3) := by decide +kernel
theorem dX2_choose_50 : decode cX2_choose 50 = .ok (.iload_n 3, 1) := by decide +kernel
theorem dX2_choose_51 : decode cX2_choose 51 = .ok (.aload_n 0, 1) := by decide +kernel
theorem dX2_choose_52 : decode cX2_choose 52 = .ok (.getfield 11, 3) := by decide +kernel
theorem dX2_choose_55 : decode cX2_choose 55 = .ok (.iload 4, 2) := by decide +kernel
theorem dX2_choose_57 : decode cX2_choose 57 = .ok (.invokestatic 61, 3) := by decide +kernel
theorem dX2_choose_60 : decode cX2_choose 60 = .ok (.invokestatic 49, 3) := by decide +kernel
theorem dX2_choose_63 : decode cX2_choose 63 = .ok (.aload_n 0, 1) := by decide +kernel
theorem dX2_choose_64 : decode cX2_choose 64 = .ok (.dup, 1) := by decide +kernel
theorem dX2_choose_65 : decode cX2_choose 65 = .ok (.getfield 89, 3) := by decide +kernel
theorem dX2_choose_68 : decode cX2_choose 68 = .ok (.aload_n 0, 1) := by decide +kernel
theorem dX2_choose_69 : decode cX2_choose 69 = .ok (.getfield 21, 3) := by decide +kernel
theorem dX2_choose_72 : decode cX2_choose 72 = .ok (.iload 5, 2) := by decide +kernel
theorem dX2_choose_74 : decode cX2_choose 74 = .ok (.invokestatic 61, 3) := by decide +kernel
theorem dX2_choose_77 : decode cX2_choose 77 = .ok (.iadd, 1) := by decide +kernel
theorem dX2_choose_78 : decode cX2_choose 78 = .ok (.putfield 89, 3) := by decide +kernel
theorem dX2_choose_81 : decode cX2_choose 81 = .ok (.aload_n 0, 1) := by decide +kernel
theorem dX2_choose_82 : decode cX2_choose 82 = .ok (.dup, 1) := by decide +kernel
theorem dX2_choose_83 : decode cX2_choose 83 = .ok (.getfield 92, 3) := by decide +kernel
theorem dX2_choose_86 : decode cX2_choose 86 = .ok (.aload_n 0, 1) := by decide +kernel
theorem dX2_choose_87 : decode cX2_choose 87 = .ok (.getfield 89, 3) := by decide +kernel
theorem dX2_choose_90 : decode cX2_choose 90 = .ok (.iadd, 1) := by decide +kernel
theorem dX2_choose_91 : decode cX2_choose 91 = .ok (.putfield 92, 3) := by decide +kernel
theorem dX2_choose_94 : decode cX2_choose 94 = .ok (.iload_n 1, 1) := by decide +kernel
theorem dX2_choose_95 : decode cX2_choose 95 = .ok (.iconst 1, 1) := by decide +kernel
theorem dX2_choose_96 : decode cX2_choose 96 = .ok (.iload 4, 2) := by decide +kernel
theorem dX2_choose_98 : decode cX2_choose 98 = .ok (.ishl, 1) := by decide +kernel
theorem dX2_choose_99 : decode cX2_choose 99 = .ok (.ior, 1) := by decide +kernel
theorem dX2_choose_100 : decode cX2_choose 100 = .ok (.istore_n 1, 1) := by decide +kernel
theorem dX2_choose_101 : decode cX2_choose 101 = .ok (.aload_n 0, 1) := by decide +kernel
theorem dX2_choose_102 : decode cX2_choose 102 = .ok (.getfield 24, 3) := by decide +kernel
theorem dX2_choose_105 : decode cX2_choose 105 = .ok (.iload 5, 2) := by decide +kernel
theorem dX2_choose_107 : decode cX2_choose 107 = .ok (.invokestatic 61, 3) := by decide +kernel
theorem dX2_choose_110 : decode cX2_choose 110 = .ok (.istore_n 2, 1) := by decide +kernel
theorem dX2_choose_111 : decode cX2_choose 111 = .ok (.iinc 3 1, 3) := by decide +kernel
theorem dX2_choose_114 : decode cX2_choose 114 = .ok (.goto (-97), 3) := by decide +kernel
theorem dX2_choose_117 : decode cX2_choose 117 = .ok (.return_, 1) := by decide +kernel
theorem dX2_leastWaits_0 : decode cX2_leastWaits 0 = .ok (.aload_n 0, 1) := by decide +kernel
theorem dX2_leastWaits_1 : decode cX2_leastWaits 1 = .ok (.getfield 46, 3) := by decide +kernel
theorem dX2_leastWaits_4 : decode cX2_leastWaits 4 = .ok (.iconst (-1), 1) := by decide +kernel
theorem dX2_leastWaits_5 : decode cX2_leastWaits 5 = .ok (.if_icmp .ne 23, 3) := by decide +kernel
theorem dX2_leastWaits_8 : decode cX2_leastWaits 8 = .ok (.aload_n 0, 1) := by decide +kernel
theorem dX2_leastWaits_9 : decode cX2_leastWaits 9 = .ok (.iconst 1, 1) := by decide +kernel
theorem dX2_leastWaits_10 : decode cX2_leastWaits 10 = .ok (.invokevirtual 95, 3) := by decide +kernel
theorem dX2_leastWaits_13 : decode cX2_leastWaits 13 = .ok (.aload_n 0, 1) := by decide +kernel
theorem dX2_leastWaits_14 : decode cX2_leastWaits 14 = .ok (.aload_n 0, 1) := by decide +kernel
theorem dX2_leastWaits_15 : decode cX2_leastWaits 15 = .ok (.iconst 0, 1) := by decide +kernel
theorem dX2_leastWaits_16 : decode cX2_leastWaits 16 = .ok (.bipush 24, 2) := by decide +kernel
theorem dX2_leastWaits_18 : decode cX2_leastWaits 18 = .ok (.iconst 1, 1) := by decide +kernel
theorem dX2_leastWaits_19 : decode cX2_leastWaits 19 = .ok (.invokevirtual 72, 3) := by decide +kernel
theorem dX2_leastWaits_22 : decode cX2_leastWaits 22 = .ok (.bipush 8, 2) := by decide +kernel
theorem dX2_leastWaits_24 : decode cX2_leastWaits 24 = .ok (.idiv, 1) := by decide +kernel
theorem dX2_leastWaits_25 : decode cX2_leastWaits 25 = .ok (.putfield 46, 3) := by decide +kernel
theorem dX2_leastWaits_28 : decode cX2_leastWaits 28 = .ok (.aload_n 0, 1) := by decide +kernel
theorem dX2_leastWaits_29 : decode cX2_leastWaits 29 = .ok (.getfield 46, 3) := by decide +kernel
theorem dX2_leastWaits_32 : decode cX2_leastWaits 32 = .ok (.ireturn, 1) := by decide +kernel
theorem dX3_init_0 : decode cX3_init 0 = .ok (.aload_n 0, 1) := by decide +kernel
theorem dX3_init_1 : decode cX3_init 1 = .ok (.invokespecial 3, 3) := by decide +kernel
theorem dX3_init_4 : decode cX3_init 4 = .ok (.aload_n 0, 1) := by decide +kernel
theorem dX3_init_5 : decode cX3_init 5 = .ok (.bipush 8, 2) := by decide +kernel
theorem dX3_init_7 : decode cX3_init 7 = .ok (.newarray .int, 2) := by decide +kernel
theorem dX3_init_9 : decode cX3_init 9 = .ok (.putfield 9, 3) := by decide +kernel
theorem dX3_init_12 : decode cX3_init 12 = .ok (.aload_n 0, 1) := by decide +kernel
theorem dX3_init_13 : decode cX3_init 13 = .ok (.iconst 0, 1) := by decide +kernel
theorem dX3_init_14 : decode cX3_init 14 = .ok (.putfield 15, 3) := by decide +kernel
theorem dX3_init_17 : decode cX3_init 17 = .ok (.aload_n 0, 1) := by decide +kernel
theorem dX3_init_18 : decode cX3_init 18 = .ok (.iconst (-1), 1) := by decide +kernel
theorem dX3_init_19 : decode cX3_init 19 = .ok (.putfield 19, 3) := by decide +kernel
theorem dX3_init_22 : decode cX3_init 22 = .ok (.aload_n 0, 1) := by decide +kernel
theorem dX3_init_23 : decode cX3_init 23 = .ok (.iload_n 1, 1) := by decide +kernel
theorem dX3_init_24 : decode cX3_init 24 = .ok (.putfield 22, 3) := by decide +kernel
theorem dX3_init_27 : decode cX3_init 27 = .ok (.return_, 1) := by decide +kernel
theorem dX3_workLeft_0 : decode cX3_workLeft 0 = .ok (.aload_n 0, 1) := by decide +kernel
theorem dX3_workLeft_1 : decode cX3_workLeft 1 = .ok (.getfield 25, 3) := by decide +kernel
theorem dX3_workLeft_4 : decode cX3_workLeft 4 = .ok (.aload_n 0, 1) := by decide +kernel
theorem dX3_workLeft_5 : decode cX3_workLeft 5 = .ok (.getfield 28, 3) := by decide +kernel
theorem dX3_workLeft_8 : decode cX3_workLeft 8 = .ok (.isub, 1) := by decide +kernel
theorem dX3_workLeft_9 : decode cX3_workLeft 9 = .ok (.ireturn, 1) := by decide +kernel
theorem dX3_addWork_0 : decode cX3_addWork 0 = .ok (.aload_n 0, 1) := by decide +kernel
theorem dX3_addWork_1 : decode cX3_addWork 1 = .ok (.getfield 9, 3) := by decide +kernel
theorem dX3_addWork_4 : decode cX3_addWork 4 = .ok (.aload_n 0, 1) := by decide +kernel
theorem dX3_addWork_5 : decode cX3_addWork 5 = .ok (.getfield 25, 3) := by decide +kernel
theorem dX3_addWork_8 : decode cX3_addWork 8 = .ok (.iload_n 1, 1) := by decide +kernel
theorem dX3_addWork_9 : decode cX3_addWork 9 = .ok (.invokestatic 31, 3) := by decide +kernel
theorem dX3_addWork_12 : decode cX3_addWork 12 = .ok (.aload_n 0, 1) := by decide +kernel
theorem dX3_addWork_13 : decode cX3_addWork 13 = .ok (.dup, 1) := by decide +kernel
theorem dX3_addWork_14 : decode cX3_addWork 14 = .ok (.getfield 25, 3) := by decide +kernel
theorem dX3_addWork_17 : decode cX3_addWork 17 = .ok (.iconst 1, 1) := by decide +kernel
theorem dX3_addWork_18 : decode cX3_addWork 18 = .ok (.iadd, 1) := by decide +kernel
theorem dX3_addWork_19 : decode cX3_addWork 19 = .ok (.putfield 25, 3) := by decide +kernel
theorem dX3_addWork_22 : decode cX3_addWork 22 = .ok (.return_, 1) := by decide +kernel
theorem dX3_endFirst_0 : decode cX3_endFirst 0 = .ok (.aload_n 0, 1) := by decide +kernel
theorem dX3_endFirst_1 : decode cX3_endFirst 1 = .ok (.dup, 1) := by decide +kernel
theorem dX3_endFirst_2 : decode cX3_endFirst 2 = .ok (.getfield 28, 3) := by decide +kernel
theorem dX3_endFirst_5 : decode cX3_endFirst 5 = .ok (.iconst 1, 1) := by decide +kernel
theorem dX3_endFirst_6 : decode cX3_endFirst 6 = .ok (.iadd, 1) := by decide +kernel
theorem dX3_endFirst_7 : decode cX3_endFirst 7 = .ok (.putfield 28, 3) := by decide +kernel
theorem dX3_endFirst_10 : decode cX3_endFirst 10 = .ok (.aload_n 0, 1) := by decide +kernel
theorem dX3_endFirst_11 : decode cX3_endFirst 11 = .ok (.iconst 0, 1) := by decide +kernel
theorem dX3_endFirst_12 : decode cX3_endFirst 12 = .ok (.putfield 35, 3) := by decide +kernel
theorem dX3_endFirst_15 : decode cX3_endFirst 15 = .ok (.aload_n 0, 1) := by decide +kernel
theorem dX3_endFirst_16 : decode cX3_endFirst 16 = .ok (.iload_n 1, 1) := by decide +kernel
theorem dX3_endFirst_17 : decode cX3_endFirst 17 = .ok (.putfield 38, 3) := by decide +kernel
theorem dX3_endFirst_20 : decode cX3_endFirst 20 = .ok (.return_, 1) := by decide +kernel
theorem dX3_dropWork_0 : decode cX3_dropWork 0 = .ok (.aload_n 0, 1) := by decide +kernel
theorem dX3_dropWork_1 : decode cX3_dropWork 1 = .ok (.iconst 0, 1) := by decide +kernel
theorem dX3_dropWork_2 : decode cX3_dropWork 2 = .ok (.putfield 28, 3) := by decide +kernel
theorem dX3_dropWork_5 : decode cX3_dropWork 5 = .ok (.aload_n 0, 1) := by decide +kernel
theorem dX3_dropWork_6 : decode cX3_dropWork 6 = .ok (.iconst 0, 1) := by decide +kernel
theorem dX3_dropWork_7 : decode cX3_dropWork 7 = .ok (.putfield 25, 3) := by decide +kernel
theorem dX3_dropWork_10 : decode cX3_dropWork 10 = .ok (.aload_n 0, 1) := by decide +kernel
theorem dX3_dropWork_11 : decode cX3_dropWork 11 = .ok (.iconst 0, 1) := by decide +kernel
theorem dX3_dropWork_12 : decode cX3_dropWork 12 = .ok (.putfield 35, 3) := by decide +kernel
theorem dX3_dropWork_15 : decode cX3_dropWork 15 = .ok (.aload_n 0, 1) := by decide +kernel
theorem dX3_dropWork_16 : decode cX3_dropWork 16 = .ok (.iconst 0, 1) := by decide +kernel
theorem dX3_dropWork_17 : decode cX3_dropWork 17 = .ok (.putfield 38, 3) := by decide +kernel
theorem dX3_dropWork_20 : decode cX3_dropWork 20 = .ok (.return_, 1) := by decide +kernel
theorem dX4_init_0 : decode cX4_init 0 = .ok (.aload_n 0, 1) := by decide +kernel
theorem dX4_init_1 : decode cX4_init 1 = .ok (.invokespecial 3, 3) := by decide +kernel
theorem dX4_init_4 : decode cX4_init 4 = .ok (.aload_n 0, 1) := by decide +kernel
theorem dX4_init_5 : decode cX4_init 5 = .ok (.bipush 8, 2) := by decide +kernel
theorem dX4_init_7 : decode cX4_init 7 = .ok (.newarray .int, 2) := by decide +kernel
theorem dX4_init_9 : decode cX4_init 9 = .ok (.putfield 9, 3) := by decide +kernel
theorem dX4_init_12 : decode cX4_init 12 = .ok (.aload_n 0, 1) := by decide +kernel
theorem dX4_init_13 : decode cX4_init 13 = .ok (.bipush 8, 2) := by decide +kernel
theorem dX4_init_15 : decode cX4_init 15 = .ok (.newarray .int, 2) := by decide +kernel
theorem dX4_init_17 : decode cX4_init 17 = .ok (.putfield 15, 3) := by decide +kernel
theorem dX4_init_20 : decode cX4_init 20 = .ok (.aload_n 0, 1) := by decide +kernel
theorem dX4_init_21 : decode cX4_init 21 = .ok (.bipush 8, 2) := by decide +kernel
theorem dX4_init_23 : decode cX4_init 23 = .ok (.newarray .int, 2) := by decide +kernel
theorem dX4_init_25 : decode cX4_init 25 = .ok (.putfield 18, 3) := by decide +kernel
theorem dX4_init_28 : decode cX4_init 28 = .ok (.aload_n 0, 1) := by decide +kernel
theorem dX4_init_29 : decode cX4_init 29 = .ok (.sipush 256, 3) := by decide +kernel
theorem dX4_init_32 : decode cX4_init 32 = .ok (.newarray .long, 2) := by decide +kernel
theorem dX4_init_34 : decode cX4_init 34 = .ok (.putfield 21, 3) := by decide +kernel
theorem dX4_init_37 : decode cX4_init 37 = .ok (.aload_n 0, 1) := by decide +kernel
theorem dX4_init_38 : decode cX4_init 38 = .ok (.iconst 1, 1) := by decide +kernel
theorem dX4_init_39 : decode cX4_init 39 = .ok (.putfield 25, 3) := by decide +kernel
theorem dX4_init_42 : decode cX4_init 42 = .ok (.return_, 1) := by decide +kernel
theorem dX4_isFull_0 : decode cX4_isFull 0 = .ok (.aload_n 0, 1) := by decide +kernel
theorem dX4_isFull_1 : decode cX4_isFull 1 = .ok (.getfield 29, 3) := by decide +kernel
theorem dX4_isFull_4 : decode cX4_isFull 4 = .ok (.bipush 8, 2) := by decide +kernel
theorem dX4_isFull_6 : decode cX4_isFull 6 = .ok (.if_icmp .lt 7, 3) := by decide +kernel
theorem dX4_isFull_9 : decode cX4_isFull 9 = .ok (.iconst 1, 1) := by decide +kernel
theorem dX4_isFull_10 : decode cX4_isFull 10 = .ok (.goto 4, 3) := by decide +kernel
theorem dX4_isFull_13 : decode cX4_isFull 13 = .ok (.iconst 0, 1) := by decide +kernel
theorem dX4_isFull_14 : decode cX4_isFull 14 = .ok (.ireturn, 1) := by decide +kernel
theorem dX4_add_0 : decode cX4_add 0 = .ok (.aload_n 0, 1) := by decide +kernel
theorem dX4_add_1 : decode cX4_add 1 = .ok (.getfield 9, 3) := by decide +kernel
theorem dX4_add_4 : decode cX4_add 4 = .ok (.aload_n 0, 1) := by decide +kernel
theorem dX4_add_5 : decode cX4_add 5 = .ok (.getfield 29, 3) := by decide +kernel
theorem dX4_add_8 : decode cX4_add 8 = .ok (.iload_n 1, 1) := by decide +kernel
theorem dX4_add_9 : decode cX4_add 9 = .ok (.invokestatic 33, 3) := by decide +kernel
theorem dX4_add_12 : decode cX4_add 12 = .ok (.aload_n 0, 1) := by decide +kernel
theorem dX4_add_13 : decode cX4_add 13 = .ok (.getfield 15, 3) := by decide +kernel
theorem dX4_add_16 : decode cX4_add 16 = .ok (.aload_n 0, 1) := by decide +kernel
theorem dX4_add_17 : decode cX4_add 17 = .ok (.getfield 29, 3) := by decide +kernel
theorem dX4_add_20 : decode cX4_add 20 = .ok (.iload_n 2, 1) := by decide +kernel
theorem dX4_add_21 : decode cX4_add 21 = .ok (.invokestatic 33, 3) := by decide +kernel
theorem dX4_add_24 : decode cX4_add 24 = .ok (.aload_n 0, 1) := by decide +kernel
theorem dX4_add_25 : decode cX4_add 25 = .ok (.dup, 1) := by decide +kernel
theorem dX4_add_26 : decode cX4_add 26 = .ok (.getfield 37, 3) := by decide +kernel
theorem dX4_add_29 : decode cX4_add 29 = .ok (.iload_n 2, 1) := by decide +kernel
theorem dX4_add_30 : decode cX4_add 30 = .ok (.iadd, 1) := by decide +kernel
theorem dX4_add_31 : decode cX4_add 31 = .ok (.putfield 37, 3) := by decide +kernel
theorem dX4_add_34 : decode cX4_add 34 = .ok (.aload_n 0, 1) := by decide +kernel
theorem dX4_add_35 : decode cX4_add 35 = .ok (.iconst 0, 1) := by decide +kernel
theorem dX4_add_36 : decode cX4_add 36 = .ok (.putfield 25, 3) := by decide +kernel
theorem dX4_add_39 : decode cX4_add 39 = .ok (.aload_n 0, 1) := by decide +kernel
theorem dX4_add_40 : decode cX4_add 40 = .ok (.dup, 1) := by decide +kernel
theorem dX4_add_41 : decode cX4_add 41 = .ok (.getfield 29, 3) := by decide +kernel
theorem dX4_add_44 : decode cX4_add 44 = .ok (.dup_x1, 1) := by decide +kernel
theorem dX4_add_45 : decode cX4_add 45 = .ok (.iconst 1, 1) := by decide +kernel
theorem dX4_add_46 : decode cX4_add 46 = .ok (.iadd, 1) := by decide +kernel
theorem dX4_add_47 : decode cX4_add 47 = .ok (.putfield 29, 3) := by decide +kernel
theorem dX4_add_50 : decode cX4_add 50 = .ok (.ireturn, 1) := by decide +kernel
theorem dX4_empty_0 : decode cX4_empty 0 = .ok (.aload_n 0, 1) := by decide +kernel
theorem dX4_empty_1 : decode cX4_empty 1 = .ok (.iconst 0, 1) := by decide +kernel
theorem dX4_empty_2 : decode cX4_empty 2 = .ok (.putfield 29, 3) := by decide +kernel
theorem dX4_empty_5 : decode cX4_empty 5 = .ok (.aload_n 0, 1) := by decide +kernel
theorem dX4_empty_6 : decode cX4_empty 6 = .ok (.iconst 0, 1) := by decide +kernel
theorem dX4_empty_7 : decode cX4_empty 7 = .ok (.putfield 37, 3) := by decide +kernel
theorem dX4_empty_10 : decode cX4_empty 10 = .ok (.aload_n 0, 1) := by decide +kernel
theorem dX4_empty_11 : decode cX4_empty 11 = .ok (.lconst 0, 1) := by decide +kernel
theorem dX4_empty_12 : decode cX4_empty 12 = .ok (.putfield 40, 3) := by decide +kernel
theorem dX4_empty_15 : decode cX4_empty 15 = .ok (.aload_n 0, 1) := by decide +kernel
theorem dX4_empty_16 : decode cX4_empty 16 = .ok (.iconst 1, 1) := by decide +kernel
theorem dX4_empty_17 : decode cX4_empty 17 = .ok (.putfield 25, 3) := by decide +kernel
theorem dX4_empty_20 : decode cX4_empty 20 = .ok (.return_, 1) := by decide +kernel
theorem dX4_lay_0 : decode cX4_lay 0 = .ok (.aload_n 0, 1) := by decide +kernel
theorem dX4_lay_1 : decode cX4_lay 1 = .ok (.getfield 25, 3) := by decide +kernel
theorem dX4_lay_4 : decode cX4_lay 4 = .ok (.ifCond .eq 4, 3) := by decide +kernel
theorem dX4_lay_7 : decode cX4_lay 7 = .ok (.return_, 1) := by decide +kernel
theorem dX4_lay_8 : decode cX4_lay 8 = .ok (.iconst 1, 1) := by decide +kernel
theorem dX4_lay_9 : decode cX4_lay 9 = .ok (.aload_n 0, 1) := by decide +kernel
theorem dX4_lay_10 : decode cX4_lay 10 = .ok (.getfield 29, 3) := by decide +kernel
theorem dX4_lay_13 : decode cX4_lay 13 = .ok (.ishl, 1) := by decide +kernel
theorem dX4_lay_14 : decode cX4_lay 14 = .ok (.aload_n 0, 1) := by decide +kernel
theorem dX4_lay_15 : decode cX4_lay 15 = .ok (.getfield 21, 3) := by decide +kernel
theorem dX4_lay_18 : decode cX4_lay 18 = .ok (.arraylength, 1) := by decide +kernel
theorem dX4_lay_19 : decode cX4_lay 19 = .ok (.invokestatic 44, 3) := by decide +kernel
theorem dX4_lay_22 : decode cX4_lay 22 = .ok (.iconst 1, 1) := by decide +kernel
theorem dX4_lay_23 : decode cX4_lay 23 = .ok (.isub, 1) := by decide +kernel
theorem dX4_lay_24 : decode cX4_lay 24 = .ok (.istore_n 1, 1) := by decide +kernel
theorem dX4_lay_25 : decode cX4_lay 25 = .ok (.iload_n 1, 1) := by decide +kernel
theorem dX4_lay_26 : decode cX4_lay 26 = .ok (.ifCond .lt 24, 3) := by decide +kernel
theorem dX4_lay_29 : decode cX4_lay 29 = .ok (.aload_n 0, 1) := by decide +kernel
theorem dX4_lay_30 : decode cX4_lay 30 = .ok (.getfield 21, 3) := by decide +kernel
theorem dX4_lay_33 : decode cX4_lay 33 = .ok (.iload_n 1, 1) := by decide +kernel
theorem dX4_lay_34 : decode cX4_lay 34 = .ok (.aload_n 0, 1) := by decide +kernel
theorem dX4_lay_35 : decode cX4_lay 35 = .ok (.iload_n 1, 1) := by decide +kernel
theorem dX4_lay_36 : decode cX4_lay 36 = .ok (.invokevirtual 50, 3) := by decide +kernel
theorem dX4_lay_39 : decode cX4_lay 39 = .ok (.ldc2_w 54, 3) := by decide +kernel
theorem dX4_lay_42 : decode cX4_lay 42 = .ok (.ldiv, 1) := by decide +kernel
theorem dX4_lay_43 : decode cX4_lay 43 = .ok (.lastore, 1) := by decide +kernel
theorem dX4_lay_44 : decode cX4_lay 44 = .ok (.iinc 1 (-1), 3) := by decide +kernel
theorem dX4_lay_47 : decode cX4_lay 47 = .ok (.goto (-22), 3) := by decide +kernel
theorem dX4_lay_50 : decode cX4_lay 50 = .ok (.aload_n 0, 1) := by decide +kernel
theorem dX4_lay_51 : decode cX4_lay 51 = .ok (.aload_n 0, 1) := by decide +kernel
theorem dX4_lay_52 : decode cX4_lay 52 = .ok (.getfield 21, 3) := by decide +kernel
theorem dX4_lay_55 : decode cX4_lay 55 = .ok (.iconst 0, 1) := by decide +kernel
theorem dX4_lay_56 : decode cX4_lay 56 = .ok (.invokestatic 56, 3) := by decide +kernel
theorem dX4_lay_59 : decode cX4_lay 59 = .ok (.putfield 40, 3) := by decide +kernel
theorem dX4_lay_62 : decode cX4_lay 62 = .ok (.iconst 0, 1) := by decide +kernel
theorem dX4_lay_63 : decode cX4_lay 63 = .ok (.istore_n 1, 1) := by decide +kernel
theorem dX4_lay_64 : decode cX4_lay 64 = .ok (.iconst 0, 1) := by decide +kernel
theorem dX4_lay_65 : decode cX4_lay 65 = .ok (.istore_n 2, 1) := by decide +kernel
theorem dX4_lay_66 : decode cX4_lay 66 = .ok (.iconst 0, 1) := by decide +kernel
theorem dX4_lay_67 : decode cX4_lay 67 = .ok (.istore_n 3, 1) := by decide +kernel
theorem dX4_lay_68 : decode cX4_lay 68 = .ok (.iload_n 3, 1) := by decide +kernel
theorem dX4_lay_69 : decode cX4_lay 69 = .ok (.aload_n 0, 1) := by decide +kernel
theorem dX4_lay_70 : decode cX4_lay 70 = .ok (.getfield 29, 3) := by decide +kernel
theorem dX4_lay_73 : decode cX4_lay 73 = .ok (.if_icmp .ge 50, 3) := by decide +kernel
theorem dX4_lay_76 : decode cX4_lay 76 = .ok (.aload_n 0, 1) := by decide +kernel
theorem dX4_lay_77 : decode cX4_lay 77 = .ok (.iload_n 1, 1) := by decide +kernel
theorem dX4_lay_78 : decode cX4_lay 78 = .ok (.invokevirtual 50, 3) := by decide +kernel
theorem dX4_lay_81 : decode cX4_lay 81 = .ok (.ldc2_w 54, 3) := by decide +kernel
theorem dX4_lay_84 : decode cX4_lay 84 = .ok (.lrem, 1) := by decide +kernel
theorem dX4_lay_85 : decode cX4_lay 85 = .ok (.l2i, 1) := by decide +kernel
theorem dX4_lay_86 : decode cX4_lay 86 = .ok (.istore 4, 2) := by decide +kernel
theorem dX4_lay_88 : decode cX4_lay 88 = .ok (.aload_n 0, 1) := by decide +kernel
theorem dX4_lay_89 : decode cX4_lay 89 = .ok (.getfield 18, 3) := by decide +kernel
theorem dX4_lay_92 : decode cX4_lay 92 = .ok (.iload 4, 2) := by decide +kernel
theorem dX4_lay_94 : decode cX4_lay 94 = .ok (.iload_n 2, 1) := by decide +kernel
theorem dX4_lay_95 : decode cX4_lay 95 = .ok (.invokestatic 33, 3) := by decide +kernel
theorem dX4_lay_98 : decode cX4_lay 98 = .ok (.iload_n 2, 1) := by decide +kernel
theorem dX4_lay_99 : decode cX4_lay 99 = .ok (.aload_n 0, 1) := by decide +kernel
theorem dX4_lay_100 : decode cX4_lay 100 = .ok (.getfield 9, 3) := by decide +kernel
theorem dX4_lay_103 : decode cX4_lay 103 = .ok (.iload 4, 2) := by decide +kernel
theorem dX4_lay_105 : decode cX4_lay 105 = .ok (.invokestatic 60, 3) := by decide +kernel
theorem dX4_lay_108 : decode cX4_lay 108 = .ok (.iadd, 1) := by decide +kernel
theorem dX4_lay_109 : decode cX4_lay 109 = .ok (.istore_n 2, 1) := by decide +kernel
theorem dX4_lay_110 : decode cX4_lay 110 = .ok (.iload_n 1, 1) := by decide +kernel
theorem dX4_lay_111 : decode cX4_lay 111 = .ok (.iconst 1, 1) := by decide +kernel
theorem dX4_lay_112 : decode cX4_lay 112 = .ok (.iload 4, 2) := by decide +kernel
theorem dX4_lay_114 : decode cX4_lay 114 = .ok (.ishl, 1) := by decide +kernel
theorem dX4_lay_115 : decode cX4_lay 115 = .ok (.ior, 1) := by decide +kernel
theorem dX4_lay_116 : decode cX4_lay 116 = .ok (.istore_n 1, 1) := by decide +kernel
theorem dX4_lay_117 : decode cX4_lay 117 = .ok (.iinc 3 1, 3) := by decide +kernel
theorem dX4_lay_120 : decode cX4_lay 120 = .ok (.goto (-52), 3) := by decide +kernel
theorem dX4_lay_123 : decode cX4_lay 123 = .ok (.aload_n 0, 1) := by decide +kernel
theorem dX4_lay_124 : decode cX4_lay 124 = .ok (.iconst 1, 1) := by decide +kernel
theorem dX4_lay_125 : decode cX4_lay 125 = .ok (.putfield 25, 3) := by decide +kernel
theorem dX4_lay_128 : decode cX4_lay 128 = .ok (.return_, 1) := by decide +kernel
theorem dX4_best_0 : decode cX4_best 0 = .ok (.aload_n 0, 1) := by decide +kernel
theorem dX4_best_1 : decode cX4_best 1 = .ok (.iload_n 1, 1) := by decide +kernel
theorem dX4_best_2 : decode cX4_best 2 = .ok (.invokevirtual 63, 3) := by decide +kernel
theorem dX4_best_5 : decode cX4_best 5 = .ok (.istore_n 2, 1) := by decide +kernel
theorem dX4_best_6 : decode cX4_best 6 = .ok (.ldc2_w 69, 3) := by decide +kernel
theorem dX4_best_9 : decode cX4_best 9 = .ok (.lstore_n 3, 1) := by decide +kernel
theorem dX4_best_10 : decode cX4_best 10 = .ok (.iconst 0, 1) := by decide +kernel
theorem dX4_best_11 : decode cX4_best 11 = .ok (.istore 5, 2) := by decide +kernel
theorem dX4_best_13 : decode cX4_best 13 = .ok (.iload 5, 2) := by decide +kernel
theorem dX4_best_15 : decode cX4_best 15 = .ok (.aload_n 0, 1) := by decide +kernel
theorem dX4_best_16 : decode cX4_best 16 = .ok (.getfield 29, 3) := by decide +kernel
theorem dX4_best_19 : decode cX4_best 19 = .ok (.if_icmp .ge 87, 3) := by decide +kernel
theorem dX4_best_22 : decode cX4_best 22 = .ok (.iconst 1, 1) := by decide +kernel
theorem dX4_best_23 : decode cX4_best 23 = .ok (.iload 5, 2) := by decide +kernel
theorem dX4_best_25 : decode cX4_best 25 = .ok (.ishl, 1) := by decide +kernel
theorem dX4_best_26 : decode cX4_best 26 = .ok (.istore 6, 2) := by decide +kernel
theorem dX4_best_28 : decode cX4_best 28 = .ok (.iload_n 1, 1) := by decide +kernel
theorem dX4_best_29 : decode cX4_best 29 = .ok (.iload 6, 2) := by decide +kernel
theorem dX4_best_31 : decode cX4_best 31 = .ok (.iand, 1) := by decide +kernel
theorem dX4_best_32 : decode cX4_best 32 = .ok (.ifCond .ne 68, 3) := by decide +kernel
theorem dX4_best_35 : decode cX4_best 35 = .ok (.iload_n 2, 1) := by decide +kernel
theorem dX4_best_36 : decode cX4_best 36 = .ok (.aload_n 0, 1) := by decide +kernel
theorem dX4_best_37 : decode cX4_best 37 = .ok (.getfield 15, 3) := by decide +kernel
theorem dX4_best_40 : decode cX4_best 40 = .ok (.iload 5, 2) := by decide +kernel
theorem dX4_best_42 : decode cX4_best 42 = .ok (.invokestatic 60, 3) := by decide +kernel
theorem dX4_best_45 : decode cX4_best 45 = .ok (.iadd, 1) := by decide +kernel
theorem dX4_best_46 : decode cX4_best 46 = .ok (.i2l, 1) := by decide +kernel
theorem dX4_best_47 : decode cX4_best 47 = .ok (.lstore 7, 2) := by decide +kernel
theorem dX4_best_49 : decode cX4_best 49 = .ok (.aload_n 0, 1) := by decide +kernel
theorem dX4_best_50 : decode cX4_best 50 = .ok (.getfield 9, 3) := by decide +kernel
theorem dX4_best_53 : decode cX4_best 53 = .ok (.iload 5, 2) := by decide +kernel
theorem dX4_best_55 : decode cX4_best 55 = .ok (.invokestatic 60, 3) := by decide +kernel
theorem dX4_best_58 : decode cX4_best 58 = .ok (.i2l, 1) := by decide +kernel
theorem dX4_best_59 : decode cX4_best 59 = .ok (.lload 7, 2) := by decide +kernel
theorem dX4_best_61 : decode cX4_best 61 = .ok (.lmul, 1) := by decide +kernel
theorem dX4_best_62 : decode cX4_best 62 = .ok (.aload_n 0, 1) := by decide +kernel
theorem dX4_best_63 : decode cX4_best 63 = .ok (.getfield 37, 3) := by decide +kernel
theorem dX4_best_66 : decode cX4_best 66 = .ok (.i2l, 1) := by decide +kernel
theorem dX4_best_67 : decode cX4_best 67 = .ok (.lload 7, 2) := by decide +kernel
theorem dX4_best_69 : decode cX4_best 69 = .ok (.lsub, 1) := by decide +kernel
theorem dX4_best_70 : decode cX4_best 70 = .ok (.lmul, 1) := by decide +kernel
theorem dX4_best_71 : decode cX4_best 71 = .ok (.aload_n 0, 1) := by decide +kernel
theorem dX4_best_72 : decode cX4_best 72 = .ok (.getfield 21, 3) := by decide +kernel
theorem dX4_best_75 : decode cX4_best 75 = .ok (.iload_n 1, 1) := by decide +kernel
theorem dX4_best_76 : decode cX4_best 76 = .ok (.iload 6, 2) := by decide +kernel
theorem dX4_best_78 : decode cX4_best 78 = .ok (.ior, 1) := by decide +kernel
theorem dX4_best_79 : decode cX4_best 79 = .ok (.invokestatic 56, 3) := by decide +kernel
theorem dX4_best_82 : decode cX4_best 82 = .ok (.ladd, 1) := by decide +kernel
theorem dX4_best_83 : decode cX4_best 83 = .ok (.lstore 9, 2) := by decide +kernel
theorem dX4_best_85 : decode cX4_best 85 = .ok (.lload_n 3, 1) := by decide +kernel
theorem dX4_best_86 : decode cX4_best 86 = .ok (.lload 9, 2) := by decide +kernel
theorem dX4_best_88 : decode cX4_best 88 = .ok (.ldc2_w 54, 3) := by decide +kernel
theorem dX4_best_91 : decode cX4_best 91 = .ok (.lmul, 1) := by decide +kernel
theorem dX4_best_92 : decode cX4_best 92 = .ok (.iload 5, 2) := by decide +kernel
theorem dX4_best_94 : decode cX4_best 94 = .ok (.i2l, 1) := by decide +kernel
theorem dX4_best_95 : decode cX4_best 95 = .ok (.ladd, 1) := by decide +kernel
theorem dX4_best_96 : decode cX4_best 96 = .ok (.invokestatic 71, 3) := by decide +kernel
theorem dX4_best_99 : decode cX4_best 99 = .ok (.lstore_n 3, 1) := by decide +kernel
theorem dX4_best_100 : decode cX4_best 100 = .ok (.iinc 5 1, 3) := by decide +kernel
theorem dX4_best_103 : decode cX4_best 103 = .ok (.goto (-90), 3) := by decide +kernel
theorem dX4_best_106 : decode cX4_best 106 = .ok (.lload_n 3, 1) := by decide +kernel
theorem dX4_best_107 : decode cX4_best 107 = .ok (.ldc2_w 69, 3) := by decide +kernel
theorem dX4_best_110 : decode cX4_best 110 = .ok (.lcmp, 1) := by decide +kernel
theorem dX4_best_111 : decode cX4_best 111 = .ok (.ifCond .ne 7, 3) := by decide +kernel
theorem dX4_best_114 : decode cX4_best 114 = .ok (.lconst 0, 1) := by decide +kernel
theorem dX4_best_115 : decode cX4_best 115 = .ok (.goto 4, 3) := by decide +kernel
theorem dX4_best_118 : decode cX4_best 118 = .ok (.lload_n 3, 1) := by decide +kernel
theorem dX4_best_119 : decode cX4_best 119 = .ok (.lreturn, 1) := by decide +kernel
theorem dX4_countsOf_0 : decode cX4_countsOf 0 = .ok (.iconst 0, 1) := by decide +kernel
theorem dX4_countsOf_1 : decode cX4_countsOf 1 = .ok (.istore_n 2, 1) := by decide +kernel
theorem dX4_countsOf_2 : decode cX4_countsOf 2 = .ok (.iconst 0, 1) := by decide +kernel
theorem dX4_countsOf_3 : decode cX4_countsOf 3 = .ok (.istore_n 3, 1) := by decide +kernel
theorem dX4_countsOf_4 : decode cX4_countsOf 4 = .ok (.iload_n 3, 1) := by decide +kernel
theorem dX4_countsOf_5 : decode cX4_countsOf 5 = .ok (.aload_n 0, 1) := by decide +kernel
theorem dX4_countsOf_6 : decode cX4_countsOf 6 = .ok (.getfield 29, 3) := by decide +kernel
theorem dX4_countsOf_9 : decode cX4_countsOf 9 = .ok (.if_icmp .ge 28, 3) := by decide +kernel
theorem dX4_countsOf_12 : decode cX4_countsOf 12 = .ok (.iload_n 1, 1) := by decide +kernel
theorem dX4_countsOf_13 : decode cX4_countsOf 13 = .ok (.iload_n 3, 1) := by decide +kernel
theorem dX4_countsOf_14 : decode cX4_countsOf 14 = .ok (.ishr, 1) := by decide +kernel
theorem dX4_countsOf_15 : decode cX4_countsOf 15 = .ok (.iconst 1, 1) := by decide +kernel
theorem dX4_countsOf_16 : decode cX4_countsOf 16 = .ok (.iand, 1) := by decide +kernel
theorem dX4_countsOf_17 : decode cX4_countsOf 17 = .ok (.ifCond .eq 14, 3) := by decide +kernel
theorem dX4_countsOf_20 : decode cX4_countsOf 20 = .ok (.iload_n 2, 1) := by decide +kernel
theorem dX4_countsOf_21 : decode cX4_countsOf 21 = .ok (.aload_n 0, 1) := by decide +kernel
theorem dX4_countsOf_22 : decode cX4_countsOf 22 = .ok (.getfield 15, 3) := by decide +kernel
theorem dX4_countsOf_25 : decode cX4_countsOf 25 = .ok (.iload_n 3, 1) := by decide +kernel
theorem dX4_countsOf_26 : decode cX4_countsOf 26 = .ok (.invokestatic 60, 3) := by decide +kernel
theorem dX4_countsOf_29 : decode cX4_countsOf 29 = .ok (.iadd, 1) := by decide +kernel
theorem dX4_countsOf_30 : decode cX4_countsOf 30 = .ok (.istore_n 2, 1) := by decide +kernel
theorem dX4_countsOf_31 : decode cX4_countsOf 31 = .ok (.iinc 3 1, 3) := by decide +kernel
theorem dX4_countsOf_34 : decode cX4_countsOf 34 = .ok (.goto (-30), 3) := by decide +kernel
theorem dX4_countsOf_37 : decode cX4_countsOf 37 = .ok (.iload_n 2, 1) := by decide +kernel
theorem dX4_countsOf_38 : decode cX4_countsOf 38 = .ok (.ireturn, 1) := by decide +kernel
theorem dX5_init_0 : decode cX5_init 0 = .ok (.aload_n 0, 1) := by decide +kernel
theorem dX5_init_1 : decode cX5_init 1 = .ok (.invokespecial 3, 3) := by decide +kernel
theorem dX5_init_4 : decode cX5_init 4 = .ok (.aload_n 0, 1) := by decide +kernel
theorem dX5_init_5 : decode cX5_init 5 = .ok (.iconst 0, 1) := by decide +kernel
theorem dX5_init_6 : decode cX5_init 6 = .ok (.putfield 9, 3) := by decide +kernel
theorem dX5_init_9 : decode cX5_init 9 = .ok (.aload_n 0, 1) := by decide +kernel
theorem dX5_init_10 : decode cX5_init 10 = .ok (.iload_n 1, 1) := by decide +kernel
theorem dX5_init_11 : decode cX5_init 11 = .ok (.putfield 15, 3) := by decide +kernel
theorem dX5_init_14 : decode cX5_init 14 = .ok (.aload_n 0, 1) := by decide +kernel
theorem dX5_init_15 : decode cX5_init 15 = .ok (.iload_n 2, 1) := by decide +kernel
theorem dX5_init_16 : decode cX5_init 16 = .ok (.putfield 18, 3) := by decide +kernel
theorem dX5_init_19 : decode cX5_init 19 = .ok (.aload_n 0, 1) := by decide +kernel
theorem dX5_init_20 : decode cX5_init 20 = .ok (.iload_n 3, 1) := by decide +kernel
theorem dX5_init_21 : decode cX5_init 21 = .ok (.putfield 21, 3) := by decide +kernel
theorem dX5_init_24 : decode cX5_init 24 = .ok (.aload_n 0, 1) := by decide +kernel
theorem dX5_init_25 : decode cX5_init 25 = .ok (.aload 4, 2) := by decide +kernel
theorem dX5_init_27 : decode cX5_init 27 = .ok (.putfield 24, 3) := by decide +kernel
theorem dX5_init_30 : decode cX5_init 30 = .ok (.return_, 1) := by decide +kernel
theorem dX5_isFree_0 : decode cX5_isFree 0 = .ok (.aload_n 0, 1) := by decide +kernel
theorem dX5_isFree_1 : decode cX5_isFree 1 = .ok (.getfield 9, 3) := by decide +kernel
theorem dX5_isFree_4 : decode cX5_isFree 4 = .ok (.ifCond .ne 14, 3) := by decide +kernel
theorem dX5_isFree_7 : decode cX5_isFree 7 = .ok (.aload_n 0, 1) := by decide +kernel
theorem dX5_isFree_8 : decode cX5_isFree 8 = .ok (.getfield 28, 3) := by decide +kernel
theorem dX5_isFree_11 : decode cX5_isFree 11 = .ok (.ifCond .ne 7, 3) := by decide +kernel
theorem dX5_isFree_14 : decode cX5_isFree 14 = .ok (.iconst 1, 1) := by decide +kernel
theorem dX5_isFree_15 : decode cX5_isFree 15 = .ok (.goto 4, 3) := by decide +kernel
theorem dX5_isFree_18 : decode cX5_isFree 18 = .ok (.iconst 0, 1) := by decide +kernel
theorem dX5_isFree_19 : decode cX5_isFree 19 = .ok (.ireturn, 1) := by decide +kernel
theorem dX5_worth_0 : decode cX5_worth 0 = .ok (.aload_n 0, 1) := by decide +kernel
theorem dX5_worth_1 : decode cX5_worth 1 = .ok (.getfield 32, 3) := by decide +kernel
theorem dX5_worth_4 : decode cX5_worth 4 = .ok (.iload_n 1, 1) := by decide +kernel
theorem dX5_worth_5 : decode cX5_worth 5 = .ok (.imul, 1) := by decide +kernel
theorem dX5_worth_6 : decode cX5_worth 6 = .ok (.aload_n 0, 1) := by decide +kernel
theorem dX5_worth_7 : decode cX5_worth 7 = .ok (.getfield 35, 3) := by decide +kernel
theorem dX5_worth_10 : decode cX5_worth 10 = .ok (.iadd, 1) := by decide +kernel
theorem dX5_worth_11 : decode cX5_worth 11 = .ok (.iconst 2, 1) := by decide +kernel
theorem dX5_worth_12 : decode cX5_worth 12 = .ok (.aload_n 0, 1) := by decide +kernel
theorem dX5_worth_13 : decode cX5_worth 13 = .ok (.getfield 15, 3) := by decide +kernel
theorem dX5_worth_16 : decode cX5_worth 16 = .ok (.iload_n 2, 1) := by decide +kernel
theorem dX5_worth_17 : decode cX5_worth 17 = .ok (.isub, 1) := by decide +kernel
theorem dX5_worth_18 : decode cX5_worth 18 = .ok (.invokestatic 38, 3) := by decide +kernel
theorem dX5_worth_21 : decode cX5_worth 21 = .ok (.imul, 1) := by decide +kernel
theorem dX5_worth_22 : decode cX5_worth 22 = .ok (.isub, 1) := by decide +kernel
theorem dX5_worth_23 : decode cX5_worth 23 = .ok (.ireturn, 1) := by decide +kernel
theorem dX5_hasNumber_0 : decode cX5_hasNumber 0 = .ok (.aload_n 0, 1) := by decide +kernel
theorem dX5_hasNumber_1 : decode cX5_hasNumber 1 = .ok (.getfield 24, 3) := by decide +kernel
theorem dX5_hasNumber_4 : decode cX5_hasNumber 4 = .ok (.ifnull 20, 3) := by decide +kernel
theorem dX5_hasNumber_7 : decode cX5_hasNumber 7 = .ok (.iload_n 1, 1) := by decide +kernel
theorem dX5_hasNumber_8 : decode cX5_hasNumber 8 = .ok (.ifCond .lt 16, 3) := by decide +kernel
theorem dX5_hasNumber_11 : decode cX5_hasNumber 11 = .ok (.iload_n 1, 1) := by decide +kernel
theorem dX5_hasNumber_12 : decode cX5_hasNumber 12 = .ok (.aload_n 0, 1) := by decide +kernel
theorem dX5_hasNumber_13 : decode cX5_hasNumber 13 = .ok (.getfield 24, 3) := by decide +kernel
theorem dX5_hasNumber_16 : decode cX5_hasNumber 16 = .ok (.arraylength, 1) := by decide +kernel
theorem dX5_hasNumber_17 : decode cX5_hasNumber 17 = .ok (.if_icmp .ge 7, 3) := by decide +kernel
theorem dX5_hasNumber_20 : decode cX5_hasNumber 20 = .ok (.iconst 1, 1) := by decide +kernel
theorem dX5_hasNumber_21 : decode cX5_hasNumber 21 = .ok (.goto 4, 3) := by decide +kernel
theorem dX5_hasNumber_24 : decode cX5_hasNumber 24 = .ok (.iconst 0, 1) := by decide +kernel
theorem dX5_hasNumber_25 : decode cX5_hasNumber 25 = .ok (.ireturn, 1) := by decide +kernel
theorem dX5_number_0 : decode cX5_number 0 = .ok (.aload_n 0, 1) := by decide +kernel
theorem dX5_number_1 : decode cX5_number 1 = .ok (.getfield 24, 3) := by decide +kernel
theorem dX5_number_4 : decode cX5_number 4 = .ok (.iload_n 1, 1) := by decide +kernel
theorem dX5_number_5 : decode cX5_number 5 = .ok (.invokestatic 44, 3) := by decide +kernel
theorem dX5_number_8 : decode cX5_number 8 = .ok (.lreturn, 1) := by decide +kernel
theorem dX5_sum_0 : decode cX5_sum 0 = .ok (.lconst 0, 1) := by decide +kernel
theorem dX5_sum_1 : decode cX5_sum 1 = .ok (.lstore_n 3, 1) := by decide +kernel
theorem dX5_sum_2 : decode cX5_sum 2 = .ok (.aload_n 0, 1) := by decide +kernel
theorem dX5_sum_3 : decode cX5_sum 3 = .ok (.getfield 24, 3) := by decide +kernel
theorem dX5_sum_6 : decode cX5_sum 6 = .ok (.ifnull 42, 3) := by decide +kernel
theorem dX5_sum_9 : decode cX5_sum 9 = .ok (.iload_n 1, 1) := by decide +kernel
theorem dX5_sum_10 : decode cX5_sum 10 = .ok (.iconst 0, 1) := by decide +kernel
theorem dX5_sum_11 : decode cX5_sum 11 = .ok (.invokestatic 48, 3) := by decide +kernel
theorem dX5_sum_14 : decode cX5_sum 14 = .ok (.istore 5, 2) := by decide +kernel
theorem dX5_sum_16 : decode cX5_sum 16 = .ok (.iload 5, 2) := by decide +kernel
theorem dX5_sum_18 : decode cX5_sum 18 = .ok (.iload_n 2, 1) := by decide +kernel
theorem dX5_sum_19 : decode cX5_sum 19 = .ok (.if_icmp .gt 29, 3) := by decide +kernel
theorem dX5_sum_22 : decode cX5_sum 22 = .ok (.iload 5, 2) := by decide +kernel
theorem dX5_sum_24 : decode cX5_sum 24 = .ok (.aload_n 0, 1) := by decide +kernel
theorem dX5_sum_25 : decode cX5_sum 25 = .ok (.getfield 24, 3) := by decide +kernel
theorem dX5_sum_28 : decode cX5_sum 28 = .ok (.arraylength, 1) := by decide +kernel
theorem dX5_sum_29 : decode cX5_sum 29 = .ok (.if_icmp .ge 19, 3) := by decide +kernel
theorem dX5_sum_32 : decode cX5_sum 32 = .ok (.lload_n 3, 1) := by decide +kernel
theorem dX5_sum_33 : decode cX5_sum 33 = .ok (.aload_n 0, 1) := by decide +kernel
theorem dX5_sum_34 : decode cX5_sum 34 = .ok (.getfield 24, 3) := by decide +kernel
theorem dX5_sum_37 : decode cX5_sum 37 = .ok (.iload 5, 2) := by decide +kernel
theorem dX5_sum_39 : decode cX5_sum 39 = .ok (.laload, 1) := by decide +kernel
theorem dX5_sum_40 : decode cX5_sum 40 = .ok (.ladd, 1) := by decide +kernel
theorem dX5_sum_41 : decode cX5_sum 41 = .ok (.lstore_n 3, 1) := by decide +kernel
theorem dX5_sum_42 : decode cX5_sum 42 = .ok (.iinc 5 1, 3) := by decide +kernel
theorem dX5_sum_45 : decode cX5_sum 45 = .ok (.goto (-29), 3) := by decide +kernel
theorem dX5_sum_48 : decode cX5_sum 48 = .ok (.lload_n 3, 1) := by decide +kernel
theorem dX5_sum_49 : decode cX5_sum 49 = .ok (.lreturn, 1) := by decide +kernel
theorem dX5_write_0 : decode cX5_write 0 = .ok (.aload_n 0, 1) := by decide +kernel
theorem dX5_write_1 : decode cX5_write 1 = .ok (.getfield 24, 3) := by decide +kernel
theorem dX5_write_4 : decode cX5_write 4 = .ok (.ifnull 51, 3) := by decide +kernel
theorem dX5_write_7 : decode cX5_write 7 = .ok (.iload_n 1, 1) := by decide +kernel
theorem dX5_write_8 : decode cX5_write 8 = .ok (.ifCond .lt 47, 3) := by decide +kernel
theorem dX5_write_11 : decode cX5_write 11 = .ok (.iload_n 1, 1) := by decide +kernel
theorem dX5_write_12 : decode cX5_write 12 = .ok (.aload_n 0, 1) := by decide +kernel
theorem dX5_write_13 : decode cX5_write 13 = .ok (.getfield 24, 3) := by decide +kernel
theorem dX5_write_16 : decode cX5_write 16 = .ok (.arraylength, 1) := by decide +kernel
theorem dX5_write_17 : decode cX5_write 17 = .ok (.if_icmp .ge 38, 3) := by decide +kernel
theorem dX5_write_20 : decode cX5_write 20 = .ok (.aload_n 0, 1) := by decide +kernel
theorem dX5_write_21 : decode cX5_write 21 = .ok (.getfield 24, 3) := by decide +kernel
theorem dX5_write_24 : decode cX5_write 24 = .ok (.iload_n 1, 1) := by decide +kernel
theorem dX5_write_25 : decode cX5_write 25 = .ok (.aload_n 0, 1) := by decide +kernel
theorem dX5_write_26 : decode cX5_write 26 = .ok (.getfield 18, 3) := by decide +kernel
theorem dX5_write_29 : decode cX5_write 29 = .ok (.ifCond .ne 9, 3) := by decide +kernel
theorem dX5_write_32 : decode cX5_write 32 = .ok (.iload_n 2, 1) := by decide +kernel
theorem dX5_write_33 : decode cX5_write 33 = .ok (.i2b, 1) := by decide +kernel
theorem dX5_write_34 : decode cX5_write 34 = .ok (.i2l, 1) := by decide +kernel
theorem dX5_write_35 : decode cX5_write 35 = .ok (.goto 19, 3) := by decide +kernel
theorem dX5_write_38 : decode cX5_write 38 = .ok (.aload_n 0, 1) := by decide +kernel
theorem dX5_write_39 : decode cX5_write 39 = .ok (.getfield 18, 3) := by decide +kernel
theorem dX5_write_42 : decode cX5_write 42 = .ok (.iconst 1, 1) := by decide +kernel
theorem dX5_write_43 : decode cX5_write 43 = .ok (.if_icmp .ne 9, 3) := by decide +kernel
theorem dX5_write_46 : decode cX5_write 46 = .ok (.iload_n 2, 1) := by decide +kernel
theorem dX5_write_47 : decode cX5_write 47 = .ok (.i2s, 1) := by decide +kernel
theorem dX5_write_48 : decode cX5_write 48 = .ok (.i2l, 1) := by decide +kernel
theorem dX5_write_49 : decode cX5_write 49 = .ok (.goto 5, 3) := by decide +kernel
theorem dX5_write_52 : decode cX5_write 52 = .ok (.iload_n 2, 1) := by decide +kernel
theorem dX5_write_53 : decode cX5_write 53 = .ok (.i2l, 1) := by decide +kernel
theorem dX5_write_54 : decode cX5_write 54 = .ok (.lastore, 1) := by decide +kernel
theorem dX5_write_55 : decode cX5_write 55 = .ok (.return_, 1) := by decide +kernel
theorem dJ6_bitCount_0f7a4_0 : decode cJ6_bitCount_0f7a4 0 = .ok (.iload_n 0, 1) := by decide +kernel
theorem dJ6_bitCount_0f7a4_1 : decode cJ6_bitCount_0f7a4 1 = .ok (.iload_n 0, 1) := by decide +kernel
theorem dJ6_bitCount_0f7a4_2 : decode cJ6_bitCount_0f7a4 2 = .ok (.iconst 1, 1) := by decide +kernel
theorem dJ6_bitCount_0f7a4_3 : decode cJ6_bitCount_0f7a4 3 = .ok (.iushr, 1) := by decide +kernel
theorem dJ6_bitCount_0f7a4_4 : decode cJ6_bitCount_0f7a4 4 = .ok (.ldc_w 265, 3) := by decide +kernel
theorem dJ6_bitCount_0f7a4_7 : decode cJ6_bitCount_0f7a4 7 = .ok (.iand, 1) := by decide +kernel
theorem dJ6_bitCount_0f7a4_8 : decode cJ6_bitCount_0f7a4 8 = .ok (.isub, 1) := by decide +kernel
theorem dJ6_bitCount_0f7a4_9 : decode cJ6_bitCount_0f7a4 9 = .ok (.istore_n 0, 1) := by decide +kernel
theorem dJ6_bitCount_0f7a4_10 : decode cJ6_bitCount_0f7a4 10 = .ok (.iload_n 0, 1) := by decide +kernel
theorem dJ6_bitCount_0f7a4_11 : decode cJ6_bitCount_0f7a4 11 = .ok (.ldc_w 266, 3) := by decide +kernel
theorem dJ6_bitCount_0f7a4_14 : decode cJ6_bitCount_0f7a4 14 = .ok (.iand, 1) := by decide +kernel
theorem dJ6_bitCount_0f7a4_15 : decode cJ6_bitCount_0f7a4 15 = .ok (.iload_n 0, 1) := by decide +kernel
theorem dJ6_bitCount_0f7a4_16 : decode cJ6_bitCount_0f7a4 16 = .ok (.iconst 2, 1) := by decide +kernel
theorem dJ6_bitCount_0f7a4_17 : decode cJ6_bitCount_0f7a4 17 = .ok (.iushr, 1) := by decide +kernel
theorem dJ6_bitCount_0f7a4_18 : decode cJ6_bitCount_0f7a4 18 = .ok (.ldc_w 266, 3) := by decide +kernel
theorem dJ6_bitCount_0f7a4_21 : decode cJ6_bitCount_0f7a4 21 = .ok (.iand, 1) := by decide +kernel
theorem dJ6_bitCount_0f7a4_22 : decode cJ6_bitCount_0f7a4 22 = .ok (.iadd, 1) := by decide +kernel
theorem dJ6_bitCount_0f7a4_23 : decode cJ6_bitCount_0f7a4 23 = .ok (.istore_n 0, 1) := by decide +kernel
theorem dJ6_bitCount_0f7a4_24 : decode cJ6_bitCount_0f7a4 24 = .ok (.iload_n 0, 1) := by decide +kernel
theorem dJ6_bitCount_0f7a4_25 : decode cJ6_bitCount_0f7a4 25 = .ok (.iload_n 0, 1) := by decide +kernel
theorem dJ6_bitCount_0f7a4_26 : decode cJ6_bitCount_0f7a4 26 = .ok (.iconst 4, 1) := by decide +kernel
theorem dJ6_bitCount_0f7a4_27 : decode cJ6_bitCount_0f7a4 27 = .ok (.iushr, 1) := by decide +kernel
theorem dJ6_bitCount_0f7a4_28 : decode cJ6_bitCount_0f7a4 28 = .ok (.iadd, 1) := by decide +kernel
theorem dJ6_bitCount_0f7a4_29 : decode cJ6_bitCount_0f7a4 29 = .ok (.ldc_w 267, 3) := by decide +kernel
theorem dJ6_bitCount_0f7a4_32 : decode cJ6_bitCount_0f7a4 32 = .ok (.iand, 1) := by decide +kernel
theorem dJ6_bitCount_0f7a4_33 : decode cJ6_bitCount_0f7a4 33 = .ok (.istore_n 0, 1) := by decide +kernel
theorem dJ6_bitCount_0f7a4_34 : decode cJ6_bitCount_0f7a4 34 = .ok (.iload_n 0, 1) := by decide +kernel
theorem dJ6_bitCount_0f7a4_35 : decode cJ6_bitCount_0f7a4 35 = .ok (.iload_n 0, 1) := by decide +kernel
theorem dJ6_bitCount_0f7a4_36 : decode cJ6_bitCount_0f7a4 36 = .ok (.bipush 8, 2) := by decide +kernel
theorem dJ6_bitCount_0f7a4_38 : decode cJ6_bitCount_0f7a4 38 = .ok (.iushr, 1) := by decide +kernel
theorem dJ6_bitCount_0f7a4_39 : decode cJ6_bitCount_0f7a4 39 = .ok (.iadd, 1) := by decide +kernel
theorem dJ6_bitCount_0f7a4_40 : decode cJ6_bitCount_0f7a4 40 = .ok (.istore_n 0, 1) := by decide +kernel
theorem dJ6_bitCount_0f7a4_41 : decode cJ6_bitCount_0f7a4 41 = .ok (.iload_n 0, 1) := by decide +kernel
theorem dJ6_bitCount_0f7a4_42 : decode cJ6_bitCount_0f7a4 42 = .ok (.iload_n 0, 1) := by decide +kernel
theorem dJ6_bitCount_0f7a4_43 : decode cJ6_bitCount_0f7a4 43 = .ok (.bipush 16, 2) := by decide +kernel
theorem dJ6_bitCount_0f7a4_45 : decode cJ6_bitCount_0f7a4 45 = .ok (.iushr, 1) := by decide +kernel
theorem dJ6_bitCount_0f7a4_46 : decode cJ6_bitCount_0f7a4 46 = .ok (.iadd, 1) := by decide +kernel
theorem dJ6_bitCount_0f7a4_47 : decode cJ6_bitCount_0f7a4 47 = .ok (.istore_n 0, 1) := by decide +kernel
theorem dJ6_bitCount_0f7a4_48 : decode cJ6_bitCount_0f7a4 48 = .ok (.iload_n 0, 1) := by decide +kernel
theorem dJ6_bitCount_0f7a4_49 : decode cJ6_bitCount_0f7a4 49 = .ok (.bipush 63, 2) := by decide +kernel
theorem dJ6_bitCount_0f7a4_51 : decode cJ6_bitCount_0f7a4 51 = .ok (.iand, 1) := by decide +kernel
theorem dJ6_bitCount_0f7a4_52 : decode cJ6_bitCount_0f7a4 52 = .ok (.ireturn, 1) := by decide +kernel
theorem dJ9_abs_0f7a4_0 : decode cJ9_abs_0f7a4 0 = .ok (.iload_n 0, 1) := by decide +kernel
theorem dJ9_abs_0f7a4_1 : decode cJ9_abs_0f7a4 1 = .ok (.ifCond .ge 8, 3) := by decide +kernel
theorem dJ9_abs_0f7a4_4 : decode cJ9_abs_0f7a4 4 = .ok (.iload_n 0, 1) := by decide +kernel
theorem dJ9_abs_0f7a4_5 : decode cJ9_abs_0f7a4 5 = .ok (.ineg, 1) := by decide +kernel
theorem dJ9_abs_0f7a4_6 : decode cJ9_abs_0f7a4 6 = .ok (.goto 4, 3) := by decide +kernel
theorem dJ9_abs_0f7a4_9 : decode cJ9_abs_0f7a4 9 = .ok (.iload_n 0, 1) := by decide +kernel
theorem dJ9_abs_0f7a4_10 : decode cJ9_abs_0f7a4 10 = .ok (.ireturn, 1) := by decide +kernel
theorem dJ9_max_7cf53_0 : decode cJ9_max_7cf53 0 = .ok (.iload_n 0, 1) := by decide +kernel
theorem dJ9_max_7cf53_1 : decode cJ9_max_7cf53 1 = .ok (.iload_n 1, 1) := by decide +kernel
theorem dJ9_max_7cf53_2 : decode cJ9_max_7cf53 2 = .ok (.if_icmp .lt 7, 3) := by decide +kernel
theorem dJ9_max_7cf53_5 : decode cJ9_max_7cf53 5 = .ok (.iload_n 0, 1) := by decide +kernel
theorem dJ9_max_7cf53_6 : decode cJ9_max_7cf53 6 = .ok (.goto 4, 3) := by decide +kernel
theorem dJ9_max_7cf53_9 : decode cJ9_max_7cf53 9 = .ok (.iload_n 1, 1) := by decide +kernel
theorem dJ9_max_7cf53_10 : decode cJ9_max_7cf53 10 = .ok (.ireturn, 1) := by decide +kernel
theorem dJ9_min_7cf53_0 : decode cJ9_min_7cf53 0 = .ok (.iload_n 0, 1) := by decide +kernel
theorem dJ9_min_7cf53_1 : decode cJ9_min_7cf53 1 = .ok (.iload_n 1, 1) := by decide +kernel
theorem dJ9_min_7cf53_2 : decode cJ9_min_7cf53 2 = .ok (.if_icmp .gt 7, 3) := by decide +kernel
theorem dJ9_min_7cf53_5 : decode cJ9_min_7cf53 5 = .ok (.iload_n 0, 1) := by decide +kernel
theorem dJ9_min_7cf53_6 : decode cJ9_min_7cf53 6 = .ok (.goto 4, 3) := by decide +kernel
theorem dJ9_min_7cf53_9 : decode cJ9_min_7cf53 9 = .ok (.iload_n 1, 1) := by decide +kernel
theorem dJ9_min_7cf53_10 : decode cJ9_min_7cf53 10 = .ok (.ireturn, 1) := by decide +kernel
theorem dJ9_min_f86c9_0 : decode cJ9_min_f86c9 0 = .ok (.lload_n 0, 1) := by decide +kernel
theorem dJ9_min_f86c9_1 : decode cJ9_min_f86c9 1 = .ok (.lload_n 2, 1) := by decide +kernel
theorem dJ9_min_f86c9_2 : decode cJ9_min_f86c9 2 = .ok (.lcmp, 1) := by decide +kernel
theorem dJ9_min_f86c9_3 : decode cJ9_min_f86c9 3 = .ok (.ifCond .gt 7, 3) := by decide +kernel
theorem dJ9_min_f86c9_6 : decode cJ9_min_f86c9 6 = .ok (.lload_n 0, 1) := by decide +kernel
theorem dJ9_min_f86c9_7 : decode cJ9_min_f86c9 7 = .ok (.goto 4, 3) := by decide +kernel
theorem dJ9_min_f86c9_10 : decode cJ9_min_f86c9 10 = .ok (.lload_n 2, 1) := by decide +kernel
theorem dJ9_min_f86c9_11 : decode cJ9_min_f86c9 11 = .ok (.lreturn, 1) := by decide +kernel
