theorem dX6_init_0 : decode cX6_init 0 = .ok (.aload_n 0, 1) := by decide +kernel
theorem dX6_init_1 : decode cX6_init 1 = .ok (.invokespecial 1, 3) := by decide +kernel
theorem dX6_init_4 : decode cX6_init 4 = .ok (.aload_n 0, 1) := by decide +kernel
theorem dX6_init_5 : decode cX6_init 5 = .ok (.bipush 12, 2) := by decide +kernel
theorem dX6_init_7 : decode cX6_init 7 = .ok (.anewarray 9, 3) := by decide +kernel
theorem dX6_init_10 : decode cX6_init 10 = .ok (.putfield 11, 3) := by decide +kernel
theorem dX6_init_13 : decode cX6_init 13 = .ok (.aload_n 0, 1) := by decide +kernel
theorem dX6_init_14 : decode cX6_init 14 = .ok (.iconst 3, 1) := by decide +kernel
theorem dX6_init_15 : decode cX6_init 15 = .ok (.anewarray 15, 3) := by decide +kernel
theorem dX6_init_18 : decode cX6_init 18 = .ok (.putfield 17, 3) := by decide +kernel
theorem dX6_init_21 : decode cX6_init 21 = .ok (.aload_n 0, 1) := by decide +kernel
theorem dX6_init_22 : decode cX6_init 22 = .ok (.sipush 150, 3) := by decide +kernel
theorem dX6_init_25 : decode cX6_init 25 = .ok (.anewarray 21, 3) := by decide +kernel
theorem dX6_init_28 : decode cX6_init 28 = .ok (.putfield 23, 3) := by decide +kernel
theorem dX6_init_31 : decode cX6_init 31 = .ok (.aload_n 0, 1) := by decide +kernel
theorem dX6_init_32 : decode cX6_init 32 = .ok (.new 27, 3) := by decide +kernel
theorem dX6_init_35 : decode cX6_init 35 = .ok (.dup, 1) := by decide +kernel
theorem dX6_init_36 : decode cX6_init 36 = .ok (.iconst (-1), 1) := by decide +kernel
theorem dX6_init_37 : decode cX6_init 37 = .ok (.iconst 1, 1) := by decide +kernel
theorem dX6_init_38 : decode cX6_init 38 = .ok (.invokespecial 29, 3) := by decide +kernel
theorem dX6_init_41 : decode cX6_init 41 = .ok (.putfield 32, 3) := by decide +kernel
theorem dX6_init_44 : decode cX6_init 44 = .ok (.aload_n 0, 1) := by decide +kernel
theorem dX6_init_45 : decode cX6_init 45 = .ok (.new 27, 3) := by decide +kernel
theorem dX6_init_48 : decode cX6_init 48 = .ok (.dup, 1) := by decide +kernel
theorem dX6_init_49 : decode cX6_init 49 = .ok (.bipush 40, 2) := by decide +kernel
theorem dX6_init_51 : decode cX6_init 51 = .ok (.iconst 0, 1) := by decide +kernel
theorem dX6_init_52 : decode cX6_init 52 = .ok (.invokespecial 29, 3) := by decide +kernel
theorem dX6_init_55 : decode cX6_init 55 = .ok (.putfield 36, 3) := by decide +kernel
theorem dX6_init_58 : decode cX6_init 58 = .ok (.aload_n 0, 1) := by decide +kernel
theorem dX6_init_59 : decode cX6_init 59 = .ok (.new 39, 3) := by decide +kernel
theorem dX6_init_62 : decode cX6_init 62 = .ok (.dup, 1) := by decide +kernel
theorem dX6_init_63 : decode cX6_init 63 = .ok (.invokespecial 41, 3) := by decide +kernel
theorem dX6_init_66 : decode cX6_init 66 = .ok (.putfield 42, 3) := by decide +kernel
theorem dX6_init_69 : decode cX6_init 69 = .ok (.aload_n 0, 1) := by decide +kernel
theorem dX6_init_70 : decode cX6_init 70 = .ok (.new 46, 3) := by decide +kernel
theorem dX6_init_73 : decode cX6_init 73 = .ok (.dup, 1) := by decide +kernel
theorem dX6_init_74 : decode cX6_init 74 = .ok (.invokespecial 48, 3) := by decide +kernel
theorem dX6_init_77 : decode cX6_init 77 = .ok (.putfield 49, 3) := by decide +kernel
theorem dX6_init_80 : decode cX6_init 80 = .ok (.aload_n 0, 1) := by decide +kernel
theorem dX6_init_81 : decode cX6_init 81 = .ok (.iconst 0, 1) := by decide +kernel
theorem dX6_init_82 : decode cX6_init 82 = .ok (.putfield 53, 3) := by decide +kernel
theorem dX6_init_85 : decode cX6_init 85 = .ok (.aload_n 0, 1) := by decide +kernel
theorem dX6_init_86 : decode cX6_init 86 = .ok (.sipush 1000, 3) := by decide +kernel
theorem dX6_init_89 : decode cX6_init 89 = .ok (.putfield 57, 3) := by decide +kernel
theorem dX6_init_92 : decode cX6_init 92 = .ok (.aload_n 0, 1) := by decide +kernel
theorem dX6_init_93 : decode cX6_init 93 = .ok (.iconst (-1), 1) := by decide +kernel
theorem dX6_init_94 : decode cX6_init 94 = .ok (.putfield 60, 3) := by decide +kernel
theorem dX6_init_97 : decode cX6_init 97 = .ok (.return_, 1) := by decide +kernel
theorem dX6_tape_0 : decode cX6_tape 0 = .ok (.aload_n 0, 1) := by decide +kernel
theorem dX6_tape_1 : decode cX6_tape 1 = .ok (.getfield 63, 3) := by decide +kernel
theorem dX6_tape_4 : decode cX6_tape 4 = .ok (.istore 4, 2) := by decide +kernel
theorem dX6_tape_6 : decode cX6_tape 6 = .ok (.iload_n 1, 1) := by decide +kernel
theorem dX6_tape_7 : decode cX6_tape 7 = .ok (.bipush 40, 2) := by decide +kernel
theorem dX6_tape_9 : decode cX6_tape 9 = .ok (.invokestatic 66, 3) := by decide +kernel
theorem dX6_tape_12 : decode cX6_tape 12 = .ok (.ifCond .eq 43, 3) := by decide +kernel
theorem dX6_tape_15 : decode cX6_tape 15 = .ok (.iload_n 2, 1) := by decide +kernel
theorem dX6_tape_16 : decode cX6_tape 16 = .ok (.ifCond .lt 39, 3) := by decide +kernel
theorem dX6_tape_19 : decode cX6_tape 19 = .ok (.iload_n 2, 1) := by decide +kernel
theorem dX6_tape_20 : decode cX6_tape 20 = .ok (.iconst 4, 1) := by decide +kernel
theorem dX6_tape_21 : decode cX6_tape 21 = .ok (.if_icmp .gt 34, 3) := by decide +kernel
theorem dX6_tape_24 : decode cX6_tape 24 = .ok (.iload_n 3, 1) := by decide +kernel
theorem dX6_tape_25 : decode cX6_tape 25 = .ok (.ifCond .eq 30, 3) := by decide +kernel
theorem dX6_tape_28 : decode cX6_tape 28 = .ok (.iload_n 3, 1) := by decide +kernel
theorem dX6_tape_29 : decode cX6_tape 29 = .ok (.bipush 60, 2) := by decide +kernel
theorem dX6_tape_31 : decode cX6_tape 31 = .ok (.if_icmp .gt 24, 3) := by decide +kernel
theorem dX6_tape_34 : decode cX6_tape 34 = .ok (.aload_n 0, 1) := by decide +kernel
theorem dX6_tape_35 : decode cX6_tape 35 = .ok (.iload_n 1, 1) := by decide +kernel
theorem dX6_tape_36 : decode cX6_tape 36 = .ok (.invokevirtual 70, 3) := by decide +kernel
theorem dX6_tape_39 : decode cX6_tape 39 = .ok (.ifCond .ne 16, 3) := by decide +kernel
theorem dX6_tape_42 : decode cX6_tape 42 = .ok (.iload 4, 2) := by decide +kernel
theorem dX6_tape_44 : decode cX6_tape 44 = .ok (.aload_n 0, 1) := by decide +kernel
theorem dX6_tape_45 : decode cX6_tape 45 = .ok (.getfield 11, 3) := by decide +kernel
theorem dX6_tape_48 : decode cX6_tape 48 = .ok (.arraylength, 1) := by decide +kernel
theorem dX6_tape_49 : decode cX6_tape 49 = .ok (.invokestatic 66, 3) := by decide +kernel
theorem dX6_tape_52 : decode cX6_tape 52 = .ok (.ifCond .ne 5, 3) := by decide +kernel
theorem dX6_tape_55 : decode cX6_tape 55 = .ok (.iconst (-1), 1) := by decide +kernel
theorem dX6_tape_56 : decode cX6_tape 56 = .ok (.ireturn, 1) := by decide +kernel
theorem dX6_tape_57 : decode cX6_tape 57 = .ok (.iload_n 3, 1) := by decide +kernel
theorem dX6_tape_58 : decode cX6_tape 58 = .ok (.ifCond .ge 6, 3) := by decide +kernel
theorem dX6_tape_61 : decode cX6_tape 61 = .ok (.bipush (-2), 2) := by decide +kernel
theorem dX6_tape_63 : decode cX6_tape 63 = .ok (.ireturn, 1) := by decide +kernel
theorem dX6_tape_64 : decode cX6_tape 64 = .ok (.aload_n 0, 1) := by decide +kernel
theorem dX6_tape_65 : decode cX6_tape 65 = .ok (.getfield 11, 3) := by decide +kernel
theorem dX6_tape_68 : decode cX6_tape 68 = .ok (.iload 4, 2) := by decide +kernel
theorem dX6_tape_70 : decode cX6_tape 70 = .ok (.new 9, 3) := by decide +kernel
theorem dX6_tape_73 : decode cX6_tape 73 = .ok (.dup, 1) := by decide +kernel
theorem dX6_tape_74 : decode cX6_tape 74 = .ok (.iload_n 1, 1) := by decide +kernel
theorem dX6_tape_75 : decode cX6_tape 75 = .ok (.iload_n 2, 1) := by decide +kernel
theorem dX6_tape_76 : decode cX6_tape 76 = .ok (.iload_n 3, 1) := by decide +kernel
theorem dX6_tape_77 : decode cX6_tape 77 = .ok (.iload_n 2, 1) := by decide +kernel
theorem dX6_tape_78 : decode cX6_tape 78 = .ok (.iconst 4, 1) := by decide +kernel
theorem dX6_tape_79 : decode cX6_tape 79 = .ok (.if_icmp .ne 7, 3) := by decide +kernel
theorem dX6_tape_82 : decode cX6_tape 82 = .ok (.aconst_null, 1) := by decide +kernel
theorem dX6_tape_83 : decode cX6_tape 83 = .ok (.goto 6, 3) := by decide +kernel
theorem dX6_tape_86 : decode cX6_tape 86 = .ok (.iload_n 3, 1) := by decide +kernel
theorem dX6_tape_87 : decode cX6_tape 87 = .ok (.newarray .long, 2) := by decide +kernel
theorem dX6_tape_89 : decode cX6_tape 89 = .ok (.invokespecial 74, 3) := by decide +kernel
theorem dX6_tape_92 : decode cX6_tape 92 = .ok (.aastore, 1) := by decide +kernel
theorem dX6_tape_93 : decode cX6_tape 93 = .ok (.aload_n 0, 1) := by decide +kernel
theorem dX6_tape_94 : decode cX6_tape 94 = .ok (.dup, 1) := by decide +kernel
theorem dX6_tape_95 : decode cX6_tape 95 = .ok (.getfield 63, 3) := by decide +kernel
theorem dX6_tape_98 : decode cX6_tape 98 = .ok (.iconst 1, 1) := by decide +kernel
theorem dX6_tape_99 : decode cX6_tape 99 = .ok (.iadd, 1) := by decide +kernel
theorem dX6_tape_100 : decode cX6_tape 100 = .ok (.putfield 63, 3) := by decide +kernel
theorem dX6_tape_103 : decode cX6_tape 103 = .ok (.iload 4, 2) := by decide +kernel
theorem dX6_tape_105 : decode cX6_tape 105 = .ok (.ireturn, 1) := by decide +kernel
theorem dX6_reader_0 : decode cX6_reader 0 = .ok (.aload_n 0, 1) := by decide +kernel
theorem dX6_reader_1 : decode cX6_reader 1 = .ok (.getfield 77, 3) := by decide +kernel
theorem dX6_reader_4 : decode cX6_reader 4 = .ok (.istore_n 2, 1) := by decide +kernel
theorem dX6_reader_5 : decode cX6_reader 5 = .ok (.iload_n 1, 1) := by decide +kernel
theorem dX6_reader_6 : decode cX6_reader 6 = .ok (.bipush 40, 2) := by decide +kernel
theorem dX6_reader_8 : decode cX6_reader 8 = .ok (.invokestatic 66, 3) := by decide +kernel
theorem dX6_reader_11 : decode cX6_reader 11 = .ok (.ifCond .eq 23, 3) := by decide +kernel
theorem dX6_reader_14 : decode cX6_reader 14 = .ok (.aload_n 0, 1) := by decide +kernel
theorem dX6_reader_15 : decode cX6_reader 15 = .ok (.iload_n 1, 1) := by decide +kernel
theorem dX6_reader_16 : decode cX6_reader 16 = .ok (.invokevirtual 80, 3) := by decide +kernel
theorem dX6_reader_19 : decode cX6_reader 19 = .ok (.ifCond .ne 15, 3) := by decide +kernel
theorem dX6_reader_22 : decode cX6_reader 22 = .ok (.iload_n 2, 1) := by decide +kernel
theorem dX6_reader_23 : decode cX6_reader 23 = .ok (.aload_n 0, 1) := by decide +kernel
theorem dX6_reader_24 : decode cX6_reader 24 = .ok (.getfield 17, 3) := by decide +kernel
theorem dX6_reader_27 : decode cX6_reader 27 = .ok (.arraylength, 1) := by decide +kernel
theorem dX6_reader_28 : decode cX6_reader 28 = .ok (.invokestatic 66, 3) := by decide +kernel
theorem dX6_reader_31 : decode cX6_reader 31 = .ok (.ifCond .ne 5, 3) := by decide +kernel
theorem dX6_reader_34 : decode cX6_reader 34 = .ok (.iconst (-1), 1) := by decide +kernel
theorem dX6_reader_35 : decode cX6_reader 35 = .ok (.ireturn, 1) := by decide +kernel
theorem dX6_reader_36 : decode cX6_reader 36 = .ok (.aload_n 0, 1) := by decide +kernel
theorem dX6_reader_37 : decode cX6_reader 37 = .ok (.getfield 17, 3) := by decide +kernel
theorem dX6_reader_40 : decode cX6_reader 40 = .ok (.iload_n 2, 1) := by decide +kernel
theorem dX6_reader_41 : decode cX6_reader 41 = .ok (.new 15, 3) := by decide +kernel
theorem dX6_reader_44 : decode cX6_reader 44 = .ok (.dup, 1) := by decide +kernel
theorem dX6_reader_45 : decode cX6_reader 45 = .ok (.iload_n 1, 1) := by decide +kernel
theorem dX6_reader_46 : decode cX6_reader 46 = .ok (.invokespecial 83, 3) := by decide +kernel
theorem dX6_reader_49 : decode cX6_reader 49 = .ok (.aastore, 1) := by decide +kernel
theorem dX6_reader_50 : decode cX6_reader 50 = .ok (.aload_n 0, 1) := by decide +kernel
theorem dX6_reader_51 : decode cX6_reader 51 = .ok (.dup, 1) := by decide +kernel
theorem dX6_reader_52 : decode cX6_reader 52 = .ok (.getfield 77, 3) := by decide +kernel
theorem dX6_reader_55 : decode cX6_reader 55 = .ok (.iconst 1, 1) := by decide +kernel
theorem dX6_reader_56 : decode cX6_reader 56 = .ok (.iadd, 1) := by decide +kernel
theorem dX6_reader_57 : decode cX6_reader 57 = .ok (.putfield 77, 3) := by decide +kernel
theorem dX6_reader_60 : decode cX6_reader 60 = .ok (.iload_n 2, 1) := by decide +kernel
theorem dX6_reader_61 : decode cX6_reader 61 = .ok (.ireturn, 1) := by decide +kernel
theorem dX6_settings_0 : decode cX6_settings 0 = .ok (.iload_n 1, 1) := by decide +kernel
theorem dX6_settings_1 : decode cX6_settings 1 = .ok (.sipush (-1000), 3) := by decide +kernel
theorem dX6_settings_4 : decode cX6_settings 4 = .ok (.if_icmp .lt 21, 3) := by decide +kernel
theorem dX6_settings_7 : decode cX6_settings 7 = .ok (.iload_n 1, 1) := by decide +kernel
theorem dX6_settings_8 : decode cX6_settings 8 = .ok (.sipush 10000, 3) := by decide +kernel
theorem dX6_settings_11 : decode cX6_settings 11 = .ok (.if_icmp .gt 14, 3) := by decide +kernel
theorem dX6_settings_14 : decode cX6_settings 14 = .ok (.iload_n 2, 1) := by decide +kernel
theorem dX6_settings_15 : decode cX6_settings 15 = .ok (.ifCond .lt 10, 3) := by decide +kernel
theorem dX6_settings_18 : decode cX6_settings 18 = .ok (.iload_n 2, 1) := by decide +kernel
theorem dX6_settings_19 : decode cX6_settings 19 = .ok (.sipush 10000, 3) := by decide +kernel
theorem dX6_settings_22 : decode cX6_settings 22 = .ok (.if_icmp .le 5, 3) := by decide +kernel
theorem dX6_settings_25 : decode cX6_settings 25 = .ok (.iconst 0, 1) := by decide +kernel
theorem dX6_settings_26 : decode cX6_settings 26 = .ok (.ireturn, 1) := by decide +kernel
theorem dX6_settings_27 : decode cX6_settings 27 = .ok (.aload_n 0, 1) := by decide +kernel
theorem dX6_settings_28 : decode cX6_settings 28 = .ok (.iload_n 1, 1) := by decide +kernel
theorem dX6_settings_29 : decode cX6_settings 29 = .ok (.putfield 53, 3) := by decide +kernel
theorem dX6_settings_32 : decode cX6_settings 32 = .ok (.aload_n 0, 1) := by decide +kernel
theorem dX6_settings_33 : decode cX6_settings 33 = .ok (.iload_n 2, 1) := by decide +kernel
theorem dX6_settings_34 : decode cX6_settings 34 = .ok (.putfield 57, 3) := by decide +kernel
theorem dX6_settings_37 : decode cX6_settings 37 = .ok (.iconst 1, 1) := by decide +kernel
theorem dX6_settings_38 : decode cX6_settings 38 = .ok (.ireturn, 1) := by decide +kernel
theorem dX6_ask_0 : decode cX6_ask 0 = .ok (.aload_n 0, 1) := by decide +kernel
theorem dX6_ask_1 : decode cX6_ask 1 = .ok (.iload_n 2, 1) := by decide +kernel
theorem dX6_ask_2 : decode cX6_ask 2 = .ok (.invokevirtual 86, 3) := by decide +kernel
theorem dX6_ask_5 : decode cX6_ask 5 = .ok (.astore 5, 2) := by decide +kernel
theorem dX6_ask_7 : decode cX6_ask 7 = .ok (.aload_n 0, 1) := by decide +kernel
theorem dX6_ask_8 : decode cX6_ask 8 = .ok (.getfield 90, 3) := by decide +kernel
theorem dX6_ask_11 : decode cX6_ask 11 = .ok (.istore 6, 2) := by decide +kernel
theorem dX6_ask_13 : decode cX6_ask 13 = .ok (.aload 5, 2) := by decide +kernel
theorem dX6_ask_15 : decode cX6_ask 15 = .ok (.ifnull 31, 3) := by decide +kernel
theorem dX6_ask_18 : decode cX6_ask 18 = .ok (.iload_n 1, 1) := by decide +kernel
theorem dX6_ask_19 : decode cX6_ask 19 = .ok (.aload 5, 2) := by decide +kernel
theorem dX6_ask_21 : decode cX6_ask 21 = .ok (.getfield 93, 3) := by decide +kernel
theorem dX6_ask_24 : decode cX6_ask 24 = .ok (.iload_n 3, 1) := by decide +kernel
theorem dX6_ask_25 : decode cX6_ask 25 = .ok (.iload 4, 2) := by decide +kernel
theorem dX6_ask_27 : decode cX6_ask 27 = .ok (.invokestatic 96, 3) := by decide +kernel
theorem dX6_ask_30 : decode cX6_ask 30 = .ok (.ifCond .eq 16, 3) := by decide +kernel
theorem dX6_ask_33 : decode cX6_ask 33 = .ok (.iload 6, 2) := by decide +kernel
theorem dX6_ask_35 : decode cX6_ask 35 = .ok (.aload_n 0, 1) := by decide +kernel
theorem dX6_ask_36 : decode cX6_ask 36 = .ok (.getfield 23, 3) := by decide +kernel
theorem dX6_ask_39 : decode cX6_ask 39 = .ok (.arraylength, 1) := by decide +kernel
theorem dX6_ask_40 : decode cX6_ask 40 = .ok (.invokestatic 66, 3) := by decide +kernel
theorem dX6_ask_43 : decode cX6_ask 43 = .ok (.ifCond .ne 5, 3) := by decide +kernel
theorem dX6_ask_46 : decode cX6_ask 46 = .ok (.iconst (-1), 1) := by decide +kernel
theorem dX6_ask_47 : decode cX6_ask 47 = .ok (.ireturn, 1) := by decide +kernel
theorem dX6_ask_48 : decode cX6_ask 48 = .ok (.new 21, 3) := by decide +kernel
theorem dX6_ask_51 : decode cX6_ask 51 = .ok (.dup, 1) := by decide +kernel
theorem dX6_ask_52 : decode cX6_ask 52 = .ok (.iload_n 1, 1) := by decide +kernel
theorem dX6_ask_53 : decode cX6_ask 53 = .ok (.iload_n 2, 1) := by decide +kernel
theorem dX6_ask_54 : decode cX6_ask 54 = .ok (.iload_n 3, 1) := by decide +kernel
theorem dX6_ask_55 : decode cX6_ask 55 = .ok (.iload 4, 2) := by decide +kernel
theorem dX6_ask_57 : decode cX6_ask 57 = .ok (.aload_n 0, 1) := by decide +kernel
theorem dX6_ask_58 : decode cX6_ask 58 = .ok (.getfield 100, 3) := by decide +kernel
theorem dX6_ask_61 : decode cX6_ask 61 = .ok (.invokespecial 103, 3) := by decide +kernel
theorem dX6_ask_64 : decode cX6_ask 64 = .ok (.astore 7, 2) := by decide +kernel
theorem dX6_ask_66 : decode cX6_ask 66 = .ok (.aload 7, 2) := by decide +kernel
theorem dX6_ask_68 : decode cX6_ask 68 = .ok (.aload 5, 2) := by decide +kernel
theorem dX6_ask_70 : decode cX6_ask 70 = .ok (.getfield 93, 3) := by decide +kernel
theorem dX6_ask_73 : decode cX6_ask 73 = .ok (.invokevirtual 106, 3) := by decide +kernel
theorem dX6_ask_76 : decode cX6_ask 76 = .ok (.aload_n 0, 1) := by decide +kernel
theorem dX6_ask_77 : decode cX6_ask 77 = .ok (.getfield 23, 3) := by decide +kernel
theorem dX6_ask_80 : decode cX6_ask 80 = .ok (.iload 6, 2) := by decide +kernel
theorem dX6_ask_82 : decode cX6_ask 82 = .ok (.aload 7, 2) := by decide +kernel
theorem dX6_ask_84 : decode cX6_ask 84 = .ok (.aastore, 1) := by decide +kernel
theorem dX6_ask_85 : decode cX6_ask 85 = .ok (.aload_n 0, 1) := by decide +kernel
theorem dX6_ask_86 : decode cX6_ask 86 = .ok (.dup, 1) := by decide +kernel
theorem dX6_ask_87 : decode cX6_ask 87 = .ok (.getfield 90, 3) := by decide +kernel
theorem dX6_ask_90 : decode cX6_ask 90 = .ok (.iconst 1, 1) := by decide +kernel
theorem dX6_ask_91 : decode cX6_ask 91 = .ok (.iadd, 1) := by decide +kernel
theorem dX6_ask_92 : decode cX6_ask 92 = .ok (.putfield 90, 3) := by decide +kernel
theorem dX6_ask_95 : decode cX6_ask 95 = .ok (.aload_n 0, 1) := by decide +kernel
theorem dX6_ask_96 : decode cX6_ask 96 = .ok (.aload 7, 2) := by decide +kernel
theorem dX6_ask_98 : decode cX6_ask 98 = .ok (.iconst 1, 1) := by decide +kernel
theorem dX6_ask_99 : decode cX6_ask 99 = .ok (.invokevirtual 109, 3) := by decide +kernel
theorem dX6_ask_102 : decode cX6_ask 102 = .ok (.iload 6, 2) := by decide +kernel
theorem dX6_ask_104 : decode cX6_ask 104 = .ok (.ireturn, 1) := by decide +kernel
theorem dX6_tick_0 : decode cX6_tick 0 = .ok (.iload_n 1, 1) := by decide +kernel
theorem dX6_tick_1 : decode cX6_tick 1 = .ok (.iconst 1, 1) := by decide +kernel
theorem dX6_tick_2 : decode cX6_tick 2 = .ok (.if_icmp .lt 10, 3) := by decide +kernel
theorem dX6_tick_5 : decode cX6_tick 5 = .ok (.iload_n 1, 1) := by decide +kernel
theorem dX6_tick_6 : decode cX6_tick 6 = .ok (.sipush 400, 3) := by decide +kernel
theorem dX6_tick_9 : decode cX6_tick 9 = .ok (.if_icmp .le 5, 3) := by decide +kernel
theorem dX6_tick_12 : decode cX6_tick 12 = .ok (.iconst (-1), 1) := by decide +kernel
theorem dX6_tick_13 : decode cX6_tick 13 = .ok (.ireturn, 1) := by decide +kernel
theorem dX6_tick_14 : decode cX6_tick 14 = .ok (.iconst 0, 1) := by decide +kernel
theorem dX6_tick_15 : decode cX6_tick 15 = .ok (.istore_n 2, 1) := by decide +kernel
theorem dX6_tick_16 : decode cX6_tick 16 = .ok (.iconst 0, 1) := by decide +kernel
theorem dX6_tick_17 : decode cX6_tick 17 = .ok (.istore_n 3, 1) := by decide +kernel
theorem dX6_tick_18 : decode cX6_tick 18 = .ok (.iload_n 3, 1) := by decide +kernel
theorem dX6_tick_19 : decode cX6_tick 19 = .ok (.iload_n 1, 1) := by decide +kernel
theorem dX6_tick_20 : decode cX6_tick 20 = .ok (.if_icmp .ge 100, 3) := by decide +kernel
theorem dX6_tick_23 : decode cX6_tick 23 = .ok (.aload_n 0, 1) := by decide +kernel
theorem dX6_tick_24 : decode cX6_tick 24 = .ok (.aload_n 0, 1) := by decide +kernel
theorem dX6_tick_25 : decode cX6_tick 25 = .ok (.getfield 32, 3) := by decide +kernel
theorem dX6_tick_28 : decode cX6_tick 28 = .ok (.aload_n 0, 1) := by decide +kernel
theorem dX6_tick_29 : decode cX6_tick 29 = .ok (.getfield 36, 3) := by decide +kernel
theorem dX6_tick_32 : decode cX6_tick 32 = .ok (.invokevirtual 113, 3) := by decide +kernel
theorem dX6_tick_35 : decode cX6_tick 35 = .ok (.aload_n 0, 1) := by decide +kernel
theorem dX6_tick_36 : decode cX6_tick 36 = .ok (.aload_n 0, 1) := by decide +kernel
theorem dX6_tick_37 : decode cX6_tick 37 = .ok (.getfield 36, 3) := by decide +kernel
theorem dX6_tick_40 : decode cX6_tick 40 = .ok (.aload_n 0, 1) := by decide +kernel
theorem dX6_tick_41 : decode cX6_tick 41 = .ok (.getfield 32, 3) := by decide +kernel
theorem dX6_tick_44 : decode cX6_tick 44 = .ok (.invokevirtual 113, 3) := by decide +kernel
theorem dX6_tick_47 : decode cX6_tick 47 = .ok (.iconst 0, 1) := by decide +kernel
theorem dX6_tick_48 : decode cX6_tick 48 = .ok (.istore 4, 2) := by decide +kernel
theorem dX6_tick_50 : decode cX6_tick 50 = .ok (.iload 4, 2) := by decide +kernel
theorem dX6_tick_52 : decode cX6_tick 52 = .ok (.aload_n 0, 1) := by decide +kernel
theorem dX6_tick_53 : decode cX6_tick 53 = .ok (.getfield 17, 3) := by decide +kernel
theorem dX6_tick_56 : decode cX6_tick 56 = .ok (.arraylength, 1) := by decide +kernel
theorem dX6_tick_57 : decode cX6_tick 57 = .ok (.if_icmp .ge 23, 3) := by decide +kernel
theorem dX6_tick_60 : decode cX6_tick 60 = .ok (.iload_n 2, 1) := by decide +kernel
theorem dX6_tick_61 : decode cX6_tick 61 = .ok (.aload_n 0, 1) := by decide +kernel
theorem dX6_tick_62 : decode cX6_tick 62 = .ok (.aload_n 0, 1) := by decide +kernel
theorem dX6_tick_63 : decode cX6_tick 63 = .ok (.getfield 17, 3) := by decide +kernel
theorem dX6_tick_66 : decode cX6_tick 66 = .ok (.iload 4, 2) := by decide +kernel
theorem dX6_tick_68 : decode cX6_tick 68 = .ok (.aaload, 1) := by decide +kernel
theorem dX6_tick_69 : decode cX6_tick 69 = .ok (.invokevirtual 117, 3) := by decide +kernel
theorem dX6_tick_72 : decode cX6_tick 72 = .ok (.iadd, 1) := by decide +kernel
theorem dX6_tick_73 : decode cX6_tick 73 = .ok (.istore_n 2, 1) := by decide +kernel
theorem dX6_tick_74 : decode cX6_tick 74 = .ok (.iinc 4 1, 3) := by decide +kernel
theorem dX6_tick_77 : decode cX6_tick 77 = .ok (.goto (-27), 3) := by decide +kernel
theorem dX6_tick_80 : decode cX6_tick 80 = .ok (.aload_n 0, 1) := by decide +kernel
theorem dX6_tick_81 : decode cX6_tick 81 = .ok (.aload_n 0, 1) := by decide +kernel
theorem dX6_tick_82 : decode cX6_tick 82 = .ok (.getfield 32, 3) := by decide +kernel
theorem dX6_tick_85 : decode cX6_tick 85 = .ok (.aload_n 0, 1) := by decide +kernel
theorem dX6_tick_86 : decode cX6_tick 86 = .ok (.getfield 36, 3) := by decide +kernel
theorem dX6_tick_89 : decode cX6_tick 89 = .ok (.invokevirtual 121, 3) := by decide +kernel
theorem dX6_tick_92 : decode cX6_tick 92 = .ok (.aload_n 0, 1) := by decide +kernel
theorem dX6_tick_93 : decode cX6_tick 93 = .ok (.aload_n 0, 1) := by decide +kernel
theorem dX6_tick_94 : decode cX6_tick 94 = .ok (.getfield 36, 3) := by decide +kernel
theorem dX6_tick_97 : decode cX6_tick 97 = .ok (.aload_n 0, 1) := by decide +kernel
theorem dX6_tick_98 : decode cX6_tick 98 = .ok (.getfield 32, 3) := by decide +kernel
theorem dX6_tick_101 : decode cX6_tick 101 = .ok (.invokevirtual 121, 3) := by decide +kernel
theorem dX6_tick_104 : decode cX6_tick 104 = .ok (.aload_n 0, 1) := by decide +kernel
theorem dX6_tick_105 : decode cX6_tick 105 = .ok (.dup, 1) := by decide +kernel
theorem dX6_tick_106 : decode cX6_tick 106 = .ok (.getfield 100, 3) := by decide +kernel
theorem dX6_tick_109 : decode cX6_tick 109 = .ok (.iconst 1, 1) := by decide +kernel
theorem dX6_tick_110 : decode cX6_tick 110 = .ok (.iadd, 1) := by decide +kernel
theorem dX6_tick_111 : decode cX6_tick 111 = .ok (.putfield 100, 3) := by decide +kernel
theorem dX6_tick_114 : decode cX6_tick 114 = .ok (.iinc 3 1, 3) := by decide +kernel
theorem dX6_tick_117 : decode cX6_tick 117 = .ok (.goto (-99), 3) := by decide +kernel
theorem dX6_tick_120 : decode cX6_tick 120 = .ok (.iload_n 2, 1) := by decide +kernel
theorem dX6_tick_121 : decode cX6_tick 121 = .ok (.ireturn, 1) := by decide +kernel
theorem dX6_arm_0 : decode cX6_arm 0 = .ok (.iload_n 1, 1) := by decide +kernel
theorem dX6_arm_1 : decode cX6_arm 1 = .ok (.ifCond .eq 10, 3) := by decide +kernel
theorem dX6_arm_4 : decode cX6_arm 4 = .ok (.iload_n 1, 1) := by decide +kernel
theorem dX6_arm_5 : decode cX6_arm 5 = .ok (.iconst 1, 1) := by decide +kernel
theorem dX6_arm_6 : decode cX6_arm 6 = .ok (.if_icmp .eq 5, 3) := by decide +kernel
theorem dX6_arm_9 : decode cX6_arm 9 = .ok (.iconst (-1), 1) := by decide +kernel
theorem dX6_arm_10 : decode cX6_arm 10 = .ok (.ireturn, 1) := by decide +kernel
theorem dX6_arm_11 : decode cX6_arm 11 = .ok (.iload_n 1, 1) := by decide +kernel
theorem dX6_arm_12 : decode cX6_arm 12 = .ok (.ifCond .ne 10, 3) := by decide +kernel
theorem dX6_arm_15 : decode cX6_arm 15 = .ok (.aload_n 0, 1) := by decide +kernel
theorem dX6_arm_16 : decode cX6_arm 16 = .ok (.getfield 32, 3) := by decide +kernel
theorem dX6_arm_19 : decode cX6_arm 19 = .ok (.goto 7, 3) := by decide +kernel
theorem dX6_arm_22 : decode cX6_arm 22 = .ok (.aload_n 0, 1) := by decide +kernel
theorem dX6_arm_23 : decode cX6_arm 23 = .ok (.getfield 36, 3) := by decide +kernel
theorem dX6_arm_26 : decode cX6_arm 26 = .ok (.astore_n 3, 1) := by decide +kernel
theorem dX6_arm_27 : decode cX6_arm 27 = .ok (.iload_n 2, 1) := by decide +kernel
theorem dX6_arm_28 : decode cX6_arm 28 = .ok (.tableswitch 82 0 3 #[32, 37, 61, 66], 32) := by decide +kernel
theorem dX6_arm_60 : decode cX6_arm 60 = .ok (.aload_n 3, 1) := by decide +kernel
theorem dX6_arm_61 : decode cX6_arm 61 = .ok (.getfield 124, 3) := by decide +kernel
theorem dX6_arm_64 : decode cX6_arm 64 = .ok (.ireturn, 1) := by decide +kernel
theorem dX6_arm_65 : decode cX6_arm 65 = .ok (.aload_n 3, 1) := by decide +kernel
theorem dX6_arm_66 : decode cX6_arm 66 = .ok (.invokevirtual 127, 3) := by decide +kernel
theorem dX6_arm_69 : decode cX6_arm 69 = .ok (.ifCond .ne 7, 3) := by decide +kernel
theorem dX6_arm_72 : decode cX6_arm 72 = .ok (.iconst 0, 1) := by decide +kernel
theorem dX6_arm_73 : decode cX6_arm 73 = .ok (.goto 15, 3) := by decide +kernel
theorem dX6_arm_76 : decode cX6_arm 76 = .ok (.aload_n 3, 1) := by decide +kernel
theorem dX6_arm_77 : decode cX6_arm 77 = .ok (.getfield 131, 3) := by decide +kernel
theorem dX6_arm_80 : decode cX6_arm 80 = .ok (.ifCond .ne 7, 3) := by decide +kernel
theorem dX6_arm_83 : decode cX6_arm 83 = .ok (.iconst 1, 1) := by decide +kernel
theorem dX6_arm_84 : decode cX6_arm 84 = .ok (.goto 4, 3) := by decide +kernel
theorem dX6_arm_87 : decode cX6_arm 87 = .ok (.iconst 2, 1) := by decide +kernel
theorem dX6_arm_88 : decode cX6_arm 88 = .ok (.ireturn, 1) := by decide +kernel
theorem dX6_arm_89 : decode cX6_arm 89 = .ok (.aload_n 3, 1) := by decide +kernel
theorem dX6_arm_90 : decode cX6_arm 90 = .ok (.getfield 135, 3) := by decide +kernel
theorem dX6_arm_93 : decode cX6_arm 93 = .ok (.ireturn, 1) := by decide +kernel
theorem dX6_arm_94 : decode cX6_arm 94 = .ok (.aload_n 3, 1) := by decide +kernel
theorem dX6_arm_95 : decode cX6_arm 95 = .ok (.invokevirtual 127, 3) := by decide +kernel
theorem dX6_arm_98 : decode cX6_arm 98 = .ok (.ifCond .eq 10, 3) := by decide +kernel
theorem dX6_arm_101 : decode cX6_arm 101 = .ok (.aload_n 3, 1) := by decide +kernel
theorem dX6_arm_102 : decode cX6_arm 102 = .ok (.getfield 138, 3) := by decide +kernel
theorem dX6_arm_105 : decode cX6_arm 105 = .ok (.goto 4, 3) := by decide +kernel
theorem dX6_arm_108 : decode cX6_arm 108 = .ok (.iconst (-1), 1) := by decide +kernel
theorem dX6_arm_109 : decode cX6_arm 109 = .ok (.ireturn, 1) := by decide +kernel
theorem dX6_arm_110 : decode cX6_arm 110 = .ok (.iconst (-1), 1) := by decide +kernel
theorem dX6_arm_111 : decode cX6_arm 111 = .ok (.ireturn, 1) := by decide +kernel
theorem dX6_rig_0 : decode cX6_rig 0 = .ok (.aload_n 0, 1) := by decide +kernel
theorem dX6_rig_1 : decode cX6_rig 1 = .ok (.iload_n 1, 1) := by decide +kernel
theorem dX6_rig_2 : decode cX6_rig 2 = .ok (.invokevirtual 141, 3) := by decide +kernel
theorem dX6_rig_5 : decode cX6_rig 5 = .ok (.astore_n 3, 1) := by decide +kernel
theorem dX6_rig_6 : decode cX6_rig 6 = .ok (.aload_n 3, 1) := by decide +kernel
theorem dX6_rig_7 : decode cX6_rig 7 = .ok (.ifnonnull 5, 3) := by decide +kernel
theorem dX6_rig_10 : decode cX6_rig 10 = .ok (.iconst (-1), 1) := by decide +kernel
theorem dX6_rig_11 : decode cX6_rig 11 = .ok (.ireturn, 1) := by decide +kernel
theorem dX6_rig_12 : decode cX6_rig 12 = .ok (.iload_n 2, 1) := by decide +kernel
theorem dX6_rig_13 : decode cX6_rig 13 = .ok (.tableswitch 60 0 4 #[35, 40, 45, 50, 55], 35) := by decide +kernel
theorem dX6_rig_48 : decode cX6_rig 48 = .ok (.aload_n 3, 1) := by decide +kernel
theorem dX6_rig_49 : decode cX6_rig 49 = .ok (.getfield 145, 3) := by decide +kernel
theorem dX6_rig_52 : decode cX6_rig 52 = .ok (.ireturn, 1) := by decide +kernel
theorem dX6_rig_53 : decode cX6_rig 53 = .ok (.aload_n 3, 1) := by decide +kernel
theorem dX6_rig_54 : decode cX6_rig 54 = .ok (.getfield 148, 3) := by decide +kernel
theorem dX6_rig_57 : decode cX6_rig 57 = .ok (.ireturn, 1) := by decide +kernel
theorem dX6_rig_58 : decode cX6_rig 58 = .ok (.aload_n 3, 1) := by decide +kernel
theorem dX6_rig_59 : decode cX6_rig 59 = .ok (.getfield 151, 3) := by decide +kernel
theorem dX6_rig_62 : decode cX6_rig 62 = .ok (.ireturn, 1) := by decide +kernel
theorem dX6_rig_63 : decode cX6_rig 63 = .ok (.aload_n 3, 1) := by decide +kernel
theorem dX6_rig_64 : decode cX6_rig 64 = .ok (.invokevirtual 152, 3) := by decide +kernel
theorem dX6_rig_67 : decode cX6_rig 67 = .ok (.ireturn, 1) := by decide +kernel
theorem dX6_rig_68 : decode cX6_rig 68 = .ok (.aload_n 3, 1) := by decide +kernel
theorem dX6_rig_69 : decode cX6_rig 69 = .ok (.getfield 156, 3) := by decide +kernel
theorem dX6_rig_72 : decode cX6_rig 72 = .ok (.ireturn, 1) := by decide +kernel
theorem dX6_rig_73 : decode cX6_rig 73 = .ok (.iconst (-1), 1) := by decide +kernel
theorem dX6_rig_74 : decode cX6_rig 74 = .ok (.ireturn, 1) := by decide +kernel
theorem dX6_tapeOf_0 : decode cX6_tapeOf 0 = .ok (.aload_n 0, 1) := by decide +kernel
theorem dX6_tapeOf_1 : decode cX6_tapeOf 1 = .ok (.iload_n 1, 1) := by decide +kernel
theorem dX6_tapeOf_2 : decode cX6_tapeOf 2 = .ok (.invokevirtual 86, 3) := by decide +kernel
theorem dX6_tapeOf_5 : decode cX6_tapeOf 5 = .ok (.astore_n 3, 1) := by decide +kernel
theorem dX6_tapeOf_6 : decode cX6_tapeOf 6 = .ok (.aload_n 3, 1) := by decide +kernel
theorem dX6_tapeOf_7 : decode cX6_tapeOf 7 = .ok (.ifnonnull 5, 3) := by decide +kernel
theorem dX6_tapeOf_10 : decode cX6_tapeOf 10 = .ok (.iconst (-1), 1) := by decide +kernel
theorem dX6_tapeOf_11 : decode cX6_tapeOf 11 = .ok (.ireturn, 1) := by decide +kernel
theorem dX6_tapeOf_12 : decode cX6_tapeOf 12 = .ok (.iload_n 2, 1) := by decide +kernel
theorem dX6_tapeOf_13 : decode cX6_tapeOf 13 = .ok (.tableswitch 84 0 6 #[43, 48, 53, 58, 63, 68, 74], 43) := by decide +kernel
theorem dX6_tapeOf_56 : decode cX6_tapeOf 56 = .ok (.aload_n 3, 1) := by decide +kernel
theorem dX6_tapeOf_57 : decode cX6_tapeOf 57 = .ok (.getfield 159, 3) := by decide +kernel
theorem dX6_tapeOf_60 : decode cX6_tapeOf 60 = .ok (.ireturn, 1) := by decide +kernel
theorem dX6_tapeOf_61 : decode cX6_tapeOf 61 = .ok (.aload_n 3, 1) := by decide +kernel
theorem dX6_tapeOf_62 : decode cX6_tapeOf 62 = .ok (.getfield 162, 3) := by decide +kernel
theorem dX6_tapeOf_65 : decode cX6_tapeOf 65 = .ok (.ireturn, 1) := by decide +kernel
theorem dX6_tapeOf_66 : decode cX6_tapeOf 66 = .ok (.aload_n 3, 1) := by decide +kernel
theorem dX6_tapeOf_67 : decode cX6_tapeOf 67 = .ok (.getfield 93, 3) := by decide +kernel
theorem dX6_tapeOf_70 : decode cX6_tapeOf 70 = .ok (.ireturn, 1) := by decide +kernel
theorem dX6_tapeOf_71 : decode cX6_tapeOf 71 = .ok (.aload_n 3, 1) := by decide +kernel
theorem dX6_tapeOf_72 : decode cX6_tapeOf 72 = .ok (.getfield 165, 3) := by decide +kernel
theorem dX6_tapeOf_75 : decode cX6_tapeOf 75 = .ok (.ireturn, 1) := by decide +kernel
theorem dX6_tapeOf_76 : decode cX6_tapeOf 76 = .ok (.aload_n 3, 1) := by decide +kernel
theorem dX6_tapeOf_77 : decode cX6_tapeOf 77 = .ok (.getfield 168, 3) := by decide +kernel
theorem dX6_tapeOf_80 : decode cX6_tapeOf 80 = .ok (.ireturn, 1) := by decide +kernel
theorem dX6_tapeOf_81 : decode cX6_tapeOf 81 = .ok (.aload_n 0, 1) := by decide +kernel
theorem dX6_tapeOf_82 : decode cX6_tapeOf 82 = .ok (.iload_n 1, 1) := by decide +kernel
theorem dX6_tapeOf_83 : decode cX6_tapeOf 83 = .ok (.invokevirtual 171, 3) := by decide +kernel
theorem dX6_tapeOf_86 : decode cX6_tapeOf 86 = .ok (.ireturn, 1) := by decide +kernel
theorem dX6_tapeOf_87 : decode cX6_tapeOf 87 = .ok (.aload_n 3, 1) := by decide +kernel
theorem dX6_tapeOf_88 : decode cX6_tapeOf 88 = .ok (.aload_n 0, 1) := by decide +kernel
theorem dX6_tapeOf_89 : decode cX6_tapeOf 89 = .ok (.getfield 100, 3) := by decide +kernel
theorem dX6_tapeOf_92 : decode cX6_tapeOf 92 = .ok (.iconst 0, 1) := by decide +kernel
theorem dX6_tapeOf_93 : decode cX6_tapeOf 93 = .ok (.invokevirtual 175, 3) := by decide +kernel
theorem dX6_tapeOf_96 : decode cX6_tapeOf 96 = .ok (.ireturn, 1) := by decide +kernel
theorem dX6_tapeOf_97 : decode cX6_tapeOf 97 = .ok (.iconst (-1), 1) := by decide +kernel
theorem dX6_tapeOf_98 : decode cX6_tapeOf 98 = .ok (.ireturn, 1) := by decide +kernel
theorem dX6_cell_0 : decode cX6_cell 0 = .ok (.aload_n 0, 1) := by decide +kernel
theorem dX6_cell_1 : decode cX6_cell 1 = .ok (.iload_n 1, 1) := by decide +kernel
theorem dX6_cell_2 : decode cX6_cell 2 = .ok (.invokevirtual 86, 3) := by decide +kernel
theorem dX6_cell_5 : decode cX6_cell 5 = .ok (.astore_n 3, 1) := by decide +kernel
theorem dX6_cell_6 : decode cX6_cell 6 = .ok (.aload_n 3, 1) := by decide +kernel
theorem dX6_cell_7 : decode cX6_cell 7 = .ok (.ifnull 11, 3) := by decide +kernel
theorem dX6_cell_10 : decode cX6_cell 10 = .ok (.aload_n 3, 1) := by decide +kernel
theorem dX6_cell_11 : decode cX6_cell 11 = .ok (.iload_n 2, 1) := by decide +kernel
theorem dX6_cell_12 : decode cX6_cell 12 = .ok (.invokevirtual 179, 3) := by decide +kernel
theorem dX6_cell_15 : decode cX6_cell 15 = .ok (.ifCond .ne 13, 3) := by decide +kernel
theorem dX6_cell_18 : decode cX6_cell 18 = .ok (.new 182, 3) := by decide +kernel
theorem dX6_cell_21 : decode cX6_cell 21 = .ok (.dup, 1) := by decide +kernel
theorem dX6_cell_22 : decode cX6_cell 22 = .ok (.ldc 184, 2) := by decide +kernel
theorem dX6_cell_24 : decode cX6_cell 24 = .ok (.invokespecial 186, 3) := by decide +kernel
theorem dX6_cell_27 : decode cX6_cell 27 = .ok (.athrow, 1) := by decide +kernel
theorem dX6_cell_28 : decode cX6_cell 28 = .ok (.aload_n 3, 1) := by decide +kernel
theorem dX6_cell_29 : decode cX6_cell 29 = .ok (.iload_n 2, 1) := by decide +kernel
theorem dX6_cell_30 : decode cX6_cell 30 = .ok (.invokevirtual 189, 3) := by decide +kernel
theorem dX6_cell_33 : decode cX6_cell 33 = .ok (.lreturn, 1) := by decide +kernel
theorem dX6_askOf_0 : decode cX6_askOf 0 = .ok (.aload_n 0, 1) := by decide +kernel
theorem dX6_askOf_1 : decode cX6_askOf 1 = .ok (.iload_n 1, 1) := by decide +kernel
theorem dX6_askOf_2 : decode cX6_askOf 2 = .ok (.invokevirtual 193, 3) := by decide +kernel
theorem dX6_askOf_5 : decode cX6_askOf 5 = .ok (.astore_n 3, 1) := by decide +kernel
theorem dX6_askOf_6 : decode cX6_askOf 6 = .ok (.aload_n 3, 1) := by decide +kernel
theorem dX6_askOf_7 : decode cX6_askOf 7 = .ok (.ifnonnull 7, 3) := by decide +kernel
theorem dX6_askOf_10 : decode cX6_askOf 10 = .ok (.ldc2_w 197, 3) := by decide +kernel
theorem dX6_askOf_13 : decode cX6_askOf 13 = .ok (.lreturn, 1) := by decide +kernel
theorem dX6_askOf_14 : decode cX6_askOf 14 = .ok (.iload_n 2, 1) := by decide +kernel
theorem dX6_askOf_15 : decode cX6_askOf 15 = .ok (.tableswitch 92 0 7 #[45, 51, 57, 63, 69, 75, 80, 86], 45) := by decide +kernel
theorem dX6_askOf_60 : decode cX6_askOf 60 = .ok (.aload_n 3, 1) := by decide +kernel
theorem dX6_askOf_61 : decode cX6_askOf 61 = .ok (.getfield 199, 3) := by decide +kernel
theorem dX6_askOf_64 : decode cX6_askOf 64 = .ok (.i2l, 1) := by decide +kernel
theorem dX6_askOf_65 : decode cX6_askOf 65 = .ok (.lreturn, 1) := by decide +kernel
theorem dX6_askOf_66 : decode cX6_askOf 66 = .ok (.aload_n 3, 1) := by decide +kernel
theorem dX6_askOf_67 : decode cX6_askOf 67 = .ok (.getfield 200, 3) := by decide +kernel
theorem dX6_askOf_70 : decode cX6_askOf 70 = .ok (.i2l, 1) := by decide +kernel
theorem dX6_askOf_71 : decode cX6_askOf 71 = .ok (.lreturn, 1) := by decide +kernel
theorem dX6_askOf_72 : decode cX6_askOf 72 = .ok (.aload_n 3, 1) := by decide +kernel
theorem dX6_askOf_73 : decode cX6_askOf 73 = .ok (.getfield 201, 3) := by decide +kernel
theorem dX6_askOf_76 : decode cX6_askOf 76 = .ok (.i2l, 1) := by decide +kernel
theorem dX6_askOf_77 : decode cX6_askOf 77 = .ok (.lreturn, 1) := by decide +kernel
theorem dX6_askOf_78 : decode cX6_askOf 78 = .ok (.aload_n 3, 1) := by decide +kernel
theorem dX6_askOf_79 : decode cX6_askOf 79 = .ok (.getfield 202, 3) := by decide +kernel
theorem dX6_askOf_82 : decode cX6_askOf 82 = .ok (.i2l, 1) := by decide +kernel
theorem dX6_askOf_83 : decode cX6_askOf 83 = .ok (.lreturn, 1) := by decide +kernel
theorem dX6_askOf_84 : decode cX6_askOf 84 = .ok (.aload_n 3, 1) := by decide +kernel
theorem dX6_askOf_85 : decode cX6_askOf 85 = .ok (.getfield 205, 3) := by decide +kernel
theorem dX6_askOf_88 : decode cX6_askOf 88 = .ok (.i2l, 1) := by decide +kernel
theorem dX6_askOf_89 : decode cX6_askOf 89 = .ok (.lreturn, 1) := by decide +kernel
theorem dX6_askOf_90 : decode cX6_askOf 90 = .ok (.aload_n 3, 1) := by decide +kernel
theorem dX6_askOf_91 : decode cX6_askOf 91 = .ok (.getfield 208, 3) := by decide +kernel
theorem dX6_askOf_94 : decode cX6_askOf 94 = .ok (.lreturn, 1) := by decide +kernel
theorem dX6_askOf_95 : decode cX6_askOf 95 = .ok (.aload_n 3, 1) := by decide +kernel
theorem dX6_askOf_96 : decode cX6_askOf 96 = .ok (.getfield 212, 3) := by decide +kernel
theorem dX6_askOf_99 : decode cX6_askOf 99 = .ok (.i2l, 1) := by decide +kernel
theorem dX6_askOf_100 : decode cX6_askOf 100 = .ok (.lreturn, 1) := by decide +kernel
theorem dX6_askOf_101 : decode cX6_askOf 101 = .ok (.aload_n 3, 1) := by decide +kernel
theorem dX6_askOf_102 : decode cX6_askOf 102 = .ok (.getfield 215, 3) := by decide +kernel
theorem dX6_askOf_105 : decode cX6_askOf 105 = .ok (.i2l, 1) := by decide +kernel
theorem dX6_askOf_106 : decode cX6_askOf 106 = .ok (.lreturn, 1) := by decide +kernel
theorem dX6_askOf_107 : decode cX6_askOf 107 = .ok (.ldc2_w 197, 3) := by decide +kernel
theorem dX6_askOf_110 : decode cX6_askOf 110 = .ok (.lreturn, 1) := by decide +kernel
theorem dX6_order_0 : decode cX6_order 0 = .ok (.aload_n 0, 1) := by decide +kernel
theorem dX6_order_1 : decode cX6_order 1 = .ok (.iload_n 1, 1) := by decide +kernel
theorem dX6_order_2 : decode cX6_order 2 = .ok (.invokevirtual 218, 3) := by decide +kernel
theorem dX6_order_5 : decode cX6_order 5 = .ok (.ifCond .eq 31, 3) := by decide +kernel
theorem dX6_order_8 : decode cX6_order 8 = .ok (.iload_n 2, 1) := by decide +kernel
theorem dX6_order_9 : decode cX6_order 9 = .ok (.aload_n 0, 1) := by decide +kernel
theorem dX6_order_10 : decode cX6_order 10 = .ok (.getfield 42, 3) := by decide +kernel
theorem dX6_order_13 : decode cX6_order 13 = .ok (.getfield 221, 3) := by decide +kernel
theorem dX6_order_16 : decode cX6_order 16 = .ok (.invokestatic 66, 3) := by decide +kernel
theorem dX6_order_19 : decode cX6_order 19 = .ok (.ifCond .eq 17, 3) := by decide +kernel
theorem dX6_order_22 : decode cX6_order 22 = .ok (.aload_n 0, 1) := by decide +kernel
theorem dX6_order_23 : decode cX6_order 23 = .ok (.getfield 42, 3) := by decide +kernel
theorem dX6_order_26 : decode cX6_order 26 = .ok (.getfield 224, 3) := by decide +kernel
theorem dX6_order_29 : decode cX6_order 29 = .ok (.iload_n 2, 1) := by decide +kernel
theorem dX6_order_30 : decode cX6_order 30 = .ok (.invokestatic 228, 3) := by decide +kernel
theorem dX6_order_33 : decode cX6_order 33 = .ok (.goto 4, 3) := by decide +kernel
theorem dX6_order_36 : decode cX6_order 36 = .ok (.iconst (-1), 1) := by decide +kernel
theorem dX6_order_37 : decode cX6_order 37 = .ok (.ireturn, 1) := by decide +kernel
theorem dX6_told_0 : decode cX6_told 0 = .ok (.iload_n 2, 1) := by decide +kernel
theorem dX6_told_1 : decode cX6_told 1 = .ok (.ifCond .lt 16, 3) := by decide +kernel
theorem dX6_told_4 : decode cX6_told 4 = .ok (.iload_n 2, 1) := by decide +kernel
theorem dX6_told_5 : decode cX6_told 5 = .ok (.iconst 2, 1) := by decide +kernel
theorem dX6_told_6 : decode cX6_told 6 = .ok (.if_icmp .gt 11, 3) := by decide +kernel
theorem dX6_told_9 : decode cX6_told 9 = .ok (.aload_n 0, 1) := by decide +kernel
theorem dX6_told_10 : decode cX6_told 10 = .ok (.iload_n 1, 1) := by decide +kernel
theorem dX6_told_11 : decode cX6_told 11 = .ok (.invokevirtual 218, 3) := by decide +kernel
theorem dX6_told_14 : decode cX6_told 14 = .ok (.ifCond .ne 5, 3) := by decide +kernel
theorem dX6_told_17 : decode cX6_told 17 = .ok (.iconst (-1), 1) := by decide +kernel
theorem dX6_told_18 : decode cX6_told 18 = .ok (.ireturn, 1) := by decide +kernel
theorem dX6_told_19 : decode cX6_told 19 = .ok (.iload_n 2, 1) := by decide +kernel
theorem dX6_told_20 : decode cX6_told 20 = .ok (.ifCond .ne 13, 3) := by decide +kernel
theorem dX6_told_23 : decode cX6_told 23 = .ok (.aload_n 0, 1) := by decide +kernel
theorem dX6_told_24 : decode cX6_told 24 = .ok (.getfield 42, 3) := by decide +kernel
theorem dX6_told_27 : decode cX6_told 27 = .ok (.getfield 232, 3) := by decide +kernel
theorem dX6_told_30 : decode cX6_told 30 = .ok (.goto 25, 3) := by decide +kernel
theorem dX6_told_33 : decode cX6_told 33 = .ok (.iload_n 2, 1) := by decide +kernel
theorem dX6_told_34 : decode cX6_told 34 = .ok (.iconst 1, 1) := by decide +kernel
theorem dX6_told_35 : decode cX6_told 35 = .ok (.if_icmp .ne 13, 3) := by decide +kernel
theorem dX6_told_38 : decode cX6_told 38 = .ok (.aload_n 0, 1) := by decide +kernel
theorem dX6_told_39 : decode cX6_told 39 = .ok (.getfield 42, 3) := by decide +kernel
theorem dX6_told_42 : decode cX6_told 42 = .ok (.getfield 235, 3) := by decide +kernel
theorem dX6_told_45 : decode cX6_told 45 = .ok (.goto 10, 3) := by decide +kernel
theorem dX6_told_48 : decode cX6_told 48 = .ok (.aload_n 0, 1) := by decide +kernel
theorem dX6_told_49 : decode cX6_told 49 = .ok (.getfield 42, 3) := by decide +kernel
theorem dX6_told_52 : decode cX6_told 52 = .ok (.invokevirtual 238, 3) := by decide +kernel
theorem dX6_told_55 : decode cX6_told 55 = .ok (.ireturn, 1) := by decide +kernel
theorem dX6_breaks_0 : decode cX6_breaks 0 = .ok (.aload_n 0, 1) := by decide +kernel
theorem dX6_breaks_1 : decode cX6_breaks 1 = .ok (.iload_n 1, 1) := by decide +kernel
theorem dX6_breaks_2 : decode cX6_breaks 2 = .ok (.invokevirtual 141, 3) := by decide +kernel
theorem dX6_breaks_5 : decode cX6_breaks 5 = .ok (.astore_n 2, 1) := by decide +kernel
theorem dX6_breaks_6 : decode cX6_breaks 6 = .ok (.aload_n 2, 1) := by decide +kernel
theorem dX6_breaks_7 : decode cX6_breaks 7 = .ok (.ifnull 19, 3) := by decide +kernel
theorem dX6_breaks_10 : decode cX6_breaks 10 = .ok (.aload_n 2, 1) := by decide +kernel
theorem dX6_breaks_11 : decode cX6_breaks 11 = .ok (.getfield 148, 3) := by decide +kernel
theorem dX6_breaks_14 : decode cX6_breaks 14 = .ok (.iconst 1, 1) := by decide +kernel
theorem dX6_breaks_15 : decode cX6_breaks 15 = .ok (.if_icmp .eq 11, 3) := by decide +kernel
theorem dX6_breaks_18 : decode cX6_breaks 18 = .ok (.aload_n 2, 1) := by decide +kernel
theorem dX6_breaks_19 : decode cX6_breaks 19 = .ok (.getfield 148, 3) := by decide +kernel
theorem dX6_breaks_22 : decode cX6_breaks 22 = .ok (.iconst 4, 1) := by decide +kernel
theorem dX6_breaks_23 : decode cX6_breaks 23 = .ok (.if_icmp .ne 5, 3) := by decide +kernel
theorem dX6_breaks_26 : decode cX6_breaks 26 = .ok (.iconst 0, 1) := by decide +kernel
theorem dX6_breaks_27 : decode cX6_breaks 27 = .ok (.ireturn, 1) := by decide +kernel
theorem dX6_breaks_28 : decode cX6_breaks 28 = .ok (.aload_n 2, 1) := by decide +kernel
theorem dX6_breaks_29 : decode cX6_breaks 29 = .ok (.getfield 241, 3) := by decide +kernel
theorem dX6_breaks_32 : decode cX6_breaks 32 = .ok (.istore_n 3, 1) := by decide +kernel
theorem dX6_breaks_33 : decode cX6_breaks 33 = .ok (.iload_n 3, 1) := by decide +kernel
theorem dX6_breaks_34 : decode cX6_breaks 34 = .ok (.aload_n 2, 1) := by decide +kernel
theorem dX6_breaks_35 : decode cX6_breaks 35 = .ok (.getfield 244, 3) := by decide +kernel
theorem dX6_breaks_38 : decode cX6_breaks 38 = .ok (.if_icmp .ge 41, 3) := by decide +kernel
theorem dX6_breaks_41 : decode cX6_breaks 41 = .ok (.aload_n 0, 1) := by decide +kernel
theorem dX6_breaks_42 : decode cX6_breaks 42 = .ok (.aload_n 2, 1) := by decide +kernel
theorem dX6_breaks_43 : decode cX6_breaks 43 = .ok (.getfield 245, 3) := by decide +kernel
theorem dX6_breaks_46 : decode cX6_breaks 46 = .ok (.iload_n 3, 1) := by decide +kernel
theorem dX6_breaks_47 : decode cX6_breaks 47 = .ok (.invokestatic 228, 3) := by decide +kernel
theorem dX6_breaks_50 : decode cX6_breaks 50 = .ok (.invokevirtual 193, 3) := by decide +kernel
theorem dX6_breaks_53 : decode cX6_breaks 53 = .ok (.astore 4, 2) := by decide +kernel
theorem dX6_breaks_55 : decode cX6_breaks 55 = .ok (.aload 4, 2) := by decide +kernel
theorem dX6_breaks_57 : decode cX6_breaks 57 = .ok (.ifnull 16, 3) := by decide +kernel
theorem dX6_breaks_60 : decode cX6_breaks 60 = .ok (.aload 4, 2) := by decide +kernel
theorem dX6_breaks_62 : decode cX6_breaks 62 = .ok (.iconst 0, 1) := by decide +kernel
theorem dX6_breaks_63 : decode cX6_breaks 63 = .ok (.putfield 201, 3) := by decide +kernel
theorem dX6_breaks_66 : decode cX6_breaks 66 = .ok (.aload_n 0, 1) := by decide +kernel
theorem dX6_breaks_67 : decode cX6_breaks 67 = .ok (.aload 4, 2) := by decide +kernel
theorem dX6_breaks_69 : decode cX6_breaks 69 = .ok (.iconst 1, 1) := by decide +kernel
theorem dX6_breaks_70 : decode cX6_breaks 70 = .ok (.invokevirtual 109, 3) := by decide +kernel
theorem dX6_breaks_73 : decode cX6_breaks 73 = .ok (.iinc 3 1, 3) := by decide +kernel
theorem dX6_breaks_76 : decode cX6_breaks 76 = .ok (.goto (-43), 3) := by decide +kernel
theorem dX6_breaks_79 : decode cX6_breaks 79 = .ok (.aload_n 2, 1) := by decide +kernel
theorem dX6_breaks_80 : decode cX6_breaks 80 = .ok (.invokevirtual 248, 3) := by decide +kernel
theorem dX6_breaks_83 : decode cX6_breaks 83 = .ok (.aload_n 2, 1) := by decide +kernel
theorem dX6_breaks_84 : decode cX6_breaks 84 = .ok (.iconst 4, 1) := by decide +kernel
theorem dX6_breaks_85 : decode cX6_breaks 85 = .ok (.putfield 148, 3) := by decide +kernel
theorem dX6_breaks_88 : decode cX6_breaks 88 = .ok (.iconst 1, 1) := by decide +kernel
theorem dX6_breaks_89 : decode cX6_breaks 89 = .ok (.ireturn, 1) := by decide +kernel
theorem dX6_mends_0 : decode cX6_mends 0 = .ok (.aload_n 0, 1) := by decide +kernel
theorem dX6_mends_1 : decode cX6_mends 1 = .ok (.iload_n 1, 1) := by decide +kernel
theorem dX6_mends_2 : decode cX6_mends 2 = .ok (.invokevirtual 141, 3) := by decide +kernel
theorem dX6_mends_5 : decode cX6_mends 5 = .ok (.astore_n 2, 1) := by decide +kernel
theorem dX6_mends_6 : decode cX6_mends 6 = .ok (.aload_n 2, 1) := by decide +kernel
theorem dX6_mends_7 : decode cX6_mends 7 = .ok (.ifnull 11, 3) := by decide +kernel
theorem dX6_mends_10 : decode cX6_mends 10 = .ok (.aload_n 2, 1) := by decide +kernel
theorem dX6_mends_11 : decode cX6_mends 11 = .ok (.getfield 148, 3) := by decide +kernel
theorem dX6_mends_14 : decode cX6_mends 14 = .ok (.iconst 4, 1) := by decide +kernel
theorem dX6_mends_15 : decode cX6_mends 15 = .ok (.if_icmp .eq 5, 3) := by decide +kernel
theorem dX6_mends_18 : decode cX6_mends 18 = .ok (.iconst 0, 1) := by decide +kernel
theorem dX6_mends_19 : decode cX6_mends 19 = .ok (.ireturn, 1) := by decide +kernel
theorem dX6_mends_20 : decode cX6_mends 20 = .ok (.aload_n 2, 1) := by decide +kernel
theorem dX6_mends_21 : decode cX6_mends 21 = .ok (.aload_n 2, 1) := by decide +kernel
theorem dX6_mends_22 : decode cX6_mends 22 = .ok (.getfield 151, 3) := by decide +kernel
theorem dX6_mends_25 : decode cX6_mends 25 = .ok (.iconst (-1), 1) := by decide +kernel
theorem dX6_mends_26 : decode cX6_mends 26 = .ok (.if_icmp .ne 7, 3) := by decide +kernel
theorem dX6_mends_29 : decode cX6_mends 29 = .ok (.iconst 0, 1) := by decide +kernel
theorem dX6_mends_30 : decode cX6_mends 30 = .ok (.goto 4, 3) := by decide +kernel
theorem dX6_mends_33 : decode cX6_mends 33 = .ok (.iconst 3, 1) := by decide +kernel
theorem dX6_mends_34 : decode cX6_mends 34 = .ok (.putfield 148, 3) := by decide +kernel
theorem dX6_mends_37 : decode cX6_mends 37 = .ok (.iconst 1, 1) := by decide +kernel
theorem dX6_mends_38 : decode cX6_mends 38 = .ok (.ireturn, 1) := by decide +kernel
theorem dX6_copy_0 : decode cX6_copy 0 = .ok (.aload_n 0, 1) := by decide +kernel
theorem dX6_copy_1 : decode cX6_copy 1 = .ok (.iload_n 1, 1) := by decide +kernel
theorem dX6_copy_2 : decode cX6_copy 2 = .ok (.invokevirtual 86, 3) := by decide +kernel
theorem dX6_copy_5 : decode cX6_copy 5 = .ok (.astore 6, 2) := by decide +kernel
theorem dX6_copy_7 : decode cX6_copy 7 = .ok (.aload_n 0, 1) := by decide +kernel
theorem dX6_copy_8 : decode cX6_copy 8 = .ok (.iload_n 3, 1) := by decide +kernel
theorem dX6_copy_9 : decode cX6_copy 9 = .ok (.invokevirtual 86, 3) := by decide +kernel
theorem dX6_copy_12 : decode cX6_copy 12 = .ok (.astore 7, 2) := by decide +kernel
theorem dX6_copy_14 : decode cX6_copy 14 = .ok (.aload 6, 2) := by decide +kernel
theorem dX6_copy_16 : decode cX6_copy 16 = .ok (.ifnull 24, 3) := by decide +kernel
theorem dX6_copy_19 : decode cX6_copy 19 = .ok (.aload 7, 2) := by decide +kernel
theorem dX6_copy_21 : decode cX6_copy 21 = .ok (.ifnull 19, 3) := by decide +kernel
theorem dX6_copy_24 : decode cX6_copy 24 = .ok (.aload 6, 2) := by decide +kernel
theorem dX6_copy_26 : decode cX6_copy 26 = .ok (.invokevirtual 251, 3) := by decide +kernel
theorem dX6_copy_29 : decode cX6_copy 29 = .ok (.ifCond .eq 11, 3) := by decide +kernel
theorem dX6_copy_32 : decode cX6_copy 32 = .ok (.aload 7, 2) := by decide +kernel
theorem dX6_copy_34 : decode cX6_copy 34 = .ok (.invokevirtual 251, 3) := by decide +kernel
theorem dX6_copy_37 : decode cX6_copy 37 = .ok (.ifCond .ne 5, 3) := by decide +kernel
theorem dX6_copy_40 : decode cX6_copy 40 = .ok (.iconst (-1), 1) := by decide +kernel
theorem dX6_copy_41 : decode cX6_copy 41 = .ok (.ireturn, 1) := by decide +kernel
theorem dX6_copy_42 : decode cX6_copy 42 = .ok (.aload 6, 2) := by decide +kernel
theorem dX6_copy_44 : decode cX6_copy 44 = .ok (.getfield 254, 3) := by decide +kernel
theorem dX6_copy_47 : decode cX6_copy 47 = .ok (.ifnull 11, 3) := by decide +kernel
theorem dX6_copy_50 : decode cX6_copy 50 = .ok (.aload 7, 2) := by decide +kernel
theorem dX6_copy_52 : decode cX6_copy 52 = .ok (.getfield 254, 3) := by decide +kernel
theorem dX6_copy_55 : decode cX6_copy 55 = .ok (.ifnonnull 6, 3) := by decide +kernel
theorem dX6_copy_58 : decode cX6_copy 58 = .ok (.bipush (-2), 2) := by decide +kernel
theorem dX6_copy_60 : decode cX6_copy 60 = .ok (.ireturn, 1) := by decide +kernel
theorem dX6_copy_61 : decode cX6_copy 61 = .ok (.aload 6, 2) := by decide +kernel
theorem dX6_copy_63 : decode cX6_copy 63 = .ok (.getfield 162, 3) := by decide +kernel
theorem dX6_copy_66 : decode cX6_copy 66 = .ok (.aload 7, 2) := by decide +kernel
theorem dX6_copy_68 : decode cX6_copy 68 = .ok (.getfield 162, 3) := by decide +kernel
theorem dX6_copy_71 : decode cX6_copy 71 = .ok (.if_icmp .eq 6, 3) := by decide +kernel
theorem dX6_copy_74 : decode cX6_copy 74 = .ok (.bipush (-3), 2) := by decide +kernel
theorem dX6_copy_76 : decode cX6_copy 76 = .ok (.ireturn, 1) := by decide +kernel
theorem dX6_copy_77 : decode cX6_copy 77 = .ok (.iload 5, 2) := by decide +kernel
theorem dX6_copy_79 : decode cX6_copy 79 = .ok (.ifCond .lt 39, 3) := by decide +kernel
theorem dX6_copy_82 : decode cX6_copy 82 = .ok (.iload_n 2, 1) := by decide +kernel
theorem dX6_copy_83 : decode cX6_copy 83 = .ok (.ifCond .lt 35, 3) := by decide +kernel
theorem dX6_copy_86 : decode cX6_copy 86 = .ok (.iload 4, 2) := by decide +kernel
theorem dX6_copy_88 : decode cX6_copy 88 = .ok (.ifCond .lt 30, 3) := by decide +kernel
theorem dX6_copy_91 : decode cX6_copy 91 = .ok (.iload_n 2, 1) := by decide +kernel
theorem dX6_copy_92 : decode cX6_copy 92 = .ok (.aload 6, 2) := by decide +kernel
theorem dX6_copy_94 : decode cX6_copy 94 = .ok (.getfield 254, 3) := by decide +kernel
theorem dX6_copy_97 : decode cX6_copy 97 = .ok (.arraylength, 1) := by decide +kernel
theorem dX6_copy_98 : decode cX6_copy 98 = .ok (.iload 5, 2) := by decide +kernel
theorem dX6_copy_100 : decode cX6_copy 100 = .ok (.isub, 1) := by decide +kernel
theorem dX6_copy_101 : decode cX6_copy 101 = .ok (.if_icmp .gt 17, 3) := by decide +kernel
theorem dX6_copy_104 : decode cX6_copy 104 = .ok (.iload 4, 2) := by decide +kernel
theorem dX6_copy_106 : decode cX6_copy 106 = .ok (.aload 7, 2) := by decide +kernel
theorem dX6_copy_108 : decode cX6_copy 108 = .ok (.getfield 254, 3) := by decide +kernel
theorem dX6_copy_111 : decode cX6_copy 111 = .ok (.arraylength, 1) := by decide +kernel
theorem dX6_copy_112 : decode cX6_copy 112 = .ok (.iload 5, 2) := by decide +kernel
theorem dX6_copy_114 : decode cX6_copy 114 = .ok (.isub, 1) := by decide +kernel
theorem dX6_copy_115 : decode cX6_copy 115 = .ok (.if_icmp .le 6, 3) := by decide +kernel
theorem dX6_copy_118 : decode cX6_copy 118 = .ok (.bipush (-4), 2) := by decide +kernel
theorem dX6_copy_120 : decode cX6_copy 120 = .ok (.ireturn, 1) := by decide +kernel
theorem dX6_copy_121 : decode cX6_copy 121 = .ok (.aload 6, 2) := by decide +kernel
theorem dX6_copy_123 : decode cX6_copy 123 = .ok (.getfield 254, 3) := by decide +kernel
theorem dX6_copy_126 : decode cX6_copy 126 = .ok (.iload_n 2, 1) := by decide +kernel
theorem dX6_copy_127 : decode cX6_copy 127 = .ok (.aload 7, 2) := by decide +kernel
theorem dX6_copy_129 : decode cX6_copy 129 = .ok (.getfield 254, 3) := by decide +kernel
theorem dX6_copy_132 : decode cX6_copy 132 = .ok (.iload 4, 2) := by decide +kernel
theorem dX6_copy_134 : decode cX6_copy 134 = .ok (.iload 5, 2) := by decide +kernel
theorem dX6_copy_136 : decode cX6_copy 136 = .ok (.invokestatic 258, 3) := by decide +kernel
theorem dX6_copy_139 : decode cX6_copy 139 = .ok (.iload 5, 2) := by decide +kernel
theorem dX6_copy_141 : decode cX6_copy 141 = .ok (.ireturn, 1) := by decide +kernel
theorem dX6_item_0 : decode cX6_item 0 = .ok (.iload_n 1, 1) := by decide +kernel
theorem dX6_item_1 : decode cX6_item 1 = .ok (.iconst 1, 1) := by decide +kernel
theorem dX6_item_2 : decode cX6_item 2 = .ok (.if_icmp .lt 30, 3) := by decide +kernel
theorem dX6_item_5 : decode cX6_item 5 = .ok (.iload_n 1, 1) := by decide +kernel
theorem dX6_item_6 : decode cX6_item 6 = .ok (.bipush 50, 2) := by decide +kernel
theorem dX6_item_8 : decode cX6_item 8 = .ok (.if_icmp .gt 24, 3) := by decide +kernel
theorem dX6_item_11 : decode cX6_item 11 = .ok (.iload_n 2, 1) := by decide +kernel
theorem dX6_item_12 : decode cX6_item 12 = .ok (.ifCond .lt 20, 3) := by decide +kernel
theorem dX6_item_15 : decode cX6_item 15 = .ok (.iload_n 2, 1) := by decide +kernel
theorem dX6_item_16 : decode cX6_item 16 = .ok (.sipush 1000, 3) := by decide +kernel
theorem dX6_item_19 : decode cX6_item 19 = .ok (.if_icmp .gt 13, 3) := by decide +kernel
theorem dX6_item_22 : decode cX6_item 22 = .ok (.aload_n 0, 1) := by decide +kernel
theorem dX6_item_23 : decode cX6_item 23 = .ok (.getfield 49, 3) := by decide +kernel
theorem dX6_item_26 : decode cX6_item 26 = .ok (.invokevirtual 264, 3) := by decide +kernel
theorem dX6_item_29 : decode cX6_item 29 = .ok (.ifCond .eq 5, 3) := by decide +kernel
theorem dX6_item_32 : decode cX6_item 32 = .ok (.iconst (-1), 1) := by decide +kernel
theorem dX6_item_33 : decode cX6_item 33 = .ok (.ireturn, 1) := by decide +kernel
theorem dX6_item_34 : decode cX6_item 34 = .ok (.aload_n 0, 1) := by decide +kernel
theorem dX6_item_35 : decode cX6_item 35 = .ok (.getfield 49, 3) := by decide +kernel
theorem dX6_item_38 : decode cX6_item 38 = .ok (.iload_n 1, 1) := by decide +kernel
theorem dX6_item_39 : decode cX6_item 39 = .ok (.iload_n 2, 1) := by decide +kernel
theorem dX6_item_40 : decode cX6_item 40 = .ok (.invokevirtual 267, 3) := by decide +kernel
theorem dX6_item_43 : decode cX6_item 43 = .ok (.ireturn, 1) := by decide +kernel
theorem dX6_laid_0 : decode cX6_laid 0 = .ok (.aload_n 0, 1) := by decide +kernel
theorem dX6_laid_1 : decode cX6_laid 1 = .ok (.getfield 49, 3) := by decide +kernel
theorem dX6_laid_4 : decode cX6_laid 4 = .ok (.invokevirtual 270, 3) := by decide +kernel
theorem dX6_laid_7 : decode cX6_laid 7 = .ok (.aload_n 0, 1) := by decide +kernel
theorem dX6_laid_8 : decode cX6_laid 8 = .ok (.getfield 49, 3) := by decide +kernel
theorem dX6_laid_11 : decode cX6_laid 11 = .ok (.getfield 273, 3) := by decide +kernel
theorem dX6_laid_14 : decode cX6_laid 14 = .ok (.lreturn, 1) := by decide +kernel
theorem dX6_begins_0 : decode cX6_begins 0 = .ok (.iload_n 1, 1) := by decide +kernel
theorem dX6_begins_1 : decode cX6_begins 1 = .ok (.aload_n 0, 1) := by decide +kernel
theorem dX6_begins_2 : decode cX6_begins 2 = .ok (.getfield 49, 3) := by decide +kernel
theorem dX6_begins_5 : decode cX6_begins 5 = .ok (.getfield 276, 3) := by decide +kernel
theorem dX6_begins_8 : decode cX6_begins 8 = .ok (.invokestatic 66, 3) := by decide +kernel
theorem dX6_begins_11 : decode cX6_begins 11 = .ok (.ifCond .ne 5, 3) := by decide +kernel
theorem dX6_begins_14 : decode cX6_begins 14 = .ok (.iconst (-1), 1) := by decide +kernel
theorem dX6_begins_15 : decode cX6_begins 15 = .ok (.ireturn, 1) := by decide +kernel
theorem dX6_begins_16 : decode cX6_begins 16 = .ok (.aload_n 0, 1) := by decide +kernel
theorem dX6_begins_17 : decode cX6_begins 17 = .ok (.getfield 49, 3) := by decide +kernel
theorem dX6_begins_20 : decode cX6_begins 20 = .ok (.invokevirtual 270, 3) := by decide +kernel
theorem dX6_begins_23 : decode cX6_begins 23 = .ok (.aload_n 0, 1) := by decide +kernel
theorem dX6_begins_24 : decode cX6_begins 24 = .ok (.getfield 49, 3) := by decide +kernel
theorem dX6_begins_27 : decode cX6_begins 27 = .ok (.getfield 277, 3) := by decide +kernel
theorem dX6_begins_30 : decode cX6_begins 30 = .ok (.iload_n 1, 1) := by decide +kernel
theorem dX6_begins_31 : decode cX6_begins 31 = .ok (.invokestatic 228, 3) := by decide +kernel
theorem dX6_begins_34 : decode cX6_begins 34 = .ok (.ireturn, 1) := by decide +kernel
theorem dX6_clear_0 : decode cX6_clear 0 = .ok (.aload_n 0, 1) := by decide +kernel
theorem dX6_clear_1 : decode cX6_clear 1 = .ok (.getfield 49, 3) := by decide +kernel
theorem dX6_clear_4 : decode cX6_clear 4 = .ok (.getfield 276, 3) := by decide +kernel
theorem dX6_clear_7 : decode cX6_clear 7 = .ok (.istore_n 1, 1) := by decide +kernel
theorem dX6_clear_8 : decode cX6_clear 8 = .ok (.aload_n 0, 1) := by decide +kernel
theorem dX6_clear_9 : decode cX6_clear 9 = .ok (.getfield 49, 3) := by decide +kernel
theorem dX6_clear_12 : decode cX6_clear 12 = .ok (.invokevirtual 280, 3) := by decide +kernel
theorem dX6_clear_15 : decode cX6_clear 15 = .ok (.iload_n 1, 1) := by decide +kernel
theorem dX6_clear_16 : decode cX6_clear 16 = .ok (.ireturn, 1) := by decide +kernel
theorem dX6_count_0 : decode cX6_count 0 = .ok (.iload_n 1, 1) := by decide +kernel
theorem dX6_count_1 : decode cX6_count 1 = .ok (.tableswitch 141 0 11 #[63, 68, 73, 78, 83, 89, 95, 101, 107, 112, 117, 125], 63) := by decide +kernel
theorem dX6_count_64 : decode cX6_count 64 = .ok (.aload_n 0, 1) := by decide +kernel
theorem dX6_count_65 : decode cX6_count 65 = .ok (.getfield 63, 3) := by decide +kernel
theorem dX6_count_68 : decode cX6_count 68 = .ok (.ireturn, 1) := by decide +kernel
theorem dX6_count_69 : decode cX6_count 69 = .ok (.aload_n 0, 1) := by decide +kernel
theorem dX6_count_70 : decode cX6_count 70 = .ok (.getfield 77, 3) := by decide +kernel
theorem dX6_count_73 : decode cX6_count 73 = .ok (.ireturn, 1) := by decide +kernel
theorem dX6_count_74 : decode cX6_count 74 = .ok (.aload_n 0, 1) := by decide +kernel
theorem dX6_count_75 : decode cX6_count 75 = .ok (.getfield 90, 3) := by decide +kernel
theorem dX6_count_78 : decode cX6_count 78 = .ok (.ireturn, 1) := by decide +kernel
theorem dX6_count_79 : decode cX6_count 79 = .ok (.aload_n 0, 1) := by decide +kernel
theorem dX6_count_80 : decode cX6_count 80 = .ok (.getfield 100, 3) := by decide +kernel
theorem dX6_count_83 : decode cX6_count 83 = .ok (.ireturn, 1) := by decide +kernel
theorem dX6_count_84 : decode cX6_count 84 = .ok (.aload_n 0, 1) := by decide +kernel
theorem dX6_count_85 : decode cX6_count 85 = .ok (.iconst 0, 1) := by decide +kernel
theorem dX6_count_86 : decode cX6_count 86 = .ok (.invokevirtual 283, 3) := by decide +kernel
theorem dX6_count_89 : decode cX6_count 89 = .ok (.ireturn, 1) := by decide +kernel
theorem dX6_count_90 : decode cX6_count 90 = .ok (.aload_n 0, 1) := by decide +kernel
theorem dX6_count_91 : decode cX6_count 91 = .ok (.iconst 1, 1) := by decide +kernel
theorem dX6_count_92 : decode cX6_count 92 = .ok (.invokevirtual 283, 3) := by decide +kernel
theorem dX6_count_95 : decode cX6_count 95 = .ok (.ireturn, 1) := by decide +kernel
theorem dX6_count_96 : decode cX6_count 96 = .ok (.aload_n 0, 1) := by decide +kernel
theorem dX6_count_97 : decode cX6_count 97 = .ok (.iconst 2, 1) := by decide +kernel
theorem dX6_count_98 : decode cX6_count 98 = .ok (.invokevirtual 283, 3) := by decide +kernel
theorem dX6_count_101 : decode cX6_count 101 = .ok (.ireturn, 1) := by decide +kernel
theorem dX6_count_102 : decode cX6_count 102 = .ok (.aload_n 0, 1) := by decide +kernel
theorem dX6_count_103 : decode cX6_count 103 = .ok (.iconst 3, 1) := by decide +kernel
theorem dX6_count_104 : decode cX6_count 104 = .ok (.invokevirtual 283, 3) := by decide +kernel
theorem dX6_count_107 : decode cX6_count 107 = .ok (.ireturn, 1) := by decide +kernel
theorem dX6_count_108 : decode cX6_count 108 = .ok (.aload_n 0, 1) := by decide +kernel
theorem dX6_count_109 : decode cX6_count 109 = .ok (.getfield 286, 3) := by decide +kernel
theorem dX6_count_112 : decode cX6_count 112 = .ok (.ireturn, 1) := by decide +kernel
theorem dX6_count_113 : decode cX6_count 113 = .ok (.aload_n 0, 1) := by decide +kernel
theorem dX6_count_114 : decode cX6_count 114 = .ok (.getfield 289, 3) := by decide +kernel
theorem dX6_count_117 : decode cX6_count 117 = .ok (.ireturn, 1) := by decide +kernel
theorem dX6_count_118 : decode cX6_count 118 = .ok (.aload_n 0, 1) := by decide +kernel
theorem dX6_count_119 : decode cX6_count 119 = .ok (.getfield 49, 3) := by decide +kernel
theorem dX6_count_122 : decode cX6_count 122 = .ok (.getfield 276, 3) := by decide +kernel
theorem dX6_count_125 : decode cX6_count 125 = .ok (.ireturn, 1) := by decide +kernel
theorem dX6_count_126 : decode cX6_count 126 = .ok (.aload_n 0, 1) := by decide +kernel
theorem dX6_count_127 : decode cX6_count 127 = .ok (.getfield 32, 3) := by decide +kernel
theorem dX6_count_130 : decode cX6_count 130 = .ok (.getfield 292, 3) := by decide +kernel
theorem dX6_count_133 : decode cX6_count 133 = .ok (.aload_n 0, 1) := by decide +kernel
theorem dX6_count_134 : decode cX6_count 134 = .ok (.getfield 36, 3) := by decide +kernel
theorem dX6_count_137 : decode cX6_count 137 = .ok (.getfield 292, 3) := by decide +kernel
theorem dX6_count_140 : decode cX6_count 140 = .ok (.iadd, 1) := by decide +kernel
theorem dX6_count_141 : decode cX6_count 141 = .ok (.ireturn, 1) := by decide +kernel
theorem dX6_count_142 : decode cX6_count 142 = .ok (.iconst (-1), 1) := by decide +kernel
theorem dX6_count_143 : decode cX6_count 143 = .ok (.ireturn, 1) := by decide +kernel
theorem dX6_within_0 : decode cX6_within 0 = .ok (.iload_n 0, 1) := by decide +kernel
theorem dX6_within_1 : decode cX6_within 1 = .ok (.ifCond .lt 12, 3) := by decide +kernel
theorem dX6_within_4 : decode cX6_within 4 = .ok (.iload_n 0, 1) := by decide +kernel
theorem dX6_within_5 : decode cX6_within 5 = .ok (.iload_n 1, 1) := by decide +kernel
theorem dX6_within_6 : decode cX6_within 6 = .ok (.if_icmp .ge 7, 3) := by decide +kernel
theorem dX6_within_9 : decode cX6_within 9 = .ok (.iconst 1, 1) := by decide +kernel
theorem dX6_within_10 : decode cX6_within 10 = .ok (.goto 4, 3) := by decide +kernel
theorem dX6_within_13 : decode cX6_within 13 = .ok (.iconst 0, 1) := by decide +kernel
theorem dX6_within_14 : decode cX6_within 14 = .ok (.ireturn, 1) := by decide +kernel
theorem dX6_at_0 : decode cX6_at 0 = .ok (.aload_n 0, 1) := by decide +kernel
theorem dX6_at_1 : decode cX6_at 1 = .ok (.ifnull 19, 3) := by decide +kernel
theorem dX6_at_4 : decode cX6_at 4 = .ok (.iload_n 1, 1) := by decide +kernel
theorem dX6_at_5 : decode cX6_at 5 = .ok (.ifCond .lt 15, 3) := by decide +kernel
theorem dX6_at_8 : decode cX6_at 8 = .ok (.iload_n 1, 1) := by decide +kernel
theorem dX6_at_9 : decode cX6_at 9 = .ok (.aload_n 0, 1) := by decide +kernel
theorem dX6_at_10 : decode cX6_at 10 = .ok (.arraylength, 1) := by decide +kernel
theorem dX6_at_11 : decode cX6_at 11 = .ok (.if_icmp .ge 9, 3) := by decide +kernel
theorem dX6_at_14 : decode cX6_at 14 = .ok (.aload_n 0, 1) := by decide +kernel
theorem dX6_at_15 : decode cX6_at 15 = .ok (.iload_n 1, 1) := by decide +kernel
theorem dX6_at_16 : decode cX6_at 16 = .ok (.iaload, 1) := by decide +kernel
theorem dX6_at_17 : decode cX6_at 17 = .ok (.goto 4, 3) := by decide +kernel
theorem dX6_at_20 : decode cX6_at 20 = .ok (.iconst 0, 1) := by decide +kernel
theorem dX6_at_21 : decode cX6_at 21 = .ok (.ireturn, 1) := by decide +kernel
theorem dX6_at__0 : decode cX6_at_ 0 = .ok (.aload_n 0, 1) := by decide +kernel
theorem dX6_at__1 : decode cX6_at_ 1 = .ok (.ifnull 19, 3) := by decide +kernel
theorem dX6_at__4 : decode cX6_at_ 4 = .ok (.iload_n 1, 1) := by decide +kernel
theorem dX6_at__5 : decode cX6_at_ 5 = .ok (.ifCond .lt 15, 3) := by decide +kernel
theorem dX6_at__8 : decode cX6_at_ 8 = .ok (.iload_n 1, 1) := by decide +kernel
theorem dX6_at__9 : decode cX6_at_ 9 = .ok (.aload_n 0, 1) := by decide +kernel
theorem dX6_at__10 : decode cX6_at_ 10 = .ok (.arraylength, 1) := by decide +kernel
theorem dX6_at__11 : decode cX6_at_ 11 = .ok (.if_icmp .ge 9, 3) := by decide +kernel
theorem dX6_at__14 : decode cX6_at_ 14 = .ok (.aload_n 0, 1) := by decide +kernel
theorem dX6_at__15 : decode cX6_at_ 15 = .ok (.iload_n 1, 1) := by decide +kernel
theorem dX6_at__16 : decode cX6_at_ 16 = .ok (.laload, 1) := by decide +kernel
theorem dX6_at__17 : decode cX6_at_ 17 = .ok (.goto 4, 3) := by decide +kernel
theorem dX6_at__20 : decode cX6_at_ 20 = .ok (.lconst 0, 1) := by decide +kernel
theorem dX6_at__21 : decode cX6_at_ 21 = .ok (.lreturn, 1) := by decide +kernel
theorem dX6_put_0 : decode cX6_put 0 = .ok (.aload_n 0, 1) := by decide +kernel
theorem dX6_put_1 : decode cX6_put 1 = .ok (.ifnull 17, 3) := by decide +kernel
theorem dX6_put_4 : decode cX6_put 4 = .ok (.iload_n 1, 1) := by decide +kernel
theorem dX6_put_5 : decode cX6_put 5 = .ok (.ifCond .lt 13, 3) := by decide +kernel
theorem dX6_put_8 : decode cX6_put 8 = .ok (.iload_n 1, 1) := by decide +kernel
theorem dX6_put_9 : decode cX6_put 9 = .ok (.aload_n 0, 1) := by decide +kernel
theorem dX6_put_10 : decode cX6_put 10 = .ok (.arraylength, 1) := by decide +kernel
theorem dX6_put_11 : decode cX6_put 11 = .ok (.if_icmp .ge 7, 3) := by decide +kernel
theorem dX6_put_14 : decode cX6_put 14 = .ok (.aload_n 0, 1) := by decide +kernel
theorem dX6_put_15 : decode cX6_put 15 = .ok (.iload_n 1, 1) := by decide +kernel
theorem dX6_put_16 : decode cX6_put 16 = .ok (.iload_n 2, 1) := by decide +kernel
theorem dX6_put_17 : decode cX6_put 17 = .ok (.iastore, 1) := by decide +kernel
theorem dX6_put_18 : decode cX6_put 18 = .ok (.return_, 1) := by decide +kernel
theorem dX6_tapeAt_0 : decode cX6_tapeAt 0 = .ok (.iload_n 1, 1) := by decide +kernel
theorem dX6_tapeAt_1 : decode cX6_tapeAt 1 = .ok (.ifCond .lt 21, 3) := by decide +kernel
theorem dX6_tapeAt_4 : decode cX6_tapeAt 4 = .ok (.iload_n 1, 1) := by decide +kernel
theorem dX6_tapeAt_5 : decode cX6_tapeAt 5 = .ok (.aload_n 0, 1) := by decide +kernel
theorem dX6_tapeAt_6 : decode cX6_tapeAt 6 = .ok (.getfield 11, 3) := by decide +kernel
theorem dX6_tapeAt_9 : decode cX6_tapeAt 9 = .ok (.arraylength, 1) := by decide +kernel
theorem dX6_tapeAt_10 : decode cX6_tapeAt 10 = .ok (.if_icmp .ge 12, 3) := by decide +kernel
theorem dX6_tapeAt_13 : decode cX6_tapeAt 13 = .ok (.aload_n 0, 1) := by decide +kernel
theorem dX6_tapeAt_14 : decode cX6_tapeAt 14 = .ok (.getfield 11, 3) := by decide +kernel
theorem dX6_tapeAt_17 : decode cX6_tapeAt 17 = .ok (.iload_n 1, 1) := by decide +kernel
theorem dX6_tapeAt_18 : decode cX6_tapeAt 18 = .ok (.aaload, 1) := by decide +kernel
theorem dX6_tapeAt_19 : decode cX6_tapeAt 19 = .ok (.goto 4, 3) := by decide +kernel
theorem dX6_tapeAt_22 : decode cX6_tapeAt 22 = .ok (.aconst_null, 1) := by decide +kernel
theorem dX6_tapeAt_23 : decode cX6_tapeAt 23 = .ok (.areturn, 1) := by decide +kernel
theorem dX6_readerAt_0 : decode cX6_readerAt 0 = .ok (.iload_n 1, 1) := by decide +kernel
theorem dX6_readerAt_1 : decode cX6_readerAt 1 = .ok (.ifCond .lt 21, 3) := by decide +kernel
theorem dX6_readerAt_4 : decode cX6_readerAt 4 = .ok (.iload_n 1, 1) := by decide +kernel
theorem dX6_readerAt_5 : decode cX6_readerAt 5 = .ok (.aload_n 0, 1) := by decide +kernel
theorem dX6_readerAt_6 : decode cX6_readerAt 6 = .ok (.getfield 17, 3) := by decide +kernel
theorem dX6_readerAt_9 : decode cX6_readerAt 9 = .ok (.arraylength, 1) := by decide +kernel
theorem dX6_readerAt_10 : decode cX6_readerAt 10 = .ok (.if_icmp .ge 12, 3) := by decide +kernel
theorem dX6_readerAt_13 : decode cX6_readerAt 13 = .ok (.aload_n 0, 1) := by decide +kernel
theorem dX6_readerAt_14 : decode cX6_readerAt 14 = .ok (.getfield 17, 3) := by decide +kernel
theorem dX6_readerAt_17 : decode cX6_readerAt 17 = .ok (.iload_n 1, 1) := by decide +kernel
theorem dX6_readerAt_18 : decode cX6_readerAt 18 = .ok (.aaload, 1) := by decide +kernel
theorem dX6_readerAt_19 : decode cX6_readerAt 19 = .ok (.goto 4, 3) := by decide +kernel
theorem dX6_readerAt_22 : decode cX6_readerAt 22 = .ok (.aconst_null, 1) := by decide +kernel
theorem dX6_readerAt_23 : decode cX6_readerAt 23 = .ok (.areturn, 1) := by decide +kernel
theorem dX6_askAt_0 : decode cX6_askAt 0 = .ok (.iload_n 1, 1) := by decide +kernel
theorem dX6_askAt_1 : decode cX6_askAt 1 = .ok (.ifCond .lt 21, 3) := by decide +kernel
theorem dX6_askAt_4 : decode cX6_askAt 4 = .ok (.iload_n 1, 1) := by decide +kernel
theorem dX6_askAt_5 : decode cX6_askAt 5 = .ok (.aload_n 0, 1) := by decide +kernel
theorem dX6_askAt_6 : decode cX6_askAt 6 = .ok (.getfield 23, 3) := by decide +kernel
theorem dX6_askAt_9 : decode cX6_askAt 9 = .ok (.arraylength, 1) := by decide +kernel
theorem dX6_askAt_10 : decode cX6_askAt 10 = .ok (.if_icmp .ge 12, 3) := by decide +kernel
theorem dX6_askAt_13 : decode cX6_askAt 13 = .ok (.aload_n 0, 1) := by decide +kernel
theorem dX6_askAt_14 : decode cX6_askAt 14 = .ok (.getfield 23, 3) := by decide +kernel
theorem dX6_askAt_17 : decode cX6_askAt 17 = .ok (.iload_n 1, 1) := by decide +kernel
theorem dX6_askAt_18 : decode cX6_askAt 18 = .ok (.aaload, 1) := by decide +kernel
theorem dX6_askAt_19 : decode cX6_askAt 19 = .ok (.goto 4, 3) := by decide +kernel
theorem dX6_askAt_22 : decode cX6_askAt 22 = .ok (.aconst_null, 1) := by decide +kernel
theorem dX6_askAt_23 : decode cX6_askAt 23 = .ok (.areturn, 1) := by decide +kernel
theorem dX6_isHome_0 : decode cX6_isHome 0 = .ok (.iconst 0, 1) := by decide +kernel
theorem dX6_isHome_1 : decode cX6_isHome 1 = .ok (.istore_n 2, 1) := by decide +kernel
theorem dX6_isHome_2 : decode cX6_isHome 2 = .ok (.iload_n 2, 1) := by decide +kernel
theorem dX6_isHome_3 : decode cX6_isHome 3 = .ok (.aload_n 0, 1) := by decide +kernel
theorem dX6_isHome_4 : decode cX6_isHome 4 = .ok (.getfield 11, 3) := by decide +kernel
theorem dX6_isHome_7 : decode cX6_isHome 7 = .ok (.arraylength, 1) := by decide +kernel
theorem dX6_isHome_8 : decode cX6_isHome 8 = .ok (.if_icmp .ge 30, 3) := by decide +kernel
theorem dX6_isHome_11 : decode cX6_isHome 11 = .ok (.aload_n 0, 1) := by decide +kernel
theorem dX6_isHome_12 : decode cX6_isHome 12 = .ok (.getfield 11, 3) := by decide +kernel
theorem dX6_isHome_15 : decode cX6_isHome 15 = .ok (.iload_n 2, 1) := by decide +kernel
theorem dX6_isHome_16 : decode cX6_isHome 16 = .ok (.aaload, 1) := by decide +kernel
theorem dX6_isHome_17 : decode cX6_isHome 17 = .ok (.astore_n 3, 1) := by decide +kernel
theorem dX6_isHome_18 : decode cX6_isHome 18 = .ok (.aload_n 3, 1) := by decide +kernel
theorem dX6_isHome_19 : decode cX6_isHome 19 = .ok (.ifnull 13, 3) := by decide +kernel
theorem dX6_isHome_22 : decode cX6_isHome 22 = .ok (.aload_n 3, 1) := by decide +kernel
theorem dX6_isHome_23 : decode cX6_isHome 23 = .ok (.getfield 159, 3) := by decide +kernel
theorem dX6_isHome_26 : decode cX6_isHome 26 = .ok (.iload_n 1, 1) := by decide +kernel
theorem dX6_isHome_27 : decode cX6_isHome 27 = .ok (.if_icmp .ne 5, 3) := by decide +kernel
theorem dX6_isHome_30 : decode cX6_isHome 30 = .ok (.iconst 1, 1) := by decide +kernel
theorem dX6_isHome_31 : decode cX6_isHome 31 = .ok (.ireturn, 1) := by decide +kernel
theorem dX6_isHome_32 : decode cX6_isHome 32 = .ok (.iinc 2 1, 3) := by decide +kernel
theorem dX6_isHome_35 : decode cX6_isHome 35 = .ok (.goto (-33), 3) := by decide +kernel
theorem dX6_isHome_38 : decode cX6_isHome 38 = .ok (.iconst 0, 1) := by decide +kernel
theorem dX6_isHome_39 : decode cX6_isHome 39 = .ok (.ireturn, 1) := by decide +kernel
theorem dX6_isReaderSlot_0 : decode cX6_isReaderSlot 0 = .ok (.iconst 0, 1) := by decide +kernel
theorem dX6_isReaderSlot_1 : decode cX6_isReaderSlot 1 = .ok (.istore_n 2, 1) := by decide +kernel
theorem dX6_isReaderSlot_2 : decode cX6_isReaderSlot 2 = .ok (.iload_n 2, 1) := by decide +kernel
theorem dX6_isReaderSlot_3 : decode cX6_isReaderSlot 3 = .ok (.aload_n 0, 1) := by decide +kernel
theorem dX6_isReaderSlot_4 : decode cX6_isReaderSlot 4 = .ok (.getfield 17, 3) := by decide +kernel
theorem dX6_isReaderSlot_7 : decode cX6_isReaderSlot 7 = .ok (.arraylength, 1) := by decide +kernel
theorem dX6_isReaderSlot_8 : decode cX6_isReaderSlot 8 = .ok (.if_icmp .ge 30, 3) := by decide +kernel
theorem dX6_isReaderSlot_11 : decode cX6_isReaderSlot 11 = .ok (.aload_n 0, 1) := by decide +kernel
theorem dX6_isReaderSlot_12 : decode cX6_isReaderSlot 12 = .ok (.getfield 17, 3) := by decide +kernel
theorem dX6_isReaderSlot_15 : decode cX6_isReaderSlot 15 = .ok (.iload_n 2, 1) := by decide +kernel
theorem dX6_isReaderSlot_16 : decode cX6_isReaderSlot 16 = .ok (.aaload, 1) := by decide +kernel
theorem dX6_isReaderSlot_17 : decode cX6_isReaderSlot 17 = .ok (.astore_n 3, 1) := by decide +kernel
theorem dX6_isReaderSlot_18 : decode cX6_isReaderSlot 18 = .ok (.aload_n 3, 1) := by decide +kernel
theorem dX6_isReaderSlot_19 : decode cX6_isReaderSlot 19 = .ok (.ifnull 13, 3) := by decide +kernel
theorem dX6_isReaderSlot_22 : decode cX6_isReaderSlot 22 = .ok (.aload_n 3, 1) := by decide +kernel
theorem dX6_isReaderSlot_23 : decode cX6_isReaderSlot 23 = .ok (.getfield 145, 3) := by decide +kernel
theorem dX6_isReaderSlot_26 : decode cX6_isReaderSlot 26 = .ok (.iload_n 1, 1) := by decide +kernel
theorem dX6_isReaderSlot_27 : decode cX6_isReaderSlot 27 = .ok (.if_icmp .ne 5, 3) := by decide +kernel
theorem dX6_isReaderSlot_30 : decode cX6_isReaderSlot 30 = .ok (.iconst 1, 1) := by decide +kernel
theorem dX6_isReaderSlot_31 : decode cX6_isReaderSlot 31 = .ok (.ireturn, 1) := by decide +kernel
theorem dX6_isReaderSlot_32 : decode cX6_isReaderSlot 32 = .ok (.iinc 2 1, 3) := by decide +kernel
theorem dX6_isReaderSlot_35 : decode cX6_isReaderSlot 35 = .ok (.goto (-33), 3) := by decide +kernel
theorem dX6_isReaderSlot_38 : decode cX6_isReaderSlot 38 = .ok (.iconst 0, 1) := by decide +kernel
theorem dX6_isReaderSlot_39 : decode cX6_isReaderSlot 39 = .ok (.ireturn, 1) := by decide +kernel
theorem dX6_isAsk_0 : decode cX6_isAsk 0 = .ok (.iload_n 0, 1) := by decide +kernel
theorem dX6_isAsk_1 : decode cX6_isAsk 1 = .ok (.tableswitch 78 0 4 #[35, 41, 35, 68, 35], 35) := by decide +kernel
theorem dX6_isAsk_36 : decode cX6_isAsk 36 = .ok (.iload_n 2, 1) := by decide +kernel
theorem dX6_isAsk_37 : decode cX6_isAsk 37 = .ok (.iload_n 1, 1) := by decide +kernel
theorem dX6_isAsk_38 : decode cX6_isAsk 38 = .ok (.invokestatic 66, 3) := by decide +kernel
theorem dX6_isAsk_41 : decode cX6_isAsk 41 = .ok (.ireturn, 1) := by decide +kernel
theorem dX6_isAsk_42 : decode cX6_isAsk 42 = .ok (.iload_n 2, 1) := by decide +kernel
theorem dX6_isAsk_43 : decode cX6_isAsk 43 = .ok (.iload_n 3, 1) := by decide +kernel
theorem dX6_isAsk_44 : decode cX6_isAsk 44 = .ok (.if_icmp .gt 23, 3) := by decide +kernel
theorem dX6_isAsk_47 : decode cX6_isAsk 47 = .ok (.iload_n 2, 1) := by decide +kernel
theorem dX6_isAsk_48 : decode cX6_isAsk 48 = .ok (.iload_n 1, 1) := by decide +kernel
theorem dX6_isAsk_49 : decode cX6_isAsk 49 = .ok (.invokestatic 66, 3) := by decide +kernel
theorem dX6_isAsk_52 : decode cX6_isAsk 52 = .ok (.ifCond .eq 15, 3) := by decide +kernel
theorem dX6_isAsk_55 : decode cX6_isAsk 55 = .ok (.iload_n 3, 1) := by decide +kernel
theorem dX6_isAsk_56 : decode cX6_isAsk 56 = .ok (.iload_n 1, 1) := by decide +kernel
theorem dX6_isAsk_57 : decode cX6_isAsk 57 = .ok (.invokestatic 66, 3) := by decide +kernel
theorem dX6_isAsk_60 : decode cX6_isAsk 60 = .ok (.ifCond .eq 7, 3) := by decide +kernel
theorem dX6_isAsk_63 : decode cX6_isAsk 63 = .ok (.iconst 1, 1) := by decide +kernel
theorem dX6_isAsk_64 : decode cX6_isAsk 64 = .ok (.goto 4, 3) := by decide +kernel
theorem dX6_isAsk_67 : decode cX6_isAsk 67 = .ok (.iconst 0, 1) := by decide +kernel
theorem dX6_isAsk_68 : decode cX6_isAsk 68 = .ok (.ireturn, 1) := by decide +kernel
theorem dX6_isAsk_69 : decode cX6_isAsk 69 = .ok (.iload_n 2, 1) := by decide +kernel
theorem dX6_isAsk_70 : decode cX6_isAsk 70 = .ok (.ifCond .lt 7, 3) := by decide +kernel
theorem dX6_isAsk_73 : decode cX6_isAsk 73 = .ok (.iconst 1, 1) := by decide +kernel
theorem dX6_isAsk_74 : decode cX6_isAsk 74 = .ok (.goto 4, 3) := by decide +kernel
theorem dX6_isAsk_77 : decode cX6_isAsk 77 = .ok (.iconst 0, 1) := by decide +kernel
theorem dX6_isAsk_78 : decode cX6_isAsk 78 = .ok (.ireturn, 1) := by decide +kernel
theorem dX6_isAsk_79 : decode cX6_isAsk 79 = .ok (.iconst 0, 1) := by decide +kernel
theorem dX6_isAsk_80 : decode cX6_isAsk 80 = .ok (.ireturn, 1) := by decide +kernel
theorem dX6_asksThatAre_0 : decode cX6_asksThatAre 0 = .ok (.iconst 0, 1) := by decide +kernel
theorem dX6_asksThatAre_1 : decode cX6_asksThatAre 1 = .ok (.istore_n 2, 1) := by decide +kernel
theorem dX6_asksThatAre_2 : decode cX6_asksThatAre 2 = .ok (.iconst 0, 1) := by decide +kernel
theorem dX6_asksThatAre_3 : decode cX6_asksThatAre 3 = .ok (.istore_n 3, 1) := by decide +kernel
theorem dX6_asksThatAre_4 : decode cX6_asksThatAre 4 = .ok (.iload_n 3, 1) := by decide +kernel
theorem dX6_asksThatAre_5 : decode cX6_asksThatAre 5 = .ok (.aload_n 0, 1) := by decide +kernel
theorem dX6_asksThatAre_6 : decode cX6_asksThatAre 6 = .ok (.getfield 23, 3) := by decide +kernel
theorem dX6_asksThatAre_9 : decode cX6_asksThatAre 9 = .ok (.arraylength, 1) := by decide +kernel
theorem dX6_asksThatAre_10 : decode cX6_asksThatAre 10 = .ok (.if_icmp .ge 34, 3) := by decide +kernel
theorem dX6_asksThatAre_13 : decode cX6_asksThatAre 13 = .ok (.aload_n 0, 1) := by decide +kernel
theorem dX6_asksThatAre_14 : decode cX6_asksThatAre 14 = .ok (.getfield 23, 3) := by decide +kernel
theorem dX6_asksThatAre_17 : decode cX6_asksThatAre 17 = .ok (.iload_n 3, 1) := by decide +kernel
theorem dX6_asksThatAre_18 : decode cX6_asksThatAre 18 = .ok (.aaload, 1) := by decide +kernel
theorem dX6_asksThatAre_19 : decode cX6_asksThatAre 19 = .ok (.astore 4, 2) := by decide +kernel
theorem dX6_asksThatAre_21 : decode cX6_asksThatAre 21 = .ok (.aload 4, 2) := by decide +kernel
theorem dX6_asksThatAre_23 : decode cX6_asksThatAre 23 = .ok (.ifnull 15, 3) := by decide +kernel
theorem dX6_asksThatAre_26 : decode cX6_asksThatAre 26 = .ok (.aload 4, 2) := by decide +kernel
theorem dX6_asksThatAre_28 : decode cX6_asksThatAre 28 = .ok (.getfield 201, 3) := by decide +kernel
theorem dX6_asksThatAre_31 : decode cX6_asksThatAre 31 = .ok (.iload_n 1, 1) := by decide +kernel
theorem dX6_asksThatAre_32 : decode cX6_asksThatAre 32 = .ok (.if_icmp .ne 6, 3) := by decide +kernel
theorem dX6_asksThatAre_35 : decode cX6_asksThatAre 35 = .ok (.iinc 2 1, 3) := by decide +kernel
theorem dX6_asksThatAre_38 : decode cX6_asksThatAre 38 = .ok (.iinc 3 1, 3) := by decide +kernel
theorem dX6_asksThatAre_41 : decode cX6_asksThatAre 41 = .ok (.goto (-37), 3) := by decide +kernel
theorem dX6_asksThatAre_44 : decode cX6_asksThatAre 44 = .ok (.iload_n 2, 1) := by decide +kernel
theorem dX6_asksThatAre_45 : decode cX6_asksThatAre 45 = .ok (.ireturn, 1) := by decide +kernel
theorem dX6_waitingOf_0 : decode cX6_waitingOf 0 = .ok (.iconst 0, 1) := by decide +kernel
theorem dX6_waitingOf_1 : decode cX6_waitingOf 1 = .ok (.istore_n 2, 1) := by decide +kernel
theorem dX6_waitingOf_2 : decode cX6_waitingOf 2 = .ok (.iconst 0, 1) := by decide +kernel
theorem dX6_waitingOf_3 : decode cX6_waitingOf 3 = .ok (.istore_n 3, 1) := by decide +kernel
theorem dX6_waitingOf_4 : decode cX6_waitingOf 4 = .ok (.iload_n 3, 1) := by decide +kernel
theorem dX6_waitingOf_5 : decode cX6_waitingOf 5 = .ok (.aload_n 0, 1) := by decide +kernel
theorem dX6_waitingOf_6 : decode cX6_waitingOf 6 = .ok (.getfield 23, 3) := by decide +kernel
theorem dX6_waitingOf_9 : decode cX6_waitingOf 9 = .ok (.arraylength, 1) := by decide +kernel
theorem dX6_waitingOf_10 : decode cX6_waitingOf 10 = .ok (.if_icmp .ge 42, 3) := by decide +kernel
theorem dX6_waitingOf_13 : decode cX6_waitingOf 13 = .ok (.aload_n 0, 1) := by decide +kernel
theorem dX6_waitingOf_14 : decode cX6_waitingOf 14 = .ok (.getfield 23, 3) := by decide +kernel
theorem dX6_waitingOf_17 : decode cX6_waitingOf 17 = .ok (.iload_n 3, 1) := by decide +kernel
theorem dX6_waitingOf_18 : decode cX6_waitingOf 18 = .ok (.aaload, 1) := by decide +kernel
theorem dX6_waitingOf_19 : decode cX6_waitingOf 19 = .ok (.astore 4, 2) := by decide +kernel
theorem dX6_waitingOf_21 : decode cX6_waitingOf 21 = .ok (.aload 4, 2) := by decide +kernel
theorem dX6_waitingOf_23 : decode cX6_waitingOf 23 = .ok (.ifnull 23, 3) := by decide +kernel
theorem dX6_waitingOf_26 : decode cX6_waitingOf 26 = .ok (.aload 4, 2) := by decide +kernel
theorem dX6_waitingOf_28 : decode cX6_waitingOf 28 = .ok (.getfield 200, 3) := by decide +kernel
theorem dX6_waitingOf_31 : decode cX6_waitingOf 31 = .ok (.iload_n 1, 1) := by decide +kernel
theorem dX6_waitingOf_32 : decode cX6_waitingOf 32 = .ok (.if_icmp .ne 14, 3) := by decide +kernel
theorem dX6_waitingOf_35 : decode cX6_waitingOf 35 = .ok (.aload 4, 2) := by decide +kernel
theorem dX6_waitingOf_37 : decode cX6_waitingOf 37 = .ok (.getfield 201, 3) := by decide +kernel
theorem dX6_waitingOf_40 : decode cX6_waitingOf 40 = .ok (.ifCond .ne 6, 3) := by decide +kernel
theorem dX6_waitingOf_43 : decode cX6_waitingOf 43 = .ok (.iinc 2 1, 3) := by decide +kernel
theorem dX6_waitingOf_46 : decode cX6_waitingOf 46 = .ok (.iinc 3 1, 3) := by decide +kernel
theorem dX6_waitingOf_49 : decode cX6_waitingOf 49 = .ok (.goto (-45), 3) := by decide +kernel
theorem dX6_waitingOf_52 : decode cX6_waitingOf 52 = .ok (.iload_n 2, 1) := by decide +kernel
theorem dX6_waitingOf_53 : decode cX6_waitingOf 53 = .ok (.ireturn, 1) := by decide +kernel
theorem dX6_changeWaiting_0 : decode cX6_changeWaiting 0 = .ok (.aload_n 0, 1) := by decide +kernel
theorem dX6_changeWaiting_1 : decode cX6_changeWaiting 1 = .ok (.iconst (-1), 1) := by decide +kernel
theorem dX6_changeWaiting_2 : decode cX6_changeWaiting 2 = .ok (.putfield 60, 3) := by decide +kernel
theorem dX6_changeWaiting_5 : decode cX6_changeWaiting 5 = .ok (.aload_n 1, 1) := by decide +kernel
theorem dX6_changeWaiting_6 : decode cX6_changeWaiting 6 = .ok (.invokevirtual 295, 3) := by decide +kernel
theorem dX6_changeWaiting_9 : decode cX6_changeWaiting 9 = .ok (.ifCond .eq 14, 3) := by decide +kernel
theorem dX6_changeWaiting_12 : decode cX6_changeWaiting 12 = .ok (.aload_n 0, 1) := by decide +kernel
theorem dX6_changeWaiting_13 : decode cX6_changeWaiting 13 = .ok (.dup, 1) := by decide +kernel
theorem dX6_changeWaiting_14 : decode cX6_changeWaiting 14 = .ok (.getfield 298, 3) := by decide +kernel
theorem dX6_changeWaiting_17 : decode cX6_changeWaiting 17 = .ok (.iload_n 2, 1) := by decide +kernel
theorem dX6_changeWaiting_18 : decode cX6_changeWaiting 18 = .ok (.iadd, 1) := by decide +kernel
theorem dX6_changeWaiting_19 : decode cX6_changeWaiting 19 = .ok (.putfield 298, 3) := by decide +kernel
theorem dX6_changeWaiting_22 : decode cX6_changeWaiting 22 = .ok (.return_, 1) := by decide +kernel
theorem dX6_changeWaiting_23 : decode cX6_changeWaiting 23 = .ok (.aload_n 0, 1) := by decide +kernel
theorem dX6_changeWaiting_24 : decode cX6_changeWaiting 24 = .ok (.dup, 1) := by decide +kernel
theorem dX6_changeWaiting_25 : decode cX6_changeWaiting 25 = .ok (.getfield 301, 3) := by decide +kernel
theorem dX6_changeWaiting_28 : decode cX6_changeWaiting 28 = .ok (.iload_n 2, 1) := by decide +kernel
theorem dX6_changeWaiting_29 : decode cX6_changeWaiting 29 = .ok (.iadd, 1) := by decide +kernel
theorem dX6_changeWaiting_30 : decode cX6_changeWaiting 30 = .ok (.putfield 301, 3) := by decide +kernel
theorem dX6_changeWaiting_33 : decode cX6_changeWaiting 33 = .ok (.aload_n 0, 1) := by decide +kernel
theorem dX6_changeWaiting_34 : decode cX6_changeWaiting 34 = .ok (.aload_n 1, 1) := by decide +kernel
theorem dX6_changeWaiting_35 : decode cX6_changeWaiting 35 = .ok (.getfield 200, 3) := by decide +kernel
theorem dX6_changeWaiting_38 : decode cX6_changeWaiting 38 = .ok (.invokevirtual 86, 3) := by decide +kernel
theorem dX6_changeWaiting_41 : decode cX6_changeWaiting 41 = .ok (.astore_n 3, 1) := by decide +kernel
theorem dX6_changeWaiting_42 : decode cX6_changeWaiting 42 = .ok (.aload_n 3, 1) := by decide +kernel
theorem dX6_changeWaiting_43 : decode cX6_changeWaiting 43 = .ok (.ifnull 33, 3) := by decide +kernel
theorem dX6_changeWaiting_46 : decode cX6_changeWaiting 46 = .ok (.aload_n 3, 1) := by decide +kernel
theorem dX6_changeWaiting_47 : decode cX6_changeWaiting 47 = .ok (.dup, 1) := by decide +kernel
theorem dX6_changeWaiting_48 : decode cX6_changeWaiting 48 = .ok (.getfield 304, 3) := by decide +kernel
theorem dX6_changeWaiting_51 : decode cX6_changeWaiting 51 = .ok (.iload_n 2, 1) := by decide +kernel
theorem dX6_changeWaiting_52 : decode cX6_changeWaiting 52 = .ok (.iadd, 1) := by decide +kernel
theorem dX6_changeWaiting_53 : decode cX6_changeWaiting 53 = .ok (.putfield 304, 3) := by decide +kernel
theorem dX6_changeWaiting_56 : decode cX6_changeWaiting 56 = .ok (.aload_n 3, 1) := by decide +kernel
theorem dX6_changeWaiting_57 : decode cX6_changeWaiting 57 = .ok (.dup, 1) := by decide +kernel
theorem dX6_changeWaiting_58 : decode cX6_changeWaiting 58 = .ok (.getfield 307, 3) := by decide +kernel
theorem dX6_changeWaiting_61 : decode cX6_changeWaiting 61 = .ok (.iload_n 2, 1) := by decide +kernel
theorem dX6_changeWaiting_62 : decode cX6_changeWaiting 62 = .ok (.aload_n 1, 1) := by decide +kernel
theorem dX6_changeWaiting_63 : decode cX6_changeWaiting 63 = .ok (.invokevirtual 310, 3) := by decide +kernel
theorem dX6_changeWaiting_66 : decode cX6_changeWaiting 66 = .ok (.aload_n 1, 1) := by decide +kernel
theorem dX6_changeWaiting_67 : decode cX6_changeWaiting 67 = .ok (.getfield 202, 3) := by decide +kernel
theorem dX6_changeWaiting_70 : decode cX6_changeWaiting 70 = .ok (.isub, 1) := by decide +kernel
theorem dX6_changeWaiting_71 : decode cX6_changeWaiting 71 = .ok (.imul, 1) := by decide +kernel
theorem dX6_changeWaiting_72 : decode cX6_changeWaiting 72 = .ok (.iadd, 1) := by decide +kernel
theorem dX6_changeWaiting_73 : decode cX6_changeWaiting 73 = .ok (.putfield 307, 3) := by decide +kernel
theorem dX6_changeWaiting_76 : decode cX6_changeWaiting 76 = .ok (.return_, 1) := by decide +kernel
theorem dX6_wayTo_0 : decode cX6_wayTo 0 = .ok (.iload_n 2, 1) := by decide +kernel
theorem dX6_wayTo_1 : decode cX6_wayTo 1 = .ok (.iload_n 0, 1) := by decide +kernel
theorem dX6_wayTo_2 : decode cX6_wayTo 2 = .ok (.if_icmp .le 7, 3) := by decide +kernel
theorem dX6_wayTo_5 : decode cX6_wayTo 5 = .ok (.iconst 1, 1) := by decide +kernel
theorem dX6_wayTo_6 : decode cX6_wayTo 6 = .ok (.goto 13, 3) := by decide +kernel
theorem dX6_wayTo_9 : decode cX6_wayTo 9 = .ok (.iload_n 2, 1) := by decide +kernel
theorem dX6_wayTo_10 : decode cX6_wayTo 10 = .ok (.iload_n 0, 1) := by decide +kernel
theorem dX6_wayTo_11 : decode cX6_wayTo 11 = .ok (.if_icmp .ge 7, 3) := by decide +kernel
theorem dX6_wayTo_14 : decode cX6_wayTo 14 = .ok (.iconst (-1), 1) := by decide +kernel
theorem dX6_wayTo_15 : decode cX6_wayTo 15 = .ok (.goto 4, 3) := by decide +kernel
theorem dX6_wayTo_18 : decode cX6_wayTo 18 = .ok (.iload_n 1, 1) := by decide +kernel
theorem dX6_wayTo_19 : decode cX6_wayTo 19 = .ok (.ireturn, 1) := by decide +kernel
theorem dX6_wayBehind_0 : decode cX6_wayBehind 0 = .ok (.iload_n 3, 1) := by decide +kernel
theorem dX6_wayBehind_1 : decode cX6_wayBehind 1 = .ok (.iload_n 2, 1) := by decide +kernel
theorem dX6_wayBehind_2 : decode cX6_wayBehind 2 = .ok (.if_icmp .le 7, 3) := by decide +kernel
theorem dX6_wayBehind_5 : decode cX6_wayBehind 5 = .ok (.iconst 1, 1) := by decide +kernel
theorem dX6_wayBehind_6 : decode cX6_wayBehind 6 = .ok (.goto 9, 3) := by decide +kernel
theorem dX6_wayBehind_9 : decode cX6_wayBehind 9 = .ok (.iload_n 0, 1) := by decide +kernel
theorem dX6_wayBehind_10 : decode cX6_wayBehind 10 = .ok (.iload_n 1, 1) := by decide +kernel
theorem dX6_wayBehind_11 : decode cX6_wayBehind 11 = .ok (.iload_n 2, 1) := by decide +kernel
theorem dX6_wayBehind_12 : decode cX6_wayBehind 12 = .ok (.invokestatic 313, 3) := by decide +kernel
theorem dX6_wayBehind_15 : decode cX6_wayBehind 15 = .ok (.ireturn, 1) := by decide +kernel
theorem dX6_costOf_0 : decode cX6_costOf 0 = .ok (.iload_n 0, 1) := by decide +kernel
theorem dX6_costOf_1 : decode cX6_costOf 1 = .ok (.iload_n 1, 1) := by decide +kernel
theorem dX6_costOf_2 : decode cX6_costOf 2 = .ok (.iload_n 2, 1) := by decide +kernel
theorem dX6_costOf_3 : decode cX6_costOf 3 = .ok (.invokestatic 313, 3) := by decide +kernel
theorem dX6_costOf_6 : decode cX6_costOf 6 = .ok (.istore 4, 2) := by decide +kernel
theorem dX6_costOf_8 : decode cX6_costOf 8 = .ok (.iload_n 1, 1) := by decide +kernel
theorem dX6_costOf_9 : decode cX6_costOf 9 = .ok (.iload 4, 2) := by decide +kernel
theorem dX6_costOf_11 : decode cX6_costOf 11 = .ok (.imul, 1) := by decide +kernel
theorem dX6_costOf_12 : decode cX6_costOf 12 = .ok (.ifCond .ge 7, 3) := by decide +kernel
theorem dX6_costOf_15 : decode cX6_costOf 15 = .ok (.iconst 2, 1) := by decide +kernel
theorem dX6_costOf_16 : decode cX6_costOf 16 = .ok (.goto 4, 3) := by decide +kernel
theorem dX6_costOf_19 : decode cX6_costOf 19 = .ok (.iconst 0, 1) := by decide +kernel
theorem dX6_costOf_20 : decode cX6_costOf 20 = .ok (.istore 5, 2) := by decide +kernel
theorem dX6_costOf_22 : decode cX6_costOf 22 = .ok (.iload 4, 2) := by decide +kernel
theorem dX6_costOf_24 : decode cX6_costOf 24 = .ok (.ifCond .ge 12, 3) := by decide +kernel
theorem dX6_costOf_27 : decode cX6_costOf 27 = .ok (.iload_n 3, 1) := by decide +kernel
theorem dX6_costOf_28 : decode cX6_costOf 28 = .ok (.iload_n 2, 1) := by decide +kernel
theorem dX6_costOf_29 : decode cX6_costOf 29 = .ok (.if_icmp .le 7, 3) := by decide +kernel
theorem dX6_costOf_32 : decode cX6_costOf 32 = .ok (.iconst 2, 1) := by decide +kernel
theorem dX6_costOf_33 : decode cX6_costOf 33 = .ok (.goto 4, 3) := by decide +kernel
theorem dX6_costOf_36 : decode cX6_costOf 36 = .ok (.iconst 0, 1) := by decide +kernel
theorem dX6_costOf_37 : decode cX6_costOf 37 = .ok (.istore 6, 2) := by decide +kernel
theorem dX6_costOf_39 : decode cX6_costOf 39 = .ok (.iload 5, 2) := by decide +kernel
theorem dX6_costOf_41 : decode cX6_costOf 41 = .ok (.iload_n 2, 1) := by decide +kernel
theorem dX6_costOf_42 : decode cX6_costOf 42 = .ok (.iload_n 0, 1) := by decide +kernel
theorem dX6_costOf_43 : decode cX6_costOf 43 = .ok (.isub, 1) := by decide +kernel
theorem dX6_costOf_44 : decode cX6_costOf 44 = .ok (.invokestatic 317, 3) := by decide +kernel
theorem dX6_costOf_47 : decode cX6_costOf 47 = .ok (.iadd, 1) := by decide +kernel
theorem dX6_costOf_48 : decode cX6_costOf 48 = .ok (.iload 6, 2) := by decide +kernel
theorem dX6_costOf_50 : decode cX6_costOf 50 = .ok (.iadd, 1) := by decide +kernel
theorem dX6_costOf_51 : decode cX6_costOf 51 = .ok (.iload_n 3, 1) := by decide +kernel
theorem dX6_costOf_52 : decode cX6_costOf 52 = .ok (.iload_n 2, 1) := by decide +kernel
theorem dX6_costOf_53 : decode cX6_costOf 53 = .ok (.isub, 1) := by decide +kernel
theorem dX6_costOf_54 : decode cX6_costOf 54 = .ok (.iconst 1, 1) := by decide +kernel
theorem dX6_costOf_55 : decode cX6_costOf 55 = .ok (.iadd, 1) := by decide +kernel
theorem dX6_costOf_56 : decode cX6_costOf 56 = .ok (.iadd, 1) := by decide +kernel
theorem dX6_costOf_57 : decode cX6_costOf 57 = .ok (.ireturn, 1) := by decide +kernel
theorem dX6_makePlan_0 : decode cX6_makePlan 0 = .ok (.aload_n 0, 1) := by decide +kernel
theorem dX6_makePlan_1 : decode cX6_makePlan 1 = .ok (.iload_n 1, 1) := by decide +kernel
theorem dX6_makePlan_2 : decode cX6_makePlan 2 = .ok (.invokevirtual 86, 3) := by decide +kernel
theorem dX6_makePlan_5 : decode cX6_makePlan 5 = .ok (.astore_n 2, 1) := by decide +kernel
theorem dX6_makePlan_6 : decode cX6_makePlan 6 = .ok (.aload_n 2, 1) := by decide +kernel
theorem dX6_makePlan_7 : decode cX6_makePlan 7 = .ok (.ifnonnull 5, 3) := by decide +kernel
theorem dX6_makePlan_10 : decode cX6_makePlan 10 = .ok (.iconst 0, 1) := by decide +kernel
theorem dX6_makePlan_11 : decode cX6_makePlan 11 = .ok (.ireturn, 1) := by decide +kernel
theorem dX6_makePlan_12 : decode cX6_makePlan 12 = .ok (.aload_n 0, 1) := by decide +kernel
theorem dX6_makePlan_13 : decode cX6_makePlan 13 = .ok (.getfield 60, 3) := by decide +kernel
theorem dX6_makePlan_16 : decode cX6_makePlan 16 = .ok (.iload_n 1, 1) := by decide +kernel
theorem dX6_makePlan_17 : decode cX6_makePlan 17 = .ok (.if_icmp .ne 5, 3) := by decide +kernel
theorem dX6_makePlan_20 : decode cX6_makePlan 20 = .ok (.iconst 1, 1) := by decide +kernel
theorem dX6_makePlan_21 : decode cX6_makePlan 21 = .ok (.ireturn, 1) := by decide +kernel
theorem dX6_makePlan_22 : decode cX6_makePlan 22 = .ok (.aload_n 0, 1) := by decide +kernel
theorem dX6_makePlan_23 : decode cX6_makePlan 23 = .ok (.getfield 42, 3) := by decide +kernel
theorem dX6_makePlan_26 : decode cX6_makePlan 26 = .ok (.aload_n 2, 1) := by decide +kernel
theorem dX6_makePlan_27 : decode cX6_makePlan 27 = .ok (.getfield 165, 3) := by decide +kernel
theorem dX6_makePlan_30 : decode cX6_makePlan 30 = .ok (.invokevirtual 322, 3) := by decide +kernel
theorem dX6_makePlan_33 : decode cX6_makePlan 33 = .ok (.iconst 0, 1) := by decide +kernel
theorem dX6_makePlan_34 : decode cX6_makePlan 34 = .ok (.istore_n 3, 1) := by decide +kernel
theorem dX6_makePlan_35 : decode cX6_makePlan 35 = .ok (.iload_n 3, 1) := by decide +kernel
theorem dX6_makePlan_36 : decode cX6_makePlan 36 = .ok (.aload_n 0, 1) := by decide +kernel
theorem dX6_makePlan_37 : decode cX6_makePlan 37 = .ok (.getfield 23, 3) := by decide +kernel
theorem dX6_makePlan_40 : decode cX6_makePlan 40 = .ok (.arraylength, 1) := by decide +kernel
theorem dX6_makePlan_41 : decode cX6_makePlan 41 = .ok (.if_icmp .ge 67, 3) := by decide +kernel
theorem dX6_makePlan_44 : decode cX6_makePlan 44 = .ok (.aload_n 0, 1) := by decide +kernel
theorem dX6_makePlan_45 : decode cX6_makePlan 45 = .ok (.getfield 42, 3) := by decide +kernel
theorem dX6_makePlan_48 : decode cX6_makePlan 48 = .ok (.invokevirtual 325, 3) := by decide +kernel
theorem dX6_makePlan_51 : decode cX6_makePlan 51 = .ok (.ifCond .ne 57, 3) := by decide +kernel
theorem dX6_makePlan_54 : decode cX6_makePlan 54 = .ok (.aload_n 0, 1) := by decide +kernel
theorem dX6_makePlan_55 : decode cX6_makePlan 55 = .ok (.getfield 23, 3) := by decide +kernel
theorem dX6_makePlan_58 : decode cX6_makePlan 58 = .ok (.iload_n 3, 1) := by decide +kernel
theorem dX6_makePlan_59 : decode cX6_makePlan 59 = .ok (.aaload, 1) := by decide +kernel
theorem dX6_makePlan_60 : decode cX6_makePlan 60 = .ok (.astore 4, 2) := by decide +kernel
theorem dX6_makePlan_62 : decode cX6_makePlan 62 = .ok (.aload 4, 2) := by decide +kernel
theorem dX6_makePlan_64 : decode cX6_makePlan 64 = .ok (.ifnull 38, 3) := by decide +kernel
theorem dX6_makePlan_67 : decode cX6_makePlan 67 = .ok (.aload 4, 2) := by decide +kernel
theorem dX6_makePlan_69 : decode cX6_makePlan 69 = .ok (.getfield 200, 3) := by decide +kernel
theorem dX6_makePlan_72 : decode cX6_makePlan 72 = .ok (.iload_n 1, 1) := by decide +kernel
theorem dX6_makePlan_73 : decode cX6_makePlan 73 = .ok (.if_icmp .ne 29, 3) := by decide +kernel
theorem dX6_makePlan_76 : decode cX6_makePlan 76 = .ok (.aload 4, 2) := by decide +kernel
theorem dX6_makePlan_78 : decode cX6_makePlan 78 = .ok (.getfield 201, 3) := by decide +kernel
theorem dX6_makePlan_81 : decode cX6_makePlan 81 = .ok (.ifCond .ne 21, 3) := by decide +kernel
theorem dX6_makePlan_84 : decode cX6_makePlan 84 = .ok (.aload_n 0, 1) := by decide +kernel
theorem dX6_makePlan_85 : decode cX6_makePlan 85 = .ok (.getfield 42, 3) := by decide +kernel
theorem dX6_makePlan_88 : decode cX6_makePlan 88 = .ok (.iload_n 3, 1) := by decide +kernel
theorem dX6_makePlan_89 : decode cX6_makePlan 89 = .ok (.aload 4, 2) := by decide +kernel
theorem dX6_makePlan_91 : decode cX6_makePlan 91 = .ok (.getfield 326, 3) := by decide +kernel
theorem dX6_makePlan_94 : decode cX6_makePlan 94 = .ok (.aload 4, 2) := by decide +kernel
theorem dX6_makePlan_96 : decode cX6_makePlan 96 = .ok (.getfield 329, 3) := by decide +kernel
theorem dX6_makePlan_99 : decode cX6_makePlan 99 = .ok (.invokevirtual 332, 3) := by decide +kernel
theorem dX6_makePlan_102 : decode cX6_makePlan 102 = .ok (.iinc 3 1, 3) := by decide +kernel
theorem dX6_makePlan_105 : decode cX6_makePlan 105 = .ok (.goto (-70), 3) := by decide +kernel
theorem dX6_makePlan_108 : decode cX6_makePlan 108 = .ok (.aload_n 0, 1) := by decide +kernel
theorem dX6_makePlan_109 : decode cX6_makePlan 109 = .ok (.getfield 42, 3) := by decide +kernel
theorem dX6_makePlan_112 : decode cX6_makePlan 112 = .ok (.invokevirtual 335, 3) := by decide +kernel
theorem dX6_makePlan_115 : decode cX6_makePlan 115 = .ok (.aload_n 0, 1) := by decide +kernel
theorem dX6_makePlan_116 : decode cX6_makePlan 116 = .ok (.getfield 42, 3) := by decide +kernel
theorem dX6_makePlan_119 : decode cX6_makePlan 119 = .ok (.iconst 0, 1) := by decide +kernel
theorem dX6_makePlan_120 : decode cX6_makePlan 120 = .ok (.invokevirtual 338, 3) := by decide +kernel
theorem dX6_makePlan_123 : decode cX6_makePlan 123 = .ok (.aload_n 0, 1) := by decide +kernel
theorem dX6_makePlan_124 : decode cX6_makePlan 124 = .ok (.getfield 42, 3) := by decide +kernel
theorem dX6_makePlan_127 : decode cX6_makePlan 127 = .ok (.invokevirtual 342, 3) := by decide +kernel
theorem dX6_makePlan_130 : decode cX6_makePlan 130 = .ok (.aload_n 0, 1) := by decide +kernel
theorem dX6_makePlan_131 : decode cX6_makePlan 131 = .ok (.iload_n 1, 1) := by decide +kernel
theorem dX6_makePlan_132 : decode cX6_makePlan 132 = .ok (.putfield 60, 3) := by decide +kernel
theorem dX6_makePlan_135 : decode cX6_makePlan 135 = .ok (.iconst 1, 1) := by decide +kernel
theorem dX6_makePlan_136 : decode cX6_makePlan 136 = .ok (.ireturn, 1) := by decide +kernel
theorem dX6_moveArm_0 : decode cX6_moveArm 0 = .ok (.aload_n 1, 1) := by decide +kernel
theorem dX6_moveArm_1 : decode cX6_moveArm 1 = .ok (.invokevirtual 127, 3) := by decide +kernel
theorem dX6_moveArm_4 : decode cX6_moveArm 4 = .ok (.ifCond .ne 4, 3) := by decide +kernel
theorem dX6_moveArm_7 : decode cX6_moveArm 7 = .ok (.return_, 1) := by decide +kernel
theorem dX6_moveArm_8 : decode cX6_moveArm 8 = .ok (.aload_n 1, 1) := by decide +kernel
theorem dX6_moveArm_9 : decode cX6_moveArm 9 = .ok (.invokevirtual 345, 3) := by decide +kernel
theorem dX6_moveArm_12 : decode cX6_moveArm 12 = .ok (.istore_n 3, 1) := by decide +kernel
theorem dX6_moveArm_13 : decode cX6_moveArm 13 = .ok (.aload_n 1, 1) := by decide +kernel
theorem dX6_moveArm_14 : decode cX6_moveArm 14 = .ok (.getfield 124, 3) := by decide +kernel
theorem dX6_moveArm_17 : decode cX6_moveArm 17 = .ok (.iload_n 3, 1) := by decide +kernel
theorem dX6_moveArm_18 : decode cX6_moveArm 18 = .ok (.if_icmp .eq 52, 3) := by decide +kernel
theorem dX6_moveArm_21 : decode cX6_moveArm 21 = .ok (.iload_n 3, 1) := by decide +kernel
theorem dX6_moveArm_22 : decode cX6_moveArm 22 = .ok (.aload_n 1, 1) := by decide +kernel
theorem dX6_moveArm_23 : decode cX6_moveArm 23 = .ok (.getfield 124, 3) := by decide +kernel
theorem dX6_moveArm_26 : decode cX6_moveArm 26 = .ok (.if_icmp .le 7, 3) := by decide +kernel
theorem dX6_moveArm_29 : decode cX6_moveArm 29 = .ok (.iconst 1, 1) := by decide +kernel
theorem dX6_moveArm_30 : decode cX6_moveArm 30 = .ok (.goto 4, 3) := by decide +kernel
theorem dX6_moveArm_33 : decode cX6_moveArm 33 = .ok (.iconst (-1), 1) := by decide +kernel
theorem dX6_moveArm_34 : decode cX6_moveArm 34 = .ok (.istore 4, 2) := by decide +kernel
theorem dX6_moveArm_36 : decode cX6_moveArm 36 = .ok (.aload_n 2, 1) := by decide +kernel
theorem dX6_moveArm_37 : decode cX6_moveArm 37 = .ok (.invokevirtual 127, 3) := by decide +kernel
theorem dX6_moveArm_40 : decode cX6_moveArm 40 = .ok (.ifCond .ne 23, 3) := by decide +kernel
theorem dX6_moveArm_43 : decode cX6_moveArm 43 = .ok (.aload_n 2, 1) := by decide +kernel
theorem dX6_moveArm_44 : decode cX6_moveArm 44 = .ok (.getfield 124, 3) := by decide +kernel
theorem dX6_moveArm_47 : decode cX6_moveArm 47 = .ok (.aload_n 1, 1) := by decide +kernel
theorem dX6_moveArm_48 : decode cX6_moveArm 48 = .ok (.getfield 124, 3) := by decide +kernel
theorem dX6_moveArm_51 : decode cX6_moveArm 51 = .ok (.iload 4, 2) := by decide +kernel
theorem dX6_moveArm_53 : decode cX6_moveArm 53 = .ok (.iadd, 1) := by decide +kernel
theorem dX6_moveArm_54 : decode cX6_moveArm 54 = .ok (.if_icmp .ne 9, 3) := by decide +kernel
theorem dX6_moveArm_57 : decode cX6_moveArm 57 = .ok (.aload_n 2, 1) := by decide +kernel
theorem dX6_moveArm_58 : decode cX6_moveArm 58 = .ok (.iload 4, 2) := by decide +kernel
theorem dX6_moveArm_60 : decode cX6_moveArm 60 = .ok (.invokevirtual 348, 3) := by decide +kernel
theorem dX6_moveArm_63 : decode cX6_moveArm 63 = .ok (.aload_n 1, 1) := by decide +kernel
theorem dX6_moveArm_64 : decode cX6_moveArm 64 = .ok (.iload 4, 2) := by decide +kernel
theorem dX6_moveArm_66 : decode cX6_moveArm 66 = .ok (.invokevirtual 348, 3) := by decide +kernel
theorem dX6_moveArm_69 : decode cX6_moveArm 69 = .ok (.return_, 1) := by decide +kernel
theorem dX6_moveArm_70 : decode cX6_moveArm 70 = .ok (.aload_n 0, 1) := by decide +kernel
theorem dX6_moveArm_71 : decode cX6_moveArm 71 = .ok (.aload_n 1, 1) := by decide +kernel
theorem dX6_moveArm_72 : decode cX6_moveArm 72 = .ok (.getfield 135, 3) := by decide +kernel
theorem dX6_moveArm_75 : decode cX6_moveArm 75 = .ok (.invokevirtual 86, 3) := by decide +kernel
theorem dX6_moveArm_78 : decode cX6_moveArm 78 = .ok (.astore 4, 2) := by decide +kernel
theorem dX6_moveArm_80 : decode cX6_moveArm 80 = .ok (.aload_n 0, 1) := by decide +kernel
theorem dX6_moveArm_81 : decode cX6_moveArm 81 = .ok (.aload_n 1, 1) := by decide +kernel
theorem dX6_moveArm_82 : decode cX6_moveArm 82 = .ok (.getfield 351, 3) := by decide +kernel
theorem dX6_moveArm_85 : decode cX6_moveArm 85 = .ok (.invokevirtual 141, 3) := by decide +kernel
theorem dX6_moveArm_88 : decode cX6_moveArm 88 = .ok (.astore 5, 2) := by decide +kernel
theorem dX6_moveArm_90 : decode cX6_moveArm 90 = .ok (.aload 4, 2) := by decide +kernel
theorem dX6_moveArm_92 : decode cX6_moveArm 92 = .ok (.ifnull 8, 3) := by decide +kernel
theorem dX6_moveArm_95 : decode cX6_moveArm 95 = .ok (.aload 5, 2) := by decide +kernel
theorem dX6_moveArm_97 : decode cX6_moveArm 97 = .ok (.ifnonnull 10, 3) := by decide +kernel
theorem dX6_moveArm_100 : decode cX6_moveArm 100 = .ok (.aload_n 1, 1) := by decide +kernel
theorem dX6_moveArm_101 : decode cX6_moveArm 101 = .ok (.invokevirtual 354, 3) := by decide +kernel
theorem dX6_moveArm_104 : decode cX6_moveArm 104 = .ok (.goto 66, 3) := by decide +kernel
theorem dX6_moveArm_107 : decode cX6_moveArm 107 = .ok (.aload_n 1, 1) := by decide +kernel
theorem dX6_moveArm_108 : decode cX6_moveArm 108 = .ok (.getfield 131, 3) := by decide +kernel
theorem dX6_moveArm_111 : decode cX6_moveArm 111 = .ok (.ifCond .ne 14, 3) := by decide +kernel
theorem dX6_moveArm_114 : decode cX6_moveArm 114 = .ok (.aload_n 1, 1) := by decide +kernel
theorem dX6_moveArm_115 : decode cX6_moveArm 115 = .ok (.aload 4, 2) := by decide +kernel
theorem dX6_moveArm_117 : decode cX6_moveArm 117 = .ok (.aload 5, 2) := by decide +kernel
theorem dX6_moveArm_119 : decode cX6_moveArm 119 = .ok (.invokestatic 357, 3) := by decide +kernel
theorem dX6_moveArm_122 : decode cX6_moveArm 122 = .ok (.goto 48, 3) := by decide +kernel
theorem dX6_moveArm_125 : decode cX6_moveArm 125 = .ok (.aload 4, 2) := by decide +kernel
theorem dX6_moveArm_127 : decode cX6_moveArm 127 = .ok (.iconst 0, 1) := by decide +kernel
theorem dX6_moveArm_128 : decode cX6_moveArm 128 = .ok (.putfield 361, 3) := by decide +kernel
theorem dX6_moveArm_131 : decode cX6_moveArm 131 = .ok (.aload_n 1, 1) := by decide +kernel
theorem dX6_moveArm_132 : decode cX6_moveArm 132 = .ok (.getfield 363, 3) := by decide +kernel
theorem dX6_moveArm_135 : decode cX6_moveArm 135 = .ok (.ifCond .eq 12, 3) := by decide +kernel
theorem dX6_moveArm_138 : decode cX6_moveArm 138 = .ok (.aload 4, 2) := by decide +kernel
theorem dX6_moveArm_140 : decode cX6_moveArm 140 = .ok (.iconst 0, 1) := by decide +kernel
theorem dX6_moveArm_141 : decode cX6_moveArm 141 = .ok (.putfield 168, 3) := by decide +kernel
theorem dX6_moveArm_144 : decode cX6_moveArm 144 = .ok (.goto 22, 3) := by decide +kernel
theorem dX6_moveArm_147 : decode cX6_moveArm 147 = .ok (.aload_n 0, 1) := by decide +kernel
theorem dX6_moveArm_148 : decode cX6_moveArm 148 = .ok (.aload_n 1, 1) := by decide +kernel
theorem dX6_moveArm_149 : decode cX6_moveArm 149 = .ok (.getfield 135, 3) := by decide +kernel
theorem dX6_moveArm_152 : decode cX6_moveArm 152 = .ok (.invokevirtual 218, 3) := by decide +kernel
theorem dX6_moveArm_155 : decode cX6_moveArm 155 = .ok (.ifCond .eq 11, 3) := by decide +kernel
theorem dX6_moveArm_158 : decode cX6_moveArm 158 = .ok (.aload_n 0, 1) := by decide +kernel
theorem dX6_moveArm_159 : decode cX6_moveArm 159 = .ok (.aload 4, 2) := by decide +kernel
theorem dX6_moveArm_161 : decode cX6_moveArm 161 = .ok (.aload 5, 2) := by decide +kernel
theorem dX6_moveArm_163 : decode cX6_moveArm 163 = .ok (.invokevirtual 366, 3) := by decide +kernel
theorem dX6_moveArm_166 : decode cX6_moveArm 166 = .ok (.aload_n 1, 1) := by decide +kernel
theorem dX6_moveArm_167 : decode cX6_moveArm 167 = .ok (.invokevirtual 354, 3) := by decide +kernel
theorem dX6_moveArm_170 : decode cX6_moveArm 170 = .ok (.return_, 1) := by decide +kernel
theorem dX6_take_0 : decode cX6_take 0 = .ok (.aload_n 0, 1) := by decide +kernel
theorem dX6_take_1 : decode cX6_take 1 = .ok (.iconst 1, 1) := by decide +kernel
theorem dX6_take_2 : decode cX6_take 2 = .ok (.putfield 131, 3) := by decide +kernel
theorem dX6_take_5 : decode cX6_take 5 = .ok (.aload_n 1, 1) := by decide +kernel
theorem dX6_take_6 : decode cX6_take 6 = .ok (.iconst 1, 1) := by decide +kernel
theorem dX6_take_7 : decode cX6_take 7 = .ok (.putfield 168, 3) := by decide +kernel
theorem dX6_take_10 : decode cX6_take 10 = .ok (.aload_n 0, 1) := by decide +kernel
theorem dX6_take_11 : decode cX6_take 11 = .ok (.getfield 363, 3) := by decide +kernel
theorem dX6_take_14 : decode cX6_take 14 = .ok (.ifCond .eq 21, 3) := by decide +kernel
theorem dX6_take_17 : decode cX6_take 17 = .ok (.aload_n 2, 1) := by decide +kernel
theorem dX6_take_18 : decode cX6_take 18 = .ok (.iconst (-1), 1) := by decide +kernel
theorem dX6_take_19 : decode cX6_take 19 = .ok (.putfield 151, 3) := by decide +kernel
theorem dX6_take_22 : decode cX6_take 22 = .ok (.aload_n 2, 1) := by decide +kernel
theorem dX6_take_23 : decode cX6_take 23 = .ok (.getfield 148, 3) := by decide +kernel
theorem dX6_take_26 : decode cX6_take 26 = .ok (.iconst 3, 1) := by decide +kernel
theorem dX6_take_27 : decode cX6_take 27 = .ok (.if_icmp .ne 8, 3) := by decide +kernel
theorem dX6_take_30 : decode cX6_take 30 = .ok (.aload_n 2, 1) := by decide +kernel
theorem dX6_take_31 : decode cX6_take 31 = .ok (.iconst 0, 1) := by decide +kernel
theorem dX6_take_32 : decode cX6_take 32 = .ok (.putfield 148, 3) := by decide +kernel
theorem dX6_take_35 : decode cX6_take 35 = .ok (.return_, 1) := by decide +kernel
theorem dX6_startWork_0 : decode cX6_startWork 0 = .ok (.aload_n 1, 1) := by decide +kernel
theorem dX6_startWork_1 : decode cX6_startWork 1 = .ok (.iconst 2, 1) := by decide +kernel
theorem dX6_startWork_2 : decode cX6_startWork 2 = .ok (.putfield 168, 3) := by decide +kernel
theorem dX6_startWork_5 : decode cX6_startWork 5 = .ok (.aload_n 2, 1) := by decide +kernel
theorem dX6_startWork_6 : decode cX6_startWork 6 = .ok (.iconst 2, 1) := by decide +kernel
theorem dX6_startWork_7 : decode cX6_startWork 7 = .ok (.putfield 148, 3) := by decide +kernel
theorem dX6_startWork_10 : decode cX6_startWork 10 = .ok (.aload_n 2, 1) := by decide +kernel
theorem dX6_startWork_11 : decode cX6_startWork 11 = .ok (.invokevirtual 248, 3) := by decide +kernel
theorem dX6_startWork_14 : decode cX6_startWork 14 = .ok (.iconst 0, 1) := by decide +kernel
theorem dX6_startWork_15 : decode cX6_startWork 15 = .ok (.istore_n 3, 1) := by decide +kernel
theorem dX6_startWork_16 : decode cX6_startWork 16 = .ok (.iload_n 3, 1) := by decide +kernel
theorem dX6_startWork_17 : decode cX6_startWork 17 = .ok (.aload_n 0, 1) := by decide +kernel
theorem dX6_startWork_18 : decode cX6_startWork 18 = .ok (.getfield 42, 3) := by decide +kernel
theorem dX6_startWork_21 : decode cX6_startWork 21 = .ok (.getfield 221, 3) := by decide +kernel
theorem dX6_startWork_24 : decode cX6_startWork 24 = .ok (.if_icmp .ge 54, 3) := by decide +kernel
theorem dX6_startWork_27 : decode cX6_startWork 27 = .ok (.aload_n 0, 1) := by decide +kernel
theorem dX6_startWork_28 : decode cX6_startWork 28 = .ok (.getfield 42, 3) := by decide +kernel
theorem dX6_startWork_31 : decode cX6_startWork 31 = .ok (.getfield 224, 3) := by decide +kernel
theorem dX6_startWork_34 : decode cX6_startWork 34 = .ok (.iload_n 3, 1) := by decide +kernel
theorem dX6_startWork_35 : decode cX6_startWork 35 = .ok (.invokestatic 228, 3) := by decide +kernel
theorem dX6_startWork_38 : decode cX6_startWork 38 = .ok (.istore 4, 2) := by decide +kernel
theorem dX6_startWork_40 : decode cX6_startWork 40 = .ok (.aload_n 0, 1) := by decide +kernel
theorem dX6_startWork_41 : decode cX6_startWork 41 = .ok (.iload 4, 2) := by decide +kernel
theorem dX6_startWork_43 : decode cX6_startWork 43 = .ok (.invokevirtual 193, 3) := by decide +kernel
theorem dX6_startWork_46 : decode cX6_startWork 46 = .ok (.astore 5, 2) := by decide +kernel
theorem dX6_startWork_48 : decode cX6_startWork 48 = .ok (.aload 5, 2) := by decide +kernel
theorem dX6_startWork_50 : decode cX6_startWork 50 = .ok (.ifnull 22, 3) := by decide +kernel
theorem dX6_startWork_53 : decode cX6_startWork 53 = .ok (.aload 5, 2) := by decide +kernel
theorem dX6_startWork_55 : decode cX6_startWork 55 = .ok (.iconst 1, 1) := by decide +kernel
theorem dX6_startWork_56 : decode cX6_startWork 56 = .ok (.putfield 201, 3) := by decide +kernel
theorem dX6_startWork_59 : decode cX6_startWork 59 = .ok (.aload_n 0, 1) := by decide +kernel
theorem dX6_startWork_60 : decode cX6_startWork 60 = .ok (.aload 5, 2) := by decide +kernel
theorem dX6_startWork_62 : decode cX6_startWork 62 = .ok (.iconst (-1), 1) := by decide +kernel
theorem dX6_startWork_63 : decode cX6_startWork 63 = .ok (.invokevirtual 109, 3) := by decide +kernel
theorem dX6_startWork_66 : decode cX6_startWork 66 = .ok (.aload_n 2, 1) := by decide +kernel
theorem dX6_startWork_67 : decode cX6_startWork 67 = .ok (.iload 4, 2) := by decide +kernel
theorem dX6_startWork_69 : decode cX6_startWork 69 = .ok (.invokevirtual 370, 3) := by decide +kernel
theorem dX6_startWork_72 : decode cX6_startWork 72 = .ok (.iinc 3 1, 3) := by decide +kernel
theorem dX6_startWork_75 : decode cX6_startWork 75 = .ok (.goto (-59), 3) := by decide +kernel
theorem dX6_startWork_78 : decode cX6_startWork 78 = .ok (.return_, 1) := by decide +kernel
theorem dX6_workIn_0 : decode cX6_workIn 0 = .ok (.aload_n 1, 1) := by decide +kernel
theorem dX6_workIn_1 : decode cX6_workIn 1 = .ok (.ifnull 11, 3) := by decide +kernel
theorem dX6_workIn_4 : decode cX6_workIn 4 = .ok (.aload_n 1, 1) := by decide +kernel
theorem dX6_workIn_5 : decode cX6_workIn 5 = .ok (.getfield 148, 3) := by decide +kernel
theorem dX6_workIn_8 : decode cX6_workIn 8 = .ok (.iconst 2, 1) := by decide +kernel
theorem dX6_workIn_9 : decode cX6_workIn 9 = .ok (.if_icmp .eq 5, 3) := by decide +kernel
theorem dX6_workIn_12 : decode cX6_workIn 12 = .ok (.iconst 0, 1) := by decide +kernel
theorem dX6_workIn_13 : decode cX6_workIn 13 = .ok (.ireturn, 1) := by decide +kernel
theorem dX6_workIn_14 : decode cX6_workIn 14 = .ok (.aload_n 0, 1) := by decide +kernel
theorem dX6_workIn_15 : decode cX6_workIn 15 = .ok (.aload_n 1, 1) := by decide +kernel
theorem dX6_workIn_16 : decode cX6_workIn 16 = .ok (.getfield 151, 3) := by decide +kernel
theorem dX6_workIn_19 : decode cX6_workIn 19 = .ok (.invokevirtual 86, 3) := by decide +kernel
theorem dX6_workIn_22 : decode cX6_workIn 22 = .ok (.astore_n 2, 1) := by decide +kernel
theorem dX6_workIn_23 : decode cX6_workIn 23 = .ok (.aload_n 1, 1) := by decide +kernel
theorem dX6_workIn_24 : decode cX6_workIn 24 = .ok (.invokevirtual 152, 3) := by decide +kernel
theorem dX6_workIn_27 : decode cX6_workIn 27 = .ok (.ifCond .le 21, 3) := by decide +kernel
theorem dX6_workIn_30 : decode cX6_workIn 30 = .ok (.aload_n 0, 1) := by decide +kernel
theorem dX6_workIn_31 : decode cX6_workIn 31 = .ok (.aload_n 1, 1) := by decide +kernel
theorem dX6_workIn_32 : decode cX6_workIn 32 = .ok (.getfield 245, 3) := by decide +kernel
theorem dX6_workIn_35 : decode cX6_workIn 35 = .ok (.aload_n 1, 1) := by decide +kernel
theorem dX6_workIn_36 : decode cX6_workIn 36 = .ok (.getfield 241, 3) := by decide +kernel
theorem dX6_workIn_39 : decode cX6_workIn 39 = .ok (.invokestatic 228, 3) := by decide +kernel
theorem dX6_workIn_42 : decode cX6_workIn 42 = .ok (.invokevirtual 193, 3) := by decide +kernel
theorem dX6_workIn_45 : decode cX6_workIn 45 = .ok (.goto 4, 3) := by decide +kernel
theorem dX6_workIn_48 : decode cX6_workIn 48 = .ok (.aconst_null, 1) := by decide +kernel
theorem dX6_workIn_49 : decode cX6_workIn 49 = .ok (.astore_n 3, 1) := by decide +kernel
theorem dX6_workIn_50 : decode cX6_workIn 50 = .ok (.aload_n 2, 1) := by decide +kernel
theorem dX6_workIn_51 : decode cX6_workIn 51 = .ok (.ifnull 7, 3) := by decide +kernel
theorem dX6_workIn_54 : decode cX6_workIn 54 = .ok (.aload_n 3, 1) := by decide +kernel
theorem dX6_workIn_55 : decode cX6_workIn 55 = .ok (.ifnonnull 10, 3) := by decide +kernel
theorem dX6_workIn_58 : decode cX6_workIn 58 = .ok (.aload_n 1, 1) := by decide +kernel
theorem dX6_workIn_59 : decode cX6_workIn 59 = .ok (.iconst 3, 1) := by decide +kernel
theorem dX6_workIn_60 : decode cX6_workIn 60 = .ok (.putfield 148, 3) := by decide +kernel
theorem dX6_workIn_63 : decode cX6_workIn 63 = .ok (.iconst 0, 1) := by decide +kernel
theorem dX6_workIn_64 : decode cX6_workIn 64 = .ok (.ireturn, 1) := by decide +kernel
theorem dX6_workIn_65 : decode cX6_workIn 65 = .ok (.aload_n 1, 1) := by decide +kernel
theorem dX6_workIn_66 : decode cX6_workIn 66 = .ok (.dup, 1) := by decide +kernel
theorem dX6_workIn_67 : decode cX6_workIn 67 = .ok (.getfield 156, 3) := by decide +kernel
theorem dX6_workIn_70 : decode cX6_workIn 70 = .ok (.iconst 1, 1) := by decide +kernel
theorem dX6_workIn_71 : decode cX6_workIn 71 = .ok (.iadd, 1) := by decide +kernel
theorem dX6_workIn_72 : decode cX6_workIn 72 = .ok (.putfield 156, 3) := by decide +kernel
theorem dX6_workIn_75 : decode cX6_workIn 75 = .ok (.aload_n 1, 1) := by decide +kernel
theorem dX6_workIn_76 : decode cX6_workIn 76 = .ok (.getfield 156, 3) := by decide +kernel
theorem dX6_workIn_79 : decode cX6_workIn 79 = .ok (.aload_n 2, 1) := by decide +kernel
theorem dX6_workIn_80 : decode cX6_workIn 80 = .ok (.getfield 165, 3) := by decide +kernel
theorem dX6_workIn_83 : decode cX6_workIn 83 = .ok (.aload_n 1, 1) := by decide +kernel
theorem dX6_workIn_84 : decode cX6_workIn 84 = .ok (.getfield 373, 3) := by decide +kernel
theorem dX6_workIn_87 : decode cX6_workIn 87 = .ok (.aload_n 3, 1) := by decide +kernel
theorem dX6_workIn_88 : decode cX6_workIn 88 = .ok (.getfield 326, 3) := by decide +kernel
theorem dX6_workIn_91 : decode cX6_workIn 91 = .ok (.aload_n 3, 1) := by decide +kernel
theorem dX6_workIn_92 : decode cX6_workIn 92 = .ok (.getfield 329, 3) := by decide +kernel
theorem dX6_workIn_95 : decode cX6_workIn 95 = .ok (.invokestatic 376, 3) := by decide +kernel
theorem dX6_workIn_98 : decode cX6_workIn 98 = .ok (.if_icmp .ge 5, 3) := by decide +kernel
theorem dX6_workIn_101 : decode cX6_workIn 101 = .ok (.iconst 0, 1) := by decide +kernel
theorem dX6_workIn_102 : decode cX6_workIn 102 = .ok (.ireturn, 1) := by decide +kernel
theorem dX6_workIn_103 : decode cX6_workIn 103 = .ok (.aload_n 0, 1) := by decide +kernel
theorem dX6_workIn_104 : decode cX6_workIn 104 = .ok (.aload_n 3, 1) := by decide +kernel
theorem dX6_workIn_105 : decode cX6_workIn 105 = .ok (.aload_n 2, 1) := by decide +kernel
theorem dX6_workIn_106 : decode cX6_workIn 106 = .ok (.invokevirtual 380, 3) := by decide +kernel
theorem dX6_workIn_109 : decode cX6_workIn 109 = .ok (.aload_n 1, 1) := by decide +kernel
theorem dX6_workIn_110 : decode cX6_workIn 110 = .ok (.aload_n 2, 1) := by decide +kernel
theorem dX6_workIn_111 : decode cX6_workIn 111 = .ok (.getfield 165, 3) := by decide +kernel
theorem dX6_workIn_114 : decode cX6_workIn 114 = .ok (.aload_n 1, 1) := by decide +kernel
theorem dX6_workIn_115 : decode cX6_workIn 115 = .ok (.getfield 373, 3) := by decide +kernel
theorem dX6_workIn_118 : decode cX6_workIn 118 = .ok (.aload_n 3, 1) := by decide +kernel
theorem dX6_workIn_119 : decode cX6_workIn 119 = .ok (.getfield 326, 3) := by decide +kernel
theorem dX6_workIn_122 : decode cX6_workIn 122 = .ok (.aload_n 3, 1) := by decide +kernel
theorem dX6_workIn_123 : decode cX6_workIn 123 = .ok (.getfield 329, 3) := by decide +kernel
theorem dX6_workIn_126 : decode cX6_workIn 126 = .ok (.invokestatic 384, 3) := by decide +kernel
theorem dX6_workIn_129 : decode cX6_workIn 129 = .ok (.invokevirtual 387, 3) := by decide +kernel
theorem dX6_workIn_132 : decode cX6_workIn 132 = .ok (.aload_n 2, 1) := by decide +kernel
theorem dX6_workIn_133 : decode cX6_workIn 133 = .ok (.aload_n 3, 1) := by decide +kernel
theorem dX6_workIn_134 : decode cX6_workIn 134 = .ok (.getfield 329, 3) := by decide +kernel
theorem dX6_workIn_137 : decode cX6_workIn 137 = .ok (.putfield 165, 3) := by decide +kernel
theorem dX6_workIn_140 : decode cX6_workIn 140 = .ok (.aload_n 0, 1) := by decide +kernel
theorem dX6_workIn_141 : decode cX6_workIn 141 = .ok (.iconst (-1), 1) := by decide +kernel
theorem dX6_workIn_142 : decode cX6_workIn 142 = .ok (.putfield 60, 3) := by decide +kernel
theorem dX6_workIn_145 : decode cX6_workIn 145 = .ok (.aload_n 1, 1) := by decide +kernel
theorem dX6_workIn_146 : decode cX6_workIn 146 = .ok (.invokevirtual 152, 3) := by decide +kernel
theorem dX6_workIn_149 : decode cX6_workIn 149 = .ok (.ifCond .ne 8, 3) := by decide +kernel
theorem dX6_workIn_152 : decode cX6_workIn 152 = .ok (.aload_n 1, 1) := by decide +kernel
theorem dX6_workIn_153 : decode cX6_workIn 153 = .ok (.iconst 3, 1) := by decide +kernel
theorem dX6_workIn_154 : decode cX6_workIn 154 = .ok (.putfield 148, 3) := by decide +kernel
theorem dX6_workIn_157 : decode cX6_workIn 157 = .ok (.iconst 1, 1) := by decide +kernel
theorem dX6_workIn_158 : decode cX6_workIn 158 = .ok (.ireturn, 1) := by decide +kernel
theorem dX6_endAsk_0 : decode cX6_endAsk 0 = .ok (.aload_n 1, 1) := by decide +kernel
theorem dX6_endAsk_1 : decode cX6_endAsk 1 = .ok (.aload_n 2, 1) := by decide +kernel
theorem dX6_endAsk_2 : decode cX6_endAsk 2 = .ok (.getfield 254, 3) := by decide +kernel
theorem dX6_endAsk_5 : decode cX6_endAsk 5 = .ok (.ifnonnull 7, 3) := by decide +kernel
theorem dX6_endAsk_8 : decode cX6_endAsk 8 = .ok (.iconst 3, 1) := by decide +kernel
theorem dX6_endAsk_9 : decode cX6_endAsk 9 = .ok (.goto 4, 3) := by decide +kernel
theorem dX6_endAsk_12 : decode cX6_endAsk 12 = .ok (.iconst 2, 1) := by decide +kernel
theorem dX6_endAsk_13 : decode cX6_endAsk 13 = .ok (.putfield 201, 3) := by decide +kernel
theorem dX6_endAsk_16 : decode cX6_endAsk 16 = .ok (.aload_n 1, 1) := by decide +kernel
theorem dX6_endAsk_17 : decode cX6_endAsk 17 = .ok (.aload_n 0, 1) := by decide +kernel
theorem dX6_endAsk_18 : decode cX6_endAsk 18 = .ok (.getfield 100, 3) := by decide +kernel
theorem dX6_endAsk_21 : decode cX6_endAsk 21 = .ok (.putfield 205, 3) := by decide +kernel
theorem dX6_endAsk_24 : decode cX6_endAsk 24 = .ok (.aload_n 1, 1) := by decide +kernel
theorem dX6_endAsk_25 : decode cX6_endAsk 25 = .ok (.getfield 199, 3) := by decide +kernel
theorem dX6_endAsk_28 : decode cX6_endAsk 28 = .ok (.iconst 2, 1) := by decide +kernel
theorem dX6_endAsk_29 : decode cX6_endAsk 29 = .ok (.if_icmp .ne 30, 3) := by decide +kernel
theorem dX6_endAsk_32 : decode cX6_endAsk 32 = .ok (.aload_n 1, 1) := by decide +kernel
theorem dX6_endAsk_33 : decode cX6_endAsk 33 = .ok (.aload_n 2, 1) := by decide +kernel
theorem dX6_endAsk_34 : decode cX6_endAsk 34 = .ok (.aload_n 1, 1) := by decide +kernel
theorem dX6_endAsk_35 : decode cX6_endAsk 35 = .ok (.getfield 212, 3) := by decide +kernel
theorem dX6_endAsk_38 : decode cX6_endAsk 38 = .ok (.invokevirtual 189, 3) := by decide +kernel
theorem dX6_endAsk_41 : decode cX6_endAsk 41 = .ok (.putfield 208, 3) := by decide +kernel
theorem dX6_endAsk_44 : decode cX6_endAsk 44 = .ok (.aload_n 2, 1) := by decide +kernel
theorem dX6_endAsk_45 : decode cX6_endAsk 45 = .ok (.aload_n 1, 1) := by decide +kernel
theorem dX6_endAsk_46 : decode cX6_endAsk 46 = .ok (.getfield 212, 3) := by decide +kernel
theorem dX6_endAsk_49 : decode cX6_endAsk 49 = .ok (.aload_n 1, 1) := by decide +kernel
theorem dX6_endAsk_50 : decode cX6_endAsk 50 = .ok (.getfield 215, 3) := by decide +kernel
theorem dX6_endAsk_53 : decode cX6_endAsk 53 = .ok (.invokevirtual 390, 3) := by decide +kernel
theorem dX6_endAsk_56 : decode cX6_endAsk 56 = .ok (.goto 19, 3) := by decide +kernel
theorem dX6_endAsk_59 : decode cX6_endAsk 59 = .ok (.aload_n 1, 1) := by decide +kernel
theorem dX6_endAsk_60 : decode cX6_endAsk 60 = .ok (.aload_n 2, 1) := by decide +kernel
theorem dX6_endAsk_61 : decode cX6_endAsk 61 = .ok (.aload_n 1, 1) := by decide +kernel
theorem dX6_endAsk_62 : decode cX6_endAsk 62 = .ok (.getfield 326, 3) := by decide +kernel
theorem dX6_endAsk_65 : decode cX6_endAsk 65 = .ok (.aload_n 1, 1) := by decide +kernel
theorem dX6_endAsk_66 : decode cX6_endAsk 66 = .ok (.getfield 329, 3) := by decide +kernel
theorem dX6_endAsk_69 : decode cX6_endAsk 69 = .ok (.invokevirtual 394, 3) := by decide +kernel
theorem dX6_endAsk_72 : decode cX6_endAsk 72 = .ok (.putfield 208, 3) := by decide +kernel
theorem dX6_endAsk_75 : decode cX6_endAsk 75 = .ok (.aload_n 0, 1) := by decide +kernel
theorem dX6_endAsk_76 : decode cX6_endAsk 76 = .ok (.getfield 100, 3) := by decide +kernel
theorem dX6_endAsk_79 : decode cX6_endAsk 79 = .ok (.aload_n 1, 1) := by decide +kernel
theorem dX6_endAsk_80 : decode cX6_endAsk 80 = .ok (.getfield 202, 3) := by decide +kernel
theorem dX6_endAsk_83 : decode cX6_endAsk 83 = .ok (.isub, 1) := by decide +kernel
theorem dX6_endAsk_84 : decode cX6_endAsk 84 = .ok (.istore_n 3, 1) := by decide +kernel
theorem dX6_endAsk_85 : decode cX6_endAsk 85 = .ok (.aload_n 0, 1) := by decide +kernel
theorem dX6_endAsk_86 : decode cX6_endAsk 86 = .ok (.dup, 1) := by decide +kernel
theorem dX6_endAsk_87 : decode cX6_endAsk 87 = .ok (.getfield 286, 3) := by decide +kernel
theorem dX6_endAsk_90 : decode cX6_endAsk 90 = .ok (.iload_n 3, 1) := by decide +kernel
theorem dX6_endAsk_91 : decode cX6_endAsk 91 = .ok (.iadd, 1) := by decide +kernel
theorem dX6_endAsk_92 : decode cX6_endAsk 92 = .ok (.putfield 286, 3) := by decide +kernel
theorem dX6_endAsk_95 : decode cX6_endAsk 95 = .ok (.aload_n 0, 1) := by decide +kernel
theorem dX6_endAsk_96 : decode cX6_endAsk 96 = .ok (.aload_n 0, 1) := by decide +kernel
theorem dX6_endAsk_97 : decode cX6_endAsk 97 = .ok (.getfield 289, 3) := by decide +kernel
theorem dX6_endAsk_100 : decode cX6_endAsk 100 = .ok (.iload_n 3, 1) := by decide +kernel
theorem dX6_endAsk_101 : decode cX6_endAsk 101 = .ok (.invokestatic 398, 3) := by decide +kernel
theorem dX6_endAsk_104 : decode cX6_endAsk 104 = .ok (.putfield 289, 3) := by decide +kernel
theorem dX6_endAsk_107 : decode cX6_endAsk 107 = .ok (.return_, 1) := by decide +kernel
theorem dX6_findJob_0 : decode cX6_findJob 0 = .ok (.aload_n 1, 1) := by decide +kernel
theorem dX6_findJob_1 : decode cX6_findJob 1 = .ok (.invokevirtual 127, 3) := by decide +kernel
theorem dX6_findJob_4 : decode cX6_findJob 4 = .ok (.ifCond .ne 18, 3) := by decide +kernel
theorem dX6_findJob_7 : decode cX6_findJob 7 = .ok (.aload_n 0, 1) := by decide +kernel
theorem dX6_findJob_8 : decode cX6_findJob 8 = .ok (.aload_n 1, 1) := by decide +kernel
theorem dX6_findJob_9 : decode cX6_findJob 9 = .ok (.aload_n 2, 1) := by decide +kernel
theorem dX6_findJob_10 : decode cX6_findJob 10 = .ok (.invokevirtual 401, 3) := by decide +kernel
theorem dX6_findJob_13 : decode cX6_findJob 13 = .ok (.ifCond .ne 9, 3) := by decide +kernel
theorem dX6_findJob_16 : decode cX6_findJob 16 = .ok (.aload_n 0, 1) := by decide +kernel
theorem dX6_findJob_17 : decode cX6_findJob 17 = .ok (.aload_n 1, 1) := by decide +kernel
theorem dX6_findJob_18 : decode cX6_findJob 18 = .ok (.aload_n 2, 1) := by decide +kernel
theorem dX6_findJob_19 : decode cX6_findJob 19 = .ok (.invokevirtual 405, 3) := by decide +kernel
theorem dX6_findJob_22 : decode cX6_findJob 22 = .ok (.return_, 1) := by decide +kernel
theorem dX6_clearReader_0 : decode cX6_clearReader 0 = .ok (.iconst 0, 1) := by decide +kernel
theorem dX6_clearReader_1 : decode cX6_clearReader 1 = .ok (.istore_n 3, 1) := by decide +kernel
theorem dX6_clearReader_2 : decode cX6_clearReader 2 = .ok (.iload_n 3, 1) := by decide +kernel
theorem dX6_clearReader_3 : decode cX6_clearReader 3 = .ok (.aload_n 0, 1) := by decide +kernel
theorem dX6_clearReader_4 : decode cX6_clearReader 4 = .ok (.getfield 17, 3) := by decide +kernel
theorem dX6_clearReader_7 : decode cX6_clearReader 7 = .ok (.arraylength, 1) := by decide +kernel
theorem dX6_clearReader_8 : decode cX6_clearReader 8 = .ok (.if_icmp .ge 114, 3) := by decide +kernel
theorem dX6_clearReader_11 : decode cX6_clearReader 11 = .ok (.aload_n 0, 1) := by decide +kernel
theorem dX6_clearReader_12 : decode cX6_clearReader 12 = .ok (.getfield 17, 3) := by decide +kernel
theorem dX6_clearReader_15 : decode cX6_clearReader 15 = .ok (.iload_n 3, 1) := by decide +kernel
theorem dX6_clearReader_16 : decode cX6_clearReader 16 = .ok (.aaload, 1) := by decide +kernel
theorem dX6_clearReader_17 : decode cX6_clearReader 17 = .ok (.astore 4, 2) := by decide +kernel
theorem dX6_clearReader_19 : decode cX6_clearReader 19 = .ok (.aload 4, 2) := by decide +kernel
theorem dX6_clearReader_21 : decode cX6_clearReader 21 = .ok (.ifnull 95, 3) := by decide +kernel
theorem dX6_clearReader_24 : decode cX6_clearReader 24 = .ok (.aload 4, 2) := by decide +kernel
theorem dX6_clearReader_26 : decode cX6_clearReader 26 = .ok (.getfield 148, 3) := by decide +kernel
theorem dX6_clearReader_29 : decode cX6_clearReader 29 = .ok (.iconst 3, 1) := by decide +kernel
theorem dX6_clearReader_30 : decode cX6_clearReader 30 = .ok (.if_icmp .eq 15, 3) := by decide +kernel
theorem dX6_clearReader_33 : decode cX6_clearReader 33 = .ok (.aload 4, 2) := by decide +kernel
theorem dX6_clearReader_35 : decode cX6_clearReader 35 = .ok (.getfield 148, 3) := by decide +kernel
theorem dX6_clearReader_38 : decode cX6_clearReader 38 = .ok (.iconst 4, 1) := by decide +kernel
theorem dX6_clearReader_39 : decode cX6_clearReader 39 = .ok (.if_icmp .eq 6, 3) := by decide +kernel
theorem dX6_clearReader_42 : decode cX6_clearReader 42 = .ok (.goto 74, 3) := by decide +kernel
theorem dX6_clearReader_45 : decode cX6_clearReader 45 = .ok (.aload_n 0, 1) := by decide +kernel
theorem dX6_clearReader_46 : decode cX6_clearReader 46 = .ok (.aload 4, 2) := by decide +kernel
theorem dX6_clearReader_48 : decode cX6_clearReader 48 = .ok (.getfield 151, 3) := by decide +kernel
theorem dX6_clearReader_51 : decode cX6_clearReader 51 = .ok (.invokevirtual 86, 3) := by decide +kernel
theorem dX6_clearReader_54 : decode cX6_clearReader 54 = .ok (.astore 5, 2) := by decide +kernel
theorem dX6_clearReader_56 : decode cX6_clearReader 56 = .ok (.aload 5, 2) := by decide +kernel
theorem dX6_clearReader_58 : decode cX6_clearReader 58 = .ok (.ifnull 58, 3) := by decide +kernel
theorem dX6_clearReader_61 : decode cX6_clearReader 61 = .ok (.aload 5, 2) := by decide +kernel
theorem dX6_clearReader_63 : decode cX6_clearReader 63 = .ok (.getfield 361, 3) := by decide +kernel
theorem dX6_clearReader_66 : decode cX6_clearReader 66 = .ok (.ifCond .ne 50, 3) := by decide +kernel
theorem dX6_clearReader_69 : decode cX6_clearReader 69 = .ok (.aload_n 1, 1) := by decide +kernel
theorem dX6_clearReader_70 : decode cX6_clearReader 70 = .ok (.aload_n 2, 1) := by decide +kernel
theorem dX6_clearReader_71 : decode cX6_clearReader 71 = .ok (.aload 4, 2) := by decide +kernel
theorem dX6_clearReader_73 : decode cX6_clearReader 73 = .ok (.getfield 145, 3) := by decide +kernel
theorem dX6_clearReader_76 : decode cX6_clearReader 76 = .ok (.aload 5, 2) := by decide +kernel
theorem dX6_clearReader_78 : decode cX6_clearReader 78 = .ok (.getfield 159, 3) := by decide +kernel
theorem dX6_clearReader_81 : decode cX6_clearReader 81 = .ok (.invokestatic 408, 3) := by decide +kernel
theorem dX6_clearReader_84 : decode cX6_clearReader 84 = .ok (.ifCond .eq 32, 3) := by decide +kernel
theorem dX6_clearReader_87 : decode cX6_clearReader 87 = .ok (.aload 5, 2) := by decide +kernel
theorem dX6_clearReader_89 : decode cX6_clearReader 89 = .ok (.iconst 1, 1) := by decide +kernel
theorem dX6_clearReader_90 : decode cX6_clearReader 90 = .ok (.putfield 361, 3) := by decide +kernel
theorem dX6_clearReader_93 : decode cX6_clearReader 93 = .ok (.aload_n 1, 1) := by decide +kernel
theorem dX6_clearReader_94 : decode cX6_clearReader 94 = .ok (.aload 4, 2) := by decide +kernel
theorem dX6_clearReader_96 : decode cX6_clearReader 96 = .ok (.getfield 151, 3) := by decide +kernel
theorem dX6_clearReader_99 : decode cX6_clearReader 99 = .ok (.iload_n 3, 1) := by decide +kernel
theorem dX6_clearReader_100 : decode cX6_clearReader 100 = .ok (.aload 4, 2) := by decide +kernel
theorem dX6_clearReader_102 : decode cX6_clearReader 102 = .ok (.getfield 145, 3) := by decide +kernel
theorem dX6_clearReader_105 : decode cX6_clearReader 105 = .ok (.aload 5, 2) := by decide +kernel
theorem dX6_clearReader_107 : decode cX6_clearReader 107 = .ok (.getfield 159, 3) := by decide +kernel
theorem dX6_clearReader_110 : decode cX6_clearReader 110 = .ok (.iconst 1, 1) := by decide +kernel
theorem dX6_clearReader_111 : decode cX6_clearReader 111 = .ok (.invokevirtual 412, 3) := by decide +kernel
theorem dX6_clearReader_114 : decode cX6_clearReader 114 = .ok (.iconst 1, 1) := by decide +kernel
theorem dX6_clearReader_115 : decode cX6_clearReader 115 = .ok (.ireturn, 1) := by decide +kernel
theorem dX6_clearReader_116 : decode cX6_clearReader 116 = .ok (.iinc 3 1, 3) := by decide +kernel
theorem dX6_clearReader_119 : decode cX6_clearReader 119 = .ok (.goto (-117), 3) := by decide +kernel
theorem dX6_clearReader_122 : decode cX6_clearReader 122 = .ok (.iconst 0, 1) := by decide +kernel
theorem dX6_clearReader_123 : decode cX6_clearReader 123 = .ok (.ireturn, 1) := by decide +kernel
theorem dX6_bringChosen_0 : decode cX6_bringChosen 0 = .ok (.aload_n 0, 1) := by decide +kernel
theorem dX6_bringChosen_1 : decode cX6_bringChosen 1 = .ok (.invokevirtual 416, 3) := by decide +kernel
theorem dX6_bringChosen_4 : decode cX6_bringChosen 4 = .ok (.istore_n 3, 1) := by decide +kernel
theorem dX6_bringChosen_5 : decode cX6_bringChosen 5 = .ok (.aload_n 0, 1) := by decide +kernel
theorem dX6_bringChosen_6 : decode cX6_bringChosen 6 = .ok (.iload_n 3, 1) := by decide +kernel
theorem dX6_bringChosen_7 : decode cX6_bringChosen 7 = .ok (.invokevirtual 141, 3) := by decide +kernel
theorem dX6_bringChosen_10 : decode cX6_bringChosen 10 = .ok (.astore 4, 2) := by decide +kernel
theorem dX6_bringChosen_12 : decode cX6_bringChosen 12 = .ok (.aload 4, 2) := by decide +kernel
theorem dX6_bringChosen_14 : decode cX6_bringChosen 14 = .ok (.ifnonnull 4, 3) := by decide +kernel
theorem dX6_bringChosen_17 : decode cX6_bringChosen 17 = .ok (.return_, 1) := by decide +kernel
theorem dX6_bringChosen_18 : decode cX6_bringChosen 18 = .ok (.aload_n 0, 1) := by decide +kernel
theorem dX6_bringChosen_19 : decode cX6_bringChosen 19 = .ok (.aload 4, 2) := by decide +kernel
theorem dX6_bringChosen_21 : decode cX6_bringChosen 21 = .ok (.getfield 145, 3) := by decide +kernel
theorem dX6_bringChosen_24 : decode cX6_bringChosen 24 = .ok (.invokevirtual 419, 3) := by decide +kernel
theorem dX6_bringChosen_27 : decode cX6_bringChosen 27 = .ok (.istore 5, 2) := by decide +kernel
theorem dX6_bringChosen_29 : decode cX6_bringChosen 29 = .ok (.aload_n 0, 1) := by decide +kernel
theorem dX6_bringChosen_30 : decode cX6_bringChosen 30 = .ok (.iload 5, 2) := by decide +kernel
theorem dX6_bringChosen_32 : decode cX6_bringChosen 32 = .ok (.invokevirtual 86, 3) := by decide +kernel
theorem dX6_bringChosen_35 : decode cX6_bringChosen 35 = .ok (.astore 6, 2) := by decide +kernel
theorem dX6_bringChosen_37 : decode cX6_bringChosen 37 = .ok (.aload 6, 2) := by decide +kernel
theorem dX6_bringChosen_39 : decode cX6_bringChosen 39 = .ok (.ifnull 58, 3) := by decide +kernel
theorem dX6_bringChosen_42 : decode cX6_bringChosen 42 = .ok (.aload_n 1, 1) := by decide +kernel
theorem dX6_bringChosen_43 : decode cX6_bringChosen 43 = .ok (.aload_n 2, 1) := by decide +kernel
theorem dX6_bringChosen_44 : decode cX6_bringChosen 44 = .ok (.aload 6, 2) := by decide +kernel
theorem dX6_bringChosen_46 : decode cX6_bringChosen 46 = .ok (.getfield 159, 3) := by decide +kernel
theorem dX6_bringChosen_49 : decode cX6_bringChosen 49 = .ok (.aload 4, 2) := by decide +kernel
theorem dX6_bringChosen_51 : decode cX6_bringChosen 51 = .ok (.getfield 145, 3) := by decide +kernel
theorem dX6_bringChosen_54 : decode cX6_bringChosen 54 = .ok (.invokestatic 408, 3) := by decide +kernel
theorem dX6_bringChosen_57 : decode cX6_bringChosen 57 = .ok (.ifCond .eq 40, 3) := by decide +kernel
theorem dX6_bringChosen_60 : decode cX6_bringChosen 60 = .ok (.aload 6, 2) := by decide +kernel
theorem dX6_bringChosen_62 : decode cX6_bringChosen 62 = .ok (.iconst 1, 1) := by decide +kernel
theorem dX6_bringChosen_63 : decode cX6_bringChosen 63 = .ok (.putfield 361, 3) := by decide +kernel
theorem dX6_bringChosen_66 : decode cX6_bringChosen 66 = .ok (.aload_n 1, 1) := by decide +kernel
theorem dX6_bringChosen_67 : decode cX6_bringChosen 67 = .ok (.iload 5, 2) := by decide +kernel
theorem dX6_bringChosen_69 : decode cX6_bringChosen 69 = .ok (.iload_n 3, 1) := by decide +kernel
theorem dX6_bringChosen_70 : decode cX6_bringChosen 70 = .ok (.aload 6, 2) := by decide +kernel
theorem dX6_bringChosen_72 : decode cX6_bringChosen 72 = .ok (.getfield 159, 3) := by decide +kernel
theorem dX6_bringChosen_75 : decode cX6_bringChosen 75 = .ok (.aload 4, 2) := by decide +kernel
theorem dX6_bringChosen_77 : decode cX6_bringChosen 77 = .ok (.getfield 145, 3) := by decide +kernel
theorem dX6_bringChosen_80 : decode cX6_bringChosen 80 = .ok (.iconst 0, 1) := by decide +kernel
theorem dX6_bringChosen_81 : decode cX6_bringChosen 81 = .ok (.invokevirtual 412, 3) := by decide +kernel
theorem dX6_bringChosen_84 : decode cX6_bringChosen 84 = .ok (.aload 4, 2) := by decide +kernel
theorem dX6_bringChosen_86 : decode cX6_bringChosen 86 = .ok (.iconst 1, 1) := by decide +kernel
theorem dX6_bringChosen_87 : decode cX6_bringChosen 87 = .ok (.putfield 148, 3) := by decide +kernel
theorem dX6_bringChosen_90 : decode cX6_bringChosen 90 = .ok (.aload 4, 2) := by decide +kernel
theorem dX6_bringChosen_92 : decode cX6_bringChosen 92 = .ok (.iload 5, 2) := by decide +kernel
theorem dX6_bringChosen_94 : decode cX6_bringChosen 94 = .ok (.putfield 151, 3) := by decide +kernel
theorem dX6_bringChosen_97 : decode cX6_bringChosen 97 = .ok (.return_, 1) := by decide +kernel
theorem dX6_may_0 : decode cX6_may 0 = .ok (.aload_n 1, 1) := by decide +kernel
theorem dX6_may_1 : decode cX6_may 1 = .ok (.invokevirtual 127, 3) := by decide +kernel
theorem dX6_may_4 : decode cX6_may 4 = .ok (.ifCond .ne 5, 3) := by decide +kernel
theorem dX6_may_7 : decode cX6_may 7 = .ok (.iconst 1, 1) := by decide +kernel
theorem dX6_may_8 : decode cX6_may 8 = .ok (.ireturn, 1) := by decide +kernel
theorem dX6_may_9 : decode cX6_may 9 = .ok (.aload_n 0, 1) := by decide +kernel
theorem dX6_may_10 : decode cX6_may 10 = .ok (.getfield 124, 3) := by decide +kernel
theorem dX6_may_13 : decode cX6_may 13 = .ok (.iload_n 2, 1) := by decide +kernel
theorem dX6_may_14 : decode cX6_may 14 = .ok (.iload_n 3, 1) := by decide +kernel
theorem dX6_may_15 : decode cX6_may 15 = .ok (.invokestatic 422, 3) := by decide +kernel
theorem dX6_may_18 : decode cX6_may 18 = .ok (.invokestatic 422, 3) := by decide +kernel
theorem dX6_may_21 : decode cX6_may 21 = .ok (.istore 4, 2) := by decide +kernel
theorem dX6_may_23 : decode cX6_may 23 = .ok (.aload_n 0, 1) := by decide +kernel
theorem dX6_may_24 : decode cX6_may 24 = .ok (.getfield 124, 3) := by decide +kernel
theorem dX6_may_27 : decode cX6_may 27 = .ok (.iload_n 2, 1) := by decide +kernel
theorem dX6_may_28 : decode cX6_may 28 = .ok (.iload_n 3, 1) := by decide +kernel
theorem dX6_may_29 : decode cX6_may 29 = .ok (.invokestatic 398, 3) := by decide +kernel
theorem dX6_may_32 : decode cX6_may 32 = .ok (.invokestatic 398, 3) := by decide +kernel
theorem dX6_may_35 : decode cX6_may 35 = .ok (.istore 5, 2) := by decide +kernel
theorem dX6_may_37 : decode cX6_may 37 = .ok (.aload_n 0, 1) := by decide +kernel
theorem dX6_may_38 : decode cX6_may 38 = .ok (.getfield 425, 3) := by decide +kernel
theorem dX6_may_41 : decode cX6_may 41 = .ok (.ifCond .eq 20, 3) := by decide +kernel
theorem dX6_may_44 : decode cX6_may 44 = .ok (.iload 5, 2) := by decide +kernel
theorem dX6_may_46 : decode cX6_may 46 = .ok (.aload_n 1, 1) := by decide +kernel
theorem dX6_may_47 : decode cX6_may 47 = .ok (.invokevirtual 428, 3) := by decide +kernel
theorem dX6_may_50 : decode cX6_may 50 = .ok (.if_icmp .ge 7, 3) := by decide +kernel
theorem dX6_may_53 : decode cX6_may 53 = .ok (.iconst 1, 1) := by decide +kernel
theorem dX6_may_54 : decode cX6_may 54 = .ok (.goto 21, 3) := by decide +kernel
theorem dX6_may_57 : decode cX6_may 57 = .ok (.iconst 0, 1) := by decide +kernel
theorem dX6_may_58 : decode cX6_may 58 = .ok (.goto 17, 3) := by decide +kernel
theorem dX6_may_61 : decode cX6_may 61 = .ok (.iload 4, 2) := by decide +kernel
theorem dX6_may_63 : decode cX6_may 63 = .ok (.aload_n 1, 1) := by decide +kernel
theorem dX6_may_64 : decode cX6_may 64 = .ok (.invokevirtual 431, 3) := by decide +kernel
theorem dX6_may_67 : decode cX6_may 67 = .ok (.if_icmp .le 7, 3) := by decide +kernel
theorem dX6_may_70 : decode cX6_may 70 = .ok (.iconst 1, 1) := by decide +kernel
theorem dX6_may_71 : decode cX6_may 71 = .ok (.goto 4, 3) := by decide +kernel
theorem dX6_may_74 : decode cX6_may 74 = .ok (.iconst 0, 1) := by decide +kernel
theorem dX6_may_75 : decode cX6_may 75 = .ok (.ireturn, 1) := by decide +kernel
theorem dX6_firstEmpty_0 : decode cX6_firstEmpty 0 = .ok (.iconst 0, 1) := by decide +kernel
theorem dX6_firstEmpty_1 : decode cX6_firstEmpty 1 = .ok (.istore_n 1, 1) := by decide +kernel
theorem dX6_firstEmpty_2 : decode cX6_firstEmpty 2 = .ok (.iload_n 1, 1) := by decide +kernel
theorem dX6_firstEmpty_3 : decode cX6_firstEmpty 3 = .ok (.aload_n 0, 1) := by decide +kernel
theorem dX6_firstEmpty_4 : decode cX6_firstEmpty 4 = .ok (.getfield 17, 3) := by decide +kernel
theorem dX6_firstEmpty_7 : decode cX6_firstEmpty 7 = .ok (.arraylength, 1) := by decide +kernel
theorem dX6_firstEmpty_8 : decode cX6_firstEmpty 8 = .ok (.if_icmp .ge 29, 3) := by decide +kernel
theorem dX6_firstEmpty_11 : decode cX6_firstEmpty 11 = .ok (.aload_n 0, 1) := by decide +kernel
theorem dX6_firstEmpty_12 : decode cX6_firstEmpty 12 = .ok (.getfield 17, 3) := by decide +kernel
theorem dX6_firstEmpty_15 : decode cX6_firstEmpty 15 = .ok (.iload_n 1, 1) := by decide +kernel
theorem dX6_firstEmpty_16 : decode cX6_firstEmpty 16 = .ok (.aaload, 1) := by decide +kernel
theorem dX6_firstEmpty_17 : decode cX6_firstEmpty 17 = .ok (.astore_n 2, 1) := by decide +kernel
theorem dX6_firstEmpty_18 : decode cX6_firstEmpty 18 = .ok (.aload_n 2, 1) := by decide +kernel
theorem dX6_firstEmpty_19 : decode cX6_firstEmpty 19 = .ok (.ifnull 12, 3) := by decide +kernel
theorem dX6_firstEmpty_22 : decode cX6_firstEmpty 22 = .ok (.aload_n 2, 1) := by decide +kernel
theorem dX6_firstEmpty_23 : decode cX6_firstEmpty 23 = .ok (.getfield 148, 3) := by decide +kernel
theorem dX6_firstEmpty_26 : decode cX6_firstEmpty 26 = .ok (.ifCond .ne 5, 3) := by decide +kernel
theorem dX6_firstEmpty_29 : decode cX6_firstEmpty 29 = .ok (.iload_n 1, 1) := by decide +kernel
theorem dX6_firstEmpty_30 : decode cX6_firstEmpty 30 = .ok (.ireturn, 1) := by decide +kernel
theorem dX6_firstEmpty_31 : decode cX6_firstEmpty 31 = .ok (.iinc 1 1, 3) := by decide +kernel
theorem dX6_firstEmpty_34 : decode cX6_firstEmpty 34 = .ok (.goto (-32), 3) := by decide +kernel
theorem dX6_firstEmpty_37 : decode cX6_firstEmpty 37 = .ok (.iconst (-1), 1) := by decide +kernel
theorem dX6_firstEmpty_38 : decode cX6_firstEmpty 38 = .ok (.ireturn, 1) := by decide +kernel
theorem dX6_chosenFor_0 : decode cX6_chosenFor 0 = .ok (.iconst (-1), 1) := by decide +kernel
theorem dX6_chosenFor_1 : decode cX6_chosenFor 1 = .ok (.istore_n 2, 1) := by decide +kernel
theorem dX6_chosenFor_2 : decode cX6_chosenFor 2 = .ok (.aload_n 0, 1) := by decide +kernel
theorem dX6_chosenFor_3 : decode cX6_chosenFor 3 = .ok (.getfield 301, 3) := by decide +kernel
theorem dX6_chosenFor_6 : decode cX6_chosenFor 6 = .ok (.ifCond .le 19, 3) := by decide +kernel
theorem dX6_chosenFor_9 : decode cX6_chosenFor 9 = .ok (.aload_n 0, 1) := by decide +kernel
theorem dX6_chosenFor_10 : decode cX6_chosenFor 10 = .ok (.invokevirtual 434, 3) := by decide +kernel
theorem dX6_chosenFor_13 : decode cX6_chosenFor 13 = .ok (.istore_n 2, 1) := by decide +kernel
theorem dX6_chosenFor_14 : decode cX6_chosenFor 14 = .ok (.iload_n 2, 1) := by decide +kernel
theorem dX6_chosenFor_15 : decode cX6_chosenFor 15 = .ok (.iconst (-1), 1) := by decide +kernel
theorem dX6_chosenFor_16 : decode cX6_chosenFor 16 = .ok (.if_icmp .ne 9, 3) := by decide +kernel
theorem dX6_chosenFor_19 : decode cX6_chosenFor 19 = .ok (.aload_n 0, 1) := by decide +kernel
theorem dX6_chosenFor_20 : decode cX6_chosenFor 20 = .ok (.iload_n 1, 1) := by decide +kernel
theorem dX6_chosenFor_21 : decode cX6_chosenFor 21 = .ok (.invokevirtual 437, 3) := by decide +kernel
theorem dX6_chosenFor_24 : decode cX6_chosenFor 24 = .ok (.istore_n 2, 1) := by decide +kernel
theorem dX6_chosenFor_25 : decode cX6_chosenFor 25 = .ok (.iload_n 2, 1) := by decide +kernel
theorem dX6_chosenFor_26 : decode cX6_chosenFor 26 = .ok (.iconst (-1), 1) := by decide +kernel
theorem dX6_chosenFor_27 : decode cX6_chosenFor 27 = .ok (.if_icmp .ne 17, 3) := by decide +kernel
theorem dX6_chosenFor_30 : decode cX6_chosenFor 30 = .ok (.aload_n 0, 1) := by decide +kernel
theorem dX6_chosenFor_31 : decode cX6_chosenFor 31 = .ok (.getfield 298, 3) := by decide +kernel
theorem dX6_chosenFor_34 : decode cX6_chosenFor 34 = .ok (.ifCond .le 10, 3) := by decide +kernel
theorem dX6_chosenFor_37 : decode cX6_chosenFor 37 = .ok (.aload_n 0, 1) := by decide +kernel
theorem dX6_chosenFor_38 : decode cX6_chosenFor 38 = .ok (.invokevirtual 440, 3) := by decide +kernel
theorem dX6_chosenFor_41 : decode cX6_chosenFor 41 = .ok (.goto 4, 3) := by decide +kernel
theorem dX6_chosenFor_44 : decode cX6_chosenFor 44 = .ok (.iload_n 2, 1) := by decide +kernel
theorem dX6_chosenFor_45 : decode cX6_chosenFor 45 = .ok (.ireturn, 1) := by decide +kernel
theorem dX6_isFree_0 : decode cX6_isFree 0 = .ok (.aload_n 0, 1) := by decide +kernel
theorem dX6_isFree_1 : decode cX6_isFree 1 = .ok (.iload_n 1, 1) := by decide +kernel
theorem dX6_isFree_2 : decode cX6_isFree 2 = .ok (.invokevirtual 86, 3) := by decide +kernel
theorem dX6_isFree_5 : decode cX6_isFree 5 = .ok (.astore_n 2, 1) := by decide +kernel
theorem dX6_isFree_6 : decode cX6_isFree 6 = .ok (.aload_n 2, 1) := by decide +kernel
theorem dX6_isFree_7 : decode cX6_isFree 7 = .ok (.ifnull 14, 3) := by decide +kernel
theorem dX6_isFree_10 : decode cX6_isFree 10 = .ok (.aload_n 2, 1) := by decide +kernel
theorem dX6_isFree_11 : decode cX6_isFree 11 = .ok (.invokevirtual 251, 3) := by decide +kernel
theorem dX6_isFree_14 : decode cX6_isFree 14 = .ok (.ifCond .eq 7, 3) := by decide +kernel
theorem dX6_isFree_17 : decode cX6_isFree 17 = .ok (.iconst 1, 1) := by decide +kernel
theorem dX6_isFree_18 : decode cX6_isFree 18 = .ok (.goto 4, 3) := by decide +kernel
theorem dX6_isFree_21 : decode cX6_isFree 21 = .ok (.iconst 0, 1) := by decide +kernel
theorem dX6_isFree_22 : decode cX6_isFree 22 = .ok (.ireturn, 1) := by decide +kernel
theorem dX6_overdueTape_0 : decode cX6_overdueTape 0 = .ok (.iconst 0, 1) := by decide +kernel
theorem dX6_overdueTape_1 : decode cX6_overdueTape 1 = .ok (.istore_n 1, 1) := by decide +kernel
theorem dX6_overdueTape_2 : decode cX6_overdueTape 2 = .ok (.iload_n 1, 1) := by decide +kernel
theorem dX6_overdueTape_3 : decode cX6_overdueTape 3 = .ok (.aload_n 0, 1) := by decide +kernel
theorem dX6_overdueTape_4 : decode cX6_overdueTape 4 = .ok (.getfield 23, 3) := by decide +kernel
theorem dX6_overdueTape_7 : decode cX6_overdueTape 7 = .ok (.arraylength, 1) := by decide +kernel
theorem dX6_overdueTape_8 : decode cX6_overdueTape 8 = .ok (.if_icmp .ge 68, 3) := by decide +kernel
theorem dX6_overdueTape_11 : decode cX6_overdueTape 11 = .ok (.aload_n 0, 1) := by decide +kernel
theorem dX6_overdueTape_12 : decode cX6_overdueTape 12 = .ok (.getfield 23, 3) := by decide +kernel
theorem dX6_overdueTape_15 : decode cX6_overdueTape 15 = .ok (.iload_n 1, 1) := by decide +kernel
theorem dX6_overdueTape_16 : decode cX6_overdueTape 16 = .ok (.aaload, 1) := by decide +kernel
theorem dX6_overdueTape_17 : decode cX6_overdueTape 17 = .ok (.astore_n 2, 1) := by decide +kernel
theorem dX6_overdueTape_18 : decode cX6_overdueTape 18 = .ok (.aload_n 2, 1) := by decide +kernel
theorem dX6_overdueTape_19 : decode cX6_overdueTape 19 = .ok (.ifnull 19, 3) := by decide +kernel
theorem dX6_overdueTape_22 : decode cX6_overdueTape 22 = .ok (.aload_n 0, 1) := by decide +kernel
theorem dX6_overdueTape_23 : decode cX6_overdueTape 23 = .ok (.getfield 100, 3) := by decide +kernel
theorem dX6_overdueTape_26 : decode cX6_overdueTape 26 = .ok (.aload_n 2, 1) := by decide +kernel
theorem dX6_overdueTape_27 : decode cX6_overdueTape 27 = .ok (.getfield 202, 3) := by decide +kernel
theorem dX6_overdueTape_30 : decode cX6_overdueTape 30 = .ok (.isub, 1) := by decide +kernel
theorem dX6_overdueTape_31 : decode cX6_overdueTape 31 = .ok (.aload_n 0, 1) := by decide +kernel
theorem dX6_overdueTape_32 : decode cX6_overdueTape 32 = .ok (.getfield 57, 3) := by decide +kernel
theorem dX6_overdueTape_35 : decode cX6_overdueTape 35 = .ok (.if_icmp .ge 5, 3) := by decide +kernel
theorem dX6_overdueTape_38 : decode cX6_overdueTape 38 = .ok (.iconst (-1), 1) := by decide +kernel
theorem dX6_overdueTape_39 : decode cX6_overdueTape 39 = .ok (.ireturn, 1) := by decide +kernel
theorem dX6_overdueTape_40 : decode cX6_overdueTape 40 = .ok (.aload_n 2, 1) := by decide +kernel
theorem dX6_overdueTape_41 : decode cX6_overdueTape 41 = .ok (.getfield 201, 3) := by decide +kernel
theorem dX6_overdueTape_44 : decode cX6_overdueTape 44 = .ok (.ifCond .ne 26, 3) := by decide +kernel
theorem dX6_overdueTape_47 : decode cX6_overdueTape 47 = .ok (.aload_n 2, 1) := by decide +kernel
theorem dX6_overdueTape_48 : decode cX6_overdueTape 48 = .ok (.invokevirtual 295, 3) := by decide +kernel
theorem dX6_overdueTape_51 : decode cX6_overdueTape 51 = .ok (.ifCond .ne 19, 3) := by decide +kernel
theorem dX6_overdueTape_54 : decode cX6_overdueTape 54 = .ok (.aload_n 0, 1) := by decide +kernel
theorem dX6_overdueTape_55 : decode cX6_overdueTape 55 = .ok (.aload_n 2, 1) := by decide +kernel
theorem dX6_overdueTape_56 : decode cX6_overdueTape 56 = .ok (.getfield 200, 3) := by decide +kernel
theorem dX6_overdueTape_59 : decode cX6_overdueTape 59 = .ok (.invokevirtual 443, 3) := by decide +kernel
theorem dX6_overdueTape_62 : decode cX6_overdueTape 62 = .ok (.ifCond .eq 8, 3) := by decide +kernel
theorem dX6_overdueTape_65 : decode cX6_overdueTape 65 = .ok (.aload_n 2, 1) := by decide +kernel
theorem dX6_overdueTape_66 : decode cX6_overdueTape 66 = .ok (.getfield 200, 3) := by decide +kernel
theorem dX6_overdueTape_69 : decode cX6_overdueTape 69 = .ok (.ireturn, 1) := by decide +kernel
theorem dX6_overdueTape_70 : decode cX6_overdueTape 70 = .ok (.iinc 1 1, 3) := by decide +kernel
theorem dX6_overdueTape_73 : decode cX6_overdueTape 73 = .ok (.goto (-71), 3) := by decide +kernel
theorem dX6_overdueTape_76 : decode cX6_overdueTape 76 = .ok (.iconst (-1), 1) := by decide +kernel
theorem dX6_overdueTape_77 : decode cX6_overdueTape 77 = .ok (.ireturn, 1) := by decide +kernel
theorem dX6_worthiestTape_0 : decode cX6_worthiestTape 0 = .ok (.iconst (-1), 1) := by decide +kernel
theorem dX6_worthiestTape_1 : decode cX6_worthiestTape 1 = .ok (.istore_n 2, 1) := by decide +kernel
theorem dX6_worthiestTape_2 : decode cX6_worthiestTape 2 = .ok (.aload_n 0, 1) := by decide +kernel
theorem dX6_worthiestTape_3 : decode cX6_worthiestTape 3 = .ok (.getfield 53, 3) := by decide +kernel
theorem dX6_worthiestTape_6 : decode cX6_worthiestTape 6 = .ok (.iconst 1, 1) := by decide +kernel
theorem dX6_worthiestTape_7 : decode cX6_worthiestTape 7 = .ok (.isub, 1) := by decide +kernel
theorem dX6_worthiestTape_8 : decode cX6_worthiestTape 8 = .ok (.istore_n 3, 1) := by decide +kernel
theorem dX6_worthiestTape_9 : decode cX6_worthiestTape 9 = .ok (.iconst 0, 1) := by decide +kernel
theorem dX6_worthiestTape_10 : decode cX6_worthiestTape 10 = .ok (.istore 4, 2) := by decide +kernel
theorem dX6_worthiestTape_12 : decode cX6_worthiestTape 12 = .ok (.iload 4, 2) := by decide +kernel
theorem dX6_worthiestTape_14 : decode cX6_worthiestTape 14 = .ok (.aload_n 0, 1) := by decide +kernel
theorem dX6_worthiestTape_15 : decode cX6_worthiestTape 15 = .ok (.getfield 11, 3) := by decide +kernel
theorem dX6_worthiestTape_18 : decode cX6_worthiestTape 18 = .ok (.arraylength, 1) := by decide +kernel
theorem dX6_worthiestTape_19 : decode cX6_worthiestTape 19 = .ok (.if_icmp .ge 66, 3) := by decide +kernel
theorem dX6_worthiestTape_22 : decode cX6_worthiestTape 22 = .ok (.aload_n 0, 1) := by decide +kernel
theorem dX6_worthiestTape_23 : decode cX6_worthiestTape 23 = .ok (.getfield 11, 3) := by decide +kernel
theorem dX6_worthiestTape_26 : decode cX6_worthiestTape 26 = .ok (.iload 4, 2) := by decide +kernel
theorem dX6_worthiestTape_28 : decode cX6_worthiestTape 28 = .ok (.aaload, 1) := by decide +kernel
theorem dX6_worthiestTape_29 : decode cX6_worthiestTape 29 = .ok (.astore 5, 2) := by decide +kernel
theorem dX6_worthiestTape_31 : decode cX6_worthiestTape 31 = .ok (.aload 5, 2) := by decide +kernel
theorem dX6_worthiestTape_33 : decode cX6_worthiestTape 33 = .ok (.ifnull 46, 3) := by decide +kernel
theorem dX6_worthiestTape_36 : decode cX6_worthiestTape 36 = .ok (.aload 5, 2) := by decide +kernel
theorem dX6_worthiestTape_38 : decode cX6_worthiestTape 38 = .ok (.invokevirtual 251, 3) := by decide +kernel
theorem dX6_worthiestTape_41 : decode cX6_worthiestTape 41 = .ok (.ifCond .eq 38, 3) := by decide +kernel
theorem dX6_worthiestTape_44 : decode cX6_worthiestTape 44 = .ok (.aload 5, 2) := by decide +kernel
theorem dX6_worthiestTape_46 : decode cX6_worthiestTape 46 = .ok (.getfield 304, 3) := by decide +kernel
theorem dX6_worthiestTape_49 : decode cX6_worthiestTape 49 = .ok (.ifCond .ne 6, 3) := by decide +kernel
theorem dX6_worthiestTape_52 : decode cX6_worthiestTape 52 = .ok (.goto 27, 3) := by decide +kernel
theorem dX6_worthiestTape_55 : decode cX6_worthiestTape 55 = .ok (.aload 5, 2) := by decide +kernel
theorem dX6_worthiestTape_57 : decode cX6_worthiestTape 57 = .ok (.aload_n 0, 1) := by decide +kernel
theorem dX6_worthiestTape_58 : decode cX6_worthiestTape 58 = .ok (.getfield 100, 3) := by decide +kernel
theorem dX6_worthiestTape_61 : decode cX6_worthiestTape 61 = .ok (.iload_n 1, 1) := by decide +kernel
theorem dX6_worthiestTape_62 : decode cX6_worthiestTape 62 = .ok (.invokevirtual 175, 3) := by decide +kernel
theorem dX6_worthiestTape_65 : decode cX6_worthiestTape 65 = .ok (.istore 6, 2) := by decide +kernel
theorem dX6_worthiestTape_67 : decode cX6_worthiestTape 67 = .ok (.iload 6, 2) := by decide +kernel
theorem dX6_worthiestTape_69 : decode cX6_worthiestTape 69 = .ok (.iload_n 3, 1) := by decide +kernel
theorem dX6_worthiestTape_70 : decode cX6_worthiestTape 70 = .ok (.if_icmp .le 9, 3) := by decide +kernel
theorem dX6_worthiestTape_73 : decode cX6_worthiestTape 73 = .ok (.iload 4, 2) := by decide +kernel
theorem dX6_worthiestTape_75 : decode cX6_worthiestTape 75 = .ok (.istore_n 2, 1) := by decide +kernel
theorem dX6_worthiestTape_76 : decode cX6_worthiestTape 76 = .ok (.iload 6, 2) := by decide +kernel
theorem dX6_worthiestTape_78 : decode cX6_worthiestTape 78 = .ok (.istore_n 3, 1) := by decide +kernel
theorem dX6_worthiestTape_79 : decode cX6_worthiestTape 79 = .ok (.iinc 4 1, 3) := by decide +kernel
theorem dX6_worthiestTape_82 : decode cX6_worthiestTape 82 = .ok (.goto (-70), 3) := by decide +kernel
theorem dX6_worthiestTape_85 : decode cX6_worthiestTape 85 = .ok (.iload_n 2, 1) := by decide +kernel
theorem dX6_worthiestTape_86 : decode cX6_worthiestTape 86 = .ok (.ireturn, 1) := by decide +kernel
theorem dX6_scrubTape_0 : decode cX6_scrubTape 0 = .ok (.aconst_null, 1) := by decide +kernel
theorem dX6_scrubTape_1 : decode cX6_scrubTape 1 = .ok (.astore_n 1, 1) := by decide +kernel
theorem dX6_scrubTape_2 : decode cX6_scrubTape 2 = .ok (.iconst 0, 1) := by decide +kernel
theorem dX6_scrubTape_3 : decode cX6_scrubTape 3 = .ok (.istore_n 2, 1) := by decide +kernel
theorem dX6_scrubTape_4 : decode cX6_scrubTape 4 = .ok (.iload_n 2, 1) := by decide +kernel
theorem dX6_scrubTape_5 : decode cX6_scrubTape 5 = .ok (.aload_n 0, 1) := by decide +kernel
theorem dX6_scrubTape_6 : decode cX6_scrubTape 6 = .ok (.getfield 23, 3) := by decide +kernel
theorem dX6_scrubTape_9 : decode cX6_scrubTape 9 = .ok (.arraylength, 1) := by decide +kernel
theorem dX6_scrubTape_10 : decode cX6_scrubTape 10 = .ok (.if_icmp .ge 62, 3) := by decide +kernel
theorem dX6_scrubTape_13 : decode cX6_scrubTape 13 = .ok (.aload_n 0, 1) := by decide +kernel
theorem dX6_scrubTape_14 : decode cX6_scrubTape 14 = .ok (.getfield 23, 3) := by decide +kernel
theorem dX6_scrubTape_17 : decode cX6_scrubTape 17 = .ok (.iload_n 2, 1) := by decide +kernel
theorem dX6_scrubTape_18 : decode cX6_scrubTape 18 = .ok (.aaload, 1) := by decide +kernel
theorem dX6_scrubTape_19 : decode cX6_scrubTape 19 = .ok (.astore_n 3, 1) := by decide +kernel
theorem dX6_scrubTape_20 : decode cX6_scrubTape 20 = .ok (.aload_n 3, 1) := by decide +kernel
theorem dX6_scrubTape_21 : decode cX6_scrubTape 21 = .ok (.ifnull 45, 3) := by decide +kernel
theorem dX6_scrubTape_24 : decode cX6_scrubTape 24 = .ok (.aload_n 3, 1) := by decide +kernel
theorem dX6_scrubTape_25 : decode cX6_scrubTape 25 = .ok (.getfield 201, 3) := by decide +kernel
theorem dX6_scrubTape_28 : decode cX6_scrubTape 28 = .ok (.ifCond .ne 38, 3) := by decide +kernel
theorem dX6_scrubTape_31 : decode cX6_scrubTape 31 = .ok (.aload_n 3, 1) := by decide +kernel
theorem dX6_scrubTape_32 : decode cX6_scrubTape 32 = .ok (.invokevirtual 295, 3) := by decide +kernel
theorem dX6_scrubTape_35 : decode cX6_scrubTape 35 = .ok (.ifCond .eq 31, 3) := by decide +kernel
theorem dX6_scrubTape_38 : decode cX6_scrubTape 38 = .ok (.aload_n 0, 1) := by decide +kernel
theorem dX6_scrubTape_39 : decode cX6_scrubTape 39 = .ok (.aload_n 3, 1) := by decide +kernel
theorem dX6_scrubTape_40 : decode cX6_scrubTape 40 = .ok (.getfield 200, 3) := by decide +kernel
theorem dX6_scrubTape_43 : decode cX6_scrubTape 43 = .ok (.invokevirtual 443, 3) := by decide +kernel
theorem dX6_scrubTape_46 : decode cX6_scrubTape 46 = .ok (.ifCond .eq 20, 3) := by decide +kernel
theorem dX6_scrubTape_49 : decode cX6_scrubTape 49 = .ok (.aload_n 1, 1) := by decide +kernel
theorem dX6_scrubTape_50 : decode cX6_scrubTape 50 = .ok (.ifnull 14, 3) := by decide +kernel
theorem dX6_scrubTape_53 : decode cX6_scrubTape 53 = .ok (.aload_n 3, 1) := by decide +kernel
theorem dX6_scrubTape_54 : decode cX6_scrubTape 54 = .ok (.getfield 212, 3) := by decide +kernel
theorem dX6_scrubTape_57 : decode cX6_scrubTape 57 = .ok (.aload_n 1, 1) := by decide +kernel
theorem dX6_scrubTape_58 : decode cX6_scrubTape 58 = .ok (.getfield 212, 3) := by decide +kernel
theorem dX6_scrubTape_61 : decode cX6_scrubTape 61 = .ok (.if_icmp .ge 5, 3) := by decide +kernel
theorem dX6_scrubTape_64 : decode cX6_scrubTape 64 = .ok (.aload_n 3, 1) := by decide +kernel
theorem dX6_scrubTape_65 : decode cX6_scrubTape 65 = .ok (.astore_n 1, 1) := by decide +kernel
theorem dX6_scrubTape_66 : decode cX6_scrubTape 66 = .ok (.iinc 2 1, 3) := by decide +kernel
theorem dX6_scrubTape_69 : decode cX6_scrubTape 69 = .ok (.goto (-65), 3) := by decide +kernel
theorem dX6_scrubTape_72 : decode cX6_scrubTape 72 = .ok (.aload_n 1, 1) := by decide +kernel
theorem dX6_scrubTape_73 : decode cX6_scrubTape 73 = .ok (.ifnonnull 5, 3) := by decide +kernel
theorem dX6_scrubTape_76 : decode cX6_scrubTape 76 = .ok (.iconst (-1), 1) := by decide +kernel
theorem dX6_scrubTape_77 : decode cX6_scrubTape 77 = .ok (.ireturn, 1) := by decide +kernel
theorem dX6_scrubTape_78 : decode cX6_scrubTape 78 = .ok (.aload_n 0, 1) := by decide +kernel
theorem dX6_scrubTape_79 : decode cX6_scrubTape 79 = .ok (.getfield 301, 3) := by decide +kernel
theorem dX6_scrubTape_82 : decode cX6_scrubTape 82 = .ok (.ifCond .eq 17, 3) := by decide +kernel
theorem dX6_scrubTape_85 : decode cX6_scrubTape 85 = .ok (.aload_n 1, 1) := by decide +kernel
theorem dX6_scrubTape_86 : decode cX6_scrubTape 86 = .ok (.getfield 212, 3) := by decide +kernel
theorem dX6_scrubTape_89 : decode cX6_scrubTape 89 = .ok (.aload_n 0, 1) := by decide +kernel
theorem dX6_scrubTape_90 : decode cX6_scrubTape 90 = .ok (.getfield 100, 3) := by decide +kernel
theorem dX6_scrubTape_93 : decode cX6_scrubTape 93 = .ok (.bipush 100, 2) := by decide +kernel
theorem dX6_scrubTape_95 : decode cX6_scrubTape 95 = .ok (.iadd, 1) := by decide +kernel
theorem dX6_scrubTape_96 : decode cX6_scrubTape 96 = .ok (.if_icmp .gt 10, 3) := by decide +kernel
theorem dX6_scrubTape_99 : decode cX6_scrubTape 99 = .ok (.aload_n 1, 1) := by decide +kernel
theorem dX6_scrubTape_100 : decode cX6_scrubTape 100 = .ok (.getfield 200, 3) := by decide +kernel
theorem dX6_scrubTape_103 : decode cX6_scrubTape 103 = .ok (.goto 4, 3) := by decide +kernel
theorem dX6_scrubTape_106 : decode cX6_scrubTape 106 = .ok (.iconst (-1), 1) := by decide +kernel
theorem dX6_scrubTape_107 : decode cX6_scrubTape 107 = .ok (.ireturn, 1) := by decide +kernel
