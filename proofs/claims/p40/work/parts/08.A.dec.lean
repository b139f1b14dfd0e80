theorem dX0_init_0 : decode bX0_init.2.1 0 = .ok (.aload_n 0, 1) := by decide +kernel
theorem dX0_init_1 : decode bX0_init.2.1 1 = .ok (.invokespecial 3, 3) := by decide +kernel
theorem dX0_init_4 : decode bX0_init.2.1 4 = .ok (.aload_n 0, 1) := by decide +kernel
theorem dX0_init_5 : decode bX0_init.2.1 5 = .ok (.bipush 24, 2) := by decide +kernel
theorem dX0_init_7 : decode bX0_init.2.1 7 = .ok (.newarray .int, 2) := by decide +kernel
theorem dX0_init_9 : decode bX0_init.2.1 9 = .ok (.putfield 9, 3) := by decide +kernel
theorem dX0_init_12 : decode bX0_init.2.1 12 = .ok (.aload_n 0, 1) := by decide +kernel
theorem dX0_init_13 : decode bX0_init.2.1 13 = .ok (.bipush 24, 2) := by decide +kernel
theorem dX0_init_15 : decode bX0_init.2.1 15 = .ok (.newarray .int, 2) := by decide +kernel
theorem dX0_init_17 : decode bX0_init.2.1 17 = .ok (.putfield 15, 3) := by decide +kernel
theorem dX0_init_20 : decode bX0_init.2.1 20 = .ok (.aload_n 0, 1) := by decide +kernel
theorem dX0_init_21 : decode bX0_init.2.1 21 = .ok (.bipush 24, 2) := by decide +kernel
theorem dX0_init_23 : decode bX0_init.2.1 23 = .ok (.newarray .int, 2) := by decide +kernel
theorem dX0_init_25 : decode bX0_init.2.1 25 = .ok (.putfield 18, 3) := by decide +kernel
theorem dX0_init_28 : decode bX0_init.2.1 28 = .ok (.aload_n 0, 1) := by decide +kernel
theorem dX0_init_29 : decode bX0_init.2.1 29 = .ok (.bipush 24, 2) := by decide +kernel
theorem dX0_init_31 : decode bX0_init.2.1 31 = .ok (.newarray .boolean, 2) := by decide +kernel
theorem dX0_init_33 : decode bX0_init.2.1 33 = .ok (.putfield 21, 3) := by decide +kernel
theorem dX0_init_36 : decode bX0_init.2.1 36 = .ok (.aload_n 0, 1) := by decide +kernel
theorem dX0_init_37 : decode bX0_init.2.1 37 = .ok (.aload_n 1, 1) := by decide +kernel
theorem dX0_init_38 : decode bX0_init.2.1 38 = .ok (.putfield 25, 3) := by decide +kernel
theorem dX0_init_41 : decode bX0_init.2.1 41 = .ok (.return_, 1) := by decide +kernel
theorem dX0_read_0 : decode bX0_read.2.1 0 = .ok (.aload_n 0, 1) := by decide +kernel
theorem dX0_read_1 : decode bX0_read.2.1 1 = .ok (.getfield 25, 3) := by decide +kernel
theorem dX0_read_4 : decode bX0_read.2.1 4 = .ok (.iconst 0, 1) := by decide +kernel
theorem dX0_read_5 : decode bX0_read.2.1 5 = .ok (.putfield 29, 3) := by decide +kernel
theorem dX0_read_8 : decode bX0_read.2.1 8 = .ok (.aload_n 0, 1) := by decide +kernel
theorem dX0_read_9 : decode bX0_read.2.1 9 = .ok (.iconst 0, 1) := by decide +kernel
theorem dX0_read_10 : decode bX0_read.2.1 10 = .ok (.putfield 35, 3) := by decide +kernel
theorem dX0_read_13 : decode bX0_read.2.1 13 = .ok (.iconst 0, 1) := by decide +kernel
theorem dX0_read_14 : decode bX0_read.2.1 14 = .ok (.istore_n 1, 1) := by decide +kernel
theorem dX0_read_15 : decode bX0_read.2.1 15 = .ok (.iload_n 1, 1) := by decide +kernel
theorem dX0_read_16 : decode bX0_read.2.1 16 = .ok (.aload_n 0, 1) := by decide +kernel
theorem dX0_read_17 : decode bX0_read.2.1 17 = .ok (.getfield 21, 3) := by decide +kernel
theorem dX0_read_20 : decode bX0_read.2.1 20 = .ok (.arraylength, 1) := by decide +kernel
theorem dX0_read_21 : decode bX0_read.2.1 21 = .ok (.if_icmp .ge 16, 3) := by decide +kernel
theorem dX0_read_24 : decode bX0_read.2.1 24 = .ok (.aload_n 0, 1) := by decide +kernel
theorem dX0_read_25 : decode bX0_read.2.1 25 = .ok (.getfield 21, 3) := by decide +kernel
theorem dX0_read_28 : decode bX0_read.2.1 28 = .ok (.iload_n 1, 1) := by decide +kernel
theorem dX0_read_29 : decode bX0_read.2.1 29 = .ok (.iconst 0, 1) := by decide +kernel
theorem dX0_read_30 : decode bX0_read.2.1 30 = .ok (.bastore, 1) := by decide +kernel
theorem dX0_read_31 : decode bX0_read.2.1 31 = .ok (.iinc 1 1, 3) := by decide +kernel
theorem dX0_read_34 : decode bX0_read.2.1 34 = .ok (.goto (-19), 3) := by decide +kernel
theorem dX0_read_37 : decode bX0_read.2.1 37 = .ok (.aload_n 0, 1) := by decide +kernel
theorem dX0_read_38 : decode bX0_read.2.1 38 = .ok (.invokevirtual 38, 3) := by decide +kernel
theorem dX0_read_41 : decode bX0_read.2.1 41 = .ok (.ifCond .ne 11, 3) := by decide +kernel
theorem dX0_read_44 : decode bX0_read.2.1 44 = .ok (.aload_n 0, 1) := by decide +kernel
theorem dX0_read_45 : decode bX0_read.2.1 45 = .ok (.getfield 25, 3) := by decide +kernel
theorem dX0_read_48 : decode bX0_read.2.1 48 = .ok (.getfield 29, 3) := by decide +kernel
theorem dX0_read_51 : decode bX0_read.2.1 51 = .ok (.ireturn, 1) := by decide +kernel
theorem dX0_read_52 : decode bX0_read.2.1 52 = .ok (.aload_n 0, 1) := by decide +kernel
theorem dX0_read_53 : decode bX0_read.2.1 53 = .ok (.getfield 25, 3) := by decide +kernel
theorem dX0_read_56 : decode bX0_read.2.1 56 = .ok (.bipush 59, 2) := by decide +kernel
theorem dX0_read_58 : decode bX0_read.2.1 58 = .ok (.invokevirtual 42, 3) := by decide +kernel
theorem dX0_read_61 : decode bX0_read.2.1 61 = .ok (.ifCond .eq 18, 3) := by decide +kernel
theorem dX0_read_64 : decode bX0_read.2.1 64 = .ok (.aload_n 0, 1) := by decide +kernel
theorem dX0_read_65 : decode bX0_read.2.1 65 = .ok (.invokevirtual 46, 3) := by decide +kernel
theorem dX0_read_68 : decode bX0_read.2.1 68 = .ok (.ifCond .ne 11, 3) := by decide +kernel
theorem dX0_read_71 : decode bX0_read.2.1 71 = .ok (.aload_n 0, 1) := by decide +kernel
theorem dX0_read_72 : decode bX0_read.2.1 72 = .ok (.getfield 25, 3) := by decide +kernel
theorem dX0_read_75 : decode bX0_read.2.1 75 = .ok (.getfield 29, 3) := by decide +kernel
theorem dX0_read_78 : decode bX0_read.2.1 78 = .ok (.ireturn, 1) := by decide +kernel
theorem dX0_read_79 : decode bX0_read.2.1 79 = .ok (.aload_n 0, 1) := by decide +kernel
theorem dX0_read_80 : decode bX0_read.2.1 80 = .ok (.getfield 25, 3) := by decide +kernel
theorem dX0_read_83 : decode bX0_read.2.1 83 = .ok (.invokevirtual 49, 3) := by decide +kernel
theorem dX0_read_86 : decode bX0_read.2.1 86 = .ok (.ifCond .ne 7, 3) := by decide +kernel
theorem dX0_read_89 : decode bX0_read.2.1 89 = .ok (.iconst (-1), 1) := by decide +kernel
theorem dX0_read_90 : decode bX0_read.2.1 90 = .ok (.goto 10, 3) := by decide +kernel
theorem dX0_read_93 : decode bX0_read.2.1 93 = .ok (.aload_n 0, 1) := by decide +kernel
theorem dX0_read_94 : decode bX0_read.2.1 94 = .ok (.getfield 25, 3) := by decide +kernel
theorem dX0_read_97 : decode bX0_read.2.1 97 = .ok (.getfield 29, 3) := by decide +kernel
theorem dX0_read_100 : decode bX0_read.2.1 100 = .ok (.ireturn, 1) := by decide +kernel
theorem dX0_readSpeeches_0 : decode bX0_readSpeeches.2.1 0 = .ok (.iconst 0, 1) := by decide +kernel
theorem dX0_readSpeeches_1 : decode bX0_readSpeeches.2.1 1 = .ok (.istore_n 1, 1) := by decide +kernel
theorem dX0_readSpeeches_2 : decode bX0_readSpeeches.2.1 2 = .ok (.iload_n 1, 1) := by decide +kernel
theorem dX0_readSpeeches_3 : decode bX0_readSpeeches.2.1 3 = .ok (.bipush 24, 2) := by decide +kernel
theorem dX0_readSpeeches_5 : decode bX0_readSpeeches.2.1 5 = .ok (.if_icmp .ge 48, 3) := by decide +kernel
theorem dX0_readSpeeches_8 : decode bX0_readSpeeches.2.1 8 = .ok (.iload_n 1, 1) := by decide +kernel
theorem dX0_readSpeeches_9 : decode bX0_readSpeeches.2.1 9 = .ok (.ifCond .le 18, 3) := by decide +kernel
theorem dX0_readSpeeches_12 : decode bX0_readSpeeches.2.1 12 = .ok (.aload_n 0, 1) := by decide +kernel
theorem dX0_readSpeeches_13 : decode bX0_readSpeeches.2.1 13 = .ok (.getfield 25, 3) := by decide +kernel
theorem dX0_readSpeeches_16 : decode bX0_readSpeeches.2.1 16 = .ok (.bipush 44, 2) := by decide +kernel
theorem dX0_readSpeeches_18 : decode bX0_readSpeeches.2.1 18 = .ok (.invokevirtual 42, 3) := by decide +kernel
theorem dX0_readSpeeches_21 : decode bX0_readSpeeches.2.1 21 = .ok (.ifCond .ne 6, 3) := by decide +kernel
theorem dX0_readSpeeches_24 : decode bX0_readSpeeches.2.1 24 = .ok (.goto 29, 3) := by decide +kernel
theorem dX0_readSpeeches_27 : decode bX0_readSpeeches.2.1 27 = .ok (.aload_n 0, 1) := by decide +kernel
theorem dX0_readSpeeches_28 : decode bX0_readSpeeches.2.1 28 = .ok (.iload_n 1, 1) := by decide +kernel
theorem dX0_readSpeeches_29 : decode bX0_readSpeeches.2.1 29 = .ok (.invokevirtual 53, 3) := by decide +kernel
theorem dX0_readSpeeches_32 : decode bX0_readSpeeches.2.1 32 = .ok (.ifCond .ne 5, 3) := by decide +kernel
theorem dX0_readSpeeches_35 : decode bX0_readSpeeches.2.1 35 = .ok (.iconst 0, 1) := by decide +kernel
theorem dX0_readSpeeches_36 : decode bX0_readSpeeches.2.1 36 = .ok (.ireturn, 1) := by decide +kernel
theorem dX0_readSpeeches_37 : decode bX0_readSpeeches.2.1 37 = .ok (.aload_n 0, 1) := by decide +kernel
theorem dX0_readSpeeches_38 : decode bX0_readSpeeches.2.1 38 = .ok (.dup, 1) := by decide +kernel
theorem dX0_readSpeeches_39 : decode bX0_readSpeeches.2.1 39 = .ok (.getfield 35, 3) := by decide +kernel
theorem dX0_readSpeeches_42 : decode bX0_readSpeeches.2.1 42 = .ok (.iconst 1, 1) := by decide +kernel
theorem dX0_readSpeeches_43 : decode bX0_readSpeeches.2.1 43 = .ok (.iadd, 1) := by decide +kernel
theorem dX0_readSpeeches_44 : decode bX0_readSpeeches.2.1 44 = .ok (.putfield 35, 3) := by decide +kernel
theorem dX0_readSpeeches_47 : decode bX0_readSpeeches.2.1 47 = .ok (.iinc 1 1, 3) := by decide +kernel
theorem dX0_readSpeeches_50 : decode bX0_readSpeeches.2.1 50 = .ok (.goto (-48), 3) := by decide +kernel
theorem dX0_readSpeeches_53 : decode bX0_readSpeeches.2.1 53 = .ok (.aload_n 0, 1) := by decide +kernel
theorem dX0_readSpeeches_54 : decode bX0_readSpeeches.2.1 54 = .ok (.getfield 35, 3) := by decide +kernel
theorem dX0_readSpeeches_57 : decode bX0_readSpeeches.2.1 57 = .ok (.iconst 1, 1) := by decide +kernel
theorem dX0_readSpeeches_58 : decode bX0_readSpeeches.2.1 58 = .ok (.if_icmp .le 7, 3) := by decide +kernel
theorem dX0_readSpeeches_61 : decode bX0_readSpeeches.2.1 61 = .ok (.iconst 1, 1) := by decide +kernel
theorem dX0_readSpeeches_62 : decode bX0_readSpeeches.2.1 62 = .ok (.goto 4, 3) := by decide +kernel
theorem dX0_readSpeeches_65 : decode bX0_readSpeeches.2.1 65 = .ok (.iconst 0, 1) := by decide +kernel
theorem dX0_readSpeeches_66 : decode bX0_readSpeeches.2.1 66 = .ok (.ireturn, 1) := by decide +kernel
theorem dX0_readSpeech_0 : decode bX0_readSpeech.2.1 0 = .ok (.aload_n 0, 1) := by decide +kernel
theorem dX0_readSpeech_1 : decode bX0_readSpeech.2.1 1 = .ok (.getfield 25, 3) := by decide +kernel
theorem dX0_readSpeech_4 : decode bX0_readSpeech.2.1 4 = .ok (.invokevirtual 49, 3) := by decide +kernel
theorem dX0_readSpeech_7 : decode bX0_readSpeech.2.1 7 = .ok (.istore_n 2, 1) := by decide +kernel
theorem dX0_readSpeech_8 : decode bX0_readSpeech.2.1 8 = .ok (.iload_n 2, 1) := by decide +kernel
theorem dX0_readSpeech_9 : decode bX0_readSpeech.2.1 9 = .ok (.bipush 65, 2) := by decide +kernel
theorem dX0_readSpeech_11 : decode bX0_readSpeech.2.1 11 = .ok (.if_icmp .lt 9, 3) := by decide +kernel
theorem dX0_readSpeech_14 : decode bX0_readSpeech.2.1 14 = .ok (.iload_n 2, 1) := by decide +kernel
theorem dX0_readSpeech_15 : decode bX0_readSpeech.2.1 15 = .ok (.bipush 72, 2) := by decide +kernel
theorem dX0_readSpeech_17 : decode bX0_readSpeech.2.1 17 = .ok (.if_icmp .le 5, 3) := by decide +kernel
theorem dX0_readSpeech_20 : decode bX0_readSpeech.2.1 20 = .ok (.iconst 0, 1) := by decide +kernel
theorem dX0_readSpeech_21 : decode bX0_readSpeech.2.1 21 = .ok (.ireturn, 1) := by decide +kernel
theorem dX0_readSpeech_22 : decode bX0_readSpeech.2.1 22 = .ok (.aload_n 0, 1) := by decide +kernel
theorem dX0_readSpeech_23 : decode bX0_readSpeech.2.1 23 = .ok (.getfield 25, 3) := by decide +kernel
theorem dX0_readSpeech_26 : decode bX0_readSpeech.2.1 26 = .ok (.dup, 1) := by decide +kernel
theorem dX0_readSpeech_27 : decode bX0_readSpeech.2.1 27 = .ok (.getfield 29, 3) := by decide +kernel
theorem dX0_readSpeech_30 : decode bX0_readSpeech.2.1 30 = .ok (.iconst 1, 1) := by decide +kernel
theorem dX0_readSpeech_31 : decode bX0_readSpeech.2.1 31 = .ok (.iadd, 1) := by decide +kernel
theorem dX0_readSpeech_32 : decode bX0_readSpeech.2.1 32 = .ok (.putfield 29, 3) := by decide +kernel
theorem dX0_readSpeech_35 : decode bX0_readSpeech.2.1 35 = .ok (.aload_n 0, 1) := by decide +kernel
theorem dX0_readSpeech_36 : decode bX0_readSpeech.2.1 36 = .ok (.getfield 25, 3) := by decide +kernel
theorem dX0_readSpeech_39 : decode bX0_readSpeech.2.1 39 = .ok (.invokevirtual 49, 3) := by decide +kernel
theorem dX0_readSpeech_42 : decode bX0_readSpeech.2.1 42 = .ok (.istore_n 3, 1) := by decide +kernel
theorem dX0_readSpeech_43 : decode bX0_readSpeech.2.1 43 = .ok (.iload_n 3, 1) := by decide +kernel
theorem dX0_readSpeech_44 : decode bX0_readSpeech.2.1 44 = .ok (.bipush 97, 2) := by decide +kernel
theorem dX0_readSpeech_46 : decode bX0_readSpeech.2.1 46 = .ok (.if_icmp .lt 9, 3) := by decide +kernel
theorem dX0_readSpeech_49 : decode bX0_readSpeech.2.1 49 = .ok (.iload_n 3, 1) := by decide +kernel
theorem dX0_readSpeech_50 : decode bX0_readSpeech.2.1 50 = .ok (.bipush 122, 2) := by decide +kernel
theorem dX0_readSpeech_52 : decode bX0_readSpeech.2.1 52 = .ok (.if_icmp .le 5, 3) := by decide +kernel
theorem dX0_readSpeech_55 : decode bX0_readSpeech.2.1 55 = .ok (.iconst 0, 1) := by decide +kernel
theorem dX0_readSpeech_56 : decode bX0_readSpeech.2.1 56 = .ok (.ireturn, 1) := by decide +kernel
theorem dX0_readSpeech_57 : decode bX0_readSpeech.2.1 57 = .ok (.aload_n 0, 1) := by decide +kernel
theorem dX0_readSpeech_58 : decode bX0_readSpeech.2.1 58 = .ok (.getfield 25, 3) := by decide +kernel
theorem dX0_readSpeech_61 : decode bX0_readSpeech.2.1 61 = .ok (.dup, 1) := by decide +kernel
theorem dX0_readSpeech_62 : decode bX0_readSpeech.2.1 62 = .ok (.getfield 29, 3) := by decide +kernel
theorem dX0_readSpeech_65 : decode bX0_readSpeech.2.1 65 = .ok (.iconst 1, 1) := by decide +kernel
theorem dX0_readSpeech_66 : decode bX0_readSpeech.2.1 66 = .ok (.iadd, 1) := by decide +kernel
theorem dX0_readSpeech_67 : decode bX0_readSpeech.2.1 67 = .ok (.putfield 29, 3) := by decide +kernel
theorem dX0_readSpeech_70 : decode bX0_readSpeech.2.1 70 = .ok (.iload_n 1, 1) := by decide +kernel
theorem dX0_readSpeech_71 : decode bX0_readSpeech.2.1 71 = .ok (.ifCond .lt 9, 3) := by decide +kernel
theorem dX0_readSpeech_74 : decode bX0_readSpeech.2.1 74 = .ok (.iload_n 1, 1) := by decide +kernel
theorem dX0_readSpeech_75 : decode bX0_readSpeech.2.1 75 = .ok (.bipush 24, 2) := by decide +kernel
theorem dX0_readSpeech_77 : decode bX0_readSpeech.2.1 77 = .ok (.if_icmp .lt 5, 3) := by decide +kernel
theorem dX0_readSpeech_80 : decode bX0_readSpeech.2.1 80 = .ok (.iconst 0, 1) := by decide +kernel
theorem dX0_readSpeech_81 : decode bX0_readSpeech.2.1 81 = .ok (.ireturn, 1) := by decide +kernel
theorem dX0_readSpeech_82 : decode bX0_readSpeech.2.1 82 = .ok (.aload_n 0, 1) := by decide +kernel
theorem dX0_readSpeech_83 : decode bX0_readSpeech.2.1 83 = .ok (.getfield 9, 3) := by decide +kernel
theorem dX0_readSpeech_86 : decode bX0_readSpeech.2.1 86 = .ok (.iload_n 1, 1) := by decide +kernel
theorem dX0_readSpeech_87 : decode bX0_readSpeech.2.1 87 = .ok (.iload_n 2, 1) := by decide +kernel
theorem dX0_readSpeech_88 : decode bX0_readSpeech.2.1 88 = .ok (.bipush 65, 2) := by decide +kernel
theorem dX0_readSpeech_90 : decode bX0_readSpeech.2.1 90 = .ok (.isub, 1) := by decide +kernel
theorem dX0_readSpeech_91 : decode bX0_readSpeech.2.1 91 = .ok (.iastore, 1) := by decide +kernel
theorem dX0_readSpeech_92 : decode bX0_readSpeech.2.1 92 = .ok (.aload_n 0, 1) := by decide +kernel
theorem dX0_readSpeech_93 : decode bX0_readSpeech.2.1 93 = .ok (.getfield 15, 3) := by decide +kernel
theorem dX0_readSpeech_96 : decode bX0_readSpeech.2.1 96 = .ok (.iload_n 1, 1) := by decide +kernel
theorem dX0_readSpeech_97 : decode bX0_readSpeech.2.1 97 = .ok (.iload_n 3, 1) := by decide +kernel
theorem dX0_readSpeech_98 : decode bX0_readSpeech.2.1 98 = .ok (.bipush 97, 2) := by decide +kernel
theorem dX0_readSpeech_100 : decode bX0_readSpeech.2.1 100 = .ok (.isub, 1) := by decide +kernel
theorem dX0_readSpeech_101 : decode bX0_readSpeech.2.1 101 = .ok (.iastore, 1) := by decide +kernel
theorem dX0_readSpeech_102 : decode bX0_readSpeech.2.1 102 = .ok (.aload_n 0, 1) := by decide +kernel
theorem dX0_readSpeech_103 : decode bX0_readSpeech.2.1 103 = .ok (.getfield 18, 3) := by decide +kernel
theorem dX0_readSpeech_106 : decode bX0_readSpeech.2.1 106 = .ok (.iload_n 1, 1) := by decide +kernel
theorem dX0_readSpeech_107 : decode bX0_readSpeech.2.1 107 = .ok (.iconst 5, 1) := by decide +kernel
theorem dX0_readSpeech_108 : decode bX0_readSpeech.2.1 108 = .ok (.iastore, 1) := by decide +kernel
theorem dX0_readSpeech_109 : decode bX0_readSpeech.2.1 109 = .ok (.aload_n 0, 1) := by decide +kernel
theorem dX0_readSpeech_110 : decode bX0_readSpeech.2.1 110 = .ok (.getfield 25, 3) := by decide +kernel
theorem dX0_readSpeech_113 : decode bX0_readSpeech.2.1 113 = .ok (.invokevirtual 49, 3) := by decide +kernel
theorem dX0_readSpeech_116 : decode bX0_readSpeech.2.1 116 = .ok (.invokestatic 56, 3) := by decide +kernel
theorem dX0_readSpeech_119 : decode bX0_readSpeech.2.1 119 = .ok (.ifCond .eq 11, 3) := by decide +kernel
theorem dX0_readSpeech_122 : decode bX0_readSpeech.2.1 122 = .ok (.aload_n 0, 1) := by decide +kernel
theorem dX0_readSpeech_123 : decode bX0_readSpeech.2.1 123 = .ok (.iload_n 1, 1) := by decide +kernel
theorem dX0_readSpeech_124 : decode bX0_readSpeech.2.1 124 = .ok (.invokevirtual 59, 3) := by decide +kernel
theorem dX0_readSpeech_127 : decode bX0_readSpeech.2.1 127 = .ok (.ifCond .eq 7, 3) := by decide +kernel
theorem dX0_readSpeech_130 : decode bX0_readSpeech.2.1 130 = .ok (.iconst 1, 1) := by decide +kernel
theorem dX0_readSpeech_131 : decode bX0_readSpeech.2.1 131 = .ok (.goto 4, 3) := by decide +kernel
theorem dX0_readSpeech_134 : decode bX0_readSpeech.2.1 134 = .ok (.iconst 0, 1) := by decide +kernel
theorem dX0_readSpeech_135 : decode bX0_readSpeech.2.1 135 = .ok (.ireturn, 1) := by decide +kernel
theorem dX0_readLength_0 : decode bX0_readLength.2.1 0 = .ok (.aload_n 0, 1) := by decide +kernel
theorem dX0_readLength_1 : decode bX0_readLength.2.1 1 = .ok (.getfield 25, 3) := by decide +kernel
theorem dX0_readLength_4 : decode bX0_readLength.2.1 4 = .ok (.iconst 2, 1) := by decide +kernel
theorem dX0_readLength_5 : decode bX0_readLength.2.1 5 = .ok (.invokevirtual 62, 3) := by decide +kernel
theorem dX0_readLength_8 : decode bX0_readLength.2.1 8 = .ok (.istore_n 2, 1) := by decide +kernel
theorem dX0_readLength_9 : decode bX0_readLength.2.1 9 = .ok (.iload_n 2, 1) := by decide +kernel
theorem dX0_readLength_10 : decode bX0_readLength.2.1 10 = .ok (.iconst (-1), 1) := by decide +kernel
theorem dX0_readLength_11 : decode bX0_readLength.2.1 11 = .ok (.if_icmp .ne 5, 3) := by decide +kernel
theorem dX0_readLength_14 : decode bX0_readLength.2.1 14 = .ok (.iconst 0, 1) := by decide +kernel
theorem dX0_readLength_15 : decode bX0_readLength.2.1 15 = .ok (.ireturn, 1) := by decide +kernel
theorem dX0_readLength_16 : decode bX0_readLength.2.1 16 = .ok (.iload_n 2, 1) := by decide +kernel
theorem dX0_readLength_17 : decode bX0_readLength.2.1 17 = .ok (.iconst 1, 1) := by decide +kernel
theorem dX0_readLength_18 : decode bX0_readLength.2.1 18 = .ok (.if_icmp .ge 11, 3) := by decide +kernel
theorem dX0_readLength_21 : decode bX0_readLength.2.1 21 = .ok (.aload_n 0, 1) := by decide +kernel
theorem dX0_readLength_22 : decode bX0_readLength.2.1 22 = .ok (.getfield 25, 3) := by decide +kernel
theorem dX0_readLength_25 : decode bX0_readLength.2.1 25 = .ok (.invokevirtual 66, 3) := by decide +kernel
theorem dX0_readLength_28 : decode bX0_readLength.2.1 28 = .ok (.ireturn, 1) := by decide +kernel
theorem dX0_readLength_29 : decode bX0_readLength.2.1 29 = .ok (.aload_n 0, 1) := by decide +kernel
theorem dX0_readLength_30 : decode bX0_readLength.2.1 30 = .ok (.getfield 18, 3) := by decide +kernel
theorem dX0_readLength_33 : decode bX0_readLength.2.1 33 = .ok (.iload_n 1, 1) := by decide +kernel
theorem dX0_readLength_34 : decode bX0_readLength.2.1 34 = .ok (.iload_n 2, 1) := by decide +kernel
theorem dX0_readLength_35 : decode bX0_readLength.2.1 35 = .ok (.iastore, 1) := by decide +kernel
theorem dX0_readLength_36 : decode bX0_readLength.2.1 36 = .ok (.iconst 1, 1) := by decide +kernel
theorem dX0_readLength_37 : decode bX0_readLength.2.1 37 = .ok (.ireturn, 1) := by decide +kernel
theorem dX0_readCuts_0 : decode bX0_readCuts.2.1 0 = .ok (.aload_n 0, 1) := by decide +kernel
theorem dX0_readCuts_1 : decode bX0_readCuts.2.1 1 = .ok (.aload_n 0, 1) := by decide +kernel
theorem dX0_readCuts_2 : decode bX0_readCuts.2.1 2 = .ok (.getfield 35, 3) := by decide +kernel
theorem dX0_readCuts_5 : decode bX0_readCuts.2.1 5 = .ok (.putfield 69, 3) := by decide +kernel
theorem dX0_readCuts_8 : decode bX0_readCuts.2.1 8 = .ok (.aload_n 0, 1) := by decide +kernel
theorem dX0_readCuts_9 : decode bX0_readCuts.2.1 9 = .ok (.iconst (-1), 1) := by decide +kernel
theorem dX0_readCuts_10 : decode bX0_readCuts.2.1 10 = .ok (.putfield 72, 3) := by decide +kernel
theorem dX0_readCuts_13 : decode bX0_readCuts.2.1 13 = .ok (.iconst 0, 1) := by decide +kernel
theorem dX0_readCuts_14 : decode bX0_readCuts.2.1 14 = .ok (.istore_n 1, 1) := by decide +kernel
theorem dX0_readCuts_15 : decode bX0_readCuts.2.1 15 = .ok (.iload_n 1, 1) := by decide +kernel
theorem dX0_readCuts_16 : decode bX0_readCuts.2.1 16 = .ok (.bipush 24, 2) := by decide +kernel
theorem dX0_readCuts_18 : decode bX0_readCuts.2.1 18 = .ok (.if_icmp .ge 36, 3) := by decide +kernel
theorem dX0_readCuts_21 : decode bX0_readCuts.2.1 21 = .ok (.iload_n 1, 1) := by decide +kernel
theorem dX0_readCuts_22 : decode bX0_readCuts.2.1 22 = .ok (.ifCond .le 17, 3) := by decide +kernel
theorem dX0_readCuts_25 : decode bX0_readCuts.2.1 25 = .ok (.aload_n 0, 1) := by decide +kernel
theorem dX0_readCuts_26 : decode bX0_readCuts.2.1 26 = .ok (.getfield 25, 3) := by decide +kernel
theorem dX0_readCuts_29 : decode bX0_readCuts.2.1 29 = .ok (.bipush 44, 2) := by decide +kernel
theorem dX0_readCuts_31 : decode bX0_readCuts.2.1 31 = .ok (.invokevirtual 42, 3) := by decide +kernel
theorem dX0_readCuts_34 : decode bX0_readCuts.2.1 34 = .ok (.ifCond .ne 5, 3) := by decide +kernel
theorem dX0_readCuts_37 : decode bX0_readCuts.2.1 37 = .ok (.iconst 1, 1) := by decide +kernel
theorem dX0_readCuts_38 : decode bX0_readCuts.2.1 38 = .ok (.ireturn, 1) := by decide +kernel
theorem dX0_readCuts_39 : decode bX0_readCuts.2.1 39 = .ok (.aload_n 0, 1) := by decide +kernel
theorem dX0_readCuts_40 : decode bX0_readCuts.2.1 40 = .ok (.invokevirtual 75, 3) := by decide +kernel
theorem dX0_readCuts_43 : decode bX0_readCuts.2.1 43 = .ok (.ifCond .ne 5, 3) := by decide +kernel
theorem dX0_readCuts_46 : decode bX0_readCuts.2.1 46 = .ok (.iconst 0, 1) := by decide +kernel
theorem dX0_readCuts_47 : decode bX0_readCuts.2.1 47 = .ok (.ireturn, 1) := by decide +kernel
theorem dX0_readCuts_48 : decode bX0_readCuts.2.1 48 = .ok (.iinc 1 1, 3) := by decide +kernel
theorem dX0_readCuts_51 : decode bX0_readCuts.2.1 51 = .ok (.goto (-36), 3) := by decide +kernel
theorem dX0_readCuts_54 : decode bX0_readCuts.2.1 54 = .ok (.iconst 1, 1) := by decide +kernel
theorem dX0_readCuts_55 : decode bX0_readCuts.2.1 55 = .ok (.ireturn, 1) := by decide +kernel
theorem dX0_readCut_0 : decode bX0_readCut.2.1 0 = .ok (.aload_n 0, 1) := by decide +kernel
theorem dX0_readCut_1 : decode bX0_readCut.2.1 1 = .ok (.getfield 25, 3) := by decide +kernel
theorem dX0_readCut_4 : decode bX0_readCut.2.1 4 = .ok (.invokevirtual 49, 3) := by decide +kernel
theorem dX0_readCut_7 : decode bX0_readCut.2.1 7 = .ok (.pop, 1) := by decide +kernel
theorem dX0_readCut_8 : decode bX0_readCut.2.1 8 = .ok (.aload_n 0, 1) := by decide +kernel
theorem dX0_readCut_9 : decode bX0_readCut.2.1 9 = .ok (.getfield 25, 3) := by decide +kernel
theorem dX0_readCut_12 : decode bX0_readCut.2.1 12 = .ok (.iconst 2, 1) := by decide +kernel
theorem dX0_readCut_13 : decode bX0_readCut.2.1 13 = .ok (.invokevirtual 62, 3) := by decide +kernel
theorem dX0_readCut_16 : decode bX0_readCut.2.1 16 = .ok (.istore_n 1, 1) := by decide +kernel
theorem dX0_readCut_17 : decode bX0_readCut.2.1 17 = .ok (.iload_n 1, 1) := by decide +kernel
theorem dX0_readCut_18 : decode bX0_readCut.2.1 18 = .ok (.iconst (-1), 1) := by decide +kernel
theorem dX0_readCut_19 : decode bX0_readCut.2.1 19 = .ok (.if_icmp .ne 5, 3) := by decide +kernel
theorem dX0_readCut_22 : decode bX0_readCut.2.1 22 = .ok (.iconst 0, 1) := by decide +kernel
theorem dX0_readCut_23 : decode bX0_readCut.2.1 23 = .ok (.ireturn, 1) := by decide +kernel
theorem dX0_readCut_24 : decode bX0_readCut.2.1 24 = .ok (.iload_n 1, 1) := by decide +kernel
theorem dX0_readCut_25 : decode bX0_readCut.2.1 25 = .ok (.aload_n 0, 1) := by decide +kernel
theorem dX0_readCut_26 : decode bX0_readCut.2.1 26 = .ok (.getfield 72, 3) := by decide +kernel
theorem dX0_readCut_29 : decode bX0_readCut.2.1 29 = .ok (.if_icmp .le 11, 3) := by decide +kernel
theorem dX0_readCut_32 : decode bX0_readCut.2.1 32 = .ok (.iload_n 1, 1) := by decide +kernel
theorem dX0_readCut_33 : decode bX0_readCut.2.1 33 = .ok (.aload_n 0, 1) := by decide +kernel
theorem dX0_readCut_34 : decode bX0_readCut.2.1 34 = .ok (.getfield 35, 3) := by decide +kernel
theorem dX0_readCut_37 : decode bX0_readCut.2.1 37 = .ok (.if_icmp .lt 11, 3) := by decide +kernel
theorem dX0_readCut_40 : decode bX0_readCut.2.1 40 = .ok (.aload_n 0, 1) := by decide +kernel
theorem dX0_readCut_41 : decode bX0_readCut.2.1 41 = .ok (.getfield 25, 3) := by decide +kernel
theorem dX0_readCut_44 : decode bX0_readCut.2.1 44 = .ok (.invokevirtual 66, 3) := by decide +kernel
theorem dX0_readCut_47 : decode bX0_readCut.2.1 47 = .ok (.ireturn, 1) := by decide +kernel
theorem dX0_readCut_48 : decode bX0_readCut.2.1 48 = .ok (.aload_n 0, 1) := by decide +kernel
theorem dX0_readCut_49 : decode bX0_readCut.2.1 49 = .ok (.getfield 25, 3) := by decide +kernel
theorem dX0_readCut_52 : decode bX0_readCut.2.1 52 = .ok (.bipush 45, 2) := by decide +kernel
theorem dX0_readCut_54 : decode bX0_readCut.2.1 54 = .ok (.invokevirtual 42, 3) := by decide +kernel
theorem dX0_readCut_57 : decode bX0_readCut.2.1 57 = .ok (.ifCond .ne 5, 3) := by decide +kernel
theorem dX0_readCut_60 : decode bX0_readCut.2.1 60 = .ok (.iconst 0, 1) := by decide +kernel
theorem dX0_readCut_61 : decode bX0_readCut.2.1 61 = .ok (.ireturn, 1) := by decide +kernel
theorem dX0_readCut_62 : decode bX0_readCut.2.1 62 = .ok (.aload_n 0, 1) := by decide +kernel
theorem dX0_readCut_63 : decode bX0_readCut.2.1 63 = .ok (.getfield 25, 3) := by decide +kernel
theorem dX0_readCut_66 : decode bX0_readCut.2.1 66 = .ok (.invokevirtual 49, 3) := by decide +kernel
theorem dX0_readCut_69 : decode bX0_readCut.2.1 69 = .ok (.pop, 1) := by decide +kernel
theorem dX0_readCut_70 : decode bX0_readCut.2.1 70 = .ok (.aload_n 0, 1) := by decide +kernel
theorem dX0_readCut_71 : decode bX0_readCut.2.1 71 = .ok (.getfield 25, 3) := by decide +kernel
theorem dX0_readCut_74 : decode bX0_readCut.2.1 74 = .ok (.iconst 2, 1) := by decide +kernel
theorem dX0_readCut_75 : decode bX0_readCut.2.1 75 = .ok (.invokevirtual 62, 3) := by decide +kernel
theorem dX0_readCut_78 : decode bX0_readCut.2.1 78 = .ok (.istore_n 2, 1) := by decide +kernel
theorem dX0_readCut_79 : decode bX0_readCut.2.1 79 = .ok (.iload_n 2, 1) := by decide +kernel
theorem dX0_readCut_80 : decode bX0_readCut.2.1 80 = .ok (.iconst (-1), 1) := by decide +kernel
theorem dX0_readCut_81 : decode bX0_readCut.2.1 81 = .ok (.if_icmp .ne 5, 3) := by decide +kernel
theorem dX0_readCut_84 : decode bX0_readCut.2.1 84 = .ok (.iconst 0, 1) := by decide +kernel
theorem dX0_readCut_85 : decode bX0_readCut.2.1 85 = .ok (.ireturn, 1) := by decide +kernel
theorem dX0_readCut_86 : decode bX0_readCut.2.1 86 = .ok (.aload_n 0, 1) := by decide +kernel
theorem dX0_readCut_87 : decode bX0_readCut.2.1 87 = .ok (.dup, 1) := by decide +kernel
theorem dX0_readCut_88 : decode bX0_readCut.2.1 88 = .ok (.getfield 69, 3) := by decide +kernel
theorem dX0_readCut_91 : decode bX0_readCut.2.1 91 = .ok (.iload_n 2, 1) := by decide +kernel
theorem dX0_readCut_92 : decode bX0_readCut.2.1 92 = .ok (.iload_n 1, 1) := by decide +kernel
theorem dX0_readCut_93 : decode bX0_readCut.2.1 93 = .ok (.isub, 1) := by decide +kernel
theorem dX0_readCut_94 : decode bX0_readCut.2.1 94 = .ok (.iconst 1, 1) := by decide +kernel
theorem dX0_readCut_95 : decode bX0_readCut.2.1 95 = .ok (.iadd, 1) := by decide +kernel
theorem dX0_readCut_96 : decode bX0_readCut.2.1 96 = .ok (.isub, 1) := by decide +kernel
theorem dX0_readCut_97 : decode bX0_readCut.2.1 97 = .ok (.putfield 69, 3) := by decide +kernel
theorem dX0_readCut_100 : decode bX0_readCut.2.1 100 = .ok (.iload_n 2, 1) := by decide +kernel
theorem dX0_readCut_101 : decode bX0_readCut.2.1 101 = .ok (.iload_n 1, 1) := by decide +kernel
theorem dX0_readCut_102 : decode bX0_readCut.2.1 102 = .ok (.if_icmp .lt 19, 3) := by decide +kernel
theorem dX0_readCut_105 : decode bX0_readCut.2.1 105 = .ok (.iload_n 2, 1) := by decide +kernel
theorem dX0_readCut_106 : decode bX0_readCut.2.1 106 = .ok (.aload_n 0, 1) := by decide +kernel
theorem dX0_readCut_107 : decode bX0_readCut.2.1 107 = .ok (.getfield 35, 3) := by decide +kernel
theorem dX0_readCut_110 : decode bX0_readCut.2.1 110 = .ok (.if_icmp .ge 11, 3) := by decide +kernel
theorem dX0_readCut_113 : decode bX0_readCut.2.1 113 = .ok (.aload_n 0, 1) := by decide +kernel
theorem dX0_readCut_114 : decode bX0_readCut.2.1 114 = .ok (.getfield 69, 3) := by decide +kernel
theorem dX0_readCut_117 : decode bX0_readCut.2.1 117 = .ok (.iconst 2, 1) := by decide +kernel
theorem dX0_readCut_118 : decode bX0_readCut.2.1 118 = .ok (.if_icmp .ge 11, 3) := by decide +kernel
theorem dX0_readCut_121 : decode bX0_readCut.2.1 121 = .ok (.aload_n 0, 1) := by decide +kernel
theorem dX0_readCut_122 : decode bX0_readCut.2.1 122 = .ok (.getfield 25, 3) := by decide +kernel
theorem dX0_readCut_125 : decode bX0_readCut.2.1 125 = .ok (.invokevirtual 66, 3) := by decide +kernel
theorem dX0_readCut_128 : decode bX0_readCut.2.1 128 = .ok (.ireturn, 1) := by decide +kernel
theorem dX0_readCut_129 : decode bX0_readCut.2.1 129 = .ok (.iload_n 1, 1) := by decide +kernel
theorem dX0_readCut_130 : decode bX0_readCut.2.1 130 = .ok (.istore_n 3, 1) := by decide +kernel
theorem dX0_readCut_131 : decode bX0_readCut.2.1 131 = .ok (.iload_n 3, 1) := by decide +kernel
theorem dX0_readCut_132 : decode bX0_readCut.2.1 132 = .ok (.iload_n 2, 1) := by decide +kernel
theorem dX0_readCut_133 : decode bX0_readCut.2.1 133 = .ok (.if_icmp .gt 22, 3) := by decide +kernel
theorem dX0_readCut_136 : decode bX0_readCut.2.1 136 = .ok (.iload_n 3, 1) := by decide +kernel
theorem dX0_readCut_137 : decode bX0_readCut.2.1 137 = .ok (.bipush 24, 2) := by decide +kernel
theorem dX0_readCut_139 : decode bX0_readCut.2.1 139 = .ok (.if_icmp .ge 16, 3) := by decide +kernel
theorem dX0_readCut_142 : decode bX0_readCut.2.1 142 = .ok (.aload_n 0, 1) := by decide +kernel
theorem dX0_readCut_143 : decode bX0_readCut.2.1 143 = .ok (.getfield 21, 3) := by decide +kernel
theorem dX0_readCut_146 : decode bX0_readCut.2.1 146 = .ok (.iload_n 3, 1) := by decide +kernel
theorem dX0_readCut_147 : decode bX0_readCut.2.1 147 = .ok (.iconst 1, 1) := by decide +kernel
theorem dX0_readCut_148 : decode bX0_readCut.2.1 148 = .ok (.bastore, 1) := by decide +kernel
theorem dX0_readCut_149 : decode bX0_readCut.2.1 149 = .ok (.iinc 3 1, 3) := by decide +kernel
theorem dX0_readCut_152 : decode bX0_readCut.2.1 152 = .ok (.goto (-21), 3) := by decide +kernel
theorem dX0_readCut_155 : decode bX0_readCut.2.1 155 = .ok (.aload_n 0, 1) := by decide +kernel
theorem dX0_readCut_156 : decode bX0_readCut.2.1 156 = .ok (.iload_n 2, 1) := by decide +kernel
theorem dX0_readCut_157 : decode bX0_readCut.2.1 157 = .ok (.putfield 72, 3) := by decide +kernel
theorem dX0_readCut_160 : decode bX0_readCut.2.1 160 = .ok (.iconst 1, 1) := by decide +kernel
theorem dX0_readCut_161 : decode bX0_readCut.2.1 161 = .ok (.ireturn, 1) := by decide +kernel
theorem dX2_init_0 : decode bX2_init.2.1 0 = .ok (.aload_n 0, 1) := by decide +kernel
theorem dX2_init_1 : decode bX2_init.2.1 1 = .ok (.invokespecial 3, 3) := by decide +kernel
theorem dX2_init_4 : decode bX2_init.2.1 4 = .ok (.aload_n 0, 1) := by decide +kernel
theorem dX2_init_5 : decode bX2_init.2.1 5 = .ok (.sipush 160, 3) := by decide +kernel
theorem dX2_init_8 : decode bX2_init.2.1 8 = .ok (.newarray .int, 2) := by decide +kernel
theorem dX2_init_10 : decode bX2_init.2.1 10 = .ok (.putfield 11, 3) := by decide +kernel
theorem dX2_init_13 : decode bX2_init.2.1 13 = .ok (.aload_n 0, 1) := by decide +kernel
theorem dX2_init_14 : decode bX2_init.2.1 14 = .ok (.bipush 64, 2) := by decide +kernel
theorem dX2_init_16 : decode bX2_init.2.1 16 = .ok (.newarray .int, 2) := by decide +kernel
theorem dX2_init_18 : decode bX2_init.2.1 18 = .ok (.putfield 15, 3) := by decide +kernel
theorem dX2_init_21 : decode bX2_init.2.1 21 = .ok (.return_, 1) := by decide +kernel
theorem dX2_isLetter_0 : decode bX2_isLetter.2.1 0 = .ok (.iload_n 0, 1) := by decide +kernel
theorem dX2_isLetter_1 : decode bX2_isLetter.2.1 1 = .ok (.bipush 97, 2) := by decide +kernel
theorem dX2_isLetter_3 : decode bX2_isLetter.2.1 3 = .ok (.if_icmp .eq 33, 3) := by decide +kernel
theorem dX2_isLetter_6 : decode bX2_isLetter.2.1 6 = .ok (.iload_n 0, 1) := by decide +kernel
theorem dX2_isLetter_7 : decode bX2_isLetter.2.1 7 = .ok (.bipush 115, 2) := by decide +kernel
theorem dX2_isLetter_9 : decode bX2_isLetter.2.1 9 = .ok (.if_icmp .eq 27, 3) := by decide +kernel
theorem dX2_isLetter_12 : decode bX2_isLetter.2.1 12 = .ok (.iload_n 0, 1) := by decide +kernel
theorem dX2_isLetter_13 : decode bX2_isLetter.2.1 13 = .ok (.bipush 108, 2) := by decide +kernel
theorem dX2_isLetter_15 : decode bX2_isLetter.2.1 15 = .ok (.if_icmp .eq 21, 3) := by decide +kernel
theorem dX2_isLetter_18 : decode bX2_isLetter.2.1 18 = .ok (.iload_n 0, 1) := by decide +kernel
theorem dX2_isLetter_19 : decode bX2_isLetter.2.1 19 = .ok (.bipush 103, 2) := by decide +kernel
theorem dX2_isLetter_21 : decode bX2_isLetter.2.1 21 = .ok (.if_icmp .eq 15, 3) := by decide +kernel
theorem dX2_isLetter_24 : decode bX2_isLetter.2.1 24 = .ok (.iload_n 0, 1) := by decide +kernel
theorem dX2_isLetter_25 : decode bX2_isLetter.2.1 25 = .ok (.bipush 99, 2) := by decide +kernel
theorem dX2_isLetter_27 : decode bX2_isLetter.2.1 27 = .ok (.if_icmp .eq 9, 3) := by decide +kernel
theorem dX2_isLetter_30 : decode bX2_isLetter.2.1 30 = .ok (.iload_n 0, 1) := by decide +kernel
theorem dX2_isLetter_31 : decode bX2_isLetter.2.1 31 = .ok (.bipush 109, 2) := by decide +kernel
theorem dX2_isLetter_33 : decode bX2_isLetter.2.1 33 = .ok (.if_icmp .ne 7, 3) := by decide +kernel
theorem dX2_isLetter_36 : decode bX2_isLetter.2.1 36 = .ok (.iconst 1, 1) := by decide +kernel
theorem dX2_isLetter_37 : decode bX2_isLetter.2.1 37 = .ok (.goto 4, 3) := by decide +kernel
theorem dX2_isLetter_40 : decode bX2_isLetter.2.1 40 = .ok (.iconst 0, 1) := by decide +kernel
theorem dX2_isLetter_41 : decode bX2_isLetter.2.1 41 = .ok (.ireturn, 1) := by decide +kernel
theorem dX2_put_0 : decode bX2_put.2.1 0 = .ok (.aload_n 0, 1) := by decide +kernel
theorem dX2_put_1 : decode bX2_put.2.1 1 = .ok (.aload_n 1, 1) := by decide +kernel
theorem dX2_put_2 : decode bX2_put.2.1 2 = .ok (.getfield 18, 3) := by decide +kernel
theorem dX2_put_5 : decode bX2_put.2.1 5 = .ok (.aload_n 0, 1) := by decide +kernel
theorem dX2_put_6 : decode bX2_put.2.1 6 = .ok (.getfield 11, 3) := by decide +kernel
theorem dX2_put_9 : decode bX2_put.2.1 9 = .ok (.arraylength, 1) := by decide +kernel
theorem dX2_put_10 : decode bX2_put.2.1 10 = .ok (.invokestatic 24, 3) := by decide +kernel
theorem dX2_put_13 : decode bX2_put.2.1 13 = .ok (.putfield 30, 3) := by decide +kernel
theorem dX2_put_16 : decode bX2_put.2.1 16 = .ok (.iconst 0, 1) := by decide +kernel
theorem dX2_put_17 : decode bX2_put.2.1 17 = .ok (.istore_n 2, 1) := by decide +kernel
theorem dX2_put_18 : decode bX2_put.2.1 18 = .ok (.iload_n 2, 1) := by decide +kernel
theorem dX2_put_19 : decode bX2_put.2.1 19 = .ok (.aload_n 0, 1) := by decide +kernel
theorem dX2_put_20 : decode bX2_put.2.1 20 = .ok (.getfield 30, 3) := by decide +kernel
theorem dX2_put_23 : decode bX2_put.2.1 23 = .ok (.if_icmp .ge 21, 3) := by decide +kernel
theorem dX2_put_26 : decode bX2_put.2.1 26 = .ok (.aload_n 0, 1) := by decide +kernel
theorem dX2_put_27 : decode bX2_put.2.1 27 = .ok (.getfield 11, 3) := by decide +kernel
theorem dX2_put_30 : decode bX2_put.2.1 30 = .ok (.iload_n 2, 1) := by decide +kernel
theorem dX2_put_31 : decode bX2_put.2.1 31 = .ok (.aload_n 1, 1) := by decide +kernel
theorem dX2_put_32 : decode bX2_put.2.1 32 = .ok (.getfield 31, 3) := by decide +kernel
theorem dX2_put_35 : decode bX2_put.2.1 35 = .ok (.iload_n 2, 1) := by decide +kernel
theorem dX2_put_36 : decode bX2_put.2.1 36 = .ok (.iaload, 1) := by decide +kernel
theorem dX2_put_37 : decode bX2_put.2.1 37 = .ok (.iastore, 1) := by decide +kernel
theorem dX2_put_38 : decode bX2_put.2.1 38 = .ok (.iinc 2 1, 3) := by decide +kernel
theorem dX2_put_41 : decode bX2_put.2.1 41 = .ok (.goto (-23), 3) := by decide +kernel
theorem dX2_put_44 : decode bX2_put.2.1 44 = .ok (.return_, 1) := by decide +kernel
theorem dX2_worth_0 : decode bX2_worth.2.1 0 = .ok (.aload_n 0, 1) := by decide +kernel
theorem dX2_worth_1 : decode bX2_worth.2.1 1 = .ok (.iconst 0, 1) := by decide +kernel
theorem dX2_worth_2 : decode bX2_worth.2.1 2 = .ok (.putfield 32, 3) := by decide +kernel
theorem dX2_worth_5 : decode bX2_worth.2.1 5 = .ok (.iconst 0, 1) := by decide +kernel
theorem dX2_worth_6 : decode bX2_worth.2.1 6 = .ok (.istore 4, 2) := by decide +kernel
theorem dX2_worth_8 : decode bX2_worth.2.1 8 = .ok (.iconst 0, 1) := by decide +kernel
theorem dX2_worth_9 : decode bX2_worth.2.1 9 = .ok (.istore 5, 2) := by decide +kernel
theorem dX2_worth_11 : decode bX2_worth.2.1 11 = .ok (.iload 5, 2) := by decide +kernel
theorem dX2_worth_13 : decode bX2_worth.2.1 13 = .ok (.aload_n 0, 1) := by decide +kernel
theorem dX2_worth_14 : decode bX2_worth.2.1 14 = .ok (.getfield 30, 3) := by decide +kernel
theorem dX2_worth_17 : decode bX2_worth.2.1 17 = .ok (.if_icmp .ge 85, 3) := by decide +kernel
theorem dX2_worth_20 : decode bX2_worth.2.1 20 = .ok (.aload_n 0, 1) := by decide +kernel
theorem dX2_worth_21 : decode bX2_worth.2.1 21 = .ok (.getfield 11, 3) := by decide +kernel
theorem dX2_worth_24 : decode bX2_worth.2.1 24 = .ok (.iload 5, 2) := by decide +kernel
theorem dX2_worth_26 : decode bX2_worth.2.1 26 = .ok (.iaload, 1) := by decide +kernel
theorem dX2_worth_27 : decode bX2_worth.2.1 27 = .ok (.istore 6, 2) := by decide +kernel
theorem dX2_worth_29 : decode bX2_worth.2.1 29 = .ok (.iload 4, 2) := by decide +kernel
theorem dX2_worth_31 : decode bX2_worth.2.1 31 = .ok (.ifCond .eq 20, 3) := by decide +kernel
theorem dX2_worth_34 : decode bX2_worth.2.1 34 = .ok (.iload 6, 2) := by decide +kernel
theorem dX2_worth_36 : decode bX2_worth.2.1 36 = .ok (.bipush 59, 2) := by decide +kernel
theorem dX2_worth_38 : decode bX2_worth.2.1 38 = .ok (.if_icmp .eq 7, 3) := by decide +kernel
theorem dX2_worth_41 : decode bX2_worth.2.1 41 = .ok (.iconst 1, 1) := by decide +kernel
theorem dX2_worth_42 : decode bX2_worth.2.1 42 = .ok (.goto 4, 3) := by decide +kernel
theorem dX2_worth_45 : decode bX2_worth.2.1 45 = .ok (.iconst 0, 1) := by decide +kernel
theorem dX2_worth_46 : decode bX2_worth.2.1 46 = .ok (.istore 4, 2) := by decide +kernel
theorem dX2_worth_48 : decode bX2_worth.2.1 48 = .ok (.goto 48, 3) := by decide +kernel
theorem dX2_worth_51 : decode bX2_worth.2.1 51 = .ok (.iload 6, 2) := by decide +kernel
theorem dX2_worth_53 : decode bX2_worth.2.1 53 = .ok (.bipush 59, 2) := by decide +kernel
theorem dX2_worth_55 : decode bX2_worth.2.1 55 = .ok (.if_icmp .ne 8, 3) := by decide +kernel
theorem dX2_worth_58 : decode bX2_worth.2.1 58 = .ok (.aload_n 0, 1) := by decide +kernel
theorem dX2_worth_59 : decode bX2_worth.2.1 59 = .ok (.invokevirtual 35, 3) := by decide +kernel
theorem dX2_worth_62 : decode bX2_worth.2.1 62 = .ok (.ireturn, 1) := by decide +kernel
theorem dX2_worth_63 : decode bX2_worth.2.1 63 = .ok (.iload 6, 2) := by decide +kernel
theorem dX2_worth_65 : decode bX2_worth.2.1 65 = .ok (.bipush 63, 2) := by decide +kernel
theorem dX2_worth_67 : decode bX2_worth.2.1 67 = .ok (.if_icmp .ne 20, 3) := by decide +kernel
theorem dX2_worth_70 : decode bX2_worth.2.1 70 = .ok (.aload_n 0, 1) := by decide +kernel
theorem dX2_worth_71 : decode bX2_worth.2.1 71 = .ok (.invokevirtual 35, 3) := by decide +kernel
theorem dX2_worth_74 : decode bX2_worth.2.1 74 = .ok (.ifCond .ne 7, 3) := by decide +kernel
theorem dX2_worth_77 : decode bX2_worth.2.1 77 = .ok (.iconst 1, 1) := by decide +kernel
theorem dX2_worth_78 : decode bX2_worth.2.1 78 = .ok (.goto 4, 3) := by decide +kernel
theorem dX2_worth_81 : decode bX2_worth.2.1 81 = .ok (.iconst 0, 1) := by decide +kernel
theorem dX2_worth_82 : decode bX2_worth.2.1 82 = .ok (.istore 4, 2) := by decide +kernel
theorem dX2_worth_84 : decode bX2_worth.2.1 84 = .ok (.goto 12, 3) := by decide +kernel
theorem dX2_worth_87 : decode bX2_worth.2.1 87 = .ok (.aload_n 0, 1) := by decide +kernel
theorem dX2_worth_88 : decode bX2_worth.2.1 88 = .ok (.iload 6, 2) := by decide +kernel
theorem dX2_worth_90 : decode bX2_worth.2.1 90 = .ok (.aload_n 1, 1) := by decide +kernel
theorem dX2_worth_91 : decode bX2_worth.2.1 91 = .ok (.iload_n 2, 1) := by decide +kernel
theorem dX2_worth_92 : decode bX2_worth.2.1 92 = .ok (.iload_n 3, 1) := by decide +kernel
theorem dX2_worth_93 : decode bX2_worth.2.1 93 = .ok (.invokevirtual 39, 3) := by decide +kernel
theorem dX2_worth_96 : decode bX2_worth.2.1 96 = .ok (.iinc 5 1, 3) := by decide +kernel
theorem dX2_worth_99 : decode bX2_worth.2.1 99 = .ok (.goto (-88), 3) := by decide +kernel
theorem dX2_worth_102 : decode bX2_worth.2.1 102 = .ok (.iconst 0, 1) := by decide +kernel
theorem dX2_worth_103 : decode bX2_worth.2.1 103 = .ok (.ireturn, 1) := by decide +kernel
theorem dX2_work_0 : decode bX2_work.2.1 0 = .ok (.iload_n 1, 1) := by decide +kernel
theorem dX2_work_1 : decode bX2_work.2.1 1 = .ok (.sipush 1000, 3) := by decide +kernel
theorem dX2_work_4 : decode bX2_work.2.1 4 = .ok (.if_icmp .lt 15, 3) := by decide +kernel
theorem dX2_work_7 : decode bX2_work.2.1 7 = .ok (.aload_n 0, 1) := by decide +kernel
theorem dX2_work_8 : decode bX2_work.2.1 8 = .ok (.iload_n 1, 1) := by decide +kernel
theorem dX2_work_9 : decode bX2_work.2.1 9 = .ok (.sipush 1000, 3) := by decide +kernel
theorem dX2_work_12 : decode bX2_work.2.1 12 = .ok (.isub, 1) := by decide +kernel
theorem dX2_work_13 : decode bX2_work.2.1 13 = .ok (.invokevirtual 43, 3) := by decide +kernel
theorem dX2_work_16 : decode bX2_work.2.1 16 = .ok (.goto 74, 3) := by decide +kernel
theorem dX2_work_19 : decode bX2_work.2.1 19 = .ok (.iload_n 1, 1) := by decide +kernel
theorem dX2_work_20 : decode bX2_work.2.1 20 = .ok (.invokestatic 47, 3) := by decide +kernel
theorem dX2_work_23 : decode bX2_work.2.1 23 = .ok (.ifCond .eq 18, 3) := by decide +kernel
theorem dX2_work_26 : decode bX2_work.2.1 26 = .ok (.aload_n 0, 1) := by decide +kernel
theorem dX2_work_27 : decode bX2_work.2.1 27 = .ok (.aload_n 2, 1) := by decide +kernel
theorem dX2_work_28 : decode bX2_work.2.1 28 = .ok (.iload_n 1, 1) := by decide +kernel
theorem dX2_work_29 : decode bX2_work.2.1 29 = .ok (.iload_n 3, 1) := by decide +kernel
theorem dX2_work_30 : decode bX2_work.2.1 30 = .ok (.iload 4, 2) := by decide +kernel
theorem dX2_work_32 : decode bX2_work.2.1 32 = .ok (.invokevirtual 51, 3) := by decide +kernel
theorem dX2_work_35 : decode bX2_work.2.1 35 = .ok (.invokevirtual 43, 3) := by decide +kernel
theorem dX2_work_38 : decode bX2_work.2.1 38 = .ok (.goto 52, 3) := by decide +kernel
theorem dX2_work_41 : decode bX2_work.2.1 41 = .ok (.iload_n 1, 1) := by decide +kernel
theorem dX2_work_42 : decode bX2_work.2.1 42 = .ok (.bipush 33, 2) := by decide +kernel
theorem dX2_work_44 : decode bX2_work.2.1 44 = .ok (.if_icmp .ne 22, 3) := by decide +kernel
theorem dX2_work_47 : decode bX2_work.2.1 47 = .ok (.aload_n 0, 1) := by decide +kernel
theorem dX2_work_48 : decode bX2_work.2.1 48 = .ok (.aload_n 0, 1) := by decide +kernel
theorem dX2_work_49 : decode bX2_work.2.1 49 = .ok (.invokevirtual 35, 3) := by decide +kernel
theorem dX2_work_52 : decode bX2_work.2.1 52 = .ok (.ifCond .ne 7, 3) := by decide +kernel
theorem dX2_work_55 : decode bX2_work.2.1 55 = .ok (.iconst 1, 1) := by decide +kernel
theorem dX2_work_56 : decode bX2_work.2.1 56 = .ok (.goto 4, 3) := by decide +kernel
theorem dX2_work_59 : decode bX2_work.2.1 59 = .ok (.iconst 0, 1) := by decide +kernel
theorem dX2_work_60 : decode bX2_work.2.1 60 = .ok (.invokevirtual 43, 3) := by decide +kernel
theorem dX2_work_63 : decode bX2_work.2.1 63 = .ok (.goto 27, 3) := by decide +kernel
theorem dX2_work_66 : decode bX2_work.2.1 66 = .ok (.aload_n 0, 1) := by decide +kernel
theorem dX2_work_67 : decode bX2_work.2.1 67 = .ok (.invokevirtual 35, 3) := by decide +kernel
theorem dX2_work_70 : decode bX2_work.2.1 70 = .ok (.istore 5, 2) := by decide +kernel
theorem dX2_work_72 : decode bX2_work.2.1 72 = .ok (.aload_n 0, 1) := by decide +kernel
theorem dX2_work_73 : decode bX2_work.2.1 73 = .ok (.invokevirtual 35, 3) := by decide +kernel
theorem dX2_work_76 : decode bX2_work.2.1 76 = .ok (.istore 6, 2) := by decide +kernel
theorem dX2_work_78 : decode bX2_work.2.1 78 = .ok (.aload_n 0, 1) := by decide +kernel
theorem dX2_work_79 : decode bX2_work.2.1 79 = .ok (.iload 6, 2) := by decide +kernel
theorem dX2_work_81 : decode bX2_work.2.1 81 = .ok (.iload_n 1, 1) := by decide +kernel
theorem dX2_work_82 : decode bX2_work.2.1 82 = .ok (.iload 5, 2) := by decide +kernel
theorem dX2_work_84 : decode bX2_work.2.1 84 = .ok (.invokestatic 57, 3) := by decide +kernel
theorem dX2_work_87 : decode bX2_work.2.1 87 = .ok (.invokevirtual 43, 3) := by decide +kernel
theorem dX2_work_90 : decode bX2_work.2.1 90 = .ok (.return_, 1) := by decide +kernel
theorem dX2_push_0 : decode bX2_push.2.1 0 = .ok (.aload_n 0, 1) := by decide +kernel
theorem dX2_push_1 : decode bX2_push.2.1 1 = .ok (.getfield 32, 3) := by decide +kernel
theorem dX2_push_4 : decode bX2_push.2.1 4 = .ok (.aload_n 0, 1) := by decide +kernel
theorem dX2_push_5 : decode bX2_push.2.1 5 = .ok (.getfield 15, 3) := by decide +kernel
theorem dX2_push_8 : decode bX2_push.2.1 8 = .ok (.arraylength, 1) := by decide +kernel
theorem dX2_push_9 : decode bX2_push.2.1 9 = .ok (.if_icmp .ge 23, 3) := by decide +kernel
theorem dX2_push_12 : decode bX2_push.2.1 12 = .ok (.aload_n 0, 1) := by decide +kernel
theorem dX2_push_13 : decode bX2_push.2.1 13 = .ok (.getfield 15, 3) := by decide +kernel
theorem dX2_push_16 : decode bX2_push.2.1 16 = .ok (.aload_n 0, 1) := by decide +kernel
theorem dX2_push_17 : decode bX2_push.2.1 17 = .ok (.getfield 32, 3) := by decide +kernel
theorem dX2_push_20 : decode bX2_push.2.1 20 = .ok (.iload_n 1, 1) := by decide +kernel
theorem dX2_push_21 : decode bX2_push.2.1 21 = .ok (.iastore, 1) := by decide +kernel
theorem dX2_push_22 : decode bX2_push.2.1 22 = .ok (.aload_n 0, 1) := by decide +kernel
theorem dX2_push_23 : decode bX2_push.2.1 23 = .ok (.dup, 1) := by decide +kernel
theorem dX2_push_24 : decode bX2_push.2.1 24 = .ok (.getfield 32, 3) := by decide +kernel
theorem dX2_push_27 : decode bX2_push.2.1 27 = .ok (.iconst 1, 1) := by decide +kernel
theorem dX2_push_28 : decode bX2_push.2.1 28 = .ok (.iadd, 1) := by decide +kernel
theorem dX2_push_29 : decode bX2_push.2.1 29 = .ok (.putfield 32, 3) := by decide +kernel
theorem dX2_push_32 : decode bX2_push.2.1 32 = .ok (.return_, 1) := by decide +kernel
theorem dX2_pop_0 : decode bX2_pop.2.1 0 = .ok (.aload_n 0, 1) := by decide +kernel
theorem dX2_pop_1 : decode bX2_pop.2.1 1 = .ok (.getfield 32, 3) := by decide +kernel
theorem dX2_pop_4 : decode bX2_pop.2.1 4 = .ok (.ifCond .gt 5, 3) := by decide +kernel
theorem dX2_pop_7 : decode bX2_pop.2.1 7 = .ok (.iconst 0, 1) := by decide +kernel
theorem dX2_pop_8 : decode bX2_pop.2.1 8 = .ok (.ireturn, 1) := by decide +kernel
theorem dX2_pop_9 : decode bX2_pop.2.1 9 = .ok (.aload_n 0, 1) := by decide +kernel
theorem dX2_pop_10 : decode bX2_pop.2.1 10 = .ok (.dup, 1) := by decide +kernel
theorem dX2_pop_11 : decode bX2_pop.2.1 11 = .ok (.getfield 32, 3) := by decide +kernel
theorem dX2_pop_14 : decode bX2_pop.2.1 14 = .ok (.iconst 1, 1) := by decide +kernel
theorem dX2_pop_15 : decode bX2_pop.2.1 15 = .ok (.isub, 1) := by decide +kernel
theorem dX2_pop_16 : decode bX2_pop.2.1 16 = .ok (.putfield 32, 3) := by decide +kernel
theorem dX2_pop_19 : decode bX2_pop.2.1 19 = .ok (.aload_n 0, 1) := by decide +kernel
theorem dX2_pop_20 : decode bX2_pop.2.1 20 = .ok (.getfield 15, 3) := by decide +kernel
theorem dX2_pop_23 : decode bX2_pop.2.1 23 = .ok (.aload_n 0, 1) := by decide +kernel
theorem dX2_pop_24 : decode bX2_pop.2.1 24 = .ok (.getfield 32, 3) := by decide +kernel
theorem dX2_pop_27 : decode bX2_pop.2.1 27 = .ok (.iaload, 1) := by decide +kernel
theorem dX2_pop_28 : decode bX2_pop.2.1 28 = .ok (.ireturn, 1) := by decide +kernel
theorem dX2_join_0 : decode bX2_join.2.1 0 = .ok (.iload_n 1, 1) := by decide +kernel
theorem dX2_join_1 : decode bX2_join.2.1 1 = .ok (.tableswitch 191 38 62 #[187, 191, 191, 191, 133, 115, 191, 124, 191, 142, 191, 191, 191, 191, 191, 191, 191, 191, 191, 191, 191, 191, 165, 154, 176], 115) := by decide +kernel
theorem dX2_join_116 : decode bX2_join.2.1 116 = .ok (.iload_n 0, 1) := by decide +kernel
theorem dX2_join_117 : decode bX2_join.2.1 117 = .ok (.i2l, 1) := by decide +kernel
theorem dX2_join_118 : decode bX2_join.2.1 118 = .ok (.iload_n 2, 1) := by decide +kernel
theorem dX2_join_119 : decode bX2_join.2.1 119 = .ok (.i2l, 1) := by decide +kernel
theorem dX2_join_120 : decode bX2_join.2.1 120 = .ok (.ladd, 1) := by decide +kernel
theorem dX2_join_121 : decode bX2_join.2.1 121 = .ok (.invokestatic 61, 3) := by decide +kernel
theorem dX2_join_124 : decode bX2_join.2.1 124 = .ok (.ireturn, 1) := by decide +kernel
theorem dX2_join_125 : decode bX2_join.2.1 125 = .ok (.iload_n 0, 1) := by decide +kernel
theorem dX2_join_126 : decode bX2_join.2.1 126 = .ok (.i2l, 1) := by decide +kernel
theorem dX2_join_127 : decode bX2_join.2.1 127 = .ok (.iload_n 2, 1) := by decide +kernel
theorem dX2_join_128 : decode bX2_join.2.1 128 = .ok (.i2l, 1) := by decide +kernel
theorem dX2_join_129 : decode bX2_join.2.1 129 = .ok (.lsub, 1) := by decide +kernel
theorem dX2_join_130 : decode bX2_join.2.1 130 = .ok (.invokestatic 61, 3) := by decide +kernel
theorem dX2_join_133 : decode bX2_join.2.1 133 = .ok (.ireturn, 1) := by decide +kernel
theorem dX2_join_134 : decode bX2_join.2.1 134 = .ok (.iload_n 0, 1) := by decide +kernel
theorem dX2_join_135 : decode bX2_join.2.1 135 = .ok (.i2l, 1) := by decide +kernel
theorem dX2_join_136 : decode bX2_join.2.1 136 = .ok (.iload_n 2, 1) := by decide +kernel
theorem dX2_join_137 : decode bX2_join.2.1 137 = .ok (.i2l, 1) := by decide +kernel
theorem dX2_join_138 : decode bX2_join.2.1 138 = .ok (.lmul, 1) := by decide +kernel
theorem dX2_join_139 : decode bX2_join.2.1 139 = .ok (.invokestatic 61, 3) := by decide +kernel
theorem dX2_join_142 : decode bX2_join.2.1 142 = .ok (.ireturn, 1) := by decide +kernel
theorem dX2_join_143 : decode bX2_join.2.1 143 = .ok (.iload_n 2, 1) := by decide +kernel
theorem dX2_join_144 : decode bX2_join.2.1 144 = .ok (.ifCond .ne 7, 3) := by decide +kernel
theorem dX2_join_147 : decode bX2_join.2.1 147 = .ok (.iconst 0, 1) := by decide +kernel
theorem dX2_join_148 : decode bX2_join.2.1 148 = .ok (.goto 6, 3) := by decide +kernel
theorem dX2_join_151 : decode bX2_join.2.1 151 = .ok (.iload_n 0, 1) := by decide +kernel
theorem dX2_join_152 : decode bX2_join.2.1 152 = .ok (.iload_n 2, 1) := by decide +kernel
theorem dX2_join_153 : decode bX2_join.2.1 153 = .ok (.idiv, 1) := by decide +kernel
theorem dX2_join_154 : decode bX2_join.2.1 154 = .ok (.ireturn, 1) := by decide +kernel
theorem dX2_join_155 : decode bX2_join.2.1 155 = .ok (.iload_n 0, 1) := by decide +kernel
theorem dX2_join_156 : decode bX2_join.2.1 156 = .ok (.iload_n 2, 1) := by decide +kernel
theorem dX2_join_157 : decode bX2_join.2.1 157 = .ok (.if_icmp .ne 7, 3) := by decide +kernel
theorem dX2_join_160 : decode bX2_join.2.1 160 = .ok (.iconst 1, 1) := by decide +kernel
theorem dX2_join_161 : decode bX2_join.2.1 161 = .ok (.goto 4, 3) := by decide +kernel
theorem dX2_join_164 : decode bX2_join.2.1 164 = .ok (.iconst 0, 1) := by decide +kernel
theorem dX2_join_165 : decode bX2_join.2.1 165 = .ok (.ireturn, 1) := by decide +kernel
theorem dX2_join_166 : decode bX2_join.2.1 166 = .ok (.iload_n 0, 1) := by decide +kernel
theorem dX2_join_167 : decode bX2_join.2.1 167 = .ok (.iload_n 2, 1) := by decide +kernel
theorem dX2_join_168 : decode bX2_join.2.1 168 = .ok (.if_icmp .ge 7, 3) := by decide +kernel
theorem dX2_join_171 : decode bX2_join.2.1 171 = .ok (.iconst 1, 1) := by decide +kernel
theorem dX2_join_172 : decode bX2_join.2.1 172 = .ok (.goto 4, 3) := by decide +kernel
theorem dX2_join_175 : decode bX2_join.2.1 175 = .ok (.iconst 0, 1) := by decide +kernel
theorem dX2_join_176 : decode bX2_join.2.1 176 = .ok (.ireturn, 1) := by decide +kernel
theorem dX2_join_177 : decode bX2_join.2.1 177 = .ok (.iload_n 0, 1) := by decide +kernel
theorem dX2_join_178 : decode bX2_join.2.1 178 = .ok (.iload_n 2, 1) := by decide +kernel
theorem dX2_join_179 : decode bX2_join.2.1 179 = .ok (.if_icmp .le 7, 3) := by decide +kernel
theorem dX2_join_182 : decode bX2_join.2.1 182 = .ok (.iconst 1, 1) := by decide +kernel
theorem dX2_join_183 : decode bX2_join.2.1 183 = .ok (.goto 4, 3) := by decide +kernel
theorem dX2_join_186 : decode bX2_join.2.1 186 = .ok (.iconst 0, 1) := by decide +kernel
theorem dX2_join_187 : decode bX2_join.2.1 187 = .ok (.ireturn, 1) := by decide +kernel
theorem dX2_join_188 : decode bX2_join.2.1 188 = .ok (.iload_n 0, 1) := by decide +kernel
theorem dX2_join_189 : decode bX2_join.2.1 189 = .ok (.iload_n 2, 1) := by decide +kernel
theorem dX2_join_190 : decode bX2_join.2.1 190 = .ok (.iand, 1) := by decide +kernel
theorem dX2_join_191 : decode bX2_join.2.1 191 = .ok (.ireturn, 1) := by decide +kernel
theorem dX2_join_192 : decode bX2_join.2.1 192 = .ok (.iload_n 0, 1) := by decide +kernel
theorem dX2_join_193 : decode bX2_join.2.1 193 = .ok (.iload_n 2, 1) := by decide +kernel
theorem dX2_join_194 : decode bX2_join.2.1 194 = .ok (.ior, 1) := by decide +kernel
theorem dX2_join_195 : decode bX2_join.2.1 195 = .ok (.ireturn, 1) := by decide +kernel
theorem dX2_within_0 : decode bX2_within.2.1 0 = .ok (.lload_n 0, 1) := by decide +kernel
theorem dX2_within_1 : decode bX2_within.2.1 1 = .ok (.ldc2_w 65, 3) := by decide +kernel
theorem dX2_within_4 : decode bX2_within.2.1 4 = .ok (.lcmp, 1) := by decide +kernel
theorem dX2_within_5 : decode bX2_within.2.1 5 = .ok (.ifCond .le 8, 3) := by decide +kernel
theorem dX2_within_8 : decode bX2_within.2.1 8 = .ok (.ldc 67, 2) := by decide +kernel
theorem dX2_within_10 : decode bX2_within.2.1 10 = .ok (.goto 18, 3) := by decide +kernel
theorem dX2_within_13 : decode bX2_within.2.1 13 = .ok (.lload_n 0, 1) := by decide +kernel
theorem dX2_within_14 : decode bX2_within.2.1 14 = .ok (.ldc2_w 68, 3) := by decide +kernel
theorem dX2_within_17 : decode bX2_within.2.1 17 = .ok (.lcmp, 1) := by decide +kernel
theorem dX2_within_18 : decode bX2_within.2.1 18 = .ok (.ifCond .ge 8, 3) := by decide +kernel
theorem dX2_within_21 : decode bX2_within.2.1 21 = .ok (.ldc 70, 2) := by decide +kernel
theorem dX2_within_23 : decode bX2_within.2.1 23 = .ok (.goto 5, 3) := by decide +kernel
theorem dX2_within_26 : decode bX2_within.2.1 26 = .ok (.lload_n 0, 1) := by decide +kernel
theorem dX2_within_27 : decode bX2_within.2.1 27 = .ok (.l2i, 1) := by decide +kernel
theorem dX2_within_28 : decode bX2_within.2.1 28 = .ok (.ireturn, 1) := by decide +kernel
theorem dX3_init_0 : decode bX3_init.2.1 0 = .ok (.aload_n 0, 1) := by decide +kernel
theorem dX3_init_1 : decode bX3_init.2.1 1 = .ok (.invokespecial 3, 3) := by decide +kernel
theorem dX3_init_4 : decode bX3_init.2.1 4 = .ok (.aload_n 0, 1) := by decide +kernel
theorem dX3_init_5 : decode bX3_init.2.1 5 = .ok (.sipush 160, 3) := by decide +kernel
theorem dX3_init_8 : decode bX3_init.2.1 8 = .ok (.newarray .int, 2) := by decide +kernel
theorem dX3_init_10 : decode bX3_init.2.1 10 = .ok (.putfield 11, 3) := by decide +kernel
theorem dX3_init_13 : decode bX3_init.2.1 13 = .ok (.aload_n 0, 1) := by decide +kernel
theorem dX3_init_14 : decode bX3_init.2.1 14 = .ok (.aload_n 1, 1) := by decide +kernel
theorem dX3_init_15 : decode bX3_init.2.1 15 = .ok (.putfield 17, 3) := by decide +kernel
theorem dX3_init_18 : decode bX3_init.2.1 18 = .ok (.return_, 1) := by decide +kernel
theorem dX3_read_0 : decode bX3_read.2.1 0 = .ok (.aload_n 0, 1) := by decide +kernel
theorem dX3_read_1 : decode bX3_read.2.1 1 = .ok (.getfield 17, 3) := by decide +kernel
theorem dX3_read_4 : decode bX3_read.2.1 4 = .ok (.iconst 0, 1) := by decide +kernel
theorem dX3_read_5 : decode bX3_read.2.1 5 = .ok (.putfield 21, 3) := by decide +kernel
theorem dX3_read_8 : decode bX3_read.2.1 8 = .ok (.aload_n 0, 1) := by decide +kernel
theorem dX3_read_9 : decode bX3_read.2.1 9 = .ok (.iconst 0, 1) := by decide +kernel
theorem dX3_read_10 : decode bX3_read.2.1 10 = .ok (.putfield 27, 3) := by decide +kernel
theorem dX3_read_13 : decode bX3_read.2.1 13 = .ok (.iconst 0, 1) := by decide +kernel
theorem dX3_read_14 : decode bX3_read.2.1 14 = .ok (.istore_n 1, 1) := by decide +kernel
theorem dX3_read_15 : decode bX3_read.2.1 15 = .ok (.iload_n 1, 1) := by decide +kernel
theorem dX3_read_16 : decode bX3_read.2.1 16 = .ok (.sipush 160, 3) := by decide +kernel
theorem dX3_read_19 : decode bX3_read.2.1 19 = .ok (.if_icmp .ge 45, 3) := by decide +kernel
theorem dX3_read_22 : decode bX3_read.2.1 22 = .ok (.aload_n 0, 1) := by decide +kernel
theorem dX3_read_23 : decode bX3_read.2.1 23 = .ok (.invokevirtual 30, 3) := by decide +kernel
theorem dX3_read_26 : decode bX3_read.2.1 26 = .ok (.ifCond .ne 11, 3) := by decide +kernel
theorem dX3_read_29 : decode bX3_read.2.1 29 = .ok (.aload_n 0, 1) := by decide +kernel
theorem dX3_read_30 : decode bX3_read.2.1 30 = .ok (.getfield 17, 3) := by decide +kernel
theorem dX3_read_33 : decode bX3_read.2.1 33 = .ok (.getfield 21, 3) := by decide +kernel
theorem dX3_read_36 : decode bX3_read.2.1 36 = .ok (.ireturn, 1) := by decide +kernel
theorem dX3_read_37 : decode bX3_read.2.1 37 = .ok (.aload_n 0, 1) := by decide +kernel
theorem dX3_read_38 : decode bX3_read.2.1 38 = .ok (.bipush 59, 2) := by decide +kernel
theorem dX3_read_40 : decode bX3_read.2.1 40 = .ok (.invokevirtual 34, 3) := by decide +kernel
theorem dX3_read_43 : decode bX3_read.2.1 43 = .ok (.aload_n 0, 1) := by decide +kernel
theorem dX3_read_44 : decode bX3_read.2.1 44 = .ok (.getfield 17, 3) := by decide +kernel
theorem dX3_read_47 : decode bX3_read.2.1 47 = .ok (.bipush 59, 2) := by decide +kernel
theorem dX3_read_49 : decode bX3_read.2.1 49 = .ok (.invokevirtual 38, 3) := by decide +kernel
theorem dX3_read_52 : decode bX3_read.2.1 52 = .ok (.ifCond .ne 6, 3) := by decide +kernel
theorem dX3_read_55 : decode bX3_read.2.1 55 = .ok (.goto 9, 3) := by decide +kernel
theorem dX3_read_58 : decode bX3_read.2.1 58 = .ok (.iinc 1 1, 3) := by decide +kernel
theorem dX3_read_61 : decode bX3_read.2.1 61 = .ok (.goto (-46), 3) := by decide +kernel
theorem dX3_read_64 : decode bX3_read.2.1 64 = .ok (.aload_n 0, 1) := by decide +kernel
theorem dX3_read_65 : decode bX3_read.2.1 65 = .ok (.getfield 17, 3) := by decide +kernel
theorem dX3_read_68 : decode bX3_read.2.1 68 = .ok (.invokevirtual 42, 3) := by decide +kernel
theorem dX3_read_71 : decode bX3_read.2.1 71 = .ok (.ifCond .ne 7, 3) := by decide +kernel
theorem dX3_read_74 : decode bX3_read.2.1 74 = .ok (.iconst (-1), 1) := by decide +kernel
theorem dX3_read_75 : decode bX3_read.2.1 75 = .ok (.goto 10, 3) := by decide +kernel
theorem dX3_read_78 : decode bX3_read.2.1 78 = .ok (.aload_n 0, 1) := by decide +kernel
theorem dX3_read_79 : decode bX3_read.2.1 79 = .ok (.getfield 17, 3) := by decide +kernel
theorem dX3_read_82 : decode bX3_read.2.1 82 = .ok (.getfield 21, 3) := by decide +kernel
theorem dX3_read_85 : decode bX3_read.2.1 85 = .ok (.ireturn, 1) := by decide +kernel
theorem dX3_write_0 : decode bX3_write.2.1 0 = .ok (.aload_n 0, 1) := by decide +kernel
theorem dX3_write_1 : decode bX3_write.2.1 1 = .ok (.getfield 27, 3) := by decide +kernel
theorem dX3_write_4 : decode bX3_write.2.1 4 = .ok (.aload_n 0, 1) := by decide +kernel
theorem dX3_write_5 : decode bX3_write.2.1 5 = .ok (.getfield 11, 3) := by decide +kernel
theorem dX3_write_8 : decode bX3_write.2.1 8 = .ok (.arraylength, 1) := by decide +kernel
theorem dX3_write_9 : decode bX3_write.2.1 9 = .ok (.if_icmp .ge 23, 3) := by decide +kernel
theorem dX3_write_12 : decode bX3_write.2.1 12 = .ok (.aload_n 0, 1) := by decide +kernel
theorem dX3_write_13 : decode bX3_write.2.1 13 = .ok (.getfield 11, 3) := by decide +kernel
theorem dX3_write_16 : decode bX3_write.2.1 16 = .ok (.aload_n 0, 1) := by decide +kernel
theorem dX3_write_17 : decode bX3_write.2.1 17 = .ok (.getfield 27, 3) := by decide +kernel
theorem dX3_write_20 : decode bX3_write.2.1 20 = .ok (.iload_n 1, 1) := by decide +kernel
theorem dX3_write_21 : decode bX3_write.2.1 21 = .ok (.iastore, 1) := by decide +kernel
theorem dX3_write_22 : decode bX3_write.2.1 22 = .ok (.aload_n 0, 1) := by decide +kernel
theorem dX3_write_23 : decode bX3_write.2.1 23 = .ok (.dup, 1) := by decide +kernel
theorem dX3_write_24 : decode bX3_write.2.1 24 = .ok (.getfield 27, 3) := by decide +kernel
theorem dX3_write_27 : decode bX3_write.2.1 27 = .ok (.iconst 1, 1) := by decide +kernel
theorem dX3_write_28 : decode bX3_write.2.1 28 = .ok (.iadd, 1) := by decide +kernel
theorem dX3_write_29 : decode bX3_write.2.1 29 = .ok (.putfield 27, 3) := by decide +kernel
theorem dX3_write_32 : decode bX3_write.2.1 32 = .ok (.return_, 1) := by decide +kernel
theorem dX3_readClause_0 : decode bX3_readClause.2.1 0 = .ok (.aload_n 0, 1) := by decide +kernel
theorem dX3_readClause_1 : decode bX3_readClause.2.1 1 = .ok (.getfield 17, 3) := by decide +kernel
theorem dX3_readClause_4 : decode bX3_readClause.2.1 4 = .ok (.bipush 121, 2) := by decide +kernel
theorem dX3_readClause_6 : decode bX3_readClause.2.1 6 = .ok (.invokevirtual 38, 3) := by decide +kernel
theorem dX3_readClause_9 : decode bX3_readClause.2.1 9 = .ok (.ifCond .eq 15, 3) := by decide +kernel
theorem dX3_readClause_12 : decode bX3_readClause.2.1 12 = .ok (.aload_n 0, 1) := by decide +kernel
theorem dX3_readClause_13 : decode bX3_readClause.2.1 13 = .ok (.getfield 17, 3) := by decide +kernel
theorem dX3_readClause_16 : decode bX3_readClause.2.1 16 = .ok (.bipush 58, 2) := by decide +kernel
theorem dX3_readClause_18 : decode bX3_readClause.2.1 18 = .ok (.invokevirtual 38, 3) := by decide +kernel
theorem dX3_readClause_21 : decode bX3_readClause.2.1 21 = .ok (.ifCond .ne 5, 3) := by decide +kernel
theorem dX3_readClause_24 : decode bX3_readClause.2.1 24 = .ok (.iconst 0, 1) := by decide +kernel
theorem dX3_readClause_25 : decode bX3_readClause.2.1 25 = .ok (.ireturn, 1) := by decide +kernel
theorem dX3_readClause_26 : decode bX3_readClause.2.1 26 = .ok (.aload_n 0, 1) := by decide +kernel
theorem dX3_readClause_27 : decode bX3_readClause.2.1 27 = .ok (.getfield 17, 3) := by decide +kernel
theorem dX3_readClause_30 : decode bX3_readClause.2.1 30 = .ok (.invokevirtual 42, 3) := by decide +kernel
theorem dX3_readClause_33 : decode bX3_readClause.2.1 33 = .ok (.istore_n 1, 1) := by decide +kernel
theorem dX3_readClause_34 : decode bX3_readClause.2.1 34 = .ok (.iload_n 1, 1) := by decide +kernel
theorem dX3_readClause_35 : decode bX3_readClause.2.1 35 = .ok (.bipush 33, 2) := by decide +kernel
theorem dX3_readClause_37 : decode bX3_readClause.2.1 37 = .ok (.if_icmp .eq 13, 3) := by decide +kernel
theorem dX3_readClause_40 : decode bX3_readClause.2.1 40 = .ok (.iload_n 1, 1) := by decide +kernel
theorem dX3_readClause_41 : decode bX3_readClause.2.1 41 = .ok (.bipush 40, 2) := by decide +kernel
theorem dX3_readClause_43 : decode bX3_readClause.2.1 43 = .ok (.if_icmp .eq 7, 3) := by decide +kernel
theorem dX3_readClause_46 : decode bX3_readClause.2.1 46 = .ok (.iconst 1, 1) := by decide +kernel
theorem dX3_readClause_47 : decode bX3_readClause.2.1 47 = .ok (.goto 4, 3) := by decide +kernel
theorem dX3_readClause_50 : decode bX3_readClause.2.1 50 = .ok (.iconst 0, 1) := by decide +kernel
theorem dX3_readClause_51 : decode bX3_readClause.2.1 51 = .ok (.istore_n 2, 1) := by decide +kernel
theorem dX3_readClause_52 : decode bX3_readClause.2.1 52 = .ok (.iload_n 2, 1) := by decide +kernel
theorem dX3_readClause_53 : decode bX3_readClause.2.1 53 = .ok (.ifCond .eq 22, 3) := by decide +kernel
theorem dX3_readClause_56 : decode bX3_readClause.2.1 56 = .ok (.aload_n 0, 1) := by decide +kernel
theorem dX3_readClause_57 : decode bX3_readClause.2.1 57 = .ok (.iconst 0, 1) := by decide +kernel
theorem dX3_readClause_58 : decode bX3_readClause.2.1 58 = .ok (.invokevirtual 46, 3) := by decide +kernel
theorem dX3_readClause_61 : decode bX3_readClause.2.1 61 = .ok (.ifCond .ne 5, 3) := by decide +kernel
theorem dX3_readClause_64 : decode bX3_readClause.2.1 64 = .ok (.iconst 0, 1) := by decide +kernel
theorem dX3_readClause_65 : decode bX3_readClause.2.1 65 = .ok (.ireturn, 1) := by decide +kernel
theorem dX3_readClause_66 : decode bX3_readClause.2.1 66 = .ok (.aload_n 0, 1) := by decide +kernel
theorem dX3_readClause_67 : decode bX3_readClause.2.1 67 = .ok (.invokevirtual 49, 3) := by decide +kernel
theorem dX3_readClause_70 : decode bX3_readClause.2.1 70 = .ok (.ifCond .ne 5, 3) := by decide +kernel
theorem dX3_readClause_73 : decode bX3_readClause.2.1 73 = .ok (.iconst 1, 1) := by decide +kernel
theorem dX3_readClause_74 : decode bX3_readClause.2.1 74 = .ok (.ireturn, 1) := by decide +kernel
theorem dX3_readClause_75 : decode bX3_readClause.2.1 75 = .ok (.aload_n 0, 1) := by decide +kernel
theorem dX3_readClause_76 : decode bX3_readClause.2.1 76 = .ok (.iconst 0, 1) := by decide +kernel
theorem dX3_readClause_77 : decode bX3_readClause.2.1 77 = .ok (.iload_n 2, 1) := by decide +kernel
theorem dX3_readClause_78 : decode bX3_readClause.2.1 78 = .ok (.invokevirtual 52, 3) := by decide +kernel
theorem dX3_readClause_81 : decode bX3_readClause.2.1 81 = .ok (.ifCond .eq 15, 3) := by decide +kernel
theorem dX3_readClause_84 : decode bX3_readClause.2.1 84 = .ok (.aload_n 0, 1) := by decide +kernel
theorem dX3_readClause_85 : decode bX3_readClause.2.1 85 = .ok (.getfield 17, 3) := by decide +kernel
theorem dX3_readClause_88 : decode bX3_readClause.2.1 88 = .ok (.bipush 63, 2) := by decide +kernel
theorem dX3_readClause_90 : decode bX3_readClause.2.1 90 = .ok (.invokevirtual 38, 3) := by decide +kernel
theorem dX3_readClause_93 : decode bX3_readClause.2.1 93 = .ok (.ifCond .ne 5, 3) := by decide +kernel
theorem dX3_readClause_96 : decode bX3_readClause.2.1 96 = .ok (.iconst 0, 1) := by decide +kernel
theorem dX3_readClause_97 : decode bX3_readClause.2.1 97 = .ok (.ireturn, 1) := by decide +kernel
theorem dX3_readClause_98 : decode bX3_readClause.2.1 98 = .ok (.aload_n 0, 1) := by decide +kernel
theorem dX3_readClause_99 : decode bX3_readClause.2.1 99 = .ok (.bipush 63, 2) := by decide +kernel
theorem dX3_readClause_101 : decode bX3_readClause.2.1 101 = .ok (.invokevirtual 34, 3) := by decide +kernel
theorem dX3_readClause_104 : decode bX3_readClause.2.1 104 = .ok (.aload_n 0, 1) := by decide +kernel
theorem dX3_readClause_105 : decode bX3_readClause.2.1 105 = .ok (.iconst 0, 1) := by decide +kernel
theorem dX3_readClause_106 : decode bX3_readClause.2.1 106 = .ok (.invokevirtual 46, 3) := by decide +kernel
theorem dX3_readClause_109 : decode bX3_readClause.2.1 109 = .ok (.ireturn, 1) := by decide +kernel
theorem dX3_atComparison_0 : decode bX3_atComparison.2.1 0 = .ok (.aload_n 0, 1) := by decide +kernel
theorem dX3_atComparison_1 : decode bX3_atComparison.2.1 1 = .ok (.getfield 17, 3) := by decide +kernel
theorem dX3_atComparison_4 : decode bX3_atComparison.2.1 4 = .ok (.invokevirtual 42, 3) := by decide +kernel
theorem dX3_atComparison_7 : decode bX3_atComparison.2.1 7 = .ok (.istore_n 1, 1) := by decide +kernel
theorem dX3_atComparison_8 : decode bX3_atComparison.2.1 8 = .ok (.iload_n 1, 1) := by decide +kernel
theorem dX3_atComparison_9 : decode bX3_atComparison.2.1 9 = .ok (.bipush 61, 2) := by decide +kernel
theorem dX3_atComparison_11 : decode bX3_atComparison.2.1 11 = .ok (.if_icmp .eq 15, 3) := by decide +kernel
theorem dX3_atComparison_14 : decode bX3_atComparison.2.1 14 = .ok (.iload_n 1, 1) := by decide +kernel
theorem dX3_atComparison_15 : decode bX3_atComparison.2.1 15 = .ok (.bipush 60, 2) := by decide +kernel
theorem dX3_atComparison_17 : decode bX3_atComparison.2.1 17 = .ok (.if_icmp .eq 9, 3) := by decide +kernel
theorem dX3_atComparison_20 : decode bX3_atComparison.2.1 20 = .ok (.iload_n 1, 1) := by decide +kernel
theorem dX3_atComparison_21 : decode bX3_atComparison.2.1 21 = .ok (.bipush 62, 2) := by decide +kernel
theorem dX3_atComparison_23 : decode bX3_atComparison.2.1 23 = .ok (.if_icmp .ne 7, 3) := by decide +kernel
theorem dX3_atComparison_26 : decode bX3_atComparison.2.1 26 = .ok (.iconst 1, 1) := by decide +kernel
theorem dX3_atComparison_27 : decode bX3_atComparison.2.1 27 = .ok (.goto 4, 3) := by decide +kernel
theorem dX3_atComparison_30 : decode bX3_atComparison.2.1 30 = .ok (.iconst 0, 1) := by decide +kernel
theorem dX3_atComparison_31 : decode bX3_atComparison.2.1 31 = .ok (.ireturn, 1) := by decide +kernel
theorem dX3_readCondition_0 : decode bX3_readCondition.2.1 0 = .ok (.aload_n 0, 1) := by decide +kernel
theorem dX3_readCondition_1 : decode bX3_readCondition.2.1 1 = .ok (.iload_n 1, 1) := by decide +kernel
theorem dX3_readCondition_2 : decode bX3_readCondition.2.1 2 = .ok (.iload_n 2, 1) := by decide +kernel
theorem dX3_readCondition_3 : decode bX3_readCondition.2.1 3 = .ok (.invokevirtual 56, 3) := by decide +kernel
theorem dX3_readCondition_6 : decode bX3_readCondition.2.1 6 = .ok (.ifCond .ne 5, 3) := by decide +kernel
theorem dX3_readCondition_9 : decode bX3_readCondition.2.1 9 = .ok (.iconst 0, 1) := by decide +kernel
theorem dX3_readCondition_10 : decode bX3_readCondition.2.1 10 = .ok (.ireturn, 1) := by decide +kernel
theorem dX3_readCondition_11 : decode bX3_readCondition.2.1 11 = .ok (.iconst 0, 1) := by decide +kernel
theorem dX3_readCondition_12 : decode bX3_readCondition.2.1 12 = .ok (.istore_n 3, 1) := by decide +kernel
theorem dX3_readCondition_13 : decode bX3_readCondition.2.1 13 = .ok (.iload_n 3, 1) := by decide +kernel
theorem dX3_readCondition_14 : decode bX3_readCondition.2.1 14 = .ok (.sipush 160, 3) := by decide +kernel
theorem dX3_readCondition_17 : decode bX3_readCondition.2.1 17 = .ok (.if_icmp .ge 38, 3) := by decide +kernel
theorem dX3_readCondition_20 : decode bX3_readCondition.2.1 20 = .ok (.aload_n 0, 1) := by decide +kernel
theorem dX3_readCondition_21 : decode bX3_readCondition.2.1 21 = .ok (.getfield 17, 3) := by decide +kernel
theorem dX3_readCondition_24 : decode bX3_readCondition.2.1 24 = .ok (.bipush 124, 2) := by decide +kernel
theorem dX3_readCondition_26 : decode bX3_readCondition.2.1 26 = .ok (.invokevirtual 38, 3) := by decide +kernel
theorem dX3_readCondition_29 : decode bX3_readCondition.2.1 29 = .ok (.ifCond .eq 26, 3) := by decide +kernel
theorem dX3_readCondition_32 : decode bX3_readCondition.2.1 32 = .ok (.aload_n 0, 1) := by decide +kernel
theorem dX3_readCondition_33 : decode bX3_readCondition.2.1 33 = .ok (.iload_n 1, 1) := by decide +kernel
theorem dX3_readCondition_34 : decode bX3_readCondition.2.1 34 = .ok (.iconst 0, 1) := by decide +kernel
theorem dX3_readCondition_35 : decode bX3_readCondition.2.1 35 = .ok (.invokevirtual 56, 3) := by decide +kernel
theorem dX3_readCondition_38 : decode bX3_readCondition.2.1 38 = .ok (.ifCond .ne 5, 3) := by decide +kernel
theorem dX3_readCondition_41 : decode bX3_readCondition.2.1 41 = .ok (.iconst 0, 1) := by decide +kernel
theorem dX3_readCondition_42 : decode bX3_readCondition.2.1 42 = .ok (.ireturn, 1) := by decide +kernel
theorem dX3_readCondition_43 : decode bX3_readCondition.2.1 43 = .ok (.aload_n 0, 1) := by decide +kernel
theorem dX3_readCondition_44 : decode bX3_readCondition.2.1 44 = .ok (.bipush 124, 2) := by decide +kernel
theorem dX3_readCondition_46 : decode bX3_readCondition.2.1 46 = .ok (.invokevirtual 34, 3) := by decide +kernel
theorem dX3_readCondition_49 : decode bX3_readCondition.2.1 49 = .ok (.iinc 3 1, 3) := by decide +kernel
theorem dX3_readCondition_52 : decode bX3_readCondition.2.1 52 = .ok (.goto (-39), 3) := by decide +kernel
theorem dX3_readCondition_55 : decode bX3_readCondition.2.1 55 = .ok (.iconst 1, 1) := by decide +kernel
theorem dX3_readCondition_56 : decode bX3_readCondition.2.1 56 = .ok (.ireturn, 1) := by decide +kernel
theorem dX3_readTruth_0 : decode bX3_readTruth.2.1 0 = .ok (.aload_n 0, 1) := by decide +kernel
theorem dX3_readTruth_1 : decode bX3_readTruth.2.1 1 = .ok (.iload_n 1, 1) := by decide +kernel
theorem dX3_readTruth_2 : decode bX3_readTruth.2.1 2 = .ok (.iload_n 2, 1) := by decide +kernel
theorem dX3_readTruth_3 : decode bX3_readTruth.2.1 3 = .ok (.invokevirtual 59, 3) := by decide +kernel
theorem dX3_readTruth_6 : decode bX3_readTruth.2.1 6 = .ok (.ifCond .ne 5, 3) := by decide +kernel
theorem dX3_readTruth_9 : decode bX3_readTruth.2.1 9 = .ok (.iconst 0, 1) := by decide +kernel
theorem dX3_readTruth_10 : decode bX3_readTruth.2.1 10 = .ok (.ireturn, 1) := by decide +kernel
theorem dX3_readTruth_11 : decode bX3_readTruth.2.1 11 = .ok (.iconst 0, 1) := by decide +kernel
theorem dX3_readTruth_12 : decode bX3_readTruth.2.1 12 = .ok (.istore_n 3, 1) := by decide +kernel
theorem dX3_readTruth_13 : decode bX3_readTruth.2.1 13 = .ok (.iload_n 3, 1) := by decide +kernel
theorem dX3_readTruth_14 : decode bX3_readTruth.2.1 14 = .ok (.sipush 160, 3) := by decide +kernel
theorem dX3_readTruth_17 : decode bX3_readTruth.2.1 17 = .ok (.if_icmp .ge 38, 3) := by decide +kernel
theorem dX3_readTruth_20 : decode bX3_readTruth.2.1 20 = .ok (.aload_n 0, 1) := by decide +kernel
theorem dX3_readTruth_21 : decode bX3_readTruth.2.1 21 = .ok (.getfield 17, 3) := by decide +kernel
theorem dX3_readTruth_24 : decode bX3_readTruth.2.1 24 = .ok (.bipush 38, 2) := by decide +kernel
theorem dX3_readTruth_26 : decode bX3_readTruth.2.1 26 = .ok (.invokevirtual 38, 3) := by decide +kernel
theorem dX3_readTruth_29 : decode bX3_readTruth.2.1 29 = .ok (.ifCond .eq 26, 3) := by decide +kernel
theorem dX3_readTruth_32 : decode bX3_readTruth.2.1 32 = .ok (.aload_n 0, 1) := by decide +kernel
theorem dX3_readTruth_33 : decode bX3_readTruth.2.1 33 = .ok (.iload_n 1, 1) := by decide +kernel
theorem dX3_readTruth_34 : decode bX3_readTruth.2.1 34 = .ok (.iconst 0, 1) := by decide +kernel
theorem dX3_readTruth_35 : decode bX3_readTruth.2.1 35 = .ok (.invokevirtual 59, 3) := by decide +kernel
theorem dX3_readTruth_38 : decode bX3_readTruth.2.1 38 = .ok (.ifCond .ne 5, 3) := by decide +kernel
theorem dX3_readTruth_41 : decode bX3_readTruth.2.1 41 = .ok (.iconst 0, 1) := by decide +kernel
theorem dX3_readTruth_42 : decode bX3_readTruth.2.1 42 = .ok (.ireturn, 1) := by decide +kernel
theorem dX3_readTruth_43 : decode bX3_readTruth.2.1 43 = .ok (.aload_n 0, 1) := by decide +kernel
theorem dX3_readTruth_44 : decode bX3_readTruth.2.1 44 = .ok (.bipush 38, 2) := by decide +kernel
theorem dX3_readTruth_46 : decode bX3_readTruth.2.1 46 = .ok (.invokevirtual 34, 3) := by decide +kernel
theorem dX3_readTruth_49 : decode bX3_readTruth.2.1 49 = .ok (.iinc 3 1, 3) := by decide +kernel
theorem dX3_readTruth_52 : decode bX3_readTruth.2.1 52 = .ok (.goto (-39), 3) := by decide +kernel
theorem dX3_readTruth_55 : decode bX3_readTruth.2.1 55 = .ok (.iconst 1, 1) := by decide +kernel
theorem dX3_readTruth_56 : decode bX3_readTruth.2.1 56 = .ok (.ireturn, 1) := by decide +kernel
theorem dX3_readUnit_0 : decode bX3_readUnit.2.1 0 = .ok (.aload_n 0, 1) := by decide +kernel
theorem dX3_readUnit_1 : decode bX3_readUnit.2.1 1 = .ok (.getfield 17, 3) := by decide +kernel
theorem dX3_readUnit_4 : decode bX3_readUnit.2.1 4 = .ok (.invokevirtual 42, 3) := by decide +kernel
theorem dX3_readUnit_7 : decode bX3_readUnit.2.1 7 = .ok (.istore_n 3, 1) := by decide +kernel
theorem dX3_readUnit_8 : decode bX3_readUnit.2.1 8 = .ok (.iload_n 2, 1) := by decide +kernel
theorem dX3_readUnit_9 : decode bX3_readUnit.2.1 9 = .ok (.ifCond .ne 22, 3) := by decide +kernel
theorem dX3_readUnit_12 : decode bX3_readUnit.2.1 12 = .ok (.iload_n 3, 1) := by decide +kernel
theorem dX3_readUnit_13 : decode bX3_readUnit.2.1 13 = .ok (.bipush 33, 2) := by decide +kernel
theorem dX3_readUnit_15 : decode bX3_readUnit.2.1 15 = .ok (.if_icmp .eq 9, 3) := by decide +kernel
theorem dX3_readUnit_18 : decode bX3_readUnit.2.1 18 = .ok (.iload_n 3, 1) := by decide +kernel
theorem dX3_readUnit_19 : decode bX3_readUnit.2.1 19 = .ok (.bipush 40, 2) := by decide +kernel
theorem dX3_readUnit_21 : decode bX3_readUnit.2.1 21 = .ok (.if_icmp .ne 10, 3) := by decide +kernel
theorem dX3_readUnit_24 : decode bX3_readUnit.2.1 24 = .ok (.aload_n 0, 1) := by decide +kernel
theorem dX3_readUnit_25 : decode bX3_readUnit.2.1 25 = .ok (.iload_n 1, 1) := by decide +kernel
theorem dX3_readUnit_26 : decode bX3_readUnit.2.1 26 = .ok (.iload_n 3, 1) := by decide +kernel
theorem dX3_readUnit_27 : decode bX3_readUnit.2.1 27 = .ok (.invokevirtual 62, 3) := by decide +kernel
theorem dX3_readUnit_30 : decode bX3_readUnit.2.1 30 = .ok (.ireturn, 1) := by decide +kernel
theorem dX3_readUnit_31 : decode bX3_readUnit.2.1 31 = .ok (.iload_n 2, 1) := by decide +kernel
theorem dX3_readUnit_32 : decode bX3_readUnit.2.1 32 = .ok (.ifCond .ne 11, 3) := by decide +kernel
theorem dX3_readUnit_35 : decode bX3_readUnit.2.1 35 = .ok (.aload_n 0, 1) := by decide +kernel
theorem dX3_readUnit_36 : decode bX3_readUnit.2.1 36 = .ok (.iload_n 1, 1) := by decide +kernel
theorem dX3_readUnit_37 : decode bX3_readUnit.2.1 37 = .ok (.invokevirtual 46, 3) := by decide +kernel
theorem dX3_readUnit_40 : decode bX3_readUnit.2.1 40 = .ok (.ifCond .eq 10, 3) := by decide +kernel
theorem dX3_readUnit_43 : decode bX3_readUnit.2.1 43 = .ok (.aload_n 0, 1) := by decide +kernel
theorem dX3_readUnit_44 : decode bX3_readUnit.2.1 44 = .ok (.invokevirtual 49, 3) := by decide +kernel
theorem dX3_readUnit_47 : decode bX3_readUnit.2.1 47 = .ok (.ifCond .ne 5, 3) := by decide +kernel
theorem dX3_readUnit_50 : decode bX3_readUnit.2.1 50 = .ok (.iconst 0, 1) := by decide +kernel
theorem dX3_readUnit_51 : decode bX3_readUnit.2.1 51 = .ok (.ireturn, 1) := by decide +kernel
theorem dX3_readUnit_52 : decode bX3_readUnit.2.1 52 = .ok (.aload_n 0, 1) := by decide +kernel
theorem dX3_readUnit_53 : decode bX3_readUnit.2.1 53 = .ok (.getfield 17, 3) := by decide +kernel
theorem dX3_readUnit_56 : decode bX3_readUnit.2.1 56 = .ok (.invokevirtual 66, 3) := by decide +kernel
theorem dX3_readUnit_59 : decode bX3_readUnit.2.1 59 = .ok (.istore 4, 2) := by decide +kernel
theorem dX3_readUnit_61 : decode bX3_readUnit.2.1 61 = .ok (.aload_n 0, 1) := by decide +kernel
theorem dX3_readUnit_62 : decode bX3_readUnit.2.1 62 = .ok (.getfield 17, 3) := by decide +kernel
theorem dX3_readUnit_65 : decode bX3_readUnit.2.1 65 = .ok (.dup, 1) := by decide +kernel
theorem dX3_readUnit_66 : decode bX3_readUnit.2.1 66 = .ok (.getfield 21, 3) := by decide +kernel
theorem dX3_readUnit_69 : decode bX3_readUnit.2.1 69 = .ok (.iconst 1, 1) := by decide +kernel
theorem dX3_readUnit_70 : decode bX3_readUnit.2.1 70 = .ok (.iadd, 1) := by decide +kernel
theorem dX3_readUnit_71 : decode bX3_readUnit.2.1 71 = .ok (.putfield 21, 3) := by decide +kernel
theorem dX3_readUnit_74 : decode bX3_readUnit.2.1 74 = .ok (.aload_n 0, 1) := by decide +kernel
theorem dX3_readUnit_75 : decode bX3_readUnit.2.1 75 = .ok (.iload_n 1, 1) := by decide +kernel
theorem dX3_readUnit_76 : decode bX3_readUnit.2.1 76 = .ok (.invokevirtual 46, 3) := by decide +kernel
theorem dX3_readUnit_79 : decode bX3_readUnit.2.1 79 = .ok (.ifCond .ne 5, 3) := by decide +kernel
theorem dX3_readUnit_82 : decode bX3_readUnit.2.1 82 = .ok (.iconst 0, 1) := by decide +kernel
theorem dX3_readUnit_83 : decode bX3_readUnit.2.1 83 = .ok (.ireturn, 1) := by decide +kernel
theorem dX3_readUnit_84 : decode bX3_readUnit.2.1 84 = .ok (.aload_n 0, 1) := by decide +kernel
theorem dX3_readUnit_85 : decode bX3_readUnit.2.1 85 = .ok (.iload 4, 2) := by decide +kernel
theorem dX3_readUnit_87 : decode bX3_readUnit.2.1 87 = .ok (.invokevirtual 34, 3) := by decide +kernel
theorem dX3_readUnit_90 : decode bX3_readUnit.2.1 90 = .ok (.iconst 1, 1) := by decide +kernel
theorem dX3_readUnit_91 : decode bX3_readUnit.2.1 91 = .ok (.ireturn, 1) := by decide +kernel
theorem dX3_readNested_0 : decode bX3_readNested.2.1 0 = .ok (.iload_n 1, 1) := by decide +kernel
theorem dX3_readNested_1 : decode bX3_readNested.2.1 1 = .ok (.bipush 6, 2) := by decide +kernel
theorem dX3_readNested_3 : decode bX3_readNested.2.1 3 = .ok (.if_icmp .lt 5, 3) := by decide +kernel
theorem dX3_readNested_6 : decode bX3_readNested.2.1 6 = .ok (.iconst 0, 1) := by decide +kernel
theorem dX3_readNested_7 : decode bX3_readNested.2.1 7 = .ok (.ireturn, 1) := by decide +kernel
theorem dX3_readNested_8 : decode bX3_readNested.2.1 8 = .ok (.aload_n 0, 1) := by decide +kernel
theorem dX3_readNested_9 : decode bX3_readNested.2.1 9 = .ok (.getfield 17, 3) := by decide +kernel
theorem dX3_readNested_12 : decode bX3_readNested.2.1 12 = .ok (.dup, 1) := by decide +kernel
theorem dX3_readNested_13 : decode bX3_readNested.2.1 13 = .ok (.getfield 21, 3) := by decide +kernel
theorem dX3_readNested_16 : decode bX3_readNested.2.1 16 = .ok (.iconst 1, 1) := by decide +kernel
theorem dX3_readNested_17 : decode bX3_readNested.2.1 17 = .ok (.iadd, 1) := by decide +kernel
theorem dX3_readNested_18 : decode bX3_readNested.2.1 18 = .ok (.putfield 21, 3) := by decide +kernel
theorem dX3_readNested_21 : decode bX3_readNested.2.1 21 = .ok (.iload_n 2, 1) := by decide +kernel
theorem dX3_readNested_22 : decode bX3_readNested.2.1 22 = .ok (.bipush 40, 2) := by decide +kernel
theorem dX3_readNested_24 : decode bX3_readNested.2.1 24 = .ok (.if_icmp .ne 32, 3) := by decide +kernel
theorem dX3_readNested_27 : decode bX3_readNested.2.1 27 = .ok (.aload_n 0, 1) := by decide +kernel
theorem dX3_readNested_28 : decode bX3_readNested.2.1 28 = .ok (.iload_n 1, 1) := by decide +kernel
theorem dX3_readNested_29 : decode bX3_readNested.2.1 29 = .ok (.iconst 1, 1) := by decide +kernel
theorem dX3_readNested_30 : decode bX3_readNested.2.1 30 = .ok (.iadd, 1) := by decide +kernel
theorem dX3_readNested_31 : decode bX3_readNested.2.1 31 = .ok (.iconst 0, 1) := by decide +kernel
theorem dX3_readNested_32 : decode bX3_readNested.2.1 32 = .ok (.invokevirtual 52, 3) := by decide +kernel
theorem dX3_readNested_35 : decode bX3_readNested.2.1 35 = .ok (.ifCond .eq 19, 3) := by decide +kernel
theorem dX3_readNested_38 : decode bX3_readNested.2.1 38 = .ok (.aload_n 0, 1) := by decide +kernel
theorem dX3_readNested_39 : decode bX3_readNested.2.1 39 = .ok (.getfield 17, 3) := by decide +kernel
theorem dX3_readNested_42 : decode bX3_readNested.2.1 42 = .ok (.bipush 41, 2) := by decide +kernel
theorem dX3_readNested_44 : decode bX3_readNested.2.1 44 = .ok (.invokevirtual 38, 3) := by decide +kernel
theorem dX3_readNested_47 : decode bX3_readNested.2.1 47 = .ok (.ifCond .eq 7, 3) := by decide +kernel
theorem dX3_readNested_50 : decode bX3_readNested.2.1 50 = .ok (.iconst 1, 1) := by decide +kernel
theorem dX3_readNested_51 : decode bX3_readNested.2.1 51 = .ok (.goto 4, 3) := by decide +kernel
theorem dX3_readNested_54 : decode bX3_readNested.2.1 54 = .ok (.iconst 0, 1) := by decide +kernel
theorem dX3_readNested_55 : decode bX3_readNested.2.1 55 = .ok (.ireturn, 1) := by decide +kernel
theorem dX3_readNested_56 : decode bX3_readNested.2.1 56 = .ok (.aload_n 0, 1) := by decide +kernel
theorem dX3_readNested_57 : decode bX3_readNested.2.1 57 = .ok (.iload_n 1, 1) := by decide +kernel
theorem dX3_readNested_58 : decode bX3_readNested.2.1 58 = .ok (.iconst 1, 1) := by decide +kernel
theorem dX3_readNested_59 : decode bX3_readNested.2.1 59 = .ok (.iadd, 1) := by decide +kernel
theorem dX3_readNested_60 : decode bX3_readNested.2.1 60 = .ok (.iconst 0, 1) := by decide +kernel
theorem dX3_readNested_61 : decode bX3_readNested.2.1 61 = .ok (.invokevirtual 59, 3) := by decide +kernel
theorem dX3_readNested_64 : decode bX3_readNested.2.1 64 = .ok (.ifCond .ne 5, 3) := by decide +kernel
theorem dX3_readNested_67 : decode bX3_readNested.2.1 67 = .ok (.iconst 0, 1) := by decide +kernel
theorem dX3_readNested_68 : decode bX3_readNested.2.1 68 = .ok (.ireturn, 1) := by decide +kernel
theorem dX3_readNested_69 : decode bX3_readNested.2.1 69 = .ok (.aload_n 0, 1) := by decide +kernel
theorem dX3_readNested_70 : decode bX3_readNested.2.1 70 = .ok (.bipush 33, 2) := by decide +kernel
theorem dX3_readNested_72 : decode bX3_readNested.2.1 72 = .ok (.invokevirtual 34, 3) := by decide +kernel
theorem dX3_readNested_75 : decode bX3_readNested.2.1 75 = .ok (.iconst 1, 1) := by decide +kernel
theorem dX3_readNested_76 : decode bX3_readNested.2.1 76 = .ok (.ireturn, 1) := by decide +kernel
theorem dX3_readSum_0 : decode bX3_readSum.2.1 0 = .ok (.aload_n 0, 1) := by decide +kernel
theorem dX3_readSum_1 : decode bX3_readSum.2.1 1 = .ok (.iload_n 1, 1) := by decide +kernel
theorem dX3_readSum_2 : decode bX3_readSum.2.1 2 = .ok (.invokevirtual 69, 3) := by decide +kernel
theorem dX3_readSum_5 : decode bX3_readSum.2.1 5 = .ok (.ifCond .ne 5, 3) := by decide +kernel
theorem dX3_readSum_8 : decode bX3_readSum.2.1 8 = .ok (.iconst 0, 1) := by decide +kernel
theorem dX3_readSum_9 : decode bX3_readSum.2.1 9 = .ok (.ireturn, 1) := by decide +kernel
theorem dX3_readSum_10 : decode bX3_readSum.2.1 10 = .ok (.iconst 0, 1) := by decide +kernel
theorem dX3_readSum_11 : decode bX3_readSum.2.1 11 = .ok (.istore_n 2, 1) := by decide +kernel
theorem dX3_readSum_12 : decode bX3_readSum.2.1 12 = .ok (.iload_n 2, 1) := by decide +kernel
theorem dX3_readSum_13 : decode bX3_readSum.2.1 13 = .ok (.sipush 160, 3) := by decide +kernel
theorem dX3_readSum_16 : decode bX3_readSum.2.1 16 = .ok (.if_icmp .ge 59, 3) := by decide +kernel
theorem dX3_readSum_19 : decode bX3_readSum.2.1 19 = .ok (.aload_n 0, 1) := by decide +kernel
theorem dX3_readSum_20 : decode bX3_readSum.2.1 20 = .ok (.getfield 17, 3) := by decide +kernel
theorem dX3_readSum_23 : decode bX3_readSum.2.1 23 = .ok (.invokevirtual 42, 3) := by decide +kernel
theorem dX3_readSum_26 : decode bX3_readSum.2.1 26 = .ok (.istore_n 3, 1) := by decide +kernel
theorem dX3_readSum_27 : decode bX3_readSum.2.1 27 = .ok (.iload_n 3, 1) := by decide +kernel
theorem dX3_readSum_28 : decode bX3_readSum.2.1 28 = .ok (.bipush 43, 2) := by decide +kernel
theorem dX3_readSum_30 : decode bX3_readSum.2.1 30 = .ok (.if_icmp .eq 11, 3) := by decide +kernel
theorem dX3_readSum_33 : decode bX3_readSum.2.1 33 = .ok (.iload_n 3, 1) := by decide +kernel
theorem dX3_readSum_34 : decode bX3_readSum.2.1 34 = .ok (.bipush 45, 2) := by decide +kernel
theorem dX3_readSum_36 : decode bX3_readSum.2.1 36 = .ok (.if_icmp .eq 5, 3) := by decide +kernel
theorem dX3_readSum_39 : decode bX3_readSum.2.1 39 = .ok (.iconst 1, 1) := by decide +kernel
theorem dX3_readSum_40 : decode bX3_readSum.2.1 40 = .ok (.ireturn, 1) := by decide +kernel
theorem dX3_readSum_41 : decode bX3_readSum.2.1 41 = .ok (.aload_n 0, 1) := by decide +kernel
theorem dX3_readSum_42 : decode bX3_readSum.2.1 42 = .ok (.getfield 17, 3) := by decide +kernel
theorem dX3_readSum_45 : decode bX3_readSum.2.1 45 = .ok (.dup, 1) := by decide +kernel
theorem dX3_readSum_46 : decode bX3_readSum.2.1 46 = .ok (.getfield 21, 3) := by decide +kernel
theorem dX3_readSum_49 : decode bX3_readSum.2.1 49 = .ok (.iconst 1, 1) := by decide +kernel
theorem dX3_readSum_50 : decode bX3_readSum.2.1 50 = .ok (.iadd, 1) := by decide +kernel
theorem dX3_readSum_51 : decode bX3_readSum.2.1 51 = .ok (.putfield 21, 3) := by decide +kernel
theorem dX3_readSum_54 : decode bX3_readSum.2.1 54 = .ok (.aload_n 0, 1) := by decide +kernel
theorem dX3_readSum_55 : decode bX3_readSum.2.1 55 = .ok (.iload_n 1, 1) := by decide +kernel
theorem dX3_readSum_56 : decode bX3_readSum.2.1 56 = .ok (.invokevirtual 69, 3) := by decide +kernel
theorem dX3_readSum_59 : decode bX3_readSum.2.1 59 = .ok (.ifCond .ne 5, 3) := by decide +kernel
theorem dX3_readSum_62 : decode bX3_readSum.2.1 62 = .ok (.iconst 0, 1) := by decide +kernel
theorem dX3_readSum_63 : decode bX3_readSum.2.1 63 = .ok (.ireturn, 1) := by decide +kernel
theorem dX3_readSum_64 : decode bX3_readSum.2.1 64 = .ok (.aload_n 0, 1) := by decide +kernel
theorem dX3_readSum_65 : decode bX3_readSum.2.1 65 = .ok (.iload_n 3, 1) := by decide +kernel
theorem dX3_readSum_66 : decode bX3_readSum.2.1 66 = .ok (.invokevirtual 34, 3) := by decide +kernel
theorem dX3_readSum_69 : decode bX3_readSum.2.1 69 = .ok (.iinc 2 1, 3) := by decide +kernel
theorem dX3_readSum_72 : decode bX3_readSum.2.1 72 = .ok (.goto (-60), 3) := by decide +kernel
theorem dX3_readSum_75 : decode bX3_readSum.2.1 75 = .ok (.iconst 1, 1) := by decide +kernel
theorem dX3_readSum_76 : decode bX3_readSum.2.1 76 = .ok (.ireturn, 1) := by decide +kernel
theorem dX3_readTerm_0 : decode bX3_readTerm.2.1 0 = .ok (.aload_n 0, 1) := by decide +kernel
theorem dX3_readTerm_1 : decode bX3_readTerm.2.1 1 = .ok (.iload_n 1, 1) := by decide +kernel
theorem dX3_readTerm_2 : decode bX3_readTerm.2.1 2 = .ok (.invokevirtual 72, 3) := by decide +kernel
theorem dX3_readTerm_5 : decode bX3_readTerm.2.1 5 = .ok (.ifCond .ne 5, 3) := by decide +kernel
theorem dX3_readTerm_8 : decode bX3_readTerm.2.1 8 = .ok (.iconst 0, 1) := by decide +kernel
theorem dX3_readTerm_9 : decode bX3_readTerm.2.1 9 = .ok (.ireturn, 1) := by decide +kernel
theorem dX3_readTerm_10 : decode bX3_readTerm.2.1 10 = .ok (.iconst 0, 1) := by decide +kernel
theorem dX3_readTerm_11 : decode bX3_readTerm.2.1 11 = .ok (.istore_n 2, 1) := by decide +kernel
theorem dX3_readTerm_12 : decode bX3_readTerm.2.1 12 = .ok (.iload_n 2, 1) := by decide +kernel
theorem dX3_readTerm_13 : decode bX3_readTerm.2.1 13 = .ok (.sipush 160, 3) := by decide +kernel
theorem dX3_readTerm_16 : decode bX3_readTerm.2.1 16 = .ok (.if_icmp .ge 59, 3) := by decide +kernel
theorem dX3_readTerm_19 : decode bX3_readTerm.2.1 19 = .ok (.aload_n 0, 1) := by decide +kernel
theorem dX3_readTerm_20 : decode bX3_readTerm.2.1 20 = .ok (.getfield 17, 3) := by decide +kernel
theorem dX3_readTerm_23 : decode bX3_readTerm.2.1 23 = .ok (.invokevirtual 42, 3) := by decide +kernel
theorem dX3_readTerm_26 : decode bX3_readTerm.2.1 26 = .ok (.istore_n 3, 1) := by decide +kernel
theorem dX3_readTerm_27 : decode bX3_readTerm.2.1 27 = .ok (.iload_n 3, 1) := by decide +kernel
theorem dX3_readTerm_28 : decode bX3_readTerm.2.1 28 = .ok (.bipush 42, 2) := by decide +kernel
theorem dX3_readTerm_30 : decode bX3_readTerm.2.1 30 = .ok (.if_icmp .eq 11, 3) := by decide +kernel
theorem dX3_readTerm_33 : decode bX3_readTerm.2.1 33 = .ok (.iload_n 3, 1) := by decide +kernel
theorem dX3_readTerm_34 : decode bX3_readTerm.2.1 34 = .ok (.bipush 47, 2) := by decide +kernel
theorem dX3_readTerm_36 : decode bX3_readTerm.2.1 36 = .ok (.if_icmp .eq 5, 3) := by decide +kernel
theorem dX3_readTerm_39 : decode bX3_readTerm.2.1 39 = .ok (.iconst 1, 1) := by decide +kernel
theorem dX3_readTerm_40 : decode bX3_readTerm.2.1 40 = .ok (.ireturn, 1) := by decide +kernel
theorem dX3_readTerm_41 : decode bX3_readTerm.2.1 41 = .ok (.aload_n 0, 1) := by decide +kernel
theorem dX3_readTerm_42 : decode bX3_readTerm.2.1 42 = .ok (.getfield 17, 3) := by decide +kernel
theorem dX3_readTerm_45 : decode bX3_readTerm.2.1 45 = .ok (.dup, 1) := by decide +kernel
theorem dX3_readTerm_46 : decode bX3_readTerm.2.1 46 = .ok (.getfield 21, 3) := by decide +kernel
theorem dX3_readTerm_49 : decode bX3_readTerm.2.1 49 = .ok (.iconst 1, 1) := by decide +kernel
theorem dX3_readTerm_50 : decode bX3_readTerm.2.1 50 = .ok (.iadd, 1) := by decide +kernel
theorem dX3_readTerm_51 : decode bX3_readTerm.2.1 51 = .ok (.putfield 21, 3) := by decide +kernel
theorem dX3_readTerm_54 : decode bX3_readTerm.2.1 54 = .ok (.aload_n 0, 1) := by decide +kernel
theorem dX3_readTerm_55 : decode bX3_readTerm.2.1 55 = .ok (.iload_n 1, 1) := by decide +kernel
theorem dX3_readTerm_56 : decode bX3_readTerm.2.1 56 = .ok (.invokevirtual 72, 3) := by decide +kernel
theorem dX3_readTerm_59 : decode bX3_readTerm.2.1 59 = .ok (.ifCond .ne 5, 3) := by decide +kernel
theorem dX3_readTerm_62 : decode bX3_readTerm.2.1 62 = .ok (.iconst 0, 1) := by decide +kernel
theorem dX3_readTerm_63 : decode bX3_readTerm.2.1 63 = .ok (.ireturn, 1) := by decide +kernel
theorem dX3_readTerm_64 : decode bX3_readTerm.2.1 64 = .ok (.aload_n 0, 1) := by decide +kernel
theorem dX3_readTerm_65 : decode bX3_readTerm.2.1 65 = .ok (.iload_n 3, 1) := by decide +kernel
theorem dX3_readTerm_66 : decode bX3_readTerm.2.1 66 = .ok (.invokevirtual 34, 3) := by decide +kernel
theorem dX3_readTerm_69 : decode bX3_readTerm.2.1 69 = .ok (.iinc 2 1, 3) := by decide +kernel
theorem dX3_readTerm_72 : decode bX3_readTerm.2.1 72 = .ok (.goto (-60), 3) := by decide +kernel
theorem dX3_readTerm_75 : decode bX3_readTerm.2.1 75 = .ok (.iconst 1, 1) := by decide +kernel
theorem dX3_readTerm_76 : decode bX3_readTerm.2.1 76 = .ok (.ireturn, 1) := by decide +kernel
theorem dX3_readAtom_0 : decode bX3_readAtom.2.1 0 = .ok (.aload_n 0, 1) := by decide +kernel
theorem dX3_readAtom_1 : decode bX3_readAtom.2.1 1 = .ok (.getfield 17, 3) := by decide +kernel
theorem dX3_readAtom_4 : decode bX3_readAtom.2.1 4 = .ok (.invokevirtual 42, 3) := by decide +kernel
theorem dX3_readAtom_7 : decode bX3_readAtom.2.1 7 = .ok (.istore_n 2, 1) := by decide +kernel
theorem dX3_readAtom_8 : decode bX3_readAtom.2.1 8 = .ok (.iload_n 2, 1) := by decide +kernel
theorem dX3_readAtom_9 : decode bX3_readAtom.2.1 9 = .ok (.invokestatic 75, 3) := by decide +kernel
theorem dX3_readAtom_12 : decode bX3_readAtom.2.1 12 = .ok (.ifCond .eq 23, 3) := by decide +kernel
theorem dX3_readAtom_15 : decode bX3_readAtom.2.1 15 = .ok (.aload_n 0, 1) := by decide +kernel
theorem dX3_readAtom_16 : decode bX3_readAtom.2.1 16 = .ok (.getfield 17, 3) := by decide +kernel
theorem dX3_readAtom_19 : decode bX3_readAtom.2.1 19 = .ok (.dup, 1) := by decide +kernel
theorem dX3_readAtom_20 : decode bX3_readAtom.2.1 20 = .ok (.getfield 21, 3) := by decide +kernel
theorem dX3_readAtom_23 : decode bX3_readAtom.2.1 23 = .ok (.iconst 1, 1) := by decide +kernel
theorem dX3_readAtom_24 : decode bX3_readAtom.2.1 24 = .ok (.iadd, 1) := by decide +kernel
theorem dX3_readAtom_25 : decode bX3_readAtom.2.1 25 = .ok (.putfield 21, 3) := by decide +kernel
theorem dX3_readAtom_28 : decode bX3_readAtom.2.1 28 = .ok (.aload_n 0, 1) := by decide +kernel
theorem dX3_readAtom_29 : decode bX3_readAtom.2.1 29 = .ok (.iload_n 2, 1) := by decide +kernel
theorem dX3_readAtom_30 : decode bX3_readAtom.2.1 30 = .ok (.invokevirtual 34, 3) := by decide +kernel
theorem dX3_readAtom_33 : decode bX3_readAtom.2.1 33 = .ok (.iconst 1, 1) := by decide +kernel
theorem dX3_readAtom_34 : decode bX3_readAtom.2.1 34 = .ok (.ireturn, 1) := by decide +kernel
theorem dX3_readAtom_35 : decode bX3_readAtom.2.1 35 = .ok (.iload_n 2, 1) := by decide +kernel
theorem dX3_readAtom_36 : decode bX3_readAtom.2.1 36 = .ok (.bipush 91, 2) := by decide +kernel
theorem dX3_readAtom_38 : decode bX3_readAtom.2.1 38 = .ok (.if_icmp .ne 52, 3) := by decide +kernel
theorem dX3_readAtom_41 : decode bX3_readAtom.2.1 41 = .ok (.iload_n 1, 1) := by decide +kernel
theorem dX3_readAtom_42 : decode bX3_readAtom.2.1 42 = .ok (.bipush 6, 2) := by decide +kernel
theorem dX3_readAtom_44 : decode bX3_readAtom.2.1 44 = .ok (.if_icmp .lt 5, 3) := by decide +kernel
theorem dX3_readAtom_47 : decode bX3_readAtom.2.1 47 = .ok (.iconst 0, 1) := by decide +kernel
theorem dX3_readAtom_48 : decode bX3_readAtom.2.1 48 = .ok (.ireturn, 1) := by decide +kernel
theorem dX3_readAtom_49 : decode bX3_readAtom.2.1 49 = .ok (.aload_n 0, 1) := by decide +kernel
theorem dX3_readAtom_50 : decode bX3_readAtom.2.1 50 = .ok (.getfield 17, 3) := by decide +kernel
theorem dX3_readAtom_53 : decode bX3_readAtom.2.1 53 = .ok (.dup, 1) := by decide +kernel
theorem dX3_readAtom_54 : decode bX3_readAtom.2.1 54 = .ok (.getfield 21, 3) := by decide +kernel
theorem dX3_readAtom_57 : decode bX3_readAtom.2.1 57 = .ok (.iconst 1, 1) := by decide +kernel
theorem dX3_readAtom_58 : decode bX3_readAtom.2.1 58 = .ok (.iadd, 1) := by decide +kernel
theorem dX3_readAtom_59 : decode bX3_readAtom.2.1 59 = .ok (.putfield 21, 3) := by decide +kernel
theorem dX3_readAtom_62 : decode bX3_readAtom.2.1 62 = .ok (.aload_n 0, 1) := by decide +kernel
theorem dX3_readAtom_63 : decode bX3_readAtom.2.1 63 = .ok (.iload_n 1, 1) := by decide +kernel
theorem dX3_readAtom_64 : decode bX3_readAtom.2.1 64 = .ok (.iconst 1, 1) := by decide +kernel
theorem dX3_readAtom_65 : decode bX3_readAtom.2.1 65 = .ok (.iadd, 1) := by decide +kernel
theorem dX3_readAtom_66 : decode bX3_readAtom.2.1 66 = .ok (.invokevirtual 46, 3) := by decide +kernel
theorem dX3_readAtom_69 : decode bX3_readAtom.2.1 69 = .ok (.ifCond .eq 19, 3) := by decide +kernel
theorem dX3_readAtom_72 : decode bX3_readAtom.2.1 72 = .ok (.aload_n 0, 1) := by decide +kernel
theorem dX3_readAtom_73 : decode bX3_readAtom.2.1 73 = .ok (.getfield 17, 3) := by decide +kernel
theorem dX3_readAtom_76 : decode bX3_readAtom.2.1 76 = .ok (.bipush 93, 2) := by decide +kernel
theorem dX3_readAtom_78 : decode bX3_readAtom.2.1 78 = .ok (.invokevirtual 38, 3) := by decide +kernel
theorem dX3_readAtom_81 : decode bX3_readAtom.2.1 81 = .ok (.ifCond .eq 7, 3) := by decide +kernel
theorem dX3_readAtom_84 : decode bX3_readAtom.2.1 84 = .ok (.iconst 1, 1) := by decide +kernel
theorem dX3_readAtom_85 : decode bX3_readAtom.2.1 85 = .ok (.goto 4, 3) := by decide +kernel
theorem dX3_readAtom_88 : decode bX3_readAtom.2.1 88 = .ok (.iconst 0, 1) := by decide +kernel
theorem dX3_readAtom_89 : decode bX3_readAtom.2.1 89 = .ok (.ireturn, 1) := by decide +kernel
theorem dX3_readAtom_90 : decode bX3_readAtom.2.1 90 = .ok (.aload_n 0, 1) := by decide +kernel
theorem dX3_readAtom_91 : decode bX3_readAtom.2.1 91 = .ok (.getfield 17, 3) := by decide +kernel
theorem dX3_readAtom_94 : decode bX3_readAtom.2.1 94 = .ok (.iconst 4, 1) := by decide +kernel
theorem dX3_readAtom_95 : decode bX3_readAtom.2.1 95 = .ok (.invokevirtual 78, 3) := by decide +kernel
theorem dX3_readAtom_98 : decode bX3_readAtom.2.1 98 = .ok (.istore_n 3, 1) := by decide +kernel
theorem dX3_readAtom_99 : decode bX3_readAtom.2.1 99 = .ok (.iload_n 3, 1) := by decide +kernel
theorem dX3_readAtom_100 : decode bX3_readAtom.2.1 100 = .ok (.iconst (-1), 1) := by decide +kernel
theorem dX3_readAtom_101 : decode bX3_readAtom.2.1 101 = .ok (.if_icmp .ne 5, 3) := by decide +kernel
theorem dX3_readAtom_104 : decode bX3_readAtom.2.1 104 = .ok (.iconst 0, 1) := by decide +kernel
theorem dX3_readAtom_105 : decode bX3_readAtom.2.1 105 = .ok (.ireturn, 1) := by decide +kernel
theorem dX3_readAtom_106 : decode bX3_readAtom.2.1 106 = .ok (.aload_n 0, 1) := by decide +kernel
theorem dX3_readAtom_107 : decode bX3_readAtom.2.1 107 = .ok (.sipush 1000, 3) := by decide +kernel
theorem dX3_readAtom_110 : decode bX3_readAtom.2.1 110 = .ok (.iload_n 3, 1) := by decide +kernel
theorem dX3_readAtom_111 : decode bX3_readAtom.2.1 111 = .ok (.iadd, 1) := by decide +kernel
theorem dX3_readAtom_112 : decode bX3_readAtom.2.1 112 = .ok (.invokevirtual 34, 3) := by decide +kernel
theorem dX3_readAtom_115 : decode bX3_readAtom.2.1 115 = .ok (.iconst 1, 1) := by decide +kernel
theorem dX3_readAtom_116 : decode bX3_readAtom.2.1 116 = .ok (.ireturn, 1) := by decide +kernel
theorem dX9_init_0 : decode bX9_init.2.1 0 = .ok (.aload_n 0, 1) := by decide +kernel
theorem dX9_init_1 : decode bX9_init.2.1 1 = .ok (.invokespecial 3, 3) := by decide +kernel
theorem dX9_init_4 : decode bX9_init.2.1 4 = .ok (.aload_n 0, 1) := by decide +kernel
theorem dX9_init_5 : decode bX9_init.2.1 5 = .ok (.sipush 160, 3) := by decide +kernel
theorem dX9_init_8 : decode bX9_init.2.1 8 = .ok (.newarray .int, 2) := by decide +kernel
theorem dX9_init_10 : decode bX9_init.2.1 10 = .ok (.putfield 9, 3) := by decide +kernel
theorem dX9_init_13 : decode bX9_init.2.1 13 = .ok (.return_, 1) := by decide +kernel
theorem dX9_bytesIn_0 : decode bX9_bytesIn.2.1 0 = .ok (.iconst 0, 1) := by decide +kernel
theorem dX9_bytesIn_1 : decode bX9_bytesIn.2.1 1 = .ok (.istore_n 1, 1) := by decide +kernel
theorem dX9_bytesIn_2 : decode bX9_bytesIn.2.1 2 = .ok (.bipush 24, 2) := by decide +kernel
theorem dX9_bytesIn_4 : decode bX9_bytesIn.2.1 4 = .ok (.istore_n 2, 1) := by decide +kernel
theorem dX9_bytesIn_5 : decode bX9_bytesIn.2.1 5 = .ok (.iload_n 2, 1) := by decide +kernel
theorem dX9_bytesIn_6 : decode bX9_bytesIn.2.1 6 = .ok (.ifCond .lt 27, 3) := by decide +kernel
theorem dX9_bytesIn_9 : decode bX9_bytesIn.2.1 9 = .ok (.iload_n 1, 1) := by decide +kernel
theorem dX9_bytesIn_10 : decode bX9_bytesIn.2.1 10 = .ok (.iload_n 0, 1) := by decide +kernel
theorem dX9_bytesIn_11 : decode bX9_bytesIn.2.1 11 = .ok (.iload_n 2, 1) := by decide +kernel
theorem dX9_bytesIn_12 : decode bX9_bytesIn.2.1 12 = .ok (.iushr, 1) := by decide +kernel
theorem dX9_bytesIn_13 : decode bX9_bytesIn.2.1 13 = .ok (.sipush 255, 3) := by decide +kernel
theorem dX9_bytesIn_16 : decode bX9_bytesIn.2.1 16 = .ok (.iand, 1) := by decide +kernel
theorem dX9_bytesIn_17 : decode bX9_bytesIn.2.1 17 = .ok (.ifCond .eq 7, 3) := by decide +kernel
theorem dX9_bytesIn_20 : decode bX9_bytesIn.2.1 20 = .ok (.iconst 1, 1) := by decide +kernel
theorem dX9_bytesIn_21 : decode bX9_bytesIn.2.1 21 = .ok (.goto 4, 3) := by decide +kernel
theorem dX9_bytesIn_24 : decode bX9_bytesIn.2.1 24 = .ok (.iconst 0, 1) := by decide +kernel
theorem dX9_bytesIn_25 : decode bX9_bytesIn.2.1 25 = .ok (.iadd, 1) := by decide +kernel
theorem dX9_bytesIn_26 : decode bX9_bytesIn.2.1 26 = .ok (.istore_n 1, 1) := by decide +kernel
theorem dX9_bytesIn_27 : decode bX9_bytesIn.2.1 27 = .ok (.iinc 2 (-8), 3) := by decide +kernel
theorem dX9_bytesIn_30 : decode bX9_bytesIn.2.1 30 = .ok (.goto (-25), 3) := by decide +kernel
theorem dX9_bytesIn_33 : decode bX9_bytesIn.2.1 33 = .ok (.iload_n 1, 1) := by decide +kernel
theorem dX9_bytesIn_34 : decode bX9_bytesIn.2.1 34 = .ok (.ireturn, 1) := by decide +kernel
theorem dX9_append_0 : decode bX9_append.2.1 0 = .ok (.bipush 24, 2) := by decide +kernel
theorem dX9_append_2 : decode bX9_append.2.1 2 = .ok (.istore_n 2, 1) := by decide +kernel
theorem dX9_append_3 : decode bX9_append.2.1 3 = .ok (.iload_n 2, 1) := by decide +kernel
theorem dX9_append_4 : decode bX9_append.2.1 4 = .ok (.ifCond .lt 53, 3) := by decide +kernel
theorem dX9_append_7 : decode bX9_append.2.1 7 = .ok (.iload_n 1, 1) := by decide +kernel
theorem dX9_append_8 : decode bX9_append.2.1 8 = .ok (.iload_n 2, 1) := by decide +kernel
theorem dX9_append_9 : decode bX9_append.2.1 9 = .ok (.iushr, 1) := by decide +kernel
theorem dX9_append_10 : decode bX9_append.2.1 10 = .ok (.sipush 255, 3) := by decide +kernel
theorem dX9_append_13 : decode bX9_append.2.1 13 = .ok (.iand, 1) := by decide +kernel
theorem dX9_append_14 : decode bX9_append.2.1 14 = .ok (.istore_n 3, 1) := by decide +kernel
theorem dX9_append_15 : decode bX9_append.2.1 15 = .ok (.iload_n 3, 1) := by decide +kernel
theorem dX9_append_16 : decode bX9_append.2.1 16 = .ok (.ifCond .eq 35, 3) := by decide +kernel
theorem dX9_append_19 : decode bX9_append.2.1 19 = .ok (.aload_n 0, 1) := by decide +kernel
theorem dX9_append_20 : decode bX9_append.2.1 20 = .ok (.getfield 15, 3) := by decide +kernel
theorem dX9_append_23 : decode bX9_append.2.1 23 = .ok (.aload_n 0, 1) := by decide +kernel
theorem dX9_append_24 : decode bX9_append.2.1 24 = .ok (.getfield 9, 3) := by decide +kernel
theorem dX9_append_27 : decode bX9_append.2.1 27 = .ok (.arraylength, 1) := by decide +kernel
theorem dX9_append_28 : decode bX9_append.2.1 28 = .ok (.if_icmp .ge 23, 3) := by decide +kernel
theorem dX9_append_31 : decode bX9_append.2.1 31 = .ok (.aload_n 0, 1) := by decide +kernel
theorem dX9_append_32 : decode bX9_append.2.1 32 = .ok (.getfield 9, 3) := by decide +kernel
theorem dX9_append_35 : decode bX9_append.2.1 35 = .ok (.aload_n 0, 1) := by decide +kernel
theorem dX9_append_36 : decode bX9_append.2.1 36 = .ok (.getfield 15, 3) := by decide +kernel
theorem dX9_append_39 : decode bX9_append.2.1 39 = .ok (.iload_n 3, 1) := by decide +kernel
theorem dX9_append_40 : decode bX9_append.2.1 40 = .ok (.iastore, 1) := by decide +kernel
theorem dX9_append_41 : decode bX9_append.2.1 41 = .ok (.aload_n 0, 1) := by decide +kernel
theorem dX9_append_42 : decode bX9_append.2.1 42 = .ok (.dup, 1) := by decide +kernel
theorem dX9_append_43 : decode bX9_append.2.1 43 = .ok (.getfield 15, 3) := by decide +kernel
theorem dX9_append_46 : decode bX9_append.2.1 46 = .ok (.iconst 1, 1) := by decide +kernel
theorem dX9_append_47 : decode bX9_append.2.1 47 = .ok (.iadd, 1) := by decide +kernel
theorem dX9_append_48 : decode bX9_append.2.1 48 = .ok (.putfield 15, 3) := by decide +kernel
theorem dX9_append_51 : decode bX9_append.2.1 51 = .ok (.iinc 2 (-8), 3) := by decide +kernel
theorem dX9_append_54 : decode bX9_append.2.1 54 = .ok (.goto (-51), 3) := by decide +kernel
theorem dX9_append_57 : decode bX9_append.2.1 57 = .ok (.return_, 1) := by decide +kernel
theorem dX9_here_0 : decode bX9_here.2.1 0 = .ok (.aload_n 0, 1) := by decide +kernel
theorem dX9_here_1 : decode bX9_here.2.1 1 = .ok (.getfield 19, 3) := by decide +kernel
theorem dX9_here_4 : decode bX9_here.2.1 4 = .ok (.ifCond .lt 38, 3) := by decide +kernel
theorem dX9_here_7 : decode bX9_here.2.1 7 = .ok (.aload_n 0, 1) := by decide +kernel
theorem dX9_here_8 : decode bX9_here.2.1 8 = .ok (.getfield 19, 3) := by decide +kernel
theorem dX9_here_11 : decode bX9_here.2.1 11 = .ok (.aload_n 0, 1) := by decide +kernel
theorem dX9_here_12 : decode bX9_here.2.1 12 = .ok (.getfield 15, 3) := by decide +kernel
theorem dX9_here_15 : decode bX9_here.2.1 15 = .ok (.if_icmp .ge 27, 3) := by decide +kernel
theorem dX9_here_18 : decode bX9_here.2.1 18 = .ok (.aload_n 0, 1) := by decide +kernel
theorem dX9_here_19 : decode bX9_here.2.1 19 = .ok (.getfield 19, 3) := by decide +kernel
theorem dX9_here_22 : decode bX9_here.2.1 22 = .ok (.aload_n 0, 1) := by decide +kernel
theorem dX9_here_23 : decode bX9_here.2.1 23 = .ok (.getfield 9, 3) := by decide +kernel
theorem dX9_here_26 : decode bX9_here.2.1 26 = .ok (.arraylength, 1) := by decide +kernel
theorem dX9_here_27 : decode bX9_here.2.1 27 = .ok (.if_icmp .ge 15, 3) := by decide +kernel
theorem dX9_here_30 : decode bX9_here.2.1 30 = .ok (.aload_n 0, 1) := by decide +kernel
theorem dX9_here_31 : decode bX9_here.2.1 31 = .ok (.getfield 9, 3) := by decide +kernel
theorem dX9_here_34 : decode bX9_here.2.1 34 = .ok (.aload_n 0, 1) := by decide +kernel
theorem dX9_here_35 : decode bX9_here.2.1 35 = .ok (.getfield 19, 3) := by decide +kernel
theorem dX9_here_38 : decode bX9_here.2.1 38 = .ok (.iaload, 1) := by decide +kernel
theorem dX9_here_39 : decode bX9_here.2.1 39 = .ok (.goto 4, 3) := by decide +kernel
theorem dX9_here_42 : decode bX9_here.2.1 42 = .ok (.iconst 0, 1) := by decide +kernel
theorem dX9_here_43 : decode bX9_here.2.1 43 = .ok (.ireturn, 1) := by decide +kernel
theorem dX9_sign_0 : decode bX9_sign.2.1 0 = .ok (.aload_n 0, 1) := by decide +kernel
theorem dX9_sign_1 : decode bX9_sign.2.1 1 = .ok (.getfield 19, 3) := by decide +kernel
theorem dX9_sign_4 : decode bX9_sign.2.1 4 = .ok (.aload_n 0, 1) := by decide +kernel
theorem dX9_sign_5 : decode bX9_sign.2.1 5 = .ok (.getfield 15, 3) := by decide +kernel
theorem dX9_sign_8 : decode bX9_sign.2.1 8 = .ok (.if_icmp .ge 25, 3) := by decide +kernel
theorem dX9_sign_11 : decode bX9_sign.2.1 11 = .ok (.aload_n 0, 1) := by decide +kernel
theorem dX9_sign_12 : decode bX9_sign.2.1 12 = .ok (.invokevirtual 22, 3) := by decide +kernel
theorem dX9_sign_15 : decode bX9_sign.2.1 15 = .ok (.bipush 32, 2) := by decide +kernel
theorem dX9_sign_17 : decode bX9_sign.2.1 17 = .ok (.if_icmp .ne 16, 3) := by decide +kernel
theorem dX9_sign_20 : decode bX9_sign.2.1 20 = .ok (.aload_n 0, 1) := by decide +kernel
theorem dX9_sign_21 : decode bX9_sign.2.1 21 = .ok (.dup, 1) := by decide +kernel
theorem dX9_sign_22 : decode bX9_sign.2.1 22 = .ok (.getfield 19, 3) := by decide +kernel
theorem dX9_sign_25 : decode bX9_sign.2.1 25 = .ok (.iconst 1, 1) := by decide +kernel
theorem dX9_sign_26 : decode bX9_sign.2.1 26 = .ok (.iadd, 1) := by decide +kernel
theorem dX9_sign_27 : decode bX9_sign.2.1 27 = .ok (.putfield 19, 3) := by decide +kernel
theorem dX9_sign_30 : decode bX9_sign.2.1 30 = .ok (.goto (-30), 3) := by decide +kernel
theorem dX9_sign_33 : decode bX9_sign.2.1 33 = .ok (.aload_n 0, 1) := by decide +kernel
theorem dX9_sign_34 : decode bX9_sign.2.1 34 = .ok (.invokevirtual 22, 3) := by decide +kernel
theorem dX9_sign_37 : decode bX9_sign.2.1 37 = .ok (.ireturn, 1) := by decide +kernel
theorem dX9_takes_0 : decode bX9_takes.2.1 0 = .ok (.aload_n 0, 1) := by decide +kernel
theorem dX9_takes_1 : decode bX9_takes.2.1 1 = .ok (.invokevirtual 26, 3) := by decide +kernel
theorem dX9_takes_4 : decode bX9_takes.2.1 4 = .ok (.iload_n 1, 1) := by decide +kernel
theorem dX9_takes_5 : decode bX9_takes.2.1 5 = .ok (.if_icmp .eq 5, 3) := by decide +kernel
theorem dX9_takes_8 : decode bX9_takes.2.1 8 = .ok (.iconst 0, 1) := by decide +kernel
theorem dX9_takes_9 : decode bX9_takes.2.1 9 = .ok (.ireturn, 1) := by decide +kernel
theorem dX9_takes_10 : decode bX9_takes.2.1 10 = .ok (.aload_n 0, 1) := by decide +kernel
theorem dX9_takes_11 : decode bX9_takes.2.1 11 = .ok (.dup, 1) := by decide +kernel
theorem dX9_takes_12 : decode bX9_takes.2.1 12 = .ok (.getfield 19, 3) := by decide +kernel
theorem dX9_takes_15 : decode bX9_takes.2.1 15 = .ok (.iconst 1, 1) := by decide +kernel
theorem dX9_takes_16 : decode bX9_takes.2.1 16 = .ok (.iadd, 1) := by decide +kernel
theorem dX9_takes_17 : decode bX9_takes.2.1 17 = .ok (.putfield 19, 3) := by decide +kernel
theorem dX9_takes_20 : decode bX9_takes.2.1 20 = .ok (.iconst 1, 1) := by decide +kernel
theorem dX9_takes_21 : decode bX9_takes.2.1 21 = .ok (.ireturn, 1) := by decide +kernel
theorem dX9_isDigit_0 : decode bX9_isDigit.2.1 0 = .ok (.iload_n 0, 1) := by decide +kernel
theorem dX9_isDigit_1 : decode bX9_isDigit.2.1 1 = .ok (.bipush 48, 2) := by decide +kernel
theorem dX9_isDigit_3 : decode bX9_isDigit.2.1 3 = .ok (.if_icmp .lt 13, 3) := by decide +kernel
theorem dX9_isDigit_6 : decode bX9_isDigit.2.1 6 = .ok (.iload_n 0, 1) := by decide +kernel
theorem dX9_isDigit_7 : decode bX9_isDigit.2.1 7 = .ok (.bipush 57, 2) := by decide +kernel
theorem dX9_isDigit_9 : decode bX9_isDigit.2.1 9 = .ok (.if_icmp .gt 7, 3) := by decide +kernel
theorem dX9_isDigit_12 : decode bX9_isDigit.2.1 12 = .ok (.iconst 1, 1) := by decide +kernel
theorem dX9_isDigit_13 : decode bX9_isDigit.2.1 13 = .ok (.goto 4, 3) := by decide +kernel
theorem dX9_isDigit_16 : decode bX9_isDigit.2.1 16 = .ok (.iconst 0, 1) := by decide +kernel
theorem dX9_isDigit_17 : decode bX9_isDigit.2.1 17 = .ok (.ireturn, 1) := by decide +kernel
theorem dX9_number_0 : decode bX9_number.2.1 0 = .ok (.iconst 0, 1) := by decide +kernel
theorem dX9_number_1 : decode bX9_number.2.1 1 = .ok (.istore_n 2, 1) := by decide +kernel
theorem dX9_number_2 : decode bX9_number.2.1 2 = .ok (.iconst 0, 1) := by decide +kernel
theorem dX9_number_3 : decode bX9_number.2.1 3 = .ok (.istore_n 3, 1) := by decide +kernel
theorem dX9_number_4 : decode bX9_number.2.1 4 = .ok (.iload_n 3, 1) := by decide +kernel
theorem dX9_number_5 : decode bX9_number.2.1 5 = .ok (.iload_n 1, 1) := by decide +kernel
theorem dX9_number_6 : decode bX9_number.2.1 6 = .ok (.if_icmp .ge 42, 3) := by decide +kernel
theorem dX9_number_9 : decode bX9_number.2.1 9 = .ok (.aload_n 0, 1) := by decide +kernel
theorem dX9_number_10 : decode bX9_number.2.1 10 = .ok (.invokevirtual 22, 3) := by decide +kernel
theorem dX9_number_13 : decode bX9_number.2.1 13 = .ok (.invokestatic 29, 3) := by decide +kernel
theorem dX9_number_16 : decode bX9_number.2.1 16 = .ok (.ifCond .eq 32, 3) := by decide +kernel
theorem dX9_number_19 : decode bX9_number.2.1 19 = .ok (.iload_n 2, 1) := by decide +kernel
theorem dX9_number_20 : decode bX9_number.2.1 20 = .ok (.bipush 10, 2) := by decide +kernel
theorem dX9_number_22 : decode bX9_number.2.1 22 = .ok (.imul, 1) := by decide +kernel
theorem dX9_number_23 : decode bX9_number.2.1 23 = .ok (.aload_n 0, 1) := by decide +kernel
theorem dX9_number_24 : decode bX9_number.2.1 24 = .ok (.invokevirtual 22, 3) := by decide +kernel
theorem dX9_number_27 : decode bX9_number.2.1 27 = .ok (.iadd, 1) := by decide +kernel
theorem dX9_number_28 : decode bX9_number.2.1 28 = .ok (.bipush 48, 2) := by decide +kernel
theorem dX9_number_30 : decode bX9_number.2.1 30 = .ok (.isub, 1) := by decide +kernel
theorem dX9_number_31 : decode bX9_number.2.1 31 = .ok (.istore_n 2, 1) := by decide +kernel
theorem dX9_number_32 : decode bX9_number.2.1 32 = .ok (.iinc 3 1, 3) := by decide +kernel
theorem dX9_number_35 : decode bX9_number.2.1 35 = .ok (.aload_n 0, 1) := by decide +kernel
theorem dX9_number_36 : decode bX9_number.2.1 36 = .ok (.dup, 1) := by decide +kernel
theorem dX9_number_37 : decode bX9_number.2.1 37 = .ok (.getfield 19, 3) := by decide +kernel
theorem dX9_number_40 : decode bX9_number.2.1 40 = .ok (.iconst 1, 1) := by decide +kernel
theorem dX9_number_41 : decode bX9_number.2.1 41 = .ok (.iadd, 1) := by decide +kernel
theorem dX9_number_42 : decode bX9_number.2.1 42 = .ok (.putfield 19, 3) := by decide +kernel
theorem dX9_number_45 : decode bX9_number.2.1 45 = .ok (.goto (-41), 3) := by decide +kernel
theorem dX9_number_48 : decode bX9_number.2.1 48 = .ok (.iload_n 3, 1) := by decide +kernel
theorem dX9_number_49 : decode bX9_number.2.1 49 = .ok (.ifCond .eq 13, 3) := by decide +kernel
theorem dX9_number_52 : decode bX9_number.2.1 52 = .ok (.aload_n 0, 1) := by decide +kernel
theorem dX9_number_53 : decode bX9_number.2.1 53 = .ok (.invokevirtual 22, 3) := by decide +kernel
theorem dX9_number_56 : decode bX9_number.2.1 56 = .ok (.invokestatic 29, 3) := by decide +kernel
theorem dX9_number_59 : decode bX9_number.2.1 59 = .ok (.ifCond .eq 7, 3) := by decide +kernel
theorem dX9_number_62 : decode bX9_number.2.1 62 = .ok (.iconst (-1), 1) := by decide +kernel
theorem dX9_number_63 : decode bX9_number.2.1 63 = .ok (.goto 4, 3) := by decide +kernel
theorem dX9_number_66 : decode bX9_number.2.1 66 = .ok (.iload_n 2, 1) := by decide +kernel
theorem dX9_number_67 : decode bX9_number.2.1 67 = .ok (.ireturn, 1) := by decide +kernel
theorem dX9_refuseNumber_0 : decode bX9_refuseNumber.2.1 0 = .ok (.aload_n 0, 1) := by decide +kernel
theorem dX9_refuseNumber_1 : decode bX9_refuseNumber.2.1 1 = .ok (.dup, 1) := by decide +kernel
theorem dX9_refuseNumber_2 : decode bX9_refuseNumber.2.1 2 = .ok (.getfield 19, 3) := by decide +kernel
theorem dX9_refuseNumber_5 : decode bX9_refuseNumber.2.1 5 = .ok (.iconst 1, 1) := by decide +kernel
theorem dX9_refuseNumber_6 : decode bX9_refuseNumber.2.1 6 = .ok (.isub, 1) := by decide +kernel
theorem dX9_refuseNumber_7 : decode bX9_refuseNumber.2.1 7 = .ok (.putfield 19, 3) := by decide +kernel
theorem dX9_refuseNumber_10 : decode bX9_refuseNumber.2.1 10 = .ok (.iconst 0, 1) := by decide +kernel
theorem dX9_refuseNumber_11 : decode bX9_refuseNumber.2.1 11 = .ok (.ireturn, 1) := by decide +kernel
