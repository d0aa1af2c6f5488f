theorem dX0_init_0 : decode cX0_init 0 = .ok (.aload_n 0, 1) := by decide +kernel
theorem dX0_init_1 : decode cX0_init 1 = .ok (.invokespecial 3, 3) := by decide +kernel
theorem dX0_init_4 : decode cX0_init 4 = .ok (.aload_n 0, 1) := by decide +kernel
theorem dX0_init_5 : decode cX0_init 5 = .ok (.iconst 5, 1) := by decide +kernel
theorem dX0_init_6 : decode cX0_init 6 = .ok (.newarray .int, 2) := by decide +kernel
theorem dX0_init_8 : decode cX0_init 8 = .ok (.putfield 9, 3) := by decide +kernel
theorem dX0_init_11 : decode cX0_init 11 = .ok (.aload_n 0, 1) := by decide +kernel
theorem dX0_init_12 : decode cX0_init 12 = .ok (.iconst 0, 1) := by decide +kernel
theorem dX0_init_13 : decode cX0_init 13 = .ok (.putfield 15, 3) := by decide +kernel
theorem dX0_init_16 : decode cX0_init 16 = .ok (.aload_n 0, 1) := by decide +kernel
theorem dX0_init_17 : decode cX0_init 17 = .ok (.iconst 0, 1) := by decide +kernel
theorem dX0_init_18 : decode cX0_init 18 = .ok (.putfield 19, 3) := by decide +kernel
theorem dX0_init_21 : decode cX0_init 21 = .ok (.return_, 1) := by decide +kernel
theorem dX0_begin_0 : decode cX0_begin 0 = .ok (.aload_n 0, 1) := by decide +kernel
theorem dX0_begin_1 : decode cX0_begin 1 = .ok (.iconst 0, 1) := by decide +kernel
theorem dX0_begin_2 : decode cX0_begin 2 = .ok (.putfield 15, 3) := by decide +kernel
theorem dX0_begin_5 : decode cX0_begin 5 = .ok (.iconst 0, 1) := by decide +kernel
theorem dX0_begin_6 : decode cX0_begin 6 = .ok (.istore_n 2, 1) := by decide +kernel
theorem dX0_begin_7 : decode cX0_begin 7 = .ok (.iload_n 2, 1) := by decide +kernel
theorem dX0_begin_8 : decode cX0_begin 8 = .ok (.bipush 16, 2) := by decide +kernel
theorem dX0_begin_10 : decode cX0_begin 10 = .ok (.if_icmp .ge 45, 3) := by decide +kernel
theorem dX0_begin_13 : decode cX0_begin 13 = .ok (.aload_n 0, 1) := by decide +kernel
theorem dX0_begin_14 : decode cX0_begin 14 = .ok (.getfield 15, 3) := by decide +kernel
theorem dX0_begin_17 : decode cX0_begin 17 = .ok (.iconst 5, 1) := by decide +kernel
theorem dX0_begin_18 : decode cX0_begin 18 = .ok (.if_icmp .ge 37, 3) := by decide +kernel
theorem dX0_begin_21 : decode cX0_begin 21 = .ok (.iload_n 2, 1) := by decide +kernel
theorem dX0_begin_22 : decode cX0_begin 22 = .ok (.iload_n 1, 1) := by decide +kernel
theorem dX0_begin_23 : decode cX0_begin 23 = .ok (.invokestatic 22, 3) := by decide +kernel
theorem dX0_begin_26 : decode cX0_begin 26 = .ok (.ifCond .eq 23, 3) := by decide +kernel
theorem dX0_begin_29 : decode cX0_begin 29 = .ok (.aload_n 0, 1) := by decide +kernel
theorem dX0_begin_30 : decode cX0_begin 30 = .ok (.getfield 9, 3) := by decide +kernel
theorem dX0_begin_33 : decode cX0_begin 33 = .ok (.aload_n 0, 1) := by decide +kernel
theorem dX0_begin_34 : decode cX0_begin 34 = .ok (.getfield 15, 3) := by decide +kernel
theorem dX0_begin_37 : decode cX0_begin 37 = .ok (.iload_n 2, 1) := by decide +kernel
theorem dX0_begin_38 : decode cX0_begin 38 = .ok (.iastore, 1) := by decide +kernel
theorem dX0_begin_39 : decode cX0_begin 39 = .ok (.aload_n 0, 1) := by decide +kernel
theorem dX0_begin_40 : decode cX0_begin 40 = .ok (.dup, 1) := by decide +kernel
theorem dX0_begin_41 : decode cX0_begin 41 = .ok (.getfield 15, 3) := by decide +kernel
theorem dX0_begin_44 : decode cX0_begin 44 = .ok (.iconst 1, 1) := by decide +kernel
theorem dX0_begin_45 : decode cX0_begin 45 = .ok (.iadd, 1) := by decide +kernel
theorem dX0_begin_46 : decode cX0_begin 46 = .ok (.putfield 15, 3) := by decide +kernel
theorem dX0_begin_49 : decode cX0_begin 49 = .ok (.iinc 2 1, 3) := by decide +kernel
theorem dX0_begin_52 : decode cX0_begin 52 = .ok (.goto (-45), 3) := by decide +kernel
theorem dX0_begin_55 : decode cX0_begin 55 = .ok (.aload_n 0, 1) := by decide +kernel
theorem dX0_begin_56 : decode cX0_begin 56 = .ok (.iconst 1, 1) := by decide +kernel
theorem dX0_begin_57 : decode cX0_begin 57 = .ok (.aload_n 0, 1) := by decide +kernel
theorem dX0_begin_58 : decode cX0_begin 58 = .ok (.getfield 15, 3) := by decide +kernel
theorem dX0_begin_61 : decode cX0_begin 61 = .ok (.iconst 1, 1) := by decide +kernel
theorem dX0_begin_62 : decode cX0_begin 62 = .ok (.aload_n 0, 1) := by decide +kernel
theorem dX0_begin_63 : decode cX0_begin 63 = .ok (.getfield 15, 3) := by decide +kernel
theorem dX0_begin_66 : decode cX0_begin 66 = .ok (.iconst 1, 1) := by decide +kernel
theorem dX0_begin_67 : decode cX0_begin 67 = .ok (.aload_n 0, 1) := by decide +kernel
theorem dX0_begin_68 : decode cX0_begin 68 = .ok (.getfield 15, 3) := by decide +kernel
theorem dX0_begin_71 : decode cX0_begin 71 = .ok (.iadd, 1) := by decide +kernel
theorem dX0_begin_72 : decode cX0_begin 72 = .ok (.imul, 1) := by decide +kernel
theorem dX0_begin_73 : decode cX0_begin 73 = .ok (.iadd, 1) := by decide +kernel
theorem dX0_begin_74 : decode cX0_begin 74 = .ok (.imul, 1) := by decide +kernel
theorem dX0_begin_75 : decode cX0_begin 75 = .ok (.iadd, 1) := by decide +kernel
theorem dX0_begin_76 : decode cX0_begin 76 = .ok (.putfield 19, 3) := by decide +kernel
theorem dX0_begin_79 : decode cX0_begin 79 = .ok (.return_, 1) := by decide +kernel
theorem dX0_writeTo_0 : decode cX0_writeTo 0 = .ok (.aload_n 1, 1) := by decide +kernel
theorem dX0_writeTo_1 : decode cX0_writeTo 1 = .ok (.invokevirtual 26, 3) := by decide +kernel
theorem dX0_writeTo_4 : decode cX0_writeTo 4 = .ok (.aload_n 0, 1) := by decide +kernel
theorem dX0_writeTo_5 : decode cX0_writeTo 5 = .ok (.getfield 15, 3) := by decide +kernel
theorem dX0_writeTo_8 : decode cX0_writeTo 8 = .ok (.iconst 1, 1) := by decide +kernel
theorem dX0_writeTo_9 : decode cX0_writeTo 9 = .ok (.if_icmp .ge 4, 3) := by decide +kernel
theorem dX0_writeTo_12 : decode cX0_writeTo 12 = .ok (.return_, 1) := by decide +kernel
theorem dX0_writeTo_13 : decode cX0_writeTo 13 = .ok (.iload_n 2, 1) := by decide +kernel
theorem dX0_writeTo_14 : decode cX0_writeTo 14 = .ok (.istore_n 3, 1) := by decide +kernel
theorem dX0_writeTo_15 : decode cX0_writeTo 15 = .ok (.iconst 1, 1) := by decide +kernel
theorem dX0_writeTo_16 : decode cX0_writeTo 16 = .ok (.istore 4, 2) := by decide +kernel
theorem dX0_writeTo_18 : decode cX0_writeTo 18 = .ok (.aload_n 1, 1) := by decide +kernel
theorem dX0_writeTo_19 : decode cX0_writeTo 19 = .ok (.getfield 31, 3) := by decide +kernel
theorem dX0_writeTo_22 : decode cX0_writeTo 22 = .ok (.iconst 3, 1) := by decide +kernel
theorem dX0_writeTo_23 : decode cX0_writeTo 23 = .ok (.if_icmp .ge 36, 3) := by decide +kernel
theorem dX0_writeTo_26 : decode cX0_writeTo 26 = .ok (.iload_n 3, 1) := by decide +kernel
theorem dX0_writeTo_27 : decode cX0_writeTo 27 = .ok (.iload 4, 2) := by decide +kernel
theorem dX0_writeTo_29 : decode cX0_writeTo 29 = .ok (.if_icmp .lt 30, 3) := by decide +kernel
theorem dX0_writeTo_32 : decode cX0_writeTo 32 = .ok (.iload_n 3, 1) := by decide +kernel
theorem dX0_writeTo_33 : decode cX0_writeTo 33 = .ok (.iload 4, 2) := by decide +kernel
theorem dX0_writeTo_35 : decode cX0_writeTo 35 = .ok (.isub, 1) := by decide +kernel
theorem dX0_writeTo_36 : decode cX0_writeTo 36 = .ok (.istore_n 3, 1) := by decide +kernel
theorem dX0_writeTo_37 : decode cX0_writeTo 37 = .ok (.iload 4, 2) := by decide +kernel
theorem dX0_writeTo_39 : decode cX0_writeTo 39 = .ok (.aload_n 0, 1) := by decide +kernel
theorem dX0_writeTo_40 : decode cX0_writeTo 40 = .ok (.getfield 15, 3) := by decide +kernel
theorem dX0_writeTo_43 : decode cX0_writeTo 43 = .ok (.imul, 1) := by decide +kernel
theorem dX0_writeTo_44 : decode cX0_writeTo 44 = .ok (.istore 4, 2) := by decide +kernel
theorem dX0_writeTo_46 : decode cX0_writeTo 46 = .ok (.aload_n 1, 1) := by decide +kernel
theorem dX0_writeTo_47 : decode cX0_writeTo 47 = .ok (.dup, 1) := by decide +kernel
theorem dX0_writeTo_48 : decode cX0_writeTo 48 = .ok (.getfield 31, 3) := by decide +kernel
theorem dX0_writeTo_51 : decode cX0_writeTo 51 = .ok (.iconst 1, 1) := by decide +kernel
theorem dX0_writeTo_52 : decode cX0_writeTo 52 = .ok (.iadd, 1) := by decide +kernel
theorem dX0_writeTo_53 : decode cX0_writeTo 53 = .ok (.putfield 31, 3) := by decide +kernel
theorem dX0_writeTo_56 : decode cX0_writeTo 56 = .ok (.goto (-38), 3) := by decide +kernel
theorem dX0_writeTo_59 : decode cX0_writeTo 59 = .ok (.aload_n 1, 1) := by decide +kernel
theorem dX0_writeTo_60 : decode cX0_writeTo 60 = .ok (.getfield 31, 3) := by decide +kernel
theorem dX0_writeTo_63 : decode cX0_writeTo 63 = .ok (.iconst 1, 1) := by decide +kernel
theorem dX0_writeTo_64 : decode cX0_writeTo 64 = .ok (.isub, 1) := by decide +kernel
theorem dX0_writeTo_65 : decode cX0_writeTo 65 = .ok (.istore 5, 2) := by decide +kernel
theorem dX0_writeTo_67 : decode cX0_writeTo 67 = .ok (.iload 5, 2) := by decide +kernel
theorem dX0_writeTo_69 : decode cX0_writeTo 69 = .ok (.ifCond .lt 34, 3) := by decide +kernel
theorem dX0_writeTo_72 : decode cX0_writeTo 72 = .ok (.aload_n 1, 1) := by decide +kernel
theorem dX0_writeTo_73 : decode cX0_writeTo 73 = .ok (.getfield 34, 3) := by decide +kernel
theorem dX0_writeTo_76 : decode cX0_writeTo 76 = .ok (.iload 5, 2) := by decide +kernel
theorem dX0_writeTo_78 : decode cX0_writeTo 78 = .ok (.aload_n 0, 1) := by decide +kernel
theorem dX0_writeTo_79 : decode cX0_writeTo 79 = .ok (.getfield 9, 3) := by decide +kernel
theorem dX0_writeTo_82 : decode cX0_writeTo 82 = .ok (.iload_n 3, 1) := by decide +kernel
theorem dX0_writeTo_83 : decode cX0_writeTo 83 = .ok (.aload_n 0, 1) := by decide +kernel
theorem dX0_writeTo_84 : decode cX0_writeTo 84 = .ok (.getfield 15, 3) := by decide +kernel
theorem dX0_writeTo_87 : decode cX0_writeTo 87 = .ok (.irem, 1) := by decide +kernel
theorem dX0_writeTo_88 : decode cX0_writeTo 88 = .ok (.iaload, 1) := by decide +kernel
theorem dX0_writeTo_89 : decode cX0_writeTo 89 = .ok (.iastore, 1) := by decide +kernel
theorem dX0_writeTo_90 : decode cX0_writeTo 90 = .ok (.iload_n 3, 1) := by decide +kernel
theorem dX0_writeTo_91 : decode cX0_writeTo 91 = .ok (.aload_n 0, 1) := by decide +kernel
theorem dX0_writeTo_92 : decode cX0_writeTo 92 = .ok (.getfield 15, 3) := by decide +kernel
theorem dX0_writeTo_95 : decode cX0_writeTo 95 = .ok (.idiv, 1) := by decide +kernel
theorem dX0_writeTo_96 : decode cX0_writeTo 96 = .ok (.istore_n 3, 1) := by decide +kernel
theorem dX0_writeTo_97 : decode cX0_writeTo 97 = .ok (.iinc 5 (-1), 3) := by decide +kernel
theorem dX0_writeTo_100 : decode cX0_writeTo 100 = .ok (.goto (-33), 3) := by decide +kernel
theorem dX0_writeTo_103 : decode cX0_writeTo 103 = .ok (.return_, 1) := by decide +kernel
theorem dX1_init_0 : decode cX1_init 0 = .ok (.aload_n 0, 1) := by decide +kernel
theorem dX1_init_1 : decode cX1_init 1 = .ok (.invokespecial 3, 3) := by decide +kernel
theorem dX1_init_4 : decode cX1_init 4 = .ok (.aload_n 0, 1) := by decide +kernel
theorem dX1_init_5 : decode cX1_init 5 = .ok (.bipush 30, 2) := by decide +kernel
theorem dX1_init_7 : decode cX1_init 7 = .ok (.newarray .int, 2) := by decide +kernel
theorem dX1_init_9 : decode cX1_init 9 = .ok (.putfield 9, 3) := by decide +kernel
theorem dX1_init_12 : decode cX1_init 12 = .ok (.aload_n 0, 1) := by decide +kernel
theorem dX1_init_13 : decode cX1_init 13 = .ok (.bipush 10, 2) := by decide +kernel
theorem dX1_init_15 : decode cX1_init 15 = .ok (.newarray .int, 2) := by decide +kernel
theorem dX1_init_17 : decode cX1_init 17 = .ok (.putfield 15, 3) := by decide +kernel
theorem dX1_init_20 : decode cX1_init 20 = .ok (.aload_n 0, 1) := by decide +kernel
theorem dX1_init_21 : decode cX1_init 21 = .ok (.bipush 10, 2) := by decide +kernel
theorem dX1_init_23 : decode cX1_init 23 = .ok (.newarray .int, 2) := by decide +kernel
theorem dX1_init_25 : decode cX1_init 25 = .ok (.putfield 18, 3) := by decide +kernel
theorem dX1_init_28 : decode cX1_init 28 = .ok (.aload_n 0, 1) := by decide +kernel
theorem dX1_init_29 : decode cX1_init 29 = .ok (.iconst 0, 1) := by decide +kernel
theorem dX1_init_30 : decode cX1_init 30 = .ok (.putfield 21, 3) := by decide +kernel
theorem dX1_init_33 : decode cX1_init 33 = .ok (.return_, 1) := by decide +kernel
theorem dX1_addEntry_0 : decode cX1_addEntry 0 = .ok (.aload_n 0, 1) := by decide +kernel
theorem dX1_addEntry_1 : decode cX1_addEntry 1 = .ok (.getfield 21, 3) := by decide +kernel
theorem dX1_addEntry_4 : decode cX1_addEntry 4 = .ok (.bipush 10, 2) := by decide +kernel
theorem dX1_addEntry_6 : decode cX1_addEntry 6 = .ok (.if_icmp .lt 6, 3) := by decide +kernel
theorem dX1_addEntry_9 : decode cX1_addEntry 9 = .ok (.bipush (-4), 2) := by decide +kernel
theorem dX1_addEntry_11 : decode cX1_addEntry 11 = .ok (.ireturn, 1) := by decide +kernel
theorem dX1_addEntry_12 : decode cX1_addEntry 12 = .ok (.aload_n 2, 1) := by decide +kernel
theorem dX1_addEntry_13 : decode cX1_addEntry 13 = .ok (.iconst 0, 1) := by decide +kernel
theorem dX1_addEntry_14 : decode cX1_addEntry 14 = .ok (.aload_n 0, 1) := by decide +kernel
theorem dX1_addEntry_15 : decode cX1_addEntry 15 = .ok (.getfield 9, 3) := by decide +kernel
theorem dX1_addEntry_18 : decode cX1_addEntry 18 = .ok (.aload_n 0, 1) := by decide +kernel
theorem dX1_addEntry_19 : decode cX1_addEntry 19 = .ok (.getfield 21, 3) := by decide +kernel
theorem dX1_addEntry_22 : decode cX1_addEntry 22 = .ok (.iconst 3, 1) := by decide +kernel
theorem dX1_addEntry_23 : decode cX1_addEntry 23 = .ok (.imul, 1) := by decide +kernel
theorem dX1_addEntry_24 : decode cX1_addEntry 24 = .ok (.iload_n 3, 1) := by decide +kernel
theorem dX1_addEntry_25 : decode cX1_addEntry 25 = .ok (.invokestatic 25, 3) := by decide +kernel
theorem dX1_addEntry_28 : decode cX1_addEntry 28 = .ok (.aload_n 0, 1) := by decide +kernel
theorem dX1_addEntry_29 : decode cX1_addEntry 29 = .ok (.getfield 15, 3) := by decide +kernel
theorem dX1_addEntry_32 : decode cX1_addEntry 32 = .ok (.aload_n 0, 1) := by decide +kernel
theorem dX1_addEntry_33 : decode cX1_addEntry 33 = .ok (.getfield 21, 3) := by decide +kernel
theorem dX1_addEntry_36 : decode cX1_addEntry 36 = .ok (.iload_n 3, 1) := by decide +kernel
theorem dX1_addEntry_37 : decode cX1_addEntry 37 = .ok (.iastore, 1) := by decide +kernel
theorem dX1_addEntry_38 : decode cX1_addEntry 38 = .ok (.aload_n 0, 1) := by decide +kernel
theorem dX1_addEntry_39 : decode cX1_addEntry 39 = .ok (.getfield 18, 3) := by decide +kernel
theorem dX1_addEntry_42 : decode cX1_addEntry 42 = .ok (.aload_n 0, 1) := by decide +kernel
theorem dX1_addEntry_43 : decode cX1_addEntry 43 = .ok (.getfield 21, 3) := by decide +kernel
theorem dX1_addEntry_46 : decode cX1_addEntry 46 = .ok (.iload_n 1, 1) := by decide +kernel
theorem dX1_addEntry_47 : decode cX1_addEntry 47 = .ok (.iastore, 1) := by decide +kernel
theorem dX1_addEntry_48 : decode cX1_addEntry 48 = .ok (.aload_n 0, 1) := by decide +kernel
theorem dX1_addEntry_49 : decode cX1_addEntry 49 = .ok (.dup, 1) := by decide +kernel
theorem dX1_addEntry_50 : decode cX1_addEntry 50 = .ok (.getfield 21, 3) := by decide +kernel
theorem dX1_addEntry_53 : decode cX1_addEntry 53 = .ok (.iconst 1, 1) := by decide +kernel
theorem dX1_addEntry_54 : decode cX1_addEntry 54 = .ok (.iadd, 1) := by decide +kernel
theorem dX1_addEntry_55 : decode cX1_addEntry 55 = .ok (.putfield 21, 3) := by decide +kernel
theorem dX1_addEntry_58 : decode cX1_addEntry 58 = .ok (.aload_n 0, 1) := by decide +kernel
theorem dX1_addEntry_59 : decode cX1_addEntry 59 = .ok (.getfield 21, 3) := by decide +kernel
theorem dX1_addEntry_62 : decode cX1_addEntry 62 = .ok (.ireturn, 1) := by decide +kernel
theorem dX1_readInto_0 : decode cX1_readInto 0 = .ok (.aload_n 1, 1) := by decide +kernel
theorem dX1_readInto_1 : decode cX1_readInto 1 = .ok (.invokevirtual 31, 3) := by decide +kernel
theorem dX1_readInto_4 : decode cX1_readInto 4 = .ok (.iconst 0, 1) := by decide +kernel
theorem dX1_readInto_5 : decode cX1_readInto 5 = .ok (.istore 4, 2) := by decide +kernel
theorem dX1_readInto_7 : decode cX1_readInto 7 = .ok (.iconst 0, 1) := by decide +kernel
theorem dX1_readInto_8 : decode cX1_readInto 8 = .ok (.istore 5, 2) := by decide +kernel
theorem dX1_readInto_10 : decode cX1_readInto 10 = .ok (.iload 5, 2) := by decide +kernel
theorem dX1_readInto_12 : decode cX1_readInto 12 = .ok (.bipush 8, 2) := by decide +kernel
theorem dX1_readInto_14 : decode cX1_readInto 14 = .ok (.if_icmp .gt 65, 3) := by decide +kernel
theorem dX1_readInto_17 : decode cX1_readInto 17 = .ok (.iload 4, 2) := by decide +kernel
theorem dX1_readInto_19 : decode cX1_readInto 19 = .ok (.iload_n 3, 1) := by decide +kernel
theorem dX1_readInto_20 : decode cX1_readInto 20 = .ok (.if_icmp .ge 59, 3) := by decide +kernel
theorem dX1_readInto_23 : decode cX1_readInto 23 = .ok (.aload_n 0, 1) := by decide +kernel
theorem dX1_readInto_24 : decode cX1_readInto 24 = .ok (.aload_n 2, 1) := by decide +kernel
theorem dX1_readInto_25 : decode cX1_readInto 25 = .ok (.iload 4, 2) := by decide +kernel
theorem dX1_readInto_27 : decode cX1_readInto 27 = .ok (.iload_n 3, 1) := by decide +kernel
theorem dX1_readInto_28 : decode cX1_readInto 28 = .ok (.invokevirtual 36, 3) := by decide +kernel
theorem dX1_readInto_31 : decode cX1_readInto 31 = .ok (.istore 6, 2) := by decide +kernel
theorem dX1_readInto_33 : decode cX1_readInto 33 = .ok (.iload 6, 2) := by decide +kernel
theorem dX1_readInto_35 : decode cX1_readInto 35 = .ok (.bipush (-9), 2) := by decide +kernel
theorem dX1_readInto_37 : decode cX1_readInto 37 = .ok (.if_icmp .eq 10, 3) := by decide +kernel
theorem dX1_readInto_40 : decode cX1_readInto 40 = .ok (.iload 5, 2) := by decide +kernel
theorem dX1_readInto_42 : decode cX1_readInto 42 = .ok (.bipush 8, 2) := by decide +kernel
theorem dX1_readInto_44 : decode cX1_readInto 44 = .ok (.if_icmp .ne 6, 3) := by decide +kernel
theorem dX1_readInto_47 : decode cX1_readInto 47 = .ok (.iload 4, 2) := by decide +kernel
theorem dX1_readInto_49 : decode cX1_readInto 49 = .ok (.ireturn, 1) := by decide +kernel
theorem dX1_readInto_50 : decode cX1_readInto 50 = .ok (.aload_n 1, 1) := by decide +kernel
theorem dX1_readInto_51 : decode cX1_readInto 51 = .ok (.aload_n 0, 1) := by decide +kernel
theorem dX1_readInto_52 : decode cX1_readInto 52 = .ok (.getfield 18, 3) := by decide +kernel
theorem dX1_readInto_55 : decode cX1_readInto 55 = .ok (.iload 6, 2) := by decide +kernel
theorem dX1_readInto_57 : decode cX1_readInto 57 = .ok (.iaload, 1) := by decide +kernel
theorem dX1_readInto_58 : decode cX1_readInto 58 = .ok (.invokevirtual 40, 3) := by decide +kernel
theorem dX1_readInto_61 : decode cX1_readInto 61 = .ok (.iload 4, 2) := by decide +kernel
theorem dX1_readInto_63 : decode cX1_readInto 63 = .ok (.aload_n 0, 1) := by decide +kernel
theorem dX1_readInto_64 : decode cX1_readInto 64 = .ok (.getfield 15, 3) := by decide +kernel
theorem dX1_readInto_67 : decode cX1_readInto 67 = .ok (.iload 6, 2) := by decide +kernel
theorem dX1_readInto_69 : decode cX1_readInto 69 = .ok (.iaload, 1) := by decide +kernel
theorem dX1_readInto_70 : decode cX1_readInto 70 = .ok (.iadd, 1) := by decide +kernel
theorem dX1_readInto_71 : decode cX1_readInto 71 = .ok (.istore 4, 2) := by decide +kernel
theorem dX1_readInto_73 : decode cX1_readInto 73 = .ok (.iinc 5 1, 3) := by decide +kernel
theorem dX1_readInto_76 : decode cX1_readInto 76 = .ok (.goto (-66), 3) := by decide +kernel
theorem dX1_readInto_79 : decode cX1_readInto 79 = .ok (.bipush (-9), 2) := by decide +kernel
theorem dX1_readInto_81 : decode cX1_readInto 81 = .ok (.ireturn, 1) := by decide +kernel
theorem dX1_longestAt_0 : decode cX1_longestAt 0 = .ok (.bipush (-9), 2) := by decide +kernel
theorem dX1_longestAt_2 : decode cX1_longestAt 2 = .ok (.istore 4, 2) := by decide +kernel
theorem dX1_longestAt_4 : decode cX1_longestAt 4 = .ok (.iconst 0, 1) := by decide +kernel
theorem dX1_longestAt_5 : decode cX1_longestAt 5 = .ok (.istore 5, 2) := by decide +kernel
theorem dX1_longestAt_7 : decode cX1_longestAt 7 = .ok (.iload 5, 2) := by decide +kernel
theorem dX1_longestAt_9 : decode cX1_longestAt 9 = .ok (.aload_n 0, 1) := by decide +kernel
theorem dX1_longestAt_10 : decode cX1_longestAt 10 = .ok (.getfield 21, 3) := by decide +kernel
theorem dX1_longestAt_13 : decode cX1_longestAt 13 = .ok (.if_icmp .ge 61, 3) := by decide +kernel
theorem dX1_longestAt_16 : decode cX1_longestAt 16 = .ok (.iload 4, 2) := by decide +kernel
theorem dX1_longestAt_18 : decode cX1_longestAt 18 = .ok (.bipush (-9), 2) := by decide +kernel
theorem dX1_longestAt_20 : decode cX1_longestAt 20 = .ok (.if_icmp .eq 20, 3) := by decide +kernel
theorem dX1_longestAt_23 : decode cX1_longestAt 23 = .ok (.aload_n 0, 1) := by decide +kernel
theorem dX1_longestAt_24 : decode cX1_longestAt 24 = .ok (.getfield 15, 3) := by decide +kernel
theorem dX1_longestAt_27 : decode cX1_longestAt 27 = .ok (.iload 5, 2) := by decide +kernel
theorem dX1_longestAt_29 : decode cX1_longestAt 29 = .ok (.iaload, 1) := by decide +kernel
theorem dX1_longestAt_30 : decode cX1_longestAt 30 = .ok (.aload_n 0, 1) := by decide +kernel
theorem dX1_longestAt_31 : decode cX1_longestAt 31 = .ok (.getfield 15, 3) := by decide +kernel
theorem dX1_longestAt_34 : decode cX1_longestAt 34 = .ok (.iload 4, 2) := by decide +kernel
theorem dX1_longestAt_36 : decode cX1_longestAt 36 = .ok (.iaload, 1) := by decide +kernel
theorem dX1_longestAt_37 : decode cX1_longestAt 37 = .ok (.if_icmp .lt 7, 3) := by decide +kernel
theorem dX1_longestAt_40 : decode cX1_longestAt 40 = .ok (.iconst 1, 1) := by decide +kernel
theorem dX1_longestAt_41 : decode cX1_longestAt 41 = .ok (.goto 4, 3) := by decide +kernel
theorem dX1_longestAt_44 : decode cX1_longestAt 44 = .ok (.iconst 0, 1) := by decide +kernel
theorem dX1_longestAt_45 : decode cX1_longestAt 45 = .ok (.istore 6, 2) := by decide +kernel
theorem dX1_longestAt_47 : decode cX1_longestAt 47 = .ok (.iload 6, 2) := by decide +kernel
theorem dX1_longestAt_49 : decode cX1_longestAt 49 = .ok (.ifCond .eq 19, 3) := by decide +kernel
theorem dX1_longestAt_52 : decode cX1_longestAt 52 = .ok (.aload_n 0, 1) := by decide +kernel
theorem dX1_longestAt_53 : decode cX1_longestAt 53 = .ok (.iload 5, 2) := by decide +kernel
theorem dX1_longestAt_55 : decode cX1_longestAt 55 = .ok (.aload_n 1, 1) := by decide +kernel
theorem dX1_longestAt_56 : decode cX1_longestAt 56 = .ok (.iload_n 2, 1) := by decide +kernel
theorem dX1_longestAt_57 : decode cX1_longestAt 57 = .ok (.iload_n 3, 1) := by decide +kernel
theorem dX1_longestAt_58 : decode cX1_longestAt 58 = .ok (.invokevirtual 44, 3) := by decide +kernel
theorem dX1_longestAt_61 : decode cX1_longestAt 61 = .ok (.ifCond .eq 7, 3) := by decide +kernel
theorem dX1_longestAt_64 : decode cX1_longestAt 64 = .ok (.iload 5, 2) := by decide +kernel
theorem dX1_longestAt_66 : decode cX1_longestAt 66 = .ok (.istore 4, 2) := by decide +kernel
theorem dX1_longestAt_68 : decode cX1_longestAt 68 = .ok (.iinc 5 1, 3) := by decide +kernel
theorem dX1_longestAt_71 : decode cX1_longestAt 71 = .ok (.goto (-64), 3) := by decide +kernel
theorem dX1_longestAt_74 : decode cX1_longestAt 74 = .ok (.iload 4, 2) := by decide +kernel
theorem dX1_longestAt_76 : decode cX1_longestAt 76 = .ok (.ireturn, 1) := by decide +kernel
theorem dX1_stands_0 : decode cX1_stands 0 = .ok (.aload_n 0, 1) := by decide +kernel
theorem dX1_stands_1 : decode cX1_stands 1 = .ok (.getfield 15, 3) := by decide +kernel
theorem dX1_stands_4 : decode cX1_stands 4 = .ok (.iload_n 1, 1) := by decide +kernel
theorem dX1_stands_5 : decode cX1_stands 5 = .ok (.iaload, 1) := by decide +kernel
theorem dX1_stands_6 : decode cX1_stands 6 = .ok (.iload 4, 2) := by decide +kernel
theorem dX1_stands_8 : decode cX1_stands 8 = .ok (.iload_n 3, 1) := by decide +kernel
theorem dX1_stands_9 : decode cX1_stands 9 = .ok (.isub, 1) := by decide +kernel
theorem dX1_stands_10 : decode cX1_stands 10 = .ok (.if_icmp .le 5, 3) := by decide +kernel
theorem dX1_stands_13 : decode cX1_stands 13 = .ok (.iconst 0, 1) := by decide +kernel
theorem dX1_stands_14 : decode cX1_stands 14 = .ok (.ireturn, 1) := by decide +kernel
theorem dX1_stands_15 : decode cX1_stands 15 = .ok (.iconst 0, 1) := by decide +kernel
theorem dX1_stands_16 : decode cX1_stands 16 = .ok (.istore 5, 2) := by decide +kernel
theorem dX1_stands_18 : decode cX1_stands 18 = .ok (.iload 5, 2) := by decide +kernel
theorem dX1_stands_20 : decode cX1_stands 20 = .ok (.aload_n 0, 1) := by decide +kernel
theorem dX1_stands_21 : decode cX1_stands 21 = .ok (.getfield 15, 3) := by decide +kernel
theorem dX1_stands_24 : decode cX1_stands 24 = .ok (.iload_n 1, 1) := by decide +kernel
theorem dX1_stands_25 : decode cX1_stands 25 = .ok (.iaload, 1) := by decide +kernel
theorem dX1_stands_26 : decode cX1_stands 26 = .ok (.if_icmp .ge 31, 3) := by decide +kernel
theorem dX1_stands_29 : decode cX1_stands 29 = .ok (.aload_n 2, 1) := by decide +kernel
theorem dX1_stands_30 : decode cX1_stands 30 = .ok (.iload_n 3, 1) := by decide +kernel
theorem dX1_stands_31 : decode cX1_stands 31 = .ok (.iload 5, 2) := by decide +kernel
theorem dX1_stands_33 : decode cX1_stands 33 = .ok (.iadd, 1) := by decide +kernel
theorem dX1_stands_34 : decode cX1_stands 34 = .ok (.iaload, 1) := by decide +kernel
theorem dX1_stands_35 : decode cX1_stands 35 = .ok (.aload_n 0, 1) := by decide +kernel
theorem dX1_stands_36 : decode cX1_stands 36 = .ok (.getfield 9, 3) := by decide +kernel
theorem dX1_stands_39 : decode cX1_stands 39 = .ok (.iload_n 1, 1) := by decide +kernel
theorem dX1_stands_40 : decode cX1_stands 40 = .ok (.iconst 3, 1) := by decide +kernel
theorem dX1_stands_41 : decode cX1_stands 41 = .ok (.imul, 1) := by decide +kernel
theorem dX1_stands_42 : decode cX1_stands 42 = .ok (.iload 5, 2) := by decide +kernel
theorem dX1_stands_44 : decode cX1_stands 44 = .ok (.iadd, 1) := by decide +kernel
theorem dX1_stands_45 : decode cX1_stands 45 = .ok (.iaload, 1) := by decide +kernel
theorem dX1_stands_46 : decode cX1_stands 46 = .ok (.if_icmp .eq 5, 3) := by decide +kernel
theorem dX1_stands_49 : decode cX1_stands 49 = .ok (.iconst 0, 1) := by decide +kernel
theorem dX1_stands_50 : decode cX1_stands 50 = .ok (.ireturn, 1) := by decide +kernel
theorem dX1_stands_51 : decode cX1_stands 51 = .ok (.iinc 5 1, 3) := by decide +kernel
theorem dX1_stands_54 : decode cX1_stands 54 = .ok (.goto (-36), 3) := by decide +kernel
theorem dX1_stands_57 : decode cX1_stands 57 = .ok (.iconst 1, 1) := by decide +kernel
theorem dX1_stands_58 : decode cX1_stands 58 = .ok (.ireturn, 1) := by decide +kernel
theorem dX2_init_0 : decode cX2_init 0 = .ok (.aload_n 0, 1) := by decide +kernel
theorem dX2_init_1 : decode cX2_init 1 = .ok (.invokespecial 3, 3) := by decide +kernel
theorem dX2_init_4 : decode cX2_init 4 = .ok (.aload_n 0, 1) := by decide +kernel
theorem dX2_init_5 : decode cX2_init 5 = .ok (.new 9, 3) := by decide +kernel
theorem dX2_init_8 : decode cX2_init 8 = .ok (.dup, 1) := by decide +kernel
theorem dX2_init_9 : decode cX2_init 9 = .ok (.invokespecial 11, 3) := by decide +kernel
theorem dX2_init_12 : decode cX2_init 12 = .ok (.putfield 12, 3) := by decide +kernel
theorem dX2_init_15 : decode cX2_init 15 = .ok (.aload_n 0, 1) := by decide +kernel
theorem dX2_init_16 : decode cX2_init 16 = .ok (.iconst 0, 1) := by decide +kernel
theorem dX2_init_17 : decode cX2_init 17 = .ok (.putfield 18, 3) := by decide +kernel
theorem dX2_init_20 : decode cX2_init 20 = .ok (.aload_n 0, 1) := by decide +kernel
theorem dX2_init_21 : decode cX2_init 21 = .ok (.iconst 0, 1) := by decide +kernel
theorem dX2_init_22 : decode cX2_init 22 = .ok (.putfield 22, 3) := by decide +kernel
theorem dX2_init_25 : decode cX2_init 25 = .ok (.aload_n 0, 1) := by decide +kernel
theorem dX2_init_26 : decode cX2_init 26 = .ok (.iconst 0, 1) := by decide +kernel
theorem dX2_init_27 : decode cX2_init 27 = .ok (.putfield 25, 3) := by decide +kernel
theorem dX2_init_30 : decode cX2_init 30 = .ok (.return_, 1) := by decide +kernel
theorem dX2_become_0 : decode cX2_become 0 = .ok (.aload_n 0, 1) := by decide +kernel
theorem dX2_become_1 : decode cX2_become 1 = .ok (.iload_n 1, 1) := by decide +kernel
theorem dX2_become_2 : decode cX2_become 2 = .ok (.putfield 18, 3) := by decide +kernel
theorem dX2_become_5 : decode cX2_become 5 = .ok (.aload_n 0, 1) := by decide +kernel
theorem dX2_become_6 : decode cX2_become 6 = .ok (.iload_n 2, 1) := by decide +kernel
theorem dX2_become_7 : decode cX2_become 7 = .ok (.putfield 22, 3) := by decide +kernel
theorem dX2_become_10 : decode cX2_become 10 = .ok (.aload_n 0, 1) := by decide +kernel
theorem dX2_become_11 : decode cX2_become 11 = .ok (.iload_n 3, 1) := by decide +kernel
theorem dX2_become_12 : decode cX2_become 12 = .ok (.putfield 25, 3) := by decide +kernel
theorem dX2_become_15 : decode cX2_become 15 = .ok (.aload_n 0, 1) := by decide +kernel
theorem dX2_become_16 : decode cX2_become 16 = .ok (.getfield 12, 3) := by decide +kernel
theorem dX2_become_19 : decode cX2_become 19 = .ok (.aload 4, 2) := by decide +kernel
theorem dX2_become_21 : decode cX2_become 21 = .ok (.invokevirtual 28, 3) := by decide +kernel
theorem dX2_become_24 : decode cX2_become 24 = .ok (.return_, 1) := by decide +kernel
theorem dX3_init_0 : decode cX3_init 0 = .ok (.aload_n 0, 1) := by decide +kernel
theorem dX3_init_1 : decode cX3_init 1 = .ok (.invokespecial 5, 3) := by decide +kernel
theorem dX3_init_4 : decode cX3_init 4 = .ok (.aload_n 0, 1) := by decide +kernel
theorem dX3_init_5 : decode cX3_init 5 = .ok (.iconst 0, 1) := by decide +kernel
theorem dX3_init_6 : decode cX3_init 6 = .ok (.putfield 11, 3) := by decide +kernel
theorem dX3_init_9 : decode cX3_init 9 = .ok (.aload_n 0, 1) := by decide +kernel
theorem dX3_init_10 : decode cX3_init 10 = .ok (.bipush 29, 2) := by decide +kernel
theorem dX3_init_12 : decode cX3_init 12 = .ok (.putfield 15, 3) := by decide +kernel
theorem dX3_init_15 : decode cX3_init 15 = .ok (.aload_n 0, 1) := by decide +kernel
theorem dX3_init_16 : decode cX3_init 16 = .ok (.bipush (-2), 2) := by decide +kernel
theorem dX3_init_18 : decode cX3_init 18 = .ok (.putfield 18, 3) := by decide +kernel
theorem dX3_init_21 : decode cX3_init 21 = .ok (.aload_n 0, 1) := by decide +kernel
theorem dX3_init_22 : decode cX3_init 22 = .ok (.bipush 29, 2) := by decide +kernel
theorem dX3_init_24 : decode cX3_init 24 = .ok (.putfield 21, 3) := by decide +kernel
theorem dX3_init_27 : decode cX3_init 27 = .ok (.aload_n 0, 1) := by decide +kernel
theorem dX3_init_28 : decode cX3_init 28 = .ok (.bipush 29, 2) := by decide +kernel
theorem dX3_init_30 : decode cX3_init 30 = .ok (.putfield 24, 3) := by decide +kernel
theorem dX3_init_33 : decode cX3_init 33 = .ok (.return_, 1) := by decide +kernel
theorem dX4_init_0 : decode cX4_init 0 = .ok (.aload_n 0, 1) := by decide +kernel
theorem dX4_init_1 : decode cX4_init 1 = .ok (.invokespecial 3, 3) := by decide +kernel
theorem dX4_init_4 : decode cX4_init 4 = .ok (.aload_n 0, 1) := by decide +kernel
theorem dX4_init_5 : decode cX4_init 5 = .ok (.bipush 9, 2) := by decide +kernel
theorem dX4_init_7 : decode cX4_init 7 = .ok (.anewarray 9, 3) := by decide +kernel
theorem dX4_init_10 : decode cX4_init 10 = .ok (.putfield 11, 3) := by decide +kernel
theorem dX4_init_13 : decode cX4_init 13 = .ok (.aload_n 0, 1) := by decide +kernel
theorem dX4_init_14 : decode cX4_init 14 = .ok (.new 17, 3) := by decide +kernel
theorem dX4_init_17 : decode cX4_init 17 = .ok (.dup, 1) := by decide +kernel
theorem dX4_init_18 : decode cX4_init 18 = .ok (.invokespecial 19, 3) := by decide +kernel
theorem dX4_init_21 : decode cX4_init 21 = .ok (.putfield 20, 3) := by decide +kernel
theorem dX4_init_24 : decode cX4_init 24 = .ok (.aload_n 0, 1) := by decide +kernel
theorem dX4_init_25 : decode cX4_init 25 = .ok (.new 24, 3) := by decide +kernel
theorem dX4_init_28 : decode cX4_init 28 = .ok (.dup, 1) := by decide +kernel
theorem dX4_init_29 : decode cX4_init 29 = .ok (.invokespecial 26, 3) := by decide +kernel
theorem dX4_init_32 : decode cX4_init 32 = .ok (.putfield 27, 3) := by decide +kernel
theorem dX4_init_35 : decode cX4_init 35 = .ok (.aload_n 0, 1) := by decide +kernel
theorem dX4_init_36 : decode cX4_init 36 = .ok (.iconst 0, 1) := by decide +kernel
theorem dX4_init_37 : decode cX4_init 37 = .ok (.putfield 31, 3) := by decide +kernel
theorem dX4_init_40 : decode cX4_init 40 = .ok (.aload_n 0, 1) := by decide +kernel
theorem dX4_init_41 : decode cX4_init 41 = .ok (.aload_n 1, 1) := by decide +kernel
theorem dX4_init_42 : decode cX4_init 42 = .ok (.putfield 35, 3) := by decide +kernel
theorem dX4_init_45 : decode cX4_init 45 = .ok (.iconst 0, 1) := by decide +kernel
theorem dX4_init_46 : decode cX4_init 46 = .ok (.istore_n 2, 1) := by decide +kernel
theorem dX4_init_47 : decode cX4_init 47 = .ok (.iload_n 2, 1) := by decide +kernel
theorem dX4_init_48 : decode cX4_init 48 = .ok (.bipush 8, 2) := by decide +kernel
theorem dX4_init_50 : decode cX4_init 50 = .ok (.if_icmp .gt 22, 3) := by decide +kernel
theorem dX4_init_53 : decode cX4_init 53 = .ok (.aload_n 0, 1) := by decide +kernel
theorem dX4_init_54 : decode cX4_init 54 = .ok (.getfield 11, 3) := by decide +kernel
theorem dX4_init_57 : decode cX4_init 57 = .ok (.iload_n 2, 1) := by decide +kernel
theorem dX4_init_58 : decode cX4_init 58 = .ok (.new 9, 3) := by decide +kernel
theorem dX4_init_61 : decode cX4_init 61 = .ok (.dup, 1) := by decide +kernel
theorem dX4_init_62 : decode cX4_init 62 = .ok (.invokespecial 39, 3) := by decide +kernel
theorem dX4_init_65 : decode cX4_init 65 = .ok (.aastore, 1) := by decide +kernel
theorem dX4_init_66 : decode cX4_init 66 = .ok (.iinc 2 1, 3) := by decide +kernel
theorem dX4_init_69 : decode cX4_init 69 = .ok (.goto (-22), 3) := by decide +kernel
theorem dX4_init_72 : decode cX4_init 72 = .ok (.return_, 1) := by decide +kernel
theorem dX4_readLaw_0 : decode cX4_readLaw 0 = .ok (.aload_n 0, 1) := by decide +kernel
theorem dX4_readLaw_1 : decode cX4_readLaw 1 = .ok (.getfield 20, 3) := by decide +kernel
theorem dX4_readLaw_4 : decode cX4_readLaw 4 = .ok (.aload_n 1, 1) := by decide +kernel
theorem dX4_readLaw_5 : decode cX4_readLaw 5 = .ok (.iload_n 2, 1) := by decide +kernel
theorem dX4_readLaw_6 : decode cX4_readLaw 6 = .ok (.aload_n 0, 1) := by decide +kernel
theorem dX4_readLaw_7 : decode cX4_readLaw 7 = .ok (.getfield 11, 3) := by decide +kernel
theorem dX4_readLaw_10 : decode cX4_readLaw 10 = .ok (.aload_n 0, 1) := by decide +kernel
theorem dX4_readLaw_11 : decode cX4_readLaw 11 = .ok (.getfield 31, 3) := by decide +kernel
theorem dX4_readLaw_14 : decode cX4_readLaw 14 = .ok (.aaload, 1) := by decide +kernel
theorem dX4_readLaw_15 : decode cX4_readLaw 15 = .ok (.invokevirtual 40, 3) := by decide +kernel
theorem dX4_readLaw_18 : decode cX4_readLaw 18 = .ok (.ireturn, 1) := by decide +kernel
theorem dX4_addRead_0 : decode cX4_addRead 0 = .ok (.aload_n 0, 1) := by decide +kernel
theorem dX4_addRead_1 : decode cX4_addRead 1 = .ok (.getfield 31, 3) := by decide +kernel
theorem dX4_addRead_4 : decode cX4_addRead 4 = .ok (.bipush 8, 2) := by decide +kernel
theorem dX4_addRead_6 : decode cX4_addRead 6 = .ok (.if_icmp .lt 6, 3) := by decide +kernel
theorem dX4_addRead_9 : decode cX4_addRead 9 = .ok (.bipush (-4), 2) := by decide +kernel
theorem dX4_addRead_11 : decode cX4_addRead 11 = .ok (.ireturn, 1) := by decide +kernel
theorem dX4_addRead_12 : decode cX4_addRead 12 = .ok (.aload_n 0, 1) := by decide +kernel
theorem dX4_addRead_13 : decode cX4_addRead 13 = .ok (.getfield 11, 3) := by decide +kernel
theorem dX4_addRead_16 : decode cX4_addRead 16 = .ok (.aload_n 0, 1) := by decide +kernel
theorem dX4_addRead_17 : decode cX4_addRead 17 = .ok (.getfield 31, 3) := by decide +kernel
theorem dX4_addRead_20 : decode cX4_addRead 20 = .ok (.aaload, 1) := by decide +kernel
theorem dX4_addRead_21 : decode cX4_addRead 21 = .ok (.iload_n 1, 1) := by decide +kernel
theorem dX4_addRead_22 : decode cX4_addRead 22 = .ok (.putfield 44, 3) := by decide +kernel
theorem dX4_addRead_25 : decode cX4_addRead 25 = .ok (.aload_n 0, 1) := by decide +kernel
theorem dX4_addRead_26 : decode cX4_addRead 26 = .ok (.dup, 1) := by decide +kernel
theorem dX4_addRead_27 : decode cX4_addRead 27 = .ok (.getfield 31, 3) := by decide +kernel
theorem dX4_addRead_30 : decode cX4_addRead 30 = .ok (.iconst 1, 1) := by decide +kernel
theorem dX4_addRead_31 : decode cX4_addRead 31 = .ok (.iadd, 1) := by decide +kernel
theorem dX4_addRead_32 : decode cX4_addRead 32 = .ok (.putfield 31, 3) := by decide +kernel
theorem dX4_addRead_35 : decode cX4_addRead 35 = .ok (.aload_n 0, 1) := by decide +kernel
theorem dX4_addRead_36 : decode cX4_addRead 36 = .ok (.getfield 31, 3) := by decide +kernel
theorem dX4_addRead_39 : decode cX4_addRead 39 = .ok (.iconst 1, 1) := by decide +kernel
theorem dX4_addRead_40 : decode cX4_addRead 40 = .ok (.isub, 1) := by decide +kernel
theorem dX4_addRead_41 : decode cX4_addRead 41 = .ok (.ireturn, 1) := by decide +kernel
theorem dX4_collectAt_0 : decode cX4_collectAt 0 = .ok (.aload_n 2, 1) := by decide +kernel
theorem dX4_collectAt_1 : decode cX4_collectAt 1 = .ok (.invokevirtual 47, 3) := by decide +kernel
theorem dX4_collectAt_4 : decode cX4_collectAt 4 = .ok (.iconst 0, 1) := by decide +kernel
theorem dX4_collectAt_5 : decode cX4_collectAt 5 = .ok (.istore_n 3, 1) := by decide +kernel
theorem dX4_collectAt_6 : decode cX4_collectAt 6 = .ok (.iload_n 3, 1) := by decide +kernel
theorem dX4_collectAt_7 : decode cX4_collectAt 7 = .ok (.aload_n 0, 1) := by decide +kernel
theorem dX4_collectAt_8 : decode cX4_collectAt 8 = .ok (.getfield 31, 3) := by decide +kernel
theorem dX4_collectAt_11 : decode cX4_collectAt 11 = .ok (.if_icmp .ge 30, 3) := by decide +kernel
theorem dX4_collectAt_14 : decode cX4_collectAt 14 = .ok (.iload_n 1, 1) := by decide +kernel
theorem dX4_collectAt_15 : decode cX4_collectAt 15 = .ok (.aload_n 0, 1) := by decide +kernel
theorem dX4_collectAt_16 : decode cX4_collectAt 16 = .ok (.getfield 11, 3) := by decide +kernel
theorem dX4_collectAt_19 : decode cX4_collectAt 19 = .ok (.iload_n 3, 1) := by decide +kernel
theorem dX4_collectAt_20 : decode cX4_collectAt 20 = .ok (.aaload, 1) := by decide +kernel
theorem dX4_collectAt_21 : decode cX4_collectAt 21 = .ok (.getfield 44, 3) := by decide +kernel
theorem dX4_collectAt_24 : decode cX4_collectAt 24 = .ok (.invokestatic 50, 3) := by decide +kernel
theorem dX4_collectAt_27 : decode cX4_collectAt 27 = .ok (.ifCond .eq 8, 3) := by decide +kernel
theorem dX4_collectAt_30 : decode cX4_collectAt 30 = .ok (.aload_n 2, 1) := by decide +kernel
theorem dX4_collectAt_31 : decode cX4_collectAt 31 = .ok (.iload_n 3, 1) := by decide +kernel
theorem dX4_collectAt_32 : decode cX4_collectAt 32 = .ok (.invokevirtual 54, 3) := by decide +kernel
theorem dX4_collectAt_35 : decode cX4_collectAt 35 = .ok (.iinc 3 1, 3) := by decide +kernel
theorem dX4_collectAt_38 : decode cX4_collectAt 38 = .ok (.goto (-32), 3) := by decide +kernel
theorem dX4_collectAt_41 : decode cX4_collectAt 41 = .ok (.return_, 1) := by decide +kernel
theorem dX4_deriveAt_0 : decode cX4_deriveAt 0 = .ok (.bipush (-9), 2) := by decide +kernel
theorem dX4_deriveAt_2 : decode cX4_deriveAt 2 = .ok (.istore 4, 2) := by decide +kernel
theorem dX4_deriveAt_4 : decode cX4_deriveAt 4 = .ok (.iconst 0, 1) := by decide +kernel
theorem dX4_deriveAt_5 : decode cX4_deriveAt 5 = .ok (.istore 5, 2) := by decide +kernel
theorem dX4_deriveAt_7 : decode cX4_deriveAt 7 = .ok (.iconst 0, 1) := by decide +kernel
theorem dX4_deriveAt_8 : decode cX4_deriveAt 8 = .ok (.istore 6, 2) := by decide +kernel
theorem dX4_deriveAt_10 : decode cX4_deriveAt 10 = .ok (.iload 6, 2) := by decide +kernel
theorem dX4_deriveAt_12 : decode cX4_deriveAt 12 = .ok (.aload_n 0, 1) := by decide +kernel
theorem dX4_deriveAt_13 : decode cX4_deriveAt 13 = .ok (.getfield 31, 3) := by decide +kernel
theorem dX4_deriveAt_16 : decode cX4_deriveAt 16 = .ok (.if_icmp .ge 57, 3) := by decide +kernel
theorem dX4_deriveAt_19 : decode cX4_deriveAt 19 = .ok (.iload 5, 2) := by decide +kernel
theorem dX4_deriveAt_21 : decode cX4_deriveAt 21 = .ok (.iload_n 3, 1) := by decide +kernel
theorem dX4_deriveAt_22 : decode cX4_deriveAt 22 = .ok (.if_icmp .ge 51, 3) := by decide +kernel
theorem dX4_deriveAt_25 : decode cX4_deriveAt 25 = .ok (.iload_n 1, 1) := by decide +kernel
theorem dX4_deriveAt_26 : decode cX4_deriveAt 26 = .ok (.aload_n 0, 1) := by decide +kernel
theorem dX4_deriveAt_27 : decode cX4_deriveAt 27 = .ok (.getfield 11, 3) := by decide +kernel
theorem dX4_deriveAt_30 : decode cX4_deriveAt 30 = .ok (.iload 6, 2) := by decide +kernel
theorem dX4_deriveAt_32 : decode cX4_deriveAt 32 = .ok (.aaload, 1) := by decide +kernel
theorem dX4_deriveAt_33 : decode cX4_deriveAt 33 = .ok (.getfield 44, 3) := by decide +kernel
theorem dX4_deriveAt_36 : decode cX4_deriveAt 36 = .ok (.invokestatic 50, 3) := by decide +kernel
theorem dX4_deriveAt_39 : decode cX4_deriveAt 39 = .ok (.ifCond .ne 6, 3) := by decide +kernel
theorem dX4_deriveAt_42 : decode cX4_deriveAt 42 = .ok (.goto 25, 3) := by decide +kernel
theorem dX4_deriveAt_45 : decode cX4_deriveAt 45 = .ok (.iinc 5 1, 3) := by decide +kernel
theorem dX4_deriveAt_48 : decode cX4_deriveAt 48 = .ok (.aload_n 0, 1) := by decide +kernel
theorem dX4_deriveAt_49 : decode cX4_deriveAt 49 = .ok (.aload_n 0, 1) := by decide +kernel
theorem dX4_deriveAt_50 : decode cX4_deriveAt 50 = .ok (.getfield 11, 3) := by decide +kernel
theorem dX4_deriveAt_53 : decode cX4_deriveAt 53 = .ok (.iload 6, 2) := by decide +kernel
theorem dX4_deriveAt_55 : decode cX4_deriveAt 55 = .ok (.aaload, 1) := by decide +kernel
theorem dX4_deriveAt_56 : decode cX4_deriveAt 56 = .ok (.aload_n 2, 1) := by decide +kernel
theorem dX4_deriveAt_57 : decode cX4_deriveAt 57 = .ok (.invokevirtual 58, 3) := by decide +kernel
theorem dX4_deriveAt_60 : decode cX4_deriveAt 60 = .ok (.ifCond .eq 7, 3) := by decide +kernel
theorem dX4_deriveAt_63 : decode cX4_deriveAt 63 = .ok (.iload 6, 2) := by decide +kernel
theorem dX4_deriveAt_65 : decode cX4_deriveAt 65 = .ok (.istore 4, 2) := by decide +kernel
theorem dX4_deriveAt_67 : decode cX4_deriveAt 67 = .ok (.iinc 6 1, 3) := by decide +kernel
theorem dX4_deriveAt_70 : decode cX4_deriveAt 70 = .ok (.goto (-60), 3) := by decide +kernel
theorem dX4_deriveAt_73 : decode cX4_deriveAt 73 = .ok (.iload 4, 2) := by decide +kernel
theorem dX4_deriveAt_75 : decode cX4_deriveAt 75 = .ok (.ireturn, 1) := by decide +kernel
theorem dX4_deriveBy_0 : decode cX4_deriveBy 0 = .ok (.iconst 0, 1) := by decide +kernel
theorem dX4_deriveBy_1 : decode cX4_deriveBy 1 = .ok (.istore_n 3, 1) := by decide +kernel
theorem dX4_deriveBy_2 : decode cX4_deriveBy 2 = .ok (.iload_n 3, 1) := by decide +kernel
theorem dX4_deriveBy_3 : decode cX4_deriveBy 3 = .ok (.aload_n 1, 1) := by decide +kernel
theorem dX4_deriveBy_4 : decode cX4_deriveBy 4 = .ok (.getfield 62, 3) := by decide +kernel
theorem dX4_deriveBy_7 : decode cX4_deriveBy 7 = .ok (.if_icmp .ge 41, 3) := by decide +kernel
theorem dX4_deriveBy_10 : decode cX4_deriveBy 10 = .ok (.aload_n 1, 1) := by decide +kernel
theorem dX4_deriveBy_11 : decode cX4_deriveBy 11 = .ok (.iload_n 3, 1) := by decide +kernel
theorem dX4_deriveBy_12 : decode cX4_deriveBy 12 = .ok (.invokevirtual 65, 3) := by decide +kernel
theorem dX4_deriveBy_15 : decode cX4_deriveBy 15 = .ok (.istore 4, 2) := by decide +kernel
theorem dX4_deriveBy_17 : decode cX4_deriveBy 17 = .ok (.iload 4, 2) := by decide +kernel
theorem dX4_deriveBy_19 : decode cX4_deriveBy 19 = .ok (.aload_n 0, 1) := by decide +kernel
theorem dX4_deriveBy_20 : decode cX4_deriveBy 20 = .ok (.getfield 31, 3) := by decide +kernel
theorem dX4_deriveBy_23 : decode cX4_deriveBy 23 = .ok (.invokestatic 69, 3) := by decide +kernel
theorem dX4_deriveBy_26 : decode cX4_deriveBy 26 = .ok (.ifCond .eq 16, 3) := by decide +kernel
theorem dX4_deriveBy_29 : decode cX4_deriveBy 29 = .ok (.aload_n 0, 1) := by decide +kernel
theorem dX4_deriveBy_30 : decode cX4_deriveBy 30 = .ok (.aload_n 0, 1) := by decide +kernel
theorem dX4_deriveBy_31 : decode cX4_deriveBy 31 = .ok (.getfield 11, 3) := by decide +kernel
theorem dX4_deriveBy_34 : decode cX4_deriveBy 34 = .ok (.iload 4, 2) := by decide +kernel
theorem dX4_deriveBy_36 : decode cX4_deriveBy 36 = .ok (.aaload, 1) := by decide +kernel
theorem dX4_deriveBy_37 : decode cX4_deriveBy 37 = .ok (.aload_n 2, 1) := by decide +kernel
theorem dX4_deriveBy_38 : decode cX4_deriveBy 38 = .ok (.invokevirtual 58, 3) := by decide +kernel
theorem dX4_deriveBy_41 : decode cX4_deriveBy 41 = .ok (.pop, 1) := by decide +kernel
theorem dX4_deriveBy_42 : decode cX4_deriveBy 42 = .ok (.iinc 3 1, 3) := by decide +kernel
theorem dX4_deriveBy_45 : decode cX4_deriveBy 45 = .ok (.goto (-43), 3) := by decide +kernel
theorem dX4_deriveBy_48 : decode cX4_deriveBy 48 = .ok (.return_, 1) := by decide +kernel
theorem dX4_doLaw_0 : decode cX4_doLaw 0 = .ok (.aload_n 0, 1) := by decide +kernel
theorem dX4_doLaw_1 : decode cX4_doLaw 1 = .ok (.getfield 27, 3) := by decide +kernel
theorem dX4_doLaw_4 : decode cX4_doLaw 4 = .ok (.aload_n 2, 1) := by decide +kernel
theorem dX4_doLaw_5 : decode cX4_doLaw 5 = .ok (.invokevirtual 72, 3) := by decide +kernel
theorem dX4_doLaw_8 : decode cX4_doLaw 8 = .ok (.aload_n 2, 1) := by decide +kernel
theorem dX4_doLaw_9 : decode cX4_doLaw 9 = .ok (.invokevirtual 47, 3) := by decide +kernel
theorem dX4_doLaw_12 : decode cX4_doLaw 12 = .ok (.iconst 0, 1) := by decide +kernel
theorem dX4_doLaw_13 : decode cX4_doLaw 13 = .ok (.istore_n 3, 1) := by decide +kernel
theorem dX4_doLaw_14 : decode cX4_doLaw 14 = .ok (.iconst 0, 1) := by decide +kernel
theorem dX4_doLaw_15 : decode cX4_doLaw 15 = .ok (.istore 4, 2) := by decide +kernel
theorem dX4_doLaw_17 : decode cX4_doLaw 17 = .ok (.iload 4, 2) := by decide +kernel
theorem dX4_doLaw_19 : decode cX4_doLaw 19 = .ok (.aload_n 0, 1) := by decide +kernel
theorem dX4_doLaw_20 : decode cX4_doLaw 20 = .ok (.getfield 27, 3) := by decide +kernel
theorem dX4_doLaw_23 : decode cX4_doLaw 23 = .ok (.getfield 62, 3) := by decide +kernel
theorem dX4_doLaw_26 : decode cX4_doLaw 26 = .ok (.if_icmp .ge 139, 3) := by decide +kernel
theorem dX4_doLaw_29 : decode cX4_doLaw 29 = .ok (.aload_n 0, 1) := by decide +kernel
theorem dX4_doLaw_30 : decode cX4_doLaw 30 = .ok (.getfield 27, 3) := by decide +kernel
theorem dX4_doLaw_33 : decode cX4_doLaw 33 = .ok (.iload 4, 2) := by decide +kernel
theorem dX4_doLaw_35 : decode cX4_doLaw 35 = .ok (.invokevirtual 65, 3) := by decide +kernel
theorem dX4_doLaw_38 : decode cX4_doLaw 38 = .ok (.istore 5, 2) := by decide +kernel
theorem dX4_doLaw_40 : decode cX4_doLaw 40 = .ok (.aload_n 0, 1) := by decide +kernel
theorem dX4_doLaw_41 : decode cX4_doLaw 41 = .ok (.getfield 35, 3) := by decide +kernel
theorem dX4_doLaw_44 : decode cX4_doLaw 44 = .ok (.iload 5, 2) := by decide +kernel
theorem dX4_doLaw_46 : decode cX4_doLaw 46 = .ok (.aload_n 1, 1) := by decide +kernel
theorem dX4_doLaw_47 : decode cX4_doLaw 47 = .ok (.getfield 76, 3) := by decide +kernel
theorem dX4_doLaw_50 : decode cX4_doLaw 50 = .ok (.invokevirtual 79, 3) := by decide +kernel
theorem dX4_doLaw_53 : decode cX4_doLaw 53 = .ok (.ifCond .eq 57, 3) := by decide +kernel
theorem dX4_doLaw_56 : decode cX4_doLaw 56 = .ok (.aload_n 0, 1) := by decide +kernel
theorem dX4_doLaw_57 : decode cX4_doLaw 57 = .ok (.getfield 35, 3) := by decide +kernel
theorem dX4_doLaw_60 : decode cX4_doLaw 60 = .ok (.aload_n 0, 1) := by decide +kernel
theorem dX4_doLaw_61 : decode cX4_doLaw 61 = .ok (.getfield 27, 3) := by decide +kernel
theorem dX4_doLaw_64 : decode cX4_doLaw 64 = .ok (.iload 4, 2) := by decide +kernel
theorem dX4_doLaw_66 : decode cX4_doLaw 66 = .ok (.iconst 1, 1) := by decide +kernel
theorem dX4_doLaw_67 : decode cX4_doLaw 67 = .ok (.isub, 1) := by decide +kernel
theorem dX4_doLaw_68 : decode cX4_doLaw 68 = .ok (.invokevirtual 65, 3) := by decide +kernel
theorem dX4_doLaw_71 : decode cX4_doLaw 71 = .ok (.aload_n 1, 1) := by decide +kernel
theorem dX4_doLaw_72 : decode cX4_doLaw 72 = .ok (.getfield 84, 3) := by decide +kernel
theorem dX4_doLaw_75 : decode cX4_doLaw 75 = .ok (.invokevirtual 79, 3) := by decide +kernel
theorem dX4_doLaw_78 : decode cX4_doLaw 78 = .ok (.ifCond .eq 32, 3) := by decide +kernel
theorem dX4_doLaw_81 : decode cX4_doLaw 81 = .ok (.aload_n 0, 1) := by decide +kernel
theorem dX4_doLaw_82 : decode cX4_doLaw 82 = .ok (.getfield 35, 3) := by decide +kernel
theorem dX4_doLaw_85 : decode cX4_doLaw 85 = .ok (.aload_n 0, 1) := by decide +kernel
theorem dX4_doLaw_86 : decode cX4_doLaw 86 = .ok (.getfield 27, 3) := by decide +kernel
theorem dX4_doLaw_89 : decode cX4_doLaw 89 = .ok (.iload 4, 2) := by decide +kernel
theorem dX4_doLaw_91 : decode cX4_doLaw 91 = .ok (.iconst 1, 1) := by decide +kernel
theorem dX4_doLaw_92 : decode cX4_doLaw 92 = .ok (.iadd, 1) := by decide +kernel
theorem dX4_doLaw_93 : decode cX4_doLaw 93 = .ok (.invokevirtual 65, 3) := by decide +kernel
theorem dX4_doLaw_96 : decode cX4_doLaw 96 = .ok (.aload_n 1, 1) := by decide +kernel
theorem dX4_doLaw_97 : decode cX4_doLaw 97 = .ok (.getfield 87, 3) := by decide +kernel
theorem dX4_doLaw_100 : decode cX4_doLaw 100 = .ok (.invokevirtual 79, 3) := by decide +kernel
theorem dX4_doLaw_103 : decode cX4_doLaw 103 = .ok (.ifCond .eq 7, 3) := by decide +kernel
theorem dX4_doLaw_106 : decode cX4_doLaw 106 = .ok (.iconst 1, 1) := by decide +kernel
theorem dX4_doLaw_107 : decode cX4_doLaw 107 = .ok (.goto 4, 3) := by decide +kernel
theorem dX4_doLaw_110 : decode cX4_doLaw 110 = .ok (.iconst 0, 1) := by decide +kernel
theorem dX4_doLaw_111 : decode cX4_doLaw 111 = .ok (.istore 6, 2) := by decide +kernel
theorem dX4_doLaw_113 : decode cX4_doLaw 113 = .ok (.iload 6, 2) := by decide +kernel
theorem dX4_doLaw_115 : decode cX4_doLaw 115 = .ok (.ifCond .eq 10, 3) := by decide +kernel
theorem dX4_doLaw_118 : decode cX4_doLaw 118 = .ok (.aload_n 1, 1) := by decide +kernel
theorem dX4_doLaw_119 : decode cX4_doLaw 119 = .ok (.getfield 90, 3) := by decide +kernel
theorem dX4_doLaw_122 : decode cX4_doLaw 122 = .ok (.goto 5, 3) := by decide +kernel
theorem dX4_doLaw_125 : decode cX4_doLaw 125 = .ok (.iload 5, 2) := by decide +kernel
theorem dX4_doLaw_127 : decode cX4_doLaw 127 = .ok (.istore 7, 2) := by decide +kernel
theorem dX4_doLaw_129 : decode cX4_doLaw 129 = .ok (.iload 7, 2) := by decide +kernel
theorem dX4_doLaw_131 : decode cX4_doLaw 131 = .ok (.bipush (-2), 2) := by decide +kernel
theorem dX4_doLaw_133 : decode cX4_doLaw 133 = .ok (.if_icmp .eq 9, 3) := by decide +kernel
theorem dX4_doLaw_136 : decode cX4_doLaw 136 = .ok (.aload_n 2, 1) := by decide +kernel
theorem dX4_doLaw_137 : decode cX4_doLaw 137 = .ok (.iload 7, 2) := by decide +kernel
theorem dX4_doLaw_139 : decode cX4_doLaw 139 = .ok (.invokevirtual 54, 3) := by decide +kernel
theorem dX4_doLaw_142 : decode cX4_doLaw 142 = .ok (.iload_n 3, 1) := by decide +kernel
theorem dX4_doLaw_143 : decode cX4_doLaw 143 = .ok (.ifCond .ne 10, 3) := by decide +kernel
theorem dX4_doLaw_146 : decode cX4_doLaw 146 = .ok (.iload 7, 2) := by decide +kernel
theorem dX4_doLaw_148 : decode cX4_doLaw 148 = .ok (.iload 5, 2) := by decide +kernel
theorem dX4_doLaw_150 : decode cX4_doLaw 150 = .ok (.if_icmp .eq 7, 3) := by decide +kernel
theorem dX4_doLaw_153 : decode cX4_doLaw 153 = .ok (.iconst 1, 1) := by decide +kernel
theorem dX4_doLaw_154 : decode cX4_doLaw 154 = .ok (.goto 4, 3) := by decide +kernel
theorem dX4_doLaw_157 : decode cX4_doLaw 157 = .ok (.iconst 0, 1) := by decide +kernel
theorem dX4_doLaw_158 : decode cX4_doLaw 158 = .ok (.istore_n 3, 1) := by decide +kernel
theorem dX4_doLaw_159 : decode cX4_doLaw 159 = .ok (.iinc 4 1, 3) := by decide +kernel
theorem dX4_doLaw_162 : decode cX4_doLaw 162 = .ok (.goto (-145), 3) := by decide +kernel
theorem dX4_doLaw_165 : decode cX4_doLaw 165 = .ok (.iload_n 3, 1) := by decide +kernel
theorem dX4_doLaw_166 : decode cX4_doLaw 166 = .ok (.ireturn, 1) := by decide +kernel
theorem dX5_init_0 : decode cX5_init 0 = .ok (.aload_n 0, 1) := by decide +kernel
theorem dX5_init_1 : decode cX5_init 1 = .ok (.invokespecial 3, 3) := by decide +kernel
theorem dX5_init_4 : decode cX5_init 4 = .ok (.aload_n 0, 1) := by decide +kernel
theorem dX5_init_5 : decode cX5_init 5 = .ok (.bipush 60, 2) := by decide +kernel
theorem dX5_init_7 : decode cX5_init 7 = .ok (.newarray .int, 2) := by decide +kernel
theorem dX5_init_9 : decode cX5_init 9 = .ok (.putfield 9, 3) := by decide +kernel
theorem dX5_init_12 : decode cX5_init 12 = .ok (.aload_n 0, 1) := by decide +kernel
theorem dX5_init_13 : decode cX5_init 13 = .ok (.iconst 0, 1) := by decide +kernel
theorem dX5_init_14 : decode cX5_init 14 = .ok (.putfield 15, 3) := by decide +kernel
theorem dX5_init_17 : decode cX5_init 17 = .ok (.aload_n 0, 1) := by decide +kernel
theorem dX5_init_18 : decode cX5_init 18 = .ok (.iconst 0, 1) := by decide +kernel
theorem dX5_init_19 : decode cX5_init 19 = .ok (.putfield 19, 3) := by decide +kernel
theorem dX5_init_22 : decode cX5_init 22 = .ok (.return_, 1) := by decide +kernel
theorem dX5_firstFault_0 : decode cX5_firstFault 0 = .ok (.aload_n 1, 1) := by decide +kernel
theorem dX5_firstFault_1 : decode cX5_firstFault 1 = .ok (.iconst 0, 1) := by decide +kernel
theorem dX5_firstFault_2 : decode cX5_firstFault 2 = .ok (.aload_n 0, 1) := by decide +kernel
theorem dX5_firstFault_3 : decode cX5_firstFault 3 = .ok (.getfield 9, 3) := by decide +kernel
theorem dX5_firstFault_6 : decode cX5_firstFault 6 = .ok (.iconst 0, 1) := by decide +kernel
theorem dX5_firstFault_7 : decode cX5_firstFault 7 = .ok (.iload_n 2, 1) := by decide +kernel
theorem dX5_firstFault_8 : decode cX5_firstFault 8 = .ok (.invokestatic 22, 3) := by decide +kernel
theorem dX5_firstFault_11 : decode cX5_firstFault 11 = .ok (.aload_n 0, 1) := by decide +kernel
theorem dX5_firstFault_12 : decode cX5_firstFault 12 = .ok (.iload_n 2, 1) := by decide +kernel
theorem dX5_firstFault_13 : decode cX5_firstFault 13 = .ok (.putfield 15, 3) := by decide +kernel
theorem dX5_firstFault_16 : decode cX5_firstFault 16 = .ok (.aload_n 0, 1) := by decide +kernel
theorem dX5_firstFault_17 : decode cX5_firstFault 17 = .ok (.iconst 0, 1) := by decide +kernel
theorem dX5_firstFault_18 : decode cX5_firstFault 18 = .ok (.putfield 19, 3) := by decide +kernel
theorem dX5_firstFault_21 : decode cX5_firstFault 21 = .ok (.aload_n 3, 1) := by decide +kernel
theorem dX5_firstFault_22 : decode cX5_firstFault 22 = .ok (.bipush 29, 2) := by decide +kernel
theorem dX5_firstFault_24 : decode cX5_firstFault 24 = .ok (.putfield 30, 3) := by decide +kernel
theorem dX5_firstFault_27 : decode cX5_firstFault 27 = .ok (.aload_n 3, 1) := by decide +kernel
theorem dX5_firstFault_28 : decode cX5_firstFault 28 = .ok (.bipush 29, 2) := by decide +kernel
theorem dX5_firstFault_30 : decode cX5_firstFault 30 = .ok (.putfield 33, 3) := by decide +kernel
theorem dX5_firstFault_33 : decode cX5_firstFault 33 = .ok (.aload_n 0, 1) := by decide +kernel
theorem dX5_firstFault_34 : decode cX5_firstFault 34 = .ok (.aload_n 3, 1) := by decide +kernel
theorem dX5_firstFault_35 : decode cX5_firstFault 35 = .ok (.invokevirtual 36, 3) := by decide +kernel
theorem dX5_firstFault_38 : decode cX5_firstFault 38 = .ok (.ifCond .eq 39, 3) := by decide +kernel
theorem dX5_firstFault_41 : decode cX5_firstFault 41 = .ok (.aload_n 0, 1) := by decide +kernel
theorem dX5_firstFault_42 : decode cX5_firstFault 42 = .ok (.bipush 62, 2) := by decide +kernel
theorem dX5_firstFault_44 : decode cX5_firstFault 44 = .ok (.invokevirtual 40, 3) := by decide +kernel
theorem dX5_firstFault_47 : decode cX5_firstFault 47 = .ok (.ifCond .eq 30, 3) := by decide +kernel
theorem dX5_firstFault_50 : decode cX5_firstFault 50 = .ok (.aload_n 0, 1) := by decide +kernel
theorem dX5_firstFault_51 : decode cX5_firstFault 51 = .ok (.aload_n 3, 1) := by decide +kernel
theorem dX5_firstFault_52 : decode cX5_firstFault 52 = .ok (.invokevirtual 44, 3) := by decide +kernel
theorem dX5_firstFault_55 : decode cX5_firstFault 55 = .ok (.ifCond .eq 22, 3) := by decide +kernel
theorem dX5_firstFault_58 : decode cX5_firstFault 58 = .ok (.aload_n 0, 1) := by decide +kernel
theorem dX5_firstFault_59 : decode cX5_firstFault 59 = .ok (.invokevirtual 47, 3) := by decide +kernel
theorem dX5_firstFault_62 : decode cX5_firstFault 62 = .ok (.ifCond .ne 11, 3) := by decide +kernel
theorem dX5_firstFault_65 : decode cX5_firstFault 65 = .ok (.aload_n 0, 1) := by decide +kernel
theorem dX5_firstFault_66 : decode cX5_firstFault 66 = .ok (.aload_n 3, 1) := by decide +kernel
theorem dX5_firstFault_67 : decode cX5_firstFault 67 = .ok (.invokevirtual 51, 3) := by decide +kernel
theorem dX5_firstFault_70 : decode cX5_firstFault 70 = .ok (.ifCond .eq 7, 3) := by decide +kernel
theorem dX5_firstFault_73 : decode cX5_firstFault 73 = .ok (.iconst 1, 1) := by decide +kernel
theorem dX5_firstFault_74 : decode cX5_firstFault 74 = .ok (.goto 4, 3) := by decide +kernel
theorem dX5_firstFault_77 : decode cX5_firstFault 77 = .ok (.iconst 0, 1) := by decide +kernel
theorem dX5_firstFault_78 : decode cX5_firstFault 78 = .ok (.istore 4, 2) := by decide +kernel
theorem dX5_firstFault_80 : decode cX5_firstFault 80 = .ok (.iload 4, 2) := by decide +kernel
theorem dX5_firstFault_82 : decode cX5_firstFault 82 = .ok (.ifCond .eq 8, 3) := by decide +kernel
theorem dX5_firstFault_85 : decode cX5_firstFault 85 = .ok (.bipush (-9), 2) := by decide +kernel
theorem dX5_firstFault_87 : decode cX5_firstFault 87 = .ok (.goto 7, 3) := by decide +kernel
theorem dX5_firstFault_90 : decode cX5_firstFault 90 = .ok (.aload_n 0, 1) := by decide +kernel
theorem dX5_firstFault_91 : decode cX5_firstFault 91 = .ok (.getfield 19, 3) := by decide +kernel
theorem dX5_firstFault_94 : decode cX5_firstFault 94 = .ok (.ireturn, 1) := by decide +kernel
theorem dX5_isAtEnd_0 : decode cX5_isAtEnd 0 = .ok (.aload_n 0, 1) := by decide +kernel
theorem dX5_isAtEnd_1 : decode cX5_isAtEnd 1 = .ok (.getfield 19, 3) := by decide +kernel
theorem dX5_isAtEnd_4 : decode cX5_isAtEnd 4 = .ok (.aload_n 0, 1) := by decide +kernel
theorem dX5_isAtEnd_5 : decode cX5_isAtEnd 5 = .ok (.getfield 15, 3) := by decide +kernel
theorem dX5_isAtEnd_8 : decode cX5_isAtEnd 8 = .ok (.if_icmp .lt 7, 3) := by decide +kernel
theorem dX5_isAtEnd_11 : decode cX5_isAtEnd 11 = .ok (.iconst 1, 1) := by decide +kernel
theorem dX5_isAtEnd_12 : decode cX5_isAtEnd 12 = .ok (.goto 4, 3) := by decide +kernel
theorem dX5_isAtEnd_15 : decode cX5_isAtEnd 15 = .ok (.iconst 0, 1) := by decide +kernel
theorem dX5_isAtEnd_16 : decode cX5_isAtEnd 16 = .ok (.ireturn, 1) := by decide +kernel
theorem dX5_isAt_0 : decode cX5_isAt 0 = .ok (.aload_n 0, 1) := by decide +kernel
theorem dX5_isAt_1 : decode cX5_isAt 1 = .ok (.getfield 19, 3) := by decide +kernel
theorem dX5_isAt_4 : decode cX5_isAt 4 = .ok (.aload_n 0, 1) := by decide +kernel
theorem dX5_isAt_5 : decode cX5_isAt 5 = .ok (.getfield 15, 3) := by decide +kernel
theorem dX5_isAt_8 : decode cX5_isAt 8 = .ok (.if_icmp .ge 20, 3) := by decide +kernel
theorem dX5_isAt_11 : decode cX5_isAt 11 = .ok (.aload_n 0, 1) := by decide +kernel
theorem dX5_isAt_12 : decode cX5_isAt 12 = .ok (.getfield 9, 3) := by decide +kernel
theorem dX5_isAt_15 : decode cX5_isAt 15 = .ok (.aload_n 0, 1) := by decide +kernel
theorem dX5_isAt_16 : decode cX5_isAt 16 = .ok (.getfield 19, 3) := by decide +kernel
theorem dX5_isAt_19 : decode cX5_isAt 19 = .ok (.iaload, 1) := by decide +kernel
theorem dX5_isAt_20 : decode cX5_isAt 20 = .ok (.iload_n 1, 1) := by decide +kernel
theorem dX5_isAt_21 : decode cX5_isAt 21 = .ok (.if_icmp .ne 7, 3) := by decide +kernel
theorem dX5_isAt_24 : decode cX5_isAt 24 = .ok (.iconst 1, 1) := by decide +kernel
theorem dX5_isAt_25 : decode cX5_isAt 25 = .ok (.goto 4, 3) := by decide +kernel
theorem dX5_isAt_28 : decode cX5_isAt 28 = .ok (.iconst 0, 1) := by decide +kernel
theorem dX5_isAt_29 : decode cX5_isAt 29 = .ok (.ireturn, 1) := by decide +kernel
theorem dX5_takes_0 : decode cX5_takes 0 = .ok (.aload_n 0, 1) := by decide +kernel
theorem dX5_takes_1 : decode cX5_takes 1 = .ok (.getfield 19, 3) := by decide +kernel
theorem dX5_takes_4 : decode cX5_takes 4 = .ok (.aload_n 0, 1) := by decide +kernel
theorem dX5_takes_5 : decode cX5_takes 5 = .ok (.getfield 15, 3) := by decide +kernel
theorem dX5_takes_8 : decode cX5_takes 8 = .ok (.if_icmp .ge 20, 3) := by decide +kernel
theorem dX5_takes_11 : decode cX5_takes 11 = .ok (.aload_n 0, 1) := by decide +kernel
theorem dX5_takes_12 : decode cX5_takes 12 = .ok (.getfield 9, 3) := by decide +kernel
theorem dX5_takes_15 : decode cX5_takes 15 = .ok (.aload_n 0, 1) := by decide +kernel
theorem dX5_takes_16 : decode cX5_takes 16 = .ok (.getfield 19, 3) := by decide +kernel
theorem dX5_takes_19 : decode cX5_takes 19 = .ok (.iaload, 1) := by decide +kernel
theorem dX5_takes_20 : decode cX5_takes 20 = .ok (.iload_n 1, 1) := by decide +kernel
theorem dX5_takes_21 : decode cX5_takes 21 = .ok (.if_icmp .ne 7, 3) := by decide +kernel
theorem dX5_takes_24 : decode cX5_takes 24 = .ok (.iconst 1, 1) := by decide +kernel
theorem dX5_takes_25 : decode cX5_takes 25 = .ok (.goto 4, 3) := by decide +kernel
theorem dX5_takes_28 : decode cX5_takes 28 = .ok (.iconst 0, 1) := by decide +kernel
theorem dX5_takes_29 : decode cX5_takes 29 = .ok (.istore_n 2, 1) := by decide +kernel
theorem dX5_takes_30 : decode cX5_takes 30 = .ok (.aload_n 0, 1) := by decide +kernel
theorem dX5_takes_31 : decode cX5_takes 31 = .ok (.dup, 1) := by decide +kernel
theorem dX5_takes_32 : decode cX5_takes 32 = .ok (.getfield 19, 3) := by decide +kernel
theorem dX5_takes_35 : decode cX5_takes 35 = .ok (.iload_n 2, 1) := by decide +kernel
theorem dX5_takes_36 : decode cX5_takes 36 = .ok (.ifCond .eq 7, 3) := by decide +kernel
theorem dX5_takes_39 : decode cX5_takes 39 = .ok (.iconst 1, 1) := by decide +kernel
theorem dX5_takes_40 : decode cX5_takes 40 = .ok (.goto 4, 3) := by decide +kernel
theorem dX5_takes_43 : decode cX5_takes 43 = .ok (.iconst 0, 1) := by decide +kernel
theorem dX5_takes_44 : decode cX5_takes 44 = .ok (.iadd, 1) := by decide +kernel
theorem dX5_takes_45 : decode cX5_takes 45 = .ok (.putfield 19, 3) := by decide +kernel
theorem dX5_takes_48 : decode cX5_takes 48 = .ok (.iload_n 2, 1) := by decide +kernel
theorem dX5_takes_49 : decode cX5_takes 49 = .ok (.ireturn, 1) := by decide +kernel
theorem dX5_readTarget_0 : decode cX5_readTarget 0 = .ok (.aload_n 1, 1) := by decide +kernel
theorem dX5_readTarget_1 : decode cX5_readTarget 1 = .ok (.aload_n 0, 1) := by decide +kernel
theorem dX5_readTarget_2 : decode cX5_readTarget 2 = .ok (.invokevirtual 54, 3) := by decide +kernel
theorem dX5_readTarget_5 : decode cX5_readTarget 5 = .ok (.putfield 58, 3) := by decide +kernel
theorem dX5_readTarget_8 : decode cX5_readTarget 8 = .ok (.aload_n 1, 1) := by decide +kernel
theorem dX5_readTarget_9 : decode cX5_readTarget 9 = .ok (.getfield 58, 3) := by decide +kernel
theorem dX5_readTarget_12 : decode cX5_readTarget 12 = .ok (.iconst (-1), 1) := by decide +kernel
theorem dX5_readTarget_13 : decode cX5_readTarget 13 = .ok (.if_icmp .eq 7, 3) := by decide +kernel
theorem dX5_readTarget_16 : decode cX5_readTarget 16 = .ok (.iconst 1, 1) := by decide +kernel
theorem dX5_readTarget_17 : decode cX5_readTarget 17 = .ok (.goto 4, 3) := by decide +kernel
theorem dX5_readTarget_20 : decode cX5_readTarget 20 = .ok (.iconst 0, 1) := by decide +kernel
theorem dX5_readTarget_21 : decode cX5_readTarget 21 = .ok (.ireturn, 1) := by decide +kernel
theorem dX5_readResult_0 : decode cX5_readResult 0 = .ok (.aload_n 1, 1) := by decide +kernel
theorem dX5_readResult_1 : decode cX5_readResult 1 = .ok (.aload_n 0, 1) := by decide +kernel
theorem dX5_readResult_2 : decode cX5_readResult 2 = .ok (.bipush 48, 2) := by decide +kernel
theorem dX5_readResult_4 : decode cX5_readResult 4 = .ok (.invokevirtual 40, 3) := by decide +kernel
theorem dX5_readResult_7 : decode cX5_readResult 7 = .ok (.ifCond .eq 8, 3) := by decide +kernel
theorem dX5_readResult_10 : decode cX5_readResult 10 = .ok (.bipush (-2), 2) := by decide +kernel
theorem dX5_readResult_12 : decode cX5_readResult 12 = .ok (.goto 12, 3) := by decide +kernel
theorem dX5_readResult_15 : decode cX5_readResult 15 = .ok (.aload_n 0, 1) := by decide +kernel
theorem dX5_readResult_16 : decode cX5_readResult 16 = .ok (.bipush 97, 2) := by decide +kernel
theorem dX5_readResult_18 : decode cX5_readResult 18 = .ok (.bipush 112, 2) := by decide +kernel
theorem dX5_readResult_20 : decode cX5_readResult 20 = .ok (.iconst 0, 1) := by decide +kernel
theorem dX5_readResult_21 : decode cX5_readResult 21 = .ok (.invokevirtual 61, 3) := by decide +kernel
theorem dX5_readResult_24 : decode cX5_readResult 24 = .ok (.putfield 65, 3) := by decide +kernel
theorem dX5_readResult_27 : decode cX5_readResult 27 = .ok (.aload_n 1, 1) := by decide +kernel
theorem dX5_readResult_28 : decode cX5_readResult 28 = .ok (.getfield 65, 3) := by decide +kernel
theorem dX5_readResult_31 : decode cX5_readResult 31 = .ok (.iconst (-1), 1) := by decide +kernel
theorem dX5_readResult_32 : decode cX5_readResult 32 = .ok (.if_icmp .eq 7, 3) := by decide +kernel
theorem dX5_readResult_35 : decode cX5_readResult 35 = .ok (.iconst 1, 1) := by decide +kernel
theorem dX5_readResult_36 : decode cX5_readResult 36 = .ok (.goto 4, 3) := by decide +kernel
theorem dX5_readResult_39 : decode cX5_readResult 39 = .ok (.iconst 0, 1) := by decide +kernel
theorem dX5_readResult_40 : decode cX5_readResult 40 = .ok (.ireturn, 1) := by decide +kernel
theorem dX5_readSides_0 : decode cX5_readSides 0 = .ok (.aload_n 0, 1) := by decide +kernel
theorem dX5_readSides_1 : decode cX5_readSides 1 = .ok (.bipush 47, 2) := by decide +kernel
theorem dX5_readSides_3 : decode cX5_readSides 3 = .ok (.invokevirtual 40, 3) := by decide +kernel
theorem dX5_readSides_6 : decode cX5_readSides 6 = .ok (.ifCond .ne 5, 3) := by decide +kernel
theorem dX5_readSides_9 : decode cX5_readSides 9 = .ok (.iconst 0, 1) := by decide +kernel
theorem dX5_readSides_10 : decode cX5_readSides 10 = .ok (.ireturn, 1) := by decide +kernel
theorem dX5_readSides_11 : decode cX5_readSides 11 = .ok (.aload_n 1, 1) := by decide +kernel
theorem dX5_readSides_12 : decode cX5_readSides 12 = .ok (.aload_n 0, 1) := by decide +kernel
theorem dX5_readSides_13 : decode cX5_readSides 13 = .ok (.bipush 95, 2) := by decide +kernel
theorem dX5_readSides_15 : decode cX5_readSides 15 = .ok (.invokevirtual 68, 3) := by decide +kernel
theorem dX5_readSides_18 : decode cX5_readSides 18 = .ok (.ifCond .eq 8, 3) := by decide +kernel
theorem dX5_readSides_21 : decode cX5_readSides 21 = .ok (.bipush 29, 2) := by decide +kernel
theorem dX5_readSides_23 : decode cX5_readSides 23 = .ok (.goto 7, 3) := by decide +kernel
theorem dX5_readSides_26 : decode cX5_readSides 26 = .ok (.aload_n 0, 1) := by decide +kernel
theorem dX5_readSides_27 : decode cX5_readSides 27 = .ok (.invokevirtual 71, 3) := by decide +kernel
theorem dX5_readSides_30 : decode cX5_readSides 30 = .ok (.putfield 30, 3) := by decide +kernel
theorem dX5_readSides_33 : decode cX5_readSides 33 = .ok (.aload_n 1, 1) := by decide +kernel
theorem dX5_readSides_34 : decode cX5_readSides 34 = .ok (.getfield 30, 3) := by decide +kernel
theorem dX5_readSides_37 : decode cX5_readSides 37 = .ok (.iconst (-1), 1) := by decide +kernel
theorem dX5_readSides_38 : decode cX5_readSides 38 = .ok (.if_icmp .eq 12, 3) := by decide +kernel
theorem dX5_readSides_41 : decode cX5_readSides 41 = .ok (.aload_n 0, 1) := by decide +kernel
theorem dX5_readSides_42 : decode cX5_readSides 42 = .ok (.bipush 95, 2) := by decide +kernel
theorem dX5_readSides_44 : decode cX5_readSides 44 = .ok (.invokevirtual 40, 3) := by decide +kernel
theorem dX5_readSides_47 : decode cX5_readSides 47 = .ok (.ifCond .ne 5, 3) := by decide +kernel
theorem dX5_readSides_50 : decode cX5_readSides 50 = .ok (.iconst 0, 1) := by decide +kernel
theorem dX5_readSides_51 : decode cX5_readSides 51 = .ok (.ireturn, 1) := by decide +kernel
theorem dX5_readSides_52 : decode cX5_readSides 52 = .ok (.aload_n 1, 1) := by decide +kernel
theorem dX5_readSides_53 : decode cX5_readSides 53 = .ok (.aload_n 0, 1) := by decide +kernel
theorem dX5_readSides_54 : decode cX5_readSides 54 = .ok (.invokevirtual 47, 3) := by decide +kernel
theorem dX5_readSides_57 : decode cX5_readSides 57 = .ok (.ifCond .eq 8, 3) := by decide +kernel
theorem dX5_readSides_60 : decode cX5_readSides 60 = .ok (.bipush 29, 2) := by decide +kernel
theorem dX5_readSides_62 : decode cX5_readSides 62 = .ok (.goto 7, 3) := by decide +kernel
theorem dX5_readSides_65 : decode cX5_readSides 65 = .ok (.aload_n 0, 1) := by decide +kernel
theorem dX5_readSides_66 : decode cX5_readSides 66 = .ok (.invokevirtual 71, 3) := by decide +kernel
theorem dX5_readSides_69 : decode cX5_readSides 69 = .ok (.putfield 33, 3) := by decide +kernel
theorem dX5_readSides_72 : decode cX5_readSides 72 = .ok (.aload_n 1, 1) := by decide +kernel
theorem dX5_readSides_73 : decode cX5_readSides 73 = .ok (.getfield 33, 3) := by decide +kernel
theorem dX5_readSides_76 : decode cX5_readSides 76 = .ok (.iconst (-1), 1) := by decide +kernel
theorem dX5_readSides_77 : decode cX5_readSides 77 = .ok (.if_icmp .eq 14, 3) := by decide +kernel
theorem dX5_readSides_80 : decode cX5_readSides 80 = .ok (.aload_n 0, 1) := by decide +kernel
theorem dX5_readSides_81 : decode cX5_readSides 81 = .ok (.invokevirtual 47, 3) := by decide +kernel
theorem dX5_readSides_84 : decode cX5_readSides 84 = .ok (.ifCond .eq 7, 3) := by decide +kernel
theorem dX5_readSides_87 : decode cX5_readSides 87 = .ok (.iconst 1, 1) := by decide +kernel
theorem dX5_readSides_88 : decode cX5_readSides 88 = .ok (.goto 4, 3) := by decide +kernel
theorem dX5_readSides_91 : decode cX5_readSides 91 = .ok (.iconst 0, 1) := by decide +kernel
theorem dX5_readSides_92 : decode cX5_readSides 92 = .ok (.ireturn, 1) := by decide +kernel
theorem dX5_takeSide_0 : decode cX5_takeSide 0 = .ok (.aload_n 0, 1) := by decide +kernel
theorem dX5_takeSide_1 : decode cX5_takeSide 1 = .ok (.bipush 35, 2) := by decide +kernel
theorem dX5_takeSide_3 : decode cX5_takeSide 3 = .ok (.invokevirtual 40, 3) := by decide +kernel
theorem dX5_takeSide_6 : decode cX5_takeSide 6 = .ok (.ifCond .eq 8, 3) := by decide +kernel
theorem dX5_takeSide_9 : decode cX5_takeSide 9 = .ok (.bipush 28, 2) := by decide +kernel
theorem dX5_takeSide_11 : decode cX5_takeSide 11 = .ok (.goto 7, 3) := by decide +kernel
theorem dX5_takeSide_14 : decode cX5_takeSide 14 = .ok (.aload_n 0, 1) := by decide +kernel
theorem dX5_takeSide_15 : decode cX5_takeSide 15 = .ok (.invokevirtual 54, 3) := by decide +kernel
theorem dX5_takeSide_18 : decode cX5_takeSide 18 = .ok (.ireturn, 1) := by decide +kernel
theorem dX5_takePattern_0 : decode cX5_takePattern 0 = .ok (.aload_n 0, 1) := by decide +kernel
theorem dX5_takePattern_1 : decode cX5_takePattern 1 = .ok (.bipush 43, 2) := by decide +kernel
theorem dX5_takePattern_3 : decode cX5_takePattern 3 = .ok (.invokevirtual 40, 3) := by decide +kernel
theorem dX5_takePattern_6 : decode cX5_takePattern 6 = .ok (.ifCond .eq 14, 3) := by decide +kernel
theorem dX5_takePattern_9 : decode cX5_takePattern 9 = .ok (.aload_n 0, 1) := by decide +kernel
theorem dX5_takePattern_10 : decode cX5_takePattern 10 = .ok (.bipush 48, 2) := by decide +kernel
theorem dX5_takePattern_12 : decode cX5_takePattern 12 = .ok (.bipush 53, 2) := by decide +kernel
theorem dX5_takePattern_14 : decode cX5_takePattern 14 = .ok (.bipush 16, 2) := by decide +kernel
theorem dX5_takePattern_16 : decode cX5_takePattern 16 = .ok (.invokevirtual 61, 3) := by decide +kernel
theorem dX5_takePattern_19 : decode cX5_takePattern 19 = .ok (.ireturn, 1) := by decide +kernel
theorem dX5_takePattern_20 : decode cX5_takePattern 20 = .ok (.aload_n 0, 1) := by decide +kernel
theorem dX5_takePattern_21 : decode cX5_takePattern 21 = .ok (.bipush 45, 2) := by decide +kernel
theorem dX5_takePattern_23 : decode cX5_takePattern 23 = .ok (.invokevirtual 40, 3) := by decide +kernel
theorem dX5_takePattern_26 : decode cX5_takePattern 26 = .ok (.ifCond .eq 16, 3) := by decide +kernel
theorem dX5_takePattern_29 : decode cX5_takePattern 29 = .ok (.aload_n 0, 1) := by decide +kernel
theorem dX5_takePattern_30 : decode cX5_takePattern 30 = .ok (.bipush 48, 2) := by decide +kernel
theorem dX5_takePattern_32 : decode cX5_takePattern 32 = .ok (.bipush 53, 2) := by decide +kernel
theorem dX5_takePattern_34 : decode cX5_takePattern 34 = .ok (.bipush 22, 2) := by decide +kernel
theorem dX5_takePattern_36 : decode cX5_takePattern 36 = .ok (.invokevirtual 61, 3) := by decide +kernel
theorem dX5_takePattern_39 : decode cX5_takePattern 39 = .ok (.goto 12, 3) := by decide +kernel
theorem dX5_takePattern_42 : decode cX5_takePattern 42 = .ok (.aload_n 0, 1) := by decide +kernel
theorem dX5_takePattern_43 : decode cX5_takePattern 43 = .ok (.bipush 97, 2) := by decide +kernel
theorem dX5_takePattern_45 : decode cX5_takePattern 45 = .ok (.bipush 112, 2) := by decide +kernel
theorem dX5_takePattern_47 : decode cX5_takePattern 47 = .ok (.iconst 0, 1) := by decide +kernel
theorem dX5_takePattern_48 : decode cX5_takePattern 48 = .ok (.invokevirtual 61, 3) := by decide +kernel
theorem dX5_takePattern_51 : decode cX5_takePattern 51 = .ok (.ireturn, 1) := by decide +kernel
theorem dX5_takeBetween_0 : decode cX5_takeBetween 0 = .ok (.aload_n 0, 1) := by decide +kernel
theorem dX5_takeBetween_1 : decode cX5_takeBetween 1 = .ok (.getfield 19, 3) := by decide +kernel
theorem dX5_takeBetween_4 : decode cX5_takeBetween 4 = .ok (.aload_n 0, 1) := by decide +kernel
theorem dX5_takeBetween_5 : decode cX5_takeBetween 5 = .ok (.getfield 15, 3) := by decide +kernel
theorem dX5_takeBetween_8 : decode cX5_takeBetween 8 = .ok (.if_icmp .ge 29, 3) := by decide +kernel
theorem dX5_takeBetween_11 : decode cX5_takeBetween 11 = .ok (.aload_n 0, 1) := by decide +kernel
theorem dX5_takeBetween_12 : decode cX5_takeBetween 12 = .ok (.getfield 9, 3) := by decide +kernel
theorem dX5_takeBetween_15 : decode cX5_takeBetween 15 = .ok (.aload_n 0, 1) := by decide +kernel
theorem dX5_takeBetween_16 : decode cX5_takeBetween 16 = .ok (.getfield 19, 3) := by decide +kernel
theorem dX5_takeBetween_19 : decode cX5_takeBetween 19 = .ok (.iaload, 1) := by decide +kernel
theorem dX5_takeBetween_20 : decode cX5_takeBetween 20 = .ok (.iload_n 1, 1) := by decide +kernel
theorem dX5_takeBetween_21 : decode cX5_takeBetween 21 = .ok (.if_icmp .lt 16, 3) := by decide +kernel
theorem dX5_takeBetween_24 : decode cX5_takeBetween 24 = .ok (.aload_n 0, 1) := by decide +kernel
theorem dX5_takeBetween_25 : decode cX5_takeBetween 25 = .ok (.getfield 9, 3) := by decide +kernel
theorem dX5_takeBetween_28 : decode cX5_takeBetween 28 = .ok (.aload_n 0, 1) := by decide +kernel
theorem dX5_takeBetween_29 : decode cX5_takeBetween 29 = .ok (.getfield 19, 3) := by decide +kernel
theorem dX5_takeBetween_32 : decode cX5_takeBetween 32 = .ok (.iaload, 1) := by decide +kernel
theorem dX5_takeBetween_33 : decode cX5_takeBetween 33 = .ok (.iload_n 2, 1) := by decide +kernel
theorem dX5_takeBetween_34 : decode cX5_takeBetween 34 = .ok (.if_icmp .le 5, 3) := by decide +kernel
theorem dX5_takeBetween_37 : decode cX5_takeBetween 37 = .ok (.iconst (-1), 1) := by decide +kernel
theorem dX5_takeBetween_38 : decode cX5_takeBetween 38 = .ok (.ireturn, 1) := by decide +kernel
theorem dX5_takeBetween_39 : decode cX5_takeBetween 39 = .ok (.aload_n 0, 1) := by decide +kernel
theorem dX5_takeBetween_40 : decode cX5_takeBetween 40 = .ok (.dup, 1) := by decide +kernel
theorem dX5_takeBetween_41 : decode cX5_takeBetween 41 = .ok (.getfield 19, 3) := by decide +kernel
theorem dX5_takeBetween_44 : decode cX5_takeBetween 44 = .ok (.iconst 1, 1) := by decide +kernel
theorem dX5_takeBetween_45 : decode cX5_takeBetween 45 = .ok (.iadd, 1) := by decide +kernel
theorem dX5_takeBetween_46 : decode cX5_takeBetween 46 = .ok (.putfield 19, 3) := by decide +kernel
theorem dX5_takeBetween_49 : decode cX5_takeBetween 49 = .ok (.iload_n 3, 1) := by decide +kernel
theorem dX5_takeBetween_50 : decode cX5_takeBetween 50 = .ok (.aload_n 0, 1) := by decide +kernel
theorem dX5_takeBetween_51 : decode cX5_takeBetween 51 = .ok (.getfield 9, 3) := by decide +kernel
theorem dX5_takeBetween_54 : decode cX5_takeBetween 54 = .ok (.aload_n 0, 1) := by decide +kernel
theorem dX5_takeBetween_55 : decode cX5_takeBetween 55 = .ok (.getfield 19, 3) := by decide +kernel
theorem dX5_takeBetween_58 : decode cX5_takeBetween 58 = .ok (.iconst 1, 1) := by decide +kernel
theorem dX5_takeBetween_59 : decode cX5_takeBetween 59 = .ok (.isub, 1) := by decide +kernel
theorem dX5_takeBetween_60 : decode cX5_takeBetween 60 = .ok (.iaload, 1) := by decide +kernel
theorem dX5_takeBetween_61 : decode cX5_takeBetween 61 = .ok (.iadd, 1) := by decide +kernel
theorem dX5_takeBetween_62 : decode cX5_takeBetween 62 = .ok (.iload_n 1, 1) := by decide +kernel
theorem dX5_takeBetween_63 : decode cX5_takeBetween 63 = .ok (.isub, 1) := by decide +kernel
theorem dX5_takeBetween_64 : decode cX5_takeBetween 64 = .ok (.ireturn, 1) := by decide +kernel
theorem dX6_init_0 : decode cX6_init 0 = .ok (.aload_n 0, 1) := by decide +kernel
theorem dX6_init_1 : decode cX6_init 1 = .ok (.invokespecial 3, 3) := by decide +kernel
theorem dX6_init_4 : decode cX6_init 4 = .ok (.aload_n 0, 1) := by decide +kernel
theorem dX6_init_5 : decode cX6_init 5 = .ok (.bipush 81, 2) := by decide +kernel
theorem dX6_init_7 : decode cX6_init 7 = .ok (.newarray .int, 2) := by decide +kernel
theorem dX6_init_9 : decode cX6_init 9 = .ok (.putfield 11, 3) := by decide +kernel
theorem dX6_init_12 : decode cX6_init 12 = .ok (.aload_n 0, 1) := by decide +kernel
theorem dX6_init_13 : decode cX6_init 13 = .ok (.bipush 6, 2) := by decide +kernel
theorem dX6_init_15 : decode cX6_init 15 = .ok (.putfield 15, 3) := by decide +kernel
theorem dX6_init_18 : decode cX6_init 18 = .ok (.aload_n 0, 1) := by decide +kernel
theorem dX6_init_19 : decode cX6_init 19 = .ok (.iconst 3, 1) := by decide +kernel
theorem dX6_init_20 : decode cX6_init 20 = .ok (.putfield 19, 3) := by decide +kernel
theorem dX6_init_23 : decode cX6_init 23 = .ok (.aload_n 0, 1) := by decide +kernel
theorem dX6_init_24 : decode cX6_init 24 = .ok (.aload_n 1, 1) := by decide +kernel
theorem dX6_init_25 : decode cX6_init 25 = .ok (.putfield 22, 3) := by decide +kernel
theorem dX6_init_28 : decode cX6_init 28 = .ok (.return_, 1) := by decide +kernel
theorem dX6_leastCost_0 : decode cX6_leastCost 0 = .ok (.aload_n 1, 1) := by decide +kernel
theorem dX6_leastCost_1 : decode cX6_leastCost 1 = .ok (.getfield 26, 3) := by decide +kernel
theorem dX6_leastCost_4 : decode cX6_leastCost 4 = .ok (.istore_n 3, 1) := by decide +kernel
theorem dX6_leastCost_5 : decode cX6_leastCost 5 = .ok (.iload_n 3, 1) := by decide +kernel
theorem dX6_leastCost_6 : decode cX6_leastCost 6 = .ok (.ifCond .lt 141, 3) := by decide +kernel
theorem dX6_leastCost_9 : decode cX6_leastCost 9 = .ok (.aload_n 2, 1) := by decide +kernel
theorem dX6_leastCost_10 : decode cX6_leastCost 10 = .ok (.getfield 26, 3) := by decide +kernel
theorem dX6_leastCost_13 : decode cX6_leastCost 13 = .ok (.istore 4, 2) := by decide +kernel
theorem dX6_leastCost_15 : decode cX6_leastCost 15 = .ok (.iload 4, 2) := by decide +kernel
theorem dX6_leastCost_17 : decode cX6_leastCost 17 = .ok (.ifCond .lt 124, 3) := by decide +kernel
theorem dX6_leastCost_20 : decode cX6_leastCost 20 = .ok (.iload_n 3, 1) := by decide +kernel
theorem dX6_leastCost_21 : decode cX6_leastCost 21 = .ok (.aload_n 1, 1) := by decide +kernel
theorem dX6_leastCost_22 : decode cX6_leastCost 22 = .ok (.getfield 26, 3) := by decide +kernel
theorem dX6_leastCost_25 : decode cX6_leastCost 25 = .ok (.if_icmp .eq 12, 3) := by decide +kernel
theorem dX6_leastCost_28 : decode cX6_leastCost 28 = .ok (.iload 4, 2) := by decide +kernel
theorem dX6_leastCost_30 : decode cX6_leastCost 30 = .ok (.aload_n 2, 1) := by decide +kernel
theorem dX6_leastCost_31 : decode cX6_leastCost 31 = .ok (.getfield 26, 3) := by decide +kernel
theorem dX6_leastCost_34 : decode cX6_leastCost 34 = .ok (.if_icmp .ne 37, 3) := by decide +kernel
theorem dX6_leastCost_37 : decode cX6_leastCost 37 = .ok (.aload_n 0, 1) := by decide +kernel
theorem dX6_leastCost_38 : decode cX6_leastCost 38 = .ok (.getfield 11, 3) := by decide +kernel
theorem dX6_leastCost_41 : decode cX6_leastCost 41 = .ok (.iload_n 3, 1) := by decide +kernel
theorem dX6_leastCost_42 : decode cX6_leastCost 42 = .ok (.bipush 9, 2) := by decide +kernel
theorem dX6_leastCost_44 : decode cX6_leastCost 44 = .ok (.imul, 1) := by decide +kernel
theorem dX6_leastCost_45 : decode cX6_leastCost 45 = .ok (.iload 4, 2) := by decide +kernel
theorem dX6_leastCost_47 : decode cX6_leastCost 47 = .ok (.iadd, 1) := by decide +kernel
theorem dX6_leastCost_48 : decode cX6_leastCost 48 = .ok (.aload_n 1, 1) := by decide +kernel
theorem dX6_leastCost_49 : decode cX6_leastCost 49 = .ok (.getfield 26, 3) := by decide +kernel
theorem dX6_leastCost_52 : decode cX6_leastCost 52 = .ok (.iload_n 3, 1) := by decide +kernel
theorem dX6_leastCost_53 : decode cX6_leastCost 53 = .ok (.isub, 1) := by decide +kernel
theorem dX6_leastCost_54 : decode cX6_leastCost 54 = .ok (.aload_n 2, 1) := by decide +kernel
theorem dX6_leastCost_55 : decode cX6_leastCost 55 = .ok (.getfield 26, 3) := by decide +kernel
theorem dX6_leastCost_58 : decode cX6_leastCost 58 = .ok (.iadd, 1) := by decide +kernel
theorem dX6_leastCost_59 : decode cX6_leastCost 59 = .ok (.iload 4, 2) := by decide +kernel
theorem dX6_leastCost_61 : decode cX6_leastCost 61 = .ok (.isub, 1) := by decide +kernel
theorem dX6_leastCost_62 : decode cX6_leastCost 62 = .ok (.aload_n 0, 1) := by decide +kernel
theorem dX6_leastCost_63 : decode cX6_leastCost 63 = .ok (.getfield 15, 3) := by decide +kernel
theorem dX6_leastCost_66 : decode cX6_leastCost 66 = .ok (.imul, 1) := by decide +kernel
theorem dX6_leastCost_67 : decode cX6_leastCost 67 = .ok (.iastore, 1) := by decide +kernel
theorem dX6_leastCost_68 : decode cX6_leastCost 68 = .ok (.goto 67, 3) := by decide +kernel
theorem dX6_leastCost_71 : decode cX6_leastCost 71 = .ok (.aload_n 0, 1) := by decide +kernel
theorem dX6_leastCost_72 : decode cX6_leastCost 72 = .ok (.getfield 11, 3) := by decide +kernel
theorem dX6_leastCost_75 : decode cX6_leastCost 75 = .ok (.iload_n 3, 1) := by decide +kernel
theorem dX6_leastCost_76 : decode cX6_leastCost 76 = .ok (.iconst 1, 1) := by decide +kernel
theorem dX6_leastCost_77 : decode cX6_leastCost 77 = .ok (.iadd, 1) := by decide +kernel
theorem dX6_leastCost_78 : decode cX6_leastCost 78 = .ok (.bipush 9, 2) := by decide +kernel
theorem dX6_leastCost_80 : decode cX6_leastCost 80 = .ok (.imul, 1) := by decide +kernel
theorem dX6_leastCost_81 : decode cX6_leastCost 81 = .ok (.iload 4, 2) := by decide +kernel
theorem dX6_leastCost_83 : decode cX6_leastCost 83 = .ok (.iadd, 1) := by decide +kernel
theorem dX6_leastCost_84 : decode cX6_leastCost 84 = .ok (.iaload, 1) := by decide +kernel
theorem dX6_leastCost_85 : decode cX6_leastCost 85 = .ok (.aload_n 0, 1) := by decide +kernel
theorem dX6_leastCost_86 : decode cX6_leastCost 86 = .ok (.getfield 11, 3) := by decide +kernel
theorem dX6_leastCost_89 : decode cX6_leastCost 89 = .ok (.iload_n 3, 1) := by decide +kernel
theorem dX6_leastCost_90 : decode cX6_leastCost 90 = .ok (.bipush 9, 2) := by decide +kernel
theorem dX6_leastCost_92 : decode cX6_leastCost 92 = .ok (.imul, 1) := by decide +kernel
theorem dX6_leastCost_93 : decode cX6_leastCost 93 = .ok (.iload 4, 2) := by decide +kernel
theorem dX6_leastCost_95 : decode cX6_leastCost 95 = .ok (.iadd, 1) := by decide +kernel
theorem dX6_leastCost_96 : decode cX6_leastCost 96 = .ok (.iconst 1, 1) := by decide +kernel
theorem dX6_leastCost_97 : decode cX6_leastCost 97 = .ok (.iadd, 1) := by decide +kernel
theorem dX6_leastCost_98 : decode cX6_leastCost 98 = .ok (.iaload, 1) := by decide +kernel
theorem dX6_leastCost_99 : decode cX6_leastCost 99 = .ok (.invokestatic 31, 3) := by decide +kernel
theorem dX6_leastCost_102 : decode cX6_leastCost 102 = .ok (.aload_n 0, 1) := by decide +kernel
theorem dX6_leastCost_103 : decode cX6_leastCost 103 = .ok (.getfield 15, 3) := by decide +kernel
theorem dX6_leastCost_106 : decode cX6_leastCost 106 = .ok (.iadd, 1) := by decide +kernel
theorem dX6_leastCost_107 : decode cX6_leastCost 107 = .ok (.istore 5, 2) := by decide +kernel
theorem dX6_leastCost_109 : decode cX6_leastCost 109 = .ok (.aload_n 0, 1) := by decide +kernel
theorem dX6_leastCost_110 : decode cX6_leastCost 110 = .ok (.getfield 11, 3) := by decide +kernel
theorem dX6_leastCost_113 : decode cX6_leastCost 113 = .ok (.iload_n 3, 1) := by decide +kernel
theorem dX6_leastCost_114 : decode cX6_leastCost 114 = .ok (.bipush 9, 2) := by decide +kernel
theorem dX6_leastCost_116 : decode cX6_leastCost 116 = .ok (.imul, 1) := by decide +kernel
theorem dX6_leastCost_117 : decode cX6_leastCost 117 = .ok (.iload 4, 2) := by decide +kernel
theorem dX6_leastCost_119 : decode cX6_leastCost 119 = .ok (.iadd, 1) := by decide +kernel
theorem dX6_leastCost_120 : decode cX6_leastCost 120 = .ok (.iload 5, 2) := by decide +kernel
theorem dX6_leastCost_122 : decode cX6_leastCost 122 = .ok (.aload_n 0, 1) := by decide +kernel
theorem dX6_leastCost_123 : decode cX6_leastCost 123 = .ok (.aload_n 1, 1) := by decide +kernel
theorem dX6_leastCost_124 : decode cX6_leastCost 124 = .ok (.aload_n 2, 1) := by decide +kernel
theorem dX6_leastCost_125 : decode cX6_leastCost 125 = .ok (.iload_n 3, 1) := by decide +kernel
theorem dX6_leastCost_126 : decode cX6_leastCost 126 = .ok (.iload 4, 2) := by decide +kernel
theorem dX6_leastCost_128 : decode cX6_leastCost 128 = .ok (.invokevirtual 37, 3) := by decide +kernel
theorem dX6_leastCost_131 : decode cX6_leastCost 131 = .ok (.invokestatic 31, 3) := by decide +kernel
theorem dX6_leastCost_134 : decode cX6_leastCost 134 = .ok (.iastore, 1) := by decide +kernel
theorem dX6_leastCost_135 : decode cX6_leastCost 135 = .ok (.iinc 4 (-1), 3) := by decide +kernel
theorem dX6_leastCost_138 : decode cX6_leastCost 138 = .ok (.goto (-123), 3) := by decide +kernel
theorem dX6_leastCost_141 : decode cX6_leastCost 141 = .ok (.iinc 3 (-1), 3) := by decide +kernel
theorem dX6_leastCost_144 : decode cX6_leastCost 144 = .ok (.goto (-139), 3) := by decide +kernel
theorem dX6_leastCost_147 : decode cX6_leastCost 147 = .ok (.aload_n 0, 1) := by decide +kernel
theorem dX6_leastCost_148 : decode cX6_leastCost 148 = .ok (.getfield 11, 3) := by decide +kernel
theorem dX6_leastCost_151 : decode cX6_leastCost 151 = .ok (.iconst 0, 1) := by decide +kernel
theorem dX6_leastCost_152 : decode cX6_leastCost 152 = .ok (.iaload, 1) := by decide +kernel
theorem dX6_leastCost_153 : decode cX6_leastCost 153 = .ok (.ireturn, 1) := by decide +kernel
theorem dX6_costOfPair_0 : decode cX6_costOfPair 0 = .ok (.aload_n 0, 1) := by decide +kernel
theorem dX6_costOfPair_1 : decode cX6_costOfPair 1 = .ok (.getfield 22, 3) := by decide +kernel
theorem dX6_costOfPair_4 : decode cX6_costOfPair 4 = .ok (.aload_n 1, 1) := by decide +kernel
theorem dX6_costOfPair_5 : decode cX6_costOfPair 5 = .ok (.getfield 41, 3) := by decide +kernel
theorem dX6_costOfPair_8 : decode cX6_costOfPair 8 = .ok (.iload_n 3, 1) := by decide +kernel
theorem dX6_costOfPair_9 : decode cX6_costOfPair 9 = .ok (.iaload, 1) := by decide +kernel
theorem dX6_costOfPair_10 : decode cX6_costOfPair 10 = .ok (.aload_n 2, 1) := by decide +kernel
theorem dX6_costOfPair_11 : decode cX6_costOfPair 11 = .ok (.getfield 41, 3) := by decide +kernel
theorem dX6_costOfPair_14 : decode cX6_costOfPair 14 = .ok (.iload 4, 2) := by decide +kernel
theorem dX6_costOfPair_16 : decode cX6_costOfPair 16 = .ok (.iaload, 1) := by decide +kernel
theorem dX6_costOfPair_17 : decode cX6_costOfPair 17 = .ok (.invokevirtual 44, 3) := by decide +kernel
theorem dX6_costOfPair_20 : decode cX6_costOfPair 20 = .ok (.aload_n 0, 1) := by decide +kernel
theorem dX6_costOfPair_21 : decode cX6_costOfPair 21 = .ok (.getfield 11, 3) := by decide +kernel
theorem dX6_costOfPair_24 : decode cX6_costOfPair 24 = .ok (.iload_n 3, 1) := by decide +kernel
theorem dX6_costOfPair_25 : decode cX6_costOfPair 25 = .ok (.iconst 1, 1) := by decide +kernel
theorem dX6_costOfPair_26 : decode cX6_costOfPair 26 = .ok (.iadd, 1) := by decide +kernel
theorem dX6_costOfPair_27 : decode cX6_costOfPair 27 = .ok (.bipush 9, 2) := by decide +kernel
theorem dX6_costOfPair_29 : decode cX6_costOfPair 29 = .ok (.imul, 1) := by decide +kernel
theorem dX6_costOfPair_30 : decode cX6_costOfPair 30 = .ok (.iload 4, 2) := by decide +kernel
theorem dX6_costOfPair_32 : decode cX6_costOfPair 32 = .ok (.iadd, 1) := by decide +kernel
theorem dX6_costOfPair_33 : decode cX6_costOfPair 33 = .ok (.iconst 1, 1) := by decide +kernel
theorem dX6_costOfPair_34 : decode cX6_costOfPair 34 = .ok (.iadd, 1) := by decide +kernel
theorem dX6_costOfPair_35 : decode cX6_costOfPair 35 = .ok (.iaload, 1) := by decide +kernel
theorem dX6_costOfPair_36 : decode cX6_costOfPair 36 = .ok (.iadd, 1) := by decide +kernel
theorem dX6_costOfPair_37 : decode cX6_costOfPair 37 = .ok (.ireturn, 1) := by decide +kernel
theorem dX6_column_0 : decode cX6_column 0 = .ok (.aload_n 0, 1) := by decide +kernel
theorem dX6_column_1 : decode cX6_column 1 = .ok (.aload_n 1, 1) := by decide +kernel
theorem dX6_column_2 : decode cX6_column 2 = .ok (.aload_n 2, 1) := by decide +kernel
theorem dX6_column_3 : decode cX6_column 3 = .ok (.invokevirtual 49, 3) := by decide +kernel
theorem dX6_column_6 : decode cX6_column 6 = .ok (.pop, 1) := by decide +kernel
theorem dX6_column_7 : decode cX6_column 7 = .ok (.iconst 0, 1) := by decide +kernel
theorem dX6_column_8 : decode cX6_column 8 = .ok (.istore 4, 2) := by decide +kernel
theorem dX6_column_10 : decode cX6_column 10 = .ok (.iconst 0, 1) := by decide +kernel
theorem dX6_column_11 : decode cX6_column 11 = .ok (.istore 5, 2) := by decide +kernel
theorem dX6_column_13 : decode cX6_column 13 = .ok (.iconst 0, 1) := by decide +kernel
theorem dX6_column_14 : decode cX6_column 14 = .ok (.istore 6, 2) := by decide +kernel
theorem dX6_column_16 : decode cX6_column 16 = .ok (.iload 6, 2) := by decide +kernel
theorem dX6_column_18 : decode cX6_column 18 = .ok (.bipush 16, 2) := by decide +kernel
theorem dX6_column_20 : decode cX6_column 20 = .ok (.if_icmp .ge 155, 3) := by decide +kernel
theorem dX6_column_23 : decode cX6_column 23 = .ok (.iload 4, 2) := by decide +kernel
theorem dX6_column_25 : decode cX6_column 25 = .ok (.aload_n 1, 1) := by decide +kernel
theorem dX6_column_26 : decode cX6_column 26 = .ok (.getfield 26, 3) := by decide +kernel
theorem dX6_column_29 : decode cX6_column 29 = .ok (.if_icmp .lt 12, 3) := by decide +kernel
theorem dX6_column_32 : decode cX6_column 32 = .ok (.iload 5, 2) := by decide +kernel
theorem dX6_column_34 : decode cX6_column 34 = .ok (.aload_n 2, 1) := by decide +kernel
theorem dX6_column_35 : decode cX6_column 35 = .ok (.getfield 26, 3) := by decide +kernel
theorem dX6_column_38 : decode cX6_column 38 = .ok (.if_icmp .ge 137, 3) := by decide +kernel
theorem dX6_column_41 : decode cX6_column 41 = .ok (.aload_n 0, 1) := by decide +kernel
theorem dX6_column_42 : decode cX6_column 42 = .ok (.aload_n 1, 1) := by decide +kernel
theorem dX6_column_43 : decode cX6_column 43 = .ok (.aload_n 2, 1) := by decide +kernel
theorem dX6_column_44 : decode cX6_column 44 = .ok (.iload 4, 2) := by decide +kernel
theorem dX6_column_46 : decode cX6_column 46 = .ok (.iload 5, 2) := by decide +kernel
theorem dX6_column_48 : decode cX6_column 48 = .ok (.invokevirtual 53, 3) := by decide +kernel
theorem dX6_column_51 : decode cX6_column 51 = .ok (.istore 7, 2) := by decide +kernel
theorem dX6_column_53 : decode cX6_column 53 = .ok (.iload 7, 2) := by decide +kernel
theorem dX6_column_55 : decode cX6_column 55 = .ok (.ifCond .ne 15, 3) := by decide +kernel
theorem dX6_column_58 : decode cX6_column 58 = .ok (.aload_n 0, 1) := by decide +kernel
theorem dX6_column_59 : decode cX6_column 59 = .ok (.aload_n 1, 1) := by decide +kernel
theorem dX6_column_60 : decode cX6_column 60 = .ok (.iload 4, 2) := by decide +kernel
theorem dX6_column_62 : decode cX6_column 62 = .ok (.iload 5, 2) := by decide +kernel
theorem dX6_column_64 : decode cX6_column 64 = .ok (.invokevirtual 57, 3) := by decide +kernel
theorem dX6_column_67 : decode cX6_column 67 = .ok (.ifCond .eq 7, 3) := by decide +kernel
theorem dX6_column_70 : decode cX6_column 70 = .ok (.iconst 1, 1) := by decide +kernel
theorem dX6_column_71 : decode cX6_column 71 = .ok (.goto 4, 3) := by decide +kernel
theorem dX6_column_74 : decode cX6_column 74 = .ok (.iconst 0, 1) := by decide +kernel
theorem dX6_column_75 : decode cX6_column 75 = .ok (.istore 8, 2) := by decide +kernel
theorem dX6_column_77 : decode cX6_column 77 = .ok (.iload 7, 2) := by decide +kernel
theorem dX6_column_79 : decode cX6_column 79 = .ok (.ifCond .ne 8, 3) := by decide +kernel
theorem dX6_column_82 : decode cX6_column 82 = .ok (.iload 8, 2) := by decide +kernel
theorem dX6_column_84 : decode cX6_column 84 = .ok (.ifCond .ne 7, 3) := by decide +kernel
theorem dX6_column_87 : decode cX6_column 87 = .ok (.iconst 1, 1) := by decide +kernel
theorem dX6_column_88 : decode cX6_column 88 = .ok (.goto 4, 3) := by decide +kernel
theorem dX6_column_91 : decode cX6_column 91 = .ok (.iconst 0, 1) := by decide +kernel
theorem dX6_column_92 : decode cX6_column 92 = .ok (.istore 9, 2) := by decide +kernel
theorem dX6_column_94 : decode cX6_column 94 = .ok (.iload 6, 2) := by decide +kernel
theorem dX6_column_96 : decode cX6_column 96 = .ok (.iload_n 3, 1) := by decide +kernel
theorem dX6_column_97 : decode cX6_column 97 = .ok (.if_icmp .ne 42, 3) := by decide +kernel
theorem dX6_column_100 : decode cX6_column 100 = .ok (.iload 8, 2) := by decide +kernel
theorem dX6_column_102 : decode cX6_column 102 = .ok (.ifCond .eq 17, 3) := by decide +kernel
theorem dX6_column_105 : decode cX6_column 105 = .ok (.bipush 100, 2) := by decide +kernel
theorem dX6_column_107 : decode cX6_column 107 = .ok (.aload_n 1, 1) := by decide +kernel
theorem dX6_column_108 : decode cX6_column 108 = .ok (.iload 4, 2) := by decide +kernel
theorem dX6_column_110 : decode cX6_column 110 = .ok (.invokevirtual 61, 3) := by decide +kernel
theorem dX6_column_113 : decode cX6_column 113 = .ok (.iconst 1, 1) := by decide +kernel
theorem dX6_column_114 : decode cX6_column 114 = .ok (.iadd, 1) := by decide +kernel
theorem dX6_column_115 : decode cX6_column 115 = .ok (.imul, 1) := by decide +kernel
theorem dX6_column_116 : decode cX6_column 116 = .ok (.goto 4, 3) := by decide +kernel
theorem dX6_column_119 : decode cX6_column 119 = .ok (.iconst 0, 1) := by decide +kernel
theorem dX6_column_120 : decode cX6_column 120 = .ok (.iload 9, 2) := by decide +kernel
theorem dX6_column_122 : decode cX6_column 122 = .ok (.ifCond .eq 14, 3) := by decide +kernel
theorem dX6_column_125 : decode cX6_column 125 = .ok (.aload_n 2, 1) := by decide +kernel
theorem dX6_column_126 : decode cX6_column 126 = .ok (.iload 5, 2) := by decide +kernel
theorem dX6_column_128 : decode cX6_column 128 = .ok (.invokevirtual 61, 3) := by decide +kernel
theorem dX6_column_131 : decode cX6_column 131 = .ok (.iconst 1, 1) := by decide +kernel
theorem dX6_column_132 : decode cX6_column 132 = .ok (.iadd, 1) := by decide +kernel
theorem dX6_column_133 : decode cX6_column 133 = .ok (.goto 4, 3) := by decide +kernel
theorem dX6_column_136 : decode cX6_column 136 = .ok (.iconst 0, 1) := by decide +kernel
theorem dX6_column_137 : decode cX6_column 137 = .ok (.iadd, 1) := by decide +kernel
theorem dX6_column_138 : decode cX6_column 138 = .ok (.ireturn, 1) := by decide +kernel
theorem dX6_column_139 : decode cX6_column 139 = .ok (.iload 4, 2) := by decide +kernel
theorem dX6_column_141 : decode cX6_column 141 = .ok (.iload 8, 2) := by decide +kernel
theorem dX6_column_143 : decode cX6_column 143 = .ok (.ifCond .eq 7, 3) := by decide +kernel
theorem dX6_column_146 : decode cX6_column 146 = .ok (.iconst 1, 1) := by decide +kernel
theorem dX6_column_147 : decode cX6_column 147 = .ok (.goto 4, 3) := by decide +kernel
theorem dX6_column_150 : decode cX6_column 150 = .ok (.iconst 0, 1) := by decide +kernel
theorem dX6_column_151 : decode cX6_column 151 = .ok (.iadd, 1) := by decide +kernel
theorem dX6_column_152 : decode cX6_column 152 = .ok (.istore 4, 2) := by decide +kernel
theorem dX6_column_154 : decode cX6_column 154 = .ok (.iload 5, 2) := by decide +kernel
theorem dX6_column_156 : decode cX6_column 156 = .ok (.iload 9, 2) := by decide +kernel
theorem dX6_column_158 : decode cX6_column 158 = .ok (.ifCond .eq 7, 3) := by decide +kernel
theorem dX6_column_161 : decode cX6_column 161 = .ok (.iconst 1, 1) := by decide +kernel
theorem dX6_column_162 : decode cX6_column 162 = .ok (.goto 4, 3) := by decide +kernel
theorem dX6_column_165 : decode cX6_column 165 = .ok (.iconst 0, 1) := by decide +kernel
theorem dX6_column_166 : decode cX6_column 166 = .ok (.iadd, 1) := by decide +kernel
theorem dX6_column_167 : decode cX6_column 167 = .ok (.istore 5, 2) := by decide +kernel
theorem dX6_column_169 : decode cX6_column 169 = .ok (.iinc 6 1, 3) := by decide +kernel
theorem dX6_column_172 : decode cX6_column 172 = .ok (.goto (-156), 3) := by decide +kernel
theorem dX6_column_175 : decode cX6_column 175 = .ok (.iload_n 3, 1) := by decide +kernel
theorem dX6_column_176 : decode cX6_column 176 = .ok (.iconst (-1), 1) := by decide +kernel
theorem dX6_column_177 : decode cX6_column 177 = .ok (.if_icmp .ne 8, 3) := by decide +kernel
theorem dX6_column_180 : decode cX6_column 180 = .ok (.iload 6, 2) := by decide +kernel
theorem dX6_column_182 : decode cX6_column 182 = .ok (.goto 5, 3) := by decide +kernel
theorem dX6_column_185 : decode cX6_column 185 = .ok (.bipush (-9), 2) := by decide +kernel
theorem dX6_column_187 : decode cX6_column 187 = .ok (.ireturn, 1) := by decide +kernel
theorem dX6_isPair_0 : decode cX6_isPair 0 = .ok (.iload_n 3, 1) := by decide +kernel
theorem dX6_isPair_1 : decode cX6_isPair 1 = .ok (.aload_n 1, 1) := by decide +kernel
theorem dX6_isPair_2 : decode cX6_isPair 2 = .ok (.getfield 26, 3) := by decide +kernel
theorem dX6_isPair_5 : decode cX6_isPair 5 = .ok (.if_icmp .ge 40, 3) := by decide +kernel
theorem dX6_isPair_8 : decode cX6_isPair 8 = .ok (.iload 4, 2) := by decide +kernel
theorem dX6_isPair_10 : decode cX6_isPair 10 = .ok (.aload_n 2, 1) := by decide +kernel
theorem dX6_isPair_11 : decode cX6_isPair 11 = .ok (.getfield 26, 3) := by decide +kernel
theorem dX6_isPair_14 : decode cX6_isPair 14 = .ok (.if_icmp .ge 31, 3) := by decide +kernel
theorem dX6_isPair_17 : decode cX6_isPair 17 = .ok (.aload_n 0, 1) := by decide +kernel
theorem dX6_isPair_18 : decode cX6_isPair 18 = .ok (.getfield 11, 3) := by decide +kernel
theorem dX6_isPair_21 : decode cX6_isPair 21 = .ok (.iload_n 3, 1) := by decide +kernel
theorem dX6_isPair_22 : decode cX6_isPair 22 = .ok (.bipush 9, 2) := by decide +kernel
theorem dX6_isPair_24 : decode cX6_isPair 24 = .ok (.imul, 1) := by decide +kernel
theorem dX6_isPair_25 : decode cX6_isPair 25 = .ok (.iload 4, 2) := by decide +kernel
theorem dX6_isPair_27 : decode cX6_isPair 27 = .ok (.iadd, 1) := by decide +kernel
theorem dX6_isPair_28 : decode cX6_isPair 28 = .ok (.iaload, 1) := by decide +kernel
theorem dX6_isPair_29 : decode cX6_isPair 29 = .ok (.aload_n 0, 1) := by decide +kernel
theorem dX6_isPair_30 : decode cX6_isPair 30 = .ok (.aload_n 1, 1) := by decide +kernel
theorem dX6_isPair_31 : decode cX6_isPair 31 = .ok (.aload_n 2, 1) := by decide +kernel
theorem dX6_isPair_32 : decode cX6_isPair 32 = .ok (.iload_n 3, 1) := by decide +kernel
theorem dX6_isPair_33 : decode cX6_isPair 33 = .ok (.iload 4, 2) := by decide +kernel
theorem dX6_isPair_35 : decode cX6_isPair 35 = .ok (.invokevirtual 37, 3) := by decide +kernel
theorem dX6_isPair_38 : decode cX6_isPair 38 = .ok (.if_icmp .ne 7, 3) := by decide +kernel
theorem dX6_isPair_41 : decode cX6_isPair 41 = .ok (.iconst 1, 1) := by decide +kernel
theorem dX6_isPair_42 : decode cX6_isPair 42 = .ok (.goto 4, 3) := by decide +kernel
theorem dX6_isPair_45 : decode cX6_isPair 45 = .ok (.iconst 0, 1) := by decide +kernel
theorem dX6_isPair_46 : decode cX6_isPair 46 = .ok (.ireturn, 1) := by decide +kernel
theorem dX6_isFirstAlone_0 : decode cX6_isFirstAlone 0 = .ok (.iload_n 2, 1) := by decide +kernel
theorem dX6_isFirstAlone_1 : decode cX6_isFirstAlone 1 = .ok (.aload_n 1, 1) := by decide +kernel
theorem dX6_isFirstAlone_2 : decode cX6_isFirstAlone 2 = .ok (.getfield 26, 3) := by decide +kernel
theorem dX6_isFirstAlone_5 : decode cX6_isFirstAlone 5 = .ok (.if_icmp .ge 39, 3) := by decide +kernel
theorem dX6_isFirstAlone_8 : decode cX6_isFirstAlone 8 = .ok (.aload_n 0, 1) := by decide +kernel
theorem dX6_isFirstAlone_9 : decode cX6_isFirstAlone 9 = .ok (.getfield 11, 3) := by decide +kernel
theorem dX6_isFirstAlone_12 : decode cX6_isFirstAlone 12 = .ok (.iload_n 2, 1) := by decide +kernel
theorem dX6_isFirstAlone_13 : decode cX6_isFirstAlone 13 = .ok (.bipush 9, 2) := by decide +kernel
theorem dX6_isFirstAlone_15 : decode cX6_isFirstAlone 15 = .ok (.imul, 1) := by decide +kernel
theorem dX6_isFirstAlone_16 : decode cX6_isFirstAlone 16 = .ok (.iload_n 3, 1) := by decide +kernel
theorem dX6_isFirstAlone_17 : decode cX6_isFirstAlone 17 = .ok (.iadd, 1) := by decide +kernel
theorem dX6_isFirstAlone_18 : decode cX6_isFirstAlone 18 = .ok (.iaload, 1) := by decide +kernel
theorem dX6_isFirstAlone_19 : decode cX6_isFirstAlone 19 = .ok (.aload_n 0, 1) := by decide +kernel
theorem dX6_isFirstAlone_20 : decode cX6_isFirstAlone 20 = .ok (.getfield 11, 3) := by decide +kernel
theorem dX6_isFirstAlone_23 : decode cX6_isFirstAlone 23 = .ok (.iload_n 2, 1) := by decide +kernel
theorem dX6_isFirstAlone_24 : decode cX6_isFirstAlone 24 = .ok (.iconst 1, 1) := by decide +kernel
theorem dX6_isFirstAlone_25 : decode cX6_isFirstAlone 25 = .ok (.iadd, 1) := by decide +kernel
theorem dX6_isFirstAlone_26 : decode cX6_isFirstAlone 26 = .ok (.bipush 9, 2) := by decide +kernel
theorem dX6_isFirstAlone_28 : decode cX6_isFirstAlone 28 = .ok (.imul, 1) := by decide +kernel
theorem dX6_isFirstAlone_29 : decode cX6_isFirstAlone 29 = .ok (.iload_n 3, 1) := by decide +kernel
theorem dX6_isFirstAlone_30 : decode cX6_isFirstAlone 30 = .ok (.iadd, 1) := by decide +kernel
theorem dX6_isFirstAlone_31 : decode cX6_isFirstAlone 31 = .ok (.iaload, 1) := by decide +kernel
theorem dX6_isFirstAlone_32 : decode cX6_isFirstAlone 32 = .ok (.aload_n 0, 1) := by decide +kernel
theorem dX6_isFirstAlone_33 : decode cX6_isFirstAlone 33 = .ok (.getfield 15, 3) := by decide +kernel
theorem dX6_isFirstAlone_36 : decode cX6_isFirstAlone 36 = .ok (.iadd, 1) := by decide +kernel
theorem dX6_isFirstAlone_37 : decode cX6_isFirstAlone 37 = .ok (.if_icmp .ne 7, 3) := by decide +kernel
theorem dX6_isFirstAlone_40 : decode cX6_isFirstAlone 40 = .ok (.iconst 1, 1) := by decide +kernel
theorem dX6_isFirstAlone_41 : decode cX6_isFirstAlone 41 = .ok (.goto 4, 3) := by decide +kernel
theorem dX6_isFirstAlone_44 : decode cX6_isFirstAlone 44 = .ok (.iconst 0, 1) := by decide +kernel
theorem dX6_isFirstAlone_45 : decode cX6_isFirstAlone 45 = .ok (.ireturn, 1) := by decide +kernel
theorem dX7_init_0 : decode cX7_init 0 = .ok (.aload_n 0, 1) := by decide +kernel
theorem dX7_init_1 : decode cX7_init 1 = .ok (.invokespecial 3, 3) := by decide +kernel
theorem dX7_init_4 : decode cX7_init 4 = .ok (.aload_n 0, 1) := by decide +kernel
theorem dX7_init_5 : decode cX7_init 5 = .ok (.bipush 8, 2) := by decide +kernel
theorem dX7_init_7 : decode cX7_init 7 = .ok (.newarray .int, 2) := by decide +kernel
theorem dX7_init_9 : decode cX7_init 9 = .ok (.putfield 9, 3) := by decide +kernel
theorem dX7_init_12 : decode cX7_init 12 = .ok (.aload_n 0, 1) := by decide +kernel
theorem dX7_init_13 : decode cX7_init 13 = .ok (.iconst 0, 1) := by decide +kernel
theorem dX7_init_14 : decode cX7_init 14 = .ok (.putfield 15, 3) := by decide +kernel
theorem dX7_init_17 : decode cX7_init 17 = .ok (.return_, 1) := by decide +kernel
theorem dX7_clear_0 : decode cX7_clear 0 = .ok (.aload_n 0, 1) := by decide +kernel
theorem dX7_clear_1 : decode cX7_clear 1 = .ok (.iconst 0, 1) := by decide +kernel
theorem dX7_clear_2 : decode cX7_clear 2 = .ok (.putfield 15, 3) := by decide +kernel
theorem dX7_clear_5 : decode cX7_clear 5 = .ok (.return_, 1) := by decide +kernel
theorem dX7_add_0 : decode cX7_add 0 = .ok (.aload_n 0, 1) := by decide +kernel
theorem dX7_add_1 : decode cX7_add 1 = .ok (.getfield 15, 3) := by decide +kernel
theorem dX7_add_4 : decode cX7_add 4 = .ok (.bipush 8, 2) := by decide +kernel
theorem dX7_add_6 : decode cX7_add 6 = .ok (.if_icmp .ge 23, 3) := by decide +kernel
theorem dX7_add_9 : decode cX7_add 9 = .ok (.aload_n 0, 1) := by decide +kernel
theorem dX7_add_10 : decode cX7_add 10 = .ok (.getfield 9, 3) := by decide +kernel
theorem dX7_add_13 : decode cX7_add 13 = .ok (.aload_n 0, 1) := by decide +kernel
theorem dX7_add_14 : decode cX7_add 14 = .ok (.getfield 15, 3) := by decide +kernel
theorem dX7_add_17 : decode cX7_add 17 = .ok (.iload_n 1, 1) := by decide +kernel
theorem dX7_add_18 : decode cX7_add 18 = .ok (.iastore, 1) := by decide +kernel
theorem dX7_add_19 : decode cX7_add 19 = .ok (.aload_n 0, 1) := by decide +kernel
theorem dX7_add_20 : decode cX7_add 20 = .ok (.dup, 1) := by decide +kernel
theorem dX7_add_21 : decode cX7_add 21 = .ok (.getfield 15, 3) := by decide +kernel
theorem dX7_add_24 : decode cX7_add 24 = .ok (.iconst 1, 1) := by decide +kernel
theorem dX7_add_25 : decode cX7_add 25 = .ok (.iadd, 1) := by decide +kernel
theorem dX7_add_26 : decode cX7_add 26 = .ok (.putfield 15, 3) := by decide +kernel
theorem dX7_add_29 : decode cX7_add 29 = .ok (.return_, 1) := by decide +kernel
theorem dX7_become_0 : decode cX7_become 0 = .ok (.aload_n 0, 1) := by decide +kernel
theorem dX7_become_1 : decode cX7_become 1 = .ok (.aload_n 1, 1) := by decide +kernel
theorem dX7_become_2 : decode cX7_become 2 = .ok (.getfield 15, 3) := by decide +kernel
theorem dX7_become_5 : decode cX7_become 5 = .ok (.putfield 15, 3) := by decide +kernel
theorem dX7_become_8 : decode cX7_become 8 = .ok (.aload_n 1, 1) := by decide +kernel
theorem dX7_become_9 : decode cX7_become 9 = .ok (.getfield 9, 3) := by decide +kernel
theorem dX7_become_12 : decode cX7_become 12 = .ok (.iconst 0, 1) := by decide +kernel
theorem dX7_become_13 : decode cX7_become 13 = .ok (.aload_n 0, 1) := by decide +kernel
theorem dX7_become_14 : decode cX7_become 14 = .ok (.getfield 9, 3) := by decide +kernel
theorem dX7_become_17 : decode cX7_become 17 = .ok (.iconst 0, 1) := by decide +kernel
theorem dX7_become_18 : decode cX7_become 18 = .ok (.aload_n 0, 1) := by decide +kernel
theorem dX7_become_19 : decode cX7_become 19 = .ok (.getfield 15, 3) := by decide +kernel
theorem dX7_become_22 : decode cX7_become 22 = .ok (.invokestatic 19, 3) := by decide +kernel
theorem dX7_become_25 : decode cX7_become 25 = .ok (.return_, 1) := by decide +kernel
theorem dX7_becomeCells_0 : decode cX7_becomeCells 0 = .ok (.aload_n 0, 1) := by decide +kernel
theorem dX7_becomeCells_1 : decode cX7_becomeCells 1 = .ok (.invokevirtual 25, 3) := by decide +kernel
theorem dX7_becomeCells_4 : decode cX7_becomeCells 4 = .ok (.iconst 0, 1) := by decide +kernel
theorem dX7_becomeCells_5 : decode cX7_becomeCells 5 = .ok (.istore_n 3, 1) := by decide +kernel
theorem dX7_becomeCells_6 : decode cX7_becomeCells 6 = .ok (.iload_n 3, 1) := by decide +kernel
theorem dX7_becomeCells_7 : decode cX7_becomeCells 7 = .ok (.iload_n 2, 1) := by decide +kernel
theorem dX7_becomeCells_8 : decode cX7_becomeCells 8 = .ok (.if_icmp .ge 16, 3) := by decide +kernel
theorem dX7_becomeCells_11 : decode cX7_becomeCells 11 = .ok (.aload_n 0, 1) := by decide +kernel
theorem dX7_becomeCells_12 : decode cX7_becomeCells 12 = .ok (.aload_n 1, 1) := by decide +kernel
theorem dX7_becomeCells_13 : decode cX7_becomeCells 13 = .ok (.iload_n 3, 1) := by decide +kernel
theorem dX7_becomeCells_14 : decode cX7_becomeCells 14 = .ok (.iaload, 1) := by decide +kernel
theorem dX7_becomeCells_15 : decode cX7_becomeCells 15 = .ok (.invokevirtual 28, 3) := by decide +kernel
theorem dX7_becomeCells_18 : decode cX7_becomeCells 18 = .ok (.iinc 3 1, 3) := by decide +kernel
theorem dX7_becomeCells_21 : decode cX7_becomeCells 21 = .ok (.goto (-15), 3) := by decide +kernel
theorem dX7_becomeCells_24 : decode cX7_becomeCells 24 = .ok (.return_, 1) := by decide +kernel
theorem dX7_at_0 : decode cX7_at 0 = .ok (.iload_n 1, 1) := by decide +kernel
theorem dX7_at_1 : decode cX7_at 1 = .ok (.aload_n 0, 1) := by decide +kernel
theorem dX7_at_2 : decode cX7_at 2 = .ok (.getfield 15, 3) := by decide +kernel
theorem dX7_at_5 : decode cX7_at 5 = .ok (.invokestatic 32, 3) := by decide +kernel
theorem dX7_at_8 : decode cX7_at 8 = .ok (.ifCond .eq 12, 3) := by decide +kernel
theorem dX7_at_11 : decode cX7_at 11 = .ok (.aload_n 0, 1) := by decide +kernel
theorem dX7_at_12 : decode cX7_at 12 = .ok (.getfield 9, 3) := by decide +kernel
theorem dX7_at_15 : decode cX7_at 15 = .ok (.iload_n 1, 1) := by decide +kernel
theorem dX7_at_16 : decode cX7_at 16 = .ok (.iaload, 1) := by decide +kernel
theorem dX7_at_17 : decode cX7_at 17 = .ok (.goto 5, 3) := by decide +kernel
theorem dX7_at_20 : decode cX7_at 20 = .ok (.bipush (-9), 2) := by decide +kernel
theorem dX7_at_22 : decode cX7_at 22 = .ok (.ireturn, 1) := by decide +kernel
theorem dX7_sizeOrAt_0 : decode cX7_sizeOrAt 0 = .ok (.iload_n 1, 1) := by decide +kernel
theorem dX7_sizeOrAt_1 : decode cX7_sizeOrAt 1 = .ok (.iconst (-1), 1) := by decide +kernel
theorem dX7_sizeOrAt_2 : decode cX7_sizeOrAt 2 = .ok (.if_icmp .ne 10, 3) := by decide +kernel
theorem dX7_sizeOrAt_5 : decode cX7_sizeOrAt 5 = .ok (.aload_n 0, 1) := by decide +kernel
theorem dX7_sizeOrAt_6 : decode cX7_sizeOrAt 6 = .ok (.getfield 15, 3) := by decide +kernel
theorem dX7_sizeOrAt_9 : decode cX7_sizeOrAt 9 = .ok (.goto 8, 3) := by decide +kernel
theorem dX7_sizeOrAt_12 : decode cX7_sizeOrAt 12 = .ok (.aload_n 0, 1) := by decide +kernel
theorem dX7_sizeOrAt_13 : decode cX7_sizeOrAt 13 = .ok (.iload_n 1, 1) := by decide +kernel
theorem dX7_sizeOrAt_14 : decode cX7_sizeOrAt 14 = .ok (.invokevirtual 36, 3) := by decide +kernel
theorem dX7_sizeOrAt_17 : decode cX7_sizeOrAt 17 = .ok (.ireturn, 1) := by decide +kernel
theorem dX7_isSame_0 : decode cX7_isSame 0 = .ok (.aload_n 0, 1) := by decide +kernel
theorem dX7_isSame_1 : decode cX7_isSame 1 = .ok (.getfield 15, 3) := by decide +kernel
theorem dX7_isSame_4 : decode cX7_isSame 4 = .ok (.aload_n 1, 1) := by decide +kernel
theorem dX7_isSame_5 : decode cX7_isSame 5 = .ok (.getfield 15, 3) := by decide +kernel
theorem dX7_isSame_8 : decode cX7_isSame 8 = .ok (.if_icmp .eq 5, 3) := by decide +kernel
theorem dX7_isSame_11 : decode cX7_isSame 11 = .ok (.iconst 0, 1) := by decide +kernel
theorem dX7_isSame_12 : decode cX7_isSame 12 = .ok (.ireturn, 1) := by decide +kernel
theorem dX7_isSame_13 : decode cX7_isSame 13 = .ok (.iconst 0, 1) := by decide +kernel
theorem dX7_isSame_14 : decode cX7_isSame 14 = .ok (.istore_n 2, 1) := by decide +kernel
theorem dX7_isSame_15 : decode cX7_isSame 15 = .ok (.iload_n 2, 1) := by decide +kernel
theorem dX7_isSame_16 : decode cX7_isSame 16 = .ok (.aload_n 0, 1) := by decide +kernel
theorem dX7_isSame_17 : decode cX7_isSame 17 = .ok (.getfield 15, 3) := by decide +kernel
theorem dX7_isSame_20 : decode cX7_isSame 20 = .ok (.if_icmp .ge 26, 3) := by decide +kernel
theorem dX7_isSame_23 : decode cX7_isSame 23 = .ok (.aload_n 0, 1) := by decide +kernel
theorem dX7_isSame_24 : decode cX7_isSame 24 = .ok (.getfield 9, 3) := by decide +kernel
theorem dX7_isSame_27 : decode cX7_isSame 27 = .ok (.iload_n 2, 1) := by decide +kernel
theorem dX7_isSame_28 : decode cX7_isSame 28 = .ok (.iaload, 1) := by decide +kernel
theorem dX7_isSame_29 : decode cX7_isSame 29 = .ok (.aload_n 1, 1) := by decide +kernel
theorem dX7_isSame_30 : decode cX7_isSame 30 = .ok (.getfield 9, 3) := by decide +kernel
theorem dX7_isSame_33 : decode cX7_isSame 33 = .ok (.iload_n 2, 1) := by decide +kernel
theorem dX7_isSame_34 : decode cX7_isSame 34 = .ok (.iaload, 1) := by decide +kernel
theorem dX7_isSame_35 : decode cX7_isSame 35 = .ok (.if_icmp .eq 5, 3) := by decide +kernel
theorem dX7_isSame_38 : decode cX7_isSame 38 = .ok (.iconst 0, 1) := by decide +kernel
theorem dX7_isSame_39 : decode cX7_isSame 39 = .ok (.ireturn, 1) := by decide +kernel
theorem dX7_isSame_40 : decode cX7_isSame 40 = .ok (.iinc 2 1, 3) := by decide +kernel
theorem dX7_isSame_43 : decode cX7_isSame 43 = .ok (.goto (-28), 3) := by decide +kernel
theorem dX7_isSame_46 : decode cX7_isSame 46 = .ok (.iconst 1, 1) := by decide +kernel
theorem dX7_isSame_47 : decode cX7_isSame 47 = .ok (.ireturn, 1) := by decide +kernel
theorem dX7_stepOrder_0 : decode cX7_stepOrder 0 = .ok (.aload_n 0, 1) := by decide +kernel
theorem dX7_stepOrder_1 : decode cX7_stepOrder 1 = .ok (.getfield 15, 3) := by decide +kernel
theorem dX7_stepOrder_4 : decode cX7_stepOrder 4 = .ok (.iconst 2, 1) := by decide +kernel
theorem dX7_stepOrder_5 : decode cX7_stepOrder 5 = .ok (.isub, 1) := by decide +kernel
theorem dX7_stepOrder_6 : decode cX7_stepOrder 6 = .ok (.istore_n 1, 1) := by decide +kernel
theorem dX7_stepOrder_7 : decode cX7_stepOrder 7 = .ok (.iload_n 1, 1) := by decide +kernel
theorem dX7_stepOrder_8 : decode cX7_stepOrder 8 = .ok (.ifCond .lt 26, 3) := by decide +kernel
theorem dX7_stepOrder_11 : decode cX7_stepOrder 11 = .ok (.aload_n 0, 1) := by decide +kernel
theorem dX7_stepOrder_12 : decode cX7_stepOrder 12 = .ok (.getfield 9, 3) := by decide +kernel
theorem dX7_stepOrder_15 : decode cX7_stepOrder 15 = .ok (.iload_n 1, 1) := by decide +kernel
theorem dX7_stepOrder_16 : decode cX7_stepOrder 16 = .ok (.iaload, 1) := by decide +kernel
theorem dX7_stepOrder_17 : decode cX7_stepOrder 17 = .ok (.aload_n 0, 1) := by decide +kernel
theorem dX7_stepOrder_18 : decode cX7_stepOrder 18 = .ok (.getfield 9, 3) := by decide +kernel
theorem dX7_stepOrder_21 : decode cX7_stepOrder 21 = .ok (.iload_n 1, 1) := by decide +kernel
theorem dX7_stepOrder_22 : decode cX7_stepOrder 22 = .ok (.iconst 1, 1) := by decide +kernel
theorem dX7_stepOrder_23 : decode cX7_stepOrder 23 = .ok (.iadd, 1) := by decide +kernel
theorem dX7_stepOrder_24 : decode cX7_stepOrder 24 = .ok (.iaload, 1) := by decide +kernel
theorem dX7_stepOrder_25 : decode cX7_stepOrder 25 = .ok (.if_icmp .le 9, 3) := by decide +kernel
theorem dX7_stepOrder_28 : decode cX7_stepOrder 28 = .ok (.iinc 1 (-1), 3) := by decide +kernel
theorem dX7_stepOrder_31 : decode cX7_stepOrder 31 = .ok (.goto (-24), 3) := by decide +kernel
theorem dX7_stepOrder_34 : decode cX7_stepOrder 34 = .ok (.iload_n 1, 1) := by decide +kernel
theorem dX7_stepOrder_35 : decode cX7_stepOrder 35 = .ok (.ifCond .ge 5, 3) := by decide +kernel
theorem dX7_stepOrder_38 : decode cX7_stepOrder 38 = .ok (.iconst 0, 1) := by decide +kernel
theorem dX7_stepOrder_39 : decode cX7_stepOrder 39 = .ok (.ireturn, 1) := by decide +kernel
theorem dX7_stepOrder_40 : decode cX7_stepOrder 40 = .ok (.aload_n 0, 1) := by decide +kernel
theorem dX7_stepOrder_41 : decode cX7_stepOrder 41 = .ok (.getfield 15, 3) := by decide +kernel
theorem dX7_stepOrder_44 : decode cX7_stepOrder 44 = .ok (.iconst 1, 1) := by decide +kernel
theorem dX7_stepOrder_45 : decode cX7_stepOrder 45 = .ok (.isub, 1) := by decide +kernel
theorem dX7_stepOrder_46 : decode cX7_stepOrder 46 = .ok (.istore_n 2, 1) := by decide +kernel
theorem dX7_stepOrder_47 : decode cX7_stepOrder 47 = .ok (.iload_n 2, 1) := by decide +kernel
theorem dX7_stepOrder_48 : decode cX7_stepOrder 48 = .ok (.iload_n 1, 1) := by decide +kernel
theorem dX7_stepOrder_49 : decode cX7_stepOrder 49 = .ok (.iconst 1, 1) := by decide +kernel
theorem dX7_stepOrder_50 : decode cX7_stepOrder 50 = .ok (.iadd, 1) := by decide +kernel
theorem dX7_stepOrder_51 : decode cX7_stepOrder 51 = .ok (.if_icmp .le 24, 3) := by decide +kernel
theorem dX7_stepOrder_54 : decode cX7_stepOrder 54 = .ok (.aload_n 0, 1) := by decide +kernel
theorem dX7_stepOrder_55 : decode cX7_stepOrder 55 = .ok (.getfield 9, 3) := by decide +kernel
theorem dX7_stepOrder_58 : decode cX7_stepOrder 58 = .ok (.iload_n 2, 1) := by decide +kernel
theorem dX7_stepOrder_59 : decode cX7_stepOrder 59 = .ok (.iaload, 1) := by decide +kernel
theorem dX7_stepOrder_60 : decode cX7_stepOrder 60 = .ok (.aload_n 0, 1) := by decide +kernel
theorem dX7_stepOrder_61 : decode cX7_stepOrder 61 = .ok (.getfield 9, 3) := by decide +kernel
theorem dX7_stepOrder_64 : decode cX7_stepOrder 64 = .ok (.iload_n 1, 1) := by decide +kernel
theorem dX7_stepOrder_65 : decode cX7_stepOrder 65 = .ok (.iaload, 1) := by decide +kernel
theorem dX7_stepOrder_66 : decode cX7_stepOrder 66 = .ok (.if_icmp .ge 9, 3) := by decide +kernel
theorem dX7_stepOrder_69 : decode cX7_stepOrder 69 = .ok (.iinc 2 (-1), 3) := by decide +kernel
theorem dX7_stepOrder_72 : decode cX7_stepOrder 72 = .ok (.goto (-25), 3) := by decide +kernel
theorem dX7_stepOrder_75 : decode cX7_stepOrder 75 = .ok (.aload_n 0, 1) := by decide +kernel
theorem dX7_stepOrder_76 : decode cX7_stepOrder 76 = .ok (.iload_n 1, 1) := by decide +kernel
theorem dX7_stepOrder_77 : decode cX7_stepOrder 77 = .ok (.iload_n 2, 1) := by decide +kernel
theorem dX7_stepOrder_78 : decode cX7_stepOrder 78 = .ok (.invokevirtual 40, 3) := by decide +kernel
theorem dX7_stepOrder_81 : decode cX7_stepOrder 81 = .ok (.iload_n 1, 1) := by decide +kernel
theorem dX7_stepOrder_82 : decode cX7_stepOrder 82 = .ok (.iconst 1, 1) := by decide +kernel
theorem dX7_stepOrder_83 : decode cX7_stepOrder 83 = .ok (.iadd, 1) := by decide +kernel
theorem dX7_stepOrder_84 : decode cX7_stepOrder 84 = .ok (.istore_n 3, 1) := by decide +kernel
theorem dX7_stepOrder_85 : decode cX7_stepOrder 85 = .ok (.aload_n 0, 1) := by decide +kernel
theorem dX7_stepOrder_86 : decode cX7_stepOrder 86 = .ok (.getfield 15, 3) := by decide +kernel
theorem dX7_stepOrder_89 : decode cX7_stepOrder 89 = .ok (.iconst 1, 1) := by decide +kernel
theorem dX7_stepOrder_90 : decode cX7_stepOrder 90 = .ok (.isub, 1) := by decide +kernel
theorem dX7_stepOrder_91 : decode cX7_stepOrder 91 = .ok (.istore 4, 2) := by decide +kernel
theorem dX7_stepOrder_93 : decode cX7_stepOrder 93 = .ok (.iload_n 3, 1) := by decide +kernel
theorem dX7_stepOrder_94 : decode cX7_stepOrder 94 = .ok (.iload 4, 2) := by decide +kernel
theorem dX7_stepOrder_96 : decode cX7_stepOrder 96 = .ok (.if_icmp .ge 19, 3) := by decide +kernel
theorem dX7_stepOrder_99 : decode cX7_stepOrder 99 = .ok (.aload_n 0, 1) := by decide +kernel
theorem dX7_stepOrder_100 : decode cX7_stepOrder 100 = .ok (.iload_n 3, 1) := by decide +kernel
theorem dX7_stepOrder_101 : decode cX7_stepOrder 101 = .ok (.iload 4, 2) := by decide +kernel
theorem dX7_stepOrder_103 : decode cX7_stepOrder 103 = .ok (.invokevirtual 40, 3) := by decide +kernel
theorem dX7_stepOrder_106 : decode cX7_stepOrder 106 = .ok (.iinc 3 1, 3) := by decide +kernel
theorem dX7_stepOrder_109 : decode cX7_stepOrder 109 = .ok (.iinc 4 (-1), 3) := by decide +kernel
theorem dX7_stepOrder_112 : decode cX7_stepOrder 112 = .ok (.goto (-19), 3) := by decide +kernel
theorem dX7_stepOrder_115 : decode cX7_stepOrder 115 = .ok (.iconst 1, 1) := by decide +kernel
theorem dX7_stepOrder_116 : decode cX7_stepOrder 116 = .ok (.ireturn, 1) := by decide +kernel
theorem dX7_swap_0 : decode cX7_swap 0 = .ok (.aload_n 0, 1) := by decide +kernel
theorem dX7_swap_1 : decode cX7_swap 1 = .ok (.getfield 9, 3) := by decide +kernel
theorem dX7_swap_4 : decode cX7_swap 4 = .ok (.iload_n 1, 1) := by decide +kernel
theorem dX7_swap_5 : decode cX7_swap 5 = .ok (.iaload, 1) := by decide +kernel
theorem dX7_swap_6 : decode cX7_swap 6 = .ok (.istore_n 3, 1) := by decide +kernel
theorem dX7_swap_7 : decode cX7_swap 7 = .ok (.aload_n 0, 1) := by decide +kernel
theorem dX7_swap_8 : decode cX7_swap 8 = .ok (.getfield 9, 3) := by decide +kernel
theorem dX7_swap_11 : decode cX7_swap 11 = .ok (.iload_n 1, 1) := by decide +kernel
theorem dX7_swap_12 : decode cX7_swap 12 = .ok (.aload_n 0, 1) := by decide +kernel
theorem dX7_swap_13 : decode cX7_swap 13 = .ok (.getfield 9, 3) := by decide +kernel
theorem dX7_swap_16 : decode cX7_swap 16 = .ok (.iload_n 2, 1) := by decide +kernel
theorem dX7_swap_17 : decode cX7_swap 17 = .ok (.iaload, 1) := by decide +kernel
theorem dX7_swap_18 : decode cX7_swap 18 = .ok (.iastore, 1) := by decide +kernel
theorem dX7_swap_19 : decode cX7_swap 19 = .ok (.aload_n 0, 1) := by decide +kernel
theorem dX7_swap_20 : decode cX7_swap 20 = .ok (.getfield 9, 3) := by decide +kernel
theorem dX7_swap_23 : decode cX7_swap 23 = .ok (.iload_n 2, 1) := by decide +kernel
theorem dX7_swap_24 : decode cX7_swap 24 = .ok (.iload_n 3, 1) := by decide +kernel
theorem dX7_swap_25 : decode cX7_swap 25 = .ok (.iastore, 1) := by decide +kernel
theorem dX7_swap_26 : decode cX7_swap 26 = .ok (.return_, 1) := by decide +kernel
theorem dX8_init_0 : decode cX8_init 0 = .ok (.aload_n 0, 1) := by decide +kernel
theorem dX8_init_1 : decode cX8_init 1 = .ok (.invokespecial 3, 3) := by decide +kernel
theorem dX8_init_4 : decode cX8_init 4 = .ok (.aload_n 0, 1) := by decide +kernel
theorem dX8_init_5 : decode cX8_init 5 = .ok (.bipush 60, 2) := by decide +kernel
theorem dX8_init_7 : decode cX8_init 7 = .ok (.newarray .int, 2) := by decide +kernel
theorem dX8_init_9 : decode cX8_init 9 = .ok (.putfield 9, 3) := by decide +kernel
theorem dX8_init_12 : decode cX8_init 12 = .ok (.aload_n 0, 1) := by decide +kernel
theorem dX8_init_13 : decode cX8_init 13 = .ok (.iconst 0, 1) := by decide +kernel
theorem dX8_init_14 : decode cX8_init 14 = .ok (.putfield 15, 3) := by decide +kernel
theorem dX8_init_17 : decode cX8_init 17 = .ok (.aload_n 0, 1) := by decide +kernel
theorem dX8_init_18 : decode cX8_init 18 = .ok (.iconst 0, 1) := by decide +kernel
theorem dX8_init_19 : decode cX8_init 19 = .ok (.putfield 19, 3) := by decide +kernel
theorem dX8_init_22 : decode cX8_init 22 = .ok (.aload_n 0, 1) := by decide +kernel
theorem dX8_init_23 : decode cX8_init 23 = .ok (.iconst 0, 1) := by decide +kernel
theorem dX8_init_24 : decode cX8_init 24 = .ok (.putfield 23, 3) := by decide +kernel
theorem dX8_init_27 : decode cX8_init 27 = .ok (.return_, 1) := by decide +kernel
theorem dX8_renew_0 : decode cX8_renew 0 = .ok (.aload_n 0, 1) := by decide +kernel
theorem dX8_renew_1 : decode cX8_renew 1 = .ok (.getfield 9, 3) := by decide +kernel
theorem dX8_renew_4 : decode cX8_renew 4 = .ok (.iconst 0, 1) := by decide +kernel
theorem dX8_renew_5 : decode cX8_renew 5 = .ok (.invokestatic 26, 3) := by decide +kernel
theorem dX8_renew_8 : decode cX8_renew 8 = .ok (.aload_n 0, 1) := by decide +kernel
theorem dX8_renew_9 : decode cX8_renew 9 = .ok (.iconst 1, 1) := by decide +kernel
theorem dX8_renew_10 : decode cX8_renew 10 = .ok (.putfield 15, 3) := by decide +kernel
theorem dX8_renew_13 : decode cX8_renew 13 = .ok (.aload_n 0, 1) := by decide +kernel
theorem dX8_renew_14 : decode cX8_renew 14 = .ok (.iload_n 1, 1) := by decide +kernel
theorem dX8_renew_15 : decode cX8_renew 15 = .ok (.putfield 19, 3) := by decide +kernel
theorem dX8_renew_18 : decode cX8_renew 18 = .ok (.aload_n 0, 1) := by decide +kernel
theorem dX8_renew_19 : decode cX8_renew 19 = .ok (.iload_n 2, 1) := by decide +kernel
theorem dX8_renew_20 : decode cX8_renew 20 = .ok (.putfield 23, 3) := by decide +kernel
theorem dX8_renew_23 : decode cX8_renew 23 = .ok (.return_, 1) := by decide +kernel
theorem dX8_loseRow_0 : decode cX8_loseRow 0 = .ok (.aload_n 0, 1) := by decide +kernel
theorem dX8_loseRow_1 : decode cX8_loseRow 1 = .ok (.getfield 15, 3) := by decide +kernel
theorem dX8_loseRow_4 : decode cX8_loseRow 4 = .ok (.istore_n 1, 1) := by decide +kernel
theorem dX8_loseRow_5 : decode cX8_loseRow 5 = .ok (.aload_n 0, 1) := by decide +kernel
theorem dX8_loseRow_6 : decode cX8_loseRow 6 = .ok (.iconst 0, 1) := by decide +kernel
theorem dX8_loseRow_7 : decode cX8_loseRow 7 = .ok (.putfield 15, 3) := by decide +kernel
theorem dX8_loseRow_10 : decode cX8_loseRow 10 = .ok (.iload_n 1, 1) := by decide +kernel
theorem dX8_loseRow_11 : decode cX8_loseRow 11 = .ok (.ireturn, 1) := by decide +kernel
theorem dX8_putCut_0 : decode cX8_putCut 0 = .ok (.aload_n 0, 1) := by decide +kernel
theorem dX8_putCut_1 : decode cX8_putCut 1 = .ok (.getfield 19, 3) := by decide +kernel
theorem dX8_putCut_4 : decode cX8_putCut 4 = .ok (.lookupswitch 50 #[(0, 28), (1, 39)], 28) := by decide +kernel
theorem dX8_putCut_32 : decode cX8_putCut 32 = .ok (.aload_n 0, 1) := by decide +kernel
theorem dX8_putCut_33 : decode cX8_putCut 33 = .ok (.getfield 9, 3) := by decide +kernel
theorem dX8_putCut_36 : decode cX8_putCut 36 = .ok (.iload_n 1, 1) := by decide +kernel
theorem dX8_putCut_37 : decode cX8_putCut 37 = .ok (.iload_n 2, 1) := by decide +kernel
theorem dX8_putCut_38 : decode cX8_putCut 38 = .ok (.i2b, 1) := by decide +kernel
theorem dX8_putCut_39 : decode cX8_putCut 39 = .ok (.iastore, 1) := by decide +kernel
theorem dX8_putCut_40 : decode cX8_putCut 40 = .ok (.goto 21, 3) := by decide +kernel
theorem dX8_putCut_43 : decode cX8_putCut 43 = .ok (.aload_n 0, 1) := by decide +kernel
theorem dX8_putCut_44 : decode cX8_putCut 44 = .ok (.getfield 9, 3) := by decide +kernel
theorem dX8_putCut_47 : decode cX8_putCut 47 = .ok (.iload_n 1, 1) := by decide +kernel
theorem dX8_putCut_48 : decode cX8_putCut 48 = .ok (.iload_n 2, 1) := by decide +kernel
theorem dX8_putCut_49 : decode cX8_putCut 49 = .ok (.i2s, 1) := by decide +kernel
theorem dX8_putCut_50 : decode cX8_putCut 50 = .ok (.iastore, 1) := by decide +kernel
theorem dX8_putCut_51 : decode cX8_putCut 51 = .ok (.goto 10, 3) := by decide +kernel
theorem dX8_putCut_54 : decode cX8_putCut 54 = .ok (.aload_n 0, 1) := by decide +kernel
theorem dX8_putCut_55 : decode cX8_putCut 55 = .ok (.getfield 9, 3) := by decide +kernel
theorem dX8_putCut_58 : decode cX8_putCut 58 = .ok (.iload_n 1, 1) := by decide +kernel
theorem dX8_putCut_59 : decode cX8_putCut 59 = .ok (.iload_n 2, 1) := by decide +kernel
theorem dX8_putCut_60 : decode cX8_putCut 60 = .ok (.iastore, 1) := by decide +kernel
theorem dX8_putCut_61 : decode cX8_putCut 61 = .ok (.return_, 1) := by decide +kernel
theorem dX8_faultOfRow_0 : decode cX8_faultOfRow 0 = .ok (.aload_n 0, 1) := by decide +kernel
theorem dX8_faultOfRow_1 : decode cX8_faultOfRow 1 = .ok (.getfield 15, 3) := by decide +kernel
theorem dX8_faultOfRow_4 : decode cX8_faultOfRow 4 = .ok (.ifCond .ne 5, 3) := by decide +kernel
theorem dX8_faultOfRow_7 : decode cX8_faultOfRow 7 = .ok (.iconst 1, 1) := by decide +kernel
theorem dX8_faultOfRow_8 : decode cX8_faultOfRow 8 = .ok (.ireturn, 1) := by decide +kernel
theorem dX8_faultOfRow_9 : decode cX8_faultOfRow 9 = .ok (.aload_n 0, 1) := by decide +kernel
theorem dX8_faultOfRow_10 : decode cX8_faultOfRow 10 = .ok (.getfield 19, 3) := by decide +kernel
theorem dX8_faultOfRow_13 : decode cX8_faultOfRow 13 = .ok (.iload_n 1, 1) := by decide +kernel
theorem dX8_faultOfRow_14 : decode cX8_faultOfRow 14 = .ok (.if_icmp .ne 7, 3) := by decide +kernel
theorem dX8_faultOfRow_17 : decode cX8_faultOfRow 17 = .ok (.iconst 0, 1) := by decide +kernel
theorem dX8_faultOfRow_18 : decode cX8_faultOfRow 18 = .ok (.goto 4, 3) := by decide +kernel
theorem dX8_faultOfRow_21 : decode cX8_faultOfRow 21 = .ok (.iconst 2, 1) := by decide +kernel
theorem dX8_faultOfRow_22 : decode cX8_faultOfRow 22 = .ok (.ireturn, 1) := by decide +kernel
theorem dX8_faultOfCells_0 : decode cX8_faultOfCells 0 = .ok (.aload_n 0, 1) := by decide +kernel
theorem dX8_faultOfCells_1 : decode cX8_faultOfCells 1 = .ok (.iload_n 1, 1) := by decide +kernel
theorem dX8_faultOfCells_2 : decode cX8_faultOfCells 2 = .ok (.invokevirtual 32, 3) := by decide +kernel
theorem dX8_faultOfCells_5 : decode cX8_faultOfCells 5 = .ok (.istore 4, 2) := by decide +kernel
theorem dX8_faultOfCells_7 : decode cX8_faultOfCells 7 = .ok (.iload 4, 2) := by decide +kernel
theorem dX8_faultOfCells_9 : decode cX8_faultOfCells 9 = .ok (.ifCond .eq 6, 3) := by decide +kernel
theorem dX8_faultOfCells_12 : decode cX8_faultOfCells 12 = .ok (.iload 4, 2) := by decide +kernel
theorem dX8_faultOfCells_14 : decode cX8_faultOfCells 14 = .ok (.ireturn, 1) := by decide +kernel
theorem dX8_faultOfCells_15 : decode cX8_faultOfCells 15 = .ok (.iload_n 3, 1) := by decide +kernel
theorem dX8_faultOfCells_16 : decode cX8_faultOfCells 16 = .ok (.ifCond .ge 5, 3) := by decide +kernel
theorem dX8_faultOfCells_19 : decode cX8_faultOfCells 19 = .ok (.iconst 4, 1) := by decide +kernel
theorem dX8_faultOfCells_20 : decode cX8_faultOfCells 20 = .ok (.ireturn, 1) := by decide +kernel
theorem dX8_faultOfCells_21 : decode cX8_faultOfCells 21 = .ok (.iload_n 2, 1) := by decide +kernel
theorem dX8_faultOfCells_22 : decode cX8_faultOfCells 22 = .ok (.iconst 0, 1) := by decide +kernel
theorem dX8_faultOfCells_23 : decode cX8_faultOfCells 23 = .ok (.aload_n 0, 1) := by decide +kernel
theorem dX8_faultOfCells_24 : decode cX8_faultOfCells 24 = .ok (.getfield 23, 3) := by decide +kernel
theorem dX8_faultOfCells_27 : decode cX8_faultOfCells 27 = .ok (.invokestatic 36, 3) := by decide +kernel
theorem dX8_faultOfCells_30 : decode cX8_faultOfCells 30 = .ok (.ifCond .eq 17, 3) := by decide +kernel
theorem dX8_faultOfCells_33 : decode cX8_faultOfCells 33 = .ok (.iload_n 3, 1) := by decide +kernel
theorem dX8_faultOfCells_34 : decode cX8_faultOfCells 34 = .ok (.aload_n 0, 1) := by decide +kernel
theorem dX8_faultOfCells_35 : decode cX8_faultOfCells 35 = .ok (.getfield 23, 3) := by decide +kernel
theorem dX8_faultOfCells_38 : decode cX8_faultOfCells 38 = .ok (.iload_n 2, 1) := by decide +kernel
theorem dX8_faultOfCells_39 : decode cX8_faultOfCells 39 = .ok (.isub, 1) := by decide +kernel
theorem dX8_faultOfCells_40 : decode cX8_faultOfCells 40 = .ok (.if_icmp .gt 7, 3) := by decide +kernel
theorem dX8_faultOfCells_43 : decode cX8_faultOfCells 43 = .ok (.iconst 0, 1) := by decide +kernel
theorem dX8_faultOfCells_44 : decode cX8_faultOfCells 44 = .ok (.goto 4, 3) := by decide +kernel
theorem dX8_faultOfCells_47 : decode cX8_faultOfCells 47 = .ok (.iconst 3, 1) := by decide +kernel
theorem dX8_faultOfCells_48 : decode cX8_faultOfCells 48 = .ok (.ireturn, 1) := by decide +kernel
theorem dX9_init_0 : decode cX9_init 0 = .ok (.aload_n 0, 1) := by decide +kernel
theorem dX9_init_1 : decode cX9_init 1 = .ok (.invokespecial 3, 3) := by decide +kernel
theorem dX9_init_4 : decode cX9_init 4 = .ok (.aload_n 0, 1) := by decide +kernel
theorem dX9_init_5 : decode cX9_init 5 = .ok (.bipush 16, 2) := by decide +kernel
theorem dX9_init_7 : decode cX9_init 7 = .ok (.newarray .int, 2) := by decide +kernel
theorem dX9_init_9 : decode cX9_init 9 = .ok (.putfield 9, 3) := by decide +kernel
theorem dX9_init_12 : decode cX9_init 12 = .ok (.aload_n 0, 1) := by decide +kernel
theorem dX9_init_13 : decode cX9_init 13 = .ok (.bipush 16, 2) := by decide +kernel
theorem dX9_init_15 : decode cX9_init 15 = .ok (.newarray .int, 2) := by decide +kernel
theorem dX9_init_17 : decode cX9_init 17 = .ok (.putfield 15, 3) := by decide +kernel
theorem dX9_init_20 : decode cX9_init 20 = .ok (.return_, 1) := by decide +kernel
theorem dX9_become_0 : decode cX9_become 0 = .ok (.aload_n 0, 1) := by decide +kernel
theorem dX9_become_1 : decode cX9_become 1 = .ok (.getfield 9, 3) := by decide +kernel
theorem dX9_become_4 : decode cX9_become 4 = .ok (.iload_n 1, 1) := by decide +kernel
theorem dX9_become_5 : decode cX9_become 5 = .ok (.iaload, 1) := by decide +kernel
theorem dX9_become_6 : decode cX9_become 6 = .ok (.iload_n 2, 1) := by decide +kernel
theorem dX9_become_7 : decode cX9_become 7 = .ok (.if_icmp .ne 15, 3) := by decide +kernel
theorem dX9_become_10 : decode cX9_become 10 = .ok (.aload_n 0, 1) := by decide +kernel
theorem dX9_become_11 : decode cX9_become 11 = .ok (.getfield 15, 3) := by decide +kernel
theorem dX9_become_14 : decode cX9_become 14 = .ok (.iload_n 1, 1) := by decide +kernel
theorem dX9_become_15 : decode cX9_become 15 = .ok (.iaload, 1) := by decide +kernel
theorem dX9_become_16 : decode cX9_become 16 = .ok (.iload_n 3, 1) := by decide +kernel
theorem dX9_become_17 : decode cX9_become 17 = .ok (.if_icmp .ne 5, 3) := by decide +kernel
theorem dX9_become_20 : decode cX9_become 20 = .ok (.iconst 0, 1) := by decide +kernel
theorem dX9_become_21 : decode cX9_become 21 = .ok (.ireturn, 1) := by decide +kernel
theorem dX9_become_22 : decode cX9_become 22 = .ok (.aload_n 0, 1) := by decide +kernel
theorem dX9_become_23 : decode cX9_become 23 = .ok (.getfield 9, 3) := by decide +kernel
theorem dX9_become_26 : decode cX9_become 26 = .ok (.iload_n 1, 1) := by decide +kernel
theorem dX9_become_27 : decode cX9_become 27 = .ok (.iload_n 2, 1) := by decide +kernel
theorem dX9_become_28 : decode cX9_become 28 = .ok (.iastore, 1) := by decide +kernel
theorem dX9_become_29 : decode cX9_become 29 = .ok (.aload_n 0, 1) := by decide +kernel
theorem dX9_become_30 : decode cX9_become 30 = .ok (.getfield 15, 3) := by decide +kernel
theorem dX9_become_33 : decode cX9_become 33 = .ok (.iload_n 1, 1) := by decide +kernel
theorem dX9_become_34 : decode cX9_become 34 = .ok (.iload_n 3, 1) := by decide +kernel
theorem dX9_become_35 : decode cX9_become 35 = .ok (.iastore, 1) := by decide +kernel
theorem dX9_become_36 : decode cX9_become 36 = .ok (.iconst 1, 1) := by decide +kernel
theorem dX9_become_37 : decode cX9_become 37 = .ok (.ireturn, 1) := by decide +kernel
theorem dX9_difference_0 : decode cX9_difference 0 = .ok (.aload_n 0, 1) := by decide +kernel
theorem dX9_difference_1 : decode cX9_difference 1 = .ok (.getfield 9, 3) := by decide +kernel
theorem dX9_difference_4 : decode cX9_difference 4 = .ok (.iload_n 1, 1) := by decide +kernel
theorem dX9_difference_5 : decode cX9_difference 5 = .ok (.iaload, 1) := by decide +kernel
theorem dX9_difference_6 : decode cX9_difference 6 = .ok (.aload_n 0, 1) := by decide +kernel
theorem dX9_difference_7 : decode cX9_difference 7 = .ok (.getfield 15, 3) := by decide +kernel
theorem dX9_difference_10 : decode cX9_difference 10 = .ok (.iload_n 2, 1) := by decide +kernel
theorem dX9_difference_11 : decode cX9_difference 11 = .ok (.iaload, 1) := by decide +kernel
theorem dX9_difference_12 : decode cX9_difference 12 = .ok (.iand, 1) := by decide +kernel
theorem dX9_difference_13 : decode cX9_difference 13 = .ok (.aload_n 0, 1) := by decide +kernel
theorem dX9_difference_14 : decode cX9_difference 14 = .ok (.getfield 15, 3) := by decide +kernel
theorem dX9_difference_17 : decode cX9_difference 17 = .ok (.iload_n 1, 1) := by decide +kernel
theorem dX9_difference_18 : decode cX9_difference 18 = .ok (.iaload, 1) := by decide +kernel
theorem dX9_difference_19 : decode cX9_difference 19 = .ok (.aload_n 0, 1) := by decide +kernel
theorem dX9_difference_20 : decode cX9_difference 20 = .ok (.getfield 9, 3) := by decide +kernel
theorem dX9_difference_23 : decode cX9_difference 23 = .ok (.iload_n 2, 1) := by decide +kernel
theorem dX9_difference_24 : decode cX9_difference 24 = .ok (.iaload, 1) := by decide +kernel
theorem dX9_difference_25 : decode cX9_difference 25 = .ok (.iand, 1) := by decide +kernel
theorem dX9_difference_26 : decode cX9_difference 26 = .ok (.ior, 1) := by decide +kernel
theorem dX9_difference_27 : decode cX9_difference 27 = .ok (.istore_n 3, 1) := by decide +kernel
theorem dX9_difference_28 : decode cX9_difference 28 = .ok (.aload_n 0, 1) := by decide +kernel
theorem dX9_difference_29 : decode cX9_difference 29 = .ok (.getfield 9, 3) := by decide +kernel
theorem dX9_difference_32 : decode cX9_difference 32 = .ok (.iload_n 1, 1) := by decide +kernel
theorem dX9_difference_33 : decode cX9_difference 33 = .ok (.iaload, 1) := by decide +kernel
theorem dX9_difference_34 : decode cX9_difference 34 = .ok (.aload_n 0, 1) := by decide +kernel
theorem dX9_difference_35 : decode cX9_difference 35 = .ok (.getfield 15, 3) := by decide +kernel
theorem dX9_difference_38 : decode cX9_difference 38 = .ok (.iload_n 1, 1) := by decide +kernel
theorem dX9_difference_39 : decode cX9_difference 39 = .ok (.iaload, 1) := by decide +kernel
theorem dX9_difference_40 : decode cX9_difference 40 = .ok (.ior, 1) := by decide +kernel
theorem dX9_difference_41 : decode cX9_difference 41 = .ok (.aload_n 0, 1) := by decide +kernel
theorem dX9_difference_42 : decode cX9_difference 42 = .ok (.getfield 9, 3) := by decide +kernel
theorem dX9_difference_45 : decode cX9_difference 45 = .ok (.iload_n 2, 1) := by decide +kernel
theorem dX9_difference_46 : decode cX9_difference 46 = .ok (.iaload, 1) := by decide +kernel
theorem dX9_difference_47 : decode cX9_difference 47 = .ok (.aload_n 0, 1) := by decide +kernel
theorem dX9_difference_48 : decode cX9_difference 48 = .ok (.getfield 15, 3) := by decide +kernel
theorem dX9_difference_51 : decode cX9_difference 51 = .ok (.iload_n 2, 1) := by decide +kernel
theorem dX9_difference_52 : decode cX9_difference 52 = .ok (.iaload, 1) := by decide +kernel
theorem dX9_difference_53 : decode cX9_difference 53 = .ok (.ior, 1) := by decide +kernel
theorem dX9_difference_54 : decode cX9_difference 54 = .ok (.ixor, 1) := by decide +kernel
theorem dX9_difference_55 : decode cX9_difference 55 = .ok (.istore 4, 2) := by decide +kernel
theorem dX9_difference_57 : decode cX9_difference 57 = .ok (.iconst 2, 1) := by decide +kernel
theorem dX9_difference_58 : decode cX9_difference 58 = .ok (.iload_n 3, 1) := by decide +kernel
theorem dX9_difference_59 : decode cX9_difference 59 = .ok (.invokestatic 18, 3) := by decide +kernel
theorem dX9_difference_62 : decode cX9_difference 62 = .ok (.imul, 1) := by decide +kernel
theorem dX9_difference_63 : decode cX9_difference 63 = .ok (.iload 4, 2) := by decide +kernel
theorem dX9_difference_65 : decode cX9_difference 65 = .ok (.invokestatic 18, 3) := by decide +kernel
theorem dX9_difference_68 : decode cX9_difference 68 = .ok (.iadd, 1) := by decide +kernel
theorem dX9_difference_69 : decode cX9_difference 69 = .ok (.ireturn, 1) := by decide +kernel
theorem dX9_isOf_0 : decode cX9_isOf 0 = .ok (.iload_n 2, 1) := by decide +kernel
theorem dX9_isOf_1 : decode cX9_isOf 1 = .ok (.bipush 29, 2) := by decide +kernel
theorem dX9_isOf_3 : decode cX9_isOf 3 = .ok (.if_icmp .ne 5, 3) := by decide +kernel
theorem dX9_isOf_6 : decode cX9_isOf 6 = .ok (.iconst 1, 1) := by decide +kernel
theorem dX9_isOf_7 : decode cX9_isOf 7 = .ok (.ireturn, 1) := by decide +kernel
theorem dX9_isOf_8 : decode cX9_isOf 8 = .ok (.iload_n 1, 1) := by decide +kernel
theorem dX9_isOf_9 : decode cX9_isOf 9 = .ok (.bipush 16, 2) := by decide +kernel
theorem dX9_isOf_11 : decode cX9_isOf 11 = .ok (.invokestatic 26, 3) := by decide +kernel
theorem dX9_isOf_14 : decode cX9_isOf 14 = .ok (.ifCond .ne 15, 3) := by decide +kernel
theorem dX9_isOf_17 : decode cX9_isOf 17 = .ok (.iload_n 2, 1) := by decide +kernel
theorem dX9_isOf_18 : decode cX9_isOf 18 = .ok (.bipush 28, 2) := by decide +kernel
theorem dX9_isOf_20 : decode cX9_isOf 20 = .ok (.if_icmp .ne 7, 3) := by decide +kernel
theorem dX9_isOf_23 : decode cX9_isOf 23 = .ok (.iconst 1, 1) := by decide +kernel
theorem dX9_isOf_24 : decode cX9_isOf 24 = .ok (.goto 4, 3) := by decide +kernel
theorem dX9_isOf_27 : decode cX9_isOf 27 = .ok (.iconst 0, 1) := by decide +kernel
theorem dX9_isOf_28 : decode cX9_isOf 28 = .ok (.ireturn, 1) := by decide +kernel
theorem dX9_isOf_29 : decode cX9_isOf 29 = .ok (.iload_n 2, 1) := by decide +kernel
theorem dX9_isOf_30 : decode cX9_isOf 30 = .ok (.bipush 28, 2) := by decide +kernel
theorem dX9_isOf_32 : decode cX9_isOf 32 = .ok (.if_icmp .lt 5, 3) := by decide +kernel
theorem dX9_isOf_35 : decode cX9_isOf 35 = .ok (.iconst 0, 1) := by decide +kernel
theorem dX9_isOf_36 : decode cX9_isOf 36 = .ok (.ireturn, 1) := by decide +kernel
theorem dX9_isOf_37 : decode cX9_isOf 37 = .ok (.iload_n 2, 1) := by decide +kernel
theorem dX9_isOf_38 : decode cX9_isOf 38 = .ok (.bipush 22, 2) := by decide +kernel
theorem dX9_isOf_40 : decode cX9_isOf 40 = .ok (.if_icmp .lt 17, 3) := by decide +kernel
theorem dX9_isOf_43 : decode cX9_isOf 43 = .ok (.iload_n 2, 1) := by decide +kernel
theorem dX9_isOf_44 : decode cX9_isOf 44 = .ok (.bipush 22, 2) := by decide +kernel
theorem dX9_isOf_46 : decode cX9_isOf 46 = .ok (.isub, 1) := by decide +kernel
theorem dX9_isOf_47 : decode cX9_isOf 47 = .ok (.aload_n 0, 1) := by decide +kernel
theorem dX9_isOf_48 : decode cX9_isOf 48 = .ok (.getfield 15, 3) := by decide +kernel
theorem dX9_isOf_51 : decode cX9_isOf 51 = .ok (.iload_n 1, 1) := by decide +kernel
theorem dX9_isOf_52 : decode cX9_isOf 52 = .ok (.iaload, 1) := by decide +kernel
theorem dX9_isOf_53 : decode cX9_isOf 53 = .ok (.invokestatic 30, 3) := by decide +kernel
theorem dX9_isOf_56 : decode cX9_isOf 56 = .ok (.ireturn, 1) := by decide +kernel
theorem dX9_isOf_57 : decode cX9_isOf 57 = .ok (.iload_n 2, 1) := by decide +kernel
theorem dX9_isOf_58 : decode cX9_isOf 58 = .ok (.bipush 16, 2) := by decide +kernel
theorem dX9_isOf_60 : decode cX9_isOf 60 = .ok (.if_icmp .lt 19, 3) := by decide +kernel
theorem dX9_isOf_63 : decode cX9_isOf 63 = .ok (.iload_n 2, 1) := by decide +kernel
theorem dX9_isOf_64 : decode cX9_isOf 64 = .ok (.bipush 16, 2) := by decide +kernel
theorem dX9_isOf_66 : decode cX9_isOf 66 = .ok (.isub, 1) := by decide +kernel
theorem dX9_isOf_67 : decode cX9_isOf 67 = .ok (.aload_n 0, 1) := by decide +kernel
theorem dX9_isOf_68 : decode cX9_isOf 68 = .ok (.getfield 9, 3) := by decide +kernel
theorem dX9_isOf_71 : decode cX9_isOf 71 = .ok (.iload_n 1, 1) := by decide +kernel
theorem dX9_isOf_72 : decode cX9_isOf 72 = .ok (.iaload, 1) := by decide +kernel
theorem dX9_isOf_73 : decode cX9_isOf 73 = .ok (.invokestatic 30, 3) := by decide +kernel
theorem dX9_isOf_76 : decode cX9_isOf 76 = .ok (.goto 13, 3) := by decide +kernel
theorem dX9_isOf_79 : decode cX9_isOf 79 = .ok (.iload_n 1, 1) := by decide +kernel
theorem dX9_isOf_80 : decode cX9_isOf 80 = .ok (.iload_n 2, 1) := by decide +kernel
theorem dX9_isOf_81 : decode cX9_isOf 81 = .ok (.if_icmp .ne 7, 3) := by decide +kernel
theorem dX9_isOf_84 : decode cX9_isOf 84 = .ok (.iconst 1, 1) := by decide +kernel
theorem dX9_isOf_85 : decode cX9_isOf 85 = .ok (.goto 4, 3) := by decide +kernel
theorem dX9_isOf_88 : decode cX9_isOf 88 = .ok (.iconst 0, 1) := by decide +kernel
theorem dX9_isOf_89 : decode cX9_isOf 89 = .ok (.ireturn, 1) := by decide +kernel
theorem dJ6_numberOfTrailingZeros_0f7a4_0 : decode cJ6_numberOfTrailingZeros_0f7a4 0 = .ok (.iload_n 0, 1) := by decide +kernel
theorem dJ6_numberOfTrailingZeros_0f7a4_1 : decode cJ6_numberOfTrailingZeros_0f7a4 1 = .ok (.iconst (-1), 1) := by decide +kernel
theorem dJ6_numberOfTrailingZeros_0f7a4_2 : decode cJ6_numberOfTrailingZeros_0f7a4 2 = .ok (.ixor, 1) := by decide +kernel
theorem dJ6_numberOfTrailingZeros_0f7a4_3 : decode cJ6_numberOfTrailingZeros_0f7a4 3 = .ok (.iload_n 0, 1) := by decide +kernel
theorem dJ6_numberOfTrailingZeros_0f7a4_4 : decode cJ6_numberOfTrailingZeros_0f7a4 4 = .ok (.iconst 1, 1) := by decide +kernel
theorem dJ6_numberOfTrailingZeros_0f7a4_5 : decode cJ6_numberOfTrailingZeros_0f7a4 5 = .ok (.isub, 1) := by decide +kernel
theorem dJ6_numberOfTrailingZeros_0f7a4_6 : decode cJ6_numberOfTrailingZeros_0f7a4 6 = .ok (.iand, 1) := by decide +kernel
theorem dJ6_numberOfTrailingZeros_0f7a4_7 : decode cJ6_numberOfTrailingZeros_0f7a4 7 = .ok (.istore_n 0, 1) := by decide +kernel
theorem dJ6_numberOfTrailingZeros_0f7a4_8 : decode cJ6_numberOfTrailingZeros_0f7a4 8 = .ok (.iload_n 0, 1) := by decide +kernel
theorem dJ6_numberOfTrailingZeros_0f7a4_9 : decode cJ6_numberOfTrailingZeros_0f7a4 9 = .ok (.ifCond .gt 8, 3) := by decide +kernel
theorem dJ6_numberOfTrailingZeros_0f7a4_12 : decode cJ6_numberOfTrailingZeros_0f7a4 12 = .ok (.iload_n 0, 1) := by decide +kernel
theorem dJ6_numberOfTrailingZeros_0f7a4_13 : decode cJ6_numberOfTrailingZeros_0f7a4 13 = .ok (.bipush 32, 2) := by decide +kernel
theorem dJ6_numberOfTrailingZeros_0f7a4_15 : decode cJ6_numberOfTrailingZeros_0f7a4 15 = .ok (.iand, 1) := by decide +kernel
theorem dJ6_numberOfTrailingZeros_0f7a4_16 : decode cJ6_numberOfTrailingZeros_0f7a4 16 = .ok (.ireturn, 1) := by decide +kernel
theorem dJ6_numberOfTrailingZeros_0f7a4_17 : decode cJ6_numberOfTrailingZeros_0f7a4 17 = .ok (.iconst 1, 1) := by decide +kernel
theorem dJ6_numberOfTrailingZeros_0f7a4_18 : decode cJ6_numberOfTrailingZeros_0f7a4 18 = .ok (.istore_n 1, 1) := by decide +kernel
theorem dJ6_numberOfTrailingZeros_0f7a4_19 : decode cJ6_numberOfTrailingZeros_0f7a4 19 = .ok (.iload_n 0, 1) := by decide +kernel
theorem dJ6_numberOfTrailingZeros_0f7a4_20 : decode cJ6_numberOfTrailingZeros_0f7a4 20 = .ok (.ldc_w 264, 3) := by decide +kernel
theorem dJ6_numberOfTrailingZeros_0f7a4_23 : decode cJ6_numberOfTrailingZeros_0f7a4 23 = .ok (.if_icmp .le 11, 3) := by decide +kernel
theorem dJ6_numberOfTrailingZeros_0f7a4_26 : decode cJ6_numberOfTrailingZeros_0f7a4 26 = .ok (.iinc 1 16, 3) := by decide +kernel
theorem dJ6_numberOfTrailingZeros_0f7a4_29 : decode cJ6_numberOfTrailingZeros_0f7a4 29 = .ok (.iload_n 0, 1) := by decide +kernel
theorem dJ6_numberOfTrailingZeros_0f7a4_30 : decode cJ6_numberOfTrailingZeros_0f7a4 30 = .ok (.bipush 16, 2) := by decide +kernel
theorem dJ6_numberOfTrailingZeros_0f7a4_32 : decode cJ6_numberOfTrailingZeros_0f7a4 32 = .ok (.iushr, 1) := by decide +kernel
theorem dJ6_numberOfTrailingZeros_0f7a4_33 : decode cJ6_numberOfTrailingZeros_0f7a4 33 = .ok (.istore_n 0, 1) := by decide +kernel
theorem dJ6_numberOfTrailingZeros_0f7a4_34 : decode cJ6_numberOfTrailingZeros_0f7a4 34 = .ok (.iload_n 0, 1) := by decide +kernel
theorem dJ6_numberOfTrailingZeros_0f7a4_35 : decode cJ6_numberOfTrailingZeros_0f7a4 35 = .ok (.sipush 256, 3) := by decide +kernel
theorem dJ6_numberOfTrailingZeros_0f7a4_38 : decode cJ6_numberOfTrailingZeros_0f7a4 38 = .ok (.if_icmp .le 11, 3) := by decide +kernel
theorem dJ6_numberOfTrailingZeros_0f7a4_41 : decode cJ6_numberOfTrailingZeros_0f7a4 41 = .ok (.iinc 1 8, 3) := by decide +kernel
theorem dJ6_numberOfTrailingZeros_0f7a4_44 : decode cJ6_numberOfTrailingZeros_0f7a4 44 = .ok (.iload_n 0, 1) := by decide +kernel
theorem dJ6_numberOfTrailingZeros_0f7a4_45 : decode cJ6_numberOfTrailingZeros_0f7a4 45 = .ok (.bipush 8, 2) := by decide +kernel
theorem dJ6_numberOfTrailingZeros_0f7a4_47 : decode cJ6_numberOfTrailingZeros_0f7a4 47 = .ok (.iushr, 1) := by decide +kernel
theorem dJ6_numberOfTrailingZeros_0f7a4_48 : decode cJ6_numberOfTrailingZeros_0f7a4 48 = .ok (.istore_n 0, 1) := by decide +kernel
theorem dJ6_numberOfTrailingZeros_0f7a4_49 : decode cJ6_numberOfTrailingZeros_0f7a4 49 = .ok (.iload_n 0, 1) := by decide +kernel
theorem dJ6_numberOfTrailingZeros_0f7a4_50 : decode cJ6_numberOfTrailingZeros_0f7a4 50 = .ok (.bipush 16, 2) := by decide +kernel
theorem dJ6_numberOfTrailingZeros_0f7a4_52 : decode cJ6_numberOfTrailingZeros_0f7a4 52 = .ok (.if_icmp .le 10, 3) := by decide +kernel
theorem dJ6_numberOfTrailingZeros_0f7a4_55 : decode cJ6_numberOfTrailingZeros_0f7a4 55 = .ok (.iinc 1 4, 3) := by decide +kernel
theorem dJ6_numberOfTrailingZeros_0f7a4_58 : decode cJ6_numberOfTrailingZeros_0f7a4 58 = .ok (.iload_n 0, 1) := by decide +kernel
theorem dJ6_numberOfTrailingZeros_0f7a4_59 : decode cJ6_numberOfTrailingZeros_0f7a4 59 = .ok (.iconst 4, 1) := by decide +kernel
theorem dJ6_numberOfTrailingZeros_0f7a4_60 : decode cJ6_numberOfTrailingZeros_0f7a4 60 = .ok (.iushr, 1) := by decide +kernel
theorem dJ6_numberOfTrailingZeros_0f7a4_61 : decode cJ6_numberOfTrailingZeros_0f7a4 61 = .ok (.istore_n 0, 1) := by decide +kernel
theorem dJ6_numberOfTrailingZeros_0f7a4_62 : decode cJ6_numberOfTrailingZeros_0f7a4 62 = .ok (.iload_n 0, 1) := by decide +kernel
theorem dJ6_numberOfTrailingZeros_0f7a4_63 : decode cJ6_numberOfTrailingZeros_0f7a4 63 = .ok (.iconst 4, 1) := by decide +kernel
theorem dJ6_numberOfTrailingZeros_0f7a4_64 : decode cJ6_numberOfTrailingZeros_0f7a4 64 = .ok (.if_icmp .le 10, 3) := by decide +kernel
theorem dJ6_numberOfTrailingZeros_0f7a4_67 : decode cJ6_numberOfTrailingZeros_0f7a4 67 = .ok (.iinc 1 2, 3) := by decide +kernel
theorem dJ6_numberOfTrailingZeros_0f7a4_70 : decode cJ6_numberOfTrailingZeros_0f7a4 70 = .ok (.iload_n 0, 1) := by decide +kernel
theorem dJ6_numberOfTrailingZeros_0f7a4_71 : decode cJ6_numberOfTrailingZeros_0f7a4 71 = .ok (.iconst 2, 1) := by decide +kernel
theorem dJ6_numberOfTrailingZeros_0f7a4_72 : decode cJ6_numberOfTrailingZeros_0f7a4 72 = .ok (.iushr, 1) := by decide +kernel
theorem dJ6_numberOfTrailingZeros_0f7a4_73 : decode cJ6_numberOfTrailingZeros_0f7a4 73 = .ok (.istore_n 0, 1) := by decide +kernel
theorem dJ6_numberOfTrailingZeros_0f7a4_74 : decode cJ6_numberOfTrailingZeros_0f7a4 74 = .ok (.iload_n 1, 1) := by decide +kernel
theorem dJ6_numberOfTrailingZeros_0f7a4_75 : decode cJ6_numberOfTrailingZeros_0f7a4 75 = .ok (.iload_n 0, 1) := by decide +kernel
theorem dJ6_numberOfTrailingZeros_0f7a4_76 : decode cJ6_numberOfTrailingZeros_0f7a4 76 = .ok (.iconst 1, 1) := by decide +kernel
theorem dJ6_numberOfTrailingZeros_0f7a4_77 : decode cJ6_numberOfTrailingZeros_0f7a4 77 = .ok (.iushr, 1) := by decide +kernel
theorem dJ6_numberOfTrailingZeros_0f7a4_78 : decode cJ6_numberOfTrailingZeros_0f7a4 78 = .ok (.iadd, 1) := by decide +kernel
theorem dJ6_numberOfTrailingZeros_0f7a4_79 : decode cJ6_numberOfTrailingZeros_0f7a4 79 = .ok (.ireturn, 1) := by decide +kernel
theorem dJ6_bitCount_0f7a4_0 : decode cJ6_bitCount_0f7a4 0 = .ok (.iload_n 0, 1) := by decide +kernel
theorem dJ6_bitCount_0f7a4_1 : decode cJ6_bitCount_0f7a4 1 = .ok (.iload_n 0, 1) := by decide +kernel
theorem dJ6_bitCount_0f7a4_2 : decode cJ6_bitCount_0f7a4 2 = .ok (.iconst 1, 1) := by decide +kernel
theorem dJ6_bitCount_0f7a4_3 : decode cJ6_bitCount_0f7a4 3 = .ok (.iushr, 1) := by decide +kernel
theorem dJ6_bitCount_0f7a4_4 : decode cJ6_bitCount_0f7a4 4 = .ok (.ldc_w 265, 3) := by decide +kernel
theorem dJ6_bitCount_0f7a4_7 : decode cJ6_bitCount_0f7a4 7 = .ok (.iand, 1) := by decide +kernel
theorem dJ6_bitCount_0f7a4_8 : decode cJ6_bitCount_0f7a4 8 = .ok (.isub, 1) := by decide +kernel
theorem dJ6_bitCount_0f7a4_9 : decode cJ6_bitCount_0f7a4 9 = .ok (.istore_n 0, 1) := by decide +kernel
theorem dJ6_bitCount_0f7a4_10 : decode cJ6_bitCount_0f7a4 10 = .ok (.iload_n 0, 1) := by decide +kernel
theorem dJ6_bitCount_0f7a4_11 : decode cJ6_bitCount_0f7a4 11 = .ok (.ldc_w 266, 3) := by decide +kernel
theorem dJ6_bitCount_0f7a4_14 : decode cJ6_bitCount_0f7a4 14 = .ok (.iand, 1) := by decide +kernel
theorem dJ6_bitCount_0f7a4_15 : decode cJ6_bitCount_0f7a4 15 = .ok (.iload_n 0, 1) := by decide +kernel
theorem dJ6_bitCount_0f7a4_16 : decode cJ6_bitCount_0f7a4 16 = .ok (.iconst 2, 1) := by decide +kernel
theorem dJ6_bitCount_0f7a4_17 : decode cJ6_bitCount_0f7a4 17 = .ok (.iushr, 1) := by decide +kernel
theorem dJ6_bitCount_0f7a4_18 : decode cJ6_bitCount_0f7a4 18 = .ok (.ldc_w 266, 3) := by decide +kernel
theorem dJ6_bitCount_0f7a4_21 : decode cJ6_bitCount_0f7a4 21 = .ok (.iand, 1) := by decide +kernel
theorem dJ6_bitCount_0f7a4_22 : decode cJ6_bitCount_0f7a4 22 = .ok (.iadd, 1) := by decide +kernel
theorem dJ6_bitCount_0f7a4_23 : decode cJ6_bitCount_0f7a4 23 = .ok (.istore_n 0, 1) := by decide +kernel
theorem dJ6_bitCount_0f7a4_24 : decode cJ6_bitCount_0f7a4 24 = .ok (.iload_n 0, 1) := by decide +kernel
theorem dJ6_bitCount_0f7a4_25 : decode cJ6_bitCount_0f7a4 25 = .ok (.iload_n 0, 1) := by decide +kernel
theorem dJ6_bitCount_0f7a4_26 : decode cJ6_bitCount_0f7a4 26 = .ok (.iconst 4, 1) := by decide +kernel
theorem dJ6_bitCount_0f7a4_27 : decode cJ6_bitCount_0f7a4 27 = .ok (.iushr, 1) := by decide +kernel
theorem dJ6_bitCount_0f7a4_28 : decode cJ6_bitCount_0f7a4 28 = .ok (.iadd, 1) := by decide +kernel
theorem dJ6_bitCount_0f7a4_29 : decode cJ6_bitCount_0f7a4 29 = .ok (.ldc_w 267, 3) := by decide +kernel
theorem dJ6_bitCount_0f7a4_32 : decode cJ6_bitCount_0f7a4 32 = .ok (.iand, 1) := by decide +kernel
theorem dJ6_bitCount_0f7a4_33 : decode cJ6_bitCount_0f7a4 33 = .ok (.istore_n 0, 1) := by decide +kernel
theorem dJ6_bitCount_0f7a4_34 : decode cJ6_bitCount_0f7a4 34 = .ok (.iload_n 0, 1) := by decide +kernel
theorem dJ6_bitCount_0f7a4_35 : decode cJ6_bitCount_0f7a4 35 = .ok (.iload_n 0, 1) := by decide +kernel
theorem dJ6_bitCount_0f7a4_36 : decode cJ6_bitCount_0f7a4 36 = .ok (.bipush 8, 2) := by decide +kernel
theorem dJ6_bitCount_0f7a4_38 : decode cJ6_bitCount_0f7a4 38 = .ok (.iushr, 1) := by decide +kernel
theorem dJ6_bitCount_0f7a4_39 : decode cJ6_bitCount_0f7a4 39 = .ok (.iadd, 1) := by decide +kernel
theorem dJ6_bitCount_0f7a4_40 : decode cJ6_bitCount_0f7a4 40 = .ok (.istore_n 0, 1) := by decide +kernel
theorem dJ6_bitCount_0f7a4_41 : decode cJ6_bitCount_0f7a4 41 = .ok (.iload_n 0, 1) := by decide +kernel
theorem dJ6_bitCount_0f7a4_42 : decode cJ6_bitCount_0f7a4 42 = .ok (.iload_n 0, 1) := by decide +kernel
theorem dJ6_bitCount_0f7a4_43 : decode cJ6_bitCount_0f7a4 43 = .ok (.bipush 16, 2) := by decide +kernel
theorem dJ6_bitCount_0f7a4_45 : decode cJ6_bitCount_0f7a4 45 = .ok (.iushr, 1) := by decide +kernel
theorem dJ6_bitCount_0f7a4_46 : decode cJ6_bitCount_0f7a4 46 = .ok (.iadd, 1) := by decide +kernel
theorem dJ6_bitCount_0f7a4_47 : decode cJ6_bitCount_0f7a4 47 = .ok (.istore_n 0, 1) := by decide +kernel
theorem dJ6_bitCount_0f7a4_48 : decode cJ6_bitCount_0f7a4 48 = .ok (.iload_n 0, 1) := by decide +kernel
theorem dJ6_bitCount_0f7a4_49 : decode cJ6_bitCount_0f7a4 49 = .ok (.bipush 63, 2) := by decide +kernel
theorem dJ6_bitCount_0f7a4_51 : decode cJ6_bitCount_0f7a4 51 = .ok (.iand, 1) := by decide +kernel
theorem dJ6_bitCount_0f7a4_52 : decode cJ6_bitCount_0f7a4 52 = .ok (.ireturn, 1) := by decide +kernel
theorem dJ9_min_7cf53_0 : decode cJ9_min_7cf53 0 = .ok (.iload_n 0, 1) := by decide +kernel
theorem dJ9_min_7cf53_1 : decode cJ9_min_7cf53 1 = .ok (.iload_n 1, 1) := by decide +kernel
theorem dJ9_min_7cf53_2 : decode cJ9_min_7cf53 2 = .ok (.if_icmp .gt 7, 3) := by decide +kernel
theorem dJ9_min_7cf53_5 : decode cJ9_min_7cf53 5 = .ok (.iload_n 0, 1) := by decide +kernel
theorem dJ9_min_7cf53_6 : decode cJ9_min_7cf53 6 = .ok (.goto 4, 3) := by decide +kernel
theorem dJ9_min_7cf53_9 : decode cJ9_min_7cf53 9 = .ok (.iload_n 1, 1) := by decide +kernel
theorem dJ9_min_7cf53_10 : decode cJ9_min_7cf53 10 = .ok (.ireturn, 1) := by decide +kernel
theorem dJ7_fill_53178_0 : decode cJ7_fill_53178 0 = .ok (.iconst 0, 1) := by decide +kernel
theorem dJ7_fill_53178_1 : decode cJ7_fill_53178 1 = .ok (.istore_n 2, 1) := by decide +kernel
theorem dJ7_fill_53178_2 : decode cJ7_fill_53178 2 = .ok (.aload_n 0, 1) := by decide +kernel
theorem dJ7_fill_53178_3 : decode cJ7_fill_53178 3 = .ok (.arraylength, 1) := by decide +kernel
theorem dJ7_fill_53178_4 : decode cJ7_fill_53178 4 = .ok (.istore_n 3, 1) := by decide +kernel
theorem dJ7_fill_53178_5 : decode cJ7_fill_53178 5 = .ok (.iload_n 2, 1) := by decide +kernel
theorem dJ7_fill_53178_6 : decode cJ7_fill_53178 6 = .ok (.iload_n 3, 1) := by decide +kernel
theorem dJ7_fill_53178_7 : decode cJ7_fill_53178 7 = .ok (.if_icmp .ge 13, 3) := by decide +kernel
theorem dJ7_fill_53178_10 : decode cJ7_fill_53178 10 = .ok (.aload_n 0, 1) := by decide +kernel
theorem dJ7_fill_53178_11 : decode cJ7_fill_53178 11 = .ok (.iload_n 2, 1) := by decide +kernel
theorem dJ7_fill_53178_12 : decode cJ7_fill_53178 12 = .ok (.iload_n 1, 1) := by decide +kernel
theorem dJ7_fill_53178_13 : decode cJ7_fill_53178 13 = .ok (.iastore, 1) := by decide +kernel
theorem dJ7_fill_53178_14 : decode cJ7_fill_53178 14 = .ok (.iinc 2 1, 3) := by decide +kernel
theorem dJ7_fill_53178_17 : decode cJ7_fill_53178 17 = .ok (.goto (-12), 3) := by decide +kernel
theorem dJ7_fill_53178_20 : decode cJ7_fill_53178 20 = .ok (.return_, 1) := by decide +kernel
