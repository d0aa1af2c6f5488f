theorem dX11_derive_43 : decode cX11_derive 43 = .ok (.invokevirtual 224, 3) := by decide +kernel
theorem dX11_derive_46 : decode cX11_derive 46 = .ok (.ifCond .eq 8, 3) := by decide +kernel
theorem dX11_derive_49 : decode cX11_derive 49 = .ok (.iload 5, 2) := by decide +kernel
theorem dX11_derive_51 : decode cX11_derive 51 = .ok (.goto 4, 3) := by decide +kernel
theorem dX11_derive_54 : decode cX11_derive 54 = .ok (.iload_n 3, 1) := by decide +kernel
theorem dX11_derive_55 : decode cX11_derive 55 = .ok (.istore_n 3, 1) := by decide +kernel
theorem dX11_derive_56 : decode cX11_derive 56 = .ok (.iinc 5 1, 3) := by decide +kernel
theorem dX11_derive_59 : decode cX11_derive 59 = .ok (.goto (-50), 3) := by decide +kernel
theorem dX11_derive_62 : decode cX11_derive 62 = .ok (.iload_n 3, 1) := by decide +kernel
theorem dX11_derive_63 : decode cX11_derive 63 = .ok (.ireturn, 1) := by decide +kernel
theorem dX11_derived_0 : decode cX11_derived 0 = .ok (.aload_n 0, 1) := by decide +kernel
theorem dX11_derived_1 : decode cX11_derived 1 = .ok (.iload_n 1, 1) := by decide +kernel
theorem dX11_derived_2 : decode cX11_derived 2 = .ok (.invokevirtual 167, 3) := by decide +kernel
theorem dX11_derived_5 : decode cX11_derived 5 = .ok (.ifCond .eq 21, 3) := by decide +kernel
theorem dX11_derived_8 : decode cX11_derived 8 = .ok (.iload_n 2, 1) := by decide +kernel
theorem dX11_derived_9 : decode cX11_derived 9 = .ok (.invokestatic 173, 3) := by decide +kernel
theorem dX11_derived_12 : decode cX11_derived 12 = .ok (.ifCond .eq 14, 3) := by decide +kernel
theorem dX11_derived_15 : decode cX11_derived 15 = .ok (.iload 4, 2) := by decide +kernel
theorem dX11_derived_17 : decode cX11_derived 17 = .ok (.iconst (-1), 1) := by decide +kernel
theorem dX11_derived_18 : decode cX11_derived 18 = .ok (.bipush 7, 2) := by decide +kernel
theorem dX11_derived_20 : decode cX11_derived 20 = .ok (.invokestatic 124, 3) := by decide +kernel
theorem dX11_derived_23 : decode cX11_derived 23 = .ok (.ifCond .ne 5, 3) := by decide +kernel
theorem dX11_derived_26 : decode cX11_derived 26 = .ok (.iconst (-1), 1) := by decide +kernel
theorem dX11_derived_27 : decode cX11_derived 27 = .ok (.ireturn, 1) := by decide +kernel
theorem dX11_derived_28 : decode cX11_derived 28 = .ok (.iload_n 3, 1) := by decide +kernel
theorem dX11_derived_29 : decode cX11_derived 29 = .ok (.iconst 0, 1) := by decide +kernel
theorem dX11_derived_30 : decode cX11_derived 30 = .ok (.bipush 8, 2) := by decide +kernel
theorem dX11_derived_32 : decode cX11_derived 32 = .ok (.invokestatic 124, 3) := by decide +kernel
theorem dX11_derived_35 : decode cX11_derived 35 = .ok (.ifCond .ne 6, 3) := by decide +kernel
theorem dX11_derived_38 : decode cX11_derived 38 = .ok (.bipush (-2), 2) := by decide +kernel
theorem dX11_derived_40 : decode cX11_derived 40 = .ok (.ireturn, 1) := by decide +kernel
theorem dX11_derived_41 : decode cX11_derived 41 = .ok (.aload_n 0, 1) := by decide +kernel
theorem dX11_derived_42 : decode cX11_derived 42 = .ok (.getfield 58, 3) := by decide +kernel
theorem dX11_derived_45 : decode cX11_derived 45 = .ok (.iload_n 2, 1) := by decide +kernel
theorem dX11_derived_46 : decode cX11_derived 46 = .ok (.iaload, 1) := by decide +kernel
theorem dX11_derived_47 : decode cX11_derived 47 = .ok (.bipush (-9), 2) := by decide +kernel
theorem dX11_derived_49 : decode cX11_derived 49 = .ok (.if_icmp .ne 6, 3) := by decide +kernel
theorem dX11_derived_52 : decode cX11_derived 52 = .ok (.bipush (-3), 2) := by decide +kernel
theorem dX11_derived_54 : decode cX11_derived 54 = .ok (.ireturn, 1) := by decide +kernel
theorem dX11_derived_55 : decode cX11_derived 55 = .ok (.aload_n 0, 1) := by decide +kernel
theorem dX11_derived_56 : decode cX11_derived 56 = .ok (.iload_n 2, 1) := by decide +kernel
theorem dX11_derived_57 : decode cX11_derived 57 = .ok (.invokevirtual 227, 3) := by decide +kernel
theorem dX11_derived_60 : decode cX11_derived 60 = .ok (.aload_n 0, 1) := by decide +kernel
theorem dX11_derived_61 : decode cX11_derived 61 = .ok (.iload_n 1, 1) := by decide +kernel
theorem dX11_derived_62 : decode cX11_derived 62 = .ok (.iload_n 3, 1) := by decide +kernel
theorem dX11_derived_63 : decode cX11_derived 63 = .ok (.invokevirtual 231, 3) := by decide +kernel
theorem dX11_derived_66 : decode cX11_derived 66 = .ok (.pop, 1) := by decide +kernel
theorem dX11_derived_67 : decode cX11_derived 67 = .ok (.iload 4, 2) := by decide +kernel
theorem dX11_derived_69 : decode cX11_derived 69 = .ok (.iconst (-1), 1) := by decide +kernel
theorem dX11_derived_70 : decode cX11_derived 70 = .ok (.if_icmp .ne 10, 3) := by decide +kernel
theorem dX11_derived_73 : decode cX11_derived 73 = .ok (.aload_n 0, 1) := by decide +kernel
theorem dX11_derived_74 : decode cX11_derived 74 = .ok (.getfield 218, 3) := by decide +kernel
theorem dX11_derived_77 : decode cX11_derived 77 = .ok (.goto 24, 3) := by decide +kernel
theorem dX11_derived_80 : decode cX11_derived 80 = .ok (.iload 4, 2) := by decide +kernel
theorem dX11_derived_82 : decode cX11_derived 82 = .ok (.aload_n 0, 1) := by decide +kernel
theorem dX11_derived_83 : decode cX11_derived 83 = .ok (.getfield 218, 3) := by decide +kernel
theorem dX11_derived_86 : decode cX11_derived 86 = .ok (.if_icmp .ge 13, 3) := by decide +kernel
theorem dX11_derived_89 : decode cX11_derived 89 = .ok (.aload_n 0, 1) := by decide +kernel
theorem dX11_derived_90 : decode cX11_derived 90 = .ok (.getfield 82, 3) := by decide +kernel
theorem dX11_derived_93 : decode cX11_derived 93 = .ok (.iload 4, 2) := by decide +kernel
theorem dX11_derived_95 : decode cX11_derived 95 = .ok (.iaload, 1) := by decide +kernel
theorem dX11_derived_96 : decode cX11_derived 96 = .ok (.goto 5, 3) := by decide +kernel
theorem dX11_derived_99 : decode cX11_derived 99 = .ok (.bipush (-9), 2) := by decide +kernel
theorem dX11_derived_101 : decode cX11_derived 101 = .ok (.ireturn, 1) := by decide +kernel
theorem dX11_latest_0 : decode cX11_latest 0 = .ok (.aload_n 0, 1) := by decide +kernel
theorem dX11_latest_1 : decode cX11_latest 1 = .ok (.iload_n 1, 1) := by decide +kernel
theorem dX11_latest_2 : decode cX11_latest 2 = .ok (.invokevirtual 167, 3) := by decide +kernel
theorem dX11_latest_5 : decode cX11_latest 5 = .ok (.ifCond .eq 10, 3) := by decide +kernel
theorem dX11_latest_8 : decode cX11_latest 8 = .ok (.iload_n 2, 1) := by decide +kernel
theorem dX11_latest_9 : decode cX11_latest 9 = .ok (.invokestatic 173, 3) := by decide +kernel
theorem dX11_latest_12 : decode cX11_latest 12 = .ok (.ifCond .ne 5, 3) := by decide +kernel
theorem dX11_latest_15 : decode cX11_latest 15 = .ok (.iconst (-1), 1) := by decide +kernel
theorem dX11_latest_16 : decode cX11_latest 16 = .ok (.ireturn, 1) := by decide +kernel
theorem dX11_latest_17 : decode cX11_latest 17 = .ok (.aload_n 0, 1) := by decide +kernel
theorem dX11_latest_18 : decode cX11_latest 18 = .ok (.getfield 58, 3) := by decide +kernel
theorem dX11_latest_21 : decode cX11_latest 21 = .ok (.iload_n 2, 1) := by decide +kernel
theorem dX11_latest_22 : decode cX11_latest 22 = .ok (.iaload, 1) := by decide +kernel
theorem dX11_latest_23 : decode cX11_latest 23 = .ok (.bipush (-9), 2) := by decide +kernel
theorem dX11_latest_25 : decode cX11_latest 25 = .ok (.if_icmp .ne 6, 3) := by decide +kernel
theorem dX11_latest_28 : decode cX11_latest 28 = .ok (.bipush (-3), 2) := by decide +kernel
theorem dX11_latest_30 : decode cX11_latest 30 = .ok (.ireturn, 1) := by decide +kernel
theorem dX11_latest_31 : decode cX11_latest 31 = .ok (.aload_n 0, 1) := by decide +kernel
theorem dX11_latest_32 : decode cX11_latest 32 = .ok (.iload_n 2, 1) := by decide +kernel
theorem dX11_latest_33 : decode cX11_latest 33 = .ok (.invokevirtual 227, 3) := by decide +kernel
theorem dX11_latest_36 : decode cX11_latest 36 = .ok (.aload_n 0, 1) := by decide +kernel
theorem dX11_latest_37 : decode cX11_latest 37 = .ok (.iload_n 1, 1) := by decide +kernel
theorem dX11_latest_38 : decode cX11_latest 38 = .ok (.bipush 8, 2) := by decide +kernel
theorem dX11_latest_40 : decode cX11_latest 40 = .ok (.invokevirtual 231, 3) := by decide +kernel
theorem dX11_latest_43 : decode cX11_latest 43 = .ok (.ireturn, 1) := by decide +kernel
theorem dX11_gap_0 : decode cX11_gap 0 = .ok (.iload_n 1, 1) := by decide +kernel
theorem dX11_gap_1 : decode cX11_gap 1 = .ok (.iconst 1, 1) := by decide +kernel
theorem dX11_gap_2 : decode cX11_gap 2 = .ok (.bipush 20, 2) := by decide +kernel
theorem dX11_gap_4 : decode cX11_gap 4 = .ok (.invokestatic 124, 3) := by decide +kernel
theorem dX11_gap_7 : decode cX11_gap 7 = .ok (.ifCond .ne 6, 3) := by decide +kernel
theorem dX11_gap_10 : decode cX11_gap 10 = .ok (.bipush (-2), 2) := by decide +kernel
theorem dX11_gap_12 : decode cX11_gap 12 = .ok (.ireturn, 1) := by decide +kernel
theorem dX11_gap_13 : decode cX11_gap 13 = .ok (.aload_n 0, 1) := by decide +kernel
theorem dX11_gap_14 : decode cX11_gap 14 = .ok (.getfield 88, 3) := by decide +kernel
theorem dX11_gap_17 : decode cX11_gap 17 = .ok (.istore_n 2, 1) := by decide +kernel
theorem dX11_gap_18 : decode cX11_gap 18 = .ok (.aload_n 0, 1) := by decide +kernel
theorem dX11_gap_19 : decode cX11_gap 19 = .ok (.iload_n 1, 1) := by decide +kernel
theorem dX11_gap_20 : decode cX11_gap 20 = .ok (.putfield 88, 3) := by decide +kernel
theorem dX11_gap_23 : decode cX11_gap 23 = .ok (.iload_n 2, 1) := by decide +kernel
theorem dX11_gap_24 : decode cX11_gap 24 = .ok (.ireturn, 1) := by decide +kernel
theorem dX11_layCosts_0 : decode cX11_layCosts 0 = .ok (.iload_n 1, 1) := by decide +kernel
theorem dX11_layCosts_1 : decode cX11_layCosts 1 = .ok (.istore_n 3, 1) := by decide +kernel
theorem dX11_layCosts_2 : decode cX11_layCosts 2 = .ok (.iload_n 3, 1) := by decide +kernel
theorem dX11_layCosts_3 : decode cX11_layCosts 3 = .ok (.ifCond .lt 182, 3) := by decide +kernel
theorem dX11_layCosts_6 : decode cX11_layCosts 6 = .ok (.iload_n 2, 1) := by decide +kernel
theorem dX11_layCosts_7 : decode cX11_layCosts 7 = .ok (.istore 4, 2) := by decide +kernel
theorem dX11_layCosts_9 : decode cX11_layCosts 9 = .ok (.iload 4, 2) := by decide +kernel
theorem dX11_layCosts_11 : decode cX11_layCosts 11 = .ok (.ifCond .lt 168, 3) := by decide +kernel
theorem dX11_layCosts_14 : decode cX11_layCosts 14 = .ok (.iload_n 3, 1) := by decide +kernel
theorem dX11_layCosts_15 : decode cX11_layCosts 15 = .ok (.iload_n 1, 1) := by decide +kernel
theorem dX11_layCosts_16 : decode cX11_layCosts 16 = .ok (.if_icmp .eq 9, 3) := by decide +kernel
theorem dX11_layCosts_19 : decode cX11_layCosts 19 = .ok (.iload 4, 2) := by decide +kernel
theorem dX11_layCosts_21 : decode cX11_layCosts 21 = .ok (.iload_n 2, 1) := by decide +kernel
theorem dX11_layCosts_22 : decode cX11_layCosts 22 = .ok (.if_icmp .ne 31, 3) := by decide +kernel
theorem dX11_layCosts_25 : decode cX11_layCosts 25 = .ok (.aload_n 0, 1) := by decide +kernel
theorem dX11_layCosts_26 : decode cX11_layCosts 26 = .ok (.getfield 92, 3) := by decide +kernel
theorem dX11_layCosts_29 : decode cX11_layCosts 29 = .ok (.bipush 9, 2) := by decide +kernel
theorem dX11_layCosts_31 : decode cX11_layCosts 31 = .ok (.iload_n 3, 1) := by decide +kernel
theorem dX11_layCosts_32 : decode cX11_layCosts 32 = .ok (.imul, 1) := by decide +kernel
theorem dX11_layCosts_33 : decode cX11_layCosts 33 = .ok (.iload 4, 2) := by decide +kernel
theorem dX11_layCosts_35 : decode cX11_layCosts 35 = .ok (.iadd, 1) := by decide +kernel
theorem dX11_layCosts_36 : decode cX11_layCosts 36 = .ok (.aload_n 0, 1) := by decide +kernel
theorem dX11_layCosts_37 : decode cX11_layCosts 37 = .ok (.getfield 88, 3) := by decide +kernel
theorem dX11_layCosts_40 : decode cX11_layCosts 40 = .ok (.iload_n 1, 1) := by decide +kernel
theorem dX11_layCosts_41 : decode cX11_layCosts 41 = .ok (.iload_n 3, 1) := by decide +kernel
theorem dX11_layCosts_42 : decode cX11_layCosts 42 = .ok (.isub, 1) := by decide +kernel
theorem dX11_layCosts_43 : decode cX11_layCosts 43 = .ok (.iload_n 2, 1) := by decide +kernel
theorem dX11_layCosts_44 : decode cX11_layCosts 44 = .ok (.iadd, 1) := by decide +kernel
theorem dX11_layCosts_45 : decode cX11_layCosts 45 = .ok (.iload 4, 2) := by decide +kernel
theorem dX11_layCosts_47 : decode cX11_layCosts 47 = .ok (.isub, 1) := by decide +kernel
theorem dX11_layCosts_48 : decode cX11_layCosts 48 = .ok (.imul, 1) := by decide +kernel
theorem dX11_layCosts_49 : decode cX11_layCosts 49 = .ok (.iastore, 1) := by decide +kernel
theorem dX11_layCosts_50 : decode cX11_layCosts 50 = .ok (.goto 123, 3) := by decide +kernel
theorem dX11_layCosts_53 : decode cX11_layCosts 53 = .ok (.aload_n 0, 1) := by decide +kernel
theorem dX11_layCosts_54 : decode cX11_layCosts 54 = .ok (.aload_n 0, 1) := by decide +kernel
theorem dX11_layCosts_55 : decode cX11_layCosts 55 = .ok (.getfield 95, 3) := by decide +kernel
theorem dX11_layCosts_58 : decode cX11_layCosts 58 = .ok (.iload_n 3, 1) := by decide +kernel
theorem dX11_layCosts_59 : decode cX11_layCosts 59 = .ok (.iaload, 1) := by decide +kernel
theorem dX11_layCosts_60 : decode cX11_layCosts 60 = .ok (.aload_n 0, 1) := by decide +kernel
theorem dX11_layCosts_61 : decode cX11_layCosts 61 = .ok (.getfield 98, 3) := by decide +kernel
theorem dX11_layCosts_64 : decode cX11_layCosts 64 = .ok (.iload 4, 2) := by decide +kernel
theorem dX11_layCosts_66 : decode cX11_layCosts 66 = .ok (.iaload, 1) := by decide +kernel
theorem dX11_layCosts_67 : decode cX11_layCosts 67 = .ok (.invokevirtual 136, 3) := by decide +kernel
theorem dX11_layCosts_70 : decode cX11_layCosts 70 = .ok (.aload_n 0, 1) := by decide +kernel
theorem dX11_layCosts_71 : decode cX11_layCosts 71 = .ok (.getfield 92, 3) := by decide +kernel
theorem dX11_layCosts_74 : decode cX11_layCosts 74 = .ok (.bipush 9, 2) := by decide +kernel
theorem dX11_layCosts_76 : decode cX11_layCosts 76 = .ok (.iload_n 3, 1) := by decide +kernel
theorem dX11_layCosts_77 : decode cX11_layCosts 77 = .ok (.iconst 1, 1) := by decide +kernel
theorem dX11_layCosts_78 : decode cX11_layCosts 78 = .ok (.iadd, 1) := by decide +kernel
theorem dX11_layCosts_79 : decode cX11_layCosts 79 = .ok (.imul, 1) := by decide +kernel
theorem dX11_layCosts_80 : decode cX11_layCosts 80 = .ok (.iload 4, 2) := by decide +kernel
theorem dX11_layCosts_82 : decode cX11_layCosts 82 = .ok (.iadd, 1) := by decide +kernel
theorem dX11_layCosts_83 : decode cX11_layCosts 83 = .ok (.iconst 1, 1) := by decide +kernel
theorem dX11_layCosts_84 : decode cX11_layCosts 84 = .ok (.iadd, 1) := by decide +kernel
theorem dX11_layCosts_85 : decode cX11_layCosts 85 = .ok (.iaload, 1) := by decide +kernel
theorem dX11_layCosts_86 : decode cX11_layCosts 86 = .ok (.iadd, 1) := by decide +kernel
theorem dX11_layCosts_87 : decode cX11_layCosts 87 = .ok (.istore 5, 2) := by decide +kernel
theorem dX11_layCosts_89 : decode cX11_layCosts 89 = .ok (.aload_n 0, 1) := by decide +kernel
theorem dX11_layCosts_90 : decode cX11_layCosts 90 = .ok (.getfield 92, 3) := by decide +kernel
theorem dX11_layCosts_93 : decode cX11_layCosts 93 = .ok (.bipush 9, 2) := by decide +kernel
theorem dX11_layCosts_95 : decode cX11_layCosts 95 = .ok (.iload_n 3, 1) := by decide +kernel
theorem dX11_layCosts_96 : decode cX11_layCosts 96 = .ok (.iconst 1, 1) := by decide +kernel
theorem dX11_layCosts_97 : decode cX11_layCosts 97 = .ok (.iadd, 1) := by decide +kernel
theorem dX11_layCosts_98 : decode cX11_layCosts 98 = .ok (.imul, 1) := by decide +kernel
theorem dX11_layCosts_99 : decode cX11_layCosts 99 = .ok (.iload 4, 2) := by decide +kernel
theorem dX11_layCosts_101 : decode cX11_layCosts 101 = .ok (.iadd, 1) := by decide +kernel
theorem dX11_layCosts_102 : decode cX11_layCosts 102 = .ok (.iaload, 1) := by decide +kernel
theorem dX11_layCosts_103 : decode cX11_layCosts 103 = .ok (.aload_n 0, 1) := by decide +kernel
theorem dX11_layCosts_104 : decode cX11_layCosts 104 = .ok (.getfield 88, 3) := by decide +kernel
theorem dX11_layCosts_107 : decode cX11_layCosts 107 = .ok (.iadd, 1) := by decide +kernel
theorem dX11_layCosts_108 : decode cX11_layCosts 108 = .ok (.istore 6, 2) := by decide +kernel
theorem dX11_layCosts_110 : decode cX11_layCosts 110 = .ok (.aload_n 0, 1) := by decide +kernel
theorem dX11_layCosts_111 : decode cX11_layCosts 111 = .ok (.getfield 92, 3) := by decide +kernel
theorem dX11_layCosts_114 : decode cX11_layCosts 114 = .ok (.bipush 9, 2) := by decide +kernel
theorem dX11_layCosts_116 : decode cX11_layCosts 116 = .ok (.iload_n 3, 1) := by decide +kernel
theorem dX11_layCosts_117 : decode cX11_layCosts 117 = .ok (.imul, 1) := by decide +kernel
theorem dX11_layCosts_118 : decode cX11_layCosts 118 = .ok (.iload 4, 2) := by decide +kernel
theorem dX11_layCosts_120 : decode cX11_layCosts 120 = .ok (.iadd, 1) := by decide +kernel
theorem dX11_layCosts_121 : decode cX11_layCosts 121 = .ok (.iconst 1, 1) := by decide +kernel
theorem dX11_layCosts_122 : decode cX11_layCosts 122 = .ok (.iadd, 1) := by decide +kernel
theorem dX11_layCosts_123 : decode cX11_layCosts 123 = .ok (.iaload, 1) := by decide +kernel
theorem dX11_layCosts_124 : decode cX11_layCosts 124 = .ok (.aload_n 0, 1) := by decide +kernel
theorem dX11_layCosts_125 : decode cX11_layCosts 125 = .ok (.getfield 88, 3) := by decide +kernel
theorem dX11_layCosts_128 : decode cX11_layCosts 128 = .ok (.iadd, 1) := by decide +kernel
theorem dX11_layCosts_129 : decode cX11_layCosts 129 = .ok (.istore 7, 2) := by decide +kernel
theorem dX11_layCosts_131 : decode cX11_layCosts 131 = .ok (.iload 5, 2) := by decide +kernel
theorem dX11_layCosts_133 : decode cX11_layCosts 133 = .ok (.iload 6, 2) := by decide +kernel
theorem dX11_layCosts_135 : decode cX11_layCosts 135 = .ok (.if_icmp .ge 8, 3) := by decide +kernel
theorem dX11_layCosts_138 : decode cX11_layCosts 138 = .ok (.iload 5, 2) := by decide +kernel
theorem dX11_layCosts_140 : decode cX11_layCosts 140 = .ok (.goto 5, 3) := by decide +kernel
theorem dX11_layCosts_143 : decode cX11_layCosts 143 = .ok (.iload 6, 2) := by decide +kernel
theorem dX11_layCosts_145 : decode cX11_layCosts 145 = .ok (.istore 8, 2) := by decide +kernel
theorem dX11_layCosts_147 : decode cX11_layCosts 147 = .ok (.aload_n 0, 1) := by decide +kernel
theorem dX11_layCosts_148 : decode cX11_layCosts 148 = .ok (.getfield 92, 3) := by decide +kernel
theorem dX11_layCosts_151 : decode cX11_layCosts 151 = .ok (.bipush 9, 2) := by decide +kernel
theorem dX11_layCosts_153 : decode cX11_layCosts 153 = .ok (.iload_n 3, 1) := by decide +kernel
theorem dX11_layCosts_154 : decode cX11_layCosts 154 = .ok (.imul, 1) := by decide +kernel
theorem dX11_layCosts_155 : decode cX11_layCosts 155 = .ok (.iload 4, 2) := by decide +kernel
theorem dX11_layCosts_157 : decode cX11_layCosts 157 = .ok (.iadd, 1) := by decide +kernel
theorem dX11_layCosts_158 : decode cX11_layCosts 158 = .ok (.iload 8, 2) := by decide +kernel
theorem dX11_layCosts_160 : decode cX11_layCosts 160 = .ok (.iload 7, 2) := by decide +kernel
theorem dX11_layCosts_162 : decode cX11_layCosts 162 = .ok (.if_icmp .ge 8, 3) := by decide +kernel
theorem dX11_layCosts_165 : decode cX11_layCosts 165 = .ok (.iload 8, 2) := by decide +kernel
theorem dX11_layCosts_167 : decode cX11_layCosts 167 = .ok (.goto 5, 3) := by decide +kernel
theorem dX11_layCosts_170 : decode cX11_layCosts 170 = .ok (.iload 7, 2) := by decide +kernel
theorem dX11_layCosts_172 : decode cX11_layCosts 172 = .ok (.iastore, 1) := by decide +kernel
theorem dX11_layCosts_173 : decode cX11_layCosts 173 = .ok (.iinc 4 (-1), 3) := by decide +kernel
theorem dX11_layCosts_176 : decode cX11_layCosts 176 = .ok (.goto (-167), 3) := by decide +kernel
theorem dX11_layCosts_179 : decode cX11_layCosts 179 = .ok (.iinc 3 (-1), 3) := by decide +kernel
theorem dX11_layCosts_182 : decode cX11_layCosts 182 = .ok (.goto (-180), 3) := by decide +kernel
theorem dX11_layCosts_185 : decode cX11_layCosts 185 = .ok (.aload_n 0, 1) := by decide +kernel
theorem dX11_layCosts_186 : decode cX11_layCosts 186 = .ok (.getfield 92, 3) := by decide +kernel
theorem dX11_layCosts_189 : decode cX11_layCosts 189 = .ok (.iconst 0, 1) := by decide +kernel
theorem dX11_layCosts_190 : decode cX11_layCosts 190 = .ok (.iaload, 1) := by decide +kernel
theorem dX11_layCosts_191 : decode cX11_layCosts 191 = .ok (.ireturn, 1) := by decide +kernel
theorem dX11_takeForms_0 : decode cX11_takeForms 0 = .ok (.iconst 0, 1) := by decide +kernel
theorem dX11_takeForms_1 : decode cX11_takeForms 1 = .ok (.istore_n 3, 1) := by decide +kernel
theorem dX11_takeForms_2 : decode cX11_takeForms 2 = .ok (.iload_n 3, 1) := by decide +kernel
theorem dX11_takeForms_3 : decode cX11_takeForms 3 = .ok (.aload_n 0, 1) := by decide +kernel
theorem dX11_takeForms_4 : decode cX11_takeForms 4 = .ok (.getfield 49, 3) := by decide +kernel
theorem dX11_takeForms_7 : decode cX11_takeForms 7 = .ok (.iload_n 1, 1) := by decide +kernel
theorem dX11_takeForms_8 : decode cX11_takeForms 8 = .ok (.iaload, 1) := by decide +kernel
theorem dX11_takeForms_9 : decode cX11_takeForms 9 = .ok (.if_icmp .ge 26, 3) := by decide +kernel
theorem dX11_takeForms_12 : decode cX11_takeForms 12 = .ok (.aload_n 0, 1) := by decide +kernel
theorem dX11_takeForms_13 : decode cX11_takeForms 13 = .ok (.getfield 95, 3) := by decide +kernel
theorem dX11_takeForms_16 : decode cX11_takeForms 16 = .ok (.iload_n 3, 1) := by decide +kernel
theorem dX11_takeForms_17 : decode cX11_takeForms 17 = .ok (.aload_n 0, 1) := by decide +kernel
theorem dX11_takeForms_18 : decode cX11_takeForms 18 = .ok (.getfield 52, 3) := by decide +kernel
theorem dX11_takeForms_21 : decode cX11_takeForms 21 = .ok (.bipush 8, 2) := by decide +kernel
theorem dX11_takeForms_23 : decode cX11_takeForms 23 = .ok (.iload_n 1, 1) := by decide +kernel
theorem dX11_takeForms_24 : decode cX11_takeForms 24 = .ok (.imul, 1) := by decide +kernel
theorem dX11_takeForms_25 : decode cX11_takeForms 25 = .ok (.iload_n 3, 1) := by decide +kernel
theorem dX11_takeForms_26 : decode cX11_takeForms 26 = .ok (.iadd, 1) := by decide +kernel
theorem dX11_takeForms_27 : decode cX11_takeForms 27 = .ok (.iaload, 1) := by decide +kernel
theorem dX11_takeForms_28 : decode cX11_takeForms 28 = .ok (.iastore, 1) := by decide +kernel
theorem dX11_takeForms_29 : decode cX11_takeForms 29 = .ok (.iinc 3 1, 3) := by decide +kernel
theorem dX11_takeForms_32 : decode cX11_takeForms 32 = .ok (.goto (-30), 3) := by decide +kernel
theorem dX11_takeForms_35 : decode cX11_takeForms 35 = .ok (.iconst 0, 1) := by decide +kernel
theorem dX11_takeForms_36 : decode cX11_takeForms 36 = .ok (.istore_n 3, 1) := by decide +kernel
theorem dX11_takeForms_37 : decode cX11_takeForms 37 = .ok (.iload_n 3, 1) := by decide +kernel
theorem dX11_takeForms_38 : decode cX11_takeForms 38 = .ok (.aload_n 0, 1) := by decide +kernel
theorem dX11_takeForms_39 : decode cX11_takeForms 39 = .ok (.getfield 49, 3) := by decide +kernel
theorem dX11_takeForms_42 : decode cX11_takeForms 42 = .ok (.iload_n 2, 1) := by decide +kernel
theorem dX11_takeForms_43 : decode cX11_takeForms 43 = .ok (.iaload, 1) := by decide +kernel
theorem dX11_takeForms_44 : decode cX11_takeForms 44 = .ok (.if_icmp .ge 26, 3) := by decide +kernel
theorem dX11_takeForms_47 : decode cX11_takeForms 47 = .ok (.aload_n 0, 1) := by decide +kernel
theorem dX11_takeForms_48 : decode cX11_takeForms 48 = .ok (.getfield 98, 3) := by decide +kernel
theorem dX11_takeForms_51 : decode cX11_takeForms 51 = .ok (.iload_n 3, 1) := by decide +kernel
theorem dX11_takeForms_52 : decode cX11_takeForms 52 = .ok (.aload_n 0, 1) := by decide +kernel
theorem dX11_takeForms_53 : decode cX11_takeForms 53 = .ok (.getfield 52, 3) := by decide +kernel
theorem dX11_takeForms_56 : decode cX11_takeForms 56 = .ok (.bipush 8, 2) := by decide +kernel
theorem dX11_takeForms_58 : decode cX11_takeForms 58 = .ok (.iload_n 2, 1) := by decide +kernel
theorem dX11_takeForms_59 : decode cX11_takeForms 59 = .ok (.imul, 1) := by decide +kernel
theorem dX11_takeForms_60 : decode cX11_takeForms 60 = .ok (.iload_n 3, 1) := by decide +kernel
theorem dX11_takeForms_61 : decode cX11_takeForms 61 = .ok (.iadd, 1) := by decide +kernel
theorem dX11_takeForms_62 : decode cX11_takeForms 62 = .ok (.iaload, 1) := by decide +kernel
theorem dX11_takeForms_63 : decode cX11_takeForms 63 = .ok (.iastore, 1) := by decide +kernel
theorem dX11_takeForms_64 : decode cX11_takeForms 64 = .ok (.iinc 3 1, 3) := by decide +kernel
theorem dX11_takeForms_67 : decode cX11_takeForms 67 = .ok (.goto (-30), 3) := by decide +kernel
theorem dX11_takeForms_70 : decode cX11_takeForms 70 = .ok (.return_, 1) := by decide +kernel
theorem dX11_costOf_0 : decode cX11_costOf 0 = .ok (.aload_n 0, 1) := by decide +kernel
theorem dX11_costOf_1 : decode cX11_costOf 1 = .ok (.iload_n 1, 1) := by decide +kernel
theorem dX11_costOf_2 : decode cX11_costOf 2 = .ok (.iload_n 2, 1) := by decide +kernel
theorem dX11_costOf_3 : decode cX11_costOf 3 = .ok (.invokevirtual 234, 3) := by decide +kernel
theorem dX11_costOf_6 : decode cX11_costOf 6 = .ok (.aload_n 0, 1) := by decide +kernel
theorem dX11_costOf_7 : decode cX11_costOf 7 = .ok (.aload_n 0, 1) := by decide +kernel
theorem dX11_costOf_8 : decode cX11_costOf 8 = .ok (.getfield 49, 3) := by decide +kernel
theorem dX11_costOf_11 : decode cX11_costOf 11 = .ok (.iload_n 1, 1) := by decide +kernel
theorem dX11_costOf_12 : decode cX11_costOf 12 = .ok (.iaload, 1) := by decide +kernel
theorem dX11_costOf_13 : decode cX11_costOf 13 = .ok (.aload_n 0, 1) := by decide +kernel
theorem dX11_costOf_14 : decode cX11_costOf 14 = .ok (.getfield 49, 3) := by decide +kernel
theorem dX11_costOf_17 : decode cX11_costOf 17 = .ok (.iload_n 2, 1) := by decide +kernel
theorem dX11_costOf_18 : decode cX11_costOf 18 = .ok (.iaload, 1) := by decide +kernel
theorem dX11_costOf_19 : decode cX11_costOf 19 = .ok (.invokevirtual 238, 3) := by decide +kernel
theorem dX11_costOf_22 : decode cX11_costOf 22 = .ok (.ireturn, 1) := by decide +kernel
theorem dX11_cost_0 : decode cX11_cost 0 = .ok (.aload_n 0, 1) := by decide +kernel
theorem dX11_cost_1 : decode cX11_cost 1 = .ok (.iload_n 1, 1) := by decide +kernel
theorem dX11_cost_2 : decode cX11_cost 2 = .ok (.invokevirtual 183, 3) := by decide +kernel
theorem dX11_cost_5 : decode cX11_cost 5 = .ok (.ifCond .eq 20, 3) := by decide +kernel
theorem dX11_cost_8 : decode cX11_cost 8 = .ok (.aload_n 0, 1) := by decide +kernel
theorem dX11_cost_9 : decode cX11_cost 9 = .ok (.iload_n 2, 1) := by decide +kernel
theorem dX11_cost_10 : decode cX11_cost 10 = .ok (.invokevirtual 183, 3) := by decide +kernel
theorem dX11_cost_13 : decode cX11_cost 13 = .ok (.ifCond .eq 12, 3) := by decide +kernel
theorem dX11_cost_16 : decode cX11_cost 16 = .ok (.aload_n 0, 1) := by decide +kernel
theorem dX11_cost_17 : decode cX11_cost 17 = .ok (.iload_n 1, 1) := by decide +kernel
theorem dX11_cost_18 : decode cX11_cost 18 = .ok (.iload_n 2, 1) := by decide +kernel
theorem dX11_cost_19 : decode cX11_cost 19 = .ok (.invokevirtual 241, 3) := by decide +kernel
theorem dX11_cost_22 : decode cX11_cost 22 = .ok (.goto 4, 3) := by decide +kernel
theorem dX11_cost_25 : decode cX11_cost 25 = .ok (.iconst (-1), 1) := by decide +kernel
theorem dX11_cost_26 : decode cX11_cost 26 = .ok (.ireturn, 1) := by decide +kernel
theorem dX11_align_0 : decode cX11_align 0 = .ok (.aload_n 0, 1) := by decide +kernel
theorem dX11_align_1 : decode cX11_align 1 = .ok (.iload_n 1, 1) := by decide +kernel
theorem dX11_align_2 : decode cX11_align 2 = .ok (.invokevirtual 183, 3) := by decide +kernel
theorem dX11_align_5 : decode cX11_align 5 = .ok (.ifCond .eq 21, 3) := by decide +kernel
theorem dX11_align_8 : decode cX11_align 8 = .ok (.aload_n 0, 1) := by decide +kernel
theorem dX11_align_9 : decode cX11_align 9 = .ok (.iload_n 2, 1) := by decide +kernel
theorem dX11_align_10 : decode cX11_align 10 = .ok (.invokevirtual 183, 3) := by decide +kernel
theorem dX11_align_13 : decode cX11_align 13 = .ok (.ifCond .eq 13, 3) := by decide +kernel
theorem dX11_align_16 : decode cX11_align 16 = .ok (.iload_n 3, 1) := by decide +kernel
theorem dX11_align_17 : decode cX11_align 17 = .ok (.iconst (-1), 1) := by decide +kernel
theorem dX11_align_18 : decode cX11_align 18 = .ok (.bipush 15, 2) := by decide +kernel
theorem dX11_align_20 : decode cX11_align 20 = .ok (.invokestatic 124, 3) := by decide +kernel
theorem dX11_align_23 : decode cX11_align 23 = .ok (.ifCond .ne 5, 3) := by decide +kernel
theorem dX11_align_26 : decode cX11_align 26 = .ok (.iconst (-1), 1) := by decide +kernel
theorem dX11_align_27 : decode cX11_align 27 = .ok (.ireturn, 1) := by decide +kernel
theorem dX11_align_28 : decode cX11_align 28 = .ok (.aload_n 0, 1) := by decide +kernel
theorem dX11_align_29 : decode cX11_align 29 = .ok (.iload_n 1, 1) := by decide +kernel
theorem dX11_align_30 : decode cX11_align 30 = .ok (.iload_n 2, 1) := by decide +kernel
theorem dX11_align_31 : decode cX11_align 31 = .ok (.invokevirtual 241, 3) := by decide +kernel
theorem dX11_align_34 : decode cX11_align 34 = .ok (.pop, 1) := by decide +kernel
theorem dX11_align_35 : decode cX11_align 35 = .ok (.aload_n 0, 1) := by decide +kernel
theorem dX11_align_36 : decode cX11_align 36 = .ok (.getfield 49, 3) := by decide +kernel
theorem dX11_align_39 : decode cX11_align 39 = .ok (.iload_n 1, 1) := by decide +kernel
theorem dX11_align_40 : decode cX11_align 40 = .ok (.iaload, 1) := by decide +kernel
theorem dX11_align_41 : decode cX11_align 41 = .ok (.istore 4, 2) := by decide +kernel
theorem dX11_align_43 : decode cX11_align 43 = .ok (.aload_n 0, 1) := by decide +kernel
theorem dX11_align_44 : decode cX11_align 44 = .ok (.getfield 49, 3) := by decide +kernel
theorem dX11_align_47 : decode cX11_align 47 = .ok (.iload_n 2, 1) := by decide +kernel
theorem dX11_align_48 : decode cX11_align 48 = .ok (.iaload, 1) := by decide +kernel
theorem dX11_align_49 : decode cX11_align 49 = .ok (.istore 5, 2) := by decide +kernel
theorem dX11_align_51 : decode cX11_align 51 = .ok (.iconst 0, 1) := by decide +kernel
theorem dX11_align_52 : decode cX11_align 52 = .ok (.istore 6, 2) := by decide +kernel
theorem dX11_align_54 : decode cX11_align 54 = .ok (.iconst 0, 1) := by decide +kernel
theorem dX11_align_55 : decode cX11_align 55 = .ok (.istore 7, 2) := by decide +kernel
theorem dX11_align_57 : decode cX11_align 57 = .ok (.iconst 0, 1) := by decide +kernel
theorem dX11_align_58 : decode cX11_align 58 = .ok (.istore 8, 2) := by decide +kernel
theorem dX11_align_60 : decode cX11_align 60 = .ok (.iload 6, 2) := by decide +kernel
theorem dX11_align_62 : decode cX11_align 62 = .ok (.iload 4, 2) := by decide +kernel
theorem dX11_align_64 : decode cX11_align 64 = .ok (.if_icmp .lt 10, 3) := by decide +kernel
theorem dX11_align_67 : decode cX11_align 67 = .ok (.iload 7, 2) := by decide +kernel
theorem dX11_align_69 : decode cX11_align 69 = .ok (.iload 5, 2) := by decide +kernel
theorem dX11_align_71 : decode cX11_align 71 = .ok (.if_icmp .ge 187, 3) := by decide +kernel
theorem dX11_align_74 : decode cX11_align 74 = .ok (.aload_n 0, 1) := by decide +kernel
theorem dX11_align_75 : decode cX11_align 75 = .ok (.getfield 92, 3) := by decide +kernel
theorem dX11_align_78 : decode cX11_align 78 = .ok (.bipush 9, 2) := by decide +kernel
theorem dX11_align_80 : decode cX11_align 80 = .ok (.iload 6, 2) := by decide +kernel
theorem dX11_align_82 : decode cX11_align 82 = .ok (.imul, 1) := by decide +kernel
theorem dX11_align_83 : decode cX11_align 83 = .ok (.iload 7, 2) := by decide +kernel
theorem dX11_align_85 : decode cX11_align 85 = .ok (.iadd, 1) := by decide +kernel
theorem dX11_align_86 : decode cX11_align 86 = .ok (.iaload, 1) := by decide +kernel
theorem dX11_align_87 : decode cX11_align 87 = .ok (.istore 9, 2) := by decide +kernel
theorem dX11_align_89 : decode cX11_align 89 = .ok (.iload 6, 2) := by decide +kernel
theorem dX11_align_91 : decode cX11_align 91 = .ok (.iload 4, 2) := by decide +kernel
theorem dX11_align_93 : decode cX11_align 93 = .ok (.if_icmp .ge 84, 3) := by decide +kernel
theorem dX11_align_96 : decode cX11_align 96 = .ok (.iload 7, 2) := by decide +kernel
theorem dX11_align_98 : decode cX11_align 98 = .ok (.iload 5, 2) := by decide +kernel
theorem dX11_align_100 : decode cX11_align 100 = .ok (.if_icmp .ge 77, 3) := by decide +kernel
theorem dX11_align_103 : decode cX11_align 103 = .ok (.aload_n 0, 1) := by decide +kernel
theorem dX11_align_104 : decode cX11_align 104 = .ok (.aload_n 0, 1) := by decide +kernel
theorem dX11_align_105 : decode cX11_align 105 = .ok (.getfield 95, 3) := by decide +kernel
theorem dX11_align_108 : decode cX11_align 108 = .ok (.iload 6, 2) := by decide +kernel
theorem dX11_align_110 : decode cX11_align 110 = .ok (.iaload, 1) := by decide +kernel
theorem dX11_align_111 : decode cX11_align 111 = .ok (.aload_n 0, 1) := by decide +kernel
theorem dX11_align_112 : decode cX11_align 112 = .ok (.getfield 98, 3) := by decide +kernel
theorem dX11_align_115 : decode cX11_align 115 = .ok (.iload 7, 2) := by decide +kernel
theorem dX11_align_117 : decode cX11_align 117 = .ok (.iaload, 1) := by decide +kernel
theorem dX11_align_118 : decode cX11_align 118 = .ok (.invokevirtual 136, 3) := by decide +kernel
theorem dX11_align_121 : decode cX11_align 121 = .ok (.aload_n 0, 1) := by decide +kernel
theorem dX11_align_122 : decode cX11_align 122 = .ok (.getfield 92, 3) := by decide +kernel
theorem dX11_align_125 : decode cX11_align 125 = .ok (.bipush 9, 2) := by decide +kernel
theorem dX11_align_127 : decode cX11_align 127 = .ok (.iload 6, 2) := by decide +kernel
theorem dX11_align_129 : decode cX11_align 129 = .ok (.iconst 1, 1) := by decide +kernel
theorem dX11_align_130 : decode cX11_align 130 = .ok (.iadd, 1) := by decide +kernel
theorem dX11_align_131 : decode cX11_align 131 = .ok (.imul, 1) := by decide +kernel
theorem dX11_align_132 : decode cX11_align 132 = .ok (.iload 7, 2) := by decide +kernel
theorem dX11_align_134 : decode cX11_align 134 = .ok (.iadd, 1) := by decide +kernel
theorem dX11_align_135 : decode cX11_align 135 = .ok (.iconst 1, 1) := by decide +kernel
theorem dX11_align_136 : decode cX11_align 136 = .ok (.iadd, 1) := by decide +kernel
theorem dX11_align_137 : decode cX11_align 137 = .ok (.iaload, 1) := by decide +kernel
theorem dX11_align_138 : decode cX11_align 138 = .ok (.iadd, 1) := by decide +kernel
theorem dX11_align_139 : decode cX11_align 139 = .ok (.iload 9, 2) := by decide +kernel
theorem dX11_align_141 : decode cX11_align 141 = .ok (.if_icmp .ne 36, 3) := by decide +kernel
theorem dX11_align_144 : decode cX11_align 144 = .ok (.bipush 100, 2) := by decide +kernel
theorem dX11_align_146 : decode cX11_align 146 = .ok (.aload_n 0, 1) := by decide +kernel
theorem dX11_align_147 : decode cX11_align 147 = .ok (.getfield 95, 3) := by decide +kernel
theorem dX11_align_150 : decode cX11_align 150 = .ok (.iload 6, 2) := by decide +kernel
theorem dX11_align_152 : decode cX11_align 152 = .ok (.iaload, 1) := by decide +kernel
theorem dX11_align_153 : decode cX11_align 153 = .ok (.iconst 1, 1) := by decide +kernel
theorem dX11_align_154 : decode cX11_align 154 = .ok (.iadd, 1) := by decide +kernel
theorem dX11_align_155 : decode cX11_align 155 = .ok (.imul, 1) := by decide +kernel
theorem dX11_align_156 : decode cX11_align 156 = .ok (.aload_n 0, 1) := by decide +kernel
theorem dX11_align_157 : decode cX11_align 157 = .ok (.getfield 98, 3) := by decide +kernel
theorem dX11_align_160 : decode cX11_align 160 = .ok (.iload 7, 2) := by decide +kernel
theorem dX11_align_162 : decode cX11_align 162 = .ok (.iaload, 1) := by decide +kernel
theorem dX11_align_163 : decode cX11_align 163 = .ok (.iadd, 1) := by decide +kernel
theorem dX11_align_164 : decode cX11_align 164 = .ok (.iconst 1, 1) := by decide +kernel
theorem dX11_align_165 : decode cX11_align 165 = .ok (.iadd, 1) := by decide +kernel
theorem dX11_align_166 : decode cX11_align 166 = .ok (.istore 10, 2) := by decide +kernel
theorem dX11_align_168 : decode cX11_align 168 = .ok (.iinc 6 1, 3) := by decide +kernel
theorem dX11_align_171 : decode cX11_align 171 = .ok (.iinc 7 1, 3) := by decide +kernel
theorem dX11_align_174 : decode cX11_align 174 = .ok (.goto 69, 3) := by decide +kernel
theorem dX11_align_177 : decode cX11_align 177 = .ok (.iload 6, 2) := by decide +kernel
theorem dX11_align_179 : decode cX11_align 179 = .ok (.iload 4, 2) := by decide +kernel
theorem dX11_align_181 : decode cX11_align 181 = .ok (.if_icmp .ge 48, 3) := by decide +kernel
theorem dX11_align_184 : decode cX11_align 184 = .ok (.aload_n 0, 1) := by decide +kernel
theorem dX11_align_185 : decode cX11_align 185 = .ok (.getfield 92, 3) := by decide +kernel
theorem dX11_align_188 : decode cX11_align 188 = .ok (.bipush 9, 2) := by decide +kernel
theorem dX11_align_190 : decode cX11_align 190 = .ok (.iload 6, 2) := by decide +kernel
theorem dX11_align_192 : decode cX11_align 192 = .ok (.iconst 1, 1) := by decide +kernel
theorem dX11_align_193 : decode cX11_align 193 = .ok (.iadd, 1) := by decide +kernel
theorem dX11_align_194 : decode cX11_align 194 = .ok (.imul, 1) := by decide +kernel
theorem dX11_align_195 : decode cX11_align 195 = .ok (.iload 7, 2) := by decide +kernel
theorem dX11_align_197 : decode cX11_align 197 = .ok (.iadd, 1) := by decide +kernel
theorem dX11_align_198 : decode cX11_align 198 = .ok (.iaload, 1) := by decide +kernel
theorem dX11_align_199 : decode cX11_align 199 = .ok (.aload_n 0, 1) := by decide +kernel
theorem dX11_align_200 : decode cX11_align 200 = .ok (.getfield 88, 3) := by decide +kernel
theorem dX11_align_203 : decode cX11_align 203 = .ok (.iadd, 1) := by decide +kernel
theorem dX11_align_204 : decode cX11_align 204 = .ok (.iload 9, 2) := by decide +kernel
theorem dX11_align_206 : decode cX11_align 206 = .ok (.if_icmp .ne 23, 3) := by decide +kernel
theorem dX11_align_209 : decode cX11_align 209 = .ok (.bipush 100, 2) := by decide +kernel
theorem dX11_align_211 : decode cX11_align 211 = .ok (.aload_n 0, 1) := by decide +kernel
theorem dX11_align_212 : decode cX11_align 212 = .ok (.getfield 95, 3) := by decide +kernel
theorem dX11_align_215 : decode cX11_align 215 = .ok (.iload 6, 2) := by decide +kernel
theorem dX11_align_217 : decode cX11_align 217 = .ok (.iaload, 1) := by decide +kernel
theorem dX11_align_218 : decode cX11_align 218 = .ok (.iconst 1, 1) := by decide +kernel
theorem dX11_align_219 : decode cX11_align 219 = .ok (.iadd, 1) := by decide +kernel
theorem dX11_align_220 : decode cX11_align 220 = .ok (.imul, 1) := by decide +kernel
theorem dX11_align_221 : decode cX11_align 221 = .ok (.istore 10, 2) := by decide +kernel
theorem dX11_align_223 : decode cX11_align 223 = .ok (.iinc 6 1, 3) := by decide +kernel
theorem dX11_align_226 : decode cX11_align 226 = .ok (.goto 17, 3) := by decide +kernel
theorem dX11_align_229 : decode cX11_align 229 = .ok (.aload_n 0, 1) := by decide +kernel
theorem dX11_align_230 : decode cX11_align 230 = .ok (.getfield 98, 3) := by decide +kernel
theorem dX11_align_233 : decode cX11_align 233 = .ok (.iload 7, 2) := by decide +kernel
theorem dX11_align_235 : decode cX11_align 235 = .ok (.iaload, 1) := by decide +kernel
theorem dX11_align_236 : decode cX11_align 236 = .ok (.iconst 1, 1) := by decide +kernel
theorem dX11_align_237 : decode cX11_align 237 = .ok (.iadd, 1) := by decide +kernel
theorem dX11_align_238 : decode cX11_align 238 = .ok (.istore 10, 2) := by decide +kernel
theorem dX11_align_240 : decode cX11_align 240 = .ok (.iinc 7 1, 3) := by decide +kernel
theorem dX11_align_243 : decode cX11_align 243 = .ok (.iload 8, 2) := by decide +kernel
theorem dX11_align_245 : decode cX11_align 245 = .ok (.iload_n 3, 1) := by decide +kernel
theorem dX11_align_246 : decode cX11_align 246 = .ok (.if_icmp .ne 6, 3) := by decide +kernel
theorem dX11_align_249 : decode cX11_align 249 = .ok (.iload 10, 2) := by decide +kernel
theorem dX11_align_251 : decode cX11_align 251 = .ok (.ireturn, 1) := by decide +kernel
theorem dX11_align_252 : decode cX11_align 252 = .ok (.iinc 8 1, 3) := by decide +kernel
theorem dX11_align_255 : decode cX11_align 255 = .ok (.goto (-195), 3) := by decide +kernel
theorem dX11_align_258 : decode cX11_align 258 = .ok (.iload_n 3, 1) := by decide +kernel
theorem dX11_align_259 : decode cX11_align 259 = .ok (.iconst (-1), 1) := by decide +kernel
theorem dX11_align_260 : decode cX11_align 260 = .ok (.if_icmp .ne 8, 3) := by decide +kernel
theorem dX11_align_263 : decode cX11_align 263 = .ok (.iload 8, 2) := by decide +kernel
theorem dX11_align_265 : decode cX11_align 265 = .ok (.goto 5, 3) := by decide +kernel
theorem dX11_align_268 : decode cX11_align 268 = .ok (.bipush (-9), 2) := by decide +kernel
theorem dX11_align_270 : decode cX11_align 270 = .ok (.ireturn, 1) := by decide +kernel
theorem dX11_laySet_0 : decode cX11_laySet 0 = .ok (.aload_n 0, 1) := by decide +kernel
theorem dX11_laySet_1 : decode cX11_laySet 1 = .ok (.iconst 0, 1) := by decide +kernel
theorem dX11_laySet_2 : decode cX11_laySet 2 = .ok (.putfield 244, 3) := by decide +kernel
theorem dX11_laySet_5 : decode cX11_laySet 5 = .ok (.iload_n 1, 1) := by decide +kernel
theorem dX11_laySet_6 : decode cX11_laySet 6 = .ok (.iconst 1, 1) := by decide +kernel
theorem dX11_laySet_7 : decode cX11_laySet 7 = .ok (.if_icmp .lt 9, 3) := by decide +kernel
theorem dX11_laySet_10 : decode cX11_laySet 10 = .ok (.iload_n 1, 1) := by decide +kernel
theorem dX11_laySet_11 : decode cX11_laySet 11 = .ok (.ldc 247, 2) := by decide +kernel
theorem dX11_laySet_13 : decode cX11_laySet 13 = .ok (.if_icmp .le 5, 3) := by decide +kernel
theorem dX11_laySet_16 : decode cX11_laySet 16 = .ok (.iconst 0, 1) := by decide +kernel
theorem dX11_laySet_17 : decode cX11_laySet 17 = .ok (.ireturn, 1) := by decide +kernel
theorem dX11_laySet_18 : decode cX11_laySet 18 = .ok (.iconst 0, 1) := by decide +kernel
theorem dX11_laySet_19 : decode cX11_laySet 19 = .ok (.istore_n 2, 1) := by decide +kernel
theorem dX11_laySet_20 : decode cX11_laySet 20 = .ok (.iload_n 2, 1) := by decide +kernel
theorem dX11_laySet_21 : decode cX11_laySet 21 = .ok (.bipush 16, 2) := by decide +kernel
theorem dX11_laySet_23 : decode cX11_laySet 23 = .ok (.if_icmp .ge 47, 3) := by decide +kernel
theorem dX11_laySet_26 : decode cX11_laySet 26 = .ok (.iload_n 1, 1) := by decide +kernel
theorem dX11_laySet_27 : decode cX11_laySet 27 = .ok (.iload_n 2, 1) := by decide +kernel
theorem dX11_laySet_28 : decode cX11_laySet 28 = .ok (.invokestatic 132, 3) := by decide +kernel
theorem dX11_laySet_31 : decode cX11_laySet 31 = .ok (.ifCond .eq 33, 3) := by decide +kernel
theorem dX11_laySet_34 : decode cX11_laySet 34 = .ok (.aload_n 0, 1) := by decide +kernel
theorem dX11_laySet_35 : decode cX11_laySet 35 = .ok (.getfield 244, 3) := by decide +kernel
theorem dX11_laySet_38 : decode cX11_laySet 38 = .ok (.iconst 5, 1) := by decide +kernel
theorem dX11_laySet_39 : decode cX11_laySet 39 = .ok (.if_icmp .ne 5, 3) := by decide +kernel
theorem dX11_laySet_42 : decode cX11_laySet 42 = .ok (.iconst 0, 1) := by decide +kernel
theorem dX11_laySet_43 : decode cX11_laySet 43 = .ok (.ireturn, 1) := by decide +kernel
theorem dX11_laySet_44 : decode cX11_laySet 44 = .ok (.aload_n 0, 1) := by decide +kernel
theorem dX11_laySet_45 : decode cX11_laySet 45 = .ok (.getfield 104, 3) := by decide +kernel
theorem dX11_laySet_48 : decode cX11_laySet 48 = .ok (.aload_n 0, 1) := by decide +kernel
theorem dX11_laySet_49 : decode cX11_laySet 49 = .ok (.getfield 244, 3) := by decide +kernel
theorem dX11_laySet_52 : decode cX11_laySet 52 = .ok (.iload_n 2, 1) := by decide +kernel
theorem dX11_laySet_53 : decode cX11_laySet 53 = .ok (.iastore, 1) := by decide +kernel
theorem dX11_laySet_54 : decode cX11_laySet 54 = .ok (.aload_n 0, 1) := by decide +kernel
theorem dX11_laySet_55 : decode cX11_laySet 55 = .ok (.dup, 1) := by decide +kernel
theorem dX11_laySet_56 : decode cX11_laySet 56 = .ok (.getfield 244, 3) := by decide +kernel
theorem dX11_laySet_59 : decode cX11_laySet 59 = .ok (.iconst 1, 1) := by decide +kernel
theorem dX11_laySet_60 : decode cX11_laySet 60 = .ok (.iadd, 1) := by decide +kernel
theorem dX11_laySet_61 : decode cX11_laySet 61 = .ok (.putfield 244, 3) := by decide +kernel
theorem dX11_laySet_64 : decode cX11_laySet 64 = .ok (.iinc 2 1, 3) := by decide +kernel
theorem dX11_laySet_67 : decode cX11_laySet 67 = .ok (.goto (-47), 3) := by decide +kernel
theorem dX11_laySet_70 : decode cX11_laySet 70 = .ok (.iconst 1, 1) := by decide +kernel
theorem dX11_laySet_71 : decode cX11_laySet 71 = .ok (.ireturn, 1) := by decide +kernel
theorem dX11_manyCandidates_0 : decode cX11_manyCandidates 0 = .ok (.iconst 1, 1) := by decide +kernel
theorem dX11_manyCandidates_1 : decode cX11_manyCandidates 1 = .ok (.aload_n 0, 1) := by decide +kernel
theorem dX11_manyCandidates_2 : decode cX11_manyCandidates 2 = .ok (.getfield 244, 3) := by decide +kernel
theorem dX11_manyCandidates_5 : decode cX11_manyCandidates 5 = .ok (.iadd, 1) := by decide +kernel
theorem dX11_manyCandidates_6 : decode cX11_manyCandidates 6 = .ok (.aload_n 0, 1) := by decide +kernel
theorem dX11_manyCandidates_7 : decode cX11_manyCandidates 7 = .ok (.getfield 244, 3) := by decide +kernel
theorem dX11_manyCandidates_10 : decode cX11_manyCandidates 10 = .ok (.aload_n 0, 1) := by decide +kernel
theorem dX11_manyCandidates_11 : decode cX11_manyCandidates 11 = .ok (.getfield 244, 3) := by decide +kernel
theorem dX11_manyCandidates_14 : decode cX11_manyCandidates 14 = .ok (.imul, 1) := by decide +kernel
theorem dX11_manyCandidates_15 : decode cX11_manyCandidates 15 = .ok (.iadd, 1) := by decide +kernel
theorem dX11_manyCandidates_16 : decode cX11_manyCandidates 16 = .ok (.aload_n 0, 1) := by decide +kernel
theorem dX11_manyCandidates_17 : decode cX11_manyCandidates 17 = .ok (.getfield 244, 3) := by decide +kernel
theorem dX11_manyCandidates_20 : decode cX11_manyCandidates 20 = .ok (.aload_n 0, 1) := by decide +kernel
theorem dX11_manyCandidates_21 : decode cX11_manyCandidates 21 = .ok (.getfield 244, 3) := by decide +kernel
theorem dX11_manyCandidates_24 : decode cX11_manyCandidates 24 = .ok (.imul, 1) := by decide +kernel
theorem dX11_manyCandidates_25 : decode cX11_manyCandidates 25 = .ok (.aload_n 0, 1) := by decide +kernel
theorem dX11_manyCandidates_26 : decode cX11_manyCandidates 26 = .ok (.getfield 244, 3) := by decide +kernel
theorem dX11_manyCandidates_29 : decode cX11_manyCandidates 29 = .ok (.imul, 1) := by decide +kernel
theorem dX11_manyCandidates_30 : decode cX11_manyCandidates 30 = .ok (.iadd, 1) := by decide +kernel
theorem dX11_manyCandidates_31 : decode cX11_manyCandidates 31 = .ok (.ireturn, 1) := by decide +kernel
theorem dX11_layCandidate_0 : decode cX11_layCandidate 0 = .ok (.iload_n 1, 1) := by decide +kernel
theorem dX11_layCandidate_1 : decode cX11_layCandidate 1 = .ok (.istore_n 2, 1) := by decide +kernel
theorem dX11_layCandidate_2 : decode cX11_layCandidate 2 = .ok (.iconst 1, 1) := by decide +kernel
theorem dX11_layCandidate_3 : decode cX11_layCandidate 3 = .ok (.istore_n 3, 1) := by decide +kernel
theorem dX11_layCandidate_4 : decode cX11_layCandidate 4 = .ok (.aload_n 0, 1) := by decide +kernel
theorem dX11_layCandidate_5 : decode cX11_layCandidate 5 = .ok (.iconst 0, 1) := by decide +kernel
theorem dX11_layCandidate_6 : decode cX11_layCandidate 6 = .ok (.putfield 248, 3) := by decide +kernel
theorem dX11_layCandidate_9 : decode cX11_layCandidate 9 = .ok (.iload_n 2, 1) := by decide +kernel
theorem dX11_layCandidate_10 : decode cX11_layCandidate 10 = .ok (.iload_n 3, 1) := by decide +kernel
theorem dX11_layCandidate_11 : decode cX11_layCandidate 11 = .ok (.if_icmp .lt 27, 3) := by decide +kernel
theorem dX11_layCandidate_14 : decode cX11_layCandidate 14 = .ok (.iload_n 2, 1) := by decide +kernel
theorem dX11_layCandidate_15 : decode cX11_layCandidate 15 = .ok (.iload_n 3, 1) := by decide +kernel
theorem dX11_layCandidate_16 : decode cX11_layCandidate 16 = .ok (.isub, 1) := by decide +kernel
theorem dX11_layCandidate_17 : decode cX11_layCandidate 17 = .ok (.istore_n 2, 1) := by decide +kernel
theorem dX11_layCandidate_18 : decode cX11_layCandidate 18 = .ok (.iload_n 3, 1) := by decide +kernel
theorem dX11_layCandidate_19 : decode cX11_layCandidate 19 = .ok (.aload_n 0, 1) := by decide +kernel
theorem dX11_layCandidate_20 : decode cX11_layCandidate 20 = .ok (.getfield 244, 3) := by decide +kernel
theorem dX11_layCandidate_23 : decode cX11_layCandidate 23 = .ok (.imul, 1) := by decide +kernel
theorem dX11_layCandidate_24 : decode cX11_layCandidate 24 = .ok (.istore_n 3, 1) := by decide +kernel
theorem dX11_layCandidate_25 : decode cX11_layCandidate 25 = .ok (.aload_n 0, 1) := by decide +kernel
theorem dX11_layCandidate_26 : decode cX11_layCandidate 26 = .ok (.dup, 1) := by decide +kernel
theorem dX11_layCandidate_27 : decode cX11_layCandidate 27 = .ok (.getfield 248, 3) := by decide +kernel
theorem dX11_layCandidate_30 : decode cX11_layCandidate 30 = .ok (.iconst 1, 1) := by decide +kernel
theorem dX11_layCandidate_31 : decode cX11_layCandidate 31 = .ok (.iadd, 1) := by decide +kernel
theorem dX11_layCandidate_32 : decode cX11_layCandidate 32 = .ok (.putfield 248, 3) := by decide +kernel
theorem dX11_layCandidate_35 : decode cX11_layCandidate 35 = .ok (.goto (-26), 3) := by decide +kernel
theorem dX11_layCandidate_38 : decode cX11_layCandidate 38 = .ok (.aload_n 0, 1) := by decide +kernel
theorem dX11_layCandidate_39 : decode cX11_layCandidate 39 = .ok (.getfield 248, 3) := by decide +kernel
theorem dX11_layCandidate_42 : decode cX11_layCandidate 42 = .ok (.iconst 1, 1) := by decide +kernel
theorem dX11_layCandidate_43 : decode cX11_layCandidate 43 = .ok (.isub, 1) := by decide +kernel
theorem dX11_layCandidate_44 : decode cX11_layCandidate 44 = .ok (.istore 4, 2) := by decide +kernel
theorem dX11_layCandidate_46 : decode cX11_layCandidate 46 = .ok (.iload 4, 2) := by decide +kernel
theorem dX11_layCandidate_48 : decode cX11_layCandidate 48 = .ok (.ifCond .lt 34, 3) := by decide +kernel
theorem dX11_layCandidate_51 : decode cX11_layCandidate 51 = .ok (.aload_n 0, 1) := by decide +kernel
theorem dX11_layCandidate_52 : decode cX11_layCandidate 52 = .ok (.getfield 101, 3) := by decide +kernel
theorem dX11_layCandidate_55 : decode cX11_layCandidate 55 = .ok (.iload 4, 2) := by decide +kernel
theorem dX11_layCandidate_57 : decode cX11_layCandidate 57 = .ok (.aload_n 0, 1) := by decide +kernel
theorem dX11_layCandidate_58 : decode cX11_layCandidate 58 = .ok (.getfield 104, 3) := by decide +kernel
theorem dX11_layCandidate_61 : decode cX11_layCandidate 61 = .ok (.iload_n 2, 1) := by decide +kernel
theorem dX11_layCandidate_62 : decode cX11_layCandidate 62 = .ok (.aload_n 0, 1) := by decide +kernel
theorem dX11_layCandidate_63 : decode cX11_layCandidate 63 = .ok (.getfield 244, 3) := by decide +kernel
theorem dX11_layCandidate_66 : decode cX11_layCandidate 66 = .ok (.irem, 1) := by decide +kernel
theorem dX11_layCandidate_67 : decode cX11_layCandidate 67 = .ok (.iaload, 1) := by decide +kernel
theorem dX11_layCandidate_68 : decode cX11_layCandidate 68 = .ok (.iastore, 1) := by decide +kernel
theorem dX11_layCandidate_69 : decode cX11_layCandidate 69 = .ok (.iload_n 2, 1) := by decide +kernel
theorem dX11_layCandidate_70 : decode cX11_layCandidate 70 = .ok (.aload_n 0, 1) := by decide +kernel
theorem dX11_layCandidate_71 : decode cX11_layCandidate 71 = .ok (.getfield 244, 3) := by decide +kernel
theorem dX11_layCandidate_74 : decode cX11_layCandidate 74 = .ok (.idiv, 1) := by decide +kernel
theorem dX11_layCandidate_75 : decode cX11_layCandidate 75 = .ok (.istore_n 2, 1) := by decide +kernel
theorem dX11_layCandidate_76 : decode cX11_layCandidate 76 = .ok (.iinc 4 (-1), 3) := by decide +kernel
theorem dX11_layCandidate_79 : decode cX11_layCandidate 79 = .ok (.goto (-33), 3) := by decide +kernel
theorem dX11_layCandidate_82 : decode cX11_layCandidate 82 = .ok (.return_, 1) := by decide +kernel
theorem dX11_deriveCandidate_0 : decode cX11_deriveCandidate 0 = .ok (.aload_n 0, 1) := by decide +kernel
theorem dX11_deriveCandidate_1 : decode cX11_deriveCandidate 1 = .ok (.aload_n 0, 1) := by decide +kernel
theorem dX11_deriveCandidate_2 : decode cX11_deriveCandidate 2 = .ok (.getfield 248, 3) := by decide +kernel
theorem dX11_deriveCandidate_5 : decode cX11_deriveCandidate 5 = .ok (.putfield 218, 3) := by decide +kernel
theorem dX11_deriveCandidate_8 : decode cX11_deriveCandidate 8 = .ok (.iconst 0, 1) := by decide +kernel
theorem dX11_deriveCandidate_9 : decode cX11_deriveCandidate 9 = .ok (.istore_n 2, 1) := by decide +kernel
theorem dX11_deriveCandidate_10 : decode cX11_deriveCandidate 10 = .ok (.iload_n 2, 1) := by decide +kernel
theorem dX11_deriveCandidate_11 : decode cX11_deriveCandidate 11 = .ok (.aload_n 0, 1) := by decide +kernel
theorem dX11_deriveCandidate_12 : decode cX11_deriveCandidate 12 = .ok (.getfield 218, 3) := by decide +kernel
theorem dX11_deriveCandidate_15 : decode cX11_deriveCandidate 15 = .ok (.if_icmp .ge 21, 3) := by decide +kernel
theorem dX11_deriveCandidate_18 : decode cX11_deriveCandidate 18 = .ok (.aload_n 0, 1) := by decide +kernel
theorem dX11_deriveCandidate_19 : decode cX11_deriveCandidate 19 = .ok (.getfield 82, 3) := by decide +kernel
theorem dX11_deriveCandidate_22 : decode cX11_deriveCandidate 22 = .ok (.iload_n 2, 1) := by decide +kernel
theorem dX11_deriveCandidate_23 : decode cX11_deriveCandidate 23 = .ok (.aload_n 0, 1) := by decide +kernel
theorem dX11_deriveCandidate_24 : decode cX11_deriveCandidate 24 = .ok (.getfield 101, 3) := by decide +kernel
theorem dX11_deriveCandidate_27 : decode cX11_deriveCandidate 27 = .ok (.iload_n 2, 1) := by decide +kernel
theorem dX11_deriveCandidate_28 : decode cX11_deriveCandidate 28 = .ok (.iaload, 1) := by decide +kernel
theorem dX11_deriveCandidate_29 : decode cX11_deriveCandidate 29 = .ok (.iastore, 1) := by decide +kernel
theorem dX11_deriveCandidate_30 : decode cX11_deriveCandidate 30 = .ok (.iinc 2 1, 3) := by decide +kernel
theorem dX11_deriveCandidate_33 : decode cX11_deriveCandidate 33 = .ok (.goto (-23), 3) := by decide +kernel
theorem dX11_deriveCandidate_36 : decode cX11_deriveCandidate 36 = .ok (.aload_n 0, 1) := by decide +kernel
theorem dX11_deriveCandidate_37 : decode cX11_deriveCandidate 37 = .ok (.iload_n 1, 1) := by decide +kernel
theorem dX11_deriveCandidate_38 : decode cX11_deriveCandidate 38 = .ok (.bipush 8, 2) := by decide +kernel
theorem dX11_deriveCandidate_40 : decode cX11_deriveCandidate 40 = .ok (.invokevirtual 231, 3) := by decide +kernel
theorem dX11_deriveCandidate_43 : decode cX11_deriveCandidate 43 = .ok (.pop, 1) := by decide +kernel
theorem dX11_deriveCandidate_44 : decode cX11_deriveCandidate 44 = .ok (.return_, 1) := by decide +kernel
theorem dX11_costFrom_0 : decode cX11_costFrom 0 = .ok (.iconst 0, 1) := by decide +kernel
theorem dX11_costFrom_1 : decode cX11_costFrom 1 = .ok (.istore_n 2, 1) := by decide +kernel
theorem dX11_costFrom_2 : decode cX11_costFrom 2 = .ok (.iload_n 2, 1) := by decide +kernel
theorem dX11_costFrom_3 : decode cX11_costFrom 3 = .ok (.aload_n 0, 1) := by decide +kernel
theorem dX11_costFrom_4 : decode cX11_costFrom 4 = .ok (.getfield 218, 3) := by decide +kernel
theorem dX11_costFrom_7 : decode cX11_costFrom 7 = .ok (.if_icmp .ge 21, 3) := by decide +kernel
theorem dX11_costFrom_10 : decode cX11_costFrom 10 = .ok (.aload_n 0, 1) := by decide +kernel
theorem dX11_costFrom_11 : decode cX11_costFrom 11 = .ok (.getfield 95, 3) := by decide +kernel
theorem dX11_costFrom_14 : decode cX11_costFrom 14 = .ok (.iload_n 2, 1) := by decide +kernel
theorem dX11_costFrom_15 : decode cX11_costFrom 15 = .ok (.aload_n 0, 1) := by decide +kernel
theorem dX11_costFrom_16 : decode cX11_costFrom 16 = .ok (.getfield 82, 3) := by decide +kernel
theorem dX11_costFrom_19 : decode cX11_costFrom 19 = .ok (.iload_n 2, 1) := by decide +kernel
theorem dX11_costFrom_20 : decode cX11_costFrom 20 = .ok (.iaload, 1) := by decide +kernel
theorem dX11_costFrom_21 : decode cX11_costFrom 21 = .ok (.iastore, 1) := by decide +kernel
theorem dX11_costFrom_22 : decode cX11_costFrom 22 = .ok (.iinc 2 1, 3) := by decide +kernel
theorem dX11_costFrom_25 : decode cX11_costFrom 25 = .ok (.goto (-23), 3) := by decide +kernel
theorem dX11_costFrom_28 : decode cX11_costFrom 28 = .ok (.iconst 0, 1) := by decide +kernel
theorem dX11_costFrom_29 : decode cX11_costFrom 29 = .ok (.istore_n 2, 1) := by decide +kernel
theorem dX11_costFrom_30 : decode cX11_costFrom 30 = .ok (.iload_n 2, 1) := by decide +kernel
theorem dX11_costFrom_31 : decode cX11_costFrom 31 = .ok (.aload_n 0, 1) := by decide +kernel
theorem dX11_costFrom_32 : decode cX11_costFrom 32 = .ok (.getfield 49, 3) := by decide +kernel
theorem dX11_costFrom_35 : decode cX11_costFrom 35 = .ok (.iload_n 1, 1) := by decide +kernel
theorem dX11_costFrom_36 : decode cX11_costFrom 36 = .ok (.iaload, 1) := by decide +kernel
theorem dX11_costFrom_37 : decode cX11_costFrom 37 = .ok (.if_icmp .ge 26, 3) := by decide +kernel
theorem dX11_costFrom_40 : decode cX11_costFrom 40 = .ok (.aload_n 0, 1) := by decide +kernel
theorem dX11_costFrom_41 : decode cX11_costFrom 41 = .ok (.getfield 98, 3) := by decide +kernel
theorem dX11_costFrom_44 : decode cX11_costFrom 44 = .ok (.iload_n 2, 1) := by decide +kernel
theorem dX11_costFrom_45 : decode cX11_costFrom 45 = .ok (.aload_n 0, 1) := by decide +kernel
theorem dX11_costFrom_46 : decode cX11_costFrom 46 = .ok (.getfield 52, 3) := by decide +kernel
theorem dX11_costFrom_49 : decode cX11_costFrom 49 = .ok (.bipush 8, 2) := by decide +kernel
theorem dX11_costFrom_51 : decode cX11_costFrom 51 = .ok (.iload_n 1, 1) := by decide +kernel
theorem dX11_costFrom_52 : decode cX11_costFrom 52 = .ok (.imul, 1) := by decide +kernel
theorem dX11_costFrom_53 : decode cX11_costFrom 53 = .ok (.iload_n 2, 1) := by decide +kernel
theorem dX11_costFrom_54 : decode cX11_costFrom 54 = .ok (.iadd, 1) := by decide +kernel
theorem dX11_costFrom_55 : decode cX11_costFrom 55 = .ok (.iaload, 1) := by decide +kernel
theorem dX11_costFrom_56 : decode cX11_costFrom 56 = .ok (.iastore, 1) := by decide +kernel
theorem dX11_costFrom_57 : decode cX11_costFrom 57 = .ok (.iinc 2 1, 3) := by decide +kernel
theorem dX11_costFrom_60 : decode cX11_costFrom 60 = .ok (.goto (-30), 3) := by decide +kernel
theorem dX11_costFrom_63 : decode cX11_costFrom 63 = .ok (.aload_n 0, 1) := by decide +kernel
theorem dX11_costFrom_64 : decode cX11_costFrom 64 = .ok (.aload_n 0, 1) := by decide +kernel
theorem dX11_costFrom_65 : decode cX11_costFrom 65 = .ok (.getfield 218, 3) := by decide +kernel
theorem dX11_costFrom_68 : decode cX11_costFrom 68 = .ok (.aload_n 0, 1) := by decide +kernel
theorem dX11_costFrom_69 : decode cX11_costFrom 69 = .ok (.getfield 49, 3) := by decide +kernel
theorem dX11_costFrom_72 : decode cX11_costFrom 72 = .ok (.iload_n 1, 1) := by decide +kernel
theorem dX11_costFrom_73 : decode cX11_costFrom 73 = .ok (.iaload, 1) := by decide +kernel
theorem dX11_costFrom_74 : decode cX11_costFrom 74 = .ok (.invokevirtual 238, 3) := by decide +kernel
theorem dX11_costFrom_77 : decode cX11_costFrom 77 = .ok (.ireturn, 1) := by decide +kernel
theorem dX11_costsOf_0 : decode cX11_costsOf 0 = .ok (.iconst 0, 1) := by decide +kernel
theorem dX11_costsOf_1 : decode cX11_costsOf 1 = .ok (.istore_n 2, 1) := by decide +kernel
theorem dX11_costsOf_2 : decode cX11_costsOf 2 = .ok (.iconst 0, 1) := by decide +kernel
theorem dX11_costsOf_3 : decode cX11_costsOf 3 = .ok (.istore_n 3, 1) := by decide +kernel
theorem dX11_costsOf_4 : decode cX11_costsOf 4 = .ok (.iload_n 3, 1) := by decide +kernel
theorem dX11_costsOf_5 : decode cX11_costsOf 5 = .ok (.aload_n 0, 1) := by decide +kernel
theorem dX11_costsOf_6 : decode cX11_costsOf 6 = .ok (.getfield 164, 3) := by decide +kernel
theorem dX11_costsOf_9 : decode cX11_costsOf 9 = .ok (.if_icmp .ge 38, 3) := by decide +kernel
theorem dX11_costsOf_12 : decode cX11_costsOf 12 = .ok (.aload_n 0, 1) := by decide +kernel
theorem dX11_costsOf_13 : decode cX11_costsOf 13 = .ok (.iload_n 3, 1) := by decide +kernel
theorem dX11_costsOf_14 : decode cX11_costsOf 14 = .ok (.iload_n 1, 1) := by decide +kernel
theorem dX11_costsOf_15 : decode cX11_costsOf 15 = .ok (.invokevirtual 186, 3) := by decide +kernel
theorem dX11_costsOf_18 : decode cX11_costsOf 18 = .ok (.istore 4, 2) := by decide +kernel
theorem dX11_costsOf_20 : decode cX11_costsOf 20 = .ok (.iload 4, 2) := by decide +kernel
theorem dX11_costsOf_22 : decode cX11_costsOf 22 = .ok (.bipush (-9), 2) := by decide +kernel
theorem dX11_costsOf_24 : decode cX11_costsOf 24 = .ok (.if_icmp .eq 17, 3) := by decide +kernel
theorem dX11_costsOf_27 : decode cX11_costsOf 27 = .ok (.aload_n 0, 1) := by decide +kernel
theorem dX11_costsOf_28 : decode cX11_costsOf 28 = .ok (.iload_n 3, 1) := by decide +kernel
theorem dX11_costsOf_29 : decode cX11_costsOf 29 = .ok (.invokevirtual 251, 3) := by decide +kernel
theorem dX11_costsOf_32 : decode cX11_costsOf 32 = .ok (.iload_n 2, 1) := by decide +kernel
theorem dX11_costsOf_33 : decode cX11_costsOf 33 = .ok (.aload_n 0, 1) := by decide +kernel
theorem dX11_costsOf_34 : decode cX11_costsOf 34 = .ok (.iload 4, 2) := by decide +kernel
theorem dX11_costsOf_36 : decode cX11_costsOf 36 = .ok (.invokevirtual 254, 3) := by decide +kernel
theorem dX11_costsOf_39 : decode cX11_costsOf 39 = .ok (.iadd, 1) := by decide +kernel
theorem dX11_costsOf_40 : decode cX11_costsOf 40 = .ok (.istore_n 2, 1) := by decide +kernel
theorem dX11_costsOf_41 : decode cX11_costsOf 41 = .ok (.iinc 3 1, 3) := by decide +kernel
theorem dX11_costsOf_44 : decode cX11_costsOf 44 = .ok (.goto (-40), 3) := by decide +kernel
theorem dX11_costsOf_47 : decode cX11_costsOf 47 = .ok (.iload_n 2, 1) := by decide +kernel
theorem dX11_costsOf_48 : decode cX11_costsOf 48 = .ok (.ireturn, 1) := by decide +kernel
theorem dX11_isSaid_0 : decode cX11_isSaid 0 = .ok (.iconst 0, 1) := by decide +kernel
theorem dX11_isSaid_1 : decode cX11_isSaid 1 = .ok (.istore_n 2, 1) := by decide +kernel
theorem dX11_isSaid_2 : decode cX11_isSaid 2 = .ok (.iload_n 2, 1) := by decide +kernel
theorem dX11_isSaid_3 : decode cX11_isSaid 3 = .ok (.aload_n 0, 1) := by decide +kernel
theorem dX11_isSaid_4 : decode cX11_isSaid 4 = .ok (.getfield 164, 3) := by decide +kernel
theorem dX11_isSaid_7 : decode cX11_isSaid 7 = .ok (.if_icmp .ge 22, 3) := by decide +kernel
theorem dX11_isSaid_10 : decode cX11_isSaid 10 = .ok (.aload_n 0, 1) := by decide +kernel
theorem dX11_isSaid_11 : decode cX11_isSaid 11 = .ok (.iload_n 2, 1) := by decide +kernel
theorem dX11_isSaid_12 : decode cX11_isSaid 12 = .ok (.iload_n 1, 1) := by decide +kernel
theorem dX11_isSaid_13 : decode cX11_isSaid 13 = .ok (.invokevirtual 186, 3) := by decide +kernel
theorem dX11_isSaid_16 : decode cX11_isSaid 16 = .ok (.bipush (-9), 2) := by decide +kernel
theorem dX11_isSaid_18 : decode cX11_isSaid 18 = .ok (.if_icmp .eq 5, 3) := by decide +kernel
theorem dX11_isSaid_21 : decode cX11_isSaid 21 = .ok (.iconst 1, 1) := by decide +kernel
theorem dX11_isSaid_22 : decode cX11_isSaid 22 = .ok (.ireturn, 1) := by decide +kernel
theorem dX11_isSaid_23 : decode cX11_isSaid 23 = .ok (.iinc 2 1, 3) := by decide +kernel
theorem dX11_isSaid_26 : decode cX11_isSaid 26 = .ok (.goto (-24), 3) := by decide +kernel
theorem dX11_isSaid_29 : decode cX11_isSaid 29 = .ok (.iconst 0, 1) := by decide +kernel
theorem dX11_isSaid_30 : decode cX11_isSaid 30 = .ok (.ireturn, 1) := by decide +kernel
theorem dX11_sought_0 : decode cX11_sought 0 = .ok (.iload_n 1, 1) := by decide +kernel
theorem dX11_sought_1 : decode cX11_sought 1 = .ok (.invokestatic 173, 3) := by decide +kernel
theorem dX11_sought_4 : decode cX11_sought 4 = .ok (.ifCond .eq 13, 3) := by decide +kernel
theorem dX11_sought_7 : decode cX11_sought 7 = .ok (.iload_n 3, 1) := by decide +kernel
theorem dX11_sought_8 : decode cX11_sought 8 = .ok (.bipush (-2), 2) := by decide +kernel
theorem dX11_sought_10 : decode cX11_sought 10 = .ok (.iconst 2, 1) := by decide +kernel
theorem dX11_sought_11 : decode cX11_sought 11 = .ok (.invokestatic 124, 3) := by decide +kernel
theorem dX11_sought_14 : decode cX11_sought 14 = .ok (.ifCond .ne 5, 3) := by decide +kernel
theorem dX11_sought_17 : decode cX11_sought 17 = .ok (.iconst (-1), 1) := by decide +kernel
theorem dX11_sought_18 : decode cX11_sought 18 = .ok (.ireturn, 1) := by decide +kernel
theorem dX11_sought_19 : decode cX11_sought 19 = .ok (.aload_n 0, 1) := by decide +kernel
theorem dX11_sought_20 : decode cX11_sought 20 = .ok (.iload_n 2, 1) := by decide +kernel
theorem dX11_sought_21 : decode cX11_sought 21 = .ok (.invokevirtual 257, 3) := by decide +kernel
theorem dX11_sought_24 : decode cX11_sought 24 = .ok (.ifCond .ne 6, 3) := by decide +kernel
theorem dX11_sought_27 : decode cX11_sought 27 = .ok (.bipush (-2), 2) := by decide +kernel
theorem dX11_sought_29 : decode cX11_sought 29 = .ok (.ireturn, 1) := by decide +kernel
theorem dX11_sought_30 : decode cX11_sought 30 = .ok (.aload_n 0, 1) := by decide +kernel
theorem dX11_sought_31 : decode cX11_sought 31 = .ok (.iload_n 1, 1) := by decide +kernel
theorem dX11_sought_32 : decode cX11_sought 32 = .ok (.invokevirtual 260, 3) := by decide +kernel
theorem dX11_sought_35 : decode cX11_sought 35 = .ok (.ifCond .ne 6, 3) := by decide +kernel
theorem dX11_sought_38 : decode cX11_sought 38 = .ok (.bipush (-3), 2) := by decide +kernel
theorem dX11_sought_40 : decode cX11_sought 40 = .ok (.ireturn, 1) := by decide +kernel
theorem dX11_sought_41 : decode cX11_sought 41 = .ok (.iconst 0, 1) := by decide +kernel
theorem dX11_sought_42 : decode cX11_sought 42 = .ok (.istore 4, 2) := by decide +kernel
theorem dX11_sought_44 : decode cX11_sought 44 = .ok (.iconst 0, 1) := by decide +kernel
theorem dX11_sought_45 : decode cX11_sought 45 = .ok (.istore 5, 2) := by decide +kernel
theorem dX11_sought_47 : decode cX11_sought 47 = .ok (.iconst 0, 1) := by decide +kernel
theorem dX11_sought_48 : decode cX11_sought 48 = .ok (.istore 6, 2) := by decide +kernel
theorem dX11_sought_50 : decode cX11_sought 50 = .ok (.iload 6, 2) := by decide +kernel
theorem dX11_sought_52 : decode cX11_sought 52 = .ok (.aload_n 0, 1) := by decide +kernel
theorem dX11_sought_53 : decode cX11_sought 53 = .ok (.invokevirtual 263, 3) := by decide +kernel
theorem dX11_sought_56 : decode cX11_sought 56 = .ok (.if_icmp .ge 42, 3) := by decide +kernel
theorem dX11_sought_59 : decode cX11_sought 59 = .ok (.aload_n 0, 1) := by decide +kernel
theorem dX11_sought_60 : decode cX11_sought 60 = .ok (.iload 6, 2) := by decide +kernel
theorem dX11_sought_62 : decode cX11_sought 62 = .ok (.invokevirtual 266, 3) := by decide +kernel
theorem dX11_sought_65 : decode cX11_sought 65 = .ok (.aload_n 0, 1) := by decide +kernel
theorem dX11_sought_66 : decode cX11_sought 66 = .ok (.iload_n 1, 1) := by decide +kernel
theorem dX11_sought_67 : decode cX11_sought 67 = .ok (.invokevirtual 269, 3) := by decide +kernel
theorem dX11_sought_70 : decode cX11_sought 70 = .ok (.istore 7, 2) := by decide +kernel
theorem dX11_sought_72 : decode cX11_sought 72 = .ok (.iload 6, 2) := by decide +kernel
theorem dX11_sought_74 : decode cX11_sought 74 = .ok (.ifCond .eq 10, 3) := by decide +kernel
theorem dX11_sought_77 : decode cX11_sought 77 = .ok (.iload 7, 2) := by decide +kernel
theorem dX11_sought_79 : decode cX11_sought 79 = .ok (.iload 5, 2) := by decide +kernel
theorem dX11_sought_81 : decode cX11_sought 81 = .ok (.if_icmp .ge 11, 3) := by decide +kernel
theorem dX11_sought_84 : decode cX11_sought 84 = .ok (.iload 6, 2) := by decide +kernel
theorem dX11_sought_86 : decode cX11_sought 86 = .ok (.istore 4, 2) := by decide +kernel
theorem dX11_sought_88 : decode cX11_sought 88 = .ok (.iload 7, 2) := by decide +kernel
theorem dX11_sought_90 : decode cX11_sought 90 = .ok (.istore 5, 2) := by decide +kernel
theorem dX11_sought_92 : decode cX11_sought 92 = .ok (.iinc 6 1, 3) := by decide +kernel
theorem dX11_sought_95 : decode cX11_sought 95 = .ok (.goto (-45), 3) := by decide +kernel
theorem dX11_sought_98 : decode cX11_sought 98 = .ok (.aload_n 0, 1) := by decide +kernel
theorem dX11_sought_99 : decode cX11_sought 99 = .ok (.iload 4, 2) := by decide +kernel
theorem dX11_sought_101 : decode cX11_sought 101 = .ok (.invokevirtual 266, 3) := by decide +kernel
theorem dX11_sought_104 : decode cX11_sought 104 = .ok (.iload_n 3, 1) := by decide +kernel
theorem dX11_sought_105 : decode cX11_sought 105 = .ok (.bipush (-2), 2) := by decide +kernel
theorem dX11_sought_107 : decode cX11_sought 107 = .ok (.if_icmp .ne 8, 3) := by decide +kernel
theorem dX11_sought_110 : decode cX11_sought 110 = .ok (.iload 5, 2) := by decide +kernel
theorem dX11_sought_112 : decode cX11_sought 112 = .ok (.goto 34, 3) := by decide +kernel
theorem dX11_sought_115 : decode cX11_sought 115 = .ok (.iload_n 3, 1) := by decide +kernel
theorem dX11_sought_116 : decode cX11_sought 116 = .ok (.iconst (-1), 1) := by decide +kernel
theorem dX11_sought_117 : decode cX11_sought 117 = .ok (.if_icmp .ne 10, 3) := by decide +kernel
theorem dX11_sought_120 : decode cX11_sought 120 = .ok (.aload_n 0, 1) := by decide +kernel
theorem dX11_sought_121 : decode cX11_sought 121 = .ok (.getfield 248, 3) := by decide +kernel
theorem dX11_sought_124 : decode cX11_sought 124 = .ok (.goto 22, 3) := by decide +kernel
theorem dX11_sought_127 : decode cX11_sought 127 = .ok (.iload_n 3, 1) := by decide +kernel
theorem dX11_sought_128 : decode cX11_sought 128 = .ok (.aload_n 0, 1) := by decide +kernel
theorem dX11_sought_129 : decode cX11_sought 129 = .ok (.getfield 248, 3) := by decide +kernel
theorem dX11_sought_132 : decode cX11_sought 132 = .ok (.if_icmp .ge 12, 3) := by decide +kernel
theorem dX11_sought_135 : decode cX11_sought 135 = .ok (.aload_n 0, 1) := by decide +kernel
theorem dX11_sought_136 : decode cX11_sought 136 = .ok (.getfield 101, 3) := by decide +kernel
theorem dX11_sought_139 : decode cX11_sought 139 = .ok (.iload_n 3, 1) := by decide +kernel
theorem dX11_sought_140 : decode cX11_sought 140 = .ok (.iaload, 1) := by decide +kernel
theorem dX11_sought_141 : decode cX11_sought 141 = .ok (.goto 5, 3) := by decide +kernel
theorem dX11_sought_144 : decode cX11_sought 144 = .ok (.bipush (-9), 2) := by decide +kernel
theorem dX11_sought_146 : decode cX11_sought 146 = .ok (.ireturn, 1) := by decide +kernel
theorem dX11_isForms_0 : decode cX11_isForms 0 = .ok (.aload_n 0, 1) := by decide +kernel
theorem dX11_isForms_1 : decode cX11_isForms 1 = .ok (.getfield 218, 3) := by decide +kernel
theorem dX11_isForms_4 : decode cX11_isForms 4 = .ok (.aload_n 0, 1) := by decide +kernel
theorem dX11_isForms_5 : decode cX11_isForms 5 = .ok (.getfield 49, 3) := by decide +kernel
theorem dX11_isForms_8 : decode cX11_isForms 8 = .ok (.iload_n 1, 1) := by decide +kernel
theorem dX11_isForms_9 : decode cX11_isForms 9 = .ok (.iaload, 1) := by decide +kernel
theorem dX11_isForms_10 : decode cX11_isForms 10 = .ok (.if_icmp .eq 5, 3) := by decide +kernel
theorem dX11_isForms_13 : decode cX11_isForms 13 = .ok (.iconst 0, 1) := by decide +kernel
theorem dX11_isForms_14 : decode cX11_isForms 14 = .ok (.ireturn, 1) := by decide +kernel
theorem dX11_isForms_15 : decode cX11_isForms 15 = .ok (.iconst 0, 1) := by decide +kernel
theorem dX11_isForms_16 : decode cX11_isForms 16 = .ok (.istore_n 2, 1) := by decide +kernel
theorem dX11_isForms_17 : decode cX11_isForms 17 = .ok (.iload_n 2, 1) := by decide +kernel
theorem dX11_isForms_18 : decode cX11_isForms 18 = .ok (.aload_n 0, 1) := by decide +kernel
theorem dX11_isForms_19 : decode cX11_isForms 19 = .ok (.getfield 218, 3) := by decide +kernel
theorem dX11_isForms_22 : decode cX11_isForms 22 = .ok (.if_icmp .ge 31, 3) := by decide +kernel
theorem dX11_isForms_25 : decode cX11_isForms 25 = .ok (.aload_n 0, 1) := by decide +kernel
theorem dX11_isForms_26 : decode cX11_isForms 26 = .ok (.getfield 82, 3) := by decide +kernel
theorem dX11_isForms_29 : decode cX11_isForms 29 = .ok (.iload_n 2, 1) := by decide +kernel
theorem dX11_isForms_30 : decode cX11_isForms 30 = .ok (.iaload, 1) := by decide +kernel
theorem dX11_isForms_31 : decode cX11_isForms 31 = .ok (.aload_n 0, 1) := by decide +kernel
theorem dX11_isForms_32 : decode cX11_isForms 32 = .ok (.getfield 52, 3) := by decide +kernel
theorem dX11_isForms_35 : decode cX11_isForms 35 = .ok (.bipush 8, 2) := by decide +kernel
theorem dX11_isForms_37 : decode cX11_isForms 37 = .ok (.iload_n 1, 1) := by decide +kernel
theorem dX11_isForms_38 : decode cX11_isForms 38 = .ok (.imul, 1) := by decide +kernel
theorem dX11_isForms_39 : decode cX11_isForms 39 = .ok (.iload_n 2, 1) := by decide +kernel
theorem dX11_isForms_40 : decode cX11_isForms 40 = .ok (.iadd, 1) := by decide +kernel
theorem dX11_isForms_41 : decode cX11_isForms 41 = .ok (.iaload, 1) := by decide +kernel
theorem dX11_isForms_42 : decode cX11_isForms 42 = .ok (.if_icmp .eq 5, 3) := by decide +kernel
theorem dX11_isForms_45 : decode cX11_isForms 45 = .ok (.iconst 0, 1) := by decide +kernel
theorem dX11_isForms_46 : decode cX11_isForms 46 = .ok (.ireturn, 1) := by decide +kernel
theorem dX11_isForms_47 : decode cX11_isForms 47 = .ok (.iinc 2 1, 3) := by decide +kernel
theorem dX11_isForms_50 : decode cX11_isForms 50 = .ok (.goto (-33), 3) := by decide +kernel
theorem dX11_isForms_53 : decode cX11_isForms 53 = .ok (.iconst 1, 1) := by decide +kernel
theorem dX11_isForms_54 : decode cX11_isForms 54 = .ok (.ireturn, 1) := by decide +kernel
theorem dX11_regular_0 : decode cX11_regular 0 = .ok (.aload_n 0, 1) := by decide +kernel
theorem dX11_regular_1 : decode cX11_regular 1 = .ok (.iload_n 1, 1) := by decide +kernel
theorem dX11_regular_2 : decode cX11_regular 2 = .ok (.invokevirtual 183, 3) := by decide +kernel
theorem dX11_regular_5 : decode cX11_regular 5 = .ok (.ifCond .ne 5, 3) := by decide +kernel
theorem dX11_regular_8 : decode cX11_regular 8 = .ok (.iconst (-1), 1) := by decide +kernel
theorem dX11_regular_9 : decode cX11_regular 9 = .ok (.ireturn, 1) := by decide +kernel
theorem dX11_regular_10 : decode cX11_regular 10 = .ok (.aload_n 0, 1) := by decide +kernel
theorem dX11_regular_11 : decode cX11_regular 11 = .ok (.getfield 58, 3) := by decide +kernel
theorem dX11_regular_14 : decode cX11_regular 14 = .ok (.aload_n 0, 1) := by decide +kernel
theorem dX11_regular_15 : decode cX11_regular 15 = .ok (.getfield 46, 3) := by decide +kernel
theorem dX11_regular_18 : decode cX11_regular 18 = .ok (.iload_n 1, 1) := by decide +kernel
theorem dX11_regular_19 : decode cX11_regular 19 = .ok (.iaload, 1) := by decide +kernel
theorem dX11_regular_20 : decode cX11_regular 20 = .ok (.iaload, 1) := by decide +kernel
theorem dX11_regular_21 : decode cX11_regular 21 = .ok (.bipush (-9), 2) := by decide +kernel
theorem dX11_regular_23 : decode cX11_regular 23 = .ok (.if_icmp .ne 6, 3) := by decide +kernel
theorem dX11_regular_26 : decode cX11_regular 26 = .ok (.bipush (-3), 2) := by decide +kernel
theorem dX11_regular_28 : decode cX11_regular 28 = .ok (.ireturn, 1) := by decide +kernel
theorem dX11_regular_29 : decode cX11_regular 29 = .ok (.aload_n 0, 1) := by decide +kernel
theorem dX11_regular_30 : decode cX11_regular 30 = .ok (.aload_n 0, 1) := by decide +kernel
theorem dX11_regular_31 : decode cX11_regular 31 = .ok (.getfield 46, 3) := by decide +kernel
theorem dX11_regular_34 : decode cX11_regular 34 = .ok (.iload_n 1, 1) := by decide +kernel
theorem dX11_regular_35 : decode cX11_regular 35 = .ok (.iaload, 1) := by decide +kernel
theorem dX11_regular_36 : decode cX11_regular 36 = .ok (.invokevirtual 227, 3) := by decide +kernel
theorem dX11_regular_39 : decode cX11_regular 39 = .ok (.aload_n 0, 1) := by decide +kernel
theorem dX11_regular_40 : decode cX11_regular 40 = .ok (.aload_n 0, 1) := by decide +kernel
theorem dX11_regular_41 : decode cX11_regular 41 = .ok (.getfield 43, 3) := by decide +kernel
theorem dX11_regular_44 : decode cX11_regular 44 = .ok (.iload_n 1, 1) := by decide +kernel
theorem dX11_regular_45 : decode cX11_regular 45 = .ok (.iaload, 1) := by decide +kernel
theorem dX11_regular_46 : decode cX11_regular 46 = .ok (.bipush 8, 2) := by decide +kernel
theorem dX11_regular_48 : decode cX11_regular 48 = .ok (.invokevirtual 231, 3) := by decide +kernel
theorem dX11_regular_51 : decode cX11_regular 51 = .ok (.pop, 1) := by decide +kernel
theorem dX11_regular_52 : decode cX11_regular 52 = .ok (.aload_n 0, 1) := by decide +kernel
theorem dX11_regular_53 : decode cX11_regular 53 = .ok (.iload_n 1, 1) := by decide +kernel
theorem dX11_regular_54 : decode cX11_regular 54 = .ok (.invokevirtual 272, 3) := by decide +kernel
theorem dX11_regular_57 : decode cX11_regular 57 = .ok (.ifCond .eq 7, 3) := by decide +kernel
theorem dX11_regular_60 : decode cX11_regular 60 = .ok (.iconst 1, 1) := by decide +kernel
theorem dX11_regular_61 : decode cX11_regular 61 = .ok (.goto 4, 3) := by decide +kernel
theorem dX11_regular_64 : decode cX11_regular 64 = .ok (.iconst 0, 1) := by decide +kernel
theorem dX11_regular_65 : decode cX11_regular 65 = .ok (.ireturn, 1) := by decide +kernel
theorem dX11_ways_0 : decode cX11_ways 0 = .ok (.aload_n 0, 1) := by decide +kernel
theorem dX11_ways_1 : decode cX11_ways 1 = .ok (.iload_n 1, 1) := by decide +kernel
theorem dX11_ways_2 : decode cX11_ways 2 = .ok (.invokevirtual 183, 3) := by decide +kernel
theorem dX11_ways_5 : decode cX11_ways 5 = .ok (.ifCond .ne 5, 3) := by decide +kernel
theorem dX11_ways_8 : decode cX11_ways 8 = .ok (.iconst (-1), 1) := by decide +kernel
theorem dX11_ways_9 : decode cX11_ways 9 = .ok (.ireturn, 1) := by decide +kernel
theorem dX11_ways_10 : decode cX11_ways 10 = .ok (.aload_n 0, 1) := by decide +kernel
theorem dX11_ways_11 : decode cX11_ways 11 = .ok (.iload_n 2, 1) := by decide +kernel
theorem dX11_ways_12 : decode cX11_ways 12 = .ok (.invokevirtual 257, 3) := by decide +kernel
theorem dX11_ways_15 : decode cX11_ways 15 = .ok (.ifCond .ne 6, 3) := by decide +kernel
theorem dX11_ways_18 : decode cX11_ways 18 = .ok (.bipush (-2), 2) := by decide +kernel
theorem dX11_ways_20 : decode cX11_ways 20 = .ok (.ireturn, 1) := by decide +kernel
theorem dX11_ways_21 : decode cX11_ways 21 = .ok (.iconst 0, 1) := by decide +kernel
theorem dX11_ways_22 : decode cX11_ways 22 = .ok (.istore_n 3, 1) := by decide +kernel
theorem dX11_ways_23 : decode cX11_ways 23 = .ok (.iconst 0, 1) := by decide +kernel
theorem dX11_ways_24 : decode cX11_ways 24 = .ok (.istore 4, 2) := by decide +kernel
theorem dX11_ways_26 : decode cX11_ways 26 = .ok (.iload 4, 2) := by decide +kernel
theorem dX11_ways_28 : decode cX11_ways 28 = .ok (.aload_n 0, 1) := by decide +kernel
theorem dX11_ways_29 : decode cX11_ways 29 = .ok (.invokevirtual 263, 3) := by decide +kernel
theorem dX11_ways_32 : decode cX11_ways 32 = .ok (.if_icmp .ge 41, 3) := by decide +kernel
theorem dX11_ways_35 : decode cX11_ways 35 = .ok (.aload_n 0, 1) := by decide +kernel
theorem dX11_ways_36 : decode cX11_ways 36 = .ok (.iload 4, 2) := by decide +kernel
theorem dX11_ways_38 : decode cX11_ways 38 = .ok (.invokevirtual 266, 3) := by decide +kernel
theorem dX11_ways_41 : decode cX11_ways 41 = .ok (.aload_n 0, 1) := by decide +kernel
theorem dX11_ways_42 : decode cX11_ways 42 = .ok (.aload_n 0, 1) := by decide +kernel
theorem dX11_ways_43 : decode cX11_ways 43 = .ok (.getfield 43, 3) := by decide +kernel
theorem dX11_ways_46 : decode cX11_ways 46 = .ok (.iload_n 1, 1) := by decide +kernel
theorem dX11_ways_47 : decode cX11_ways 47 = .ok (.iaload, 1) := by decide +kernel
theorem dX11_ways_48 : decode cX11_ways 48 = .ok (.invokevirtual 251, 3) := by decide +kernel
theorem dX11_ways_51 : decode cX11_ways 51 = .ok (.iload_n 3, 1) := by decide +kernel
theorem dX11_ways_52 : decode cX11_ways 52 = .ok (.aload_n 0, 1) := by decide +kernel
theorem dX11_ways_53 : decode cX11_ways 53 = .ok (.iload_n 1, 1) := by decide +kernel
theorem dX11_ways_54 : decode cX11_ways 54 = .ok (.invokevirtual 272, 3) := by decide +kernel
theorem dX11_ways_57 : decode cX11_ways 57 = .ok (.ifCond .eq 7, 3) := by decide +kernel
theorem dX11_ways_60 : decode cX11_ways 60 = .ok (.iconst 1, 1) := by decide +kernel
theorem dX11_ways_61 : decode cX11_ways 61 = .ok (.goto 4, 3) := by decide +kernel
theorem dX11_ways_64 : decode cX11_ways 64 = .ok (.iconst 0, 1) := by decide +kernel
theorem dX11_ways_65 : decode cX11_ways 65 = .ok (.iadd, 1) := by decide +kernel
theorem dX11_ways_66 : decode cX11_ways 66 = .ok (.istore_n 3, 1) := by decide +kernel
theorem dX11_ways_67 : decode cX11_ways 67 = .ok (.iinc 4 1, 3) := by decide +kernel
theorem dX11_ways_70 : decode cX11_ways 70 = .ok (.goto (-44), 3) := by decide +kernel
theorem dX11_ways_73 : decode cX11_ways 73 = .ok (.iload_n 3, 1) := by decide +kernel
theorem dX11_ways_74 : decode cX11_ways 74 = .ok (.ireturn, 1) := by decide +kernel
theorem dX11_regulars_0 : decode cX11_regulars 0 = .ok (.iconst 0, 1) := by decide +kernel
theorem dX11_regulars_1 : decode cX11_regulars 1 = .ok (.istore_n 3, 1) := by decide +kernel
theorem dX11_regulars_2 : decode cX11_regulars 2 = .ok (.iconst 0, 1) := by decide +kernel
theorem dX11_regulars_3 : decode cX11_regulars 3 = .ok (.istore 4, 2) := by decide +kernel
theorem dX11_regulars_5 : decode cX11_regulars 5 = .ok (.iload 4, 2) := by decide +kernel
theorem dX11_regulars_7 : decode cX11_regulars 7 = .ok (.bipush 6, 2) := by decide +kernel
theorem dX11_regulars_9 : decode cX11_regulars 9 = .ok (.if_icmp .ge 90, 3) := by decide +kernel
theorem dX11_regulars_12 : decode cX11_regulars 12 = .ok (.aload_n 0, 1) := by decide +kernel
theorem dX11_regulars_13 : decode cX11_regulars 13 = .ok (.iload_n 1, 1) := by decide +kernel
theorem dX11_regulars_14 : decode cX11_regulars 14 = .ok (.iload 4, 2) := by decide +kernel
theorem dX11_regulars_16 : decode cX11_regulars 16 = .ok (.invokevirtual 186, 3) := by decide +kernel
theorem dX11_regulars_19 : decode cX11_regulars 19 = .ok (.istore 5, 2) := by decide +kernel
theorem dX11_regulars_21 : decode cX11_regulars 21 = .ok (.iload 5, 2) := by decide +kernel
theorem dX11_regulars_23 : decode cX11_regulars 23 = .ok (.bipush (-9), 2) := by decide +kernel
theorem dX11_regulars_25 : decode cX11_regulars 25 = .ok (.if_icmp .eq 68, 3) := by decide +kernel
theorem dX11_regulars_28 : decode cX11_regulars 28 = .ok (.aload_n 0, 1) := by decide +kernel
theorem dX11_regulars_29 : decode cX11_regulars 29 = .ok (.getfield 58, 3) := by decide +kernel
theorem dX11_regulars_32 : decode cX11_regulars 32 = .ok (.iload 4, 2) := by decide +kernel
theorem dX11_regulars_34 : decode cX11_regulars 34 = .ok (.iaload, 1) := by decide +kernel
theorem dX11_regulars_35 : decode cX11_regulars 35 = .ok (.bipush (-9), 2) := by decide +kernel
theorem dX11_regulars_37 : decode cX11_regulars 37 = .ok (.if_icmp .ne 6, 3) := by decide +kernel
theorem dX11_regulars_40 : decode cX11_regulars 40 = .ok (.goto 53, 3) := by decide +kernel
theorem dX11_regulars_43 : decode cX11_regulars 43 = .ok (.aload_n 0, 1) := by decide +kernel
theorem dX11_regulars_44 : decode cX11_regulars 44 = .ok (.iload 4, 2) := by decide +kernel
theorem dX11_regulars_46 : decode cX11_regulars 46 = .ok (.invokevirtual 227, 3) := by decide +kernel
theorem dX11_regulars_49 : decode cX11_regulars 49 = .ok (.iconst 0, 1) := by decide +kernel
theorem dX11_regulars_50 : decode cX11_regulars 50 = .ok (.istore 6, 2) := by decide +kernel
theorem dX11_regulars_52 : decode cX11_regulars 52 = .ok (.iload 6, 2) := by decide +kernel
theorem dX11_regulars_54 : decode cX11_regulars 54 = .ok (.iload_n 2, 1) := by decide +kernel
theorem dX11_regulars_55 : decode cX11_regulars 55 = .ok (.if_icmp .ge 21, 3) := by decide +kernel
theorem dX11_regulars_58 : decode cX11_regulars 58 = .ok (.aload_n 0, 1) := by decide +kernel
theorem dX11_regulars_59 : decode cX11_regulars 59 = .ok (.aload_n 0, 1) := by decide +kernel
theorem dX11_regulars_60 : decode cX11_regulars 60 = .ok (.getfield 107, 3) := by decide +kernel
theorem dX11_regulars_63 : decode cX11_regulars 63 = .ok (.iload 6, 2) := by decide +kernel
theorem dX11_regulars_65 : decode cX11_regulars 65 = .ok (.iaload, 1) := by decide +kernel
theorem dX11_regulars_66 : decode cX11_regulars 66 = .ok (.invokevirtual 224, 3) := by decide +kernel
theorem dX11_regulars_69 : decode cX11_regulars 69 = .ok (.pop, 1) := by decide +kernel
theorem dX11_regulars_70 : decode cX11_regulars 70 = .ok (.iinc 6 1, 3) := by decide +kernel
theorem dX11_regulars_73 : decode cX11_regulars 73 = .ok (.goto (-21), 3) := by decide +kernel
theorem dX11_regulars_76 : decode cX11_regulars 76 = .ok (.iload_n 3, 1) := by decide +kernel
theorem dX11_regulars_77 : decode cX11_regulars 77 = .ok (.aload_n 0, 1) := by decide +kernel
theorem dX11_regulars_78 : decode cX11_regulars 78 = .ok (.iload 5, 2) := by decide +kernel
theorem dX11_regulars_80 : decode cX11_regulars 80 = .ok (.invokevirtual 272, 3) := by decide +kernel
theorem dX11_regulars_83 : decode cX11_regulars 83 = .ok (.ifCond .eq 7, 3) := by decide +kernel
theorem dX11_regulars_86 : decode cX11_regulars 86 = .ok (.iconst 1, 1) := by decide +kernel
theorem dX11_regulars_87 : decode cX11_regulars 87 = .ok (.goto 4, 3) := by decide +kernel
theorem dX11_regulars_90 : decode cX11_regulars 90 = .ok (.iconst 0, 1) := by decide +kernel
theorem dX11_regulars_91 : decode cX11_regulars 91 = .ok (.iadd, 1) := by decide +kernel
theorem dX11_regulars_92 : decode cX11_regulars 92 = .ok (.istore_n 3, 1) := by decide +kernel
theorem dX11_regulars_93 : decode cX11_regulars 93 = .ok (.iinc 4 1, 3) := by decide +kernel
theorem dX11_regulars_96 : decode cX11_regulars 96 = .ok (.goto (-91), 3) := by decide +kernel
theorem dX11_regulars_99 : decode cX11_regulars 99 = .ok (.iload_n 3, 1) := by decide +kernel
theorem dX11_regulars_100 : decode cX11_regulars 100 = .ok (.ireturn, 1) := by decide +kernel
theorem dX11_nextTurn_0 : decode cX11_nextTurn 0 = .ok (.iload_n 1, 1) := by decide +kernel
theorem dX11_nextTurn_1 : decode cX11_nextTurn 1 = .ok (.iconst 2, 1) := by decide +kernel
theorem dX11_nextTurn_2 : decode cX11_nextTurn 2 = .ok (.isub, 1) := by decide +kernel
theorem dX11_nextTurn_3 : decode cX11_nextTurn 3 = .ok (.istore_n 2, 1) := by decide +kernel
theorem dX11_nextTurn_4 : decode cX11_nextTurn 4 = .ok (.iload_n 2, 1) := by decide +kernel
theorem dX11_nextTurn_5 : decode cX11_nextTurn 5 = .ok (.ifCond .lt 26, 3) := by decide +kernel
theorem dX11_nextTurn_8 : decode cX11_nextTurn 8 = .ok (.aload_n 0, 1) := by decide +kernel
theorem dX11_nextTurn_9 : decode cX11_nextTurn 9 = .ok (.getfield 107, 3) := by decide +kernel
theorem dX11_nextTurn_12 : decode cX11_nextTurn 12 = .ok (.iload_n 2, 1) := by decide +kernel
theorem dX11_nextTurn_13 : decode cX11_nextTurn 13 = .ok (.iaload, 1) := by decide +kernel
theorem dX11_nextTurn_14 : decode cX11_nextTurn 14 = .ok (.aload_n 0, 1) := by decide +kernel
theorem dX11_nextTurn_15 : decode cX11_nextTurn 15 = .ok (.getfield 107, 3) := by decide +kernel
theorem dX11_nextTurn_18 : decode cX11_nextTurn 18 = .ok (.iload_n 2, 1) := by decide +kernel
theorem dX11_nextTurn_19 : decode cX11_nextTurn 19 = .ok (.iconst 1, 1) := by decide +kernel
theorem dX11_nextTurn_20 : decode cX11_nextTurn 20 = .ok (.iadd, 1) := by decide +kernel
theorem dX11_nextTurn_21 : decode cX11_nextTurn 21 = .ok (.iaload, 1) := by decide +kernel
theorem dX11_nextTurn_22 : decode cX11_nextTurn 22 = .ok (.if_icmp .le 9, 3) := by decide +kernel
theorem dX11_nextTurn_25 : decode cX11_nextTurn 25 = .ok (.iinc 2 (-1), 3) := by decide +kernel
theorem dX11_nextTurn_28 : decode cX11_nextTurn 28 = .ok (.goto (-24), 3) := by decide +kernel
theorem dX11_nextTurn_31 : decode cX11_nextTurn 31 = .ok (.iload_n 2, 1) := by decide +kernel
theorem dX11_nextTurn_32 : decode cX11_nextTurn 32 = .ok (.ifCond .ge 5, 3) := by decide +kernel
theorem dX11_nextTurn_35 : decode cX11_nextTurn 35 = .ok (.iconst 0, 1) := by decide +kernel
theorem dX11_nextTurn_36 : decode cX11_nextTurn 36 = .ok (.ireturn, 1) := by decide +kernel
theorem dX11_nextTurn_37 : decode cX11_nextTurn 37 = .ok (.iload_n 1, 1) := by decide +kernel
theorem dX11_nextTurn_38 : decode cX11_nextTurn 38 = .ok (.iconst 1, 1) := by decide +kernel
theorem dX11_nextTurn_39 : decode cX11_nextTurn 39 = .ok (.isub, 1) := by decide +kernel
theorem dX11_nextTurn_40 : decode cX11_nextTurn 40 = .ok (.istore_n 3, 1) := by decide +kernel
theorem dX11_nextTurn_41 : decode cX11_nextTurn 41 = .ok (.aload_n 0, 1) := by decide +kernel
theorem dX11_nextTurn_42 : decode cX11_nextTurn 42 = .ok (.getfield 107, 3) := by decide +kernel
theorem dX11_nextTurn_45 : decode cX11_nextTurn 45 = .ok (.iload_n 3, 1) := by decide +kernel
theorem dX11_nextTurn_46 : decode cX11_nextTurn 46 = .ok (.iaload, 1) := by decide +kernel
theorem dX11_nextTurn_47 : decode cX11_nextTurn 47 = .ok (.aload_n 0, 1) := by decide +kernel
theorem dX11_nextTurn_48 : decode cX11_nextTurn 48 = .ok (.getfield 107, 3) := by decide +kernel
theorem dX11_nextTurn_51 : decode cX11_nextTurn 51 = .ok (.iload_n 2, 1) := by decide +kernel
theorem dX11_nextTurn_52 : decode cX11_nextTurn 52 = .ok (.iaload, 1) := by decide +kernel
theorem dX11_nextTurn_53 : decode cX11_nextTurn 53 = .ok (.if_icmp .ge 9, 3) := by decide +kernel
theorem dX11_nextTurn_56 : decode cX11_nextTurn 56 = .ok (.iinc 3 (-1), 3) := by decide +kernel
theorem dX11_nextTurn_59 : decode cX11_nextTurn 59 = .ok (.goto (-18), 3) := by decide +kernel
theorem dX11_nextTurn_62 : decode cX11_nextTurn 62 = .ok (.aload_n 0, 1) := by decide +kernel
theorem dX11_nextTurn_63 : decode cX11_nextTurn 63 = .ok (.getfield 107, 3) := by decide +kernel
theorem dX11_nextTurn_66 : decode cX11_nextTurn 66 = .ok (.iload_n 2, 1) := by decide +kernel
theorem dX11_nextTurn_67 : decode cX11_nextTurn 67 = .ok (.iaload, 1) := by decide +kernel
theorem dX11_nextTurn_68 : decode cX11_nextTurn 68 = .ok (.istore 4, 2) := by decide +kernel
theorem dX11_nextTurn_70 : decode cX11_nextTurn 70 = .ok (.aload_n 0, 1) := by decide +kernel
theorem dX11_nextTurn_71 : decode cX11_nextTurn 71 = .ok (.getfield 107, 3) := by decide +kernel
theorem dX11_nextTurn_74 : decode cX11_nextTurn 74 = .ok (.iload_n 2, 1) := by decide +kernel
theorem dX11_nextTurn_75 : decode cX11_nextTurn 75 = .ok (.aload_n 0, 1) := by decide +kernel
theorem dX11_nextTurn_76 : decode cX11_nextTurn 76 = .ok (.getfield 107, 3) := by decide +kernel
theorem dX11_nextTurn_79 : decode cX11_nextTurn 79 = .ok (.iload_n 3, 1) := by decide +kernel
theorem dX11_nextTurn_80 : decode cX11_nextTurn 80 = .ok (.iaload, 1) := by decide +kernel
theorem dX11_nextTurn_81 : decode cX11_nextTurn 81 = .ok (.iastore, 1) := by decide +kernel
theorem dX11_nextTurn_82 : decode cX11_nextTurn 82 = .ok (.aload_n 0, 1) := by decide +kernel
theorem dX11_nextTurn_83 : decode cX11_nextTurn 83 = .ok (.getfield 107, 3) := by decide +kernel
theorem dX11_nextTurn_86 : decode cX11_nextTurn 86 = .ok (.iload_n 3, 1) := by decide +kernel
theorem dX11_nextTurn_87 : decode cX11_nextTurn 87 = .ok (.iload 4, 2) := by decide +kernel
theorem dX11_nextTurn_89 : decode cX11_nextTurn 89 = .ok (.iastore, 1) := by decide +kernel
theorem dX11_nextTurn_90 : decode cX11_nextTurn 90 = .ok (.iload_n 2, 1) := by decide +kernel
theorem dX11_nextTurn_91 : decode cX11_nextTurn 91 = .ok (.iconst 1, 1) := by decide +kernel
theorem dX11_nextTurn_92 : decode cX11_nextTurn 92 = .ok (.iadd, 1) := by decide +kernel
theorem dX11_nextTurn_93 : decode cX11_nextTurn 93 = .ok (.istore 5, 2) := by decide +kernel
theorem dX11_nextTurn_95 : decode cX11_nextTurn 95 = .ok (.iload_n 1, 1) := by decide +kernel
theorem dX11_nextTurn_96 : decode cX11_nextTurn 96 = .ok (.iconst 1, 1) := by decide +kernel
theorem dX11_nextTurn_97 : decode cX11_nextTurn 97 = .ok (.isub, 1) := by decide +kernel
theorem dX11_nextTurn_98 : decode cX11_nextTurn 98 = .ok (.istore 6, 2) := by decide +kernel
theorem dX11_nextTurn_100 : decode cX11_nextTurn 100 = .ok (.iload 5, 2) := by decide +kernel
theorem dX11_nextTurn_102 : decode cX11_nextTurn 102 = .ok (.iload 6, 2) := by decide +kernel
theorem dX11_nextTurn_104 : decode cX11_nextTurn 104 = .ok (.if_icmp .ge 44, 3) := by decide +kernel
theorem dX11_nextTurn_107 : decode cX11_nextTurn 107 = .ok (.aload_n 0, 1) := by decide +kernel
theorem dX11_nextTurn_108 : decode cX11_nextTurn 108 = .ok (.getfield 107, 3) := by decide +kernel
theorem dX11_nextTurn_111 : decode cX11_nextTurn 111 = .ok (.iload 5, 2) := by decide +kernel
theorem dX11_nextTurn_113 : decode cX11_nextTurn 113 = .ok (.iaload, 1) := by decide +kernel
theorem dX11_nextTurn_114 : decode cX11_nextTurn 114 = .ok (.istore 4, 2) := by decide +kernel
theorem dX11_nextTurn_116 : decode cX11_nextTurn 116 = .ok (.aload_n 0, 1) := by decide +kernel
theorem dX11_nextTurn_117 : decode cX11_nextTurn 117 = .ok (.getfield 107, 3) := by decide +kernel
theorem dX11_nextTurn_120 : decode cX11_nextTurn 120 = .ok (.iload 5, 2) := by decide +kernel
theorem dX11_nextTurn_122 : decode cX11_nextTurn 122 = .ok (.aload_n 0, 1) := by decide +kernel
theorem dX11_nextTurn_123 : decode cX11_nextTurn 123 = .ok (.getfield 107, 3) := by decide +kernel
theorem dX11_nextTurn_126 : decode cX11_nextTurn 126 = .ok (.iload 6, 2) := by decide +kernel
theorem dX11_nextTurn_128 : decode cX11_nextTurn 128 = .ok (.iaload, 1) := by decide +kernel
theorem dX11_nextTurn_129 : decode cX11_nextTurn 129 = .ok (.iastore, 1) := by decide +kernel
theorem dX11_nextTurn_130 : decode cX11_nextTurn 130 = .ok (.aload_n 0, 1) := by decide +kernel
theorem dX11_nextTurn_131 : decode cX11_nextTurn 131 = .ok (.getfield 107, 3) := by decide +kernel
theorem dX11_nextTurn_134 : decode cX11_nextTurn 134 = .ok (.iload 6, 2) := by decide +kernel
theorem dX11_nextTurn_136 : decode cX11_nextTurn 136 = .ok (.iload 4, 2) := by decide +kernel
theorem dX11_nextTurn_138 : decode cX11_nextTurn 138 = .ok (.iastore, 1) := by decide +kernel
theorem dX11_nextTurn_139 : decode cX11_nextTurn 139 = .ok (.iinc 5 1, 3) := by decide +kernel
theorem dX11_nextTurn_142 : decode cX11_nextTurn 142 = .ok (.iinc 6 (-1), 3) := by decide +kernel
theorem dX11_nextTurn_145 : decode cX11_nextTurn 145 = .ok (.goto (-45), 3) := by decide +kernel
theorem dX11_nextTurn_148 : decode cX11_nextTurn 148 = .ok (.iconst 1, 1) := by decide +kernel
theorem dX11_nextTurn_149 : decode cX11_nextTurn 149 = .ok (.ireturn, 1) := by decide +kernel
theorem dX11_order_0 : decode cX11_order 0 = .ok (.aload_n 0, 1) := by decide +kernel
theorem dX11_order_1 : decode cX11_order 1 = .ok (.iload_n 1, 1) := by decide +kernel
theorem dX11_order_2 : decode cX11_order 2 = .ok (.invokevirtual 167, 3) := by decide +kernel
theorem dX11_order_5 : decode cX11_order 5 = .ok (.ifCond .eq 13, 3) := by decide +kernel
theorem dX11_order_8 : decode cX11_order 8 = .ok (.iload_n 2, 1) := by decide +kernel
theorem dX11_order_9 : decode cX11_order 9 = .ok (.iconst (-1), 1) := by decide +kernel
theorem dX11_order_10 : decode cX11_order 10 = .ok (.bipush 7, 2) := by decide +kernel
theorem dX11_order_12 : decode cX11_order 12 = .ok (.invokestatic 124, 3) := by decide +kernel
theorem dX11_order_15 : decode cX11_order 15 = .ok (.ifCond .ne 5, 3) := by decide +kernel
theorem dX11_order_18 : decode cX11_order 18 = .ok (.iconst (-1), 1) := by decide +kernel
theorem dX11_order_19 : decode cX11_order 19 = .ok (.ireturn, 1) := by decide +kernel
theorem dX11_order_20 : decode cX11_order 20 = .ok (.iconst 0, 1) := by decide +kernel
theorem dX11_order_21 : decode cX11_order 21 = .ok (.istore_n 3, 1) := by decide +kernel
theorem dX11_order_22 : decode cX11_order 22 = .ok (.iconst 0, 1) := by decide +kernel
theorem dX11_order_23 : decode cX11_order 23 = .ok (.istore 4, 2) := by decide +kernel
theorem dX11_order_25 : decode cX11_order 25 = .ok (.iload 4, 2) := by decide +kernel
theorem dX11_order_27 : decode cX11_order 27 = .ok (.aload_n 0, 1) := by decide +kernel
theorem dX11_order_28 : decode cX11_order 28 = .ok (.getfield 209, 3) := by decide +kernel
theorem dX11_order_31 : decode cX11_order 31 = .ok (.if_icmp .ge 43, 3) := by decide +kernel
theorem dX11_order_34 : decode cX11_order 34 = .ok (.aload_n 0, 1) := by decide +kernel
theorem dX11_order_35 : decode cX11_order 35 = .ok (.getfield 64, 3) := by decide +kernel
theorem dX11_order_38 : decode cX11_order 38 = .ok (.iload 4, 2) := by decide +kernel
theorem dX11_order_40 : decode cX11_order 40 = .ok (.iaload, 1) := by decide +kernel
theorem dX11_order_41 : decode cX11_order 41 = .ok (.iload_n 1, 1) := by decide +kernel
theorem dX11_order_42 : decode cX11_order 42 = .ok (.invokestatic 132, 3) := by decide +kernel
theorem dX11_order_45 : decode cX11_order 45 = .ok (.ifCond .eq 23, 3) := by decide +kernel
theorem dX11_order_48 : decode cX11_order 48 = .ok (.iload_n 3, 1) := by decide +kernel
theorem dX11_order_49 : decode cX11_order 49 = .ok (.bipush 6, 2) := by decide +kernel
theorem dX11_order_51 : decode cX11_order 51 = .ok (.if_icmp .ne 6, 3) := by decide +kernel
theorem dX11_order_54 : decode cX11_order 54 = .ok (.bipush (-3), 2) := by decide +kernel
theorem dX11_order_56 : decode cX11_order 56 = .ok (.ireturn, 1) := by decide +kernel
theorem dX11_order_57 : decode cX11_order 57 = .ok (.aload_n 0, 1) := by decide +kernel
theorem dX11_order_58 : decode cX11_order 58 = .ok (.getfield 107, 3) := by decide +kernel
theorem dX11_order_61 : decode cX11_order 61 = .ok (.iload_n 3, 1) := by decide +kernel
theorem dX11_order_62 : decode cX11_order 62 = .ok (.iload 4, 2) := by decide +kernel
theorem dX11_order_64 : decode cX11_order 64 = .ok (.iastore, 1) := by decide +kernel
theorem dX11_order_65 : decode cX11_order 65 = .ok (.iinc 3 1, 3) := by decide +kernel
theorem dX11_order_68 : decode cX11_order 68 = .ok (.iinc 4 1, 3) := by decide +kernel
theorem dX11_order_71 : decode cX11_order 71 = .ok (.goto (-46), 3) := by decide +kernel
theorem dX11_order_74 : decode cX11_order 74 = .ok (.iconst (-1), 1) := by decide +kernel
theorem dX11_order_75 : decode cX11_order 75 = .ok (.istore 4, 2) := by decide +kernel
theorem dX11_order_77 : decode cX11_order 77 = .ok (.iconst 1, 1) := by decide +kernel
theorem dX11_order_78 : decode cX11_order 78 = .ok (.istore 5, 2) := by decide +kernel
theorem dX11_order_80 : decode cX11_order 80 = .ok (.iload 5, 2) := by decide +kernel
theorem dX11_order_82 : decode cX11_order 82 = .ok (.ifCond .eq 61, 3) := by decide +kernel
theorem dX11_order_85 : decode cX11_order 85 = .ok (.aload_n 0, 1) := by decide +kernel
theorem dX11_order_86 : decode cX11_order 86 = .ok (.iload_n 1, 1) := by decide +kernel
theorem dX11_order_87 : decode cX11_order 87 = .ok (.iload_n 3, 1) := by decide +kernel
theorem dX11_order_88 : decode cX11_order 88 = .ok (.invokevirtual 275, 3) := by decide +kernel
theorem dX11_order_91 : decode cX11_order 91 = .ok (.istore 6, 2) := by decide +kernel
theorem dX11_order_93 : decode cX11_order 93 = .ok (.iload 6, 2) := by decide +kernel
theorem dX11_order_95 : decode cX11_order 95 = .ok (.iload 4, 2) := by decide +kernel
theorem dX11_order_97 : decode cX11_order 97 = .ok (.if_icmp .le 36, 3) := by decide +kernel
theorem dX11_order_100 : decode cX11_order 100 = .ok (.iload 6, 2) := by decide +kernel
theorem dX11_order_102 : decode cX11_order 102 = .ok (.istore 4, 2) := by decide +kernel
theorem dX11_order_104 : decode cX11_order 104 = .ok (.iconst 0, 1) := by decide +kernel
theorem dX11_order_105 : decode cX11_order 105 = .ok (.istore 7, 2) := by decide +kernel
theorem dX11_order_107 : decode cX11_order 107 = .ok (.iload 7, 2) := by decide +kernel
theorem dX11_order_109 : decode cX11_order 109 = .ok (.iload_n 3, 1) := by decide +kernel
theorem dX11_order_110 : decode cX11_order 110 = .ok (.if_icmp .ge 23, 3) := by decide +kernel
theorem dX11_order_113 : decode cX11_order 113 = .ok (.aload_n 0, 1) := by decide +kernel
theorem dX11_order_114 : decode cX11_order 114 = .ok (.getfield 110, 3) := by decide +kernel
theorem dX11_order_117 : decode cX11_order 117 = .ok (.iload 7, 2) := by decide +kernel
theorem dX11_order_119 : decode cX11_order 119 = .ok (.aload_n 0, 1) := by decide +kernel
theorem dX11_order_120 : decode cX11_order 120 = .ok (.getfield 107, 3) := by decide +kernel
theorem dX11_order_123 : decode cX11_order 123 = .ok (.iload 7, 2) := by decide +kernel
theorem dX11_order_125 : decode cX11_order 125 = .ok (.iaload, 1) := by decide +kernel
theorem dX11_order_126 : decode cX11_order 126 = .ok (.iastore, 1) := by decide +kernel
theorem dX11_order_127 : decode cX11_order 127 = .ok (.iinc 7 1, 3) := by decide +kernel
theorem dX11_order_130 : decode cX11_order 130 = .ok (.goto (-23), 3) := by decide +kernel
theorem dX11_order_133 : decode cX11_order 133 = .ok (.aload_n 0, 1) := by decide +kernel
theorem dX11_order_134 : decode cX11_order 134 = .ok (.iload_n 3, 1) := by decide +kernel
theorem dX11_order_135 : decode cX11_order 135 = .ok (.invokevirtual 278, 3) := by decide +kernel
theorem dX11_order_138 : decode cX11_order 138 = .ok (.istore 5, 2) := by decide +kernel
theorem dX11_order_140 : decode cX11_order 140 = .ok (.goto (-60), 3) := by decide +kernel
theorem dX11_order_143 : decode cX11_order 143 = .ok (.iload_n 2, 1) := by decide +kernel
theorem dX11_order_144 : decode cX11_order 144 = .ok (.iconst (-1), 1) := by decide +kernel
theorem dX11_order_145 : decode cX11_order 145 = .ok (.if_icmp .ne 8, 3) := by decide +kernel
theorem dX11_order_148 : decode cX11_order 148 = .ok (.iload 4, 2) := by decide +kernel
theorem dX11_order_150 : decode cX11_order 150 = .ok (.goto 19, 3) := by decide +kernel
theorem dX11_order_153 : decode cX11_order 153 = .ok (.iload_n 2, 1) := by decide +kernel
theorem dX11_order_154 : decode cX11_order 154 = .ok (.iload_n 3, 1) := by decide +kernel
theorem dX11_order_155 : decode cX11_order 155 = .ok (.if_icmp .ge 12, 3) := by decide +kernel
theorem dX11_order_158 : decode cX11_order 158 = .ok (.aload_n 0, 1) := by decide +kernel
theorem dX11_order_159 : decode cX11_order 159 = .ok (.getfield 110, 3) := by decide +kernel
theorem dX11_order_162 : decode cX11_order 162 = .ok (.iload_n 2, 1) := by decide +kernel
theorem dX11_order_163 : decode cX11_order 163 = .ok (.iaload, 1) := by decide +kernel
theorem dX11_order_164 : decode cX11_order 164 = .ok (.goto 5, 3) := by decide +kernel
theorem dX11_order_167 : decode cX11_order 167 = .ok (.bipush (-9), 2) := by decide +kernel
theorem dX11_order_169 : decode cX11_order 169 = .ok (.ireturn, 1) := by decide +kernel
theorem dX11_limit_0 : decode cX11_limit 0 = .ok (.iload_n 1, 1) := by decide +kernel
theorem dX11_limit_1 : decode cX11_limit 1 = .ok (.iconst 0, 1) := by decide +kernel
theorem dX11_limit_2 : decode cX11_limit 2 = .ok (.bipush 99, 2) := by decide +kernel
theorem dX11_limit_4 : decode cX11_limit 4 = .ok (.invokestatic 124, 3) := by decide +kernel
theorem dX11_limit_7 : decode cX11_limit 7 = .ok (.ifCond .ne 6, 3) := by decide +kernel
theorem dX11_limit_10 : decode cX11_limit 10 = .ok (.bipush (-2), 2) := by decide +kernel
theorem dX11_limit_12 : decode cX11_limit 12 = .ok (.ireturn, 1) := by decide +kernel
theorem dX11_limit_13 : decode cX11_limit 13 = .ok (.aload_n 0, 1) := by decide +kernel
theorem dX11_limit_14 : decode cX11_limit 14 = .ok (.getfield 113, 3) := by decide +kernel
theorem dX11_limit_17 : decode cX11_limit 17 = .ok (.istore_n 2, 1) := by decide +kernel
theorem dX11_limit_18 : decode cX11_limit 18 = .ok (.aload_n 0, 1) := by decide +kernel
theorem dX11_limit_19 : decode cX11_limit 19 = .ok (.iload_n 1, 1) := by decide +kernel
theorem dX11_limit_20 : decode cX11_limit 20 = .ok (.putfield 113, 3) := by decide +kernel
theorem dX11_limit_23 : decode cX11_limit 23 = .ok (.iload_n 2, 1) := by decide +kernel
theorem dX11_limit_24 : decode cX11_limit 24 = .ok (.ireturn, 1) := by decide +kernel
theorem dX11_areSaid_0 : decode cX11_areSaid 0 = .ok (.aload_n 0, 1) := by decide +kernel
theorem dX11_areSaid_1 : decode cX11_areSaid 1 = .ok (.iload_n 2, 1) := by decide +kernel
theorem dX11_areSaid_2 : decode cX11_areSaid 2 = .ok (.iload_n 1, 1) := by decide +kernel
theorem dX11_areSaid_3 : decode cX11_areSaid 3 = .ok (.invokevirtual 186, 3) := by decide +kernel
theorem dX11_areSaid_6 : decode cX11_areSaid 6 = .ok (.bipush (-9), 2) := by decide +kernel
theorem dX11_areSaid_8 : decode cX11_areSaid 8 = .ok (.if_icmp .eq 18, 3) := by decide +kernel
theorem dX11_areSaid_11 : decode cX11_areSaid 11 = .ok (.aload_n 0, 1) := by decide +kernel
theorem dX11_areSaid_12 : decode cX11_areSaid 12 = .ok (.iload_n 3, 1) := by decide +kernel
theorem dX11_areSaid_13 : decode cX11_areSaid 13 = .ok (.iload_n 1, 1) := by decide +kernel
theorem dX11_areSaid_14 : decode cX11_areSaid 14 = .ok (.invokevirtual 186, 3) := by decide +kernel
theorem dX11_areSaid_17 : decode cX11_areSaid 17 = .ok (.bipush (-9), 2) := by decide +kernel
theorem dX11_areSaid_19 : decode cX11_areSaid 19 = .ok (.if_icmp .eq 7, 3) := by decide +kernel
theorem dX11_areSaid_22 : decode cX11_areSaid 22 = .ok (.iconst 1, 1) := by decide +kernel
theorem dX11_areSaid_23 : decode cX11_areSaid 23 = .ok (.goto 4, 3) := by decide +kernel
theorem dX11_areSaid_26 : decode cX11_areSaid 26 = .ok (.iconst 0, 1) := by decide +kernel
theorem dX11_areSaid_27 : decode cX11_areSaid 27 = .ok (.ireturn, 1) := by decide +kernel
theorem dX11_areLike_0 : decode cX11_areLike 0 = .ok (.aload_n 0, 1) := by decide +kernel
theorem dX11_areLike_1 : decode cX11_areLike 1 = .ok (.iload_n 1, 1) := by decide +kernel
theorem dX11_areLike_2 : decode cX11_areLike 2 = .ok (.iload_n 2, 1) := by decide +kernel
theorem dX11_areLike_3 : decode cX11_areLike 3 = .ok (.iload_n 3, 1) := by decide +kernel
theorem dX11_areLike_4 : decode cX11_areLike 4 = .ok (.invokevirtual 281, 3) := by decide +kernel
theorem dX11_areLike_7 : decode cX11_areLike 7 = .ok (.ifCond .eq 30, 3) := by decide +kernel
theorem dX11_areLike_10 : decode cX11_areLike 10 = .ok (.aload_n 0, 1) := by decide +kernel
theorem dX11_areLike_11 : decode cX11_areLike 11 = .ok (.aload_n 0, 1) := by decide +kernel
theorem dX11_areLike_12 : decode cX11_areLike 12 = .ok (.iload_n 2, 1) := by decide +kernel
theorem dX11_areLike_13 : decode cX11_areLike 13 = .ok (.iload_n 1, 1) := by decide +kernel
theorem dX11_areLike_14 : decode cX11_areLike 14 = .ok (.invokevirtual 186, 3) := by decide +kernel
theorem dX11_areLike_17 : decode cX11_areLike 17 = .ok (.aload_n 0, 1) := by decide +kernel
theorem dX11_areLike_18 : decode cX11_areLike 18 = .ok (.iload_n 3, 1) := by decide +kernel
theorem dX11_areLike_19 : decode cX11_areLike 19 = .ok (.iload_n 1, 1) := by decide +kernel
theorem dX11_areLike_20 : decode cX11_areLike 20 = .ok (.invokevirtual 186, 3) := by decide +kernel
theorem dX11_areLike_23 : decode cX11_areLike 23 = .ok (.invokevirtual 241, 3) := by decide +kernel
theorem dX11_areLike_26 : decode cX11_areLike 26 = .ok (.aload_n 0, 1) := by decide +kernel
theorem dX11_areLike_27 : decode cX11_areLike 27 = .ok (.getfield 113, 3) := by decide +kernel
theorem dX11_areLike_30 : decode cX11_areLike 30 = .ok (.if_icmp .gt 7, 3) := by decide +kernel
theorem dX11_areLike_33 : decode cX11_areLike 33 = .ok (.iconst 1, 1) := by decide +kernel
theorem dX11_areLike_34 : decode cX11_areLike 34 = .ok (.goto 4, 3) := by decide +kernel
theorem dX11_areLike_37 : decode cX11_areLike 37 = .ok (.iconst 0, 1) := by decide +kernel
theorem dX11_areLike_38 : decode cX11_areLike 38 = .ok (.ireturn, 1) := by decide +kernel
theorem dX11_join_0 : decode cX11_join 0 = .ok (.aload_n 0, 1) := by decide +kernel
theorem dX11_join_1 : decode cX11_join 1 = .ok (.getfield 116, 3) := by decide +kernel
theorem dX11_join_4 : decode cX11_join 4 = .ok (.iload_n 1, 1) := by decide +kernel
theorem dX11_join_5 : decode cX11_join 5 = .ok (.iaload, 1) := by decide +kernel
theorem dX11_join_6 : decode cX11_join 6 = .ok (.istore_n 3, 1) := by decide +kernel
theorem dX11_join_7 : decode cX11_join 7 = .ok (.aload_n 0, 1) := by decide +kernel
theorem dX11_join_8 : decode cX11_join 8 = .ok (.getfield 116, 3) := by decide +kernel
theorem dX11_join_11 : decode cX11_join 11 = .ok (.iload_n 2, 1) := by decide +kernel
theorem dX11_join_12 : decode cX11_join 12 = .ok (.iaload, 1) := by decide +kernel
theorem dX11_join_13 : decode cX11_join 13 = .ok (.istore 4, 2) := by decide +kernel
theorem dX11_join_15 : decode cX11_join 15 = .ok (.iload_n 3, 1) := by decide +kernel
theorem dX11_join_16 : decode cX11_join 16 = .ok (.iload 4, 2) := by decide +kernel
theorem dX11_join_18 : decode cX11_join 18 = .ok (.if_icmp .ge 7, 3) := by decide +kernel
theorem dX11_join_21 : decode cX11_join 21 = .ok (.iload_n 3, 1) := by decide +kernel
theorem dX11_join_22 : decode cX11_join 22 = .ok (.goto 5, 3) := by decide +kernel
theorem dX11_join_25 : decode cX11_join 25 = .ok (.iload 4, 2) := by decide +kernel
theorem dX11_join_27 : decode cX11_join 27 = .ok (.istore 5, 2) := by decide +kernel
theorem dX11_join_29 : decode cX11_join 29 = .ok (.iconst 0, 1) := by decide +kernel
theorem dX11_join_30 : decode cX11_join 30 = .ok (.istore 6, 2) := by decide +kernel
theorem dX11_join_32 : decode cX11_join 32 = .ok (.iload 6, 2) := by decide +kernel
theorem dX11_join_34 : decode cX11_join 34 = .ok (.aload_n 0, 1) := by decide +kernel
theorem dX11_join_35 : decode cX11_join 35 = .ok (.getfield 164, 3) := by decide +kernel
theorem dX11_join_38 : decode cX11_join 38 = .ok (.if_icmp .ge 51, 3) := by decide +kernel
theorem dX11_join_41 : decode cX11_join 41 = .ok (.aload_n 0, 1) := by decide +kernel
theorem dX11_join_42 : decode cX11_join 42 = .ok (.getfield 116, 3) := by decide +kernel
theorem dX11_join_45 : decode cX11_join 45 = .ok (.iload 6, 2) := by decide +kernel
theorem dX11_join_47 : decode cX11_join 47 = .ok (.aload_n 0, 1) := by decide +kernel
theorem dX11_join_48 : decode cX11_join 48 = .ok (.getfield 116, 3) := by decide +kernel
theorem dX11_join_51 : decode cX11_join 51 = .ok (.iload 6, 2) := by decide +kernel
theorem dX11_join_53 : decode cX11_join 53 = .ok (.iaload, 1) := by decide +kernel
theorem dX11_join_54 : decode cX11_join 54 = .ok (.iload_n 3, 1) := by decide +kernel
theorem dX11_join_55 : decode cX11_join 55 = .ok (.if_icmp .eq 15, 3) := by decide +kernel
theorem dX11_join_58 : decode cX11_join 58 = .ok (.aload_n 0, 1) := by decide +kernel
theorem dX11_join_59 : decode cX11_join 59 = .ok (.getfield 116, 3) := by decide +kernel
theorem dX11_join_62 : decode cX11_join 62 = .ok (.iload 6, 2) := by decide +kernel
theorem dX11_join_64 : decode cX11_join 64 = .ok (.iaload, 1) := by decide +kernel
theorem dX11_join_65 : decode cX11_join 65 = .ok (.iload 4, 2) := by decide +kernel
theorem dX11_join_67 : decode cX11_join 67 = .ok (.if_icmp .ne 8, 3) := by decide +kernel
theorem dX11_join_70 : decode cX11_join 70 = .ok (.iload 5, 2) := by decide +kernel
theorem dX11_join_72 : decode cX11_join 72 = .ok (.goto 10, 3) := by decide +kernel
theorem dX11_join_75 : decode cX11_join 75 = .ok (.aload_n 0, 1) := by decide +kernel
theorem dX11_join_76 : decode cX11_join 76 = .ok (.getfield 116, 3) := by decide +kernel
theorem dX11_join_79 : decode cX11_join 79 = .ok (.iload 6, 2) := by decide +kernel
theorem dX11_join_81 : decode cX11_join 81 = .ok (.iaload, 1) := by decide +kernel
theorem dX11_join_82 : decode cX11_join 82 = .ok (.iastore, 1) := by decide +kernel
theorem dX11_join_83 : decode cX11_join 83 = .ok (.iinc 6 1, 3) := by decide +kernel
theorem dX11_join_86 : decode cX11_join 86 = .ok (.goto (-54), 3) := by decide +kernel
theorem dX11_join_89 : decode cX11_join 89 = .ok (.return_, 1) := by decide +kernel
theorem dX11_joinedOf_0 : decode cX11_joinedOf 0 = .ok (.iload_n 1, 1) := by decide +kernel
theorem dX11_joinedOf_1 : decode cX11_joinedOf 1 = .ok (.ifCond .lt 10, 3) := by decide +kernel
theorem dX11_joinedOf_4 : decode cX11_joinedOf 4 = .ok (.aload_n 0, 1) := by decide +kernel
theorem dX11_joinedOf_5 : decode cX11_joinedOf 5 = .ok (.getfield 116, 3) := by decide +kernel
theorem dX11_joinedOf_8 : decode cX11_joinedOf 8 = .ok (.iload_n 1, 1) := by decide +kernel
theorem dX11_joinedOf_9 : decode cX11_joinedOf 9 = .ok (.iaload, 1) := by decide +kernel
theorem dX11_joinedOf_10 : decode cX11_joinedOf 10 = .ok (.ireturn, 1) := by decide +kernel
theorem dX11_joinedOf_11 : decode cX11_joinedOf 11 = .ok (.iconst 0, 1) := by decide +kernel
theorem dX11_joinedOf_12 : decode cX11_joinedOf 12 = .ok (.istore_n 2, 1) := by decide +kernel
theorem dX11_joinedOf_13 : decode cX11_joinedOf 13 = .ok (.iconst 0, 1) := by decide +kernel
theorem dX11_joinedOf_14 : decode cX11_joinedOf 14 = .ok (.istore_n 3, 1) := by decide +kernel
theorem dX11_joinedOf_15 : decode cX11_joinedOf 15 = .ok (.iload_n 3, 1) := by decide +kernel
theorem dX11_joinedOf_16 : decode cX11_joinedOf 16 = .ok (.aload_n 0, 1) := by decide +kernel
theorem dX11_joinedOf_17 : decode cX11_joinedOf 17 = .ok (.getfield 164, 3) := by decide +kernel
theorem dX11_joinedOf_20 : decode cX11_joinedOf 20 = .ok (.if_icmp .ge 27, 3) := by decide +kernel
theorem dX11_joinedOf_23 : decode cX11_joinedOf 23 = .ok (.iload_n 2, 1) := by decide +kernel
theorem dX11_joinedOf_24 : decode cX11_joinedOf 24 = .ok (.aload_n 0, 1) := by decide +kernel
theorem dX11_joinedOf_25 : decode cX11_joinedOf 25 = .ok (.getfield 116, 3) := by decide +kernel
theorem dX11_joinedOf_28 : decode cX11_joinedOf 28 = .ok (.iload_n 3, 1) := by decide +kernel
theorem dX11_joinedOf_29 : decode cX11_joinedOf 29 = .ok (.iaload, 1) := by decide +kernel
theorem dX11_joinedOf_30 : decode cX11_joinedOf 30 = .ok (.iload_n 3, 1) := by decide +kernel
theorem dX11_joinedOf_31 : decode cX11_joinedOf 31 = .ok (.if_icmp .ne 7, 3) := by decide +kernel
theorem dX11_joinedOf_34 : decode cX11_joinedOf 34 = .ok (.iconst 1, 1) := by decide +kernel
theorem dX11_joinedOf_35 : decode cX11_joinedOf 35 = .ok (.goto 4, 3) := by decide +kernel
theorem dX11_joinedOf_38 : decode cX11_joinedOf 38 = .ok (.iconst 0, 1) := by decide +kernel
theorem dX11_joinedOf_39 : decode cX11_joinedOf 39 = .ok (.iadd, 1) := by decide +kernel
theorem dX11_joinedOf_40 : decode cX11_joinedOf 40 = .ok (.istore_n 2, 1) := by decide +kernel
theorem dX11_joinedOf_41 : decode cX11_joinedOf 41 = .ok (.iinc 3 1, 3) := by decide +kernel
theorem dX11_joinedOf_44 : decode cX11_joinedOf 44 = .ok (.goto (-29), 3) := by decide +kernel
theorem dX11_joinedOf_47 : decode cX11_joinedOf 47 = .ok (.iload_n 2, 1) := by decide +kernel
theorem dX11_joinedOf_48 : decode cX11_joinedOf 48 = .ok (.ireturn, 1) := by decide +kernel
theorem dX11_group_0 : decode cX11_group 0 = .ok (.iload_n 1, 1) := by decide +kernel
theorem dX11_group_1 : decode cX11_group 1 = .ok (.invokestatic 173, 3) := by decide +kernel
theorem dX11_group_4 : decode cX11_group 4 = .ok (.ifCond .eq 16, 3) := by decide +kernel
theorem dX11_group_7 : decode cX11_group 7 = .ok (.iload_n 2, 1) := by decide +kernel
theorem dX11_group_8 : decode cX11_group 8 = .ok (.iconst (-1), 1) := by decide +kernel
theorem dX11_group_9 : decode cX11_group 9 = .ok (.if_icmp .eq 13, 3) := by decide +kernel
theorem dX11_group_12 : decode cX11_group 12 = .ok (.aload_n 0, 1) := by decide +kernel
theorem dX11_group_13 : decode cX11_group 13 = .ok (.iload_n 2, 1) := by decide +kernel
theorem dX11_group_14 : decode cX11_group 14 = .ok (.invokevirtual 167, 3) := by decide +kernel
theorem dX11_group_17 : decode cX11_group 17 = .ok (.ifCond .ne 5, 3) := by decide +kernel
theorem dX11_group_20 : decode cX11_group 20 = .ok (.iconst (-1), 1) := by decide +kernel
theorem dX11_group_21 : decode cX11_group 21 = .ok (.ireturn, 1) := by decide +kernel
theorem dX11_group_22 : decode cX11_group 22 = .ok (.iconst 0, 1) := by decide +kernel
theorem dX11_group_23 : decode cX11_group 23 = .ok (.istore_n 3, 1) := by decide +kernel
theorem dX11_group_24 : decode cX11_group 24 = .ok (.iload_n 3, 1) := by decide +kernel
theorem dX11_group_25 : decode cX11_group 25 = .ok (.aload_n 0, 1) := by decide +kernel
theorem dX11_group_26 : decode cX11_group 26 = .ok (.getfield 164, 3) := by decide +kernel
theorem dX11_group_29 : decode cX11_group 29 = .ok (.if_icmp .ge 32, 3) := by decide +kernel
theorem dX11_group_32 : decode cX11_group 32 = .ok (.aload_n 0, 1) := by decide +kernel
theorem dX11_group_33 : decode cX11_group 33 = .ok (.getfield 116, 3) := by decide +kernel
theorem dX11_group_36 : decode cX11_group 36 = .ok (.iload_n 3, 1) := by decide +kernel
theorem dX11_group_37 : decode cX11_group 37 = .ok (.aload_n 0, 1) := by decide +kernel
theorem dX11_group_38 : decode cX11_group 38 = .ok (.iload_n 3, 1) := by decide +kernel
theorem dX11_group_39 : decode cX11_group 39 = .ok (.iload_n 1, 1) := by decide +kernel
theorem dX11_group_40 : decode cX11_group 40 = .ok (.invokevirtual 186, 3) := by decide +kernel
theorem dX11_group_43 : decode cX11_group 43 = .ok (.bipush (-9), 2) := by decide +kernel
theorem dX11_group_45 : decode cX11_group 45 = .ok (.if_icmp .ne 8, 3) := by decide +kernel
theorem dX11_group_48 : decode cX11_group 48 = .ok (.bipush (-9), 2) := by decide +kernel
theorem dX11_group_50 : decode cX11_group 50 = .ok (.goto 4, 3) := by decide +kernel
theorem dX11_group_53 : decode cX11_group 53 = .ok (.iload_n 3, 1) := by decide +kernel
theorem dX11_group_54 : decode cX11_group 54 = .ok (.iastore, 1) := by decide +kernel
theorem dX11_group_55 : decode cX11_group 55 = .ok (.iinc 3 1, 3) := by decide +kernel
theorem dX11_group_58 : decode cX11_group 58 = .ok (.goto (-34), 3) := by decide +kernel
theorem dX11_group_61 : decode cX11_group 61 = .ok (.iconst 0, 1) := by decide +kernel
theorem dX11_group_62 : decode cX11_group 62 = .ok (.istore_n 3, 1) := by decide +kernel
theorem dX11_group_63 : decode cX11_group 63 = .ok (.iload_n 3, 1) := by decide +kernel
theorem dX11_group_64 : decode cX11_group 64 = .ok (.aload_n 0, 1) := by decide +kernel
theorem dX11_group_65 : decode cX11_group 65 = .ok (.getfield 164, 3) := by decide +kernel
theorem dX11_group_68 : decode cX11_group 68 = .ok (.if_icmp .ge 47, 3) := by decide +kernel
theorem dX11_group_71 : decode cX11_group 71 = .ok (.iload_n 3, 1) := by decide +kernel
theorem dX11_group_72 : decode cX11_group 72 = .ok (.iconst 1, 1) := by decide +kernel
theorem dX11_group_73 : decode cX11_group 73 = .ok (.iadd, 1) := by decide +kernel
theorem dX11_group_74 : decode cX11_group 74 = .ok (.istore 4, 2) := by decide +kernel
theorem dX11_group_76 : decode cX11_group 76 = .ok (.iload 4, 2) := by decide +kernel
theorem dX11_group_78 : decode cX11_group 78 = .ok (.aload_n 0, 1) := by decide +kernel
theorem dX11_group_79 : decode cX11_group 79 = .ok (.getfield 164, 3) := by decide +kernel
theorem dX11_group_82 : decode cX11_group 82 = .ok (.if_icmp .ge 27, 3) := by decide +kernel
theorem dX11_group_85 : decode cX11_group 85 = .ok (.aload_n 0, 1) := by decide +kernel
theorem dX11_group_86 : decode cX11_group 86 = .ok (.iload_n 1, 1) := by decide +kernel
theorem dX11_group_87 : decode cX11_group 87 = .ok (.iload_n 3, 1) := by decide +kernel
theorem dX11_group_88 : decode cX11_group 88 = .ok (.iload 4, 2) := by decide +kernel
theorem dX11_group_90 : decode cX11_group 90 = .ok (.invokevirtual 284, 3) := by decide +kernel
theorem dX11_group_93 : decode cX11_group 93 = .ok (.ifCond .eq 10, 3) := by decide +kernel
theorem dX11_group_96 : decode cX11_group 96 = .ok (.aload_n 0, 1) := by decide +kernel
theorem dX11_group_97 : decode cX11_group 97 = .ok (.iload_n 3, 1) := by decide +kernel
theorem dX11_group_98 : decode cX11_group 98 = .ok (.iload 4, 2) := by decide +kernel
theorem dX11_group_100 : decode cX11_group 100 = .ok (.invokevirtual 287, 3) := by decide +kernel
theorem dX11_group_103 : decode cX11_group 103 = .ok (.iinc 4 1, 3) := by decide +kernel
theorem dX11_group_106 : decode cX11_group 106 = .ok (.goto (-30), 3) := by decide +kernel
theorem dX11_group_109 : decode cX11_group 109 = .ok (.iinc 3 1, 3) := by decide +kernel
theorem dX11_group_112 : decode cX11_group 112 = .ok (.goto (-49), 3) := by decide +kernel
theorem dX11_group_115 : decode cX11_group 115 = .ok (.aload_n 0, 1) := by decide +kernel
theorem dX11_group_116 : decode cX11_group 116 = .ok (.iload_n 2, 1) := by decide +kernel
theorem dX11_group_117 : decode cX11_group 117 = .ok (.invokevirtual 290, 3) := by decide +kernel
theorem dX11_group_120 : decode cX11_group 120 = .ok (.ireturn, 1) := by decide +kernel
theorem dX11_border_0 : decode cX11_border 0 = .ok (.iload_n 1, 1) := by decide +kernel
theorem dX11_border_1 : decode cX11_border 1 = .ok (.invokestatic 173, 3) := by decide +kernel
theorem dX11_border_4 : decode cX11_border 4 = .ok (.ifCond .eq 13, 3) := by decide +kernel
theorem dX11_border_7 : decode cX11_border 7 = .ok (.iload_n 2, 1) := by decide +kernel
theorem dX11_border_8 : decode cX11_border 8 = .ok (.iconst (-1), 1) := by decide +kernel
theorem dX11_border_9 : decode cX11_border 9 = .ok (.bipush 27, 2) := by decide +kernel
theorem dX11_border_11 : decode cX11_border 11 = .ok (.invokestatic 124, 3) := by decide +kernel
theorem dX11_border_14 : decode cX11_border 14 = .ok (.ifCond .ne 5, 3) := by decide +kernel
theorem dX11_border_17 : decode cX11_border 17 = .ok (.iconst (-1), 1) := by decide +kernel
theorem dX11_border_18 : decode cX11_border 18 = .ok (.ireturn, 1) := by decide +kernel
theorem dX11_border_19 : decode cX11_border 19 = .ok (.iconst 0, 1) := by decide +kernel
theorem dX11_border_20 : decode cX11_border 20 = .ok (.istore_n 3, 1) := by decide +kernel
theorem dX11_border_21 : decode cX11_border 21 = .ok (.iconst 0, 1) := by decide +kernel
theorem dX11_border_22 : decode cX11_border 22 = .ok (.istore 4, 2) := by decide +kernel
theorem dX11_border_24 : decode cX11_border 24 = .ok (.iload 4, 2) := by decide +kernel
theorem dX11_border_26 : decode cX11_border 26 = .ok (.aload_n 0, 1) := by decide +kernel
theorem dX11_border_27 : decode cX11_border 27 = .ok (.getfield 164, 3) := by decide +kernel
theorem dX11_border_30 : decode cX11_border 30 = .ok (.if_icmp .ge 86, 3) := by decide +kernel
theorem dX11_border_33 : decode cX11_border 33 = .ok (.iload 4, 2) := by decide +kernel
theorem dX11_border_35 : decode cX11_border 35 = .ok (.iconst 1, 1) := by decide +kernel
theorem dX11_border_36 : decode cX11_border 36 = .ok (.iadd, 1) := by decide +kernel
theorem dX11_border_37 : decode cX11_border 37 = .ok (.istore 5, 2) := by decide +kernel
theorem dX11_border_39 : decode cX11_border 39 = .ok (.iload 5, 2) := by decide +kernel
theorem dX11_border_41 : decode cX11_border 41 = .ok (.aload_n 0, 1) := by decide +kernel
theorem dX11_border_42 : decode cX11_border 42 = .ok (.getfield 164, 3) := by decide +kernel
theorem dX11_border_45 : decode cX11_border 45 = .ok (.if_icmp .ge 65, 3) := by decide +kernel
theorem dX11_border_48 : decode cX11_border 48 = .ok (.aload_n 0, 1) := by decide +kernel
theorem dX11_border_49 : decode cX11_border 49 = .ok (.getfield 37, 3) := by decide +kernel
theorem dX11_border_52 : decode cX11_border 52 = .ok (.iload 4, 2) := by decide +kernel
theorem dX11_border_54 : decode cX11_border 54 = .ok (.iaload, 1) := by decide +kernel
theorem dX11_border_55 : decode cX11_border 55 = .ok (.iload 5, 2) := by decide +kernel
theorem dX11_border_57 : decode cX11_border 57 = .ok (.invokestatic 132, 3) := by decide +kernel
theorem dX11_border_60 : decode cX11_border 60 = .ok (.ifCond .eq 44, 3) := by decide +kernel
theorem dX11_border_63 : decode cX11_border 63 = .ok (.aload_n 0, 1) := by decide +kernel
theorem dX11_border_64 : decode cX11_border 64 = .ok (.iload_n 1, 1) := by decide +kernel
theorem dX11_border_65 : decode cX11_border 65 = .ok (.iload 4, 2) := by decide +kernel
theorem dX11_border_67 : decode cX11_border 67 = .ok (.iload 5, 2) := by decide +kernel
theorem dX11_border_69 : decode cX11_border 69 = .ok (.invokevirtual 281, 3) := by decide +kernel
theorem dX11_border_72 : decode cX11_border 72 = .ok (.ifCond .eq 32, 3) := by decide +kernel
theorem dX11_border_75 : decode cX11_border 75 = .ok (.aload_n 0, 1) := by decide +kernel
theorem dX11_border_76 : decode cX11_border 76 = .ok (.iload_n 1, 1) := by decide +kernel
theorem dX11_border_77 : decode cX11_border 77 = .ok (.iload 4, 2) := by decide +kernel
theorem dX11_border_79 : decode cX11_border 79 = .ok (.iload 5, 2) := by decide +kernel
theorem dX11_border_81 : decode cX11_border 81 = .ok (.invokevirtual 284, 3) := by decide +kernel
theorem dX11_border_84 : decode cX11_border 84 = .ok (.ifCond .ne 20, 3) := by decide +kernel
theorem dX11_border_87 : decode cX11_border 87 = .ok (.iload_n 3, 1) := by decide +kernel
theorem dX11_border_88 : decode cX11_border 88 = .ok (.iload_n 2, 1) := by decide +kernel
theorem dX11_border_89 : decode cX11_border 89 = .ok (.if_icmp .ne 12, 3) := by decide +kernel
theorem dX11_border_92 : decode cX11_border 92 = .ok (.bipush 10, 2) := by decide +kernel
theorem dX11_border_94 : decode cX11_border 94 = .ok (.iload 4, 2) := by decide +kernel
theorem dX11_border_96 : decode cX11_border 96 = .ok (.imul, 1) := by decide +kernel
theorem dX11_border_97 : decode cX11_border 97 = .ok (.iload 5, 2) := by decide +kernel
theorem dX11_border_99 : decode cX11_border 99 = .ok (.iadd, 1) := by decide +kernel
theorem dX11_border_100 : decode cX11_border 100 = .ok (.ireturn, 1) := by decide +kernel
theorem dX11_border_101 : decode cX11_border 101 = .ok (.iinc 3 1, 3) := by decide +kernel
theorem dX11_border_104 : decode cX11_border 104 = .ok (.iinc 5 1, 3) := by decide +kernel
theorem dX11_border_107 : decode cX11_border 107 = .ok (.goto (-68), 3) := by decide +kernel
theorem dX11_border_110 : decode cX11_border 110 = .ok (.iinc 4 1, 3) := by decide +kernel
theorem dX11_border_113 : decode cX11_border 113 = .ok (.goto (-89), 3) := by decide +kernel
theorem dX11_border_116 : decode cX11_border 116 = .ok (.iload_n 2, 1) := by decide +kernel
theorem dX11_border_117 : decode cX11_border 117 = .ok (.iconst (-1), 1) := by decide +kernel
theorem dX11_border_118 : decode cX11_border 118 = .ok (.if_icmp .ne 7, 3) := by decide +kernel
theorem dX11_border_121 : decode cX11_border 121 = .ok (.iload_n 3, 1) := by decide +kernel
theorem dX11_border_122 : decode cX11_border 122 = .ok (.goto 5, 3) := by decide +kernel
theorem dX11_border_125 : decode cX11_border 125 = .ok (.bipush (-9), 2) := by decide +kernel
theorem dX11_border_127 : decode cX11_border 127 = .ok (.ireturn, 1) := by decide +kernel
theorem dX11_bundle_0 : decode cX11_bundle 0 = .ok (.aload_n 0, 1) := by decide +kernel
theorem dX11_bundle_1 : decode cX11_bundle 1 = .ok (.iload_n 1, 1) := by decide +kernel
theorem dX11_bundle_2 : decode cX11_bundle 2 = .ok (.invokevirtual 167, 3) := by decide +kernel
theorem dX11_bundle_5 : decode cX11_bundle 5 = .ok (.ifCond .eq 11, 3) := by decide +kernel
theorem dX11_bundle_8 : decode cX11_bundle 8 = .ok (.aload_n 0, 1) := by decide +kernel
theorem dX11_bundle_9 : decode cX11_bundle 9 = .ok (.iload_n 2, 1) := by decide +kernel
theorem dX11_bundle_10 : decode cX11_bundle 10 = .ok (.invokevirtual 167, 3) := by decide +kernel
theorem dX11_bundle_13 : decode cX11_bundle 13 = .ok (.ifCond .ne 5, 3) := by decide +kernel
theorem dX11_bundle_16 : decode cX11_bundle 16 = .ok (.iconst (-1), 1) := by decide +kernel
theorem dX11_bundle_17 : decode cX11_bundle 17 = .ok (.ireturn, 1) := by decide +kernel
theorem dX11_bundle_18 : decode cX11_bundle 18 = .ok (.iload_n 1, 1) := by decide +kernel
theorem dX11_bundle_19 : decode cX11_bundle 19 = .ok (.iload_n 2, 1) := by decide +kernel
theorem dX11_bundle_20 : decode cX11_bundle 20 = .ok (.if_icmp .ne 6, 3) := by decide +kernel
theorem dX11_bundle_23 : decode cX11_bundle 23 = .ok (.bipush (-2), 2) := by decide +kernel
theorem dX11_bundle_25 : decode cX11_bundle 25 = .ok (.ireturn, 1) := by decide +kernel
theorem dX11_bundle_26 : decode cX11_bundle 26 = .ok (.iconst 0, 1) := by decide +kernel
theorem dX11_bundle_27 : decode cX11_bundle 27 = .ok (.istore_n 3, 1) := by decide +kernel
theorem dX11_bundle_28 : decode cX11_bundle 28 = .ok (.iconst 0, 1) := by decide +kernel
theorem dX11_bundle_29 : decode cX11_bundle 29 = .ok (.istore 4, 2) := by decide +kernel
theorem dX11_bundle_31 : decode cX11_bundle 31 = .ok (.iload 4, 2) := by decide +kernel
theorem dX11_bundle_33 : decode cX11_bundle 33 = .ok (.bipush 6, 2) := by decide +kernel
theorem dX11_bundle_35 : decode cX11_bundle 35 = .ok (.if_icmp .ge 39, 3) := by decide +kernel
theorem dX11_bundle_38 : decode cX11_bundle 38 = .ok (.iload_n 3, 1) := by decide +kernel
theorem dX11_bundle_39 : decode cX11_bundle 39 = .ok (.aload_n 0, 1) := by decide +kernel
theorem dX11_bundle_40 : decode cX11_bundle 40 = .ok (.iload 4, 2) := by decide +kernel
theorem dX11_bundle_42 : decode cX11_bundle 42 = .ok (.iload_n 1, 1) := by decide +kernel
theorem dX11_bundle_43 : decode cX11_bundle 43 = .ok (.iload_n 2, 1) := by decide +kernel
theorem dX11_bundle_44 : decode cX11_bundle 44 = .ok (.invokevirtual 281, 3) := by decide +kernel
theorem dX11_bundle_47 : decode cX11_bundle 47 = .ok (.ifCond .eq 18, 3) := by decide +kernel
theorem dX11_bundle_50 : decode cX11_bundle 50 = .ok (.aload_n 0, 1) := by decide +kernel
theorem dX11_bundle_51 : decode cX11_bundle 51 = .ok (.iload 4, 2) := by decide +kernel
theorem dX11_bundle_53 : decode cX11_bundle 53 = .ok (.iload_n 1, 1) := by decide +kernel
theorem dX11_bundle_54 : decode cX11_bundle 54 = .ok (.iload_n 2, 1) := by decide +kernel
theorem dX11_bundle_55 : decode cX11_bundle 55 = .ok (.invokevirtual 284, 3) := by decide +kernel
theorem dX11_bundle_58 : decode cX11_bundle 58 = .ok (.ifCond .ne 7, 3) := by decide +kernel
theorem dX11_bundle_61 : decode cX11_bundle 61 = .ok (.iconst 1, 1) := by decide +kernel
theorem dX11_bundle_62 : decode cX11_bundle 62 = .ok (.goto 4, 3) := by decide +kernel
theorem dX11_bundle_65 : decode cX11_bundle 65 = .ok (.iconst 0, 1) := by decide +kernel
theorem dX11_bundle_66 : decode cX11_bundle 66 = .ok (.iadd, 1) := by decide +kernel
theorem dX11_bundle_67 : decode cX11_bundle 67 = .ok (.istore_n 3, 1) := by decide +kernel
theorem dX11_bundle_68 : decode cX11_bundle 68 = .ok (.iinc 4 1, 3) := by decide +kernel
theorem dX11_bundle_71 : decode cX11_bundle 71 = .ok (.goto (-40), 3) := by decide +kernel
theorem dX11_bundle_74 : decode cX11_bundle 74 = .ok (.iload_n 3, 1) := by decide +kernel
theorem dX11_bundle_75 : decode cX11_bundle 75 = .ok (.ireturn, 1) := by decide +kernel
theorem dX11_area_0 : decode cX11_area 0 = .ok (.aload_n 0, 1) := by decide +kernel
theorem dX11_area_1 : decode cX11_area 1 = .ok (.iload_n 1, 1) := by decide +kernel
theorem dX11_area_2 : decode cX11_area 2 = .ok (.invokevirtual 212, 3) := by decide +kernel
theorem dX11_area_5 : decode cX11_area 5 = .ok (.ifCond .eq 16, 3) := by decide +kernel
theorem dX11_area_8 : decode cX11_area 8 = .ok (.iload_n 2, 1) := by decide +kernel
theorem dX11_area_9 : decode cX11_area 9 = .ok (.iconst (-1), 1) := by decide +kernel
theorem dX11_area_10 : decode cX11_area 10 = .ok (.if_icmp .eq 13, 3) := by decide +kernel
theorem dX11_area_13 : decode cX11_area 13 = .ok (.aload_n 0, 1) := by decide +kernel
theorem dX11_area_14 : decode cX11_area 14 = .ok (.iload_n 2, 1) := by decide +kernel
theorem dX11_area_15 : decode cX11_area 15 = .ok (.invokevirtual 167, 3) := by decide +kernel
theorem dX11_area_18 : decode cX11_area 18 = .ok (.ifCond .ne 5, 3) := by decide +kernel
theorem dX11_area_21 : decode cX11_area 21 = .ok (.iconst (-1), 1) := by decide +kernel
theorem dX11_area_22 : decode cX11_area 22 = .ok (.ireturn, 1) := by decide +kernel
theorem dX11_area_23 : decode cX11_area 23 = .ok (.iconst 0, 1) := by decide +kernel
theorem dX11_area_24 : decode cX11_area 24 = .ok (.istore_n 3, 1) := by decide +kernel
theorem dX11_area_25 : decode cX11_area 25 = .ok (.iload_n 3, 1) := by decide +kernel
theorem dX11_area_26 : decode cX11_area 26 = .ok (.aload_n 0, 1) := by decide +kernel
theorem dX11_area_27 : decode cX11_area 27 = .ok (.getfield 164, 3) := by decide +kernel
theorem dX11_area_30 : decode cX11_area 30 = .ok (.if_icmp .ge 34, 3) := by decide +kernel
theorem dX11_area_33 : decode cX11_area 33 = .ok (.aload_n 0, 1) := by decide +kernel
theorem dX11_area_34 : decode cX11_area 34 = .ok (.getfield 116, 3) := by decide +kernel
theorem dX11_area_37 : decode cX11_area 37 = .ok (.iload_n 3, 1) := by decide +kernel
theorem dX11_area_38 : decode cX11_area 38 = .ok (.aload_n 0, 1) := by decide +kernel
theorem dX11_area_39 : decode cX11_area 39 = .ok (.getfield 64, 3) := by decide +kernel
theorem dX11_area_42 : decode cX11_area 42 = .ok (.iload_n 1, 1) := by decide +kernel
theorem dX11_area_43 : decode cX11_area 43 = .ok (.iaload, 1) := by decide +kernel
theorem dX11_area_44 : decode cX11_area 44 = .ok (.iload_n 3, 1) := by decide +kernel
theorem dX11_area_45 : decode cX11_area 45 = .ok (.invokestatic 132, 3) := by decide +kernel
theorem dX11_area_48 : decode cX11_area 48 = .ok (.ifCond .eq 7, 3) := by decide +kernel
theorem dX11_area_51 : decode cX11_area 51 = .ok (.iload_n 3, 1) := by decide +kernel
theorem dX11_area_52 : decode cX11_area 52 = .ok (.goto 5, 3) := by decide +kernel
theorem dX11_area_55 : decode cX11_area 55 = .ok (.bipush (-9), 2) := by decide +kernel
theorem dX11_area_57 : decode cX11_area 57 = .ok (.iastore, 1) := by decide +kernel
theorem dX11_area_58 : decode cX11_area 58 = .ok (.iinc 3 1, 3) := by decide +kernel
theorem dX11_area_61 : decode cX11_area 61 = .ok (.goto (-36), 3) := by decide +kernel
theorem dX11_area_64 : decode cX11_area 64 = .ok (.iconst 0, 1) := by decide +kernel
theorem dX11_area_65 : decode cX11_area 65 = .ok (.istore_n 3, 1) := by decide +kernel
theorem dX11_area_66 : decode cX11_area 66 = .ok (.iload_n 3, 1) := by decide +kernel
theorem dX11_area_67 : decode cX11_area 67 = .ok (.aload_n 0, 1) := by decide +kernel
theorem dX11_area_68 : decode cX11_area 68 = .ok (.getfield 164, 3) := by decide +kernel
theorem dX11_area_71 : decode cX11_area 71 = .ok (.if_icmp .ge 73, 3) := by decide +kernel
theorem dX11_area_74 : decode cX11_area 74 = .ok (.iload_n 3, 1) := by decide +kernel
theorem dX11_area_75 : decode cX11_area 75 = .ok (.iconst 1, 1) := by decide +kernel
theorem dX11_area_76 : decode cX11_area 76 = .ok (.iadd, 1) := by decide +kernel
theorem dX11_area_77 : decode cX11_area 77 = .ok (.istore 4, 2) := by decide +kernel
theorem dX11_area_79 : decode cX11_area 79 = .ok (.iload 4, 2) := by decide +kernel
theorem dX11_area_81 : decode cX11_area 81 = .ok (.aload_n 0, 1) := by decide +kernel
theorem dX11_area_82 : decode cX11_area 82 = .ok (.getfield 164, 3) := by decide +kernel
theorem dX11_area_85 : decode cX11_area 85 = .ok (.if_icmp .ge 53, 3) := by decide +kernel
theorem dX11_area_88 : decode cX11_area 88 = .ok (.aload_n 0, 1) := by decide +kernel
theorem dX11_area_89 : decode cX11_area 89 = .ok (.getfield 37, 3) := by decide +kernel
theorem dX11_area_92 : decode cX11_area 92 = .ok (.iload_n 3, 1) := by decide +kernel
theorem dX11_area_93 : decode cX11_area 93 = .ok (.iaload, 1) := by decide +kernel
theorem dX11_area_94 : decode cX11_area 94 = .ok (.iload 4, 2) := by decide +kernel
theorem dX11_area_96 : decode cX11_area 96 = .ok (.invokestatic 132, 3) := by decide +kernel
theorem dX11_area_99 : decode cX11_area 99 = .ok (.ifCond .eq 33, 3) := by decide +kernel
theorem dX11_area_102 : decode cX11_area 102 = .ok (.aload_n 0, 1) := by decide +kernel
theorem dX11_area_103 : decode cX11_area 103 = .ok (.getfield 116, 3) := by decide +kernel
theorem dX11_area_106 : decode cX11_area 106 = .ok (.iload_n 3, 1) := by decide +kernel
theorem dX11_area_107 : decode cX11_area 107 = .ok (.iaload, 1) := by decide +kernel
theorem dX11_area_108 : decode cX11_area 108 = .ok (.bipush (-9), 2) := by decide +kernel
theorem dX11_area_110 : decode cX11_area 110 = .ok (.if_icmp .eq 22, 3) := by decide +kernel
theorem dX11_area_113 : decode cX11_area 113 = .ok (.aload_n 0, 1) := by decide +kernel
theorem dX11_area_114 : decode cX11_area 114 = .ok (.getfield 116, 3) := by decide +kernel
theorem dX11_area_117 : decode cX11_area 117 = .ok (.iload 4, 2) := by decide +kernel
theorem dX11_area_119 : decode cX11_area 119 = .ok (.iaload, 1) := by decide +kernel
theorem dX11_area_120 : decode cX11_area 120 = .ok (.bipush (-9), 2) := by decide +kernel
theorem dX11_area_122 : decode cX11_area 122 = .ok (.if_icmp .eq 10, 3) := by decide +kernel
theorem dX11_area_125 : decode cX11_area 125 = .ok (.aload_n 0, 1) := by decide +kernel
theorem dX11_area_126 : decode cX11_area 126 = .ok (.iload_n 3, 1) := by decide +kernel
theorem dX11_area_127 : decode cX11_area 127 = .ok (.iload 4, 2) := by decide +kernel
theorem dX11_area_129 : decode cX11_area 129 = .ok (.invokevirtual 287, 3) := by decide +kernel
theorem dX11_area_132 : decode cX11_area 132 = .ok (.iinc 4 1, 3) := by decide +kernel
theorem dX11_area_135 : decode cX11_area 135 = .ok (.goto (-56), 3) := by decide +kernel
theorem dX11_area_138 : decode cX11_area 138 = .ok (.iinc 3 1, 3) := by decide +kernel
theorem dX11_area_141 : decode cX11_area 141 = .ok (.goto (-75), 3) := by decide +kernel
theorem dX11_area_144 : decode cX11_area 144 = .ok (.aload_n 0, 1) := by decide +kernel
theorem dX11_area_145 : decode cX11_area 145 = .ok (.iload_n 2, 1) := by decide +kernel
theorem dX11_area_146 : decode cX11_area 146 = .ok (.invokevirtual 290, 3) := by decide +kernel
theorem dX11_area_149 : decode cX11_area 149 = .ok (.ireturn, 1) := by decide +kernel
theorem dX11_sheet_0 : decode cX11_sheet 0 = .ok (.aload_n 0, 1) := by decide +kernel
theorem dX11_sheet_1 : decode cX11_sheet 1 = .ok (.iconst 0, 1) := by decide +kernel
theorem dX11_sheet_2 : decode cX11_sheet 2 = .ok (.putfield 119, 3) := by decide +kernel
theorem dX11_sheet_5 : decode cX11_sheet 5 = .ok (.iload_n 1, 1) := by decide +kernel
theorem dX11_sheet_6 : decode cX11_sheet 6 = .ok (.invokestatic 143, 3) := by decide +kernel
theorem dX11_sheet_9 : decode cX11_sheet 9 = .ok (.ifCond .ne 5, 3) := by decide +kernel
theorem dX11_sheet_12 : decode cX11_sheet 12 = .ok (.iconst (-1), 1) := by decide +kernel
theorem dX11_sheet_13 : decode cX11_sheet 13 = .ok (.ireturn, 1) := by decide +kernel
theorem dX11_sheet_14 : decode cX11_sheet 14 = .ok (.iload_n 2, 1) := by decide +kernel
theorem dX11_sheet_15 : decode cX11_sheet 15 = .ok (.invokestatic 146, 3) := by decide +kernel
theorem dX11_sheet_18 : decode cX11_sheet 18 = .ok (.ifCond .eq 9, 3) := by decide +kernel
theorem dX11_sheet_21 : decode cX11_sheet 21 = .ok (.iload_n 3, 1) := by decide +kernel
theorem dX11_sheet_22 : decode cX11_sheet 22 = .ok (.bipush 60, 2) := by decide +kernel
theorem dX11_sheet_24 : decode cX11_sheet 24 = .ok (.if_icmp .le 6, 3) := by decide +kernel
theorem dX11_sheet_27 : decode cX11_sheet 27 = .ok (.bipush (-2), 2) := by decide +kernel
theorem dX11_sheet_29 : decode cX11_sheet 29 = .ok (.ireturn, 1) := by decide +kernel
theorem dX11_sheet_30 : decode cX11_sheet 30 = .ok (.iload_n 3, 1) := by decide +kernel
theorem dX11_sheet_31 : decode cX11_sheet 31 = .ok (.ifCond .ge 9, 3) := by decide +kernel
theorem dX11_sheet_34 : decode cX11_sheet 34 = .ok (.aload_n 0, 1) := by decide +kernel
theorem dX11_sheet_35 : decode cX11_sheet 35 = .ok (.iconst 4, 1) := by decide +kernel
theorem dX11_sheet_36 : decode cX11_sheet 36 = .ok (.invokevirtual 153, 3) := by decide +kernel
theorem dX11_sheet_39 : decode cX11_sheet 39 = .ok (.ireturn, 1) := by decide +kernel
theorem dX11_sheet_40 : decode cX11_sheet 40 = .ok (.aload_n 0, 1) := by decide +kernel
theorem dX11_sheet_41 : decode cX11_sheet 41 = .ok (.getfield 9, 3) := by decide +kernel
theorem dX11_sheet_44 : decode cX11_sheet 44 = .ok (.iload_n 1, 1) := by decide +kernel
theorem dX11_sheet_45 : decode cX11_sheet 45 = .ok (.iload_n 2, 1) := by decide +kernel
theorem dX11_sheet_46 : decode cX11_sheet 46 = .ok (.iastore, 1) := by decide +kernel
theorem dX11_sheet_47 : decode cX11_sheet 47 = .ok (.aload_n 0, 1) := by decide +kernel
theorem dX11_sheet_48 : decode cX11_sheet 48 = .ok (.getfield 13, 3) := by decide +kernel
theorem dX11_sheet_51 : decode cX11_sheet 51 = .ok (.iload_n 1, 1) := by decide +kernel
theorem dX11_sheet_52 : decode cX11_sheet 52 = .ok (.iload_n 3, 1) := by decide +kernel
theorem dX11_sheet_53 : decode cX11_sheet 53 = .ok (.iastore, 1) := by decide +kernel
theorem dX11_sheet_54 : decode cX11_sheet 54 = .ok (.iconst 0, 1) := by decide +kernel
theorem dX11_sheet_55 : decode cX11_sheet 55 = .ok (.istore 4, 2) := by decide +kernel
theorem dX11_sheet_57 : decode cX11_sheet 57 = .ok (.iload 4, 2) := by decide +kernel
theorem dX11_sheet_59 : decode cX11_sheet 59 = .ok (.bipush 60, 2) := by decide +kernel
theorem dX11_sheet_61 : decode cX11_sheet 61 = .ok (.if_icmp .ge 22, 3) := by decide +kernel
theorem dX11_sheet_64 : decode cX11_sheet 64 = .ok (.aload_n 0, 1) := by decide +kernel
theorem dX11_sheet_65 : decode cX11_sheet 65 = .ok (.getfield 16, 3) := by decide +kernel
theorem dX11_sheet_68 : decode cX11_sheet 68 = .ok (.bipush 60, 2) := by decide +kernel
theorem dX11_sheet_70 : decode cX11_sheet 70 = .ok (.iload_n 1, 1) := by decide +kernel
theorem dX11_sheet_71 : decode cX11_sheet 71 = .ok (.imul, 1) := by decide +kernel
theorem dX11_sheet_72 : decode cX11_sheet 72 = .ok (.iload 4, 2) := by decide +kernel
theorem dX11_sheet_74 : decode cX11_sheet 74 = .ok (.iadd, 1) := by decide +kernel
theorem dX11_sheet_75 : decode cX11_sheet 75 = .ok (.iconst 0, 1) := by decide +kernel
theorem dX11_sheet_76 : decode cX11_sheet 76 = .ok (.iastore, 1) := by decide +kernel
theorem dX11_sheet_77 : decode cX11_sheet 77 = .ok (.iinc 4 1, 3) := by decide +kernel
theorem dX11_sheet_80 : decode cX11_sheet 80 = .ok (.goto (-23), 3) := by decide +kernel
theorem dX11_sheet_83 : decode cX11_sheet 83 = .ok (.iconst 1, 1) := by decide +kernel
theorem dX11_sheet_84 : decode cX11_sheet 84 = .ok (.ireturn, 1) := by decide +kernel
theorem dX11_lose_0 : decode cX11_lose 0 = .ok (.iload_n 1, 1) := by decide +kernel
theorem dX11_lose_1 : decode cX11_lose 1 = .ok (.invokestatic 143, 3) := by decide +kernel
theorem dX11_lose_4 : decode cX11_lose 4 = .ok (.ifCond .ne 5, 3) := by decide +kernel
theorem dX11_lose_7 : decode cX11_lose 7 = .ok (.iconst (-1), 1) := by decide +kernel
theorem dX11_lose_8 : decode cX11_lose 8 = .ok (.ireturn, 1) := by decide +kernel
theorem dX11_lose_9 : decode cX11_lose 9 = .ok (.aload_n 0, 1) := by decide +kernel
theorem dX11_lose_10 : decode cX11_lose 10 = .ok (.getfield 9, 3) := by decide +kernel
theorem dX11_lose_13 : decode cX11_lose 13 = .ok (.iload_n 1, 1) := by decide +kernel
theorem dX11_lose_14 : decode cX11_lose 14 = .ok (.iaload, 1) := by decide +kernel
theorem dX11_lose_15 : decode cX11_lose 15 = .ok (.bipush (-9), 2) := by decide +kernel
theorem dX11_lose_17 : decode cX11_lose 17 = .ok (.if_icmp .ne 7, 3) := by decide +kernel
theorem dX11_lose_20 : decode cX11_lose 20 = .ok (.iconst 0, 1) := by decide +kernel
theorem dX11_lose_21 : decode cX11_lose 21 = .ok (.goto 4, 3) := by decide +kernel
theorem dX11_lose_24 : decode cX11_lose 24 = .ok (.iconst 1, 1) := by decide +kernel
theorem dX11_lose_25 : decode cX11_lose 25 = .ok (.istore_n 2, 1) := by decide +kernel
theorem dX11_lose_26 : decode cX11_lose 26 = .ok (.aload_n 0, 1) := by decide +kernel
theorem dX11_lose_27 : decode cX11_lose 27 = .ok (.getfield 9, 3) := by decide +kernel
theorem dX11_lose_30 : decode cX11_lose 30 = .ok (.iload_n 1, 1) := by decide +kernel
theorem dX11_lose_31 : decode cX11_lose 31 = .ok (.bipush (-9), 2) := by decide +kernel
theorem dX11_lose_33 : decode cX11_lose 33 = .ok (.iastore, 1) := by decide +kernel
theorem dX11_lose_34 : decode cX11_lose 34 = .ok (.iload_n 2, 1) := by decide +kernel
theorem dX11_lose_35 : decode cX11_lose 35 = .ok (.ireturn, 1) := by decide +kernel
theorem dX11_put_0 : decode cX11_put 0 = .ok (.aload_n 0, 1) := by decide +kernel
theorem dX11_put_1 : decode cX11_put 1 = .ok (.iconst 0, 1) := by decide +kernel
theorem dX11_put_2 : decode cX11_put 2 = .ok (.putfield 119, 3) := by decide +kernel
theorem dX11_put_5 : decode cX11_put 5 = .ok (.iload_n 1, 1) := by decide +kernel
theorem dX11_put_6 : decode cX11_put 6 = .ok (.invokestatic 143, 3) := by decide +kernel
theorem dX11_put_9 : decode cX11_put 9 = .ok (.ifCond .ne 5, 3) := by decide +kernel
theorem dX11_put_12 : decode cX11_put 12 = .ok (.iconst (-1), 1) := by decide +kernel
theorem dX11_put_13 : decode cX11_put 13 = .ok (.ireturn, 1) := by decide +kernel
theorem dX11_put_14 : decode cX11_put 14 = .ok (.aload_n 0, 1) := by decide +kernel
theorem dX11_put_15 : decode cX11_put 15 = .ok (.getfield 9, 3) := by decide +kernel
theorem dX11_put_18 : decode cX11_put 18 = .ok (.iload_n 1, 1) := by decide +kernel
theorem dX11_put_19 : decode cX11_put 19 = .ok (.iaload, 1) := by decide +kernel
theorem dX11_put_20 : decode cX11_put 20 = .ok (.bipush (-9), 2) := by decide +kernel
theorem dX11_put_22 : decode cX11_put 22 = .ok (.if_icmp .ne 9, 3) := by decide +kernel
theorem dX11_put_25 : decode cX11_put 25 = .ok (.aload_n 0, 1) := by decide +kernel
theorem dX11_put_26 : decode cX11_put 26 = .ok (.iconst 1, 1) := by decide +kernel
theorem dX11_put_27 : decode cX11_put 27 = .ok (.invokevirtual 153, 3) := by decide +kernel
theorem dX11_put_30 : decode cX11_put 30 = .ok (.ireturn, 1) := by decide +kernel
theorem dX11_put_31 : decode cX11_put 31 = .ok (.iload_n 2, 1) := by decide +kernel
theorem dX11_put_32 : decode cX11_put 32 = .ok (.iconst 0, 1) := by decide +kernel
theorem dX11_put_33 : decode cX11_put 33 = .ok (.aload_n 0, 1) := by decide +kernel
theorem dX11_put_34 : decode cX11_put 34 = .ok (.getfield 13, 3) := by decide +kernel
theorem dX11_put_37 : decode cX11_put 37 = .ok (.iload_n 1, 1) := by decide +kernel
theorem dX11_put_38 : decode cX11_put 38 = .ok (.iaload, 1) := by decide +kernel
theorem dX11_put_39 : decode cX11_put 39 = .ok (.iconst 1, 1) := by decide +kernel
theorem dX11_put_40 : decode cX11_put 40 = .ok (.isub, 1) := by decide +kernel
theorem dX11_put_41 : decode cX11_put 41 = .ok (.invokestatic 124, 3) := by decide +kernel
theorem dX11_put_44 : decode cX11_put 44 = .ok (.ifCond .ne 9, 3) := by decide +kernel
theorem dX11_put_47 : decode cX11_put 47 = .ok (.aload_n 0, 1) := by decide +kernel
theorem dX11_put_48 : decode cX11_put 48 = .ok (.iconst 3, 1) := by decide +kernel
theorem dX11_put_49 : decode cX11_put 49 = .ok (.invokevirtual 153, 3) := by decide +kernel
theorem dX11_put_52 : decode cX11_put 52 = .ok (.ireturn, 1) := by decide +kernel
theorem dX11_put_53 : decode cX11_put 53 = .ok (.aload_n 0, 1) := by decide +kernel
theorem dX11_put_54 : decode cX11_put 54 = .ok (.getfield 16, 3) := by decide +kernel
theorem dX11_put_57 : decode cX11_put 57 = .ok (.bipush 60, 2) := by decide +kernel
theorem dX11_put_59 : decode cX11_put 59 = .ok (.iload_n 1, 1) := by decide +kernel
theorem dX11_put_60 : decode cX11_put 60 = .ok (.imul, 1) := by decide +kernel
theorem dX11_put_61 : decode cX11_put 61 = .ok (.iload_n 2, 1) := by decide +kernel
theorem dX11_put_62 : decode cX11_put 62 = .ok (.iadd, 1) := by decide +kernel
theorem dX11_put_63 : decode cX11_put 63 = .ok (.aload_n 0, 1) := by decide +kernel
theorem dX11_put_64 : decode cX11_put 64 = .ok (.getfield 9, 3) := by decide +kernel
theorem dX11_put_67 : decode cX11_put 67 = .ok (.iload_n 1, 1) := by decide +kernel
theorem dX11_put_68 : decode cX11_put 68 = .ok (.iaload, 1) := by decide +kernel
theorem dX11_put_69 : decode cX11_put 69 = .ok (.ifCond .ne 8, 3) := by decide +kernel
theorem dX11_put_72 : decode cX11_put 72 = .ok (.iload_n 3, 1) := by decide +kernel
theorem dX11_put_73 : decode cX11_put 73 = .ok (.i2b, 1) := by decide +kernel
theorem dX11_put_74 : decode cX11_put 74 = .ok (.goto 19, 3) := by decide +kernel
theorem dX11_put_77 : decode cX11_put 77 = .ok (.aload_n 0, 1) := by decide +kernel
theorem dX11_put_78 : decode cX11_put 78 = .ok (.getfield 9, 3) := by decide +kernel
theorem dX11_put_81 : decode cX11_put 81 = .ok (.iload_n 1, 1) := by decide +kernel
theorem dX11_put_82 : decode cX11_put 82 = .ok (.iaload, 1) := by decide +kernel
theorem dX11_put_83 : decode cX11_put 83 = .ok (.iconst 1, 1) := by decide +kernel
theorem dX11_put_84 : decode cX11_put 84 = .ok (.if_icmp .ne 8, 3) := by decide +kernel
theorem dX11_put_87 : decode cX11_put 87 = .ok (.iload_n 3, 1) := by decide +kernel
theorem dX11_put_88 : decode cX11_put 88 = .ok (.i2s, 1) := by decide +kernel
theorem dX11_put_89 : decode cX11_put 89 = .ok (.goto 4, 3) := by decide +kernel
theorem dX11_put_92 : decode cX11_put 92 = .ok (.iload_n 3, 1) := by decide +kernel
theorem dX11_put_93 : decode cX11_put 93 = .ok (.iastore, 1) := by decide +kernel
theorem dX11_put_94 : decode cX11_put 94 = .ok (.iconst 1, 1) := by decide +kernel
theorem dX11_put_95 : decode cX11_put 95 = .ok (.ireturn, 1) := by decide +kernel
theorem dX11_cell_0 : decode cX11_cell 0 = .ok (.aload_n 0, 1) := by decide +kernel
theorem dX11_cell_1 : decode cX11_cell 1 = .ok (.iconst 0, 1) := by decide +kernel
theorem dX11_cell_2 : decode cX11_cell 2 = .ok (.putfield 119, 3) := by decide +kernel
theorem dX11_cell_5 : decode cX11_cell 5 = .ok (.iload_n 1, 1) := by decide +kernel
theorem dX11_cell_6 : decode cX11_cell 6 = .ok (.invokestatic 143, 3) := by decide +kernel
theorem dX11_cell_9 : decode cX11_cell 9 = .ok (.ifCond .eq 10, 3) := by decide +kernel
theorem dX11_cell_12 : decode cX11_cell 12 = .ok (.iload_n 3, 1) := by decide +kernel
theorem dX11_cell_13 : decode cX11_cell 13 = .ok (.invokestatic 146, 3) := by decide +kernel
theorem dX11_cell_16 : decode cX11_cell 16 = .ok (.ifCond .ne 7, 3) := by decide +kernel
theorem dX11_cell_19 : decode cX11_cell 19 = .ok (.ldc2_w 122, 3) := by decide +kernel
theorem dX11_cell_22 : decode cX11_cell 22 = .ok (.lreturn, 1) := by decide +kernel
theorem dX11_cell_23 : decode cX11_cell 23 = .ok (.aload_n 0, 1) := by decide +kernel
theorem dX11_cell_24 : decode cX11_cell 24 = .ok (.getfield 9, 3) := by decide +kernel
theorem dX11_cell_27 : decode cX11_cell 27 = .ok (.iload_n 1, 1) := by decide +kernel
theorem dX11_cell_28 : decode cX11_cell 28 = .ok (.iaload, 1) := by decide +kernel
theorem dX11_cell_29 : decode cX11_cell 29 = .ok (.bipush (-9), 2) := by decide +kernel
theorem dX11_cell_31 : decode cX11_cell 31 = .ok (.if_icmp .eq 19, 3) := by decide +kernel
theorem dX11_cell_34 : decode cX11_cell 34 = .ok (.aload_n 0, 1) := by decide +kernel
theorem dX11_cell_35 : decode cX11_cell 35 = .ok (.getfield 9, 3) := by decide +kernel
theorem dX11_cell_38 : decode cX11_cell 38 = .ok (.iload_n 1, 1) := by decide +kernel
theorem dX11_cell_39 : decode cX11_cell 39 = .ok (.iaload, 1) := by decide +kernel
theorem dX11_cell_40 : decode cX11_cell 40 = .ok (.iload_n 3, 1) := by decide +kernel
theorem dX11_cell_41 : decode cX11_cell 41 = .ok (.if_icmp .eq 9, 3) := by decide +kernel
theorem dX11_cell_44 : decode cX11_cell 44 = .ok (.aload_n 0, 1) := by decide +kernel
theorem dX11_cell_45 : decode cX11_cell 45 = .ok (.iconst 2, 1) := by decide +kernel
theorem dX11_cell_46 : decode cX11_cell 46 = .ok (.invokevirtual 293, 3) := by decide +kernel
theorem dX11_cell_49 : decode cX11_cell 49 = .ok (.lreturn, 1) := by decide +kernel
theorem dX11_cell_50 : decode cX11_cell 50 = .ok (.aload_n 0, 1) := by decide +kernel
theorem dX11_cell_51 : decode cX11_cell 51 = .ok (.getfield 9, 3) := by decide +kernel
theorem dX11_cell_54 : decode cX11_cell 54 = .ok (.iload_n 1, 1) := by decide +kernel
theorem dX11_cell_55 : decode cX11_cell 55 = .ok (.iaload, 1) := by decide +kernel
theorem dX11_cell_56 : decode cX11_cell 56 = .ok (.bipush (-9), 2) := by decide +kernel
theorem dX11_cell_58 : decode cX11_cell 58 = .ok (.if_icmp .ne 9, 3) := by decide +kernel
theorem dX11_cell_61 : decode cX11_cell 61 = .ok (.aload_n 0, 1) := by decide +kernel
theorem dX11_cell_62 : decode cX11_cell 62 = .ok (.iconst 1, 1) := by decide +kernel
theorem dX11_cell_63 : decode cX11_cell 63 = .ok (.invokevirtual 293, 3) := by decide +kernel
theorem dX11_cell_66 : decode cX11_cell 66 = .ok (.lreturn, 1) := by decide +kernel
theorem dX11_cell_67 : decode cX11_cell 67 = .ok (.iload_n 2, 1) := by decide +kernel
theorem dX11_cell_68 : decode cX11_cell 68 = .ok (.iconst 0, 1) := by decide +kernel
theorem dX11_cell_69 : decode cX11_cell 69 = .ok (.aload_n 0, 1) := by decide +kernel
theorem dX11_cell_70 : decode cX11_cell 70 = .ok (.getfield 13, 3) := by decide +kernel
theorem dX11_cell_73 : decode cX11_cell 73 = .ok (.iload_n 1, 1) := by decide +kernel
theorem dX11_cell_74 : decode cX11_cell 74 = .ok (.iaload, 1) := by decide +kernel
theorem dX11_cell_75 : decode cX11_cell 75 = .ok (.iconst 1, 1) := by decide +kernel
theorem dX11_cell_76 : decode cX11_cell 76 = .ok (.isub, 1) := by decide +kernel
theorem dX11_cell_77 : decode cX11_cell 77 = .ok (.invokestatic 124, 3) := by decide +kernel
theorem dX11_cell_80 : decode cX11_cell 80 = .ok (.ifCond .ne 9, 3) := by decide +kernel
theorem dX11_cell_83 : decode cX11_cell 83 = .ok (.aload_n 0, 1) := by decide +kernel
theorem dX11_cell_84 : decode cX11_cell 84 = .ok (.iconst 3, 1) := by decide +kernel
theorem dX11_cell_85 : decode cX11_cell 85 = .ok (.invokevirtual 293, 3) := by decide +kernel
theorem dX11_cell_88 : decode cX11_cell 88 = .ok (.lreturn, 1) := by decide +kernel
theorem dX11_cell_89 : decode cX11_cell 89 = .ok (.aload_n 0, 1) := by decide +kernel
theorem dX11_cell_90 : decode cX11_cell 90 = .ok (.getfield 16, 3) := by decide +kernel
theorem dX11_cell_93 : decode cX11_cell 93 = .ok (.bipush 60, 2) := by decide +kernel
theorem dX11_cell_95 : decode cX11_cell 95 = .ok (.iload_n 1, 1) := by decide +kernel
theorem dX11_cell_96 : decode cX11_cell 96 = .ok (.imul, 1) := by decide +kernel
theorem dX11_cell_97 : decode cX11_cell 97 = .ok (.iload_n 2, 1) := by decide +kernel
theorem dX11_cell_98 : decode cX11_cell 98 = .ok (.iadd, 1) := by decide +kernel
theorem dX11_cell_99 : decode cX11_cell 99 = .ok (.iaload, 1) := by decide +kernel
theorem dX11_cell_100 : decode cX11_cell 100 = .ok (.i2l, 1) := by decide +kernel
theorem dX11_cell_101 : decode cX11_cell 101 = .ok (.lreturn, 1) := by decide +kernel
theorem dX11_begins_0 : decode cX11_begins 0 = .ok (.aload_n 0, 1) := by decide +kernel
theorem dX11_begins_1 : decode cX11_begins 1 = .ok (.bipush 31, 2) := by decide +kernel
theorem dX11_begins_3 : decode cX11_begins 3 = .ok (.aload_n 0, 1) := by decide +kernel
theorem dX11_begins_4 : decode cX11_begins 4 = .ok (.getfield 297, 3) := by decide +kernel
theorem dX11_begins_7 : decode cX11_begins 7 = .ok (.imul, 1) := by decide +kernel
theorem dX11_begins_8 : decode cX11_begins 8 = .ok (.iload_n 1, 1) := by decide +kernel
theorem dX11_begins_9 : decode cX11_begins 9 = .ok (.iadd, 1) := by decide +kernel
theorem dX11_begins_10 : decode cX11_begins 10 = .ok (.putfield 297, 3) := by decide +kernel
theorem dX11_begins_13 : decode cX11_begins 13 = .ok (.return_, 1) := by decide +kernel
theorem dX11_tell_0 : decode cX11_tell 0 = .ok (.aload_n 0, 1) := by decide +kernel
theorem dX11_tell_1 : decode cX11_tell 1 = .ok (.iload_n 1, 1) := by decide +kernel
theorem dX11_tell_2 : decode cX11_tell 2 = .ok (.invokevirtual 183, 3) := by decide +kernel
theorem dX11_tell_5 : decode cX11_tell 5 = .ok (.ifCond .ne 5, 3) := by decide +kernel
theorem dX11_tell_8 : decode cX11_tell 8 = .ok (.iconst (-1), 1) := by decide +kernel
theorem dX11_tell_9 : decode cX11_tell 9 = .ok (.ireturn, 1) := by decide +kernel
theorem dX11_tell_10 : decode cX11_tell 10 = .ok (.aload_n 0, 1) := by decide +kernel
theorem dX11_tell_11 : decode cX11_tell 11 = .ok (.getfield 40, 3) := by decide +kernel
theorem dX11_tell_14 : decode cX11_tell 14 = .ok (.iload_n 1, 1) := by decide +kernel
theorem dX11_tell_15 : decode cX11_tell 15 = .ok (.iaload, 1) := by decide +kernel
theorem dX11_tell_16 : decode cX11_tell 16 = .ok (.lookupswitch 80 #[(1, 28), (2, 48)], 28) := by decide +kernel
theorem dX11_tell_44 : decode cX11_tell 44 = .ok (.aload_n 0, 1) := by decide +kernel
theorem dX11_tell_45 : decode cX11_tell 45 = .ok (.iconst 2, 1) := by decide +kernel
theorem dX11_tell_46 : decode cX11_tell 46 = .ok (.invokevirtual 300, 3) := by decide +kernel
theorem dX11_tell_49 : decode cX11_tell 49 = .ok (.aload_n 0, 1) := by decide +kernel
theorem dX11_tell_50 : decode cX11_tell 50 = .ok (.iconst 1, 1) := by decide +kernel
theorem dX11_tell_51 : decode cX11_tell 51 = .ok (.invokevirtual 300, 3) := by decide +kernel
theorem dX11_tell_54 : decode cX11_tell 54 = .ok (.aload_n 0, 1) := by decide +kernel
theorem dX11_tell_55 : decode cX11_tell 55 = .ok (.getfield 49, 3) := by decide +kernel
theorem dX11_tell_58 : decode cX11_tell 58 = .ok (.iload_n 1, 1) := by decide +kernel
theorem dX11_tell_59 : decode cX11_tell 59 = .ok (.iaload, 1) := by decide +kernel
theorem dX11_tell_60 : decode cX11_tell 60 = .ok (.bipush 10, 2) := by decide +kernel
theorem dX11_tell_62 : decode cX11_tell 62 = .ok (.iadd, 1) := by decide +kernel
theorem dX11_tell_63 : decode cX11_tell 63 = .ok (.ireturn, 1) := by decide +kernel
theorem dX11_tell_64 : decode cX11_tell 64 = .ok (.aload_n 0, 1) := by decide +kernel
theorem dX11_tell_65 : decode cX11_tell 65 = .ok (.iconst 3, 1) := by decide +kernel
theorem dX11_tell_66 : decode cX11_tell 66 = .ok (.invokevirtual 300, 3) := by decide +kernel
theorem dX11_tell_69 : decode cX11_tell 69 = .ok (.aload_n 0, 1) := by decide +kernel
theorem dX11_tell_70 : decode cX11_tell 70 = .ok (.iconst 2, 1) := by decide +kernel
theorem dX11_tell_71 : decode cX11_tell 71 = .ok (.invokevirtual 300, 3) := by decide +kernel
theorem dX11_tell_74 : decode cX11_tell 74 = .ok (.aload_n 0, 1) := by decide +kernel
theorem dX11_tell_75 : decode cX11_tell 75 = .ok (.iconst 1, 1) := by decide +kernel
theorem dX11_tell_76 : decode cX11_tell 76 = .ok (.invokevirtual 300, 3) := by decide +kernel
theorem dX11_tell_79 : decode cX11_tell 79 = .ok (.aload_n 0, 1) := by decide +kernel
theorem dX11_tell_80 : decode cX11_tell 80 = .ok (.iconst 1, 1) := by decide +kernel
theorem dX11_tell_81 : decode cX11_tell 81 = .ok (.invokevirtual 300, 3) := by decide +kernel
theorem dX11_tell_84 : decode cX11_tell 84 = .ok (.iconst 2, 1) := by decide +kernel
theorem dX11_tell_85 : decode cX11_tell 85 = .ok (.aload_n 0, 1) := by decide +kernel
theorem dX11_tell_86 : decode cX11_tell 86 = .ok (.getfield 49, 3) := by decide +kernel
theorem dX11_tell_89 : decode cX11_tell 89 = .ok (.iload_n 1, 1) := by decide +kernel
theorem dX11_tell_90 : decode cX11_tell 90 = .ok (.iaload, 1) := by decide +kernel
theorem dX11_tell_91 : decode cX11_tell 91 = .ok (.imul, 1) := by decide +kernel
theorem dX11_tell_92 : decode cX11_tell 92 = .ok (.bipush 10, 2) := by decide +kernel
theorem dX11_tell_94 : decode cX11_tell 94 = .ok (.iadd, 1) := by decide +kernel
theorem dX11_tell_95 : decode cX11_tell 95 = .ok (.ireturn, 1) := by decide +kernel
theorem dX11_tell_96 : decode cX11_tell 96 = .ok (.aload_n 0, 1) := by decide +kernel
theorem dX11_tell_97 : decode cX11_tell 97 = .ok (.iconst 1, 1) := by decide +kernel
theorem dX11_tell_98 : decode cX11_tell 98 = .ok (.invokevirtual 300, 3) := by decide +kernel
theorem dX11_tell_101 : decode cX11_tell 101 = .ok (.aload_n 0, 1) := by decide +kernel
theorem dX11_tell_102 : decode cX11_tell 102 = .ok (.getfield 49, 3) := by decide +kernel
theorem dX11_tell_105 : decode cX11_tell 105 = .ok (.iload_n 1, 1) := by decide +kernel
theorem dX11_tell_106 : decode cX11_tell 106 = .ok (.iaload, 1) := by decide +kernel
theorem dX11_tell_107 : decode cX11_tell 107 = .ok (.ireturn, 1) := by decide +kernel
theorem dX11_name_0 : decode cX11_name 0 = .ok (.aload_n 0, 1) := by decide +kernel
theorem dX11_name_1 : decode cX11_name 1 = .ok (.iload_n 1, 1) := by decide +kernel
theorem dX11_name_2 : decode cX11_name 2 = .ok (.invokevirtual 183, 3) := by decide +kernel
theorem dX11_name_5 : decode cX11_name 5 = .ok (.ifCond .ne 5, 3) := by decide +kernel
theorem dX11_name_8 : decode cX11_name 8 = .ok (.iconst (-1), 1) := by decide +kernel
theorem dX11_name_9 : decode cX11_name 9 = .ok (.ireturn, 1) := by decide +kernel
theorem dX11_name_10 : decode cX11_name 10 = .ok (.aload_n 0, 1) := by decide +kernel
theorem dX11_name_11 : decode cX11_name 11 = .ok (.aload_n 0, 1) := by decide +kernel
theorem dX11_name_12 : decode cX11_name 12 = .ok (.getfield 40, 3) := by decide +kernel
theorem dX11_name_15 : decode cX11_name 15 = .ok (.iload_n 1, 1) := by decide +kernel
theorem dX11_name_16 : decode cX11_name 16 = .ok (.iaload, 1) := by decide +kernel
theorem dX11_name_17 : decode cX11_name 17 = .ok (.iconst 2, 1) := by decide +kernel
theorem dX11_name_18 : decode cX11_name 18 = .ok (.if_icmp .ne 7, 3) := by decide +kernel
theorem dX11_name_21 : decode cX11_name 21 = .ok (.iconst 5, 1) := by decide +kernel
theorem dX11_name_22 : decode cX11_name 22 = .ok (.goto 4, 3) := by decide +kernel
theorem dX11_name_25 : decode cX11_name 25 = .ok (.iconst 4, 1) := by decide +kernel
theorem dX11_name_26 : decode cX11_name 26 = .ok (.invokevirtual 300, 3) := by decide +kernel
theorem dX11_name_29 : decode cX11_name 29 = .ok (.aload_n 0, 1) := by decide +kernel
theorem dX11_name_30 : decode cX11_name 30 = .ok (.getfield 40, 3) := by decide +kernel
theorem dX11_name_33 : decode cX11_name 33 = .ok (.iload_n 1, 1) := by decide +kernel
theorem dX11_name_34 : decode cX11_name 34 = .ok (.iaload, 1) := by decide +kernel
theorem dX11_name_35 : decode cX11_name 35 = .ok (.iconst 2, 1) := by decide +kernel
theorem dX11_name_36 : decode cX11_name 36 = .ok (.if_icmp .ne 8, 3) := by decide +kernel
theorem dX11_name_39 : decode cX11_name 39 = .ok (.bipush 70, 2) := by decide +kernel
theorem dX11_name_41 : decode cX11_name 41 = .ok (.goto 4, 3) := by decide +kernel
theorem dX11_name_44 : decode cX11_name 44 = .ok (.iload_n 1, 1) := by decide +kernel
theorem dX11_name_45 : decode cX11_name 45 = .ok (.ireturn, 1) := by decide +kernel
theorem dX11_as_0 : decode cX11_as 0 = .ok (.aload_n 0, 1) := by decide +kernel
theorem dX11_as_1 : decode cX11_as 1 = .ok (.iconst 0, 1) := by decide +kernel
theorem dX11_as_2 : decode cX11_as 2 = .ok (.putfield 119, 3) := by decide +kernel
theorem dX11_as_5 : decode cX11_as 5 = .ok (.aload_n 0, 1) := by decide +kernel
theorem dX11_as_6 : decode cX11_as 6 = .ok (.iload_n 1, 1) := by decide +kernel
theorem dX11_as_7 : decode cX11_as 7 = .ok (.invokevirtual 183, 3) := by decide +kernel
theorem dX11_as_10 : decode cX11_as 10 = .ok (.ifCond .ne 5, 3) := by decide +kernel
theorem dX11_as_13 : decode cX11_as 13 = .ok (.iconst (-1), 1) := by decide +kernel
theorem dX11_as_14 : decode cX11_as 14 = .ok (.ireturn, 1) := by decide +kernel
theorem dX11_as_15 : decode cX11_as 15 = .ok (.iload_n 2, 1) := by decide +kernel
theorem dX11_as_16 : decode cX11_as 16 = .ok (.iconst 0, 1) := by decide +kernel
theorem dX11_as_17 : decode cX11_as 17 = .ok (.iconst 2, 1) := by decide +kernel
theorem dX11_as_18 : decode cX11_as 18 = .ok (.invokestatic 124, 3) := by decide +kernel
theorem dX11_as_21 : decode cX11_as 21 = .ok (.ifCond .ne 6, 3) := by decide +kernel
theorem dX11_as_24 : decode cX11_as 24 = .ok (.bipush (-2), 2) := by decide +kernel
theorem dX11_as_26 : decode cX11_as 26 = .ok (.ireturn, 1) := by decide +kernel
theorem dX11_as_27 : decode cX11_as 27 = .ok (.aload_n 0, 1) := by decide +kernel
theorem dX11_as_28 : decode cX11_as 28 = .ok (.getfield 40, 3) := by decide +kernel
theorem dX11_as_31 : decode cX11_as 31 = .ok (.iload_n 1, 1) := by decide +kernel
theorem dX11_as_32 : decode cX11_as 32 = .ok (.iaload, 1) := by decide +kernel
theorem dX11_as_33 : decode cX11_as 33 = .ok (.iload_n 2, 1) := by decide +kernel
theorem dX11_as_34 : decode cX11_as 34 = .ok (.if_icmp .lt 7, 3) := by decide +kernel
theorem dX11_as_37 : decode cX11_as 37 = .ok (.iconst 1, 1) := by decide +kernel
theorem dX11_as_38 : decode cX11_as 38 = .ok (.goto 8, 3) := by decide +kernel
theorem dX11_as_41 : decode cX11_as 41 = .ok (.aload_n 0, 1) := by decide +kernel
theorem dX11_as_42 : decode cX11_as 42 = .ok (.iconst 2, 1) := by decide +kernel
theorem dX11_as_43 : decode cX11_as 43 = .ok (.invokevirtual 153, 3) := by decide +kernel
theorem dX11_as_46 : decode cX11_as 46 = .ok (.ireturn, 1) := by decide +kernel
theorem dX11_trace_0 : decode cX11_trace 0 = .ok (.aload_n 0, 1) := by decide +kernel
theorem dX11_trace_1 : decode cX11_trace 1 = .ok (.getfield 297, 3) := by decide +kernel
theorem dX11_trace_4 : decode cX11_trace 4 = .ok (.ireturn, 1) := by decide +kernel
theorem dX11_fault_0 : decode cX11_fault 0 = .ok (.aload_n 0, 1) := by decide +kernel
theorem dX11_fault_1 : decode cX11_fault 1 = .ok (.getfield 119, 3) := by decide +kernel
theorem dX11_fault_4 : decode cX11_fault 4 = .ok (.ireturn, 1) := by decide +kernel
theorem dX11_many_0 : decode cX11_many 0 = .ok (.iconst 0, 1) := by decide +kernel
theorem dX11_many_1 : decode cX11_many 1 = .ok (.istore_n 2, 1) := by decide +kernel
theorem dX11_many_2 : decode cX11_many 2 = .ok (.iconst 0, 1) := by decide +kernel
theorem dX11_many_3 : decode cX11_many 3 = .ok (.istore_n 3, 1) := by decide +kernel
theorem dX11_many_4 : decode cX11_many 4 = .ok (.iload_n 3, 1) := by decide +kernel
theorem dX11_many_5 : decode cX11_many 5 = .ok (.bipush 6, 2) := by decide +kernel
theorem dX11_many_7 : decode cX11_many 7 = .ok (.if_icmp .ge 28, 3) := by decide +kernel
theorem dX11_many_10 : decode cX11_many 10 = .ok (.iload_n 2, 1) := by decide +kernel
theorem dX11_many_11 : decode cX11_many 11 = .ok (.aload_n 0, 1) := by decide +kernel
theorem dX11_many_12 : decode cX11_many 12 = .ok (.getfield 58, 3) := by decide +kernel
theorem dX11_many_15 : decode cX11_many 15 = .ok (.iload_n 3, 1) := by decide +kernel
theorem dX11_many_16 : decode cX11_many 16 = .ok (.iaload, 1) := by decide +kernel
theorem dX11_many_17 : decode cX11_many 17 = .ok (.bipush (-9), 2) := by decide +kernel
theorem dX11_many_19 : decode cX11_many 19 = .ok (.if_icmp .ne 7, 3) := by decide +kernel
theorem dX11_many_22 : decode cX11_many 22 = .ok (.iconst 0, 1) := by decide +kernel
theorem dX11_many_23 : decode cX11_many 23 = .ok (.goto 4, 3) := by decide +kernel
theorem dX11_many_26 : decode cX11_many 26 = .ok (.iconst 1, 1) := by decide +kernel
theorem dX11_many_27 : decode cX11_many 27 = .ok (.iadd, 1) := by decide +kernel
theorem dX11_many_28 : decode cX11_many 28 = .ok (.istore_n 2, 1) := by decide +kernel
theorem dX11_many_29 : decode cX11_many 29 = .ok (.iinc 3 1, 3) := by decide +kernel
theorem dX11_many_32 : decode cX11_many 32 = .ok (.goto (-28), 3) := by decide +kernel
theorem dX11_many_35 : decode cX11_many 35 = .ok (.iload_n 1, 1) := by decide +kernel
theorem dX11_many_36 : decode cX11_many 36 = .ok (.tableswitch 49 0 3 #[32, 37, 42, 47], 32) := by decide +kernel
theorem dX11_many_68 : decode cX11_many 68 = .ok (.aload_n 0, 1) := by decide +kernel
theorem dX11_many_69 : decode cX11_many 69 = .ok (.getfield 164, 3) := by decide +kernel
theorem dX11_many_72 : decode cX11_many 72 = .ok (.ireturn, 1) := by decide +kernel
theorem dX11_many_73 : decode cX11_many 73 = .ok (.aload_n 0, 1) := by decide +kernel
theorem dX11_many_74 : decode cX11_many 74 = .ok (.getfield 170, 3) := by decide +kernel
theorem dX11_many_77 : decode cX11_many 77 = .ok (.ireturn, 1) := by decide +kernel
theorem dX11_many_78 : decode cX11_many 78 = .ok (.aload_n 0, 1) := by decide +kernel
theorem dX11_many_79 : decode cX11_many 79 = .ok (.getfield 209, 3) := by decide +kernel
theorem dX11_many_82 : decode cX11_many 82 = .ok (.ireturn, 1) := by decide +kernel
theorem dX11_many_83 : decode cX11_many 83 = .ok (.iload_n 2, 1) := by decide +kernel
theorem dX11_many_84 : decode cX11_many 84 = .ok (.ireturn, 1) := by decide +kernel
theorem dX11_many_85 : decode cX11_many 85 = .ok (.bipush (-2), 2) := by decide +kernel
theorem dX11_many_87 : decode cX11_many 87 = .ok (.ireturn, 1) := by decide +kernel
