theorem dX1_init_0 : decode cX1_init 0 = .ok (.aload_n 0, 1) := by decide +kernel
theorem dX1_init_1 : decode cX1_init 1 = .ok (.invokespecial 1, 3) := by decide +kernel
theorem dX1_init_4 : decode cX1_init 4 = .ok (.aload_n 0, 1) := by decide +kernel
theorem dX1_init_5 : decode cX1_init 5 = .ok (.bipush 8, 2) := by decide +kernel
theorem dX1_init_7 : decode cX1_init 7 = .ok (.newarray .int, 2) := by decide +kernel
theorem dX1_init_9 : decode cX1_init 9 = .ok (.putfield 7, 3) := by decide +kernel
theorem dX1_init_12 : decode cX1_init 12 = .ok (.aload_n 0, 1) := by decide +kernel
theorem dX1_init_13 : decode cX1_init 13 = .ok (.bipush 8, 2) := by decide +kernel
theorem dX1_init_15 : decode cX1_init 15 = .ok (.newarray .int, 2) := by decide +kernel
theorem dX1_init_17 : decode cX1_init 17 = .ok (.putfield 13, 3) := by decide +kernel
theorem dX1_init_20 : decode cX1_init 20 = .ok (.aload_n 0, 1) := by decide +kernel
theorem dX1_init_21 : decode cX1_init 21 = .ok (.bipush 8, 2) := by decide +kernel
theorem dX1_init_23 : decode cX1_init 23 = .ok (.newarray .int, 2) := by decide +kernel
theorem dX1_init_25 : decode cX1_init 25 = .ok (.putfield 16, 3) := by decide +kernel
theorem dX1_init_28 : decode cX1_init 28 = .ok (.aload_n 0, 1) := by decide +kernel
theorem dX1_init_29 : decode cX1_init 29 = .ok (.bipush 8, 2) := by decide +kernel
theorem dX1_init_31 : decode cX1_init 31 = .ok (.newarray .int, 2) := by decide +kernel
theorem dX1_init_33 : decode cX1_init 33 = .ok (.putfield 19, 3) := by decide +kernel
theorem dX1_init_36 : decode cX1_init 36 = .ok (.aload_n 0, 1) := by decide +kernel
theorem dX1_init_37 : decode cX1_init 37 = .ok (.bipush 8, 2) := by decide +kernel
theorem dX1_init_39 : decode cX1_init 39 = .ok (.newarray .int, 2) := by decide +kernel
theorem dX1_init_41 : decode cX1_init 41 = .ok (.putfield 22, 3) := by decide +kernel
theorem dX1_init_44 : decode cX1_init 44 = .ok (.aload_n 0, 1) := by decide +kernel
theorem dX1_init_45 : decode cX1_init 45 = .ok (.bipush 8, 2) := by decide +kernel
theorem dX1_init_47 : decode cX1_init 47 = .ok (.newarray .int, 2) := by decide +kernel
theorem dX1_init_49 : decode cX1_init 49 = .ok (.putfield 25, 3) := by decide +kernel
theorem dX1_init_52 : decode cX1_init 52 = .ok (.aload_n 0, 1) := by decide +kernel
theorem dX1_init_53 : decode cX1_init 53 = .ok (.bipush 8, 2) := by decide +kernel
theorem dX1_init_55 : decode cX1_init 55 = .ok (.newarray .int, 2) := by decide +kernel
theorem dX1_init_57 : decode cX1_init 57 = .ok (.putfield 28, 3) := by decide +kernel
theorem dX1_init_60 : decode cX1_init 60 = .ok (.aload_n 0, 1) := by decide +kernel
theorem dX1_init_61 : decode cX1_init 61 = .ok (.sipush 132, 3) := by decide +kernel
theorem dX1_init_64 : decode cX1_init 64 = .ok (.newarray .int, 2) := by decide +kernel
theorem dX1_init_66 : decode cX1_init 66 = .ok (.putfield 31, 3) := by decide +kernel
theorem dX1_init_69 : decode cX1_init 69 = .ok (.aload_n 0, 1) := by decide +kernel
theorem dX1_init_70 : decode cX1_init 70 = .ok (.sipush 132, 3) := by decide +kernel
theorem dX1_init_73 : decode cX1_init 73 = .ok (.newarray .int, 2) := by decide +kernel
theorem dX1_init_75 : decode cX1_init 75 = .ok (.putfield 34, 3) := by decide +kernel
theorem dX1_init_78 : decode cX1_init 78 = .ok (.aload_n 0, 1) := by decide +kernel
theorem dX1_init_79 : decode cX1_init 79 = .ok (.sipush 132, 3) := by decide +kernel
theorem dX1_init_82 : decode cX1_init 82 = .ok (.newarray .int, 2) := by decide +kernel
theorem dX1_init_84 : decode cX1_init 84 = .ok (.putfield 37, 3) := by decide +kernel
theorem dX1_init_87 : decode cX1_init 87 = .ok (.aload_n 0, 1) := by decide +kernel
theorem dX1_init_88 : decode cX1_init 88 = .ok (.sipush 132, 3) := by decide +kernel
theorem dX1_init_91 : decode cX1_init 91 = .ok (.newarray .int, 2) := by decide +kernel
theorem dX1_init_93 : decode cX1_init 93 = .ok (.putfield 40, 3) := by decide +kernel
theorem dX1_init_96 : decode cX1_init 96 = .ok (.aload_n 0, 1) := by decide +kernel
theorem dX1_init_97 : decode cX1_init 97 = .ok (.sipush 396, 3) := by decide +kernel
theorem dX1_init_100 : decode cX1_init 100 = .ok (.newarray .int, 2) := by decide +kernel
theorem dX1_init_102 : decode cX1_init 102 = .ok (.putfield 43, 3) := by decide +kernel
theorem dX1_init_105 : decode cX1_init 105 = .ok (.aload_n 0, 1) := by decide +kernel
theorem dX1_init_106 : decode cX1_init 106 = .ok (.sipush 396, 3) := by decide +kernel
theorem dX1_init_109 : decode cX1_init 109 = .ok (.newarray .int, 2) := by decide +kernel
theorem dX1_init_111 : decode cX1_init 111 = .ok (.putfield 46, 3) := by decide +kernel
theorem dX1_init_114 : decode cX1_init 114 = .ok (.aload_n 0, 1) := by decide +kernel
theorem dX1_init_115 : decode cX1_init 115 = .ok (.bipush 12, 2) := by decide +kernel
theorem dX1_init_117 : decode cX1_init 117 = .ok (.newarray .boolean, 2) := by decide +kernel
theorem dX1_init_119 : decode cX1_init 119 = .ok (.putfield 49, 3) := by decide +kernel
theorem dX1_init_122 : decode cX1_init 122 = .ok (.aload_n 0, 1) := by decide +kernel
theorem dX1_init_123 : decode cX1_init 123 = .ok (.bipush 12, 2) := by decide +kernel
theorem dX1_init_125 : decode cX1_init 125 = .ok (.newarray .boolean, 2) := by decide +kernel
theorem dX1_init_127 : decode cX1_init 127 = .ok (.putfield 53, 3) := by decide +kernel
theorem dX1_init_130 : decode cX1_init 130 = .ok (.aload_n 0, 1) := by decide +kernel
theorem dX1_init_131 : decode cX1_init 131 = .ok (.iconst (-1), 1) := by decide +kernel
theorem dX1_init_132 : decode cX1_init 132 = .ok (.putfield 56, 3) := by decide +kernel
theorem dX1_init_135 : decode cX1_init 135 = .ok (.aload_n 0, 1) := by decide +kernel
theorem dX1_init_136 : decode cX1_init 136 = .ok (.bipush 12, 2) := by decide +kernel
theorem dX1_init_138 : decode cX1_init 138 = .ok (.newarray .int, 2) := by decide +kernel
theorem dX1_init_140 : decode cX1_init 140 = .ok (.putfield 60, 3) := by decide +kernel
theorem dX1_init_143 : decode cX1_init 143 = .ok (.iconst 0, 1) := by decide +kernel
theorem dX1_init_144 : decode cX1_init 144 = .ok (.istore_n 1, 1) := by decide +kernel
theorem dX1_init_145 : decode cX1_init 145 = .ok (.iload_n 1, 1) := by decide +kernel
theorem dX1_init_146 : decode cX1_init 146 = .ok (.bipush 8, 2) := by decide +kernel
theorem dX1_init_148 : decode cX1_init 148 = .ok (.if_icmp .ge 23, 3) := by decide +kernel
theorem dX1_init_151 : decode cX1_init 151 = .ok (.aload_n 0, 1) := by decide +kernel
theorem dX1_init_152 : decode cX1_init 152 = .ok (.getfield 13, 3) := by decide +kernel
theorem dX1_init_155 : decode cX1_init 155 = .ok (.iload_n 1, 1) := by decide +kernel
theorem dX1_init_156 : decode cX1_init 156 = .ok (.iconst (-1), 1) := by decide +kernel
theorem dX1_init_157 : decode cX1_init 157 = .ok (.iastore, 1) := by decide +kernel
theorem dX1_init_158 : decode cX1_init 158 = .ok (.aload_n 0, 1) := by decide +kernel
theorem dX1_init_159 : decode cX1_init 159 = .ok (.getfield 16, 3) := by decide +kernel
theorem dX1_init_162 : decode cX1_init 162 = .ok (.iload_n 1, 1) := by decide +kernel
theorem dX1_init_163 : decode cX1_init 163 = .ok (.iconst (-1), 1) := by decide +kernel
theorem dX1_init_164 : decode cX1_init 164 = .ok (.iastore, 1) := by decide +kernel
theorem dX1_init_165 : decode cX1_init 165 = .ok (.iinc 1 1, 3) := by decide +kernel
theorem dX1_init_168 : decode cX1_init 168 = .ok (.goto (-23), 3) := by decide +kernel
theorem dX1_init_171 : decode cX1_init 171 = .ok (.return_, 1) := by decide +kernel
theorem dX1_isPackage_0 : decode cX1_isPackage 0 = .ok (.iload_n 1, 1) := by decide +kernel
theorem dX1_isPackage_1 : decode cX1_isPackage 1 = .ok (.ifCond .lt 15, 3) := by decide +kernel
theorem dX1_isPackage_4 : decode cX1_isPackage 4 = .ok (.iload_n 1, 1) := by decide +kernel
theorem dX1_isPackage_5 : decode cX1_isPackage 5 = .ok (.aload_n 0, 1) := by decide +kernel
theorem dX1_isPackage_6 : decode cX1_isPackage 6 = .ok (.getfield 66, 3) := by decide +kernel
theorem dX1_isPackage_9 : decode cX1_isPackage 9 = .ok (.if_icmp .ge 7, 3) := by decide +kernel
theorem dX1_isPackage_12 : decode cX1_isPackage 12 = .ok (.iconst 1, 1) := by decide +kernel
theorem dX1_isPackage_13 : decode cX1_isPackage 13 = .ok (.goto 4, 3) := by decide +kernel
theorem dX1_isPackage_16 : decode cX1_isPackage 16 = .ok (.iconst 0, 1) := by decide +kernel
theorem dX1_isPackage_17 : decode cX1_isPackage 17 = .ok (.ireturn, 1) := by decide +kernel
theorem dX1_isVersion_0 : decode cX1_isVersion 0 = .ok (.aload_n 0, 1) := by decide +kernel
theorem dX1_isVersion_1 : decode cX1_isVersion 1 = .ok (.iload_n 1, 1) := by decide +kernel
theorem dX1_isVersion_2 : decode cX1_isVersion 2 = .ok (.invokevirtual 69, 3) := by decide +kernel
theorem dX1_isVersion_5 : decode cX1_isVersion 5 = .ok (.ifCond .eq 21, 3) := by decide +kernel
theorem dX1_isVersion_8 : decode cX1_isVersion 8 = .ok (.iload_n 2, 1) := by decide +kernel
theorem dX1_isVersion_9 : decode cX1_isVersion 9 = .ok (.ifCond .lt 17, 3) := by decide +kernel
theorem dX1_isVersion_12 : decode cX1_isVersion 12 = .ok (.iload_n 2, 1) := by decide +kernel
theorem dX1_isVersion_13 : decode cX1_isVersion 13 = .ok (.aload_n 0, 1) := by decide +kernel
theorem dX1_isVersion_14 : decode cX1_isVersion 14 = .ok (.getfield 7, 3) := by decide +kernel
theorem dX1_isVersion_17 : decode cX1_isVersion 17 = .ok (.iload_n 1, 1) := by decide +kernel
theorem dX1_isVersion_18 : decode cX1_isVersion 18 = .ok (.iaload, 1) := by decide +kernel
theorem dX1_isVersion_19 : decode cX1_isVersion 19 = .ok (.if_icmp .ge 7, 3) := by decide +kernel
theorem dX1_isVersion_22 : decode cX1_isVersion 22 = .ok (.iconst 1, 1) := by decide +kernel
theorem dX1_isVersion_23 : decode cX1_isVersion 23 = .ok (.goto 4, 3) := by decide +kernel
theorem dX1_isVersion_26 : decode cX1_isVersion 26 = .ok (.iconst 0, 1) := by decide +kernel
theorem dX1_isVersion_27 : decode cX1_isVersion 27 = .ok (.ireturn, 1) := by decide +kernel
theorem dX1_pack_0 : decode cX1_pack 0 = .ok (.aload_n 0, 1) := by decide +kernel
theorem dX1_pack_1 : decode cX1_pack 1 = .ok (.iconst 0, 1) := by decide +kernel
theorem dX1_pack_2 : decode cX1_pack 2 = .ok (.putfield 63, 3) := by decide +kernel
theorem dX1_pack_5 : decode cX1_pack 5 = .ok (.aload_n 0, 1) := by decide +kernel
theorem dX1_pack_6 : decode cX1_pack 6 = .ok (.getfield 66, 3) := by decide +kernel
theorem dX1_pack_9 : decode cX1_pack 9 = .ok (.bipush 8, 2) := by decide +kernel
theorem dX1_pack_11 : decode cX1_pack 11 = .ok (.if_icmp .eq 13, 3) := by decide +kernel
theorem dX1_pack_14 : decode cX1_pack 14 = .ok (.iload_n 1, 1) := by decide +kernel
theorem dX1_pack_15 : decode cX1_pack 15 = .ok (.ifCond .lt 9, 3) := by decide +kernel
theorem dX1_pack_18 : decode cX1_pack 18 = .ok (.iload_n 1, 1) := by decide +kernel
theorem dX1_pack_19 : decode cX1_pack 19 = .ok (.bipush 6, 2) := by decide +kernel
theorem dX1_pack_21 : decode cX1_pack 21 = .ok (.if_icmp .le 5, 3) := by decide +kernel
theorem dX1_pack_24 : decode cX1_pack 24 = .ok (.iconst (-1), 1) := by decide +kernel
theorem dX1_pack_25 : decode cX1_pack 25 = .ok (.ireturn, 1) := by decide +kernel
theorem dX1_pack_26 : decode cX1_pack 26 = .ok (.aload_n 0, 1) := by decide +kernel
theorem dX1_pack_27 : decode cX1_pack 27 = .ok (.getfield 7, 3) := by decide +kernel
theorem dX1_pack_30 : decode cX1_pack 30 = .ok (.aload_n 0, 1) := by decide +kernel
theorem dX1_pack_31 : decode cX1_pack 31 = .ok (.getfield 66, 3) := by decide +kernel
theorem dX1_pack_34 : decode cX1_pack 34 = .ok (.iload_n 1, 1) := by decide +kernel
theorem dX1_pack_35 : decode cX1_pack 35 = .ok (.iastore, 1) := by decide +kernel
theorem dX1_pack_36 : decode cX1_pack 36 = .ok (.aload_n 0, 1) := by decide +kernel
theorem dX1_pack_37 : decode cX1_pack 37 = .ok (.dup, 1) := by decide +kernel
theorem dX1_pack_38 : decode cX1_pack 38 = .ok (.getfield 66, 3) := by decide +kernel
theorem dX1_pack_41 : decode cX1_pack 41 = .ok (.iconst 1, 1) := by decide +kernel
theorem dX1_pack_42 : decode cX1_pack 42 = .ok (.iadd, 1) := by decide +kernel
theorem dX1_pack_43 : decode cX1_pack 43 = .ok (.putfield 66, 3) := by decide +kernel
theorem dX1_pack_46 : decode cX1_pack 46 = .ok (.aload_n 0, 1) := by decide +kernel
theorem dX1_pack_47 : decode cX1_pack 47 = .ok (.getfield 66, 3) := by decide +kernel
theorem dX1_pack_50 : decode cX1_pack 50 = .ok (.iconst 1, 1) := by decide +kernel
theorem dX1_pack_51 : decode cX1_pack 51 = .ok (.isub, 1) := by decide +kernel
theorem dX1_pack_52 : decode cX1_pack 52 = .ok (.ireturn, 1) := by decide +kernel
theorem dX1_keep_0 : decode cX1_keep 0 = .ok (.aload_n 0, 1) := by decide +kernel
theorem dX1_keep_1 : decode cX1_keep 1 = .ok (.getfield 37, 3) := by decide +kernel
theorem dX1_keep_4 : decode cX1_keep 4 = .ok (.iload_n 1, 1) := by decide +kernel
theorem dX1_keep_5 : decode cX1_keep 5 = .ok (.iload_n 2, 1) := by decide +kernel
theorem dX1_keep_6 : decode cX1_keep 6 = .ok (.iastore, 1) := by decide +kernel
theorem dX1_keep_7 : decode cX1_keep 7 = .ok (.aload_n 0, 1) := by decide +kernel
theorem dX1_keep_8 : decode cX1_keep 8 = .ok (.getfield 40, 3) := by decide +kernel
theorem dX1_keep_11 : decode cX1_keep 11 = .ok (.iload_n 1, 1) := by decide +kernel
theorem dX1_keep_12 : decode cX1_keep 12 = .ok (.iconst 1, 1) := by decide +kernel
theorem dX1_keep_13 : decode cX1_keep 13 = .ok (.iastore, 1) := by decide +kernel
theorem dX1_keep_14 : decode cX1_keep 14 = .ok (.aload_n 0, 1) := by decide +kernel
theorem dX1_keep_15 : decode cX1_keep 15 = .ok (.getfield 43, 3) := by decide +kernel
theorem dX1_keep_18 : decode cX1_keep 18 = .ok (.iconst 3, 1) := by decide +kernel
theorem dX1_keep_19 : decode cX1_keep 19 = .ok (.iload_n 1, 1) := by decide +kernel
theorem dX1_keep_20 : decode cX1_keep 20 = .ok (.imul, 1) := by decide +kernel
theorem dX1_keep_21 : decode cX1_keep 21 = .ok (.iload_n 3, 1) := by decide +kernel
theorem dX1_keep_22 : decode cX1_keep 22 = .ok (.iastore, 1) := by decide +kernel
theorem dX1_keep_23 : decode cX1_keep 23 = .ok (.aload_n 0, 1) := by decide +kernel
theorem dX1_keep_24 : decode cX1_keep 24 = .ok (.getfield 46, 3) := by decide +kernel
theorem dX1_keep_27 : decode cX1_keep 27 = .ok (.iconst 3, 1) := by decide +kernel
theorem dX1_keep_28 : decode cX1_keep 28 = .ok (.iload_n 1, 1) := by decide +kernel
theorem dX1_keep_29 : decode cX1_keep 29 = .ok (.imul, 1) := by decide +kernel
theorem dX1_keep_30 : decode cX1_keep 30 = .ok (.iload 4, 2) := by decide +kernel
theorem dX1_keep_32 : decode cX1_keep 32 = .ok (.iastore, 1) := by decide +kernel
theorem dX1_keep_33 : decode cX1_keep 33 = .ok (.aload_n 0, 1) := by decide +kernel
theorem dX1_keep_34 : decode cX1_keep 34 = .ok (.iload_n 1, 1) := by decide +kernel
theorem dX1_keep_35 : decode cX1_keep 35 = .ok (.putfield 56, 3) := by decide +kernel
theorem dX1_keep_38 : decode cX1_keep 38 = .ok (.return_, 1) := by decide +kernel
theorem dX1_row_0 : decode cX1_row 0 = .ok (.aload_n 0, 1) := by decide +kernel
theorem dX1_row_1 : decode cX1_row 1 = .ok (.iconst 0, 1) := by decide +kernel
theorem dX1_row_2 : decode cX1_row 2 = .ok (.putfield 63, 3) := by decide +kernel
theorem dX1_row_5 : decode cX1_row 5 = .ok (.aload_n 0, 1) := by decide +kernel
theorem dX1_row_6 : decode cX1_row 6 = .ok (.iload_n 1, 1) := by decide +kernel
theorem dX1_row_7 : decode cX1_row 7 = .ok (.iload_n 2, 1) := by decide +kernel
theorem dX1_row_8 : decode cX1_row 8 = .ok (.invokevirtual 73, 3) := by decide +kernel
theorem dX1_row_11 : decode cX1_row 11 = .ok (.ifCond .eq 30, 3) := by decide +kernel
theorem dX1_row_14 : decode cX1_row 14 = .ok (.iload_n 3, 1) := by decide +kernel
theorem dX1_row_15 : decode cX1_row 15 = .ok (.ifCond .lt 26, 3) := by decide +kernel
theorem dX1_row_18 : decode cX1_row 18 = .ok (.iload_n 3, 1) := by decide +kernel
theorem dX1_row_19 : decode cX1_row 19 = .ok (.iconst 2, 1) := by decide +kernel
theorem dX1_row_20 : decode cX1_row 20 = .ok (.if_icmp .gt 21, 3) := by decide +kernel
theorem dX1_row_23 : decode cX1_row 23 = .ok (.aload_n 0, 1) := by decide +kernel
theorem dX1_row_24 : decode cX1_row 24 = .ok (.iload 4, 2) := by decide +kernel
theorem dX1_row_26 : decode cX1_row 26 = .ok (.invokevirtual 69, 3) := by decide +kernel
theorem dX1_row_29 : decode cX1_row 29 = .ok (.ifCond .eq 12, 3) := by decide +kernel
theorem dX1_row_32 : decode cX1_row 32 = .ok (.aload_n 0, 1) := by decide +kernel
theorem dX1_row_33 : decode cX1_row 33 = .ok (.getfield 77, 3) := by decide +kernel
theorem dX1_row_36 : decode cX1_row 36 = .ok (.bipush 120, 2) := by decide +kernel
theorem dX1_row_38 : decode cX1_row 38 = .ok (.if_icmp .ne 5, 3) := by decide +kernel
theorem dX1_row_41 : decode cX1_row 41 = .ok (.iconst 0, 1) := by decide +kernel
theorem dX1_row_42 : decode cX1_row 42 = .ok (.ireturn, 1) := by decide +kernel
theorem dX1_row_43 : decode cX1_row 43 = .ok (.aload_n 0, 1) := by decide +kernel
theorem dX1_row_44 : decode cX1_row 44 = .ok (.getfield 31, 3) := by decide +kernel
theorem dX1_row_47 : decode cX1_row 47 = .ok (.aload_n 0, 1) := by decide +kernel
theorem dX1_row_48 : decode cX1_row 48 = .ok (.getfield 77, 3) := by decide +kernel
theorem dX1_row_51 : decode cX1_row 51 = .ok (.iload_n 1, 1) := by decide +kernel
theorem dX1_row_52 : decode cX1_row 52 = .ok (.iastore, 1) := by decide +kernel
theorem dX1_row_53 : decode cX1_row 53 = .ok (.aload_n 0, 1) := by decide +kernel
theorem dX1_row_54 : decode cX1_row 54 = .ok (.getfield 34, 3) := by decide +kernel
theorem dX1_row_57 : decode cX1_row 57 = .ok (.aload_n 0, 1) := by decide +kernel
theorem dX1_row_58 : decode cX1_row 58 = .ok (.getfield 77, 3) := by decide +kernel
theorem dX1_row_61 : decode cX1_row 61 = .ok (.iload_n 2, 1) := by decide +kernel
theorem dX1_row_62 : decode cX1_row 62 = .ok (.iastore, 1) := by decide +kernel
theorem dX1_row_63 : decode cX1_row 63 = .ok (.aload_n 0, 1) := by decide +kernel
theorem dX1_row_64 : decode cX1_row 64 = .ok (.aload_n 0, 1) := by decide +kernel
theorem dX1_row_65 : decode cX1_row 65 = .ok (.getfield 77, 3) := by decide +kernel
theorem dX1_row_68 : decode cX1_row 68 = .ok (.iload_n 3, 1) := by decide +kernel
theorem dX1_row_69 : decode cX1_row 69 = .ok (.iload 4, 2) := by decide +kernel
theorem dX1_row_71 : decode cX1_row 71 = .ok (.iload 5, 2) := by decide +kernel
theorem dX1_row_73 : decode cX1_row 73 = .ok (.invokevirtual 80, 3) := by decide +kernel
theorem dX1_row_76 : decode cX1_row 76 = .ok (.aload_n 0, 1) := by decide +kernel
theorem dX1_row_77 : decode cX1_row 77 = .ok (.dup, 1) := by decide +kernel
theorem dX1_row_78 : decode cX1_row 78 = .ok (.getfield 77, 3) := by decide +kernel
theorem dX1_row_81 : decode cX1_row 81 = .ok (.iconst 1, 1) := by decide +kernel
theorem dX1_row_82 : decode cX1_row 82 = .ok (.iadd, 1) := by decide +kernel
theorem dX1_row_83 : decode cX1_row 83 = .ok (.putfield 77, 3) := by decide +kernel
theorem dX1_row_86 : decode cX1_row 86 = .ok (.iconst 1, 1) := by decide +kernel
theorem dX1_row_87 : decode cX1_row 87 = .ok (.ireturn, 1) := by decide +kernel
theorem dX1_demand_0 : decode cX1_demand 0 = .ok (.aload_n 0, 1) := by decide +kernel
theorem dX1_demand_1 : decode cX1_demand 1 = .ok (.iconst 0, 1) := by decide +kernel
theorem dX1_demand_2 : decode cX1_demand 2 = .ok (.putfield 63, 3) := by decide +kernel
theorem dX1_demand_5 : decode cX1_demand 5 = .ok (.iload_n 1, 1) := by decide +kernel
theorem dX1_demand_6 : decode cX1_demand 6 = .ok (.ifCond .lt 25, 3) := by decide +kernel
theorem dX1_demand_9 : decode cX1_demand 9 = .ok (.iload_n 1, 1) := by decide +kernel
theorem dX1_demand_10 : decode cX1_demand 10 = .ok (.iconst 2, 1) := by decide +kernel
theorem dX1_demand_11 : decode cX1_demand 11 = .ok (.if_icmp .gt 20, 3) := by decide +kernel
theorem dX1_demand_14 : decode cX1_demand 14 = .ok (.aload_n 0, 1) := by decide +kernel
theorem dX1_demand_15 : decode cX1_demand 15 = .ok (.iload_n 2, 1) := by decide +kernel
theorem dX1_demand_16 : decode cX1_demand 16 = .ok (.invokevirtual 69, 3) := by decide +kernel
theorem dX1_demand_19 : decode cX1_demand 19 = .ok (.ifCond .eq 12, 3) := by decide +kernel
theorem dX1_demand_22 : decode cX1_demand 22 = .ok (.aload_n 0, 1) := by decide +kernel
theorem dX1_demand_23 : decode cX1_demand 23 = .ok (.getfield 84, 3) := by decide +kernel
theorem dX1_demand_26 : decode cX1_demand 26 = .ok (.bipush 12, 2) := by decide +kernel
theorem dX1_demand_28 : decode cX1_demand 28 = .ok (.if_icmp .ne 5, 3) := by decide +kernel
theorem dX1_demand_31 : decode cX1_demand 31 = .ok (.iconst (-1), 1) := by decide +kernel
theorem dX1_demand_32 : decode cX1_demand 32 = .ok (.ireturn, 1) := by decide +kernel
theorem dX1_demand_33 : decode cX1_demand 33 = .ok (.aload_n 0, 1) := by decide +kernel
theorem dX1_demand_34 : decode cX1_demand 34 = .ok (.bipush 120, 2) := by decide +kernel
theorem dX1_demand_36 : decode cX1_demand 36 = .ok (.aload_n 0, 1) := by decide +kernel
theorem dX1_demand_37 : decode cX1_demand 37 = .ok (.getfield 84, 3) := by decide +kernel
theorem dX1_demand_40 : decode cX1_demand 40 = .ok (.iadd, 1) := by decide +kernel
theorem dX1_demand_41 : decode cX1_demand 41 = .ok (.iload_n 1, 1) := by decide +kernel
theorem dX1_demand_42 : decode cX1_demand 42 = .ok (.iload_n 2, 1) := by decide +kernel
theorem dX1_demand_43 : decode cX1_demand 43 = .ok (.iload_n 3, 1) := by decide +kernel
theorem dX1_demand_44 : decode cX1_demand 44 = .ok (.invokevirtual 80, 3) := by decide +kernel
theorem dX1_demand_47 : decode cX1_demand 47 = .ok (.aload_n 0, 1) := by decide +kernel
theorem dX1_demand_48 : decode cX1_demand 48 = .ok (.dup, 1) := by decide +kernel
theorem dX1_demand_49 : decode cX1_demand 49 = .ok (.getfield 84, 3) := by decide +kernel
theorem dX1_demand_52 : decode cX1_demand 52 = .ok (.iconst 1, 1) := by decide +kernel
theorem dX1_demand_53 : decode cX1_demand 53 = .ok (.iadd, 1) := by decide +kernel
theorem dX1_demand_54 : decode cX1_demand 54 = .ok (.putfield 84, 3) := by decide +kernel
theorem dX1_demand_57 : decode cX1_demand 57 = .ok (.aload_n 0, 1) := by decide +kernel
theorem dX1_demand_58 : decode cX1_demand 58 = .ok (.getfield 84, 3) := by decide +kernel
theorem dX1_demand_61 : decode cX1_demand 61 = .ok (.iconst 1, 1) := by decide +kernel
theorem dX1_demand_62 : decode cX1_demand 62 = .ok (.isub, 1) := by decide +kernel
theorem dX1_demand_63 : decode cX1_demand 63 = .ok (.ireturn, 1) := by decide +kernel
theorem dX1_or_0 : decode cX1_or 0 = .ok (.aload_n 0, 1) := by decide +kernel
theorem dX1_or_1 : decode cX1_or 1 = .ok (.iconst 0, 1) := by decide +kernel
theorem dX1_or_2 : decode cX1_or 2 = .ok (.putfield 63, 3) := by decide +kernel
theorem dX1_or_5 : decode cX1_or 5 = .ok (.aload_n 0, 1) := by decide +kernel
theorem dX1_or_6 : decode cX1_or 6 = .ok (.getfield 56, 3) := by decide +kernel
theorem dX1_or_9 : decode cX1_or 9 = .ok (.iconst (-1), 1) := by decide +kernel
theorem dX1_or_10 : decode cX1_or 10 = .ok (.if_icmp .eq 36, 3) := by decide +kernel
theorem dX1_or_13 : decode cX1_or 13 = .ok (.aload_n 0, 1) := by decide +kernel
theorem dX1_or_14 : decode cX1_or 14 = .ok (.getfield 37, 3) := by decide +kernel
theorem dX1_or_17 : decode cX1_or 17 = .ok (.aload_n 0, 1) := by decide +kernel
theorem dX1_or_18 : decode cX1_or 18 = .ok (.getfield 56, 3) := by decide +kernel
theorem dX1_or_21 : decode cX1_or 21 = .ok (.iaload, 1) := by decide +kernel
theorem dX1_or_22 : decode cX1_or 22 = .ok (.ifCond .ne 24, 3) := by decide +kernel
theorem dX1_or_25 : decode cX1_or 25 = .ok (.aload_n 0, 1) := by decide +kernel
theorem dX1_or_26 : decode cX1_or 26 = .ok (.getfield 40, 3) := by decide +kernel
theorem dX1_or_29 : decode cX1_or 29 = .ok (.aload_n 0, 1) := by decide +kernel
theorem dX1_or_30 : decode cX1_or 30 = .ok (.getfield 56, 3) := by decide +kernel
theorem dX1_or_33 : decode cX1_or 33 = .ok (.iaload, 1) := by decide +kernel
theorem dX1_or_34 : decode cX1_or 34 = .ok (.iconst 3, 1) := by decide +kernel
theorem dX1_or_35 : decode cX1_or 35 = .ok (.if_icmp .eq 11, 3) := by decide +kernel
theorem dX1_or_38 : decode cX1_or 38 = .ok (.aload_n 0, 1) := by decide +kernel
theorem dX1_or_39 : decode cX1_or 39 = .ok (.iload_n 1, 1) := by decide +kernel
theorem dX1_or_40 : decode cX1_or 40 = .ok (.invokevirtual 69, 3) := by decide +kernel
theorem dX1_or_43 : decode cX1_or 43 = .ok (.ifCond .ne 5, 3) := by decide +kernel
theorem dX1_or_46 : decode cX1_or 46 = .ok (.iconst 0, 1) := by decide +kernel
theorem dX1_or_47 : decode cX1_or 47 = .ok (.ireturn, 1) := by decide +kernel
theorem dX1_or_48 : decode cX1_or 48 = .ok (.aload_n 0, 1) := by decide +kernel
theorem dX1_or_49 : decode cX1_or 49 = .ok (.getfield 43, 3) := by decide +kernel
theorem dX1_or_52 : decode cX1_or 52 = .ok (.iconst 3, 1) := by decide +kernel
theorem dX1_or_53 : decode cX1_or 53 = .ok (.aload_n 0, 1) := by decide +kernel
theorem dX1_or_54 : decode cX1_or 54 = .ok (.getfield 56, 3) := by decide +kernel
theorem dX1_or_57 : decode cX1_or 57 = .ok (.imul, 1) := by decide +kernel
theorem dX1_or_58 : decode cX1_or 58 = .ok (.aload_n 0, 1) := by decide +kernel
theorem dX1_or_59 : decode cX1_or 59 = .ok (.getfield 40, 3) := by decide +kernel
theorem dX1_or_62 : decode cX1_or 62 = .ok (.aload_n 0, 1) := by decide +kernel
theorem dX1_or_63 : decode cX1_or 63 = .ok (.getfield 56, 3) := by decide +kernel
theorem dX1_or_66 : decode cX1_or 66 = .ok (.iaload, 1) := by decide +kernel
theorem dX1_or_67 : decode cX1_or 67 = .ok (.iadd, 1) := by decide +kernel
theorem dX1_or_68 : decode cX1_or 68 = .ok (.iload_n 1, 1) := by decide +kernel
theorem dX1_or_69 : decode cX1_or 69 = .ok (.iastore, 1) := by decide +kernel
theorem dX1_or_70 : decode cX1_or 70 = .ok (.aload_n 0, 1) := by decide +kernel
theorem dX1_or_71 : decode cX1_or 71 = .ok (.getfield 46, 3) := by decide +kernel
theorem dX1_or_74 : decode cX1_or 74 = .ok (.iconst 3, 1) := by decide +kernel
theorem dX1_or_75 : decode cX1_or 75 = .ok (.aload_n 0, 1) := by decide +kernel
theorem dX1_or_76 : decode cX1_or 76 = .ok (.getfield 56, 3) := by decide +kernel
theorem dX1_or_79 : decode cX1_or 79 = .ok (.imul, 1) := by decide +kernel
theorem dX1_or_80 : decode cX1_or 80 = .ok (.aload_n 0, 1) := by decide +kernel
theorem dX1_or_81 : decode cX1_or 81 = .ok (.getfield 40, 3) := by decide +kernel
theorem dX1_or_84 : decode cX1_or 84 = .ok (.aload_n 0, 1) := by decide +kernel
theorem dX1_or_85 : decode cX1_or 85 = .ok (.getfield 56, 3) := by decide +kernel
theorem dX1_or_88 : decode cX1_or 88 = .ok (.iaload, 1) := by decide +kernel
theorem dX1_or_89 : decode cX1_or 89 = .ok (.iadd, 1) := by decide +kernel
theorem dX1_or_90 : decode cX1_or 90 = .ok (.iload_n 2, 1) := by decide +kernel
theorem dX1_or_91 : decode cX1_or 91 = .ok (.iastore, 1) := by decide +kernel
theorem dX1_or_92 : decode cX1_or 92 = .ok (.aload_n 0, 1) := by decide +kernel
theorem dX1_or_93 : decode cX1_or 93 = .ok (.getfield 40, 3) := by decide +kernel
theorem dX1_or_96 : decode cX1_or 96 = .ok (.aload_n 0, 1) := by decide +kernel
theorem dX1_or_97 : decode cX1_or 97 = .ok (.getfield 56, 3) := by decide +kernel
theorem dX1_or_100 : decode cX1_or 100 = .ok (.dup2, 1) := by decide +kernel
theorem dX1_or_101 : decode cX1_or 101 = .ok (.iaload, 1) := by decide +kernel
theorem dX1_or_102 : decode cX1_or 102 = .ok (.iconst 1, 1) := by decide +kernel
theorem dX1_or_103 : decode cX1_or 103 = .ok (.iadd, 1) := by decide +kernel
theorem dX1_or_104 : decode cX1_or 104 = .ok (.iastore, 1) := by decide +kernel
theorem dX1_or_105 : decode cX1_or 105 = .ok (.iconst 1, 1) := by decide +kernel
theorem dX1_or_106 : decode cX1_or 106 = .ok (.ireturn, 1) := by decide +kernel
theorem dX1_leaveOut_0 : decode cX1_leaveOut 0 = .ok (.aload_n 0, 1) := by decide +kernel
theorem dX1_leaveOut_1 : decode cX1_leaveOut 1 = .ok (.iconst 0, 1) := by decide +kernel
theorem dX1_leaveOut_2 : decode cX1_leaveOut 2 = .ok (.putfield 63, 3) := by decide +kernel
theorem dX1_leaveOut_5 : decode cX1_leaveOut 5 = .ok (.iload_n 1, 1) := by decide +kernel
theorem dX1_leaveOut_6 : decode cX1_leaveOut 6 = .ok (.ifCond .lt 21, 3) := by decide +kernel
theorem dX1_leaveOut_9 : decode cX1_leaveOut 9 = .ok (.iload_n 1, 1) := by decide +kernel
theorem dX1_leaveOut_10 : decode cX1_leaveOut 10 = .ok (.aload_n 0, 1) := by decide +kernel
theorem dX1_leaveOut_11 : decode cX1_leaveOut 11 = .ok (.getfield 84, 3) := by decide +kernel
theorem dX1_leaveOut_14 : decode cX1_leaveOut 14 = .ok (.if_icmp .ge 13, 3) := by decide +kernel
theorem dX1_leaveOut_17 : decode cX1_leaveOut 17 = .ok (.aload_n 0, 1) := by decide +kernel
theorem dX1_leaveOut_18 : decode cX1_leaveOut 18 = .ok (.getfield 49, 3) := by decide +kernel
theorem dX1_leaveOut_21 : decode cX1_leaveOut 21 = .ok (.iload_n 1, 1) := by decide +kernel
theorem dX1_leaveOut_22 : decode cX1_leaveOut 22 = .ok (.baload, 1) := by decide +kernel
theorem dX1_leaveOut_23 : decode cX1_leaveOut 23 = .ok (.iload_n 2, 1) := by decide +kernel
theorem dX1_leaveOut_24 : decode cX1_leaveOut 24 = .ok (.if_icmp .ne 5, 3) := by decide +kernel
theorem dX1_leaveOut_27 : decode cX1_leaveOut 27 = .ok (.iconst 0, 1) := by decide +kernel
theorem dX1_leaveOut_28 : decode cX1_leaveOut 28 = .ok (.ireturn, 1) := by decide +kernel
theorem dX1_leaveOut_29 : decode cX1_leaveOut 29 = .ok (.aload_n 0, 1) := by decide +kernel
theorem dX1_leaveOut_30 : decode cX1_leaveOut 30 = .ok (.getfield 49, 3) := by decide +kernel
theorem dX1_leaveOut_33 : decode cX1_leaveOut 33 = .ok (.iload_n 1, 1) := by decide +kernel
theorem dX1_leaveOut_34 : decode cX1_leaveOut 34 = .ok (.iload_n 2, 1) := by decide +kernel
theorem dX1_leaveOut_35 : decode cX1_leaveOut 35 = .ok (.bastore, 1) := by decide +kernel
theorem dX1_leaveOut_36 : decode cX1_leaveOut 36 = .ok (.iconst 1, 1) := by decide +kernel
theorem dX1_leaveOut_37 : decode cX1_leaveOut 37 = .ok (.ireturn, 1) := by decide +kernel
theorem dX1_lock_0 : decode cX1_lock 0 = .ok (.aload_n 0, 1) := by decide +kernel
theorem dX1_lock_1 : decode cX1_lock 1 = .ok (.iconst 0, 1) := by decide +kernel
theorem dX1_lock_2 : decode cX1_lock 2 = .ok (.putfield 63, 3) := by decide +kernel
theorem dX1_lock_5 : decode cX1_lock 5 = .ok (.aload_n 0, 1) := by decide +kernel
theorem dX1_lock_6 : decode cX1_lock 6 = .ok (.iload_n 1, 1) := by decide +kernel
theorem dX1_lock_7 : decode cX1_lock 7 = .ok (.invokevirtual 69, 3) := by decide +kernel
theorem dX1_lock_10 : decode cX1_lock 10 = .ok (.ifCond .eq 17, 3) := by decide +kernel
theorem dX1_lock_13 : decode cX1_lock 13 = .ok (.iload_n 2, 1) := by decide +kernel
theorem dX1_lock_14 : decode cX1_lock 14 = .ok (.iconst (-1), 1) := by decide +kernel
theorem dX1_lock_15 : decode cX1_lock 15 = .ok (.if_icmp .eq 14, 3) := by decide +kernel
theorem dX1_lock_18 : decode cX1_lock 18 = .ok (.aload_n 0, 1) := by decide +kernel
theorem dX1_lock_19 : decode cX1_lock 19 = .ok (.iload_n 1, 1) := by decide +kernel
theorem dX1_lock_20 : decode cX1_lock 20 = .ok (.iload_n 2, 1) := by decide +kernel
theorem dX1_lock_21 : decode cX1_lock 21 = .ok (.invokevirtual 73, 3) := by decide +kernel
theorem dX1_lock_24 : decode cX1_lock 24 = .ok (.ifCond .ne 5, 3) := by decide +kernel
theorem dX1_lock_27 : decode cX1_lock 27 = .ok (.iconst 0, 1) := by decide +kernel
theorem dX1_lock_28 : decode cX1_lock 28 = .ok (.ireturn, 1) := by decide +kernel
theorem dX1_lock_29 : decode cX1_lock 29 = .ok (.aload_n 0, 1) := by decide +kernel
theorem dX1_lock_30 : decode cX1_lock 30 = .ok (.getfield 13, 3) := by decide +kernel
theorem dX1_lock_33 : decode cX1_lock 33 = .ok (.iload_n 1, 1) := by decide +kernel
theorem dX1_lock_34 : decode cX1_lock 34 = .ok (.iload_n 2, 1) := by decide +kernel
theorem dX1_lock_35 : decode cX1_lock 35 = .ok (.iastore, 1) := by decide +kernel
theorem dX1_lock_36 : decode cX1_lock 36 = .ok (.iconst 1, 1) := by decide +kernel
theorem dX1_lock_37 : decode cX1_lock 37 = .ok (.ireturn, 1) := by decide +kernel
theorem dX1_isBroken_0 : decode cX1_isBroken 0 = .ok (.iload_n 1, 1) := by decide +kernel
theorem dX1_isBroken_1 : decode cX1_isBroken 1 = .ok (.bipush 120, 2) := by decide +kernel
theorem dX1_isBroken_3 : decode cX1_isBroken 3 = .ok (.if_icmp .lt 30, 3) := by decide +kernel
theorem dX1_isBroken_6 : decode cX1_isBroken 6 = .ok (.aload_n 0, 1) := by decide +kernel
theorem dX1_isBroken_7 : decode cX1_isBroken 7 = .ok (.getfield 49, 3) := by decide +kernel
theorem dX1_isBroken_10 : decode cX1_isBroken 10 = .ok (.iload_n 1, 1) := by decide +kernel
theorem dX1_isBroken_11 : decode cX1_isBroken 11 = .ok (.bipush 120, 2) := by decide +kernel
theorem dX1_isBroken_13 : decode cX1_isBroken 13 = .ok (.isub, 1) := by decide +kernel
theorem dX1_isBroken_14 : decode cX1_isBroken 14 = .ok (.baload, 1) := by decide +kernel
theorem dX1_isBroken_15 : decode cX1_isBroken 15 = .ok (.ifCond .ne 38, 3) := by decide +kernel
theorem dX1_isBroken_18 : decode cX1_isBroken 18 = .ok (.aload_n 0, 1) := by decide +kernel
theorem dX1_isBroken_19 : decode cX1_isBroken 19 = .ok (.getfield 53, 3) := by decide +kernel
theorem dX1_isBroken_22 : decode cX1_isBroken 22 = .ok (.iload_n 1, 1) := by decide +kernel
theorem dX1_isBroken_23 : decode cX1_isBroken 23 = .ok (.bipush 120, 2) := by decide +kernel
theorem dX1_isBroken_25 : decode cX1_isBroken 25 = .ok (.isub, 1) := by decide +kernel
theorem dX1_isBroken_26 : decode cX1_isBroken 26 = .ok (.baload, 1) := by decide +kernel
theorem dX1_isBroken_27 : decode cX1_isBroken 27 = .ok (.ifCond .eq 28, 3) := by decide +kernel
theorem dX1_isBroken_30 : decode cX1_isBroken 30 = .ok (.goto 23, 3) := by decide +kernel
theorem dX1_isBroken_33 : decode cX1_isBroken 33 = .ok (.aload_n 0, 1) := by decide +kernel
theorem dX1_isBroken_34 : decode cX1_isBroken 34 = .ok (.getfield 19, 3) := by decide +kernel
theorem dX1_isBroken_37 : decode cX1_isBroken 37 = .ok (.aload_n 0, 1) := by decide +kernel
theorem dX1_isBroken_38 : decode cX1_isBroken 38 = .ok (.getfield 31, 3) := by decide +kernel
theorem dX1_isBroken_41 : decode cX1_isBroken 41 = .ok (.iload_n 1, 1) := by decide +kernel
theorem dX1_isBroken_42 : decode cX1_isBroken 42 = .ok (.iaload, 1) := by decide +kernel
theorem dX1_isBroken_43 : decode cX1_isBroken 43 = .ok (.iaload, 1) := by decide +kernel
theorem dX1_isBroken_44 : decode cX1_isBroken 44 = .ok (.aload_n 0, 1) := by decide +kernel
theorem dX1_isBroken_45 : decode cX1_isBroken 45 = .ok (.getfield 34, 3) := by decide +kernel
theorem dX1_isBroken_48 : decode cX1_isBroken 48 = .ok (.iload_n 1, 1) := by decide +kernel
theorem dX1_isBroken_49 : decode cX1_isBroken 49 = .ok (.iaload, 1) := by decide +kernel
theorem dX1_isBroken_50 : decode cX1_isBroken 50 = .ok (.if_icmp .eq 5, 3) := by decide +kernel
theorem dX1_isBroken_53 : decode cX1_isBroken 53 = .ok (.iconst 0, 1) := by decide +kernel
theorem dX1_isBroken_54 : decode cX1_isBroken 54 = .ok (.ireturn, 1) := by decide +kernel
theorem dX1_isBroken_55 : decode cX1_isBroken 55 = .ok (.iconst 1, 1) := by decide +kernel
theorem dX1_isBroken_56 : decode cX1_isBroken 56 = .ok (.istore_n 2, 1) := by decide +kernel
theorem dX1_isBroken_57 : decode cX1_isBroken 57 = .ok (.iconst 0, 1) := by decide +kernel
theorem dX1_isBroken_58 : decode cX1_isBroken 58 = .ok (.istore_n 3, 1) := by decide +kernel
theorem dX1_isBroken_59 : decode cX1_isBroken 59 = .ok (.iload_n 3, 1) := by decide +kernel
theorem dX1_isBroken_60 : decode cX1_isBroken 60 = .ok (.aload_n 0, 1) := by decide +kernel
theorem dX1_isBroken_61 : decode cX1_isBroken 61 = .ok (.getfield 40, 3) := by decide +kernel
theorem dX1_isBroken_64 : decode cX1_isBroken 64 = .ok (.iload_n 1, 1) := by decide +kernel
theorem dX1_isBroken_65 : decode cX1_isBroken 65 = .ok (.iaload, 1) := by decide +kernel
theorem dX1_isBroken_66 : decode cX1_isBroken 66 = .ok (.if_icmp .ge 119, 3) := by decide +kernel
theorem dX1_isBroken_69 : decode cX1_isBroken 69 = .ok (.aload_n 0, 1) := by decide +kernel
theorem dX1_isBroken_70 : decode cX1_isBroken 70 = .ok (.getfield 19, 3) := by decide +kernel
theorem dX1_isBroken_73 : decode cX1_isBroken 73 = .ok (.aload_n 0, 1) := by decide +kernel
theorem dX1_isBroken_74 : decode cX1_isBroken 74 = .ok (.getfield 43, 3) := by decide +kernel
theorem dX1_isBroken_77 : decode cX1_isBroken 77 = .ok (.iconst 3, 1) := by decide +kernel
theorem dX1_isBroken_78 : decode cX1_isBroken 78 = .ok (.iload_n 1, 1) := by decide +kernel
theorem dX1_isBroken_79 : decode cX1_isBroken 79 = .ok (.imul, 1) := by decide +kernel
theorem dX1_isBroken_80 : decode cX1_isBroken 80 = .ok (.iload_n 3, 1) := by decide +kernel
theorem dX1_isBroken_81 : decode cX1_isBroken 81 = .ok (.iadd, 1) := by decide +kernel
theorem dX1_isBroken_82 : decode cX1_isBroken 82 = .ok (.iaload, 1) := by decide +kernel
theorem dX1_isBroken_83 : decode cX1_isBroken 83 = .ok (.iaload, 1) := by decide +kernel
theorem dX1_isBroken_84 : decode cX1_isBroken 84 = .ok (.istore 4, 2) := by decide +kernel
theorem dX1_isBroken_86 : decode cX1_isBroken 86 = .ok (.iload 4, 2) := by decide +kernel
theorem dX1_isBroken_88 : decode cX1_isBroken 88 = .ok (.ifCond .lt 26, 3) := by decide +kernel
theorem dX1_isBroken_91 : decode cX1_isBroken 91 = .ok (.aload_n 0, 1) := by decide +kernel
theorem dX1_isBroken_92 : decode cX1_isBroken 92 = .ok (.getfield 46, 3) := by decide +kernel
theorem dX1_isBroken_95 : decode cX1_isBroken 95 = .ok (.iconst 3, 1) := by decide +kernel
theorem dX1_isBroken_96 : decode cX1_isBroken 96 = .ok (.iload_n 1, 1) := by decide +kernel
theorem dX1_isBroken_97 : decode cX1_isBroken 97 = .ok (.imul, 1) := by decide +kernel
theorem dX1_isBroken_98 : decode cX1_isBroken 98 = .ok (.iload_n 3, 1) := by decide +kernel
theorem dX1_isBroken_99 : decode cX1_isBroken 99 = .ok (.iadd, 1) := by decide +kernel
theorem dX1_isBroken_100 : decode cX1_isBroken 100 = .ok (.iaload, 1) := by decide +kernel
theorem dX1_isBroken_101 : decode cX1_isBroken 101 = .ok (.iload 4, 2) := by decide +kernel
theorem dX1_isBroken_103 : decode cX1_isBroken 103 = .ok (.ishr, 1) := by decide +kernel
theorem dX1_isBroken_104 : decode cX1_isBroken 104 = .ok (.iconst 1, 1) := by decide +kernel
theorem dX1_isBroken_105 : decode cX1_isBroken 105 = .ok (.iand, 1) := by decide +kernel
theorem dX1_isBroken_106 : decode cX1_isBroken 106 = .ok (.iconst 1, 1) := by decide +kernel
theorem dX1_isBroken_107 : decode cX1_isBroken 107 = .ok (.if_icmp .ne 7, 3) := by decide +kernel
theorem dX1_isBroken_110 : decode cX1_isBroken 110 = .ok (.iconst 1, 1) := by decide +kernel
theorem dX1_isBroken_111 : decode cX1_isBroken 111 = .ok (.goto 4, 3) := by decide +kernel
theorem dX1_isBroken_114 : decode cX1_isBroken 114 = .ok (.iconst 0, 1) := by decide +kernel
theorem dX1_isBroken_115 : decode cX1_isBroken 115 = .ok (.istore 5, 2) := by decide +kernel
theorem dX1_isBroken_117 : decode cX1_isBroken 117 = .ok (.iload_n 2, 1) := by decide +kernel
theorem dX1_isBroken_118 : decode cX1_isBroken 118 = .ok (.ifCond .eq 59, 3) := by decide +kernel
theorem dX1_isBroken_121 : decode cX1_isBroken 121 = .ok (.iload 4, 2) := by decide +kernel
theorem dX1_isBroken_123 : decode cX1_isBroken 123 = .ok (.bipush (-2), 2) := by decide +kernel
theorem dX1_isBroken_125 : decode cX1_isBroken 125 = .ok (.if_icmp .eq 52, 3) := by decide +kernel
theorem dX1_isBroken_128 : decode cX1_isBroken 128 = .ok (.aload_n 0, 1) := by decide +kernel
theorem dX1_isBroken_129 : decode cX1_isBroken 129 = .ok (.getfield 37, 3) := by decide +kernel
theorem dX1_isBroken_132 : decode cX1_isBroken 132 = .ok (.iload_n 1, 1) := by decide +kernel
theorem dX1_isBroken_133 : decode cX1_isBroken 133 = .ok (.iaload, 1) := by decide +kernel
theorem dX1_isBroken_134 : decode cX1_isBroken 134 = .ok (.ifCond .ne 11, 3) := by decide +kernel
theorem dX1_isBroken_137 : decode cX1_isBroken 137 = .ok (.iload 5, 2) := by decide +kernel
theorem dX1_isBroken_139 : decode cX1_isBroken 139 = .ok (.ifCond .ne 38, 3) := by decide +kernel
theorem dX1_isBroken_142 : decode cX1_isBroken 142 = .ok (.goto 31, 3) := by decide +kernel
theorem dX1_isBroken_145 : decode cX1_isBroken 145 = .ok (.aload_n 0, 1) := by decide +kernel
theorem dX1_isBroken_146 : decode cX1_isBroken 146 = .ok (.getfield 37, 3) := by decide +kernel
theorem dX1_isBroken_149 : decode cX1_isBroken 149 = .ok (.iload_n 1, 1) := by decide +kernel
theorem dX1_isBroken_150 : decode cX1_isBroken 150 = .ok (.iaload, 1) := by decide +kernel
theorem dX1_isBroken_151 : decode cX1_isBroken 151 = .ok (.iconst 1, 1) := by decide +kernel
theorem dX1_isBroken_152 : decode cX1_isBroken 152 = .ok (.if_icmp .ne 11, 3) := by decide +kernel
theorem dX1_isBroken_155 : decode cX1_isBroken 155 = .ok (.iload 5, 2) := by decide +kernel
theorem dX1_isBroken_157 : decode cX1_isBroken 157 = .ok (.ifCond .eq 20, 3) := by decide +kernel
theorem dX1_isBroken_160 : decode cX1_isBroken 160 = .ok (.goto 13, 3) := by decide +kernel
theorem dX1_isBroken_163 : decode cX1_isBroken 163 = .ok (.iload 4, 2) := by decide +kernel
theorem dX1_isBroken_165 : decode cX1_isBroken 165 = .ok (.ifCond .lt 12, 3) := by decide +kernel
theorem dX1_isBroken_168 : decode cX1_isBroken 168 = .ok (.iload 5, 2) := by decide +kernel
theorem dX1_isBroken_170 : decode cX1_isBroken 170 = .ok (.ifCond .ne 7, 3) := by decide +kernel
theorem dX1_isBroken_173 : decode cX1_isBroken 173 = .ok (.iconst 1, 1) := by decide +kernel
theorem dX1_isBroken_174 : decode cX1_isBroken 174 = .ok (.goto 4, 3) := by decide +kernel
theorem dX1_isBroken_177 : decode cX1_isBroken 177 = .ok (.iconst 0, 1) := by decide +kernel
theorem dX1_isBroken_178 : decode cX1_isBroken 178 = .ok (.istore_n 2, 1) := by decide +kernel
theorem dX1_isBroken_179 : decode cX1_isBroken 179 = .ok (.iinc 3 1, 3) := by decide +kernel
theorem dX1_isBroken_182 : decode cX1_isBroken 182 = .ok (.goto (-123), 3) := by decide +kernel
theorem dX1_isBroken_185 : decode cX1_isBroken 185 = .ok (.iload_n 2, 1) := by decide +kernel
theorem dX1_isBroken_186 : decode cX1_isBroken 186 = .ok (.ireturn, 1) := by decide +kernel
theorem dX1_broken_0 : decode cX1_broken 0 = .ok (.iconst 0, 1) := by decide +kernel
theorem dX1_broken_1 : decode cX1_broken 1 = .ok (.istore_n 1, 1) := by decide +kernel
theorem dX1_broken_2 : decode cX1_broken 2 = .ok (.iload_n 1, 1) := by decide +kernel
theorem dX1_broken_3 : decode cX1_broken 3 = .ok (.aload_n 0, 1) := by decide +kernel
theorem dX1_broken_4 : decode cX1_broken 4 = .ok (.getfield 77, 3) := by decide +kernel
theorem dX1_broken_7 : decode cX1_broken 7 = .ok (.if_icmp .ge 17, 3) := by decide +kernel
theorem dX1_broken_10 : decode cX1_broken 10 = .ok (.aload_n 0, 1) := by decide +kernel
theorem dX1_broken_11 : decode cX1_broken 11 = .ok (.iload_n 1, 1) := by decide +kernel
theorem dX1_broken_12 : decode cX1_broken 12 = .ok (.invokevirtual 87, 3) := by decide +kernel
theorem dX1_broken_15 : decode cX1_broken 15 = .ok (.ifCond .ne 9, 3) := by decide +kernel
theorem dX1_broken_18 : decode cX1_broken 18 = .ok (.iinc 1 1, 3) := by decide +kernel
theorem dX1_broken_21 : decode cX1_broken 21 = .ok (.goto (-19), 3) := by decide +kernel
theorem dX1_broken_24 : decode cX1_broken 24 = .ok (.iload_n 1, 1) := by decide +kernel
theorem dX1_broken_25 : decode cX1_broken 25 = .ok (.aload_n 0, 1) := by decide +kernel
theorem dX1_broken_26 : decode cX1_broken 26 = .ok (.getfield 77, 3) := by decide +kernel
theorem dX1_broken_29 : decode cX1_broken 29 = .ok (.if_icmp .ge 18, 3) := by decide +kernel
theorem dX1_broken_32 : decode cX1_broken 32 = .ok (.iconst 1, 1) := by decide +kernel
theorem dX1_broken_33 : decode cX1_broken 33 = .ok (.aload_n 0, 1) := by decide +kernel
theorem dX1_broken_34 : decode cX1_broken 34 = .ok (.getfield 31, 3) := by decide +kernel
theorem dX1_broken_37 : decode cX1_broken 37 = .ok (.iload_n 1, 1) := by decide +kernel
theorem dX1_broken_38 : decode cX1_broken 38 = .ok (.iaload, 1) := by decide +kernel
theorem dX1_broken_39 : decode cX1_broken 39 = .ok (.ishl, 1) := by decide +kernel
theorem dX1_broken_40 : decode cX1_broken 40 = .ok (.aload_n 0, 1) := by decide +kernel
theorem dX1_broken_41 : decode cX1_broken 41 = .ok (.iload_n 1, 1) := by decide +kernel
theorem dX1_broken_42 : decode cX1_broken 42 = .ok (.invokevirtual 90, 3) := by decide +kernel
theorem dX1_broken_45 : decode cX1_broken 45 = .ok (.ior, 1) := by decide +kernel
theorem dX1_broken_46 : decode cX1_broken 46 = .ok (.ireturn, 1) := by decide +kernel
theorem dX1_broken_47 : decode cX1_broken 47 = .ok (.iconst 0, 1) := by decide +kernel
theorem dX1_broken_48 : decode cX1_broken 48 = .ok (.istore_n 2, 1) := by decide +kernel
theorem dX1_broken_49 : decode cX1_broken 49 = .ok (.iload_n 2, 1) := by decide +kernel
theorem dX1_broken_50 : decode cX1_broken 50 = .ok (.aload_n 0, 1) := by decide +kernel
theorem dX1_broken_51 : decode cX1_broken 51 = .ok (.getfield 84, 3) := by decide +kernel
theorem dX1_broken_54 : decode cX1_broken 54 = .ok (.if_icmp .ge 20, 3) := by decide +kernel
theorem dX1_broken_57 : decode cX1_broken 57 = .ok (.aload_n 0, 1) := by decide +kernel
theorem dX1_broken_58 : decode cX1_broken 58 = .ok (.bipush 120, 2) := by decide +kernel
theorem dX1_broken_60 : decode cX1_broken 60 = .ok (.iload_n 2, 1) := by decide +kernel
theorem dX1_broken_61 : decode cX1_broken 61 = .ok (.iadd, 1) := by decide +kernel
theorem dX1_broken_62 : decode cX1_broken 62 = .ok (.invokevirtual 87, 3) := by decide +kernel
theorem dX1_broken_65 : decode cX1_broken 65 = .ok (.ifCond .ne 9, 3) := by decide +kernel
theorem dX1_broken_68 : decode cX1_broken 68 = .ok (.iinc 2 1, 3) := by decide +kernel
theorem dX1_broken_71 : decode cX1_broken 71 = .ok (.goto (-22), 3) := by decide +kernel
theorem dX1_broken_74 : decode cX1_broken 74 = .ok (.iload_n 2, 1) := by decide +kernel
theorem dX1_broken_75 : decode cX1_broken 75 = .ok (.aload_n 0, 1) := by decide +kernel
theorem dX1_broken_76 : decode cX1_broken 76 = .ok (.getfield 84, 3) := by decide +kernel
theorem dX1_broken_79 : decode cX1_broken 79 = .ok (.if_icmp .ge 18, 3) := by decide +kernel
theorem dX1_broken_82 : decode cX1_broken 82 = .ok (.sipush 256, 3) := by decide +kernel
theorem dX1_broken_85 : decode cX1_broken 85 = .ok (.aload_n 0, 1) := by decide +kernel
theorem dX1_broken_86 : decode cX1_broken 86 = .ok (.bipush 120, 2) := by decide +kernel
theorem dX1_broken_88 : decode cX1_broken 88 = .ok (.iload_n 2, 1) := by decide +kernel
theorem dX1_broken_89 : decode cX1_broken 89 = .ok (.iadd, 1) := by decide +kernel
theorem dX1_broken_90 : decode cX1_broken 90 = .ok (.invokevirtual 90, 3) := by decide +kernel
theorem dX1_broken_93 : decode cX1_broken 93 = .ok (.ior, 1) := by decide +kernel
theorem dX1_broken_94 : decode cX1_broken 94 = .ok (.goto 4, 3) := by decide +kernel
theorem dX1_broken_97 : decode cX1_broken 97 = .ok (.iconst 0, 1) := by decide +kernel
theorem dX1_broken_98 : decode cX1_broken 98 = .ok (.ireturn, 1) := by decide +kernel
theorem dX1_others_0 : decode cX1_others 0 = .ok (.iconst 0, 1) := by decide +kernel
theorem dX1_others_1 : decode cX1_others 1 = .ok (.istore_n 2, 1) := by decide +kernel
theorem dX1_others_2 : decode cX1_others 2 = .ok (.iconst 0, 1) := by decide +kernel
theorem dX1_others_3 : decode cX1_others 3 = .ok (.istore_n 3, 1) := by decide +kernel
theorem dX1_others_4 : decode cX1_others 4 = .ok (.iload_n 3, 1) := by decide +kernel
theorem dX1_others_5 : decode cX1_others 5 = .ok (.aload_n 0, 1) := by decide +kernel
theorem dX1_others_6 : decode cX1_others 6 = .ok (.getfield 40, 3) := by decide +kernel
theorem dX1_others_9 : decode cX1_others 9 = .ok (.iload_n 1, 1) := by decide +kernel
theorem dX1_others_10 : decode cX1_others 10 = .ok (.iaload, 1) := by decide +kernel
theorem dX1_others_11 : decode cX1_others 11 = .ok (.if_icmp .ge 24, 3) := by decide +kernel
theorem dX1_others_14 : decode cX1_others 14 = .ok (.iload_n 2, 1) := by decide +kernel
theorem dX1_others_15 : decode cX1_others 15 = .ok (.iconst 1, 1) := by decide +kernel
theorem dX1_others_16 : decode cX1_others 16 = .ok (.aload_n 0, 1) := by decide +kernel
theorem dX1_others_17 : decode cX1_others 17 = .ok (.getfield 43, 3) := by decide +kernel
theorem dX1_others_20 : decode cX1_others 20 = .ok (.iconst 3, 1) := by decide +kernel
theorem dX1_others_21 : decode cX1_others 21 = .ok (.iload_n 1, 1) := by decide +kernel
theorem dX1_others_22 : decode cX1_others 22 = .ok (.imul, 1) := by decide +kernel
theorem dX1_others_23 : decode cX1_others 23 = .ok (.iload_n 3, 1) := by decide +kernel
theorem dX1_others_24 : decode cX1_others 24 = .ok (.iadd, 1) := by decide +kernel
theorem dX1_others_25 : decode cX1_others 25 = .ok (.iaload, 1) := by decide +kernel
theorem dX1_others_26 : decode cX1_others 26 = .ok (.ishl, 1) := by decide +kernel
theorem dX1_others_27 : decode cX1_others 27 = .ok (.ior, 1) := by decide +kernel
theorem dX1_others_28 : decode cX1_others 28 = .ok (.istore_n 2, 1) := by decide +kernel
theorem dX1_others_29 : decode cX1_others 29 = .ok (.iinc 3 1, 3) := by decide +kernel
theorem dX1_others_32 : decode cX1_others 32 = .ok (.goto (-28), 3) := by decide +kernel
theorem dX1_others_35 : decode cX1_others 35 = .ok (.iload_n 2, 1) := by decide +kernel
theorem dX1_others_36 : decode cX1_others 36 = .ok (.ireturn, 1) := by decide +kernel
theorem dX1_arrange_0 : decode cX1_arrange 0 = .ok (.aload_n 0, 1) := by decide +kernel
theorem dX1_arrange_1 : decode cX1_arrange 1 = .ok (.iconst 0, 1) := by decide +kernel
theorem dX1_arrange_2 : decode cX1_arrange 2 = .ok (.putfield 94, 3) := by decide +kernel
theorem dX1_arrange_5 : decode cX1_arrange 5 = .ok (.bipush 120, 2) := by decide +kernel
theorem dX1_arrange_7 : decode cX1_arrange 7 = .ok (.istore_n 1, 1) := by decide +kernel
theorem dX1_arrange_8 : decode cX1_arrange 8 = .ok (.iload_n 1, 1) := by decide +kernel
theorem dX1_arrange_9 : decode cX1_arrange 9 = .ok (.bipush 120, 2) := by decide +kernel
theorem dX1_arrange_11 : decode cX1_arrange 11 = .ok (.aload_n 0, 1) := by decide +kernel
theorem dX1_arrange_12 : decode cX1_arrange 12 = .ok (.getfield 84, 3) := by decide +kernel
theorem dX1_arrange_15 : decode cX1_arrange 15 = .ok (.iadd, 1) := by decide +kernel
theorem dX1_arrange_16 : decode cX1_arrange 16 = .ok (.if_icmp .ge 50, 3) := by decide +kernel
theorem dX1_arrange_19 : decode cX1_arrange 19 = .ok (.iconst 0, 1) := by decide +kernel
theorem dX1_arrange_20 : decode cX1_arrange 20 = .ok (.istore_n 2, 1) := by decide +kernel
theorem dX1_arrange_21 : decode cX1_arrange 21 = .ok (.iload_n 2, 1) := by decide +kernel
theorem dX1_arrange_22 : decode cX1_arrange 22 = .ok (.aload_n 0, 1) := by decide +kernel
theorem dX1_arrange_23 : decode cX1_arrange 23 = .ok (.getfield 40, 3) := by decide +kernel
theorem dX1_arrange_26 : decode cX1_arrange 26 = .ok (.iload_n 1, 1) := by decide +kernel
theorem dX1_arrange_27 : decode cX1_arrange 27 = .ok (.iaload, 1) := by decide +kernel
theorem dX1_arrange_28 : decode cX1_arrange 28 = .ok (.if_icmp .ge 32, 3) := by decide +kernel
theorem dX1_arrange_31 : decode cX1_arrange 31 = .ok (.aload_n 0, 1) := by decide +kernel
theorem dX1_arrange_32 : decode cX1_arrange 32 = .ok (.getfield 37, 3) := by decide +kernel
theorem dX1_arrange_35 : decode cX1_arrange 35 = .ok (.iload_n 1, 1) := by decide +kernel
theorem dX1_arrange_36 : decode cX1_arrange 36 = .ok (.iaload, 1) := by decide +kernel
theorem dX1_arrange_37 : decode cX1_arrange 37 = .ok (.ifCond .ne 23, 3) := by decide +kernel
theorem dX1_arrange_40 : decode cX1_arrange 40 = .ok (.aload_n 0, 1) := by decide +kernel
theorem dX1_arrange_41 : decode cX1_arrange 41 = .ok (.aload_n 0, 1) := by decide +kernel
theorem dX1_arrange_42 : decode cX1_arrange 42 = .ok (.getfield 43, 3) := by decide +kernel
theorem dX1_arrange_45 : decode cX1_arrange 45 = .ok (.iconst 3, 1) := by decide +kernel
theorem dX1_arrange_46 : decode cX1_arrange 46 = .ok (.iload_n 1, 1) := by decide +kernel
theorem dX1_arrange_47 : decode cX1_arrange 47 = .ok (.imul, 1) := by decide +kernel
theorem dX1_arrange_48 : decode cX1_arrange 48 = .ok (.iload_n 2, 1) := by decide +kernel
theorem dX1_arrange_49 : decode cX1_arrange 49 = .ok (.iadd, 1) := by decide +kernel
theorem dX1_arrange_50 : decode cX1_arrange 50 = .ok (.iaload, 1) := by decide +kernel
theorem dX1_arrange_51 : decode cX1_arrange 51 = .ok (.invokevirtual 97, 3) := by decide +kernel
theorem dX1_arrange_54 : decode cX1_arrange 54 = .ok (.iinc 2 1, 3) := by decide +kernel
theorem dX1_arrange_57 : decode cX1_arrange 57 = .ok (.goto (-36), 3) := by decide +kernel
theorem dX1_arrange_60 : decode cX1_arrange 60 = .ok (.iinc 1 1, 3) := by decide +kernel
theorem dX1_arrange_63 : decode cX1_arrange 63 = .ok (.goto (-55), 3) := by decide +kernel
theorem dX1_arrange_66 : decode cX1_arrange 66 = .ok (.aload_n 0, 1) := by decide +kernel
theorem dX1_arrange_67 : decode cX1_arrange 67 = .ok (.getfield 94, 3) := by decide +kernel
theorem dX1_arrange_70 : decode cX1_arrange 70 = .ok (.istore_n 1, 1) := by decide +kernel
theorem dX1_arrange_71 : decode cX1_arrange 71 = .ok (.iconst 0, 1) := by decide +kernel
theorem dX1_arrange_72 : decode cX1_arrange 72 = .ok (.istore_n 2, 1) := by decide +kernel
theorem dX1_arrange_73 : decode cX1_arrange 73 = .ok (.iload_n 2, 1) := by decide +kernel
theorem dX1_arrange_74 : decode cX1_arrange 74 = .ok (.aload_n 0, 1) := by decide +kernel
theorem dX1_arrange_75 : decode cX1_arrange 75 = .ok (.getfield 66, 3) := by decide +kernel
theorem dX1_arrange_78 : decode cX1_arrange 78 = .ok (.if_icmp .ge 14, 3) := by decide +kernel
theorem dX1_arrange_81 : decode cX1_arrange 81 = .ok (.aload_n 0, 1) := by decide +kernel
theorem dX1_arrange_82 : decode cX1_arrange 82 = .ok (.iload_n 2, 1) := by decide +kernel
theorem dX1_arrange_83 : decode cX1_arrange 83 = .ok (.invokevirtual 97, 3) := by decide +kernel
theorem dX1_arrange_86 : decode cX1_arrange 86 = .ok (.iinc 2 1, 3) := by decide +kernel
theorem dX1_arrange_89 : decode cX1_arrange 89 = .ok (.goto (-16), 3) := by decide +kernel
theorem dX1_arrange_92 : decode cX1_arrange 92 = .ok (.aload_n 0, 1) := by decide +kernel
theorem dX1_arrange_93 : decode cX1_arrange 93 = .ok (.iload_n 1, 1) := by decide +kernel
theorem dX1_arrange_94 : decode cX1_arrange 94 = .ok (.putfield 94, 3) := by decide +kernel
theorem dX1_arrange_97 : decode cX1_arrange 97 = .ok (.return_, 1) := by decide +kernel
theorem dX1_place_0 : decode cX1_place 0 = .ok (.iconst 0, 1) := by decide +kernel
theorem dX1_place_1 : decode cX1_place 1 = .ok (.istore_n 2, 1) := by decide +kernel
theorem dX1_place_2 : decode cX1_place 2 = .ok (.iconst 0, 1) := by decide +kernel
theorem dX1_place_3 : decode cX1_place 3 = .ok (.istore_n 3, 1) := by decide +kernel
theorem dX1_place_4 : decode cX1_place 4 = .ok (.iload_n 3, 1) := by decide +kernel
theorem dX1_place_5 : decode cX1_place 5 = .ok (.aload_n 0, 1) := by decide +kernel
theorem dX1_place_6 : decode cX1_place 6 = .ok (.getfield 94, 3) := by decide +kernel
theorem dX1_place_9 : decode cX1_place 9 = .ok (.if_icmp .ge 29, 3) := by decide +kernel
theorem dX1_place_12 : decode cX1_place 12 = .ok (.iload_n 2, 1) := by decide +kernel
theorem dX1_place_13 : decode cX1_place 13 = .ok (.ifCond .ne 13, 3) := by decide +kernel
theorem dX1_place_16 : decode cX1_place 16 = .ok (.aload_n 0, 1) := by decide +kernel
theorem dX1_place_17 : decode cX1_place 17 = .ok (.getfield 22, 3) := by decide +kernel
theorem dX1_place_20 : decode cX1_place 20 = .ok (.iload_n 3, 1) := by decide +kernel
theorem dX1_place_21 : decode cX1_place 21 = .ok (.iaload, 1) := by decide +kernel
theorem dX1_place_22 : decode cX1_place 22 = .ok (.iload_n 1, 1) := by decide +kernel
theorem dX1_place_23 : decode cX1_place 23 = .ok (.if_icmp .ne 7, 3) := by decide +kernel
theorem dX1_place_26 : decode cX1_place 26 = .ok (.iconst 1, 1) := by decide +kernel
theorem dX1_place_27 : decode cX1_place 27 = .ok (.goto 4, 3) := by decide +kernel
theorem dX1_place_30 : decode cX1_place 30 = .ok (.iconst 0, 1) := by decide +kernel
theorem dX1_place_31 : decode cX1_place 31 = .ok (.istore_n 2, 1) := by decide +kernel
theorem dX1_place_32 : decode cX1_place 32 = .ok (.iinc 3 1, 3) := by decide +kernel
theorem dX1_place_35 : decode cX1_place 35 = .ok (.goto (-31), 3) := by decide +kernel
theorem dX1_place_38 : decode cX1_place 38 = .ok (.iload_n 2, 1) := by decide +kernel
theorem dX1_place_39 : decode cX1_place 39 = .ok (.ifCond .eq 4, 3) := by decide +kernel
theorem dX1_place_42 : decode cX1_place 42 = .ok (.return_, 1) := by decide +kernel
theorem dX1_place_43 : decode cX1_place 43 = .ok (.aload_n 0, 1) := by decide +kernel
theorem dX1_place_44 : decode cX1_place 44 = .ok (.getfield 22, 3) := by decide +kernel
theorem dX1_place_47 : decode cX1_place 47 = .ok (.aload_n 0, 1) := by decide +kernel
theorem dX1_place_48 : decode cX1_place 48 = .ok (.getfield 94, 3) := by decide +kernel
theorem dX1_place_51 : decode cX1_place 51 = .ok (.iload_n 1, 1) := by decide +kernel
theorem dX1_place_52 : decode cX1_place 52 = .ok (.iastore, 1) := by decide +kernel
theorem dX1_place_53 : decode cX1_place 53 = .ok (.aload_n 0, 1) := by decide +kernel
theorem dX1_place_54 : decode cX1_place 54 = .ok (.dup, 1) := by decide +kernel
theorem dX1_place_55 : decode cX1_place 55 = .ok (.getfield 94, 3) := by decide +kernel
theorem dX1_place_58 : decode cX1_place 58 = .ok (.iconst 1, 1) := by decide +kernel
theorem dX1_place_59 : decode cX1_place 59 = .ok (.iadd, 1) := by decide +kernel
theorem dX1_place_60 : decode cX1_place 60 = .ok (.putfield 94, 3) := by decide +kernel
theorem dX1_place_63 : decode cX1_place 63 = .ok (.return_, 1) := by decide +kernel
theorem dX1_rank_0 : decode cX1_rank 0 = .ok (.aload_n 0, 1) := by decide +kernel
theorem dX1_rank_1 : decode cX1_rank 1 = .ok (.getfield 22, 3) := by decide +kernel
theorem dX1_rank_4 : decode cX1_rank 4 = .ok (.iload_n 1, 1) := by decide +kernel
theorem dX1_rank_5 : decode cX1_rank 5 = .ok (.iaload, 1) := by decide +kernel
theorem dX1_rank_6 : decode cX1_rank 6 = .ok (.istore_n 3, 1) := by decide +kernel
theorem dX1_rank_7 : decode cX1_rank 7 = .ok (.iload_n 2, 1) := by decide +kernel
theorem dX1_rank_8 : decode cX1_rank 8 = .ok (.aload_n 0, 1) := by decide +kernel
theorem dX1_rank_9 : decode cX1_rank 9 = .ok (.getfield 13, 3) := by decide +kernel
theorem dX1_rank_12 : decode cX1_rank 12 = .ok (.iload_n 3, 1) := by decide +kernel
theorem dX1_rank_13 : decode cX1_rank 13 = .ok (.iaload, 1) := by decide +kernel
theorem dX1_rank_14 : decode cX1_rank 14 = .ok (.if_icmp .ne 10, 3) := by decide +kernel
theorem dX1_rank_17 : decode cX1_rank 17 = .ok (.iload_n 2, 1) := by decide +kernel
theorem dX1_rank_18 : decode cX1_rank 18 = .ok (.iconst (-1), 1) := by decide +kernel
theorem dX1_rank_19 : decode cX1_rank 19 = .ok (.if_icmp .eq 5, 3) := by decide +kernel
theorem dX1_rank_22 : decode cX1_rank 22 = .ok (.iconst 0, 1) := by decide +kernel
theorem dX1_rank_23 : decode cX1_rank 23 = .ok (.ireturn, 1) := by decide +kernel
theorem dX1_rank_24 : decode cX1_rank 24 = .ok (.iload_n 2, 1) := by decide +kernel
theorem dX1_rank_25 : decode cX1_rank 25 = .ok (.iconst (-1), 1) := by decide +kernel
theorem dX1_rank_26 : decode cX1_rank 26 = .ok (.if_icmp .ne 12, 3) := by decide +kernel
theorem dX1_rank_29 : decode cX1_rank 29 = .ok (.aload_n 0, 1) := by decide +kernel
theorem dX1_rank_30 : decode cX1_rank 30 = .ok (.getfield 7, 3) := by decide +kernel
theorem dX1_rank_33 : decode cX1_rank 33 = .ok (.iload_n 3, 1) := by decide +kernel
theorem dX1_rank_34 : decode cX1_rank 34 = .ok (.iaload, 1) := by decide +kernel
theorem dX1_rank_35 : decode cX1_rank 35 = .ok (.goto 13, 3) := by decide +kernel
theorem dX1_rank_38 : decode cX1_rank 38 = .ok (.aload_n 0, 1) := by decide +kernel
theorem dX1_rank_39 : decode cX1_rank 39 = .ok (.getfield 7, 3) := by decide +kernel
theorem dX1_rank_42 : decode cX1_rank 42 = .ok (.iload_n 3, 1) := by decide +kernel
theorem dX1_rank_43 : decode cX1_rank 43 = .ok (.iaload, 1) := by decide +kernel
theorem dX1_rank_44 : decode cX1_rank 44 = .ok (.iconst 1, 1) := by decide +kernel
theorem dX1_rank_45 : decode cX1_rank 45 = .ok (.isub, 1) := by decide +kernel
theorem dX1_rank_46 : decode cX1_rank 46 = .ok (.iload_n 2, 1) := by decide +kernel
theorem dX1_rank_47 : decode cX1_rank 47 = .ok (.isub, 1) := by decide +kernel
theorem dX1_rank_48 : decode cX1_rank 48 = .ok (.istore 4, 2) := by decide +kernel
theorem dX1_rank_50 : decode cX1_rank 50 = .ok (.aload_n 0, 1) := by decide +kernel
theorem dX1_rank_51 : decode cX1_rank 51 = .ok (.getfield 13, 3) := by decide +kernel
theorem dX1_rank_54 : decode cX1_rank 54 = .ok (.iload_n 3, 1) := by decide +kernel
theorem dX1_rank_55 : decode cX1_rank 55 = .ok (.iaload, 1) := by decide +kernel
theorem dX1_rank_56 : decode cX1_rank 56 = .ok (.iconst (-1), 1) := by decide +kernel
theorem dX1_rank_57 : decode cX1_rank 57 = .ok (.if_icmp .eq 16, 3) := by decide +kernel
theorem dX1_rank_60 : decode cX1_rank 60 = .ok (.iload_n 2, 1) := by decide +kernel
theorem dX1_rank_61 : decode cX1_rank 61 = .ok (.aload_n 0, 1) := by decide +kernel
theorem dX1_rank_62 : decode cX1_rank 62 = .ok (.getfield 13, 3) := by decide +kernel
theorem dX1_rank_65 : decode cX1_rank 65 = .ok (.iload_n 3, 1) := by decide +kernel
theorem dX1_rank_66 : decode cX1_rank 66 = .ok (.iaload, 1) := by decide +kernel
theorem dX1_rank_67 : decode cX1_rank 67 = .ok (.if_icmp .ge 6, 3) := by decide +kernel
theorem dX1_rank_70 : decode cX1_rank 70 = .ok (.iinc 4 (-1), 3) := by decide +kernel
theorem dX1_rank_73 : decode cX1_rank 73 = .ok (.aload_n 0, 1) := by decide +kernel
theorem dX1_rank_74 : decode cX1_rank 74 = .ok (.getfield 13, 3) := by decide +kernel
theorem dX1_rank_77 : decode cX1_rank 77 = .ok (.iload_n 3, 1) := by decide +kernel
theorem dX1_rank_78 : decode cX1_rank 78 = .ok (.iaload, 1) := by decide +kernel
theorem dX1_rank_79 : decode cX1_rank 79 = .ok (.iconst (-1), 1) := by decide +kernel
theorem dX1_rank_80 : decode cX1_rank 80 = .ok (.if_icmp .eq 7, 3) := by decide +kernel
theorem dX1_rank_83 : decode cX1_rank 83 = .ok (.iconst 1, 1) := by decide +kernel
theorem dX1_rank_84 : decode cX1_rank 84 = .ok (.goto 4, 3) := by decide +kernel
theorem dX1_rank_87 : decode cX1_rank 87 = .ok (.iconst 0, 1) := by decide +kernel
theorem dX1_rank_88 : decode cX1_rank 88 = .ok (.istore 5, 2) := by decide +kernel
theorem dX1_rank_90 : decode cX1_rank 90 = .ok (.iload_n 1, 1) := by decide +kernel
theorem dX1_rank_91 : decode cX1_rank 91 = .ok (.aload_n 0, 1) := by decide +kernel
theorem dX1_rank_92 : decode cX1_rank 92 = .ok (.getfield 94, 3) := by decide +kernel
theorem dX1_rank_95 : decode cX1_rank 95 = .ok (.if_icmp .ge 11, 3) := by decide +kernel
theorem dX1_rank_98 : decode cX1_rank 98 = .ok (.iload 5, 2) := by decide +kernel
theorem dX1_rank_100 : decode cX1_rank 100 = .ok (.iload 4, 2) := by decide +kernel
theorem dX1_rank_102 : decode cX1_rank 102 = .ok (.iadd, 1) := by decide +kernel
theorem dX1_rank_103 : decode cX1_rank 103 = .ok (.goto 20, 3) := by decide +kernel
theorem dX1_rank_106 : decode cX1_rank 106 = .ok (.iload_n 2, 1) := by decide +kernel
theorem dX1_rank_107 : decode cX1_rank 107 = .ok (.iconst (-1), 1) := by decide +kernel
theorem dX1_rank_108 : decode cX1_rank 108 = .ok (.if_icmp .ne 8, 3) := by decide +kernel
theorem dX1_rank_111 : decode cX1_rank 111 = .ok (.iload 5, 2) := by decide +kernel
theorem dX1_rank_113 : decode cX1_rank 113 = .ok (.goto 10, 3) := by decide +kernel
theorem dX1_rank_116 : decode cX1_rank 116 = .ok (.iload 5, 2) := by decide +kernel
theorem dX1_rank_118 : decode cX1_rank 118 = .ok (.iconst 1, 1) := by decide +kernel
theorem dX1_rank_119 : decode cX1_rank 119 = .ok (.iadd, 1) := by decide +kernel
theorem dX1_rank_120 : decode cX1_rank 120 = .ok (.iload 4, 2) := by decide +kernel
theorem dX1_rank_122 : decode cX1_rank 122 = .ok (.iadd, 1) := by decide +kernel
theorem dX1_rank_123 : decode cX1_rank 123 = .ok (.ireturn, 1) := by decide +kernel
theorem dX1_ranked_0 : decode cX1_ranked 0 = .ok (.iconst (-1), 1) := by decide +kernel
theorem dX1_ranked_1 : decode cX1_ranked 1 = .ok (.istore_n 3, 1) := by decide +kernel
theorem dX1_ranked_2 : decode cX1_ranked 2 = .ok (.aload_n 0, 1) := by decide +kernel
theorem dX1_ranked_3 : decode cX1_ranked 3 = .ok (.iload_n 1, 1) := by decide +kernel
theorem dX1_ranked_4 : decode cX1_ranked 4 = .ok (.iload_n 3, 1) := by decide +kernel
theorem dX1_ranked_5 : decode cX1_ranked 5 = .ok (.invokevirtual 101, 3) := by decide +kernel
theorem dX1_ranked_8 : decode cX1_ranked 8 = .ok (.iload_n 2, 1) := by decide +kernel
theorem dX1_ranked_9 : decode cX1_ranked 9 = .ok (.if_icmp .eq 9, 3) := by decide +kernel
theorem dX1_ranked_12 : decode cX1_ranked 12 = .ok (.iinc 3 1, 3) := by decide +kernel
theorem dX1_ranked_15 : decode cX1_ranked 15 = .ok (.goto (-13), 3) := by decide +kernel
theorem dX1_ranked_18 : decode cX1_ranked 18 = .ok (.iload_n 3, 1) := by decide +kernel
theorem dX1_ranked_19 : decode cX1_ranked 19 = .ok (.ireturn, 1) := by decide +kernel
theorem dX1_search_0 : decode cX1_search 0 = .ok (.aload_n 0, 1) := by decide +kernel
theorem dX1_search_1 : decode cX1_search 1 = .ok (.invokevirtual 105, 3) := by decide +kernel
theorem dX1_search_4 : decode cX1_search 4 = .ok (.iconst 0, 1) := by decide +kernel
theorem dX1_search_5 : decode cX1_search 5 = .ok (.istore_n 3, 1) := by decide +kernel
theorem dX1_search_6 : decode cX1_search 6 = .ok (.iload_n 3, 1) := by decide +kernel
theorem dX1_search_7 : decode cX1_search 7 = .ok (.bipush 8, 2) := by decide +kernel
theorem dX1_search_9 : decode cX1_search 9 = .ok (.if_icmp .ge 17, 3) := by decide +kernel
theorem dX1_search_12 : decode cX1_search 12 = .ok (.aload_n 0, 1) := by decide +kernel
theorem dX1_search_13 : decode cX1_search 13 = .ok (.getfield 19, 3) := by decide +kernel
theorem dX1_search_16 : decode cX1_search 16 = .ok (.iload_n 3, 1) := by decide +kernel
theorem dX1_search_17 : decode cX1_search 17 = .ok (.bipush (-2), 2) := by decide +kernel
theorem dX1_search_19 : decode cX1_search 19 = .ok (.iastore, 1) := by decide +kernel
theorem dX1_search_20 : decode cX1_search 20 = .ok (.iinc 3 1, 3) := by decide +kernel
theorem dX1_search_23 : decode cX1_search 23 = .ok (.goto (-17), 3) := by decide +kernel
theorem dX1_search_26 : decode cX1_search 26 = .ok (.iconst 0, 1) := by decide +kernel
theorem dX1_search_27 : decode cX1_search 27 = .ok (.istore_n 3, 1) := by decide +kernel
theorem dX1_search_28 : decode cX1_search 28 = .ok (.aload_n 0, 1) := by decide +kernel
theorem dX1_search_29 : decode cX1_search 29 = .ok (.getfield 25, 3) := by decide +kernel
theorem dX1_search_32 : decode cX1_search 32 = .ok (.iconst 0, 1) := by decide +kernel
theorem dX1_search_33 : decode cX1_search 33 = .ok (.iconst 0, 1) := by decide +kernel
theorem dX1_search_34 : decode cX1_search 34 = .ok (.iastore, 1) := by decide +kernel
theorem dX1_search_35 : decode cX1_search 35 = .ok (.aload_n 0, 1) := by decide +kernel
theorem dX1_search_36 : decode cX1_search 36 = .ok (.getfield 28, 3) := by decide +kernel
theorem dX1_search_39 : decode cX1_search 39 = .ok (.iconst 0, 1) := by decide +kernel
theorem dX1_search_40 : decode cX1_search 40 = .ok (.iconst 0, 1) := by decide +kernel
theorem dX1_search_41 : decode cX1_search 41 = .ok (.iastore, 1) := by decide +kernel
theorem dX1_search_42 : decode cX1_search 42 = .ok (.iload_n 3, 1) := by decide +kernel
theorem dX1_search_43 : decode cX1_search 43 = .ok (.ifCond .lt 139, 3) := by decide +kernel
theorem dX1_search_46 : decode cX1_search 46 = .ok (.iload_n 3, 1) := by decide +kernel
theorem dX1_search_47 : decode cX1_search 47 = .ok (.aload_n 0, 1) := by decide +kernel
theorem dX1_search_48 : decode cX1_search 48 = .ok (.getfield 66, 3) := by decide +kernel
theorem dX1_search_51 : decode cX1_search 51 = .ok (.if_icmp .ge 131, 3) := by decide +kernel
theorem dX1_search_54 : decode cX1_search 54 = .ok (.aload_n 0, 1) := by decide +kernel
theorem dX1_search_55 : decode cX1_search 55 = .ok (.iload_n 3, 1) := by decide +kernel
theorem dX1_search_56 : decode cX1_search 56 = .ok (.iload_n 1, 1) := by decide +kernel
theorem dX1_search_57 : decode cX1_search 57 = .ok (.iload_n 2, 1) := by decide +kernel
theorem dX1_search_58 : decode cX1_search 58 = .ok (.invokevirtual 108, 3) := by decide +kernel
theorem dX1_search_61 : decode cX1_search 61 = .ok (.ifCond .eq 31, 3) := by decide +kernel
theorem dX1_search_64 : decode cX1_search 64 = .ok (.iinc 3 1, 3) := by decide +kernel
theorem dX1_search_67 : decode cX1_search 67 = .ok (.iload_n 3, 1) := by decide +kernel
theorem dX1_search_68 : decode cX1_search 68 = .ok (.aload_n 0, 1) := by decide +kernel
theorem dX1_search_69 : decode cX1_search 69 = .ok (.getfield 66, 3) := by decide +kernel
theorem dX1_search_72 : decode cX1_search 72 = .ok (.if_icmp .ge (-30), 3) := by decide +kernel
theorem dX1_search_75 : decode cX1_search 75 = .ok (.aload_n 0, 1) := by decide +kernel
theorem dX1_search_76 : decode cX1_search 76 = .ok (.getfield 25, 3) := by decide +kernel
theorem dX1_search_79 : decode cX1_search 79 = .ok (.iload_n 3, 1) := by decide +kernel
theorem dX1_search_80 : decode cX1_search 80 = .ok (.iconst 0, 1) := by decide +kernel
theorem dX1_search_81 : decode cX1_search 81 = .ok (.iastore, 1) := by decide +kernel
theorem dX1_search_82 : decode cX1_search 82 = .ok (.aload_n 0, 1) := by decide +kernel
theorem dX1_search_83 : decode cX1_search 83 = .ok (.getfield 28, 3) := by decide +kernel
theorem dX1_search_86 : decode cX1_search 86 = .ok (.iload_n 3, 1) := by decide +kernel
theorem dX1_search_87 : decode cX1_search 87 = .ok (.iconst 0, 1) := by decide +kernel
theorem dX1_search_88 : decode cX1_search 88 = .ok (.iastore, 1) := by decide +kernel
theorem dX1_search_89 : decode cX1_search 89 = .ok (.goto (-47), 3) := by decide +kernel
theorem dX1_search_92 : decode cX1_search 92 = .ok (.aload_n 0, 1) := by decide +kernel
theorem dX1_search_93 : decode cX1_search 93 = .ok (.getfield 28, 3) := by decide +kernel
theorem dX1_search_96 : decode cX1_search 96 = .ok (.iload_n 3, 1) := by decide +kernel
theorem dX1_search_97 : decode cX1_search 97 = .ok (.iaload, 1) := by decide +kernel
theorem dX1_search_98 : decode cX1_search 98 = .ok (.iconst 1, 1) := by decide +kernel
theorem dX1_search_99 : decode cX1_search 99 = .ok (.aload_n 0, 1) := by decide +kernel
theorem dX1_search_100 : decode cX1_search 100 = .ok (.getfield 22, 3) := by decide +kernel
theorem dX1_search_103 : decode cX1_search 103 = .ok (.iload_n 3, 1) := by decide +kernel
theorem dX1_search_104 : decode cX1_search 104 = .ok (.iaload, 1) := by decide +kernel
theorem dX1_search_105 : decode cX1_search 105 = .ok (.ishl, 1) := by decide +kernel
theorem dX1_search_106 : decode cX1_search 106 = .ok (.iconst (-1), 1) := by decide +kernel
theorem dX1_search_107 : decode cX1_search 107 = .ok (.ixor, 1) := by decide +kernel
theorem dX1_search_108 : decode cX1_search 108 = .ok (.iand, 1) := by decide +kernel
theorem dX1_search_109 : decode cX1_search 109 = .ok (.istore 4, 2) := by decide +kernel
theorem dX1_search_111 : decode cX1_search 111 = .ok (.aload_n 0, 1) := by decide +kernel
theorem dX1_search_112 : decode cX1_search 112 = .ok (.getfield 19, 3) := by decide +kernel
theorem dX1_search_115 : decode cX1_search 115 = .ok (.aload_n 0, 1) := by decide +kernel
theorem dX1_search_116 : decode cX1_search 116 = .ok (.getfield 22, 3) := by decide +kernel
theorem dX1_search_119 : decode cX1_search 119 = .ok (.iload_n 3, 1) := by decide +kernel
theorem dX1_search_120 : decode cX1_search 120 = .ok (.iaload, 1) := by decide +kernel
theorem dX1_search_121 : decode cX1_search 121 = .ok (.bipush (-2), 2) := by decide +kernel
theorem dX1_search_123 : decode cX1_search 123 = .ok (.iastore, 1) := by decide +kernel
theorem dX1_search_124 : decode cX1_search 124 = .ok (.iinc 3 (-1), 3) := by decide +kernel
theorem dX1_search_127 : decode cX1_search 127 = .ok (.iload_n 3, 1) := by decide +kernel
theorem dX1_search_128 : decode cX1_search 128 = .ok (.ifCond .lt 36, 3) := by decide +kernel
theorem dX1_search_131 : decode cX1_search 131 = .ok (.iload 4, 2) := by decide +kernel
theorem dX1_search_133 : decode cX1_search 133 = .ok (.aload_n 0, 1) := by decide +kernel
theorem dX1_search_134 : decode cX1_search 134 = .ok (.getfield 22, 3) := by decide +kernel
theorem dX1_search_137 : decode cX1_search 137 = .ok (.iload_n 3, 1) := by decide +kernel
theorem dX1_search_138 : decode cX1_search 138 = .ok (.iaload, 1) := by decide +kernel
theorem dX1_search_139 : decode cX1_search 139 = .ok (.ishr, 1) := by decide +kernel
theorem dX1_search_140 : decode cX1_search 140 = .ok (.iconst 1, 1) := by decide +kernel
theorem dX1_search_141 : decode cX1_search 141 = .ok (.iand, 1) := by decide +kernel
theorem dX1_search_142 : decode cX1_search 142 = .ok (.ifCond .ne 22, 3) := by decide +kernel
theorem dX1_search_145 : decode cX1_search 145 = .ok (.aload_n 0, 1) := by decide +kernel
theorem dX1_search_146 : decode cX1_search 146 = .ok (.getfield 19, 3) := by decide +kernel
theorem dX1_search_149 : decode cX1_search 149 = .ok (.aload_n 0, 1) := by decide +kernel
theorem dX1_search_150 : decode cX1_search 150 = .ok (.getfield 22, 3) := by decide +kernel
theorem dX1_search_153 : decode cX1_search 153 = .ok (.iload_n 3, 1) := by decide +kernel
theorem dX1_search_154 : decode cX1_search 154 = .ok (.iaload, 1) := by decide +kernel
theorem dX1_search_155 : decode cX1_search 155 = .ok (.bipush (-2), 2) := by decide +kernel
theorem dX1_search_157 : decode cX1_search 157 = .ok (.iastore, 1) := by decide +kernel
theorem dX1_search_158 : decode cX1_search 158 = .ok (.iinc 3 (-1), 3) := by decide +kernel
theorem dX1_search_161 : decode cX1_search 161 = .ok (.goto (-34), 3) := by decide +kernel
theorem dX1_search_164 : decode cX1_search 164 = .ok (.iload_n 3, 1) := by decide +kernel
theorem dX1_search_165 : decode cX1_search 165 = .ok (.ifCond .lt 14, 3) := by decide +kernel
theorem dX1_search_168 : decode cX1_search 168 = .ok (.aload_n 0, 1) := by decide +kernel
theorem dX1_search_169 : decode cX1_search 169 = .ok (.getfield 28, 3) := by decide +kernel
theorem dX1_search_172 : decode cX1_search 172 = .ok (.iload_n 3, 1) := by decide +kernel
theorem dX1_search_173 : decode cX1_search 173 = .ok (.dup2, 1) := by decide +kernel
theorem dX1_search_174 : decode cX1_search 174 = .ok (.iaload, 1) := by decide +kernel
theorem dX1_search_175 : decode cX1_search 175 = .ok (.iload 4, 2) := by decide +kernel
theorem dX1_search_177 : decode cX1_search 177 = .ok (.ior, 1) := by decide +kernel
theorem dX1_search_178 : decode cX1_search 178 = .ok (.iastore, 1) := by decide +kernel
theorem dX1_search_179 : decode cX1_search 179 = .ok (.goto (-137), 3) := by decide +kernel
theorem dX1_search_182 : decode cX1_search 182 = .ok (.iload_n 3, 1) := by decide +kernel
theorem dX1_search_183 : decode cX1_search 183 = .ok (.ifCond .lt 21, 3) := by decide +kernel
theorem dX1_search_186 : decode cX1_search 186 = .ok (.aload_n 0, 1) := by decide +kernel
theorem dX1_search_187 : decode cX1_search 187 = .ok (.getfield 66, 3) := by decide +kernel
theorem dX1_search_190 : decode cX1_search 190 = .ok (.ifCond .gt 10, 3) := by decide +kernel
theorem dX1_search_193 : decode cX1_search 193 = .ok (.aload_n 0, 1) := by decide +kernel
theorem dX1_search_194 : decode cX1_search 194 = .ok (.invokevirtual 112, 3) := by decide +kernel
theorem dX1_search_197 : decode cX1_search 197 = .ok (.ifCond .ne 7, 3) := by decide +kernel
theorem dX1_search_200 : decode cX1_search 200 = .ok (.iconst 1, 1) := by decide +kernel
theorem dX1_search_201 : decode cX1_search 201 = .ok (.goto 4, 3) := by decide +kernel
theorem dX1_search_204 : decode cX1_search 204 = .ok (.iconst 0, 1) := by decide +kernel
theorem dX1_search_205 : decode cX1_search 205 = .ok (.ireturn, 1) := by decide +kernel
theorem dX1_goes_0 : decode cX1_goes 0 = .ok (.aload_n 0, 1) := by decide +kernel
theorem dX1_goes_1 : decode cX1_goes 1 = .ok (.getfield 22, 3) := by decide +kernel
theorem dX1_goes_4 : decode cX1_goes 4 = .ok (.iload_n 1, 1) := by decide +kernel
theorem dX1_goes_5 : decode cX1_goes 5 = .ok (.iaload, 1) := by decide +kernel
theorem dX1_goes_6 : decode cX1_goes 6 = .ok (.istore 4, 2) := by decide +kernel
theorem dX1_goes_8 : decode cX1_goes 8 = .ok (.aload_n 0, 1) := by decide +kernel
theorem dX1_goes_9 : decode cX1_goes 9 = .ok (.getfield 19, 3) := by decide +kernel
theorem dX1_goes_12 : decode cX1_goes 12 = .ok (.iload 4, 2) := by decide +kernel
theorem dX1_goes_14 : decode cX1_goes 14 = .ok (.bipush (-2), 2) := by decide +kernel
theorem dX1_goes_16 : decode cX1_goes 16 = .ok (.iastore, 1) := by decide +kernel
theorem dX1_goes_17 : decode cX1_goes 17 = .ok (.aload_n 0, 1) := by decide +kernel
theorem dX1_goes_18 : decode cX1_goes 18 = .ok (.getfield 25, 3) := by decide +kernel
theorem dX1_goes_21 : decode cX1_goes 21 = .ok (.iload_n 1, 1) := by decide +kernel
theorem dX1_goes_22 : decode cX1_goes 22 = .ok (.iaload, 1) := by decide +kernel
theorem dX1_goes_23 : decode cX1_goes 23 = .ok (.aload_n 0, 1) := by decide +kernel
theorem dX1_goes_24 : decode cX1_goes 24 = .ok (.getfield 7, 3) := by decide +kernel
theorem dX1_goes_27 : decode cX1_goes 27 = .ok (.iload 4, 2) := by decide +kernel
theorem dX1_goes_29 : decode cX1_goes 29 = .ok (.iaload, 1) := by decide +kernel
theorem dX1_goes_30 : decode cX1_goes 30 = .ok (.if_icmp .gt 78, 3) := by decide +kernel
theorem dX1_goes_33 : decode cX1_goes 33 = .ok (.aload_n 0, 1) := by decide +kernel
theorem dX1_goes_34 : decode cX1_goes 34 = .ok (.getfield 19, 3) := by decide +kernel
theorem dX1_goes_37 : decode cX1_goes 37 = .ok (.iload 4, 2) := by decide +kernel
theorem dX1_goes_39 : decode cX1_goes 39 = .ok (.aload_n 0, 1) := by decide +kernel
theorem dX1_goes_40 : decode cX1_goes 40 = .ok (.iload_n 1, 1) := by decide +kernel
theorem dX1_goes_41 : decode cX1_goes 41 = .ok (.aload_n 0, 1) := by decide +kernel
theorem dX1_goes_42 : decode cX1_goes 42 = .ok (.getfield 25, 3) := by decide +kernel
theorem dX1_goes_45 : decode cX1_goes 45 = .ok (.iload_n 1, 1) := by decide +kernel
theorem dX1_goes_46 : decode cX1_goes 46 = .ok (.iaload, 1) := by decide +kernel
theorem dX1_goes_47 : decode cX1_goes 47 = .ok (.invokevirtual 116, 3) := by decide +kernel
theorem dX1_goes_50 : decode cX1_goes 50 = .ok (.iastore, 1) := by decide +kernel
theorem dX1_goes_51 : decode cX1_goes 51 = .ok (.aload_n 0, 1) := by decide +kernel
theorem dX1_goes_52 : decode cX1_goes 52 = .ok (.getfield 25, 3) := by decide +kernel
theorem dX1_goes_55 : decode cX1_goes 55 = .ok (.iload_n 1, 1) := by decide +kernel
theorem dX1_goes_56 : decode cX1_goes 56 = .ok (.dup2, 1) := by decide +kernel
theorem dX1_goes_57 : decode cX1_goes 57 = .ok (.iaload, 1) := by decide +kernel
theorem dX1_goes_58 : decode cX1_goes 58 = .ok (.iconst 1, 1) := by decide +kernel
theorem dX1_goes_59 : decode cX1_goes 59 = .ok (.iadd, 1) := by decide +kernel
theorem dX1_goes_60 : decode cX1_goes 60 = .ok (.iastore, 1) := by decide +kernel
theorem dX1_goes_61 : decode cX1_goes 61 = .ok (.iload 4, 2) := by decide +kernel
theorem dX1_goes_63 : decode cX1_goes 63 = .ok (.iload_n 2, 1) := by decide +kernel
theorem dX1_goes_64 : decode cX1_goes 64 = .ok (.if_icmp .ne 17, 3) := by decide +kernel
theorem dX1_goes_67 : decode cX1_goes 67 = .ok (.aload_n 0, 1) := by decide +kernel
theorem dX1_goes_68 : decode cX1_goes 68 = .ok (.getfield 19, 3) := by decide +kernel
theorem dX1_goes_71 : decode cX1_goes 71 = .ok (.iload 4, 2) := by decide +kernel
theorem dX1_goes_73 : decode cX1_goes 73 = .ok (.iaload, 1) := by decide +kernel
theorem dX1_goes_74 : decode cX1_goes 74 = .ok (.iload_n 3, 1) := by decide +kernel
theorem dX1_goes_75 : decode cX1_goes 75 = .ok (.if_icmp .eq 6, 3) := by decide +kernel
theorem dX1_goes_78 : decode cX1_goes 78 = .ok (.goto (-61), 3) := by decide +kernel
theorem dX1_goes_81 : decode cX1_goes 81 = .ok (.aload_n 0, 1) := by decide +kernel
theorem dX1_goes_82 : decode cX1_goes 82 = .ok (.invokevirtual 112, 3) := by decide +kernel
theorem dX1_goes_85 : decode cX1_goes 85 = .ok (.istore 5, 2) := by decide +kernel
theorem dX1_goes_87 : decode cX1_goes 87 = .ok (.iload 5, 2) := by decide +kernel
theorem dX1_goes_89 : decode cX1_goes 89 = .ok (.ifCond .ne 5, 3) := by decide +kernel
theorem dX1_goes_92 : decode cX1_goes 92 = .ok (.iconst 1, 1) := by decide +kernel
theorem dX1_goes_93 : decode cX1_goes 93 = .ok (.ireturn, 1) := by decide +kernel
theorem dX1_goes_94 : decode cX1_goes 94 = .ok (.aload_n 0, 1) := by decide +kernel
theorem dX1_goes_95 : decode cX1_goes 95 = .ok (.getfield 28, 3) := by decide +kernel
theorem dX1_goes_98 : decode cX1_goes 98 = .ok (.iload_n 1, 1) := by decide +kernel
theorem dX1_goes_99 : decode cX1_goes 99 = .ok (.dup2, 1) := by decide +kernel
theorem dX1_goes_100 : decode cX1_goes 100 = .ok (.iaload, 1) := by decide +kernel
theorem dX1_goes_101 : decode cX1_goes 101 = .ok (.iload 5, 2) := by decide +kernel
theorem dX1_goes_103 : decode cX1_goes 103 = .ok (.ior, 1) := by decide +kernel
theorem dX1_goes_104 : decode cX1_goes 104 = .ok (.iastore, 1) := by decide +kernel
theorem dX1_goes_105 : decode cX1_goes 105 = .ok (.goto (-88), 3) := by decide +kernel
theorem dX1_goes_108 : decode cX1_goes 108 = .ok (.iconst 0, 1) := by decide +kernel
theorem dX1_goes_109 : decode cX1_goes 109 = .ok (.ireturn, 1) := by decide +kernel
theorem dX1_none_0 : decode cX1_none 0 = .ok (.iconst 0, 1) := by decide +kernel
theorem dX1_none_1 : decode cX1_none 1 = .ok (.istore_n 1, 1) := by decide +kernel
theorem dX1_none_2 : decode cX1_none 2 = .ok (.iload_n 1, 1) := by decide +kernel
theorem dX1_none_3 : decode cX1_none 3 = .ok (.bipush 12, 2) := by decide +kernel
theorem dX1_none_5 : decode cX1_none 5 = .ok (.if_icmp .ge 16, 3) := by decide +kernel
theorem dX1_none_8 : decode cX1_none 8 = .ok (.aload_n 0, 1) := by decide +kernel
theorem dX1_none_9 : decode cX1_none 9 = .ok (.getfield 53, 3) := by decide +kernel
theorem dX1_none_12 : decode cX1_none 12 = .ok (.iload_n 1, 1) := by decide +kernel
theorem dX1_none_13 : decode cX1_none 13 = .ok (.iconst 0, 1) := by decide +kernel
theorem dX1_none_14 : decode cX1_none 14 = .ok (.bastore, 1) := by decide +kernel
theorem dX1_none_15 : decode cX1_none 15 = .ok (.iinc 1 1, 3) := by decide +kernel
theorem dX1_none_18 : decode cX1_none 18 = .ok (.goto (-16), 3) := by decide +kernel
theorem dX1_none_21 : decode cX1_none 21 = .ok (.return_, 1) := by decide +kernel
theorem dX1_solve_0 : decode cX1_solve 0 = .ok (.aload_n 0, 1) := by decide +kernel
theorem dX1_solve_1 : decode cX1_solve 1 = .ok (.iconst 0, 1) := by decide +kernel
theorem dX1_solve_2 : decode cX1_solve 2 = .ok (.putfield 63, 3) := by decide +kernel
theorem dX1_solve_5 : decode cX1_solve 5 = .ok (.aload_n 0, 1) := by decide +kernel
theorem dX1_solve_6 : decode cX1_solve 6 = .ok (.invokevirtual 119, 3) := by decide +kernel
theorem dX1_solve_9 : decode cX1_solve 9 = .ok (.aload_n 0, 1) := by decide +kernel
theorem dX1_solve_10 : decode cX1_solve 10 = .ok (.iconst (-1), 1) := by decide +kernel
theorem dX1_solve_11 : decode cX1_solve 11 = .ok (.iconst (-1), 1) := by decide +kernel
theorem dX1_solve_12 : decode cX1_solve 12 = .ok (.invokevirtual 122, 3) := by decide +kernel
theorem dX1_solve_15 : decode cX1_solve 15 = .ok (.istore_n 1, 1) := by decide +kernel
theorem dX1_solve_16 : decode cX1_solve 16 = .ok (.iconst 0, 1) := by decide +kernel
theorem dX1_solve_17 : decode cX1_solve 17 = .ok (.istore_n 2, 1) := by decide +kernel
theorem dX1_solve_18 : decode cX1_solve 18 = .ok (.iload_n 2, 1) := by decide +kernel
theorem dX1_solve_19 : decode cX1_solve 19 = .ok (.bipush 8, 2) := by decide +kernel
theorem dX1_solve_21 : decode cX1_solve 21 = .ok (.if_icmp .ge 37, 3) := by decide +kernel
theorem dX1_solve_24 : decode cX1_solve 24 = .ok (.aload_n 0, 1) := by decide +kernel
theorem dX1_solve_25 : decode cX1_solve 25 = .ok (.getfield 16, 3) := by decide +kernel
theorem dX1_solve_28 : decode cX1_solve 28 = .ok (.iload_n 2, 1) := by decide +kernel
theorem dX1_solve_29 : decode cX1_solve 29 = .ok (.iload_n 1, 1) := by decide +kernel
theorem dX1_solve_30 : decode cX1_solve 30 = .ok (.ifCond .eq 20, 3) := by decide +kernel
theorem dX1_solve_33 : decode cX1_solve 33 = .ok (.iload_n 2, 1) := by decide +kernel
theorem dX1_solve_34 : decode cX1_solve 34 = .ok (.aload_n 0, 1) := by decide +kernel
theorem dX1_solve_35 : decode cX1_solve 35 = .ok (.getfield 66, 3) := by decide +kernel
theorem dX1_solve_38 : decode cX1_solve 38 = .ok (.if_icmp .ge 12, 3) := by decide +kernel
theorem dX1_solve_41 : decode cX1_solve 41 = .ok (.aload_n 0, 1) := by decide +kernel
theorem dX1_solve_42 : decode cX1_solve 42 = .ok (.getfield 19, 3) := by decide +kernel
theorem dX1_solve_45 : decode cX1_solve 45 = .ok (.iload_n 2, 1) := by decide +kernel
theorem dX1_solve_46 : decode cX1_solve 46 = .ok (.iaload, 1) := by decide +kernel
theorem dX1_solve_47 : decode cX1_solve 47 = .ok (.goto 4, 3) := by decide +kernel
theorem dX1_solve_50 : decode cX1_solve 50 = .ok (.iconst (-1), 1) := by decide +kernel
theorem dX1_solve_51 : decode cX1_solve 51 = .ok (.iastore, 1) := by decide +kernel
theorem dX1_solve_52 : decode cX1_solve 52 = .ok (.iinc 2 1, 3) := by decide +kernel
theorem dX1_solve_55 : decode cX1_solve 55 = .ok (.goto (-37), 3) := by decide +kernel
theorem dX1_solve_58 : decode cX1_solve 58 = .ok (.iload_n 1, 1) := by decide +kernel
theorem dX1_solve_59 : decode cX1_solve 59 = .ok (.ifCond .eq 7, 3) := by decide +kernel
theorem dX1_solve_62 : decode cX1_solve 62 = .ok (.iconst 1, 1) := by decide +kernel
theorem dX1_solve_63 : decode cX1_solve 63 = .ok (.goto 4, 3) := by decide +kernel
theorem dX1_solve_66 : decode cX1_solve 66 = .ok (.iconst 0, 1) := by decide +kernel
theorem dX1_solve_67 : decode cX1_solve 67 = .ok (.ireturn, 1) := by decide +kernel
theorem dX1_chosen_0 : decode cX1_chosen 0 = .ok (.aload_n 0, 1) := by decide +kernel
theorem dX1_chosen_1 : decode cX1_chosen 1 = .ok (.iconst 0, 1) := by decide +kernel
theorem dX1_chosen_2 : decode cX1_chosen 2 = .ok (.putfield 63, 3) := by decide +kernel
theorem dX1_chosen_5 : decode cX1_chosen 5 = .ok (.aload_n 0, 1) := by decide +kernel
theorem dX1_chosen_6 : decode cX1_chosen 6 = .ok (.iload_n 1, 1) := by decide +kernel
theorem dX1_chosen_7 : decode cX1_chosen 7 = .ok (.invokevirtual 69, 3) := by decide +kernel
theorem dX1_chosen_10 : decode cX1_chosen 10 = .ok (.ifCond .eq 12, 3) := by decide +kernel
theorem dX1_chosen_13 : decode cX1_chosen 13 = .ok (.aload_n 0, 1) := by decide +kernel
theorem dX1_chosen_14 : decode cX1_chosen 14 = .ok (.getfield 16, 3) := by decide +kernel
theorem dX1_chosen_17 : decode cX1_chosen 17 = .ok (.iload_n 1, 1) := by decide +kernel
theorem dX1_chosen_18 : decode cX1_chosen 18 = .ok (.iaload, 1) := by decide +kernel
theorem dX1_chosen_19 : decode cX1_chosen 19 = .ok (.goto 4, 3) := by decide +kernel
theorem dX1_chosen_22 : decode cX1_chosen 22 = .ok (.iconst (-1), 1) := by decide +kernel
theorem dX1_chosen_23 : decode cX1_chosen 23 = .ok (.ireturn, 1) := by decide +kernel
theorem dX1_blame_0 : decode cX1_blame 0 = .ok (.aload_n 0, 1) := by decide +kernel
theorem dX1_blame_1 : decode cX1_blame 1 = .ok (.iconst 0, 1) := by decide +kernel
theorem dX1_blame_2 : decode cX1_blame 2 = .ok (.putfield 63, 3) := by decide +kernel
theorem dX1_blame_5 : decode cX1_blame 5 = .ok (.aload_n 0, 1) := by decide +kernel
theorem dX1_blame_6 : decode cX1_blame 6 = .ok (.iconst 0, 1) := by decide +kernel
theorem dX1_blame_7 : decode cX1_blame 7 = .ok (.putfield 125, 3) := by decide +kernel
theorem dX1_blame_10 : decode cX1_blame 10 = .ok (.aload_n 0, 1) := by decide +kernel
theorem dX1_blame_11 : decode cX1_blame 11 = .ok (.invokevirtual 119, 3) := by decide +kernel
theorem dX1_blame_14 : decode cX1_blame 14 = .ok (.aload_n 0, 1) := by decide +kernel
theorem dX1_blame_15 : decode cX1_blame 15 = .ok (.iconst (-1), 1) := by decide +kernel
theorem dX1_blame_16 : decode cX1_blame 16 = .ok (.iconst (-1), 1) := by decide +kernel
theorem dX1_blame_17 : decode cX1_blame 17 = .ok (.invokevirtual 122, 3) := by decide +kernel
theorem dX1_blame_20 : decode cX1_blame 20 = .ok (.ifCond .eq 5, 3) := by decide +kernel
theorem dX1_blame_23 : decode cX1_blame 23 = .ok (.iconst 0, 1) := by decide +kernel
theorem dX1_blame_24 : decode cX1_blame 24 = .ok (.ireturn, 1) := by decide +kernel
theorem dX1_blame_25 : decode cX1_blame 25 = .ok (.iconst 0, 1) := by decide +kernel
theorem dX1_blame_26 : decode cX1_blame 26 = .ok (.istore_n 1, 1) := by decide +kernel
theorem dX1_blame_27 : decode cX1_blame 27 = .ok (.iload_n 1, 1) := by decide +kernel
theorem dX1_blame_28 : decode cX1_blame 28 = .ok (.aload_n 0, 1) := by decide +kernel
theorem dX1_blame_29 : decode cX1_blame 29 = .ok (.getfield 84, 3) := by decide +kernel
theorem dX1_blame_32 : decode cX1_blame 32 = .ok (.if_icmp .ge 67, 3) := by decide +kernel
theorem dX1_blame_35 : decode cX1_blame 35 = .ok (.aload_n 0, 1) := by decide +kernel
theorem dX1_blame_36 : decode cX1_blame 36 = .ok (.getfield 49, 3) := by decide +kernel
theorem dX1_blame_39 : decode cX1_blame 39 = .ok (.iload_n 1, 1) := by decide +kernel
theorem dX1_blame_40 : decode cX1_blame 40 = .ok (.baload, 1) := by decide +kernel
theorem dX1_blame_41 : decode cX1_blame 41 = .ok (.ifCond .eq 6, 3) := by decide +kernel
theorem dX1_blame_44 : decode cX1_blame 44 = .ok (.goto 49, 3) := by decide +kernel
theorem dX1_blame_47 : decode cX1_blame 47 = .ok (.aload_n 0, 1) := by decide +kernel
theorem dX1_blame_48 : decode cX1_blame 48 = .ok (.getfield 53, 3) := by decide +kernel
theorem dX1_blame_51 : decode cX1_blame 51 = .ok (.iload_n 1, 1) := by decide +kernel
theorem dX1_blame_52 : decode cX1_blame 52 = .ok (.iconst 1, 1) := by decide +kernel
theorem dX1_blame_53 : decode cX1_blame 53 = .ok (.bastore, 1) := by decide +kernel
theorem dX1_blame_54 : decode cX1_blame 54 = .ok (.aload_n 0, 1) := by decide +kernel
theorem dX1_blame_55 : decode cX1_blame 55 = .ok (.iconst (-1), 1) := by decide +kernel
theorem dX1_blame_56 : decode cX1_blame 56 = .ok (.iconst (-1), 1) := by decide +kernel
theorem dX1_blame_57 : decode cX1_blame 57 = .ok (.invokevirtual 122, 3) := by decide +kernel
theorem dX1_blame_60 : decode cX1_blame 60 = .ok (.ifCond .ne 6, 3) := by decide +kernel
theorem dX1_blame_63 : decode cX1_blame 63 = .ok (.goto 30, 3) := by decide +kernel
theorem dX1_blame_66 : decode cX1_blame 66 = .ok (.aload_n 0, 1) := by decide +kernel
theorem dX1_blame_67 : decode cX1_blame 67 = .ok (.getfield 53, 3) := by decide +kernel
theorem dX1_blame_70 : decode cX1_blame 70 = .ok (.iload_n 1, 1) := by decide +kernel
theorem dX1_blame_71 : decode cX1_blame 71 = .ok (.iconst 0, 1) := by decide +kernel
theorem dX1_blame_72 : decode cX1_blame 72 = .ok (.bastore, 1) := by decide +kernel
theorem dX1_blame_73 : decode cX1_blame 73 = .ok (.aload_n 0, 1) := by decide +kernel
theorem dX1_blame_74 : decode cX1_blame 74 = .ok (.getfield 60, 3) := by decide +kernel
theorem dX1_blame_77 : decode cX1_blame 77 = .ok (.aload_n 0, 1) := by decide +kernel
theorem dX1_blame_78 : decode cX1_blame 78 = .ok (.getfield 125, 3) := by decide +kernel
theorem dX1_blame_81 : decode cX1_blame 81 = .ok (.iload_n 1, 1) := by decide +kernel
theorem dX1_blame_82 : decode cX1_blame 82 = .ok (.iastore, 1) := by decide +kernel
theorem dX1_blame_83 : decode cX1_blame 83 = .ok (.aload_n 0, 1) := by decide +kernel
theorem dX1_blame_84 : decode cX1_blame 84 = .ok (.dup, 1) := by decide +kernel
theorem dX1_blame_85 : decode cX1_blame 85 = .ok (.getfield 125, 3) := by decide +kernel
theorem dX1_blame_88 : decode cX1_blame 88 = .ok (.iconst 1, 1) := by decide +kernel
theorem dX1_blame_89 : decode cX1_blame 89 = .ok (.iadd, 1) := by decide +kernel
theorem dX1_blame_90 : decode cX1_blame 90 = .ok (.putfield 125, 3) := by decide +kernel
theorem dX1_blame_93 : decode cX1_blame 93 = .ok (.iinc 1 1, 3) := by decide +kernel
theorem dX1_blame_96 : decode cX1_blame 96 = .ok (.goto (-69), 3) := by decide +kernel
theorem dX1_blame_99 : decode cX1_blame 99 = .ok (.aload_n 0, 1) := by decide +kernel
theorem dX1_blame_100 : decode cX1_blame 100 = .ok (.getfield 125, 3) := by decide +kernel
theorem dX1_blame_103 : decode cX1_blame 103 = .ok (.ireturn, 1) := by decide +kernel
theorem dX1_blamed_0 : decode cX1_blamed 0 = .ok (.aload_n 0, 1) := by decide +kernel
theorem dX1_blamed_1 : decode cX1_blamed 1 = .ok (.iconst 0, 1) := by decide +kernel
theorem dX1_blamed_2 : decode cX1_blamed 2 = .ok (.putfield 63, 3) := by decide +kernel
theorem dX1_blamed_5 : decode cX1_blamed 5 = .ok (.iload_n 1, 1) := by decide +kernel
theorem dX1_blamed_6 : decode cX1_blamed 6 = .ok (.ifCond .lt 11, 3) := by decide +kernel
theorem dX1_blamed_9 : decode cX1_blamed 9 = .ok (.iload_n 1, 1) := by decide +kernel
theorem dX1_blamed_10 : decode cX1_blamed 10 = .ok (.aload_n 0, 1) := by decide +kernel
theorem dX1_blamed_11 : decode cX1_blamed 11 = .ok (.getfield 125, 3) := by decide +kernel
theorem dX1_blamed_14 : decode cX1_blamed 14 = .ok (.if_icmp .lt 7, 3) := by decide +kernel
theorem dX1_blamed_17 : decode cX1_blamed 17 = .ok (.iconst (-1), 1) := by decide +kernel
theorem dX1_blamed_18 : decode cX1_blamed 18 = .ok (.goto 9, 3) := by decide +kernel
theorem dX1_blamed_21 : decode cX1_blamed 21 = .ok (.aload_n 0, 1) := by decide +kernel
theorem dX1_blamed_22 : decode cX1_blamed 22 = .ok (.getfield 60, 3) := by decide +kernel
theorem dX1_blamed_25 : decode cX1_blamed 25 = .ok (.iload_n 1, 1) := by decide +kernel
theorem dX1_blamed_26 : decode cX1_blamed 26 = .ok (.iaload, 1) := by decide +kernel
theorem dX1_blamed_27 : decode cX1_blamed 27 = .ok (.ireturn, 1) := by decide +kernel
theorem dX1_can_0 : decode cX1_can 0 = .ok (.aload_n 0, 1) := by decide +kernel
theorem dX1_can_1 : decode cX1_can 1 = .ok (.iconst 0, 1) := by decide +kernel
theorem dX1_can_2 : decode cX1_can 2 = .ok (.putfield 63, 3) := by decide +kernel
theorem dX1_can_5 : decode cX1_can 5 = .ok (.aload_n 0, 1) := by decide +kernel
theorem dX1_can_6 : decode cX1_can 6 = .ok (.iload_n 1, 1) := by decide +kernel
theorem dX1_can_7 : decode cX1_can 7 = .ok (.invokevirtual 69, 3) := by decide +kernel
theorem dX1_can_10 : decode cX1_can 10 = .ok (.ifCond .eq 17, 3) := by decide +kernel
theorem dX1_can_13 : decode cX1_can 13 = .ok (.iload_n 2, 1) := by decide +kernel
theorem dX1_can_14 : decode cX1_can 14 = .ok (.iconst (-1), 1) := by decide +kernel
theorem dX1_can_15 : decode cX1_can 15 = .ok (.if_icmp .eq 14, 3) := by decide +kernel
theorem dX1_can_18 : decode cX1_can 18 = .ok (.aload_n 0, 1) := by decide +kernel
theorem dX1_can_19 : decode cX1_can 19 = .ok (.iload_n 1, 1) := by decide +kernel
theorem dX1_can_20 : decode cX1_can 20 = .ok (.iload_n 2, 1) := by decide +kernel
theorem dX1_can_21 : decode cX1_can 21 = .ok (.invokevirtual 73, 3) := by decide +kernel
theorem dX1_can_24 : decode cX1_can 24 = .ok (.ifCond .ne 5, 3) := by decide +kernel
theorem dX1_can_27 : decode cX1_can 27 = .ok (.iconst 0, 1) := by decide +kernel
theorem dX1_can_28 : decode cX1_can 28 = .ok (.ireturn, 1) := by decide +kernel
theorem dX1_can_29 : decode cX1_can 29 = .ok (.aload_n 0, 1) := by decide +kernel
theorem dX1_can_30 : decode cX1_can 30 = .ok (.invokevirtual 119, 3) := by decide +kernel
theorem dX1_can_33 : decode cX1_can 33 = .ok (.aload_n 0, 1) := by decide +kernel
theorem dX1_can_34 : decode cX1_can 34 = .ok (.iload_n 1, 1) := by decide +kernel
theorem dX1_can_35 : decode cX1_can 35 = .ok (.iload_n 2, 1) := by decide +kernel
theorem dX1_can_36 : decode cX1_can 36 = .ok (.invokevirtual 122, 3) := by decide +kernel
theorem dX1_can_39 : decode cX1_can 39 = .ok (.ireturn, 1) := by decide +kernel
theorem dX1_must_0 : decode cX1_must 0 = .ok (.aload_n 0, 1) := by decide +kernel
theorem dX1_must_1 : decode cX1_must 1 = .ok (.iconst 0, 1) := by decide +kernel
theorem dX1_must_2 : decode cX1_must 2 = .ok (.putfield 63, 3) := by decide +kernel
theorem dX1_must_5 : decode cX1_must 5 = .ok (.aload_n 0, 1) := by decide +kernel
theorem dX1_must_6 : decode cX1_must 6 = .ok (.iload_n 1, 1) := by decide +kernel
theorem dX1_must_7 : decode cX1_must 7 = .ok (.invokevirtual 69, 3) := by decide +kernel
theorem dX1_must_10 : decode cX1_must 10 = .ok (.ifCond .ne 5, 3) := by decide +kernel
theorem dX1_must_13 : decode cX1_must 13 = .ok (.iconst 0, 1) := by decide +kernel
theorem dX1_must_14 : decode cX1_must 14 = .ok (.ireturn, 1) := by decide +kernel
theorem dX1_must_15 : decode cX1_must 15 = .ok (.aload_n 0, 1) := by decide +kernel
theorem dX1_must_16 : decode cX1_must 16 = .ok (.invokevirtual 119, 3) := by decide +kernel
theorem dX1_must_19 : decode cX1_must 19 = .ok (.aload_n 0, 1) := by decide +kernel
theorem dX1_must_20 : decode cX1_must 20 = .ok (.iload_n 1, 1) := by decide +kernel
theorem dX1_must_21 : decode cX1_must 21 = .ok (.iconst (-1), 1) := by decide +kernel
theorem dX1_must_22 : decode cX1_must 22 = .ok (.invokevirtual 122, 3) := by decide +kernel
theorem dX1_must_25 : decode cX1_must 25 = .ok (.ifCond .ne 7, 3) := by decide +kernel
theorem dX1_must_28 : decode cX1_must 28 = .ok (.iconst 1, 1) := by decide +kernel
theorem dX1_must_29 : decode cX1_must 29 = .ok (.goto 4, 3) := by decide +kernel
theorem dX1_must_32 : decode cX1_must 32 = .ok (.iconst 0, 1) := by decide +kernel
theorem dX1_must_33 : decode cX1_must 33 = .ok (.ireturn, 1) := by decide +kernel
