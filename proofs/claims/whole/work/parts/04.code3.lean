theorem dX9_kind_115 : decode cX9_kind 115 = .ok (.iload_n 3, 1) := by decide +kernel
theorem dX9_kind_116 : decode cX9_kind 116 = .ok (.iadd, 1) := by decide +kernel
theorem dX9_kind_117 : decode cX9_kind 117 = .ok (.iload_n 1, 1) := by decide +kernel
theorem dX9_kind_118 : decode cX9_kind 118 = .ok (.ifCond .ge 7, 3) := by decide +kernel
theorem dX9_kind_121 : decode cX9_kind 121 = .ok (.iconst (-1), 1) := by decide +kernel
theorem dX9_kind_122 : decode cX9_kind 122 = .ok (.goto 14, 3) := by decide +kernel
theorem dX9_kind_125 : decode cX9_kind 125 = .ok (.aload_n 0, 1) := by decide +kernel
theorem dX9_kind_126 : decode cX9_kind 126 = .ok (.getfield 23, 3) := by decide +kernel
theorem dX9_kind_129 : decode cX9_kind 129 = .ok (.bipush 16, 2) := by decide +kernel
theorem dX9_kind_131 : decode cX9_kind 131 = .ok (.iload_n 1, 1) := by decide +kernel
theorem dX9_kind_132 : decode cX9_kind 132 = .ok (.imul, 1) := by decide +kernel
theorem dX9_kind_133 : decode cX9_kind 133 = .ok (.iload_n 3, 1) := by decide +kernel
theorem dX9_kind_134 : decode cX9_kind 134 = .ok (.iadd, 1) := by decide +kernel
theorem dX9_kind_135 : decode cX9_kind 135 = .ok (.iaload, 1) := by decide +kernel
theorem dX9_kind_136 : decode cX9_kind 136 = .ok (.iastore, 1) := by decide +kernel
theorem dX9_kind_137 : decode cX9_kind 137 = .ok (.iinc 3 1, 3) := by decide +kernel
theorem dX9_kind_140 : decode cX9_kind 140 = .ok (.goto (-39), 3) := by decide +kernel
theorem dX9_kind_143 : decode cX9_kind 143 = .ok (.aload_n 0, 1) := by decide +kernel
theorem dX9_kind_144 : decode cX9_kind 144 = .ok (.getfield 13, 3) := by decide +kernel
theorem dX9_kind_147 : decode cX9_kind 147 = .ok (.iload_n 2, 1) := by decide +kernel
theorem dX9_kind_148 : decode cX9_kind 148 = .ok (.iconst 0, 1) := by decide +kernel
theorem dX9_kind_149 : decode cX9_kind 149 = .ok (.bastore, 1) := by decide +kernel
theorem dX9_kind_150 : decode cX9_kind 150 = .ok (.iload_n 1, 1) := by decide +kernel
theorem dX9_kind_151 : decode cX9_kind 151 = .ok (.ifCond .lt 10, 3) := by decide +kernel
theorem dX9_kind_154 : decode cX9_kind 154 = .ok (.aload_n 0, 1) := by decide +kernel
theorem dX9_kind_155 : decode cX9_kind 155 = .ok (.getfield 13, 3) := by decide +kernel
theorem dX9_kind_158 : decode cX9_kind 158 = .ok (.iload_n 1, 1) := by decide +kernel
theorem dX9_kind_159 : decode cX9_kind 159 = .ok (.iconst 1, 1) := by decide +kernel
theorem dX9_kind_160 : decode cX9_kind 160 = .ok (.bastore, 1) := by decide +kernel
theorem dX9_kind_161 : decode cX9_kind 161 = .ok (.aload_n 0, 1) := by decide +kernel
theorem dX9_kind_162 : decode cX9_kind 162 = .ok (.dup, 1) := by decide +kernel
theorem dX9_kind_163 : decode cX9_kind 163 = .ok (.getfield 90, 3) := by decide +kernel
theorem dX9_kind_166 : decode cX9_kind 166 = .ok (.iconst 1, 1) := by decide +kernel
theorem dX9_kind_167 : decode cX9_kind 167 = .ok (.iadd, 1) := by decide +kernel
theorem dX9_kind_168 : decode cX9_kind 168 = .ok (.putfield 90, 3) := by decide +kernel
theorem dX9_kind_171 : decode cX9_kind 171 = .ok (.iload_n 2, 1) := by decide +kernel
theorem dX9_kind_172 : decode cX9_kind 172 = .ok (.ireturn, 1) := by decide +kernel
theorem dX9_field_0 : decode cX9_field 0 = .ok (.aload_n 0, 1) := by decide +kernel
theorem dX9_field_1 : decode cX9_field 1 = .ok (.iload_n 1, 1) := by decide +kernel
theorem dX9_field_2 : decode cX9_field 2 = .ok (.invokevirtual 97, 3) := by decide +kernel
theorem dX9_field_5 : decode cX9_field 5 = .ok (.ifCond .eq 20, 3) := by decide +kernel
theorem dX9_field_8 : decode cX9_field 8 = .ok (.aload_n 0, 1) := by decide +kernel
theorem dX9_field_9 : decode cX9_field 9 = .ok (.iload_n 2, 1) := by decide +kernel
theorem dX9_field_10 : decode cX9_field 10 = .ok (.invokevirtual 101, 3) := by decide +kernel
theorem dX9_field_13 : decode cX9_field 13 = .ok (.ifCond .eq 12, 3) := by decide +kernel
theorem dX9_field_16 : decode cX9_field 16 = .ok (.aload_n 0, 1) := by decide +kernel
theorem dX9_field_17 : decode cX9_field 17 = .ok (.getfield 13, 3) := by decide +kernel
theorem dX9_field_20 : decode cX9_field 20 = .ok (.iload_n 1, 1) := by decide +kernel
theorem dX9_field_21 : decode cX9_field 21 = .ok (.baload, 1) := by decide +kernel
theorem dX9_field_22 : decode cX9_field 22 = .ok (.ifCond .eq 5, 3) := by decide +kernel
theorem dX9_field_25 : decode cX9_field 25 = .ok (.iconst (-1), 1) := by decide +kernel
theorem dX9_field_26 : decode cX9_field 26 = .ok (.ireturn, 1) := by decide +kernel
theorem dX9_field_27 : decode cX9_field 27 = .ok (.aload_n 0, 1) := by decide +kernel
theorem dX9_field_28 : decode cX9_field 28 = .ok (.getfield 17, 3) := by decide +kernel
theorem dX9_field_31 : decode cX9_field 31 = .ok (.iload_n 1, 1) := by decide +kernel
theorem dX9_field_32 : decode cX9_field 32 = .ok (.iaload, 1) := by decide +kernel
theorem dX9_field_33 : decode cX9_field 33 = .ok (.bipush 15, 2) := by decide +kernel
theorem dX9_field_35 : decode cX9_field 35 = .ok (.if_icmp .ne 6, 3) := by decide +kernel
theorem dX9_field_38 : decode cX9_field 38 = .ok (.bipush (-2), 2) := by decide +kernel
theorem dX9_field_40 : decode cX9_field 40 = .ok (.ireturn, 1) := by decide +kernel
theorem dX9_field_41 : decode cX9_field 41 = .ok (.aload_n 0, 1) := by decide +kernel
theorem dX9_field_42 : decode cX9_field 42 = .ok (.getfield 20, 3) := by decide +kernel
theorem dX9_field_45 : decode cX9_field 45 = .ok (.bipush 15, 2) := by decide +kernel
theorem dX9_field_47 : decode cX9_field 47 = .ok (.iload_n 1, 1) := by decide +kernel
theorem dX9_field_48 : decode cX9_field 48 = .ok (.imul, 1) := by decide +kernel
theorem dX9_field_49 : decode cX9_field 49 = .ok (.aload_n 0, 1) := by decide +kernel
theorem dX9_field_50 : decode cX9_field 50 = .ok (.getfield 17, 3) := by decide +kernel
theorem dX9_field_53 : decode cX9_field 53 = .ok (.iload_n 1, 1) := by decide +kernel
theorem dX9_field_54 : decode cX9_field 54 = .ok (.iaload, 1) := by decide +kernel
theorem dX9_field_55 : decode cX9_field 55 = .ok (.iadd, 1) := by decide +kernel
theorem dX9_field_56 : decode cX9_field 56 = .ok (.iload_n 2, 1) := by decide +kernel
theorem dX9_field_57 : decode cX9_field 57 = .ok (.iastore, 1) := by decide +kernel
theorem dX9_field_58 : decode cX9_field 58 = .ok (.aload_n 0, 1) := by decide +kernel
theorem dX9_field_59 : decode cX9_field 59 = .ok (.getfield 17, 3) := by decide +kernel
theorem dX9_field_62 : decode cX9_field 62 = .ok (.iload_n 1, 1) := by decide +kernel
theorem dX9_field_63 : decode cX9_field 63 = .ok (.dup2, 1) := by decide +kernel
theorem dX9_field_64 : decode cX9_field 64 = .ok (.iaload, 1) := by decide +kernel
theorem dX9_field_65 : decode cX9_field 65 = .ok (.iconst 1, 1) := by decide +kernel
theorem dX9_field_66 : decode cX9_field 66 = .ok (.iadd, 1) := by decide +kernel
theorem dX9_field_67 : decode cX9_field 67 = .ok (.iastore, 1) := by decide +kernel
theorem dX9_field_68 : decode cX9_field 68 = .ok (.aload_n 0, 1) := by decide +kernel
theorem dX9_field_69 : decode cX9_field 69 = .ok (.getfield 17, 3) := by decide +kernel
theorem dX9_field_72 : decode cX9_field 72 = .ok (.iload_n 1, 1) := by decide +kernel
theorem dX9_field_73 : decode cX9_field 73 = .ok (.iaload, 1) := by decide +kernel
theorem dX9_field_74 : decode cX9_field 74 = .ok (.iconst 1, 1) := by decide +kernel
theorem dX9_field_75 : decode cX9_field 75 = .ok (.isub, 1) := by decide +kernel
theorem dX9_field_76 : decode cX9_field 76 = .ok (.ireturn, 1) := by decide +kernel
theorem dX9_method_0 : decode cX9_method 0 = .ok (.iload_n 1, 1) := by decide +kernel
theorem dX9_method_1 : decode cX9_method 1 = .ok (.iconst (-1), 1) := by decide +kernel
theorem dX9_method_2 : decode cX9_method 2 = .ok (.if_icmp .eq 11, 3) := by decide +kernel
theorem dX9_method_5 : decode cX9_method 5 = .ok (.aload_n 0, 1) := by decide +kernel
theorem dX9_method_6 : decode cX9_method 6 = .ok (.iload_n 1, 1) := by decide +kernel
theorem dX9_method_7 : decode cX9_method 7 = .ok (.invokevirtual 97, 3) := by decide +kernel
theorem dX9_method_10 : decode cX9_method 10 = .ok (.ifCond .eq 55, 3) := by decide +kernel
theorem dX9_method_13 : decode cX9_method 13 = .ok (.iload_n 2, 1) := by decide +kernel
theorem dX9_method_14 : decode cX9_method 14 = .ok (.iconst (-1), 1) := by decide +kernel
theorem dX9_method_15 : decode cX9_method 15 = .ok (.if_icmp .eq 11, 3) := by decide +kernel
theorem dX9_method_18 : decode cX9_method 18 = .ok (.aload_n 0, 1) := by decide +kernel
theorem dX9_method_19 : decode cX9_method 19 = .ok (.iload_n 2, 1) := by decide +kernel
theorem dX9_method_20 : decode cX9_method 20 = .ok (.invokevirtual 101, 3) := by decide +kernel
theorem dX9_method_23 : decode cX9_method 23 = .ok (.ifCond .eq 42, 3) := by decide +kernel
theorem dX9_method_26 : decode cX9_method 26 = .ok (.iload_n 3, 1) := by decide +kernel
theorem dX9_method_27 : decode cX9_method 27 = .ok (.ifCond .lt 38, 3) := by decide +kernel
theorem dX9_method_30 : decode cX9_method 30 = .ok (.iload 4, 2) := by decide +kernel
theorem dX9_method_32 : decode cX9_method 32 = .ok (.ifCond .lt 33, 3) := by decide +kernel
theorem dX9_method_35 : decode cX9_method 35 = .ok (.iload_n 3, 1) := by decide +kernel
theorem dX9_method_36 : decode cX9_method 36 = .ok (.bipush 12, 2) := by decide +kernel
theorem dX9_method_38 : decode cX9_method 38 = .ok (.if_icmp .gt 27, 3) := by decide +kernel
theorem dX9_method_41 : decode cX9_method 41 = .ok (.iload 4, 2) := by decide +kernel
theorem dX9_method_43 : decode cX9_method 43 = .ok (.bipush 12, 2) := by decide +kernel
theorem dX9_method_45 : decode cX9_method 45 = .ok (.if_icmp .gt 20, 3) := by decide +kernel
theorem dX9_method_48 : decode cX9_method 48 = .ok (.iload_n 3, 1) := by decide +kernel
theorem dX9_method_49 : decode cX9_method 49 = .ok (.iload 4, 2) := by decide +kernel
theorem dX9_method_51 : decode cX9_method 51 = .ok (.iadd, 1) := by decide +kernel
theorem dX9_method_52 : decode cX9_method 52 = .ok (.bipush 12, 2) := by decide +kernel
theorem dX9_method_54 : decode cX9_method 54 = .ok (.if_icmp .gt 11, 3) := by decide +kernel
theorem dX9_method_57 : decode cX9_method 57 = .ok (.iload_n 1, 1) := by decide +kernel
theorem dX9_method_58 : decode cX9_method 58 = .ok (.ifCond .lt 9, 3) := by decide +kernel
theorem dX9_method_61 : decode cX9_method 61 = .ok (.iload_n 3, 1) := by decide +kernel
theorem dX9_method_62 : decode cX9_method 62 = .ok (.ifCond .ne 5, 3) := by decide +kernel
theorem dX9_method_65 : decode cX9_method 65 = .ok (.iconst (-1), 1) := by decide +kernel
theorem dX9_method_66 : decode cX9_method 66 = .ok (.ireturn, 1) := by decide +kernel
theorem dX9_method_67 : decode cX9_method 67 = .ok (.aload_n 0, 1) := by decide +kernel
theorem dX9_method_68 : decode cX9_method 68 = .ok (.getfield 94, 3) := by decide +kernel
theorem dX9_method_71 : decode cX9_method 71 = .ok (.bipush 64, 2) := by decide +kernel
theorem dX9_method_73 : decode cX9_method 73 = .ok (.if_icmp .ne 6, 3) := by decide +kernel
theorem dX9_method_76 : decode cX9_method 76 = .ok (.bipush (-2), 2) := by decide +kernel
theorem dX9_method_78 : decode cX9_method 78 = .ok (.ireturn, 1) := by decide +kernel
theorem dX9_method_79 : decode cX9_method 79 = .ok (.aload_n 0, 1) := by decide +kernel
theorem dX9_method_80 : decode cX9_method 80 = .ok (.getfield 94, 3) := by decide +kernel
theorem dX9_method_83 : decode cX9_method 83 = .ok (.istore 5, 2) := by decide +kernel
theorem dX9_method_85 : decode cX9_method 85 = .ok (.aload_n 0, 1) := by decide +kernel
theorem dX9_method_86 : decode cX9_method 86 = .ok (.getfield 26, 3) := by decide +kernel
theorem dX9_method_89 : decode cX9_method 89 = .ok (.iload 5, 2) := by decide +kernel
theorem dX9_method_91 : decode cX9_method 91 = .ok (.iload_n 1, 1) := by decide +kernel
theorem dX9_method_92 : decode cX9_method 92 = .ok (.iastore, 1) := by decide +kernel
theorem dX9_method_93 : decode cX9_method 93 = .ok (.aload_n 0, 1) := by decide +kernel
theorem dX9_method_94 : decode cX9_method 94 = .ok (.getfield 29, 3) := by decide +kernel
theorem dX9_method_97 : decode cX9_method 97 = .ok (.iload 5, 2) := by decide +kernel
theorem dX9_method_99 : decode cX9_method 99 = .ok (.iload_n 2, 1) := by decide +kernel
theorem dX9_method_100 : decode cX9_method 100 = .ok (.iastore, 1) := by decide +kernel
theorem dX9_method_101 : decode cX9_method 101 = .ok (.aload_n 0, 1) := by decide +kernel
theorem dX9_method_102 : decode cX9_method 102 = .ok (.getfield 32, 3) := by decide +kernel
theorem dX9_method_105 : decode cX9_method 105 = .ok (.iload 5, 2) := by decide +kernel
theorem dX9_method_107 : decode cX9_method 107 = .ok (.iload_n 3, 1) := by decide +kernel
theorem dX9_method_108 : decode cX9_method 108 = .ok (.iastore, 1) := by decide +kernel
theorem dX9_method_109 : decode cX9_method 109 = .ok (.aload_n 0, 1) := by decide +kernel
theorem dX9_method_110 : decode cX9_method 110 = .ok (.getfield 35, 3) := by decide +kernel
theorem dX9_method_113 : decode cX9_method 113 = .ok (.iload 5, 2) := by decide +kernel
theorem dX9_method_115 : decode cX9_method 115 = .ok (.iload 4, 2) := by decide +kernel
theorem dX9_method_117 : decode cX9_method 117 = .ok (.iastore, 1) := by decide +kernel
theorem dX9_method_118 : decode cX9_method 118 = .ok (.aload_n 0, 1) := by decide +kernel
theorem dX9_method_119 : decode cX9_method 119 = .ok (.getfield 38, 3) := by decide +kernel
theorem dX9_method_122 : decode cX9_method 122 = .ok (.iload 5, 2) := by decide +kernel
theorem dX9_method_124 : decode cX9_method 124 = .ok (.iconst 0, 1) := by decide +kernel
theorem dX9_method_125 : decode cX9_method 125 = .ok (.iastore, 1) := by decide +kernel
theorem dX9_method_126 : decode cX9_method 126 = .ok (.iload_n 1, 1) := by decide +kernel
theorem dX9_method_127 : decode cX9_method 127 = .ok (.ifCond .lt 31, 3) := by decide +kernel
theorem dX9_method_130 : decode cX9_method 130 = .ok (.aload_n 0, 1) := by decide +kernel
theorem dX9_method_131 : decode cX9_method 131 = .ok (.getfield 41, 3) := by decide +kernel
theorem dX9_method_134 : decode cX9_method 134 = .ok (.bipush 8, 2) := by decide +kernel
theorem dX9_method_136 : decode cX9_method 136 = .ok (.iload 5, 2) := by decide +kernel
theorem dX9_method_138 : decode cX9_method 138 = .ok (.imul, 1) := by decide +kernel
theorem dX9_method_139 : decode cX9_method 139 = .ok (.iconst 1, 1) := by decide +kernel
theorem dX9_method_140 : decode cX9_method 140 = .ok (.iload_n 1, 1) := by decide +kernel
theorem dX9_method_141 : decode cX9_method 141 = .ok (.iadd, 1) := by decide +kernel
theorem dX9_method_142 : decode cX9_method 142 = .ok (.iastore, 1) := by decide +kernel
theorem dX9_method_143 : decode cX9_method 143 = .ok (.aload_n 0, 1) := by decide +kernel
theorem dX9_method_144 : decode cX9_method 144 = .ok (.getfield 38, 3) := by decide +kernel
theorem dX9_method_147 : decode cX9_method 147 = .ok (.iload 5, 2) := by decide +kernel
theorem dX9_method_149 : decode cX9_method 149 = .ok (.iconst 1, 1) := by decide +kernel
theorem dX9_method_150 : decode cX9_method 150 = .ok (.iastore, 1) := by decide +kernel
theorem dX9_method_151 : decode cX9_method 151 = .ok (.aload_n 0, 1) := by decide +kernel
theorem dX9_method_152 : decode cX9_method 152 = .ok (.getfield 13, 3) := by decide +kernel
theorem dX9_method_155 : decode cX9_method 155 = .ok (.iload_n 1, 1) := by decide +kernel
theorem dX9_method_156 : decode cX9_method 156 = .ok (.iconst 1, 1) := by decide +kernel
theorem dX9_method_157 : decode cX9_method 157 = .ok (.bastore, 1) := by decide +kernel
theorem dX9_method_158 : decode cX9_method 158 = .ok (.aload_n 0, 1) := by decide +kernel
theorem dX9_method_159 : decode cX9_method 159 = .ok (.dup, 1) := by decide +kernel
theorem dX9_method_160 : decode cX9_method 160 = .ok (.getfield 94, 3) := by decide +kernel
theorem dX9_method_163 : decode cX9_method 163 = .ok (.iconst 1, 1) := by decide +kernel
theorem dX9_method_164 : decode cX9_method 164 = .ok (.iadd, 1) := by decide +kernel
theorem dX9_method_165 : decode cX9_method 165 = .ok (.putfield 94, 3) := by decide +kernel
theorem dX9_method_168 : decode cX9_method 168 = .ok (.iload 5, 2) := by decide +kernel
theorem dX9_method_170 : decode cX9_method 170 = .ok (.ireturn, 1) := by decide +kernel
theorem dX9_parameter_0 : decode cX9_parameter 0 = .ok (.aload_n 0, 1) := by decide +kernel
theorem dX9_parameter_1 : decode cX9_parameter 1 = .ok (.iload_n 1, 1) := by decide +kernel
theorem dX9_parameter_2 : decode cX9_parameter 2 = .ok (.invokevirtual 104, 3) := by decide +kernel
theorem dX9_parameter_5 : decode cX9_parameter 5 = .ok (.ifCond .eq 55, 3) := by decide +kernel
theorem dX9_parameter_8 : decode cX9_parameter 8 = .ok (.aload_n 0, 1) := by decide +kernel
theorem dX9_parameter_9 : decode cX9_parameter 9 = .ok (.iload_n 2, 1) := by decide +kernel
theorem dX9_parameter_10 : decode cX9_parameter 10 = .ok (.invokevirtual 101, 3) := by decide +kernel
theorem dX9_parameter_13 : decode cX9_parameter 13 = .ok (.ifCond .eq 47, 3) := by decide +kernel
theorem dX9_parameter_16 : decode cX9_parameter 16 = .ok (.aload_n 0, 1) := by decide +kernel
theorem dX9_parameter_17 : decode cX9_parameter 17 = .ok (.getfield 38, 3) := by decide +kernel
theorem dX9_parameter_20 : decode cX9_parameter 20 = .ok (.iload_n 1, 1) := by decide +kernel
theorem dX9_parameter_21 : decode cX9_parameter 21 = .ok (.iaload, 1) := by decide +kernel
theorem dX9_parameter_22 : decode cX9_parameter 22 = .ok (.aload_n 0, 1) := by decide +kernel
theorem dX9_parameter_23 : decode cX9_parameter 23 = .ok (.getfield 32, 3) := by decide +kernel
theorem dX9_parameter_26 : decode cX9_parameter 26 = .ok (.iload_n 1, 1) := by decide +kernel
theorem dX9_parameter_27 : decode cX9_parameter 27 = .ok (.iaload, 1) := by decide +kernel
theorem dX9_parameter_28 : decode cX9_parameter 28 = .ok (.if_icmp .ge 32, 3) := by decide +kernel
theorem dX9_parameter_31 : decode cX9_parameter 31 = .ok (.aload_n 0, 1) := by decide +kernel
theorem dX9_parameter_32 : decode cX9_parameter 32 = .ok (.getfield 38, 3) := by decide +kernel
theorem dX9_parameter_35 : decode cX9_parameter 35 = .ok (.iload_n 1, 1) := by decide +kernel
theorem dX9_parameter_36 : decode cX9_parameter 36 = .ok (.iaload, 1) := by decide +kernel
theorem dX9_parameter_37 : decode cX9_parameter 37 = .ok (.bipush 8, 2) := by decide +kernel
theorem dX9_parameter_39 : decode cX9_parameter 39 = .ok (.if_icmp .eq 21, 3) := by decide +kernel
theorem dX9_parameter_42 : decode cX9_parameter 42 = .ok (.aload_n 0, 1) := by decide +kernel
theorem dX9_parameter_43 : decode cX9_parameter 43 = .ok (.getfield 47, 3) := by decide +kernel
theorem dX9_parameter_46 : decode cX9_parameter 46 = .ok (.iload_n 1, 1) := by decide +kernel
theorem dX9_parameter_47 : decode cX9_parameter 47 = .ok (.iaload, 1) := by decide +kernel
theorem dX9_parameter_48 : decode cX9_parameter 48 = .ok (.ifCond .gt 12, 3) := by decide +kernel
theorem dX9_parameter_51 : decode cX9_parameter 51 = .ok (.aload_n 0, 1) := by decide +kernel
theorem dX9_parameter_52 : decode cX9_parameter 52 = .ok (.getfield 44, 3) := by decide +kernel
theorem dX9_parameter_55 : decode cX9_parameter 55 = .ok (.iload_n 1, 1) := by decide +kernel
theorem dX9_parameter_56 : decode cX9_parameter 56 = .ok (.baload, 1) := by decide +kernel
theorem dX9_parameter_57 : decode cX9_parameter 57 = .ok (.ifCond .eq 5, 3) := by decide +kernel
theorem dX9_parameter_60 : decode cX9_parameter 60 = .ok (.iconst (-1), 1) := by decide +kernel
theorem dX9_parameter_61 : decode cX9_parameter 61 = .ok (.ireturn, 1) := by decide +kernel
theorem dX9_parameter_62 : decode cX9_parameter 62 = .ok (.aload_n 0, 1) := by decide +kernel
theorem dX9_parameter_63 : decode cX9_parameter 63 = .ok (.getfield 41, 3) := by decide +kernel
theorem dX9_parameter_66 : decode cX9_parameter 66 = .ok (.bipush 8, 2) := by decide +kernel
theorem dX9_parameter_68 : decode cX9_parameter 68 = .ok (.iload_n 1, 1) := by decide +kernel
theorem dX9_parameter_69 : decode cX9_parameter 69 = .ok (.imul, 1) := by decide +kernel
theorem dX9_parameter_70 : decode cX9_parameter 70 = .ok (.aload_n 0, 1) := by decide +kernel
theorem dX9_parameter_71 : decode cX9_parameter 71 = .ok (.getfield 38, 3) := by decide +kernel
theorem dX9_parameter_74 : decode cX9_parameter 74 = .ok (.iload_n 1, 1) := by decide +kernel
theorem dX9_parameter_75 : decode cX9_parameter 75 = .ok (.iaload, 1) := by decide +kernel
theorem dX9_parameter_76 : decode cX9_parameter 76 = .ok (.iadd, 1) := by decide +kernel
theorem dX9_parameter_77 : decode cX9_parameter 77 = .ok (.iload_n 2, 1) := by decide +kernel
theorem dX9_parameter_78 : decode cX9_parameter 78 = .ok (.iastore, 1) := by decide +kernel
theorem dX9_parameter_79 : decode cX9_parameter 79 = .ok (.aload_n 0, 1) := by decide +kernel
theorem dX9_parameter_80 : decode cX9_parameter 80 = .ok (.getfield 38, 3) := by decide +kernel
theorem dX9_parameter_83 : decode cX9_parameter 83 = .ok (.iload_n 1, 1) := by decide +kernel
theorem dX9_parameter_84 : decode cX9_parameter 84 = .ok (.dup2, 1) := by decide +kernel
theorem dX9_parameter_85 : decode cX9_parameter 85 = .ok (.iaload, 1) := by decide +kernel
theorem dX9_parameter_86 : decode cX9_parameter 86 = .ok (.iconst 1, 1) := by decide +kernel
theorem dX9_parameter_87 : decode cX9_parameter 87 = .ok (.iadd, 1) := by decide +kernel
theorem dX9_parameter_88 : decode cX9_parameter 88 = .ok (.iastore, 1) := by decide +kernel
theorem dX9_parameter_89 : decode cX9_parameter 89 = .ok (.aload_n 0, 1) := by decide +kernel
theorem dX9_parameter_90 : decode cX9_parameter 90 = .ok (.getfield 74, 3) := by decide +kernel
theorem dX9_parameter_93 : decode cX9_parameter 93 = .ok (.iload_n 1, 1) := by decide +kernel
theorem dX9_parameter_94 : decode cX9_parameter 94 = .ok (.iconst 0, 1) := by decide +kernel
theorem dX9_parameter_95 : decode cX9_parameter 95 = .ok (.bastore, 1) := by decide +kernel
theorem dX9_parameter_96 : decode cX9_parameter 96 = .ok (.aload_n 0, 1) := by decide +kernel
theorem dX9_parameter_97 : decode cX9_parameter 97 = .ok (.getfield 38, 3) := by decide +kernel
theorem dX9_parameter_100 : decode cX9_parameter 100 = .ok (.iload_n 1, 1) := by decide +kernel
theorem dX9_parameter_101 : decode cX9_parameter 101 = .ok (.iaload, 1) := by decide +kernel
theorem dX9_parameter_102 : decode cX9_parameter 102 = .ok (.ireturn, 1) := by decide +kernel
theorem dX9_isLike_0 : decode cX9_isLike 0 = .ok (.aload_n 0, 1) := by decide +kernel
theorem dX9_isLike_1 : decode cX9_isLike 1 = .ok (.getfield 38, 3) := by decide +kernel
theorem dX9_isLike_4 : decode cX9_isLike 4 = .ok (.iload_n 1, 1) := by decide +kernel
theorem dX9_isLike_5 : decode cX9_isLike 5 = .ok (.iaload, 1) := by decide +kernel
theorem dX9_isLike_6 : decode cX9_isLike 6 = .ok (.aload_n 0, 1) := by decide +kernel
theorem dX9_isLike_7 : decode cX9_isLike 7 = .ok (.getfield 38, 3) := by decide +kernel
theorem dX9_isLike_10 : decode cX9_isLike 10 = .ok (.iload_n 2, 1) := by decide +kernel
theorem dX9_isLike_11 : decode cX9_isLike 11 = .ok (.iaload, 1) := by decide +kernel
theorem dX9_isLike_12 : decode cX9_isLike 12 = .ok (.if_icmp .ne 22, 3) := by decide +kernel
theorem dX9_isLike_15 : decode cX9_isLike 15 = .ok (.aload_n 0, 1) := by decide +kernel
theorem dX9_isLike_16 : decode cX9_isLike 16 = .ok (.getfield 29, 3) := by decide +kernel
theorem dX9_isLike_19 : decode cX9_isLike 19 = .ok (.iload_n 1, 1) := by decide +kernel
theorem dX9_isLike_20 : decode cX9_isLike 20 = .ok (.iaload, 1) := by decide +kernel
theorem dX9_isLike_21 : decode cX9_isLike 21 = .ok (.aload_n 0, 1) := by decide +kernel
theorem dX9_isLike_22 : decode cX9_isLike 22 = .ok (.getfield 29, 3) := by decide +kernel
theorem dX9_isLike_25 : decode cX9_isLike 25 = .ok (.iload_n 2, 1) := by decide +kernel
theorem dX9_isLike_26 : decode cX9_isLike 26 = .ok (.iaload, 1) := by decide +kernel
theorem dX9_isLike_27 : decode cX9_isLike 27 = .ok (.if_icmp .ne 7, 3) := by decide +kernel
theorem dX9_isLike_30 : decode cX9_isLike 30 = .ok (.iconst 1, 1) := by decide +kernel
theorem dX9_isLike_31 : decode cX9_isLike 31 = .ok (.goto 4, 3) := by decide +kernel
theorem dX9_isLike_34 : decode cX9_isLike 34 = .ok (.iconst 0, 1) := by decide +kernel
theorem dX9_isLike_35 : decode cX9_isLike 35 = .ok (.istore_n 3, 1) := by decide +kernel
theorem dX9_isLike_36 : decode cX9_isLike 36 = .ok (.iconst 1, 1) := by decide +kernel
theorem dX9_isLike_37 : decode cX9_isLike 37 = .ok (.istore 4, 2) := by decide +kernel
theorem dX9_isLike_39 : decode cX9_isLike 39 = .ok (.iload 4, 2) := by decide +kernel
theorem dX9_isLike_41 : decode cX9_isLike 41 = .ok (.aload_n 0, 1) := by decide +kernel
theorem dX9_isLike_42 : decode cX9_isLike 42 = .ok (.getfield 38, 3) := by decide +kernel
theorem dX9_isLike_45 : decode cX9_isLike 45 = .ok (.iload_n 1, 1) := by decide +kernel
theorem dX9_isLike_46 : decode cX9_isLike 46 = .ok (.iaload, 1) := by decide +kernel
theorem dX9_isLike_47 : decode cX9_isLike 47 = .ok (.if_icmp .ge 46, 3) := by decide +kernel
theorem dX9_isLike_50 : decode cX9_isLike 50 = .ok (.iload_n 3, 1) := by decide +kernel
theorem dX9_isLike_51 : decode cX9_isLike 51 = .ok (.ifCond .eq 42, 3) := by decide +kernel
theorem dX9_isLike_54 : decode cX9_isLike 54 = .ok (.aload_n 0, 1) := by decide +kernel
theorem dX9_isLike_55 : decode cX9_isLike 55 = .ok (.getfield 41, 3) := by decide +kernel
theorem dX9_isLike_58 : decode cX9_isLike 58 = .ok (.bipush 8, 2) := by decide +kernel
theorem dX9_isLike_60 : decode cX9_isLike 60 = .ok (.iload_n 1, 1) := by decide +kernel
theorem dX9_isLike_61 : decode cX9_isLike 61 = .ok (.imul, 1) := by decide +kernel
theorem dX9_isLike_62 : decode cX9_isLike 62 = .ok (.iload 4, 2) := by decide +kernel
theorem dX9_isLike_64 : decode cX9_isLike 64 = .ok (.iadd, 1) := by decide +kernel
theorem dX9_isLike_65 : decode cX9_isLike 65 = .ok (.iaload, 1) := by decide +kernel
theorem dX9_isLike_66 : decode cX9_isLike 66 = .ok (.aload_n 0, 1) := by decide +kernel
theorem dX9_isLike_67 : decode cX9_isLike 67 = .ok (.getfield 41, 3) := by decide +kernel
theorem dX9_isLike_70 : decode cX9_isLike 70 = .ok (.bipush 8, 2) := by decide +kernel
theorem dX9_isLike_72 : decode cX9_isLike 72 = .ok (.iload_n 2, 1) := by decide +kernel
theorem dX9_isLike_73 : decode cX9_isLike 73 = .ok (.imul, 1) := by decide +kernel
theorem dX9_isLike_74 : decode cX9_isLike 74 = .ok (.iload 4, 2) := by decide +kernel
theorem dX9_isLike_76 : decode cX9_isLike 76 = .ok (.iadd, 1) := by decide +kernel
theorem dX9_isLike_77 : decode cX9_isLike 77 = .ok (.iaload, 1) := by decide +kernel
theorem dX9_isLike_78 : decode cX9_isLike 78 = .ok (.if_icmp .ne 7, 3) := by decide +kernel
theorem dX9_isLike_81 : decode cX9_isLike 81 = .ok (.iconst 1, 1) := by decide +kernel
theorem dX9_isLike_82 : decode cX9_isLike 82 = .ok (.goto 4, 3) := by decide +kernel
theorem dX9_isLike_85 : decode cX9_isLike 85 = .ok (.iconst 0, 1) := by decide +kernel
theorem dX9_isLike_86 : decode cX9_isLike 86 = .ok (.istore_n 3, 1) := by decide +kernel
theorem dX9_isLike_87 : decode cX9_isLike 87 = .ok (.iinc 4 1, 3) := by decide +kernel
theorem dX9_isLike_90 : decode cX9_isLike 90 = .ok (.goto (-51), 3) := by decide +kernel
theorem dX9_isLike_93 : decode cX9_isLike 93 = .ok (.iload_n 3, 1) := by decide +kernel
theorem dX9_isLike_94 : decode cX9_isLike 94 = .ok (.ireturn, 1) := by decide +kernel
theorem dX9_slot_0 : decode cX9_slot 0 = .ok (.aload_n 0, 1) := by decide +kernel
theorem dX9_slot_1 : decode cX9_slot 1 = .ok (.iload_n 1, 1) := by decide +kernel
theorem dX9_slot_2 : decode cX9_slot 2 = .ok (.invokevirtual 104, 3) := by decide +kernel
theorem dX9_slot_5 : decode cX9_slot 5 = .ok (.ifCond .eq 22, 3) := by decide +kernel
theorem dX9_slot_8 : decode cX9_slot 8 = .ok (.iload_n 2, 1) := by decide +kernel
theorem dX9_slot_9 : decode cX9_slot 9 = .ok (.ifCond .lt 18, 3) := by decide +kernel
theorem dX9_slot_12 : decode cX9_slot 12 = .ok (.iload_n 2, 1) := by decide +kernel
theorem dX9_slot_13 : decode cX9_slot 13 = .ok (.bipush 16, 2) := by decide +kernel
theorem dX9_slot_15 : decode cX9_slot 15 = .ok (.if_icmp .ge 12, 3) := by decide +kernel
theorem dX9_slot_18 : decode cX9_slot 18 = .ok (.aload_n 0, 1) := by decide +kernel
theorem dX9_slot_19 : decode cX9_slot 19 = .ok (.getfield 26, 3) := by decide +kernel
theorem dX9_slot_22 : decode cX9_slot 22 = .ok (.iload_n 1, 1) := by decide +kernel
theorem dX9_slot_23 : decode cX9_slot 23 = .ok (.iaload, 1) := by decide +kernel
theorem dX9_slot_24 : decode cX9_slot 24 = .ok (.ifCond .ge 5, 3) := by decide +kernel
theorem dX9_slot_27 : decode cX9_slot 27 = .ok (.iconst 0, 1) := by decide +kernel
theorem dX9_slot_28 : decode cX9_slot 28 = .ok (.ireturn, 1) := by decide +kernel
theorem dX9_slot_29 : decode cX9_slot 29 = .ok (.aload_n 0, 1) := by decide +kernel
theorem dX9_slot_30 : decode cX9_slot 30 = .ok (.getfield 26, 3) := by decide +kernel
theorem dX9_slot_33 : decode cX9_slot 33 = .ok (.iload_n 1, 1) := by decide +kernel
theorem dX9_slot_34 : decode cX9_slot 34 = .ok (.iaload, 1) := by decide +kernel
theorem dX9_slot_35 : decode cX9_slot 35 = .ok (.istore_n 3, 1) := by decide +kernel
theorem dX9_slot_36 : decode cX9_slot 36 = .ok (.iconst 0, 1) := by decide +kernel
theorem dX9_slot_37 : decode cX9_slot 37 = .ok (.istore 4, 2) := by decide +kernel
theorem dX9_slot_39 : decode cX9_slot 39 = .ok (.iload 4, 2) := by decide +kernel
theorem dX9_slot_41 : decode cX9_slot 41 = .ok (.aload_n 0, 1) := by decide +kernel
theorem dX9_slot_42 : decode cX9_slot 42 = .ok (.getfield 90, 3) := by decide +kernel
theorem dX9_slot_45 : decode cX9_slot 45 = .ok (.if_icmp .ge 22, 3) := by decide +kernel
theorem dX9_slot_48 : decode cX9_slot 48 = .ok (.aload_n 0, 1) := by decide +kernel
theorem dX9_slot_49 : decode cX9_slot 49 = .ok (.getfield 9, 3) := by decide +kernel
theorem dX9_slot_52 : decode cX9_slot 52 = .ok (.iload 4, 2) := by decide +kernel
theorem dX9_slot_54 : decode cX9_slot 54 = .ok (.iaload, 1) := by decide +kernel
theorem dX9_slot_55 : decode cX9_slot 55 = .ok (.iload_n 3, 1) := by decide +kernel
theorem dX9_slot_56 : decode cX9_slot 56 = .ok (.if_icmp .ne 5, 3) := by decide +kernel
theorem dX9_slot_59 : decode cX9_slot 59 = .ok (.iconst 0, 1) := by decide +kernel
theorem dX9_slot_60 : decode cX9_slot 60 = .ok (.ireturn, 1) := by decide +kernel
theorem dX9_slot_61 : decode cX9_slot 61 = .ok (.iinc 4 1, 3) := by decide +kernel
theorem dX9_slot_64 : decode cX9_slot 64 = .ok (.goto (-25), 3) := by decide +kernel
theorem dX9_slot_67 : decode cX9_slot 67 = .ok (.aload_n 0, 1) := by decide +kernel
theorem dX9_slot_68 : decode cX9_slot 68 = .ok (.getfield 23, 3) := by decide +kernel
theorem dX9_slot_71 : decode cX9_slot 71 = .ok (.bipush 16, 2) := by decide +kernel
theorem dX9_slot_73 : decode cX9_slot 73 = .ok (.iload_n 3, 1) := by decide +kernel
theorem dX9_slot_74 : decode cX9_slot 74 = .ok (.imul, 1) := by decide +kernel
theorem dX9_slot_75 : decode cX9_slot 75 = .ok (.iload_n 2, 1) := by decide +kernel
theorem dX9_slot_76 : decode cX9_slot 76 = .ok (.iadd, 1) := by decide +kernel
theorem dX9_slot_77 : decode cX9_slot 77 = .ok (.iaload, 1) := by decide +kernel
theorem dX9_slot_78 : decode cX9_slot 78 = .ok (.istore 4, 2) := by decide +kernel
theorem dX9_slot_80 : decode cX9_slot 80 = .ok (.iload 4, 2) := by decide +kernel
theorem dX9_slot_82 : decode cX9_slot 82 = .ok (.ifCond .lt 15, 3) := by decide +kernel
theorem dX9_slot_85 : decode cX9_slot 85 = .ok (.aload_n 0, 1) := by decide +kernel
theorem dX9_slot_86 : decode cX9_slot 86 = .ok (.iload_n 1, 1) := by decide +kernel
theorem dX9_slot_87 : decode cX9_slot 87 = .ok (.iload 4, 2) := by decide +kernel
theorem dX9_slot_89 : decode cX9_slot 89 = .ok (.invokevirtual 107, 3) := by decide +kernel
theorem dX9_slot_92 : decode cX9_slot 92 = .ok (.ifCond .ne 5, 3) := by decide +kernel
theorem dX9_slot_95 : decode cX9_slot 95 = .ok (.iconst 0, 1) := by decide +kernel
theorem dX9_slot_96 : decode cX9_slot 96 = .ok (.ireturn, 1) := by decide +kernel
theorem dX9_slot_97 : decode cX9_slot 97 = .ok (.aload_n 0, 1) := by decide +kernel
theorem dX9_slot_98 : decode cX9_slot 98 = .ok (.getfield 23, 3) := by decide +kernel
theorem dX9_slot_101 : decode cX9_slot 101 = .ok (.bipush 16, 2) := by decide +kernel
theorem dX9_slot_103 : decode cX9_slot 103 = .ok (.iload_n 3, 1) := by decide +kernel
theorem dX9_slot_104 : decode cX9_slot 104 = .ok (.imul, 1) := by decide +kernel
theorem dX9_slot_105 : decode cX9_slot 105 = .ok (.iload_n 2, 1) := by decide +kernel
theorem dX9_slot_106 : decode cX9_slot 106 = .ok (.iadd, 1) := by decide +kernel
theorem dX9_slot_107 : decode cX9_slot 107 = .ok (.iload_n 1, 1) := by decide +kernel
theorem dX9_slot_108 : decode cX9_slot 108 = .ok (.iastore, 1) := by decide +kernel
theorem dX9_slot_109 : decode cX9_slot 109 = .ok (.aload_n 0, 1) := by decide +kernel
theorem dX9_slot_110 : decode cX9_slot 110 = .ok (.getfield 44, 3) := by decide +kernel
theorem dX9_slot_113 : decode cX9_slot 113 = .ok (.iload_n 1, 1) := by decide +kernel
theorem dX9_slot_114 : decode cX9_slot 114 = .ok (.iconst 1, 1) := by decide +kernel
theorem dX9_slot_115 : decode cX9_slot 115 = .ok (.bastore, 1) := by decide +kernel
theorem dX9_slot_116 : decode cX9_slot 116 = .ok (.iconst 1, 1) := by decide +kernel
theorem dX9_slot_117 : decode cX9_slot 117 = .ok (.ireturn, 1) := by decide +kernel
theorem dX9_isGood_0 : decode cX9_isGood 0 = .ok (.iload_n 2, 1) := by decide +kernel
theorem dX9_isGood_1 : decode cX9_isGood 1 = .ok (.tableswitch 276 2 36 #[155, 155, 276, 276, 276, 276, 276, 276, 276, 276, 276, 276, 276, 276, 276, 276, 276, 276, 276, 276, 276, 276, 276, 276, 175, 181, 181, 175, 175, 211, 276, 276, 276, 229, 235], 155) := by decide +kernel
theorem dX9_isGood_156 : decode cX9_isGood 156 = .ok (.iload_n 3, 1) := by decide +kernel
theorem dX9_isGood_157 : decode cX9_isGood 157 = .ok (.ifCond .lt 17, 3) := by decide +kernel
theorem dX9_isGood_160 : decode cX9_isGood 160 = .ok (.iload_n 3, 1) := by decide +kernel
theorem dX9_isGood_161 : decode cX9_isGood 161 = .ok (.aload_n 0, 1) := by decide +kernel
theorem dX9_isGood_162 : decode cX9_isGood 162 = .ok (.getfield 32, 3) := by decide +kernel
theorem dX9_isGood_165 : decode cX9_isGood 165 = .ok (.iload_n 1, 1) := by decide +kernel
theorem dX9_isGood_166 : decode cX9_isGood 166 = .ok (.iaload, 1) := by decide +kernel
theorem dX9_isGood_167 : decode cX9_isGood 167 = .ok (.if_icmp .ge 7, 3) := by decide +kernel
theorem dX9_isGood_170 : decode cX9_isGood 170 = .ok (.iconst 1, 1) := by decide +kernel
theorem dX9_isGood_171 : decode cX9_isGood 171 = .ok (.goto 4, 3) := by decide +kernel
theorem dX9_isGood_174 : decode cX9_isGood 174 = .ok (.iconst 0, 1) := by decide +kernel
theorem dX9_isGood_175 : decode cX9_isGood 175 = .ok (.ireturn, 1) := by decide +kernel
theorem dX9_isGood_176 : decode cX9_isGood 176 = .ok (.aload_n 0, 1) := by decide +kernel
theorem dX9_isGood_177 : decode cX9_isGood 177 = .ok (.iload_n 3, 1) := by decide +kernel
theorem dX9_isGood_178 : decode cX9_isGood 178 = .ok (.invokevirtual 97, 3) := by decide +kernel
theorem dX9_isGood_181 : decode cX9_isGood 181 = .ok (.ireturn, 1) := by decide +kernel
theorem dX9_isGood_182 : decode cX9_isGood 182 = .ok (.aload_n 0, 1) := by decide +kernel
theorem dX9_isGood_183 : decode cX9_isGood 183 = .ok (.iload_n 3, 1) := by decide +kernel
theorem dX9_isGood_184 : decode cX9_isGood 184 = .ok (.invokevirtual 97, 3) := by decide +kernel
theorem dX9_isGood_187 : decode cX9_isGood 187 = .ok (.ifCond .eq 23, 3) := by decide +kernel
theorem dX9_isGood_190 : decode cX9_isGood 190 = .ok (.iload 4, 2) := by decide +kernel
theorem dX9_isGood_192 : decode cX9_isGood 192 = .ok (.ifCond .lt 18, 3) := by decide +kernel
theorem dX9_isGood_195 : decode cX9_isGood 195 = .ok (.iload 4, 2) := by decide +kernel
theorem dX9_isGood_197 : decode cX9_isGood 197 = .ok (.aload_n 0, 1) := by decide +kernel
theorem dX9_isGood_198 : decode cX9_isGood 198 = .ok (.getfield 17, 3) := by decide +kernel
theorem dX9_isGood_201 : decode cX9_isGood 201 = .ok (.iload_n 3, 1) := by decide +kernel
theorem dX9_isGood_202 : decode cX9_isGood 202 = .ok (.iaload, 1) := by decide +kernel
theorem dX9_isGood_203 : decode cX9_isGood 203 = .ok (.if_icmp .ge 7, 3) := by decide +kernel
theorem dX9_isGood_206 : decode cX9_isGood 206 = .ok (.iconst 1, 1) := by decide +kernel
theorem dX9_isGood_207 : decode cX9_isGood 207 = .ok (.goto 4, 3) := by decide +kernel
theorem dX9_isGood_210 : decode cX9_isGood 210 = .ok (.iconst 0, 1) := by decide +kernel
theorem dX9_isGood_211 : decode cX9_isGood 211 = .ok (.ireturn, 1) := by decide +kernel
theorem dX9_isGood_212 : decode cX9_isGood 212 = .ok (.iload_n 3, 1) := by decide +kernel
theorem dX9_isGood_213 : decode cX9_isGood 213 = .ok (.ifCond .lt 15, 3) := by decide +kernel
theorem dX9_isGood_216 : decode cX9_isGood 216 = .ok (.iload_n 3, 1) := by decide +kernel
theorem dX9_isGood_217 : decode cX9_isGood 217 = .ok (.aload_n 0, 1) := by decide +kernel
theorem dX9_isGood_218 : decode cX9_isGood 218 = .ok (.getfield 90, 3) := by decide +kernel
theorem dX9_isGood_221 : decode cX9_isGood 221 = .ok (.if_icmp .gt 7, 3) := by decide +kernel
theorem dX9_isGood_224 : decode cX9_isGood 224 = .ok (.iconst 1, 1) := by decide +kernel
theorem dX9_isGood_225 : decode cX9_isGood 225 = .ok (.goto 4, 3) := by decide +kernel
theorem dX9_isGood_228 : decode cX9_isGood 228 = .ok (.iconst 0, 1) := by decide +kernel
theorem dX9_isGood_229 : decode cX9_isGood 229 = .ok (.ireturn, 1) := by decide +kernel
theorem dX9_isGood_230 : decode cX9_isGood 230 = .ok (.aload_n 0, 1) := by decide +kernel
theorem dX9_isGood_231 : decode cX9_isGood 231 = .ok (.iload_n 3, 1) := by decide +kernel
theorem dX9_isGood_232 : decode cX9_isGood 232 = .ok (.invokevirtual 104, 3) := by decide +kernel
theorem dX9_isGood_235 : decode cX9_isGood 235 = .ok (.ireturn, 1) := by decide +kernel
theorem dX9_isGood_236 : decode cX9_isGood 236 = .ok (.aload_n 0, 1) := by decide +kernel
theorem dX9_isGood_237 : decode cX9_isGood 237 = .ok (.iload_n 3, 1) := by decide +kernel
theorem dX9_isGood_238 : decode cX9_isGood 238 = .ok (.invokevirtual 97, 3) := by decide +kernel
theorem dX9_isGood_241 : decode cX9_isGood 241 = .ok (.ifCond .eq 34, 3) := by decide +kernel
theorem dX9_isGood_244 : decode cX9_isGood 244 = .ok (.iload 4, 2) := by decide +kernel
theorem dX9_isGood_246 : decode cX9_isGood 246 = .ok (.ifCond .lt 29, 3) := by decide +kernel
theorem dX9_isGood_249 : decode cX9_isGood 249 = .ok (.iload 4, 2) := by decide +kernel
theorem dX9_isGood_251 : decode cX9_isGood 251 = .ok (.bipush 16, 2) := by decide +kernel
theorem dX9_isGood_253 : decode cX9_isGood 253 = .ok (.if_icmp .ge 22, 3) := by decide +kernel
theorem dX9_isGood_256 : decode cX9_isGood 256 = .ok (.aload_n 0, 1) := by decide +kernel
theorem dX9_isGood_257 : decode cX9_isGood 257 = .ok (.getfield 23, 3) := by decide +kernel
theorem dX9_isGood_260 : decode cX9_isGood 260 = .ok (.bipush 16, 2) := by decide +kernel
theorem dX9_isGood_262 : decode cX9_isGood 262 = .ok (.iload_n 3, 1) := by decide +kernel
theorem dX9_isGood_263 : decode cX9_isGood 263 = .ok (.imul, 1) := by decide +kernel
theorem dX9_isGood_264 : decode cX9_isGood 264 = .ok (.iload 4, 2) := by decide +kernel
theorem dX9_isGood_266 : decode cX9_isGood 266 = .ok (.iadd, 1) := by decide +kernel
theorem dX9_isGood_267 : decode cX9_isGood 267 = .ok (.iaload, 1) := by decide +kernel
theorem dX9_isGood_268 : decode cX9_isGood 268 = .ok (.ifCond .lt 7, 3) := by decide +kernel
theorem dX9_isGood_271 : decode cX9_isGood 271 = .ok (.iconst 1, 1) := by decide +kernel
theorem dX9_isGood_272 : decode cX9_isGood 272 = .ok (.goto 4, 3) := by decide +kernel
theorem dX9_isGood_275 : decode cX9_isGood 275 = .ok (.iconst 0, 1) := by decide +kernel
theorem dX9_isGood_276 : decode cX9_isGood 276 = .ok (.ireturn, 1) := by decide +kernel
theorem dX9_isGood_277 : decode cX9_isGood 277 = .ok (.iload_n 2, 1) := by decide +kernel
theorem dX9_isGood_278 : decode cX9_isGood 278 = .ok (.bipush 19, 2) := by decide +kernel
theorem dX9_isGood_280 : decode cX9_isGood 280 = .ok (.if_icmp .lt 20, 3) := by decide +kernel
theorem dX9_isGood_283 : decode cX9_isGood 283 = .ok (.iload_n 2, 1) := by decide +kernel
theorem dX9_isGood_284 : decode cX9_isGood 284 = .ok (.bipush 25, 2) := by decide +kernel
theorem dX9_isGood_286 : decode cX9_isGood 286 = .ok (.if_icmp .gt 14, 3) := by decide +kernel
theorem dX9_isGood_289 : decode cX9_isGood 289 = .ok (.iload_n 3, 1) := by decide +kernel
theorem dX9_isGood_290 : decode cX9_isGood 290 = .ok (.ifCond .lt 14, 3) := by decide +kernel
theorem dX9_isGood_293 : decode cX9_isGood 293 = .ok (.iload_n 3, 1) := by decide +kernel
theorem dX9_isGood_294 : decode cX9_isGood 294 = .ok (.sipush 200, 3) := by decide +kernel
theorem dX9_isGood_297 : decode cX9_isGood 297 = .ok (.if_icmp .ge 7, 3) := by decide +kernel
theorem dX9_isGood_300 : decode cX9_isGood 300 = .ok (.iconst 1, 1) := by decide +kernel
theorem dX9_isGood_301 : decode cX9_isGood 301 = .ok (.goto 4, 3) := by decide +kernel
theorem dX9_isGood_304 : decode cX9_isGood 304 = .ok (.iconst 0, 1) := by decide +kernel
theorem dX9_isGood_305 : decode cX9_isGood 305 = .ok (.ireturn, 1) := by decide +kernel
theorem dX9_op_0 : decode cX9_op 0 = .ok (.aload_n 0, 1) := by decide +kernel
theorem dX9_op_1 : decode cX9_op 1 = .ok (.iload_n 1, 1) := by decide +kernel
theorem dX9_op_2 : decode cX9_op 2 = .ok (.invokevirtual 104, 3) := by decide +kernel
theorem dX9_op_5 : decode cX9_op 5 = .ok (.ifCond .eq 25, 3) := by decide +kernel
theorem dX9_op_8 : decode cX9_op 8 = .ok (.iload_n 2, 1) := by decide +kernel
theorem dX9_op_9 : decode cX9_op 9 = .ok (.ifCond .lt 21, 3) := by decide +kernel
theorem dX9_op_12 : decode cX9_op 12 = .ok (.iload_n 2, 1) := by decide +kernel
theorem dX9_op_13 : decode cX9_op 13 = .ok (.bipush 41, 2) := by decide +kernel
theorem dX9_op_15 : decode cX9_op 15 = .ok (.if_icmp .gt 15, 3) := by decide +kernel
theorem dX9_op_18 : decode cX9_op 18 = .ok (.aload_n 0, 1) := by decide +kernel
theorem dX9_op_19 : decode cX9_op 19 = .ok (.iload_n 1, 1) := by decide +kernel
theorem dX9_op_20 : decode cX9_op 20 = .ok (.iload_n 2, 1) := by decide +kernel
theorem dX9_op_21 : decode cX9_op 21 = .ok (.iload_n 3, 1) := by decide +kernel
theorem dX9_op_22 : decode cX9_op 22 = .ok (.iload 4, 2) := by decide +kernel
theorem dX9_op_24 : decode cX9_op 24 = .ok (.invokevirtual 111, 3) := by decide +kernel
theorem dX9_op_27 : decode cX9_op 27 = .ok (.ifCond .ne 5, 3) := by decide +kernel
theorem dX9_op_30 : decode cX9_op 30 = .ok (.iconst (-1), 1) := by decide +kernel
theorem dX9_op_31 : decode cX9_op 31 = .ok (.ireturn, 1) := by decide +kernel
theorem dX9_op_32 : decode cX9_op 32 = .ok (.aload_n 0, 1) := by decide +kernel
theorem dX9_op_33 : decode cX9_op 33 = .ok (.getfield 47, 3) := by decide +kernel
theorem dX9_op_36 : decode cX9_op 36 = .ok (.iload_n 1, 1) := by decide +kernel
theorem dX9_op_37 : decode cX9_op 37 = .ok (.iaload, 1) := by decide +kernel
theorem dX9_op_38 : decode cX9_op 38 = .ok (.sipush 200, 3) := by decide +kernel
theorem dX9_op_41 : decode cX9_op 41 = .ok (.if_icmp .ne 6, 3) := by decide +kernel
theorem dX9_op_44 : decode cX9_op 44 = .ok (.bipush (-2), 2) := by decide +kernel
theorem dX9_op_46 : decode cX9_op 46 = .ok (.ireturn, 1) := by decide +kernel
theorem dX9_op_47 : decode cX9_op 47 = .ok (.sipush 200, 3) := by decide +kernel
theorem dX9_op_50 : decode cX9_op 50 = .ok (.iload_n 1, 1) := by decide +kernel
theorem dX9_op_51 : decode cX9_op 51 = .ok (.imul, 1) := by decide +kernel
theorem dX9_op_52 : decode cX9_op 52 = .ok (.aload_n 0, 1) := by decide +kernel
theorem dX9_op_53 : decode cX9_op 53 = .ok (.getfield 47, 3) := by decide +kernel
theorem dX9_op_56 : decode cX9_op 56 = .ok (.iload_n 1, 1) := by decide +kernel
theorem dX9_op_57 : decode cX9_op 57 = .ok (.iaload, 1) := by decide +kernel
theorem dX9_op_58 : decode cX9_op 58 = .ok (.iadd, 1) := by decide +kernel
theorem dX9_op_59 : decode cX9_op 59 = .ok (.istore 5, 2) := by decide +kernel
theorem dX9_op_61 : decode cX9_op 61 = .ok (.aload_n 0, 1) := by decide +kernel
theorem dX9_op_62 : decode cX9_op 62 = .ok (.getfield 50, 3) := by decide +kernel
theorem dX9_op_65 : decode cX9_op 65 = .ok (.iload 5, 2) := by decide +kernel
theorem dX9_op_67 : decode cX9_op 67 = .ok (.iload_n 2, 1) := by decide +kernel
theorem dX9_op_68 : decode cX9_op 68 = .ok (.iastore, 1) := by decide +kernel
theorem dX9_op_69 : decode cX9_op 69 = .ok (.aload_n 0, 1) := by decide +kernel
theorem dX9_op_70 : decode cX9_op 70 = .ok (.getfield 53, 3) := by decide +kernel
theorem dX9_op_73 : decode cX9_op 73 = .ok (.iload 5, 2) := by decide +kernel
theorem dX9_op_75 : decode cX9_op 75 = .ok (.iload_n 3, 1) := by decide +kernel
theorem dX9_op_76 : decode cX9_op 76 = .ok (.iastore, 1) := by decide +kernel
theorem dX9_op_77 : decode cX9_op 77 = .ok (.aload_n 0, 1) := by decide +kernel
theorem dX9_op_78 : decode cX9_op 78 = .ok (.getfield 56, 3) := by decide +kernel
theorem dX9_op_81 : decode cX9_op 81 = .ok (.iload 5, 2) := by decide +kernel
theorem dX9_op_83 : decode cX9_op 83 = .ok (.iload 4, 2) := by decide +kernel
theorem dX9_op_85 : decode cX9_op 85 = .ok (.iastore, 1) := by decide +kernel
theorem dX9_op_86 : decode cX9_op 86 = .ok (.aload_n 0, 1) := by decide +kernel
theorem dX9_op_87 : decode cX9_op 87 = .ok (.getfield 47, 3) := by decide +kernel
theorem dX9_op_90 : decode cX9_op 90 = .ok (.iload_n 1, 1) := by decide +kernel
theorem dX9_op_91 : decode cX9_op 91 = .ok (.dup2, 1) := by decide +kernel
theorem dX9_op_92 : decode cX9_op 92 = .ok (.iaload, 1) := by decide +kernel
theorem dX9_op_93 : decode cX9_op 93 = .ok (.iconst 1, 1) := by decide +kernel
theorem dX9_op_94 : decode cX9_op 94 = .ok (.iadd, 1) := by decide +kernel
theorem dX9_op_95 : decode cX9_op 95 = .ok (.iastore, 1) := by decide +kernel
theorem dX9_op_96 : decode cX9_op 96 = .ok (.aload_n 0, 1) := by decide +kernel
theorem dX9_op_97 : decode cX9_op 97 = .ok (.getfield 74, 3) := by decide +kernel
theorem dX9_op_100 : decode cX9_op 100 = .ok (.iload_n 1, 1) := by decide +kernel
theorem dX9_op_101 : decode cX9_op 101 = .ok (.iconst 0, 1) := by decide +kernel
theorem dX9_op_102 : decode cX9_op 102 = .ok (.bastore, 1) := by decide +kernel
theorem dX9_op_103 : decode cX9_op 103 = .ok (.aload_n 0, 1) := by decide +kernel
theorem dX9_op_104 : decode cX9_op 104 = .ok (.getfield 47, 3) := by decide +kernel
theorem dX9_op_107 : decode cX9_op 107 = .ok (.iload_n 1, 1) := by decide +kernel
theorem dX9_op_108 : decode cX9_op 108 = .ok (.iaload, 1) := by decide +kernel
theorem dX9_op_109 : decode cX9_op 109 = .ok (.iconst 1, 1) := by decide +kernel
theorem dX9_op_110 : decode cX9_op 110 = .ok (.isub, 1) := by decide +kernel
theorem dX9_op_111 : decode cX9_op 111 = .ok (.ireturn, 1) := by decide +kernel
theorem dX9_handler_0 : decode cX9_handler 0 = .ok (.aload_n 0, 1) := by decide +kernel
theorem dX9_handler_1 : decode cX9_handler 1 = .ok (.iload_n 1, 1) := by decide +kernel
theorem dX9_handler_2 : decode cX9_handler 2 = .ok (.invokevirtual 104, 3) := by decide +kernel
theorem dX9_handler_5 : decode cX9_handler 5 = .ok (.ifCond .eq 41, 3) := by decide +kernel
theorem dX9_handler_8 : decode cX9_handler 8 = .ok (.aload_n 0, 1) := by decide +kernel
theorem dX9_handler_9 : decode cX9_handler 9 = .ok (.iload 4, 2) := by decide +kernel
theorem dX9_handler_11 : decode cX9_handler 11 = .ok (.invokevirtual 97, 3) := by decide +kernel
theorem dX9_handler_14 : decode cX9_handler 14 = .ok (.ifCond .eq 32, 3) := by decide +kernel
theorem dX9_handler_17 : decode cX9_handler 17 = .ok (.iload_n 2, 1) := by decide +kernel
theorem dX9_handler_18 : decode cX9_handler 18 = .ok (.ifCond .lt 28, 3) := by decide +kernel
theorem dX9_handler_21 : decode cX9_handler 21 = .ok (.iload_n 2, 1) := by decide +kernel
theorem dX9_handler_22 : decode cX9_handler 22 = .ok (.iload_n 3, 1) := by decide +kernel
theorem dX9_handler_23 : decode cX9_handler 23 = .ok (.if_icmp .ge 23, 3) := by decide +kernel
theorem dX9_handler_26 : decode cX9_handler 26 = .ok (.iload_n 3, 1) := by decide +kernel
theorem dX9_handler_27 : decode cX9_handler 27 = .ok (.sipush 200, 3) := by decide +kernel
theorem dX9_handler_30 : decode cX9_handler 30 = .ok (.if_icmp .gt 16, 3) := by decide +kernel
theorem dX9_handler_33 : decode cX9_handler 33 = .ok (.iload 5, 2) := by decide +kernel
theorem dX9_handler_35 : decode cX9_handler 35 = .ok (.ifCond .lt 11, 3) := by decide +kernel
theorem dX9_handler_38 : decode cX9_handler 38 = .ok (.iload 5, 2) := by decide +kernel
theorem dX9_handler_40 : decode cX9_handler 40 = .ok (.sipush 200, 3) := by decide +kernel
theorem dX9_handler_43 : decode cX9_handler 43 = .ok (.if_icmp .lt 5, 3) := by decide +kernel
theorem dX9_handler_46 : decode cX9_handler 46 = .ok (.iconst (-1), 1) := by decide +kernel
theorem dX9_handler_47 : decode cX9_handler 47 = .ok (.ireturn, 1) := by decide +kernel
theorem dX9_handler_48 : decode cX9_handler 48 = .ok (.aload_n 0, 1) := by decide +kernel
theorem dX9_handler_49 : decode cX9_handler 49 = .ok (.getfield 59, 3) := by decide +kernel
theorem dX9_handler_52 : decode cX9_handler 52 = .ok (.iload_n 1, 1) := by decide +kernel
theorem dX9_handler_53 : decode cX9_handler 53 = .ok (.iaload, 1) := by decide +kernel
theorem dX9_handler_54 : decode cX9_handler 54 = .ok (.bipush 8, 2) := by decide +kernel
theorem dX9_handler_56 : decode cX9_handler 56 = .ok (.if_icmp .ne 6, 3) := by decide +kernel
theorem dX9_handler_59 : decode cX9_handler 59 = .ok (.bipush (-2), 2) := by decide +kernel
theorem dX9_handler_61 : decode cX9_handler 61 = .ok (.ireturn, 1) := by decide +kernel
theorem dX9_handler_62 : decode cX9_handler 62 = .ok (.bipush 8, 2) := by decide +kernel
theorem dX9_handler_64 : decode cX9_handler 64 = .ok (.iload_n 1, 1) := by decide +kernel
theorem dX9_handler_65 : decode cX9_handler 65 = .ok (.imul, 1) := by decide +kernel
theorem dX9_handler_66 : decode cX9_handler 66 = .ok (.aload_n 0, 1) := by decide +kernel
theorem dX9_handler_67 : decode cX9_handler 67 = .ok (.getfield 59, 3) := by decide +kernel
theorem dX9_handler_70 : decode cX9_handler 70 = .ok (.iload_n 1, 1) := by decide +kernel
theorem dX9_handler_71 : decode cX9_handler 71 = .ok (.iaload, 1) := by decide +kernel
theorem dX9_handler_72 : decode cX9_handler 72 = .ok (.iadd, 1) := by decide +kernel
theorem dX9_handler_73 : decode cX9_handler 73 = .ok (.istore 6, 2) := by decide +kernel
theorem dX9_handler_75 : decode cX9_handler 75 = .ok (.aload_n 0, 1) := by decide +kernel
theorem dX9_handler_76 : decode cX9_handler 76 = .ok (.getfield 62, 3) := by decide +kernel
theorem dX9_handler_79 : decode cX9_handler 79 = .ok (.iload 6, 2) := by decide +kernel
theorem dX9_handler_81 : decode cX9_handler 81 = .ok (.iload_n 2, 1) := by decide +kernel
theorem dX9_handler_82 : decode cX9_handler 82 = .ok (.iastore, 1) := by decide +kernel
theorem dX9_handler_83 : decode cX9_handler 83 = .ok (.aload_n 0, 1) := by decide +kernel
theorem dX9_handler_84 : decode cX9_handler 84 = .ok (.getfield 65, 3) := by decide +kernel
theorem dX9_handler_87 : decode cX9_handler 87 = .ok (.iload 6, 2) := by decide +kernel
theorem dX9_handler_89 : decode cX9_handler 89 = .ok (.iload_n 3, 1) := by decide +kernel
theorem dX9_handler_90 : decode cX9_handler 90 = .ok (.iastore, 1) := by decide +kernel
theorem dX9_handler_91 : decode cX9_handler 91 = .ok (.aload_n 0, 1) := by decide +kernel
theorem dX9_handler_92 : decode cX9_handler 92 = .ok (.getfield 68, 3) := by decide +kernel
theorem dX9_handler_95 : decode cX9_handler 95 = .ok (.iload 6, 2) := by decide +kernel
theorem dX9_handler_97 : decode cX9_handler 97 = .ok (.iload 4, 2) := by decide +kernel
theorem dX9_handler_99 : decode cX9_handler 99 = .ok (.iastore, 1) := by decide +kernel
theorem dX9_handler_100 : decode cX9_handler 100 = .ok (.aload_n 0, 1) := by decide +kernel
theorem dX9_handler_101 : decode cX9_handler 101 = .ok (.getfield 71, 3) := by decide +kernel
theorem dX9_handler_104 : decode cX9_handler 104 = .ok (.iload 6, 2) := by decide +kernel
theorem dX9_handler_106 : decode cX9_handler 106 = .ok (.iload 5, 2) := by decide +kernel
theorem dX9_handler_108 : decode cX9_handler 108 = .ok (.iastore, 1) := by decide +kernel
theorem dX9_handler_109 : decode cX9_handler 109 = .ok (.aload_n 0, 1) := by decide +kernel
theorem dX9_handler_110 : decode cX9_handler 110 = .ok (.getfield 59, 3) := by decide +kernel
theorem dX9_handler_113 : decode cX9_handler 113 = .ok (.iload_n 1, 1) := by decide +kernel
theorem dX9_handler_114 : decode cX9_handler 114 = .ok (.dup2, 1) := by decide +kernel
theorem dX9_handler_115 : decode cX9_handler 115 = .ok (.iaload, 1) := by decide +kernel
theorem dX9_handler_116 : decode cX9_handler 116 = .ok (.iconst 1, 1) := by decide +kernel
theorem dX9_handler_117 : decode cX9_handler 117 = .ok (.iadd, 1) := by decide +kernel
theorem dX9_handler_118 : decode cX9_handler 118 = .ok (.iastore, 1) := by decide +kernel
theorem dX9_handler_119 : decode cX9_handler 119 = .ok (.aload_n 0, 1) := by decide +kernel
theorem dX9_handler_120 : decode cX9_handler 120 = .ok (.getfield 74, 3) := by decide +kernel
theorem dX9_handler_123 : decode cX9_handler 123 = .ok (.iload_n 1, 1) := by decide +kernel
theorem dX9_handler_124 : decode cX9_handler 124 = .ok (.iconst 0, 1) := by decide +kernel
theorem dX9_handler_125 : decode cX9_handler 125 = .ok (.bastore, 1) := by decide +kernel
theorem dX9_handler_126 : decode cX9_handler 126 = .ok (.aload_n 0, 1) := by decide +kernel
theorem dX9_handler_127 : decode cX9_handler 127 = .ok (.getfield 59, 3) := by decide +kernel
theorem dX9_handler_130 : decode cX9_handler 130 = .ok (.iload_n 1, 1) := by decide +kernel
theorem dX9_handler_131 : decode cX9_handler 131 = .ok (.iaload, 1) := by decide +kernel
theorem dX9_handler_132 : decode cX9_handler 132 = .ok (.iconst 1, 1) := by decide +kernel
theorem dX9_handler_133 : decode cX9_handler 133 = .ok (.isub, 1) := by decide +kernel
theorem dX9_handler_134 : decode cX9_handler 134 = .ok (.ireturn, 1) := by decide +kernel
theorem dX9_goes_0 : decode cX9_goes 0 = .ok (.iload_n 1, 1) := by decide +kernel
theorem dX9_goes_1 : decode cX9_goes 1 = .ok (.iload_n 2, 1) := by decide +kernel
theorem dX9_goes_2 : decode cX9_goes 2 = .ok (.if_icmp .eq 49, 3) := by decide +kernel
theorem dX9_goes_5 : decode cX9_goes 5 = .ok (.iload_n 1, 1) := by decide +kernel
theorem dX9_goes_6 : decode cX9_goes 6 = .ok (.bipush 97, 2) := by decide +kernel
theorem dX9_goes_8 : decode cX9_goes 8 = .ok (.if_icmp .ne 16, 3) := by decide +kernel
theorem dX9_goes_11 : decode cX9_goes 11 = .ok (.iload_n 2, 1) := by decide +kernel
theorem dX9_goes_12 : decode cX9_goes 12 = .ok (.invokestatic 115, 3) := by decide +kernel
theorem dX9_goes_15 : decode cX9_goes 15 = .ok (.ifCond .eq 9, 3) := by decide +kernel
theorem dX9_goes_18 : decode cX9_goes 18 = .ok (.iload_n 2, 1) := by decide +kernel
theorem dX9_goes_19 : decode cX9_goes 19 = .ok (.bipush 98, 2) := by decide +kernel
theorem dX9_goes_21 : decode cX9_goes 21 = .ok (.if_icmp .ne 30, 3) := by decide +kernel
theorem dX9_goes_24 : decode cX9_goes 24 = .ok (.iload_n 1, 1) := by decide +kernel
theorem dX9_goes_25 : decode cX9_goes 25 = .ok (.invokestatic 118, 3) := by decide +kernel
theorem dX9_goes_28 : decode cX9_goes 28 = .ok (.ifCond .eq 27, 3) := by decide +kernel
theorem dX9_goes_31 : decode cX9_goes 31 = .ok (.iload_n 2, 1) := by decide +kernel
theorem dX9_goes_32 : decode cX9_goes 32 = .ok (.invokestatic 118, 3) := by decide +kernel
theorem dX9_goes_35 : decode cX9_goes 35 = .ok (.ifCond .eq 20, 3) := by decide +kernel
theorem dX9_goes_38 : decode cX9_goes 38 = .ok (.aload_n 0, 1) := by decide +kernel
theorem dX9_goes_39 : decode cX9_goes 39 = .ok (.iload_n 1, 1) := by decide +kernel
theorem dX9_goes_40 : decode cX9_goes 40 = .ok (.iconst 1, 1) := by decide +kernel
theorem dX9_goes_41 : decode cX9_goes 41 = .ok (.isub, 1) := by decide +kernel
theorem dX9_goes_42 : decode cX9_goes 42 = .ok (.iload_n 2, 1) := by decide +kernel
theorem dX9_goes_43 : decode cX9_goes 43 = .ok (.iconst 1, 1) := by decide +kernel
theorem dX9_goes_44 : decode cX9_goes 44 = .ok (.isub, 1) := by decide +kernel
theorem dX9_goes_45 : decode cX9_goes 45 = .ok (.invokevirtual 121, 3) := by decide +kernel
theorem dX9_goes_48 : decode cX9_goes 48 = .ok (.ifCond .eq 7, 3) := by decide +kernel
theorem dX9_goes_51 : decode cX9_goes 51 = .ok (.iconst 1, 1) := by decide +kernel
theorem dX9_goes_52 : decode cX9_goes 52 = .ok (.goto 4, 3) := by decide +kernel
theorem dX9_goes_55 : decode cX9_goes 55 = .ok (.iconst 0, 1) := by decide +kernel
theorem dX9_goes_56 : decode cX9_goes 56 = .ok (.ireturn, 1) := by decide +kernel
theorem dX9_meet_0 : decode cX9_meet 0 = .ok (.iload_n 1, 1) := by decide +kernel
theorem dX9_meet_1 : decode cX9_meet 1 = .ok (.iload_n 2, 1) := by decide +kernel
theorem dX9_meet_2 : decode cX9_meet 2 = .ok (.if_icmp .ne 5, 3) := by decide +kernel
theorem dX9_meet_5 : decode cX9_meet 5 = .ok (.iload_n 1, 1) := by decide +kernel
theorem dX9_meet_6 : decode cX9_meet 6 = .ok (.ireturn, 1) := by decide +kernel
theorem dX9_meet_7 : decode cX9_meet 7 = .ok (.iload_n 1, 1) := by decide +kernel
theorem dX9_meet_8 : decode cX9_meet 8 = .ok (.invokestatic 115, 3) := by decide +kernel
theorem dX9_meet_11 : decode cX9_meet 11 = .ok (.ifCond .eq 10, 3) := by decide +kernel
theorem dX9_meet_14 : decode cX9_meet 14 = .ok (.iload_n 2, 1) := by decide +kernel
theorem dX9_meet_15 : decode cX9_meet 15 = .ok (.invokestatic 115, 3) := by decide +kernel
theorem dX9_meet_18 : decode cX9_meet 18 = .ok (.ifCond .ne 6, 3) := by decide +kernel
theorem dX9_meet_21 : decode cX9_meet 21 = .ok (.bipush 99, 2) := by decide +kernel
theorem dX9_meet_23 : decode cX9_meet 23 = .ok (.ireturn, 1) := by decide +kernel
theorem dX9_meet_24 : decode cX9_meet 24 = .ok (.iload_n 1, 1) := by decide +kernel
theorem dX9_meet_25 : decode cX9_meet 25 = .ok (.bipush 97, 2) := by decide +kernel
theorem dX9_meet_27 : decode cX9_meet 27 = .ok (.if_icmp .eq 9, 3) := by decide +kernel
theorem dX9_meet_30 : decode cX9_meet 30 = .ok (.iload_n 2, 1) := by decide +kernel
theorem dX9_meet_31 : decode cX9_meet 31 = .ok (.bipush 97, 2) := by decide +kernel
theorem dX9_meet_33 : decode cX9_meet 33 = .ok (.if_icmp .ne 15, 3) := by decide +kernel
theorem dX9_meet_36 : decode cX9_meet 36 = .ok (.iload_n 1, 1) := by decide +kernel
theorem dX9_meet_37 : decode cX9_meet 37 = .ok (.bipush 97, 2) := by decide +kernel
theorem dX9_meet_39 : decode cX9_meet 39 = .ok (.if_icmp .ne 7, 3) := by decide +kernel
theorem dX9_meet_42 : decode cX9_meet 42 = .ok (.iload_n 2, 1) := by decide +kernel
theorem dX9_meet_43 : decode cX9_meet 43 = .ok (.goto 4, 3) := by decide +kernel
theorem dX9_meet_46 : decode cX9_meet 46 = .ok (.iload_n 1, 1) := by decide +kernel
theorem dX9_meet_47 : decode cX9_meet 47 = .ok (.ireturn, 1) := by decide +kernel
theorem dX9_meet_48 : decode cX9_meet 48 = .ok (.iload_n 1, 1) := by decide +kernel
theorem dX9_meet_49 : decode cX9_meet 49 = .ok (.invokestatic 118, 3) := by decide +kernel
theorem dX9_meet_52 : decode cX9_meet 52 = .ok (.ifCond .eq 52, 3) := by decide +kernel
theorem dX9_meet_55 : decode cX9_meet 55 = .ok (.iload_n 2, 1) := by decide +kernel
theorem dX9_meet_56 : decode cX9_meet 56 = .ok (.invokestatic 118, 3) := by decide +kernel
theorem dX9_meet_59 : decode cX9_meet 59 = .ok (.ifCond .eq 45, 3) := by decide +kernel
theorem dX9_meet_62 : decode cX9_meet 62 = .ok (.iload_n 1, 1) := by decide +kernel
theorem dX9_meet_63 : decode cX9_meet 63 = .ok (.iconst 1, 1) := by decide +kernel
theorem dX9_meet_64 : decode cX9_meet 64 = .ok (.isub, 1) := by decide +kernel
theorem dX9_meet_65 : decode cX9_meet 65 = .ok (.istore_n 3, 1) := by decide +kernel
theorem dX9_meet_66 : decode cX9_meet 66 = .ok (.iload_n 3, 1) := by decide +kernel
theorem dX9_meet_67 : decode cX9_meet 67 = .ok (.ifCond .lt 24, 3) := by decide +kernel
theorem dX9_meet_70 : decode cX9_meet 70 = .ok (.aload_n 0, 1) := by decide +kernel
theorem dX9_meet_71 : decode cX9_meet 71 = .ok (.iload_n 2, 1) := by decide +kernel
theorem dX9_meet_72 : decode cX9_meet 72 = .ok (.iconst 1, 1) := by decide +kernel
theorem dX9_meet_73 : decode cX9_meet 73 = .ok (.isub, 1) := by decide +kernel
theorem dX9_meet_74 : decode cX9_meet 74 = .ok (.iload_n 3, 1) := by decide +kernel
theorem dX9_meet_75 : decode cX9_meet 75 = .ok (.invokevirtual 121, 3) := by decide +kernel
theorem dX9_meet_78 : decode cX9_meet 78 = .ok (.ifCond .ne 13, 3) := by decide +kernel
theorem dX9_meet_81 : decode cX9_meet 81 = .ok (.aload_n 0, 1) := by decide +kernel
theorem dX9_meet_82 : decode cX9_meet 82 = .ok (.getfield 9, 3) := by decide +kernel
theorem dX9_meet_85 : decode cX9_meet 85 = .ok (.iload_n 3, 1) := by decide +kernel
theorem dX9_meet_86 : decode cX9_meet 86 = .ok (.iaload, 1) := by decide +kernel
theorem dX9_meet_87 : decode cX9_meet 87 = .ok (.istore_n 3, 1) := by decide +kernel
theorem dX9_meet_88 : decode cX9_meet 88 = .ok (.goto (-22), 3) := by decide +kernel
theorem dX9_meet_91 : decode cX9_meet 91 = .ok (.iload_n 3, 1) := by decide +kernel
theorem dX9_meet_92 : decode cX9_meet 92 = .ok (.ifCond .ge 8, 3) := by decide +kernel
theorem dX9_meet_95 : decode cX9_meet 95 = .ok (.bipush 98, 2) := by decide +kernel
theorem dX9_meet_97 : decode cX9_meet 97 = .ok (.goto 6, 3) := by decide +kernel
theorem dX9_meet_100 : decode cX9_meet 100 = .ok (.iconst 1, 1) := by decide +kernel
theorem dX9_meet_101 : decode cX9_meet 101 = .ok (.iload_n 3, 1) := by decide +kernel
theorem dX9_meet_102 : decode cX9_meet 102 = .ok (.iadd, 1) := by decide +kernel
theorem dX9_meet_103 : decode cX9_meet 103 = .ok (.ireturn, 1) := by decide +kernel
theorem dX9_meet_104 : decode cX9_meet 104 = .ok (.bipush 98, 2) := by decide +kernel
theorem dX9_meet_106 : decode cX9_meet 106 = .ok (.ireturn, 1) := by decide +kernel
theorem dX9_come_0 : decode cX9_come 0 = .ok (.iload_n 2, 1) := by decide +kernel
theorem dX9_come_1 : decode cX9_come 1 = .ok (.aload_n 0, 1) := by decide +kernel
theorem dX9_come_2 : decode cX9_come 2 = .ok (.getfield 47, 3) := by decide +kernel
theorem dX9_come_5 : decode cX9_come 5 = .ok (.iload_n 1, 1) := by decide +kernel
theorem dX9_come_6 : decode cX9_come 6 = .ok (.iaload, 1) := by decide +kernel
theorem dX9_come_7 : decode cX9_come 7 = .ok (.if_icmp .lt 5, 3) := by decide +kernel
theorem dX9_come_10 : decode cX9_come 10 = .ok (.iconst 0, 1) := by decide +kernel
theorem dX9_come_11 : decode cX9_come 11 = .ok (.ireturn, 1) := by decide +kernel
theorem dX9_come_12 : decode cX9_come 12 = .ok (.aload_n 0, 1) := by decide +kernel
theorem dX9_come_13 : decode cX9_come 13 = .ok (.getfield 32, 3) := by decide +kernel
theorem dX9_come_16 : decode cX9_come 16 = .ok (.iload_n 1, 1) := by decide +kernel
theorem dX9_come_17 : decode cX9_come 17 = .ok (.iaload, 1) := by decide +kernel
theorem dX9_come_18 : decode cX9_come 18 = .ok (.istore_n 3, 1) := by decide +kernel
theorem dX9_come_19 : decode cX9_come 19 = .ok (.sipush 200, 3) := by decide +kernel
theorem dX9_come_22 : decode cX9_come 22 = .ok (.iload_n 1, 1) := by decide +kernel
theorem dX9_come_23 : decode cX9_come 23 = .ok (.imul, 1) := by decide +kernel
theorem dX9_come_24 : decode cX9_come 24 = .ok (.iload_n 2, 1) := by decide +kernel
theorem dX9_come_25 : decode cX9_come 25 = .ok (.iadd, 1) := by decide +kernel
theorem dX9_come_26 : decode cX9_come 26 = .ok (.istore 4, 2) := by decide +kernel
theorem dX9_come_28 : decode cX9_come 28 = .ok (.aload_n 0, 1) := by decide +kernel
theorem dX9_come_29 : decode cX9_come 29 = .ok (.getfield 77, 3) := by decide +kernel
theorem dX9_come_32 : decode cX9_come 32 = .ok (.iload 4, 2) := by decide +kernel
theorem dX9_come_34 : decode cX9_come 34 = .ok (.iaload, 1) := by decide +kernel
theorem dX9_come_35 : decode cX9_come 35 = .ok (.ifCond .ge 63, 3) := by decide +kernel
theorem dX9_come_38 : decode cX9_come 38 = .ok (.aload_n 0, 1) := by decide +kernel
theorem dX9_come_39 : decode cX9_come 39 = .ok (.getfield 77, 3) := by decide +kernel
theorem dX9_come_42 : decode cX9_come 42 = .ok (.iload 4, 2) := by decide +kernel
theorem dX9_come_44 : decode cX9_come 44 = .ok (.aload_n 0, 1) := by decide +kernel
theorem dX9_come_45 : decode cX9_come 45 = .ok (.getfield 124, 3) := by decide +kernel
theorem dX9_come_48 : decode cX9_come 48 = .ok (.iastore, 1) := by decide +kernel
theorem dX9_come_49 : decode cX9_come 49 = .ok (.iconst 0, 1) := by decide +kernel
theorem dX9_come_50 : decode cX9_come 50 = .ok (.istore 5, 2) := by decide +kernel
theorem dX9_come_52 : decode cX9_come 52 = .ok (.iload 5, 2) := by decide +kernel
theorem dX9_come_54 : decode cX9_come 54 = .ok (.iload_n 3, 1) := by decide +kernel
theorem dX9_come_55 : decode cX9_come 55 = .ok (.aload_n 0, 1) := by decide +kernel
theorem dX9_come_56 : decode cX9_come 56 = .ok (.getfield 124, 3) := by decide +kernel
theorem dX9_come_59 : decode cX9_come 59 = .ok (.iadd, 1) := by decide +kernel
theorem dX9_come_60 : decode cX9_come 60 = .ok (.if_icmp .ge 29, 3) := by decide +kernel
theorem dX9_come_63 : decode cX9_come 63 = .ok (.aload_n 0, 1) := by decide +kernel
theorem dX9_come_64 : decode cX9_come 64 = .ok (.getfield 81, 3) := by decide +kernel
theorem dX9_come_67 : decode cX9_come 67 = .ok (.bipush 12, 2) := by decide +kernel
theorem dX9_come_69 : decode cX9_come 69 = .ok (.iload 4, 2) := by decide +kernel
theorem dX9_come_71 : decode cX9_come 71 = .ok (.imul, 1) := by decide +kernel
theorem dX9_come_72 : decode cX9_come 72 = .ok (.iload 5, 2) := by decide +kernel
theorem dX9_come_74 : decode cX9_come 74 = .ok (.iadd, 1) := by decide +kernel
theorem dX9_come_75 : decode cX9_come 75 = .ok (.aload_n 0, 1) := by decide +kernel
theorem dX9_come_76 : decode cX9_come 76 = .ok (.getfield 87, 3) := by decide +kernel
theorem dX9_come_79 : decode cX9_come 79 = .ok (.iload 5, 2) := by decide +kernel
theorem dX9_come_81 : decode cX9_come 81 = .ok (.iaload, 1) := by decide +kernel
theorem dX9_come_82 : decode cX9_come 82 = .ok (.iastore, 1) := by decide +kernel
theorem dX9_come_83 : decode cX9_come 83 = .ok (.iinc 5 1, 3) := by decide +kernel
theorem dX9_come_86 : decode cX9_come 86 = .ok (.goto (-34), 3) := by decide +kernel
theorem dX9_come_89 : decode cX9_come 89 = .ok (.aload_n 0, 1) := by decide +kernel
theorem dX9_come_90 : decode cX9_come 90 = .ok (.getfield 84, 3) := by decide +kernel
theorem dX9_come_93 : decode cX9_come 93 = .ok (.iload_n 2, 1) := by decide +kernel
theorem dX9_come_94 : decode cX9_come 94 = .ok (.iconst 1, 1) := by decide +kernel
theorem dX9_come_95 : decode cX9_come 95 = .ok (.bastore, 1) := by decide +kernel
theorem dX9_come_96 : decode cX9_come 96 = .ok (.iconst 1, 1) := by decide +kernel
theorem dX9_come_97 : decode cX9_come 97 = .ok (.ireturn, 1) := by decide +kernel
theorem dX9_come_98 : decode cX9_come 98 = .ok (.aload_n 0, 1) := by decide +kernel
theorem dX9_come_99 : decode cX9_come 99 = .ok (.getfield 77, 3) := by decide +kernel
theorem dX9_come_102 : decode cX9_come 102 = .ok (.iload 4, 2) := by decide +kernel
theorem dX9_come_104 : decode cX9_come 104 = .ok (.iaload, 1) := by decide +kernel
theorem dX9_come_105 : decode cX9_come 105 = .ok (.aload_n 0, 1) := by decide +kernel
theorem dX9_come_106 : decode cX9_come 106 = .ok (.getfield 124, 3) := by decide +kernel
theorem dX9_come_109 : decode cX9_come 109 = .ok (.if_icmp .eq 10, 3) := by decide +kernel
theorem dX9_come_112 : decode cX9_come 112 = .ok (.aload_n 0, 1) := by decide +kernel
theorem dX9_come_113 : decode cX9_come 113 = .ok (.iload_n 2, 1) := by decide +kernel
theorem dX9_come_114 : decode cX9_come 114 = .ok (.putfield 127, 3) := by decide +kernel
theorem dX9_come_117 : decode cX9_come 117 = .ok (.iconst 0, 1) := by decide +kernel
theorem dX9_come_118 : decode cX9_come 118 = .ok (.ireturn, 1) := by decide +kernel
theorem dX9_come_119 : decode cX9_come 119 = .ok (.iconst 0, 1) := by decide +kernel
theorem dX9_come_120 : decode cX9_come 120 = .ok (.istore 5, 2) := by decide +kernel
theorem dX9_come_122 : decode cX9_come 122 = .ok (.iload 5, 2) := by decide +kernel
theorem dX9_come_124 : decode cX9_come 124 = .ok (.iload_n 3, 1) := by decide +kernel
theorem dX9_come_125 : decode cX9_come 125 = .ok (.aload_n 0, 1) := by decide +kernel
theorem dX9_come_126 : decode cX9_come 126 = .ok (.getfield 124, 3) := by decide +kernel
theorem dX9_come_129 : decode cX9_come 129 = .ok (.iadd, 1) := by decide +kernel
theorem dX9_come_130 : decode cX9_come 130 = .ok (.if_icmp .ge 108, 3) := by decide +kernel
theorem dX9_come_133 : decode cX9_come 133 = .ok (.aload_n 0, 1) := by decide +kernel
theorem dX9_come_134 : decode cX9_come 134 = .ok (.aload_n 0, 1) := by decide +kernel
theorem dX9_come_135 : decode cX9_come 135 = .ok (.getfield 81, 3) := by decide +kernel
theorem dX9_come_138 : decode cX9_come 138 = .ok (.bipush 12, 2) := by decide +kernel
theorem dX9_come_140 : decode cX9_come 140 = .ok (.iload 4, 2) := by decide +kernel
theorem dX9_come_142 : decode cX9_come 142 = .ok (.imul, 1) := by decide +kernel
theorem dX9_come_143 : decode cX9_come 143 = .ok (.iload 5, 2) := by decide +kernel
theorem dX9_come_145 : decode cX9_come 145 = .ok (.iadd, 1) := by decide +kernel
theorem dX9_come_146 : decode cX9_come 146 = .ok (.iaload, 1) := by decide +kernel
theorem dX9_come_147 : decode cX9_come 147 = .ok (.aload_n 0, 1) := by decide +kernel
theorem dX9_come_148 : decode cX9_come 148 = .ok (.getfield 87, 3) := by decide +kernel
theorem dX9_come_151 : decode cX9_come 151 = .ok (.iload 5, 2) := by decide +kernel
theorem dX9_come_153 : decode cX9_come 153 = .ok (.iaload, 1) := by decide +kernel
theorem dX9_come_154 : decode cX9_come 154 = .ok (.invokevirtual 130, 3) := by decide +kernel
theorem dX9_come_157 : decode cX9_come 157 = .ok (.istore 6, 2) := by decide +kernel
theorem dX9_come_159 : decode cX9_come 159 = .ok (.iload 5, 2) := by decide +kernel
theorem dX9_come_161 : decode cX9_come 161 = .ok (.iload_n 3, 1) := by decide +kernel
theorem dX9_come_162 : decode cX9_come 162 = .ok (.if_icmp .lt 17, 3) := by decide +kernel
theorem dX9_come_165 : decode cX9_come 165 = .ok (.iload 6, 2) := by decide +kernel
theorem dX9_come_167 : decode cX9_come 167 = .ok (.bipush 99, 2) := by decide +kernel
theorem dX9_come_169 : decode cX9_come 169 = .ok (.if_icmp .ne 10, 3) := by decide +kernel
theorem dX9_come_172 : decode cX9_come 172 = .ok (.aload_n 0, 1) := by decide +kernel
theorem dX9_come_173 : decode cX9_come 173 = .ok (.iload_n 2, 1) := by decide +kernel
theorem dX9_come_174 : decode cX9_come 174 = .ok (.putfield 127, 3) := by decide +kernel
theorem dX9_come_177 : decode cX9_come 177 = .ok (.iconst 0, 1) := by decide +kernel
theorem dX9_come_178 : decode cX9_come 178 = .ok (.ireturn, 1) := by decide +kernel
theorem dX9_come_179 : decode cX9_come 179 = .ok (.aload_n 0, 1) := by decide +kernel
theorem dX9_come_180 : decode cX9_come 180 = .ok (.getfield 84, 3) := by decide +kernel
theorem dX9_come_183 : decode cX9_come 183 = .ok (.iload_n 2, 1) := by decide +kernel
theorem dX9_come_184 : decode cX9_come 184 = .ok (.aload_n 0, 1) := by decide +kernel
theorem dX9_come_185 : decode cX9_come 185 = .ok (.getfield 84, 3) := by decide +kernel
theorem dX9_come_188 : decode cX9_come 188 = .ok (.iload_n 2, 1) := by decide +kernel
theorem dX9_come_189 : decode cX9_come 189 = .ok (.baload, 1) := by decide +kernel
theorem dX9_come_190 : decode cX9_come 190 = .ok (.ifCond .ne 21, 3) := by decide +kernel
theorem dX9_come_193 : decode cX9_come 193 = .ok (.iload 6, 2) := by decide +kernel
theorem dX9_come_195 : decode cX9_come 195 = .ok (.aload_n 0, 1) := by decide +kernel
theorem dX9_come_196 : decode cX9_come 196 = .ok (.getfield 81, 3) := by decide +kernel
theorem dX9_come_199 : decode cX9_come 199 = .ok (.bipush 12, 2) := by decide +kernel
theorem dX9_come_201 : decode cX9_come 201 = .ok (.iload 4, 2) := by decide +kernel
theorem dX9_come_203 : decode cX9_come 203 = .ok (.imul, 1) := by decide +kernel
theorem dX9_come_204 : decode cX9_come 204 = .ok (.iload 5, 2) := by decide +kernel
theorem dX9_come_206 : decode cX9_come 206 = .ok (.iadd, 1) := by decide +kernel
theorem dX9_come_207 : decode cX9_come 207 = .ok (.iaload, 1) := by decide +kernel
theorem dX9_come_208 : decode cX9_come 208 = .ok (.if_icmp .eq 7, 3) := by decide +kernel
theorem dX9_come_211 : decode cX9_come 211 = .ok (.iconst 1, 1) := by decide +kernel
theorem dX9_come_212 : decode cX9_come 212 = .ok (.goto 4, 3) := by decide +kernel
theorem dX9_come_215 : decode cX9_come 215 = .ok (.iconst 0, 1) := by decide +kernel
theorem dX9_come_216 : decode cX9_come 216 = .ok (.bastore, 1) := by decide +kernel
theorem dX9_come_217 : decode cX9_come 217 = .ok (.aload_n 0, 1) := by decide +kernel
theorem dX9_come_218 : decode cX9_come 218 = .ok (.getfield 81, 3) := by decide +kernel
theorem dX9_come_221 : decode cX9_come 221 = .ok (.bipush 12, 2) := by decide +kernel
theorem dX9_come_223 : decode cX9_come 223 = .ok (.iload 4, 2) := by decide +kernel
theorem dX9_come_225 : decode cX9_come 225 = .ok (.imul, 1) := by decide +kernel
theorem dX9_come_226 : decode cX9_come 226 = .ok (.iload 5, 2) := by decide +kernel
theorem dX9_come_228 : decode cX9_come 228 = .ok (.iadd, 1) := by decide +kernel
theorem dX9_come_229 : decode cX9_come 229 = .ok (.iload 6, 2) := by decide +kernel
theorem dX9_come_231 : decode cX9_come 231 = .ok (.iastore, 1) := by decide +kernel
theorem dX9_come_232 : decode cX9_come 232 = .ok (.iinc 5 1, 3) := by decide +kernel
theorem dX9_come_235 : decode cX9_come 235 = .ok (.goto (-113), 3) := by decide +kernel
theorem dX9_come_238 : decode cX9_come 238 = .ok (.iconst 1, 1) := by decide +kernel
theorem dX9_come_239 : decode cX9_come 239 = .ok (.ireturn, 1) := by decide +kernel
theorem dX9_takeUp_0 : decode cX9_takeUp 0 = .ok (.sipush 200, 3) := by decide +kernel
theorem dX9_takeUp_3 : decode cX9_takeUp 3 = .ok (.iload_n 1, 1) := by decide +kernel
theorem dX9_takeUp_4 : decode cX9_takeUp 4 = .ok (.imul, 1) := by decide +kernel
theorem dX9_takeUp_5 : decode cX9_takeUp 5 = .ok (.iload_n 2, 1) := by decide +kernel
theorem dX9_takeUp_6 : decode cX9_takeUp 6 = .ok (.iadd, 1) := by decide +kernel
theorem dX9_takeUp_7 : decode cX9_takeUp 7 = .ok (.istore_n 3, 1) := by decide +kernel
theorem dX9_takeUp_8 : decode cX9_takeUp 8 = .ok (.aload_n 0, 1) := by decide +kernel
theorem dX9_takeUp_9 : decode cX9_takeUp 9 = .ok (.aload_n 0, 1) := by decide +kernel
theorem dX9_takeUp_10 : decode cX9_takeUp 10 = .ok (.getfield 77, 3) := by decide +kernel
theorem dX9_takeUp_13 : decode cX9_takeUp 13 = .ok (.iload_n 3, 1) := by decide +kernel
theorem dX9_takeUp_14 : decode cX9_takeUp 14 = .ok (.iaload, 1) := by decide +kernel
theorem dX9_takeUp_15 : decode cX9_takeUp 15 = .ok (.putfield 124, 3) := by decide +kernel
theorem dX9_takeUp_18 : decode cX9_takeUp 18 = .ok (.aload_n 0, 1) := by decide +kernel
theorem dX9_takeUp_19 : decode cX9_takeUp 19 = .ok (.iload_n 1, 1) := by decide +kernel
theorem dX9_takeUp_20 : decode cX9_takeUp 20 = .ok (.putfield 134, 3) := by decide +kernel
theorem dX9_takeUp_23 : decode cX9_takeUp 23 = .ok (.iconst 0, 1) := by decide +kernel
theorem dX9_takeUp_24 : decode cX9_takeUp 24 = .ok (.istore 4, 2) := by decide +kernel
theorem dX9_takeUp_26 : decode cX9_takeUp 26 = .ok (.iload 4, 2) := by decide +kernel
theorem dX9_takeUp_28 : decode cX9_takeUp 28 = .ok (.aload_n 0, 1) := by decide +kernel
theorem dX9_takeUp_29 : decode cX9_takeUp 29 = .ok (.getfield 32, 3) := by decide +kernel
theorem dX9_takeUp_32 : decode cX9_takeUp 32 = .ok (.iload_n 1, 1) := by decide +kernel
theorem dX9_takeUp_33 : decode cX9_takeUp 33 = .ok (.iaload, 1) := by decide +kernel
theorem dX9_takeUp_34 : decode cX9_takeUp 34 = .ok (.aload_n 0, 1) := by decide +kernel
theorem dX9_takeUp_35 : decode cX9_takeUp 35 = .ok (.getfield 124, 3) := by decide +kernel
theorem dX9_takeUp_38 : decode cX9_takeUp 38 = .ok (.iadd, 1) := by decide +kernel
theorem dX9_takeUp_39 : decode cX9_takeUp 39 = .ok (.if_icmp .ge 28, 3) := by decide +kernel
theorem dX9_takeUp_42 : decode cX9_takeUp 42 = .ok (.aload_n 0, 1) := by decide +kernel
theorem dX9_takeUp_43 : decode cX9_takeUp 43 = .ok (.getfield 87, 3) := by decide +kernel
theorem dX9_takeUp_46 : decode cX9_takeUp 46 = .ok (.iload 4, 2) := by decide +kernel
theorem dX9_takeUp_48 : decode cX9_takeUp 48 = .ok (.aload_n 0, 1) := by decide +kernel
theorem dX9_takeUp_49 : decode cX9_takeUp 49 = .ok (.getfield 81, 3) := by decide +kernel
theorem dX9_takeUp_52 : decode cX9_takeUp 52 = .ok (.bipush 12, 2) := by decide +kernel
theorem dX9_takeUp_54 : decode cX9_takeUp 54 = .ok (.iload_n 3, 1) := by decide +kernel
theorem dX9_takeUp_55 : decode cX9_takeUp 55 = .ok (.imul, 1) := by decide +kernel
theorem dX9_takeUp_56 : decode cX9_takeUp 56 = .ok (.iload 4, 2) := by decide +kernel
theorem dX9_takeUp_58 : decode cX9_takeUp 58 = .ok (.iadd, 1) := by decide +kernel
theorem dX9_takeUp_59 : decode cX9_takeUp 59 = .ok (.iaload, 1) := by decide +kernel
theorem dX9_takeUp_60 : decode cX9_takeUp 60 = .ok (.iastore, 1) := by decide +kernel
theorem dX9_takeUp_61 : decode cX9_takeUp 61 = .ok (.iinc 4 1, 3) := by decide +kernel
theorem dX9_takeUp_64 : decode cX9_takeUp 64 = .ok (.goto (-38), 3) := by decide +kernel
theorem dX9_takeUp_67 : decode cX9_takeUp 67 = .ok (.return_, 1) := by decide +kernel
theorem dX9_push_0 : decode cX9_push 0 = .ok (.aload_n 0, 1) := by decide +kernel
theorem dX9_push_1 : decode cX9_push 1 = .ok (.getfield 124, 3) := by decide +kernel
theorem dX9_push_4 : decode cX9_push 4 = .ok (.aload_n 0, 1) := by decide +kernel
theorem dX9_push_5 : decode cX9_push 5 = .ok (.getfield 35, 3) := by decide +kernel
theorem dX9_push_8 : decode cX9_push 8 = .ok (.aload_n 0, 1) := by decide +kernel
theorem dX9_push_9 : decode cX9_push 9 = .ok (.getfield 134, 3) := by decide +kernel
theorem dX9_push_12 : decode cX9_push 12 = .ok (.iaload, 1) := by decide +kernel
theorem dX9_push_13 : decode cX9_push 13 = .ok (.if_icmp .ne 5, 3) := by decide +kernel
theorem dX9_push_16 : decode cX9_push 16 = .ok (.iconst 0, 1) := by decide +kernel
theorem dX9_push_17 : decode cX9_push 17 = .ok (.ireturn, 1) := by decide +kernel
theorem dX9_push_18 : decode cX9_push 18 = .ok (.aload_n 0, 1) := by decide +kernel
theorem dX9_push_19 : decode cX9_push 19 = .ok (.getfield 87, 3) := by decide +kernel
theorem dX9_push_22 : decode cX9_push 22 = .ok (.aload_n 0, 1) := by decide +kernel
theorem dX9_push_23 : decode cX9_push 23 = .ok (.getfield 32, 3) := by decide +kernel
theorem dX9_push_26 : decode cX9_push 26 = .ok (.aload_n 0, 1) := by decide +kernel
theorem dX9_push_27 : decode cX9_push 27 = .ok (.getfield 134, 3) := by decide +kernel
theorem dX9_push_30 : decode cX9_push 30 = .ok (.iaload, 1) := by decide +kernel
theorem dX9_push_31 : decode cX9_push 31 = .ok (.aload_n 0, 1) := by decide +kernel
theorem dX9_push_32 : decode cX9_push 32 = .ok (.getfield 124, 3) := by decide +kernel
theorem dX9_push_35 : decode cX9_push 35 = .ok (.iadd, 1) := by decide +kernel
theorem dX9_push_36 : decode cX9_push 36 = .ok (.iload_n 1, 1) := by decide +kernel
theorem dX9_push_37 : decode cX9_push 37 = .ok (.iastore, 1) := by decide +kernel
theorem dX9_push_38 : decode cX9_push 38 = .ok (.aload_n 0, 1) := by decide +kernel
theorem dX9_push_39 : decode cX9_push 39 = .ok (.dup, 1) := by decide +kernel
theorem dX9_push_40 : decode cX9_push 40 = .ok (.getfield 124, 3) := by decide +kernel
theorem dX9_push_43 : decode cX9_push 43 = .ok (.iconst 1, 1) := by decide +kernel
theorem dX9_push_44 : decode cX9_push 44 = .ok (.iadd, 1) := by decide +kernel
theorem dX9_push_45 : decode cX9_push 45 = .ok (.putfield 124, 3) := by decide +kernel
theorem dX9_push_48 : decode cX9_push 48 = .ok (.iconst 1, 1) := by decide +kernel
theorem dX9_push_49 : decode cX9_push 49 = .ok (.ireturn, 1) := by decide +kernel
theorem dX9_pop_0 : decode cX9_pop 0 = .ok (.aload_n 0, 1) := by decide +kernel
theorem dX9_pop_1 : decode cX9_pop 1 = .ok (.getfield 124, 3) := by decide +kernel
theorem dX9_pop_4 : decode cX9_pop 4 = .ok (.ifCond .ne 5, 3) := by decide +kernel
theorem dX9_pop_7 : decode cX9_pop 7 = .ok (.iconst (-1), 1) := by decide +kernel
theorem dX9_pop_8 : decode cX9_pop 8 = .ok (.ireturn, 1) := by decide +kernel
theorem dX9_pop_9 : decode cX9_pop 9 = .ok (.aload_n 0, 1) := by decide +kernel
theorem dX9_pop_10 : decode cX9_pop 10 = .ok (.dup, 1) := by decide +kernel
theorem dX9_pop_11 : decode cX9_pop 11 = .ok (.getfield 124, 3) := by decide +kernel
theorem dX9_pop_14 : decode cX9_pop 14 = .ok (.iconst 1, 1) := by decide +kernel
theorem dX9_pop_15 : decode cX9_pop 15 = .ok (.isub, 1) := by decide +kernel
theorem dX9_pop_16 : decode cX9_pop 16 = .ok (.putfield 124, 3) := by decide +kernel
theorem dX9_pop_19 : decode cX9_pop 19 = .ok (.aload_n 0, 1) := by decide +kernel
theorem dX9_pop_20 : decode cX9_pop 20 = .ok (.getfield 87, 3) := by decide +kernel
theorem dX9_pop_23 : decode cX9_pop 23 = .ok (.aload_n 0, 1) := by decide +kernel
theorem dX9_pop_24 : decode cX9_pop 24 = .ok (.getfield 32, 3) := by decide +kernel
theorem dX9_pop_27 : decode cX9_pop 27 = .ok (.aload_n 0, 1) := by decide +kernel
theorem dX9_pop_28 : decode cX9_pop 28 = .ok (.getfield 134, 3) := by decide +kernel
theorem dX9_pop_31 : decode cX9_pop 31 = .ok (.iaload, 1) := by decide +kernel
theorem dX9_pop_32 : decode cX9_pop 32 = .ok (.aload_n 0, 1) := by decide +kernel
theorem dX9_pop_33 : decode cX9_pop 33 = .ok (.getfield 124, 3) := by decide +kernel
theorem dX9_pop_36 : decode cX9_pop 36 = .ok (.iadd, 1) := by decide +kernel
theorem dX9_pop_37 : decode cX9_pop 37 = .ok (.iaload, 1) := by decide +kernel
theorem dX9_pop_38 : decode cX9_pop 38 = .ok (.ireturn, 1) := by decide +kernel
theorem dX9_popInto_0 : decode cX9_popInto 0 = .ok (.aload_n 0, 1) := by decide +kernel
theorem dX9_popInto_1 : decode cX9_popInto 1 = .ok (.invokevirtual 137, 3) := by decide +kernel
theorem dX9_popInto_4 : decode cX9_popInto 4 = .ok (.istore_n 2, 1) := by decide +kernel
theorem dX9_popInto_5 : decode cX9_popInto 5 = .ok (.iload_n 2, 1) := by decide +kernel
theorem dX9_popInto_6 : decode cX9_popInto 6 = .ok (.iconst (-1), 1) := by decide +kernel
theorem dX9_popInto_7 : decode cX9_popInto 7 = .ok (.if_icmp .eq 16, 3) := by decide +kernel
theorem dX9_popInto_10 : decode cX9_popInto 10 = .ok (.aload_n 0, 1) := by decide +kernel
theorem dX9_popInto_11 : decode cX9_popInto 11 = .ok (.iload_n 2, 1) := by decide +kernel
theorem dX9_popInto_12 : decode cX9_popInto 12 = .ok (.iload_n 1, 1) := by decide +kernel
theorem dX9_popInto_13 : decode cX9_popInto 13 = .ok (.invokevirtual 141, 3) := by decide +kernel
theorem dX9_popInto_16 : decode cX9_popInto 16 = .ok (.ifCond .eq 7, 3) := by decide +kernel
theorem dX9_popInto_19 : decode cX9_popInto 19 = .ok (.iconst 1, 1) := by decide +kernel
theorem dX9_popInto_20 : decode cX9_popInto 20 = .ok (.goto 4, 3) := by decide +kernel
theorem dX9_popInto_23 : decode cX9_popInto 23 = .ok (.iconst 0, 1) := by decide +kernel
theorem dX9_popInto_24 : decode cX9_popInto 24 = .ok (.ireturn, 1) := by decide +kernel
theorem dX9_popReference_0 : decode cX9_popReference 0 = .ok (.aload_n 0, 1) := by decide +kernel
theorem dX9_popReference_1 : decode cX9_popReference 1 = .ok (.invokevirtual 137, 3) := by decide +kernel
theorem dX9_popReference_4 : decode cX9_popReference 4 = .ok (.istore_n 1, 1) := by decide +kernel
theorem dX9_popReference_5 : decode cX9_popReference 5 = .ok (.iload_n 1, 1) := by decide +kernel
theorem dX9_popReference_6 : decode cX9_popReference 6 = .ok (.iconst (-1), 1) := by decide +kernel
theorem dX9_popReference_7 : decode cX9_popReference 7 = .ok (.if_icmp .eq 14, 3) := by decide +kernel
theorem dX9_popReference_10 : decode cX9_popReference 10 = .ok (.iload_n 1, 1) := by decide +kernel
theorem dX9_popReference_11 : decode cX9_popReference 11 = .ok (.invokestatic 115, 3) := by decide +kernel
theorem dX9_popReference_14 : decode cX9_popReference 14 = .ok (.ifCond .eq 7, 3) := by decide +kernel
theorem dX9_popReference_17 : decode cX9_popReference 17 = .ok (.iconst 1, 1) := by decide +kernel
theorem dX9_popReference_18 : decode cX9_popReference 18 = .ok (.goto 4, 3) := by decide +kernel
theorem dX9_popReference_21 : decode cX9_popReference 21 = .ok (.iconst 0, 1) := by decide +kernel
theorem dX9_popReference_22 : decode cX9_popReference 22 = .ok (.ireturn, 1) := by decide +kernel
theorem dX9_ints_0 : decode cX9_ints 0 = .ok (.iconst 0, 1) := by decide +kernel
theorem dX9_ints_1 : decode cX9_ints 1 = .ok (.istore_n 2, 1) := by decide +kernel
theorem dX9_ints_2 : decode cX9_ints 2 = .ok (.iload_n 2, 1) := by decide +kernel
theorem dX9_ints_3 : decode cX9_ints 3 = .ok (.iload_n 1, 1) := by decide +kernel
theorem dX9_ints_4 : decode cX9_ints 4 = .ok (.if_icmp .ge 18, 3) := by decide +kernel
theorem dX9_ints_7 : decode cX9_ints 7 = .ok (.aload_n 0, 1) := by decide +kernel
theorem dX9_ints_8 : decode cX9_ints 8 = .ok (.invokevirtual 137, 3) := by decide +kernel
theorem dX9_ints_11 : decode cX9_ints 11 = .ok (.ifCond .eq 5, 3) := by decide +kernel
theorem dX9_ints_14 : decode cX9_ints 14 = .ok (.iconst 0, 1) := by decide +kernel
theorem dX9_ints_15 : decode cX9_ints 15 = .ok (.ireturn, 1) := by decide +kernel
theorem dX9_ints_16 : decode cX9_ints 16 = .ok (.iinc 2 1, 3) := by decide +kernel
theorem dX9_ints_19 : decode cX9_ints 19 = .ok (.goto (-17), 3) := by decide +kernel
theorem dX9_ints_22 : decode cX9_ints 22 = .ok (.iconst 1, 1) := by decide +kernel
theorem dX9_ints_23 : decode cX9_ints 23 = .ok (.ireturn, 1) := by decide +kernel
theorem dX9_parameters_0 : decode cX9_parameters 0 = .ok (.aload_n 0, 1) := by decide +kernel
theorem dX9_parameters_1 : decode cX9_parameters 1 = .ok (.getfield 38, 3) := by decide +kernel
theorem dX9_parameters_4 : decode cX9_parameters 4 = .ok (.iload_n 1, 1) := by decide +kernel
theorem dX9_parameters_5 : decode cX9_parameters 5 = .ok (.iaload, 1) := by decide +kernel
theorem dX9_parameters_6 : decode cX9_parameters 6 = .ok (.iconst 1, 1) := by decide +kernel
theorem dX9_parameters_7 : decode cX9_parameters 7 = .ok (.isub, 1) := by decide +kernel
theorem dX9_parameters_8 : decode cX9_parameters 8 = .ok (.istore_n 3, 1) := by decide +kernel
theorem dX9_parameters_9 : decode cX9_parameters 9 = .ok (.iload_n 3, 1) := by decide +kernel
theorem dX9_parameters_10 : decode cX9_parameters 10 = .ok (.iload_n 2, 1) := by decide +kernel
theorem dX9_parameters_11 : decode cX9_parameters 11 = .ok (.if_icmp .lt 29, 3) := by decide +kernel
theorem dX9_parameters_14 : decode cX9_parameters 14 = .ok (.aload_n 0, 1) := by decide +kernel
theorem dX9_parameters_15 : decode cX9_parameters 15 = .ok (.aload_n 0, 1) := by decide +kernel
theorem dX9_parameters_16 : decode cX9_parameters 16 = .ok (.getfield 41, 3) := by decide +kernel
theorem dX9_parameters_19 : decode cX9_parameters 19 = .ok (.bipush 8, 2) := by decide +kernel
theorem dX9_parameters_21 : decode cX9_parameters 21 = .ok (.iload_n 1, 1) := by decide +kernel
theorem dX9_parameters_22 : decode cX9_parameters 22 = .ok (.imul, 1) := by decide +kernel
theorem dX9_parameters_23 : decode cX9_parameters 23 = .ok (.iload_n 3, 1) := by decide +kernel
theorem dX9_parameters_24 : decode cX9_parameters 24 = .ok (.iadd, 1) := by decide +kernel
theorem dX9_parameters_25 : decode cX9_parameters 25 = .ok (.iaload, 1) := by decide +kernel
theorem dX9_parameters_26 : decode cX9_parameters 26 = .ok (.invokevirtual 144, 3) := by decide +kernel
theorem dX9_parameters_29 : decode cX9_parameters 29 = .ok (.ifCond .ne 5, 3) := by decide +kernel
theorem dX9_parameters_32 : decode cX9_parameters 32 = .ok (.iconst 0, 1) := by decide +kernel
theorem dX9_parameters_33 : decode cX9_parameters 33 = .ok (.ireturn, 1) := by decide +kernel
theorem dX9_parameters_34 : decode cX9_parameters 34 = .ok (.iinc 3 (-1), 3) := by decide +kernel
theorem dX9_parameters_37 : decode cX9_parameters 37 = .ok (.goto (-28), 3) := by decide +kernel
theorem dX9_parameters_40 : decode cX9_parameters 40 = .ok (.iconst 1, 1) := by decide +kernel
theorem dX9_parameters_41 : decode cX9_parameters 41 = .ok (.ireturn, 1) := by decide +kernel
theorem dX9_given_0 : decode cX9_given 0 = .ok (.aload_n 0, 1) := by decide +kernel
theorem dX9_given_1 : decode cX9_given 1 = .ok (.getfield 29, 3) := by decide +kernel
theorem dX9_given_4 : decode cX9_given 4 = .ok (.iload_n 1, 1) := by decide +kernel
theorem dX9_given_5 : decode cX9_given 5 = .ok (.iaload, 1) := by decide +kernel
theorem dX9_given_6 : decode cX9_given 6 = .ok (.ifCond .lt 16, 3) := by decide +kernel
theorem dX9_given_9 : decode cX9_given 9 = .ok (.aload_n 0, 1) := by decide +kernel
theorem dX9_given_10 : decode cX9_given 10 = .ok (.aload_n 0, 1) := by decide +kernel
theorem dX9_given_11 : decode cX9_given 11 = .ok (.getfield 29, 3) := by decide +kernel
theorem dX9_given_14 : decode cX9_given 14 = .ok (.iload_n 1, 1) := by decide +kernel
theorem dX9_given_15 : decode cX9_given 15 = .ok (.iaload, 1) := by decide +kernel
theorem dX9_given_16 : decode cX9_given 16 = .ok (.invokevirtual 147, 3) := by decide +kernel
theorem dX9_given_19 : decode cX9_given 19 = .ok (.ifCond .eq 7, 3) := by decide +kernel
theorem dX9_given_22 : decode cX9_given 22 = .ok (.iconst 1, 1) := by decide +kernel
theorem dX9_given_23 : decode cX9_given 23 = .ok (.goto 4, 3) := by decide +kernel
theorem dX9_given_26 : decode cX9_given 26 = .ok (.iconst 0, 1) := by decide +kernel
theorem dX9_given_27 : decode cX9_given 27 = .ok (.ireturn, 1) := by decide +kernel
theorem dX9_rows_0 : decode cX9_rows 0 = .ok (.iload_n 1, 1) := by decide +kernel
theorem dX9_rows_1 : decode cX9_rows 1 = .ok (.bipush 31, 2) := by decide +kernel
theorem dX9_rows_3 : decode cX9_rows 3 = .ok (.if_icmp .ne 28, 3) := by decide +kernel
theorem dX9_rows_6 : decode cX9_rows 6 = .ok (.aload_n 0, 1) := by decide +kernel
theorem dX9_rows_7 : decode cX9_rows 7 = .ok (.iconst 1, 1) := by decide +kernel
theorem dX9_rows_8 : decode cX9_rows 8 = .ok (.invokevirtual 150, 3) := by decide +kernel
theorem dX9_rows_11 : decode cX9_rows 11 = .ok (.ifCond .eq 18, 3) := by decide +kernel
theorem dX9_rows_14 : decode cX9_rows 14 = .ok (.aload_n 0, 1) := by decide +kernel
theorem dX9_rows_15 : decode cX9_rows 15 = .ok (.bipush 64, 2) := by decide +kernel
theorem dX9_rows_17 : decode cX9_rows 17 = .ok (.iload_n 2, 1) := by decide +kernel
theorem dX9_rows_18 : decode cX9_rows 18 = .ok (.iadd, 1) := by decide +kernel
theorem dX9_rows_19 : decode cX9_rows 19 = .ok (.invokevirtual 147, 3) := by decide +kernel
theorem dX9_rows_22 : decode cX9_rows 22 = .ok (.ifCond .eq 7, 3) := by decide +kernel
theorem dX9_rows_25 : decode cX9_rows 25 = .ok (.iconst 1, 1) := by decide +kernel
theorem dX9_rows_26 : decode cX9_rows 26 = .ok (.goto 4, 3) := by decide +kernel
theorem dX9_rows_29 : decode cX9_rows 29 = .ok (.iconst 0, 1) := by decide +kernel
theorem dX9_rows_30 : decode cX9_rows 30 = .ok (.ireturn, 1) := by decide +kernel
theorem dX9_rows_31 : decode cX9_rows 31 = .ok (.iload_n 1, 1) := by decide +kernel
theorem dX9_rows_32 : decode cX9_rows 32 = .ok (.bipush 34, 2) := by decide +kernel
theorem dX9_rows_34 : decode cX9_rows 34 = .ok (.if_icmp .ne 77, 3) := by decide +kernel
theorem dX9_rows_37 : decode cX9_rows 37 = .ok (.aload_n 0, 1) := by decide +kernel
theorem dX9_rows_38 : decode cX9_rows 38 = .ok (.invokevirtual 137, 3) := by decide +kernel
theorem dX9_rows_41 : decode cX9_rows 41 = .ok (.istore_n 3, 1) := by decide +kernel
theorem dX9_rows_42 : decode cX9_rows 42 = .ok (.iload_n 3, 1) := by decide +kernel
theorem dX9_rows_43 : decode cX9_rows 43 = .ok (.iconst (-1), 1) := by decide +kernel
theorem dX9_rows_44 : decode cX9_rows 44 = .ok (.if_icmp .eq 15, 3) := by decide +kernel
theorem dX9_rows_47 : decode cX9_rows 47 = .ok (.aload_n 0, 1) := by decide +kernel
theorem dX9_rows_48 : decode cX9_rows 48 = .ok (.iconst 1, 1) := by decide +kernel
theorem dX9_rows_49 : decode cX9_rows 49 = .ok (.invokevirtual 150, 3) := by decide +kernel
theorem dX9_rows_52 : decode cX9_rows 52 = .ok (.ifCond .eq 7, 3) := by decide +kernel
theorem dX9_rows_55 : decode cX9_rows 55 = .ok (.iconst 1, 1) := by decide +kernel
theorem dX9_rows_56 : decode cX9_rows 56 = .ok (.goto 4, 3) := by decide +kernel
theorem dX9_rows_59 : decode cX9_rows 59 = .ok (.iconst 0, 1) := by decide +kernel
theorem dX9_rows_60 : decode cX9_rows 60 = .ok (.istore 4, 2) := by decide +kernel
theorem dX9_rows_62 : decode cX9_rows 62 = .ok (.iload 4, 2) := by decide +kernel
theorem dX9_rows_64 : decode cX9_rows 64 = .ok (.ifCond .eq 10, 3) := by decide +kernel
theorem dX9_rows_67 : decode cX9_rows 67 = .ok (.aload_n 0, 1) := by decide +kernel
theorem dX9_rows_68 : decode cX9_rows 68 = .ok (.invokevirtual 137, 3) := by decide +kernel
theorem dX9_rows_71 : decode cX9_rows 71 = .ok (.goto 4, 3) := by decide +kernel
theorem dX9_rows_74 : decode cX9_rows 74 = .ok (.iconst (-1), 1) := by decide +kernel
theorem dX9_rows_75 : decode cX9_rows 75 = .ok (.istore 5, 2) := by decide +kernel
theorem dX9_rows_77 : decode cX9_rows 77 = .ok (.iload 5, 2) := by decide +kernel
theorem dX9_rows_79 : decode cX9_rows 79 = .ok (.bipush 97, 2) := by decide +kernel
theorem dX9_rows_81 : decode cX9_rows 81 = .ok (.if_icmp .eq 24, 3) := by decide +kernel
theorem dX9_rows_84 : decode cX9_rows 84 = .ok (.iload 5, 2) := by decide +kernel
theorem dX9_rows_86 : decode cX9_rows 86 = .ok (.invokestatic 153, 3) := by decide +kernel
theorem dX9_rows_89 : decode cX9_rows 89 = .ok (.ifCond .eq 20, 3) := by decide +kernel
theorem dX9_rows_92 : decode cX9_rows 92 = .ok (.aload_n 0, 1) := by decide +kernel
theorem dX9_rows_93 : decode cX9_rows 93 = .ok (.iload_n 3, 1) := by decide +kernel
theorem dX9_rows_94 : decode cX9_rows 94 = .ok (.iload 5, 2) := by decide +kernel
theorem dX9_rows_96 : decode cX9_rows 96 = .ok (.bipush 64, 2) := by decide +kernel
theorem dX9_rows_98 : decode cX9_rows 98 = .ok (.isub, 1) := by decide +kernel
theorem dX9_rows_99 : decode cX9_rows 99 = .ok (.invokevirtual 141, 3) := by decide +kernel
theorem dX9_rows_102 : decode cX9_rows 102 = .ok (.ifCond .eq 7, 3) := by decide +kernel
theorem dX9_rows_105 : decode cX9_rows 105 = .ok (.iconst 1, 1) := by decide +kernel
theorem dX9_rows_106 : decode cX9_rows 106 = .ok (.goto 4, 3) := by decide +kernel
theorem dX9_rows_109 : decode cX9_rows 109 = .ok (.iconst 0, 1) := by decide +kernel
theorem dX9_rows_110 : decode cX9_rows 110 = .ok (.ireturn, 1) := by decide +kernel
theorem dX9_rows_111 : decode cX9_rows 111 = .ok (.iload_n 1, 1) := by decide +kernel
theorem dX9_rows_112 : decode cX9_rows 112 = .ok (.bipush 32, 2) := by decide +kernel
theorem dX9_rows_114 : decode cX9_rows 114 = .ok (.if_icmp .eq 11, 3) := by decide +kernel
theorem dX9_rows_117 : decode cX9_rows 117 = .ok (.aload_n 0, 1) := by decide +kernel
theorem dX9_rows_118 : decode cX9_rows 118 = .ok (.iconst 1, 1) := by decide +kernel
theorem dX9_rows_119 : decode cX9_rows 119 = .ok (.invokevirtual 150, 3) := by decide +kernel
theorem dX9_rows_122 : decode cX9_rows 122 = .ok (.ifCond .eq 7, 3) := by decide +kernel
theorem dX9_rows_125 : decode cX9_rows 125 = .ok (.iconst 1, 1) := by decide +kernel
theorem dX9_rows_126 : decode cX9_rows 126 = .ok (.goto 4, 3) := by decide +kernel
theorem dX9_rows_129 : decode cX9_rows 129 = .ok (.iconst 0, 1) := by decide +kernel
theorem dX9_rows_130 : decode cX9_rows 130 = .ok (.istore_n 3, 1) := by decide +kernel
theorem dX9_rows_131 : decode cX9_rows 131 = .ok (.iload_n 3, 1) := by decide +kernel
theorem dX9_rows_132 : decode cX9_rows 132 = .ok (.ifCond .eq 10, 3) := by decide +kernel
theorem dX9_rows_135 : decode cX9_rows 135 = .ok (.aload_n 0, 1) := by decide +kernel
theorem dX9_rows_136 : decode cX9_rows 136 = .ok (.invokevirtual 137, 3) := by decide +kernel
theorem dX9_rows_139 : decode cX9_rows 139 = .ok (.goto 4, 3) := by decide +kernel
theorem dX9_rows_142 : decode cX9_rows 142 = .ok (.iconst (-1), 1) := by decide +kernel
theorem dX9_rows_143 : decode cX9_rows 143 = .ok (.istore 4, 2) := by decide +kernel
theorem dX9_rows_145 : decode cX9_rows 145 = .ok (.iload 4, 2) := by decide +kernel
theorem dX9_rows_147 : decode cX9_rows 147 = .ok (.bipush 97, 2) := by decide +kernel
theorem dX9_rows_149 : decode cX9_rows 149 = .ok (.if_icmp .eq 11, 3) := by decide +kernel
theorem dX9_rows_152 : decode cX9_rows 152 = .ok (.iload 4, 2) := by decide +kernel
theorem dX9_rows_154 : decode cX9_rows 154 = .ok (.invokestatic 153, 3) := by decide +kernel
theorem dX9_rows_157 : decode cX9_rows 157 = .ok (.ifCond .eq 7, 3) := by decide +kernel
theorem dX9_rows_160 : decode cX9_rows 160 = .ok (.iconst 1, 1) := by decide +kernel
theorem dX9_rows_161 : decode cX9_rows 161 = .ok (.goto 4, 3) := by decide +kernel
theorem dX9_rows_164 : decode cX9_rows 164 = .ok (.iconst 0, 1) := by decide +kernel
theorem dX9_rows_165 : decode cX9_rows 165 = .ok (.istore 5, 2) := by decide +kernel
theorem dX9_rows_167 : decode cX9_rows 167 = .ok (.iload 5, 2) := by decide +kernel
theorem dX9_rows_169 : decode cX9_rows 169 = .ok (.ifCond .eq 41, 3) := by decide +kernel
theorem dX9_rows_172 : decode cX9_rows 172 = .ok (.aload_n 0, 1) := by decide +kernel
theorem dX9_rows_173 : decode cX9_rows 173 = .ok (.iload_n 1, 1) := by decide +kernel
theorem dX9_rows_174 : decode cX9_rows 174 = .ok (.bipush 32, 2) := by decide +kernel
theorem dX9_rows_176 : decode cX9_rows 176 = .ok (.if_icmp .ne 7, 3) := by decide +kernel
theorem dX9_rows_179 : decode cX9_rows 179 = .ok (.iconst 0, 1) := by decide +kernel
theorem dX9_rows_180 : decode cX9_rows 180 = .ok (.goto 20, 3) := by decide +kernel
theorem dX9_rows_183 : decode cX9_rows 183 = .ok (.iload 4, 2) := by decide +kernel
theorem dX9_rows_185 : decode cX9_rows 185 = .ok (.bipush 97, 2) := by decide +kernel
theorem dX9_rows_187 : decode cX9_rows 187 = .ok (.if_icmp .ne 8, 3) := by decide +kernel
theorem dX9_rows_190 : decode cX9_rows 190 = .ok (.bipush 97, 2) := by decide +kernel
theorem dX9_rows_192 : decode cX9_rows 192 = .ok (.goto 8, 3) := by decide +kernel
theorem dX9_rows_195 : decode cX9_rows 195 = .ok (.iload 4, 2) := by decide +kernel
theorem dX9_rows_197 : decode cX9_rows 197 = .ok (.bipush 64, 2) := by decide +kernel
theorem dX9_rows_199 : decode cX9_rows 199 = .ok (.isub, 1) := by decide +kernel
theorem dX9_rows_200 : decode cX9_rows 200 = .ok (.invokevirtual 147, 3) := by decide +kernel
theorem dX9_rows_203 : decode cX9_rows 203 = .ok (.ifCond .eq 7, 3) := by decide +kernel
theorem dX9_rows_206 : decode cX9_rows 206 = .ok (.iconst 1, 1) := by decide +kernel
theorem dX9_rows_207 : decode cX9_rows 207 = .ok (.goto 4, 3) := by decide +kernel
theorem dX9_rows_210 : decode cX9_rows 210 = .ok (.iconst 0, 1) := by decide +kernel
theorem dX9_rows_211 : decode cX9_rows 211 = .ok (.ireturn, 1) := by decide +kernel
theorem dX9_places_0 : decode cX9_places 0 = .ok (.iconst (-1), 1) := by decide +kernel
theorem dX9_places_1 : decode cX9_places 1 = .ok (.istore 4, 2) := by decide +kernel
theorem dX9_places_3 : decode cX9_places 3 = .ok (.iconst (-1), 1) := by decide +kernel
theorem dX9_places_4 : decode cX9_places 4 = .ok (.istore 5, 2) := by decide +kernel
theorem dX9_places_6 : decode cX9_places 6 = .ok (.iload_n 2, 1) := by decide +kernel
theorem dX9_places_7 : decode cX9_places 7 = .ok (.tableswitch 150 2 5 #[29, 59, 100, 114], 29) := by decide +kernel
theorem dX9_places_36 : decode cX9_places 36 = .ok (.aload_n 0, 1) := by decide +kernel
theorem dX9_places_37 : decode cX9_places 37 = .ok (.getfield 87, 3) := by decide +kernel
theorem dX9_places_40 : decode cX9_places 40 = .ok (.iload_n 3, 1) := by decide +kernel
theorem dX9_places_41 : decode cX9_places 41 = .ok (.iaload, 1) := by decide +kernel
theorem dX9_places_42 : decode cX9_places 42 = .ok (.bipush 99, 2) := by decide +kernel
theorem dX9_places_44 : decode cX9_places 44 = .ok (.if_icmp .eq 20, 3) := by decide +kernel
theorem dX9_places_47 : decode cX9_places 47 = .ok (.aload_n 0, 1) := by decide +kernel
theorem dX9_places_48 : decode cX9_places 48 = .ok (.aload_n 0, 1) := by decide +kernel
theorem dX9_places_49 : decode cX9_places 49 = .ok (.getfield 87, 3) := by decide +kernel
theorem dX9_places_52 : decode cX9_places 52 = .ok (.iload_n 3, 1) := by decide +kernel
theorem dX9_places_53 : decode cX9_places 53 = .ok (.iaload, 1) := by decide +kernel
theorem dX9_places_54 : decode cX9_places 54 = .ok (.invokevirtual 147, 3) := by decide +kernel
theorem dX9_places_57 : decode cX9_places 57 = .ok (.ifCond .eq 7, 3) := by decide +kernel
theorem dX9_places_60 : decode cX9_places 60 = .ok (.iconst 1, 1) := by decide +kernel
theorem dX9_places_61 : decode cX9_places 61 = .ok (.goto 4, 3) := by decide +kernel
theorem dX9_places_64 : decode cX9_places 64 = .ok (.iconst 0, 1) := by decide +kernel
theorem dX9_places_65 : decode cX9_places 65 = .ok (.ireturn, 1) := by decide +kernel
theorem dX9_places_66 : decode cX9_places 66 = .ok (.aload_n 0, 1) := by decide +kernel
theorem dX9_places_67 : decode cX9_places 67 = .ok (.invokevirtual 137, 3) := by decide +kernel
theorem dX9_places_70 : decode cX9_places 70 = .ok (.istore 4, 2) := by decide +kernel
theorem dX9_places_72 : decode cX9_places 72 = .ok (.aload_n 0, 1) := by decide +kernel
theorem dX9_places_73 : decode cX9_places 73 = .ok (.getfield 87, 3) := by decide +kernel
theorem dX9_places_76 : decode cX9_places 76 = .ok (.iload_n 3, 1) := by decide +kernel
theorem dX9_places_77 : decode cX9_places 77 = .ok (.iload 4, 2) := by decide +kernel
theorem dX9_places_79 : decode cX9_places 79 = .ok (.iconst (-1), 1) := by decide +kernel
theorem dX9_places_80 : decode cX9_places 80 = .ok (.if_icmp .ne 12, 3) := by decide +kernel
theorem dX9_places_83 : decode cX9_places 83 = .ok (.aload_n 0, 1) := by decide +kernel
theorem dX9_places_84 : decode cX9_places 84 = .ok (.getfield 87, 3) := by decide +kernel
theorem dX9_places_87 : decode cX9_places 87 = .ok (.iload_n 3, 1) := by decide +kernel
theorem dX9_places_88 : decode cX9_places 88 = .ok (.iaload, 1) := by decide +kernel
theorem dX9_places_89 : decode cX9_places 89 = .ok (.goto 5, 3) := by decide +kernel
theorem dX9_places_92 : decode cX9_places 92 = .ok (.iload 4, 2) := by decide +kernel
theorem dX9_places_94 : decode cX9_places 94 = .ok (.iastore, 1) := by decide +kernel
theorem dX9_places_95 : decode cX9_places 95 = .ok (.iload 4, 2) := by decide +kernel
theorem dX9_places_97 : decode cX9_places 97 = .ok (.iconst (-1), 1) := by decide +kernel
theorem dX9_places_98 : decode cX9_places 98 = .ok (.if_icmp .eq 7, 3) := by decide +kernel
theorem dX9_places_101 : decode cX9_places 101 = .ok (.iconst 1, 1) := by decide +kernel
theorem dX9_places_102 : decode cX9_places 102 = .ok (.goto 4, 3) := by decide +kernel
theorem dX9_places_105 : decode cX9_places 105 = .ok (.iconst 0, 1) := by decide +kernel
theorem dX9_places_106 : decode cX9_places 106 = .ok (.ireturn, 1) := by decide +kernel
theorem dX9_places_107 : decode cX9_places 107 = .ok (.aload_n 0, 1) := by decide +kernel
theorem dX9_places_108 : decode cX9_places 108 = .ok (.invokevirtual 137, 3) := by decide +kernel
theorem dX9_places_111 : decode cX9_places 111 = .ok (.iconst (-1), 1) := by decide +kernel
theorem dX9_places_112 : decode cX9_places 112 = .ok (.if_icmp .eq 7, 3) := by decide +kernel
theorem dX9_places_115 : decode cX9_places 115 = .ok (.iconst 1, 1) := by decide +kernel
theorem dX9_places_116 : decode cX9_places 116 = .ok (.goto 4, 3) := by decide +kernel
theorem dX9_places_119 : decode cX9_places 119 = .ok (.iconst 0, 1) := by decide +kernel
theorem dX9_places_120 : decode cX9_places 120 = .ok (.ireturn, 1) := by decide +kernel
theorem dX9_places_121 : decode cX9_places 121 = .ok (.aload_n 0, 1) := by decide +kernel
theorem dX9_places_122 : decode cX9_places 122 = .ok (.invokevirtual 137, 3) := by decide +kernel
theorem dX9_places_125 : decode cX9_places 125 = .ok (.istore 4, 2) := by decide +kernel
theorem dX9_places_127 : decode cX9_places 127 = .ok (.iload 4, 2) := by decide +kernel
theorem dX9_places_129 : decode cX9_places 129 = .ok (.iconst (-1), 1) := by decide +kernel
theorem dX9_places_130 : decode cX9_places 130 = .ok (.if_icmp .eq 25, 3) := by decide +kernel
theorem dX9_places_133 : decode cX9_places 133 = .ok (.aload_n 0, 1) := by decide +kernel
theorem dX9_places_134 : decode cX9_places 134 = .ok (.iload 4, 2) := by decide +kernel
theorem dX9_places_136 : decode cX9_places 136 = .ok (.invokevirtual 147, 3) := by decide +kernel
theorem dX9_places_139 : decode cX9_places 139 = .ok (.ifCond .eq 16, 3) := by decide +kernel
theorem dX9_places_142 : decode cX9_places 142 = .ok (.aload_n 0, 1) := by decide +kernel
theorem dX9_places_143 : decode cX9_places 143 = .ok (.iload 4, 2) := by decide +kernel
theorem dX9_places_145 : decode cX9_places 145 = .ok (.invokevirtual 147, 3) := by decide +kernel
theorem dX9_places_148 : decode cX9_places 148 = .ok (.ifCond .eq 7, 3) := by decide +kernel
