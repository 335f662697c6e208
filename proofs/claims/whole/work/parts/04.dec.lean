theorem dX9_init_0 : decode cX9_init 0 = .ok (.aload_n 0, 1) := by decide +kernel
theorem dX9_init_1 : decode cX9_init 1 = .ok (.invokespecial 1, 3) := by decide +kernel
theorem dX9_init_4 : decode cX9_init 4 = .ok (.aload_n 0, 1) := by decide +kernel
theorem dX9_init_5 : decode cX9_init 5 = .ok (.new 7, 3) := by decide +kernel
theorem dX9_init_8 : decode cX9_init 8 = .ok (.dup, 1) := by decide +kernel
theorem dX9_init_9 : decode cX9_init 9 = .ok (.invokespecial 9, 3) := by decide +kernel
theorem dX9_init_12 : decode cX9_init 12 = .ok (.putfield 10, 3) := by decide +kernel
theorem dX9_init_15 : decode cX9_init 15 = .ok (.aload_n 0, 1) := by decide +kernel
theorem dX9_init_16 : decode cX9_init 16 = .ok (.new 7, 3) := by decide +kernel
theorem dX9_init_19 : decode cX9_init 19 = .ok (.dup, 1) := by decide +kernel
theorem dX9_init_20 : decode cX9_init 20 = .ok (.invokespecial 9, 3) := by decide +kernel
theorem dX9_init_23 : decode cX9_init 23 = .ok (.putfield 16, 3) := by decide +kernel
theorem dX9_init_26 : decode cX9_init 26 = .ok (.aload_n 0, 1) := by decide +kernel
theorem dX9_init_27 : decode cX9_init 27 = .ok (.new 7, 3) := by decide +kernel
theorem dX9_init_30 : decode cX9_init 30 = .ok (.dup, 1) := by decide +kernel
theorem dX9_init_31 : decode cX9_init 31 = .ok (.invokespecial 9, 3) := by decide +kernel
theorem dX9_init_34 : decode cX9_init 34 = .ok (.putfield 19, 3) := by decide +kernel
theorem dX9_init_37 : decode cX9_init 37 = .ok (.aload_n 0, 1) := by decide +kernel
theorem dX9_init_38 : decode cX9_init 38 = .ok (.new 22, 3) := by decide +kernel
theorem dX9_init_41 : decode cX9_init 41 = .ok (.dup, 1) := by decide +kernel
theorem dX9_init_42 : decode cX9_init 42 = .ok (.invokespecial 24, 3) := by decide +kernel
theorem dX9_init_45 : decode cX9_init 45 = .ok (.putfield 25, 3) := by decide +kernel
theorem dX9_init_48 : decode cX9_init 48 = .ok (.aload_n 0, 1) := by decide +kernel
theorem dX9_init_49 : decode cX9_init 49 = .ok (.new 29, 3) := by decide +kernel
theorem dX9_init_52 : decode cX9_init 52 = .ok (.dup, 1) := by decide +kernel
theorem dX9_init_53 : decode cX9_init 53 = .ok (.aload_n 0, 1) := by decide +kernel
theorem dX9_init_54 : decode cX9_init 54 = .ok (.getfield 10, 3) := by decide +kernel
theorem dX9_init_57 : decode cX9_init 57 = .ok (.invokespecial 31, 3) := by decide +kernel
theorem dX9_init_60 : decode cX9_init 60 = .ok (.putfield 34, 3) := by decide +kernel
theorem dX9_init_63 : decode cX9_init 63 = .ok (.aload_n 0, 1) := by decide +kernel
theorem dX9_init_64 : decode cX9_init 64 = .ok (.new 38, 3) := by decide +kernel
theorem dX9_init_67 : decode cX9_init 67 = .ok (.dup, 1) := by decide +kernel
theorem dX9_init_68 : decode cX9_init 68 = .ok (.aload_n 0, 1) := by decide +kernel
theorem dX9_init_69 : decode cX9_init 69 = .ok (.getfield 10, 3) := by decide +kernel
theorem dX9_init_72 : decode cX9_init 72 = .ok (.invokespecial 40, 3) := by decide +kernel
theorem dX9_init_75 : decode cX9_init 75 = .ok (.putfield 41, 3) := by decide +kernel
theorem dX9_init_78 : decode cX9_init 78 = .ok (.aload_n 0, 1) := by decide +kernel
theorem dX9_init_79 : decode cX9_init 79 = .ok (.new 45, 3) := by decide +kernel
theorem dX9_init_82 : decode cX9_init 82 = .ok (.dup, 1) := by decide +kernel
theorem dX9_init_83 : decode cX9_init 83 = .ok (.aload_n 0, 1) := by decide +kernel
theorem dX9_init_84 : decode cX9_init 84 = .ok (.getfield 10, 3) := by decide +kernel
theorem dX9_init_87 : decode cX9_init 87 = .ok (.invokespecial 47, 3) := by decide +kernel
theorem dX9_init_90 : decode cX9_init 90 = .ok (.putfield 48, 3) := by decide +kernel
theorem dX9_init_93 : decode cX9_init 93 = .ok (.aload_n 0, 1) := by decide +kernel
theorem dX9_init_94 : decode cX9_init 94 = .ok (.new 52, 3) := by decide +kernel
theorem dX9_init_97 : decode cX9_init 97 = .ok (.dup, 1) := by decide +kernel
theorem dX9_init_98 : decode cX9_init 98 = .ok (.aload_n 0, 1) := by decide +kernel
theorem dX9_init_99 : decode cX9_init 99 = .ok (.getfield 10, 3) := by decide +kernel
theorem dX9_init_102 : decode cX9_init 102 = .ok (.invokespecial 54, 3) := by decide +kernel
theorem dX9_init_105 : decode cX9_init 105 = .ok (.putfield 55, 3) := by decide +kernel
theorem dX9_init_108 : decode cX9_init 108 = .ok (.aload_n 0, 1) := by decide +kernel
theorem dX9_init_109 : decode cX9_init 109 = .ok (.new 59, 3) := by decide +kernel
theorem dX9_init_112 : decode cX9_init 112 = .ok (.dup, 1) := by decide +kernel
theorem dX9_init_113 : decode cX9_init 113 = .ok (.aload_n 0, 1) := by decide +kernel
theorem dX9_init_114 : decode cX9_init 114 = .ok (.getfield 10, 3) := by decide +kernel
theorem dX9_init_117 : decode cX9_init 117 = .ok (.invokespecial 61, 3) := by decide +kernel
theorem dX9_init_120 : decode cX9_init 120 = .ok (.putfield 62, 3) := by decide +kernel
theorem dX9_init_123 : decode cX9_init 123 = .ok (.aload_n 0, 1) := by decide +kernel
theorem dX9_init_124 : decode cX9_init 124 = .ok (.iconst 4, 1) := by decide +kernel
theorem dX9_init_125 : decode cX9_init 125 = .ok (.anewarray 66, 3) := by decide +kernel
theorem dX9_init_128 : decode cX9_init 128 = .ok (.dup, 1) := by decide +kernel
theorem dX9_init_129 : decode cX9_init 129 = .ok (.iconst 0, 1) := by decide +kernel
theorem dX9_init_130 : decode cX9_init 130 = .ok (.new 66, 3) := by decide +kernel
theorem dX9_init_133 : decode cX9_init 133 = .ok (.dup, 1) := by decide +kernel
theorem dX9_init_134 : decode cX9_init 134 = .ok (.invokespecial 68, 3) := by decide +kernel
theorem dX9_init_137 : decode cX9_init 137 = .ok (.aastore, 1) := by decide +kernel
theorem dX9_init_138 : decode cX9_init 138 = .ok (.dup, 1) := by decide +kernel
theorem dX9_init_139 : decode cX9_init 139 = .ok (.iconst 1, 1) := by decide +kernel
theorem dX9_init_140 : decode cX9_init 140 = .ok (.new 66, 3) := by decide +kernel
theorem dX9_init_143 : decode cX9_init 143 = .ok (.dup, 1) := by decide +kernel
theorem dX9_init_144 : decode cX9_init 144 = .ok (.invokespecial 68, 3) := by decide +kernel
theorem dX9_init_147 : decode cX9_init 147 = .ok (.aastore, 1) := by decide +kernel
theorem dX9_init_148 : decode cX9_init 148 = .ok (.dup, 1) := by decide +kernel
theorem dX9_init_149 : decode cX9_init 149 = .ok (.iconst 2, 1) := by decide +kernel
theorem dX9_init_150 : decode cX9_init 150 = .ok (.new 66, 3) := by decide +kernel
theorem dX9_init_153 : decode cX9_init 153 = .ok (.dup, 1) := by decide +kernel
theorem dX9_init_154 : decode cX9_init 154 = .ok (.invokespecial 68, 3) := by decide +kernel
theorem dX9_init_157 : decode cX9_init 157 = .ok (.aastore, 1) := by decide +kernel
theorem dX9_init_158 : decode cX9_init 158 = .ok (.dup, 1) := by decide +kernel
theorem dX9_init_159 : decode cX9_init 159 = .ok (.iconst 3, 1) := by decide +kernel
theorem dX9_init_160 : decode cX9_init 160 = .ok (.new 66, 3) := by decide +kernel
theorem dX9_init_163 : decode cX9_init 163 = .ok (.dup, 1) := by decide +kernel
theorem dX9_init_164 : decode cX9_init 164 = .ok (.invokespecial 68, 3) := by decide +kernel
theorem dX9_init_167 : decode cX9_init 167 = .ok (.aastore, 1) := by decide +kernel
theorem dX9_init_168 : decode cX9_init 168 = .ok (.putfield 69, 3) := by decide +kernel
theorem dX9_init_171 : decode cX9_init 171 = .ok (.aload_n 0, 1) := by decide +kernel
theorem dX9_init_172 : decode cX9_init 172 = .ok (.iconst 5, 1) := by decide +kernel
theorem dX9_init_173 : decode cX9_init 173 = .ok (.newarray .int, 2) := by decide +kernel
theorem dX9_init_175 : decode cX9_init 175 = .ok (.putfield 73, 3) := by decide +kernel
theorem dX9_init_178 : decode cX9_init 178 = .ok (.aload_n 0, 1) := by decide +kernel
theorem dX9_init_179 : decode cX9_init 179 = .ok (.iconst 0, 1) := by decide +kernel
theorem dX9_init_180 : decode cX9_init 180 = .ok (.putfield 77, 3) := by decide +kernel
theorem dX9_init_183 : decode cX9_init 183 = .ok (.return_, 1) := by decide +kernel
theorem dX9_thing_0 : decode cX9_thing 0 = .ok (.iload_n 1, 1) := by decide +kernel
theorem dX9_thing_1 : decode cX9_thing 1 = .ok (.iconst 0, 1) := by decide +kernel
theorem dX9_thing_2 : decode cX9_thing 2 = .ok (.iconst 3, 1) := by decide +kernel
theorem dX9_thing_3 : decode cX9_thing 3 = .ok (.invokestatic 81, 3) := by decide +kernel
theorem dX9_thing_6 : decode cX9_thing 6 = .ok (.ifCond .eq 13, 3) := by decide +kernel
theorem dX9_thing_9 : decode cX9_thing 9 = .ok (.iload_n 2, 1) := by decide +kernel
theorem dX9_thing_10 : decode cX9_thing 10 = .ok (.iconst 1, 1) := by decide +kernel
theorem dX9_thing_11 : decode cX9_thing 11 = .ok (.bipush 99, 2) := by decide +kernel
theorem dX9_thing_13 : decode cX9_thing 13 = .ok (.invokestatic 81, 3) := by decide +kernel
theorem dX9_thing_16 : decode cX9_thing 16 = .ok (.ifCond .ne 5, 3) := by decide +kernel
theorem dX9_thing_19 : decode cX9_thing 19 = .ok (.iconst (-1), 1) := by decide +kernel
theorem dX9_thing_20 : decode cX9_thing 20 = .ok (.ireturn, 1) := by decide +kernel
theorem dX9_thing_21 : decode cX9_thing 21 = .ok (.aload_n 0, 1) := by decide +kernel
theorem dX9_thing_22 : decode cX9_thing 22 = .ok (.getfield 10, 3) := by decide +kernel
theorem dX9_thing_25 : decode cX9_thing 25 = .ok (.getfield 85, 3) := by decide +kernel
theorem dX9_thing_28 : decode cX9_thing 28 = .ok (.bipush 10, 2) := by decide +kernel
theorem dX9_thing_30 : decode cX9_thing 30 = .ok (.if_icmp .ge 16, 3) := by decide +kernel
theorem dX9_thing_33 : decode cX9_thing 33 = .ok (.aload_n 0, 1) := by decide +kernel
theorem dX9_thing_34 : decode cX9_thing 34 = .ok (.getfield 10, 3) := by decide +kernel
theorem dX9_thing_37 : decode cX9_thing 37 = .ok (.iload_n 1, 1) := by decide +kernel
theorem dX9_thing_38 : decode cX9_thing 38 = .ok (.iload_n 2, 1) := by decide +kernel
theorem dX9_thing_39 : decode cX9_thing 39 = .ok (.iconst 5, 1) := by decide +kernel
theorem dX9_thing_40 : decode cX9_thing 40 = .ok (.invokevirtual 89, 3) := by decide +kernel
theorem dX9_thing_43 : decode cX9_thing 43 = .ok (.goto 5, 3) := by decide +kernel
theorem dX9_thing_46 : decode cX9_thing 46 = .ok (.bipush (-3), 2) := by decide +kernel
theorem dX9_thing_48 : decode cX9_thing 48 = .ok (.ireturn, 1) := by decide +kernel
theorem dX9_told_0 : decode cX9_told 0 = .ok (.aload_n 0, 1) := by decide +kernel
theorem dX9_told_1 : decode cX9_told 1 = .ok (.iload_n 1, 1) := by decide +kernel
theorem dX9_told_2 : decode cX9_told 2 = .ok (.invokevirtual 93, 3) := by decide +kernel
theorem dX9_told_5 : decode cX9_told 5 = .ok (.ifCond .ne 5, 3) := by decide +kernel
theorem dX9_told_8 : decode cX9_told 8 = .ok (.iconst (-1), 1) := by decide +kernel
theorem dX9_told_9 : decode cX9_told 9 = .ok (.ireturn, 1) := by decide +kernel
theorem dX9_told_10 : decode cX9_told 10 = .ok (.iload_n 2, 1) := by decide +kernel
theorem dX9_told_11 : decode cX9_told 11 = .ok (.tableswitch 107 0 5 #[37, 47, 57, 67, 80, 90], 37) := by decide +kernel
theorem dX9_told_48 : decode cX9_told 48 = .ok (.aload_n 0, 1) := by decide +kernel
theorem dX9_told_49 : decode cX9_told 49 = .ok (.getfield 10, 3) := by decide +kernel
theorem dX9_told_52 : decode cX9_told 52 = .ok (.getfield 97, 3) := by decide +kernel
theorem dX9_told_55 : decode cX9_told 55 = .ok (.iload_n 1, 1) := by decide +kernel
theorem dX9_told_56 : decode cX9_told 56 = .ok (.iaload, 1) := by decide +kernel
theorem dX9_told_57 : decode cX9_told 57 = .ok (.ireturn, 1) := by decide +kernel
theorem dX9_told_58 : decode cX9_told 58 = .ok (.aload_n 0, 1) := by decide +kernel
theorem dX9_told_59 : decode cX9_told 59 = .ok (.getfield 10, 3) := by decide +kernel
theorem dX9_told_62 : decode cX9_told 62 = .ok (.getfield 100, 3) := by decide +kernel
theorem dX9_told_65 : decode cX9_told 65 = .ok (.iload_n 1, 1) := by decide +kernel
theorem dX9_told_66 : decode cX9_told 66 = .ok (.iaload, 1) := by decide +kernel
theorem dX9_told_67 : decode cX9_told 67 = .ok (.ireturn, 1) := by decide +kernel
theorem dX9_told_68 : decode cX9_told 68 = .ok (.aload_n 0, 1) := by decide +kernel
theorem dX9_told_69 : decode cX9_told 69 = .ok (.getfield 10, 3) := by decide +kernel
theorem dX9_told_72 : decode cX9_told 72 = .ok (.getfield 103, 3) := by decide +kernel
theorem dX9_told_75 : decode cX9_told 75 = .ok (.iload_n 1, 1) := by decide +kernel
theorem dX9_told_76 : decode cX9_told 76 = .ok (.iaload, 1) := by decide +kernel
theorem dX9_told_77 : decode cX9_told 77 = .ok (.ireturn, 1) := by decide +kernel
theorem dX9_told_78 : decode cX9_told 78 = .ok (.aload_n 0, 1) := by decide +kernel
theorem dX9_told_79 : decode cX9_told 79 = .ok (.getfield 10, 3) := by decide +kernel
theorem dX9_told_82 : decode cX9_told 82 = .ok (.getfield 106, 3) := by decide +kernel
theorem dX9_told_85 : decode cX9_told 85 = .ok (.iload_n 1, 1) := by decide +kernel
theorem dX9_told_86 : decode cX9_told 86 = .ok (.iaload, 1) := by decide +kernel
theorem dX9_told_87 : decode cX9_told 87 = .ok (.bipush 50, 2) := by decide +kernel
theorem dX9_told_89 : decode cX9_told 89 = .ok (.iadd, 1) := by decide +kernel
theorem dX9_told_90 : decode cX9_told 90 = .ok (.ireturn, 1) := by decide +kernel
theorem dX9_told_91 : decode cX9_told 91 = .ok (.aload_n 0, 1) := by decide +kernel
theorem dX9_told_92 : decode cX9_told 92 = .ok (.getfield 10, 3) := by decide +kernel
theorem dX9_told_95 : decode cX9_told 95 = .ok (.getfield 109, 3) := by decide +kernel
theorem dX9_told_98 : decode cX9_told 98 = .ok (.iload_n 1, 1) := by decide +kernel
theorem dX9_told_99 : decode cX9_told 99 = .ok (.iaload, 1) := by decide +kernel
theorem dX9_told_100 : decode cX9_told 100 = .ok (.ireturn, 1) := by decide +kernel
theorem dX9_told_101 : decode cX9_told 101 = .ok (.aload_n 0, 1) := by decide +kernel
theorem dX9_told_102 : decode cX9_told 102 = .ok (.getfield 10, 3) := by decide +kernel
theorem dX9_told_105 : decode cX9_told 105 = .ok (.iload_n 1, 1) := by decide +kernel
theorem dX9_told_106 : decode cX9_told 106 = .ok (.invokevirtual 112, 3) := by decide +kernel
theorem dX9_told_109 : decode cX9_told 109 = .ok (.ifCond .eq 7, 3) := by decide +kernel
theorem dX9_told_112 : decode cX9_told 112 = .ok (.iconst 1, 1) := by decide +kernel
theorem dX9_told_113 : decode cX9_told 113 = .ok (.goto 4, 3) := by decide +kernel
theorem dX9_told_116 : decode cX9_told 116 = .ok (.iconst 0, 1) := by decide +kernel
theorem dX9_told_117 : decode cX9_told 117 = .ok (.ireturn, 1) := by decide +kernel
theorem dX9_told_118 : decode cX9_told 118 = .ok (.iconst (-1), 1) := by decide +kernel
theorem dX9_told_119 : decode cX9_told 119 = .ok (.ireturn, 1) := by decide +kernel
theorem dX9_set_0 : decode cX9_set 0 = .ok (.aload_n 0, 1) := by decide +kernel
theorem dX9_set_1 : decode cX9_set 1 = .ok (.iload_n 1, 1) := by decide +kernel
theorem dX9_set_2 : decode cX9_set 2 = .ok (.invokevirtual 93, 3) := by decide +kernel
theorem dX9_set_5 : decode cX9_set 5 = .ok (.ifCond .ne 5, 3) := by decide +kernel
theorem dX9_set_8 : decode cX9_set 8 = .ok (.iconst (-1), 1) := by decide +kernel
theorem dX9_set_9 : decode cX9_set 9 = .ok (.ireturn, 1) := by decide +kernel
theorem dX9_set_10 : decode cX9_set 10 = .ok (.iload_n 2, 1) := by decide +kernel
theorem dX9_set_11 : decode cX9_set 11 = .ok (.tableswitch 155 1 4 #[29, 60, 90, 127], 29) := by decide +kernel
theorem dX9_set_40 : decode cX9_set 40 = .ok (.iload_n 3, 1) := by decide +kernel
theorem dX9_set_41 : decode cX9_set 41 = .ok (.iconst 1, 1) := by decide +kernel
theorem dX9_set_42 : decode cX9_set 42 = .ok (.bipush 99, 2) := by decide +kernel
theorem dX9_set_44 : decode cX9_set 44 = .ok (.invokestatic 81, 3) := by decide +kernel
theorem dX9_set_47 : decode cX9_set 47 = .ok (.ifCond .eq 22, 3) := by decide +kernel
theorem dX9_set_50 : decode cX9_set 50 = .ok (.aload_n 0, 1) := by decide +kernel
theorem dX9_set_51 : decode cX9_set 51 = .ok (.getfield 10, 3) := by decide +kernel
theorem dX9_set_54 : decode cX9_set 54 = .ok (.aload_n 0, 1) := by decide +kernel
theorem dX9_set_55 : decode cX9_set 55 = .ok (.getfield 10, 3) := by decide +kernel
theorem dX9_set_58 : decode cX9_set 58 = .ok (.getfield 100, 3) := by decide +kernel
theorem dX9_set_61 : decode cX9_set 61 = .ok (.iload_n 1, 1) := by decide +kernel
theorem dX9_set_62 : decode cX9_set 62 = .ok (.iload_n 3, 1) := by decide +kernel
theorem dX9_set_63 : decode cX9_set 63 = .ok (.invokevirtual 115, 3) := by decide +kernel
theorem dX9_set_66 : decode cX9_set 66 = .ok (.goto 4, 3) := by decide +kernel
theorem dX9_set_69 : decode cX9_set 69 = .ok (.iconst (-1), 1) := by decide +kernel
theorem dX9_set_70 : decode cX9_set 70 = .ok (.ireturn, 1) := by decide +kernel
theorem dX9_set_71 : decode cX9_set 71 = .ok (.iload_n 3, 1) := by decide +kernel
theorem dX9_set_72 : decode cX9_set 72 = .ok (.iconst 0, 1) := by decide +kernel
theorem dX9_set_73 : decode cX9_set 73 = .ok (.iconst 5, 1) := by decide +kernel
theorem dX9_set_74 : decode cX9_set 74 = .ok (.invokestatic 81, 3) := by decide +kernel
theorem dX9_set_77 : decode cX9_set 77 = .ok (.ifCond .eq 22, 3) := by decide +kernel
theorem dX9_set_80 : decode cX9_set 80 = .ok (.aload_n 0, 1) := by decide +kernel
theorem dX9_set_81 : decode cX9_set 81 = .ok (.getfield 10, 3) := by decide +kernel
theorem dX9_set_84 : decode cX9_set 84 = .ok (.aload_n 0, 1) := by decide +kernel
theorem dX9_set_85 : decode cX9_set 85 = .ok (.getfield 10, 3) := by decide +kernel
theorem dX9_set_88 : decode cX9_set 88 = .ok (.getfield 103, 3) := by decide +kernel
theorem dX9_set_91 : decode cX9_set 91 = .ok (.iload_n 1, 1) := by decide +kernel
theorem dX9_set_92 : decode cX9_set 92 = .ok (.iload_n 3, 1) := by decide +kernel
theorem dX9_set_93 : decode cX9_set 93 = .ok (.invokevirtual 115, 3) := by decide +kernel
theorem dX9_set_96 : decode cX9_set 96 = .ok (.goto 4, 3) := by decide +kernel
theorem dX9_set_99 : decode cX9_set 99 = .ok (.iconst (-1), 1) := by decide +kernel
theorem dX9_set_100 : decode cX9_set 100 = .ok (.ireturn, 1) := by decide +kernel
theorem dX9_set_101 : decode cX9_set 101 = .ok (.iload_n 3, 1) := by decide +kernel
theorem dX9_set_102 : decode cX9_set 102 = .ok (.iconst 0, 1) := by decide +kernel
theorem dX9_set_103 : decode cX9_set 103 = .ok (.bipush 100, 2) := by decide +kernel
theorem dX9_set_105 : decode cX9_set 105 = .ok (.invokestatic 81, 3) := by decide +kernel
theorem dX9_set_108 : decode cX9_set 108 = .ok (.ifCond .eq 28, 3) := by decide +kernel
theorem dX9_set_111 : decode cX9_set 111 = .ok (.aload_n 0, 1) := by decide +kernel
theorem dX9_set_112 : decode cX9_set 112 = .ok (.getfield 10, 3) := by decide +kernel
theorem dX9_set_115 : decode cX9_set 115 = .ok (.aload_n 0, 1) := by decide +kernel
theorem dX9_set_116 : decode cX9_set 116 = .ok (.getfield 10, 3) := by decide +kernel
theorem dX9_set_119 : decode cX9_set 119 = .ok (.getfield 106, 3) := by decide +kernel
theorem dX9_set_122 : decode cX9_set 122 = .ok (.iload_n 1, 1) := by decide +kernel
theorem dX9_set_123 : decode cX9_set 123 = .ok (.iload_n 3, 1) := by decide +kernel
theorem dX9_set_124 : decode cX9_set 124 = .ok (.bipush 50, 2) := by decide +kernel
theorem dX9_set_126 : decode cX9_set 126 = .ok (.isub, 1) := by decide +kernel
theorem dX9_set_127 : decode cX9_set 127 = .ok (.invokevirtual 115, 3) := by decide +kernel
theorem dX9_set_130 : decode cX9_set 130 = .ok (.bipush 50, 2) := by decide +kernel
theorem dX9_set_132 : decode cX9_set 132 = .ok (.iadd, 1) := by decide +kernel
theorem dX9_set_133 : decode cX9_set 133 = .ok (.goto 4, 3) := by decide +kernel
theorem dX9_set_136 : decode cX9_set 136 = .ok (.iconst (-1), 1) := by decide +kernel
theorem dX9_set_137 : decode cX9_set 137 = .ok (.ireturn, 1) := by decide +kernel
theorem dX9_set_138 : decode cX9_set 138 = .ok (.iload_n 3, 1) := by decide +kernel
theorem dX9_set_139 : decode cX9_set 139 = .ok (.invokestatic 119, 3) := by decide +kernel
theorem dX9_set_142 : decode cX9_set 142 = .ok (.ifCond .eq 22, 3) := by decide +kernel
theorem dX9_set_145 : decode cX9_set 145 = .ok (.aload_n 0, 1) := by decide +kernel
theorem dX9_set_146 : decode cX9_set 146 = .ok (.getfield 10, 3) := by decide +kernel
theorem dX9_set_149 : decode cX9_set 149 = .ok (.aload_n 0, 1) := by decide +kernel
theorem dX9_set_150 : decode cX9_set 150 = .ok (.getfield 10, 3) := by decide +kernel
theorem dX9_set_153 : decode cX9_set 153 = .ok (.getfield 109, 3) := by decide +kernel
theorem dX9_set_156 : decode cX9_set 156 = .ok (.iload_n 1, 1) := by decide +kernel
theorem dX9_set_157 : decode cX9_set 157 = .ok (.iload_n 3, 1) := by decide +kernel
theorem dX9_set_158 : decode cX9_set 158 = .ok (.invokevirtual 115, 3) := by decide +kernel
theorem dX9_set_161 : decode cX9_set 161 = .ok (.goto 4, 3) := by decide +kernel
theorem dX9_set_164 : decode cX9_set 164 = .ok (.iconst (-1), 1) := by decide +kernel
theorem dX9_set_165 : decode cX9_set 165 = .ok (.ireturn, 1) := by decide +kernel
theorem dX9_set_166 : decode cX9_set 166 = .ok (.iconst (-1), 1) := by decide +kernel
theorem dX9_set_167 : decode cX9_set 167 = .ok (.ireturn, 1) := by decide +kernel
theorem dX9_stretch_0 : decode cX9_stretch 0 = .ok (.iload_n 1, 1) := by decide +kernel
theorem dX9_stretch_1 : decode cX9_stretch 1 = .ok (.iconst 1, 1) := by decide +kernel
theorem dX9_stretch_2 : decode cX9_stretch 2 = .ok (.bipush 99, 2) := by decide +kernel
theorem dX9_stretch_4 : decode cX9_stretch 4 = .ok (.invokestatic 81, 3) := by decide +kernel
theorem dX9_stretch_7 : decode cX9_stretch 7 = .ok (.ifCond .ne 5, 3) := by decide +kernel
theorem dX9_stretch_10 : decode cX9_stretch 10 = .ok (.iconst (-1), 1) := by decide +kernel
theorem dX9_stretch_11 : decode cX9_stretch 11 = .ok (.ireturn, 1) := by decide +kernel
theorem dX9_stretch_12 : decode cX9_stretch 12 = .ok (.aload_n 0, 1) := by decide +kernel
theorem dX9_stretch_13 : decode cX9_stretch 13 = .ok (.getfield 10, 3) := by decide +kernel
theorem dX9_stretch_16 : decode cX9_stretch 16 = .ok (.getfield 122, 3) := by decide +kernel
theorem dX9_stretch_19 : decode cX9_stretch 19 = .ok (.iconst 5, 1) := by decide +kernel
theorem dX9_stretch_20 : decode cX9_stretch 20 = .ok (.if_icmp .ge 23, 3) := by decide +kernel
theorem dX9_stretch_23 : decode cX9_stretch 23 = .ok (.aload_n 0, 1) := by decide +kernel
theorem dX9_stretch_24 : decode cX9_stretch 24 = .ok (.getfield 10, 3) := by decide +kernel
theorem dX9_stretch_27 : decode cX9_stretch 27 = .ok (.iload_n 1, 1) := by decide +kernel
theorem dX9_stretch_28 : decode cX9_stretch 28 = .ok (.iload_n 2, 1) := by decide +kernel
theorem dX9_stretch_29 : decode cX9_stretch 29 = .ok (.ifCond .eq 7, 3) := by decide +kernel
theorem dX9_stretch_32 : decode cX9_stretch 32 = .ok (.iconst 1, 1) := by decide +kernel
theorem dX9_stretch_33 : decode cX9_stretch 33 = .ok (.goto 4, 3) := by decide +kernel
theorem dX9_stretch_36 : decode cX9_stretch 36 = .ok (.iconst 0, 1) := by decide +kernel
theorem dX9_stretch_37 : decode cX9_stretch 37 = .ok (.invokevirtual 125, 3) := by decide +kernel
theorem dX9_stretch_40 : decode cX9_stretch 40 = .ok (.goto 5, 3) := by decide +kernel
theorem dX9_stretch_43 : decode cX9_stretch 43 = .ok (.bipush (-3), 2) := by decide +kernel
theorem dX9_stretch_45 : decode cX9_stretch 45 = .ok (.ireturn, 1) := by decide +kernel
theorem dX9_of_0 : decode cX9_of 0 = .ok (.aload_n 0, 1) := by decide +kernel
theorem dX9_of_1 : decode cX9_of 1 = .ok (.iload_n 1, 1) := by decide +kernel
theorem dX9_of_2 : decode cX9_of 2 = .ok (.invokevirtual 129, 3) := by decide +kernel
theorem dX9_of_5 : decode cX9_of 5 = .ok (.ifCond .eq 12, 3) := by decide +kernel
theorem dX9_of_8 : decode cX9_of 8 = .ok (.iload_n 2, 1) := by decide +kernel
theorem dX9_of_9 : decode cX9_of 9 = .ok (.iconst 0, 1) := by decide +kernel
theorem dX9_of_10 : decode cX9_of 10 = .ok (.iconst 1, 1) := by decide +kernel
theorem dX9_of_11 : decode cX9_of 11 = .ok (.invokestatic 81, 3) := by decide +kernel
theorem dX9_of_14 : decode cX9_of 14 = .ok (.ifCond .ne 5, 3) := by decide +kernel
theorem dX9_of_17 : decode cX9_of 17 = .ok (.iconst (-1), 1) := by decide +kernel
theorem dX9_of_18 : decode cX9_of 18 = .ok (.ireturn, 1) := by decide +kernel
theorem dX9_of_19 : decode cX9_of 19 = .ok (.iload_n 2, 1) := by decide +kernel
theorem dX9_of_20 : decode cX9_of 20 = .ok (.ifCond .ne 15, 3) := by decide +kernel
theorem dX9_of_23 : decode cX9_of 23 = .ok (.aload_n 0, 1) := by decide +kernel
theorem dX9_of_24 : decode cX9_of 24 = .ok (.getfield 10, 3) := by decide +kernel
theorem dX9_of_27 : decode cX9_of 27 = .ok (.getfield 132, 3) := by decide +kernel
theorem dX9_of_30 : decode cX9_of 30 = .ok (.iload_n 1, 1) := by decide +kernel
theorem dX9_of_31 : decode cX9_of 31 = .ok (.iaload, 1) := by decide +kernel
theorem dX9_of_32 : decode cX9_of 32 = .ok (.goto 12, 3) := by decide +kernel
theorem dX9_of_35 : decode cX9_of 35 = .ok (.aload_n 0, 1) := by decide +kernel
theorem dX9_of_36 : decode cX9_of 36 = .ok (.getfield 10, 3) := by decide +kernel
theorem dX9_of_39 : decode cX9_of 39 = .ok (.getfield 135, 3) := by decide +kernel
theorem dX9_of_42 : decode cX9_of 42 = .ok (.iload_n 1, 1) := by decide +kernel
theorem dX9_of_43 : decode cX9_of 43 = .ok (.iaload, 1) := by decide +kernel
theorem dX9_of_44 : decode cX9_of 44 = .ok (.ireturn, 1) := by decide +kernel
theorem dX9_bag_0 : decode cX9_bag 0 = .ok (.iload_n 1, 1) := by decide +kernel
theorem dX9_bag_1 : decode cX9_bag 1 = .ok (.invokestatic 119, 3) := by decide +kernel
theorem dX9_bag_4 : decode cX9_bag 4 = .ok (.ifCond .eq 33, 3) := by decide +kernel
theorem dX9_bag_7 : decode cX9_bag 7 = .ok (.iload_n 2, 1) := by decide +kernel
theorem dX9_bag_8 : decode cX9_bag 8 = .ok (.iconst 0, 1) := by decide +kernel
theorem dX9_bag_9 : decode cX9_bag 9 = .ok (.iconst 1, 1) := by decide +kernel
theorem dX9_bag_10 : decode cX9_bag 10 = .ok (.invokestatic 81, 3) := by decide +kernel
theorem dX9_bag_13 : decode cX9_bag 13 = .ok (.ifCond .eq 24, 3) := by decide +kernel
theorem dX9_bag_16 : decode cX9_bag 16 = .ok (.iload_n 3, 1) := by decide +kernel
theorem dX9_bag_17 : decode cX9_bag 17 = .ok (.iconst 0, 1) := by decide +kernel
theorem dX9_bag_18 : decode cX9_bag 18 = .ok (.iload_n 2, 1) := by decide +kernel
theorem dX9_bag_19 : decode cX9_bag 19 = .ok (.ifCond .ne 9, 3) := by decide +kernel
theorem dX9_bag_22 : decode cX9_bag 22 = .ok (.sipush 999, 3) := by decide +kernel
theorem dX9_bag_25 : decode cX9_bag 25 = .ok (.goto 6, 3) := by decide +kernel
theorem dX9_bag_28 : decode cX9_bag 28 = .ok (.sipush 9999, 3) := by decide +kernel
theorem dX9_bag_31 : decode cX9_bag 31 = .ok (.invokestatic 81, 3) := by decide +kernel
theorem dX9_bag_34 : decode cX9_bag 34 = .ok (.ifCond .ne 5, 3) := by decide +kernel
theorem dX9_bag_37 : decode cX9_bag 37 = .ok (.iconst (-1), 1) := by decide +kernel
theorem dX9_bag_38 : decode cX9_bag 38 = .ok (.ireturn, 1) := by decide +kernel
theorem dX9_bag_39 : decode cX9_bag 39 = .ok (.aload_n 0, 1) := by decide +kernel
theorem dX9_bag_40 : decode cX9_bag 40 = .ok (.getfield 10, 3) := by decide +kernel
theorem dX9_bag_43 : decode cX9_bag 43 = .ok (.iload_n 2, 1) := by decide +kernel
theorem dX9_bag_44 : decode cX9_bag 44 = .ok (.ifCond .ne 13, 3) := by decide +kernel
theorem dX9_bag_47 : decode cX9_bag 47 = .ok (.aload_n 0, 1) := by decide +kernel
theorem dX9_bag_48 : decode cX9_bag 48 = .ok (.getfield 10, 3) := by decide +kernel
theorem dX9_bag_51 : decode cX9_bag 51 = .ok (.getfield 138, 3) := by decide +kernel
theorem dX9_bag_54 : decode cX9_bag 54 = .ok (.goto 10, 3) := by decide +kernel
theorem dX9_bag_57 : decode cX9_bag 57 = .ok (.aload_n 0, 1) := by decide +kernel
theorem dX9_bag_58 : decode cX9_bag 58 = .ok (.getfield 10, 3) := by decide +kernel
theorem dX9_bag_61 : decode cX9_bag 61 = .ok (.getfield 141, 3) := by decide +kernel
theorem dX9_bag_64 : decode cX9_bag 64 = .ok (.iload_n 1, 1) := by decide +kernel
theorem dX9_bag_65 : decode cX9_bag 65 = .ok (.iload_n 3, 1) := by decide +kernel
theorem dX9_bag_66 : decode cX9_bag 66 = .ok (.invokevirtual 115, 3) := by decide +kernel
theorem dX9_bag_69 : decode cX9_bag 69 = .ok (.ireturn, 1) := by decide +kernel
theorem dX9_arm_0 : decode cX9_arm 0 = .ok (.iload_n 1, 1) := by decide +kernel
theorem dX9_arm_1 : decode cX9_arm 1 = .ok (.iconst 0, 1) := by decide +kernel
theorem dX9_arm_2 : decode cX9_arm 2 = .ok (.iconst 1, 1) := by decide +kernel
theorem dX9_arm_3 : decode cX9_arm 3 = .ok (.invokestatic 81, 3) := by decide +kernel
theorem dX9_arm_6 : decode cX9_arm 6 = .ok (.ifCond .eq 13, 3) := by decide +kernel
theorem dX9_arm_9 : decode cX9_arm 9 = .ok (.iload_n 2, 1) := by decide +kernel
theorem dX9_arm_10 : decode cX9_arm 10 = .ok (.iconst 1, 1) := by decide +kernel
theorem dX9_arm_11 : decode cX9_arm 11 = .ok (.bipush 9, 2) := by decide +kernel
theorem dX9_arm_13 : decode cX9_arm 13 = .ok (.invokestatic 81, 3) := by decide +kernel
theorem dX9_arm_16 : decode cX9_arm 16 = .ok (.ifCond .ne 5, 3) := by decide +kernel
theorem dX9_arm_19 : decode cX9_arm 19 = .ok (.iconst (-1), 1) := by decide +kernel
theorem dX9_arm_20 : decode cX9_arm 20 = .ok (.ireturn, 1) := by decide +kernel
theorem dX9_arm_21 : decode cX9_arm 21 = .ok (.aload_n 0, 1) := by decide +kernel
theorem dX9_arm_22 : decode cX9_arm 22 = .ok (.getfield 10, 3) := by decide +kernel
theorem dX9_arm_25 : decode cX9_arm 25 = .ok (.aload_n 0, 1) := by decide +kernel
theorem dX9_arm_26 : decode cX9_arm 26 = .ok (.getfield 10, 3) := by decide +kernel
theorem dX9_arm_29 : decode cX9_arm 29 = .ok (.getfield 144, 3) := by decide +kernel
theorem dX9_arm_32 : decode cX9_arm 32 = .ok (.iload_n 1, 1) := by decide +kernel
theorem dX9_arm_33 : decode cX9_arm 33 = .ok (.iload_n 2, 1) := by decide +kernel
theorem dX9_arm_34 : decode cX9_arm 34 = .ok (.invokevirtual 115, 3) := by decide +kernel
theorem dX9_arm_37 : decode cX9_arm 37 = .ok (.ireturn, 1) := by decide +kernel
theorem dX9_rule_0 : decode cX9_rule 0 = .ok (.aload_n 0, 1) := by decide +kernel
theorem dX9_rule_1 : decode cX9_rule 1 = .ok (.iload_n 1, 1) := by decide +kernel
theorem dX9_rule_2 : decode cX9_rule 2 = .ok (.invokevirtual 93, 3) := by decide +kernel
theorem dX9_rule_5 : decode cX9_rule 5 = .ok (.ifCond .eq 25, 3) := by decide +kernel
theorem dX9_rule_8 : decode cX9_rule 8 = .ok (.aload_n 0, 1) := by decide +kernel
theorem dX9_rule_9 : decode cX9_rule 9 = .ok (.iload_n 2, 1) := by decide +kernel
theorem dX9_rule_10 : decode cX9_rule 10 = .ok (.invokevirtual 93, 3) := by decide +kernel
theorem dX9_rule_13 : decode cX9_rule 13 = .ok (.ifCond .eq 17, 3) := by decide +kernel
theorem dX9_rule_16 : decode cX9_rule 16 = .ok (.iload_n 1, 1) := by decide +kernel
theorem dX9_rule_17 : decode cX9_rule 17 = .ok (.iload_n 2, 1) := by decide +kernel
theorem dX9_rule_18 : decode cX9_rule 18 = .ok (.if_icmp .eq 12, 3) := by decide +kernel
theorem dX9_rule_21 : decode cX9_rule 21 = .ok (.iload_n 3, 1) := by decide +kernel
theorem dX9_rule_22 : decode cX9_rule 22 = .ok (.iconst 0, 1) := by decide +kernel
theorem dX9_rule_23 : decode cX9_rule 23 = .ok (.iconst 1, 1) := by decide +kernel
theorem dX9_rule_24 : decode cX9_rule 24 = .ok (.invokestatic 81, 3) := by decide +kernel
theorem dX9_rule_27 : decode cX9_rule 27 = .ok (.ifCond .ne 5, 3) := by decide +kernel
theorem dX9_rule_30 : decode cX9_rule 30 = .ok (.iconst (-1), 1) := by decide +kernel
theorem dX9_rule_31 : decode cX9_rule 31 = .ok (.ireturn, 1) := by decide +kernel
theorem dX9_rule_32 : decode cX9_rule 32 = .ok (.aload_n 0, 1) := by decide +kernel
theorem dX9_rule_33 : decode cX9_rule 33 = .ok (.getfield 10, 3) := by decide +kernel
theorem dX9_rule_36 : decode cX9_rule 36 = .ok (.getfield 147, 3) := by decide +kernel
theorem dX9_rule_39 : decode cX9_rule 39 = .ok (.bipush 8, 2) := by decide +kernel
theorem dX9_rule_41 : decode cX9_rule 41 = .ok (.if_icmp .ge 16, 3) := by decide +kernel
theorem dX9_rule_44 : decode cX9_rule 44 = .ok (.aload_n 0, 1) := by decide +kernel
theorem dX9_rule_45 : decode cX9_rule 45 = .ok (.getfield 10, 3) := by decide +kernel
theorem dX9_rule_48 : decode cX9_rule 48 = .ok (.iload_n 1, 1) := by decide +kernel
theorem dX9_rule_49 : decode cX9_rule 49 = .ok (.iload_n 2, 1) := by decide +kernel
theorem dX9_rule_50 : decode cX9_rule 50 = .ok (.iload_n 3, 1) := by decide +kernel
theorem dX9_rule_51 : decode cX9_rule 51 = .ok (.invokevirtual 150, 3) := by decide +kernel
theorem dX9_rule_54 : decode cX9_rule 54 = .ok (.goto 5, 3) := by decide +kernel
theorem dX9_rule_57 : decode cX9_rule 57 = .ok (.bipush (-3), 2) := by decide +kernel
theorem dX9_rule_59 : decode cX9_rule 59 = .ok (.ireturn, 1) := by decide +kernel
theorem dX9_off_0 : decode cX9_off 0 = .ok (.aload_n 0, 1) := by decide +kernel
theorem dX9_off_1 : decode cX9_off 1 = .ok (.getfield 10, 3) := by decide +kernel
theorem dX9_off_4 : decode cX9_off 4 = .ok (.getfield 147, 3) := by decide +kernel
theorem dX9_off_7 : decode cX9_off 7 = .ok (.ifCond .le 13, 3) := by decide +kernel
theorem dX9_off_10 : decode cX9_off 10 = .ok (.aload_n 0, 1) := by decide +kernel
theorem dX9_off_11 : decode cX9_off 11 = .ok (.getfield 10, 3) := by decide +kernel
theorem dX9_off_14 : decode cX9_off 14 = .ok (.invokevirtual 153, 3) := by decide +kernel
theorem dX9_off_17 : decode cX9_off 17 = .ok (.goto 5, 3) := by decide +kernel
theorem dX9_off_20 : decode cX9_off 20 = .ok (.bipush (-4), 2) := by decide +kernel
theorem dX9_off_22 : decode cX9_off 22 = .ok (.ireturn, 1) := by decide +kernel
theorem dX9_type_0 : decode cX9_type 0 = .ok (.iload_n 1, 1) := by decide +kernel
theorem dX9_type_1 : decode cX9_type 1 = .ok (.bipush 32, 2) := by decide +kernel
theorem dX9_type_3 : decode cX9_type 3 = .ok (.bipush 126, 2) := by decide +kernel
theorem dX9_type_5 : decode cX9_type 5 = .ok (.invokestatic 81, 3) := by decide +kernel
theorem dX9_type_8 : decode cX9_type 8 = .ok (.ifCond .ne 5, 3) := by decide +kernel
theorem dX9_type_11 : decode cX9_type 11 = .ok (.iconst (-1), 1) := by decide +kernel
theorem dX9_type_12 : decode cX9_type 12 = .ok (.ireturn, 1) := by decide +kernel
theorem dX9_type_13 : decode cX9_type 13 = .ok (.aload_n 0, 1) := by decide +kernel
theorem dX9_type_14 : decode cX9_type 14 = .ok (.getfield 25, 3) := by decide +kernel
theorem dX9_type_17 : decode cX9_type 17 = .ok (.getfield 157, 3) := by decide +kernel
theorem dX9_type_20 : decode cX9_type 20 = .ok (.bipush 80, 2) := by decide +kernel
theorem dX9_type_22 : decode cX9_type 22 = .ok (.if_icmp .ge 14, 3) := by decide +kernel
theorem dX9_type_25 : decode cX9_type 25 = .ok (.aload_n 0, 1) := by decide +kernel
theorem dX9_type_26 : decode cX9_type 26 = .ok (.getfield 25, 3) := by decide +kernel
theorem dX9_type_29 : decode cX9_type 29 = .ok (.iload_n 1, 1) := by decide +kernel
theorem dX9_type_30 : decode cX9_type 30 = .ok (.invokevirtual 160, 3) := by decide +kernel
theorem dX9_type_33 : decode cX9_type 33 = .ok (.goto 5, 3) := by decide +kernel
theorem dX9_type_36 : decode cX9_type 36 = .ok (.bipush (-3), 2) := by decide +kernel
theorem dX9_type_38 : decode cX9_type 38 = .ok (.ireturn, 1) := by decide +kernel
theorem dX9_market_0 : decode cX9_market 0 = .ok (.aload_n 0, 1) := by decide +kernel
theorem dX9_market_1 : decode cX9_market 1 = .ok (.getfield 25, 3) := by decide +kernel
theorem dX9_market_4 : decode cX9_market 4 = .ok (.aload_n 0, 1) := by decide +kernel
theorem dX9_market_5 : decode cX9_market 5 = .ok (.getfield 19, 3) := by decide +kernel
theorem dX9_market_8 : decode cX9_market 8 = .ok (.invokevirtual 164, 3) := by decide +kernel
theorem dX9_market_11 : decode cX9_market 11 = .ok (.istore_n 1, 1) := by decide +kernel
theorem dX9_market_12 : decode cX9_market 12 = .ok (.iload_n 1, 1) := by decide +kernel
theorem dX9_market_13 : decode cX9_market 13 = .ok (.ifCond .lt 21, 3) := by decide +kernel
theorem dX9_market_16 : decode cX9_market 16 = .ok (.aload_n 0, 1) := by decide +kernel
theorem dX9_market_17 : decode cX9_market 17 = .ok (.getfield 10, 3) := by decide +kernel
theorem dX9_market_20 : decode cX9_market 20 = .ok (.aload_n 0, 1) := by decide +kernel
theorem dX9_market_21 : decode cX9_market 21 = .ok (.getfield 19, 3) := by decide +kernel
theorem dX9_market_24 : decode cX9_market 24 = .ok (.invokevirtual 168, 3) := by decide +kernel
theorem dX9_market_27 : decode cX9_market 27 = .ok (.aload_n 0, 1) := by decide +kernel
theorem dX9_market_28 : decode cX9_market 28 = .ok (.getfield 10, 3) := by decide +kernel
theorem dX9_market_31 : decode cX9_market 31 = .ok (.invokevirtual 171, 3) := by decide +kernel
theorem dX9_market_34 : decode cX9_market 34 = .ok (.aload_n 0, 1) := by decide +kernel
theorem dX9_market_35 : decode cX9_market 35 = .ok (.getfield 25, 3) := by decide +kernel
theorem dX9_market_38 : decode cX9_market 38 = .ok (.iconst 0, 1) := by decide +kernel
theorem dX9_market_39 : decode cX9_market 39 = .ok (.putfield 157, 3) := by decide +kernel
theorem dX9_market_42 : decode cX9_market 42 = .ok (.iload_n 1, 1) := by decide +kernel
theorem dX9_market_43 : decode cX9_market 43 = .ok (.ireturn, 1) := by decide +kernel
theorem dX9_count_0 : decode cX9_count 0 = .ok (.iload_n 1, 1) := by decide +kernel
theorem dX9_count_1 : decode cX9_count 1 = .ok (.tableswitch 103 0 6 #[43, 51, 59, 67, 75, 83, 93], 43) := by decide +kernel
theorem dX9_count_44 : decode cX9_count 44 = .ok (.aload_n 0, 1) := by decide +kernel
theorem dX9_count_45 : decode cX9_count 45 = .ok (.getfield 10, 3) := by decide +kernel
theorem dX9_count_48 : decode cX9_count 48 = .ok (.getfield 85, 3) := by decide +kernel
theorem dX9_count_51 : decode cX9_count 51 = .ok (.ireturn, 1) := by decide +kernel
theorem dX9_count_52 : decode cX9_count 52 = .ok (.aload_n 0, 1) := by decide +kernel
theorem dX9_count_53 : decode cX9_count 53 = .ok (.getfield 10, 3) := by decide +kernel
theorem dX9_count_56 : decode cX9_count 56 = .ok (.getfield 122, 3) := by decide +kernel
theorem dX9_count_59 : decode cX9_count 59 = .ok (.ireturn, 1) := by decide +kernel
theorem dX9_count_60 : decode cX9_count 60 = .ok (.aload_n 0, 1) := by decide +kernel
theorem dX9_count_61 : decode cX9_count 61 = .ok (.getfield 10, 3) := by decide +kernel
theorem dX9_count_64 : decode cX9_count 64 = .ok (.getfield 147, 3) := by decide +kernel
theorem dX9_count_67 : decode cX9_count 67 = .ok (.ireturn, 1) := by decide +kernel
theorem dX9_count_68 : decode cX9_count 68 = .ok (.aload_n 0, 1) := by decide +kernel
theorem dX9_count_69 : decode cX9_count 69 = .ok (.getfield 10, 3) := by decide +kernel
theorem dX9_count_72 : decode cX9_count 72 = .ok (.getfield 174, 3) := by decide +kernel
theorem dX9_count_75 : decode cX9_count 75 = .ok (.ireturn, 1) := by decide +kernel
theorem dX9_count_76 : decode cX9_count 76 = .ok (.aload_n 0, 1) := by decide +kernel
theorem dX9_count_77 : decode cX9_count 77 = .ok (.getfield 10, 3) := by decide +kernel
theorem dX9_count_80 : decode cX9_count 80 = .ok (.invokevirtual 177, 3) := by decide +kernel
theorem dX9_count_83 : decode cX9_count 83 = .ok (.ireturn, 1) := by decide +kernel
theorem dX9_count_84 : decode cX9_count 84 = .ok (.aload_n 0, 1) := by decide +kernel
theorem dX9_count_85 : decode cX9_count 85 = .ok (.getfield 10, 3) := by decide +kernel
theorem dX9_count_88 : decode cX9_count 88 = .ok (.getfield 144, 3) := by decide +kernel
theorem dX9_count_91 : decode cX9_count 91 = .ok (.iconst 0, 1) := by decide +kernel
theorem dX9_count_92 : decode cX9_count 92 = .ok (.iaload, 1) := by decide +kernel
theorem dX9_count_93 : decode cX9_count 93 = .ok (.ireturn, 1) := by decide +kernel
theorem dX9_count_94 : decode cX9_count 94 = .ok (.aload_n 0, 1) := by decide +kernel
theorem dX9_count_95 : decode cX9_count 95 = .ok (.getfield 10, 3) := by decide +kernel
theorem dX9_count_98 : decode cX9_count 98 = .ok (.getfield 144, 3) := by decide +kernel
theorem dX9_count_101 : decode cX9_count 101 = .ok (.iconst 1, 1) := by decide +kernel
theorem dX9_count_102 : decode cX9_count 102 = .ok (.iaload, 1) := by decide +kernel
theorem dX9_count_103 : decode cX9_count 103 = .ok (.ireturn, 1) := by decide +kernel
theorem dX9_count_104 : decode cX9_count 104 = .ok (.iconst (-1), 1) := by decide +kernel
theorem dX9_count_105 : decode cX9_count 105 = .ok (.ireturn, 1) := by decide +kernel
theorem dX9_load_0 : decode cX9_load 0 = .ok (.iload_n 1, 1) := by decide +kernel
theorem dX9_load_1 : decode cX9_load 1 = .ok (.invokestatic 119, 3) := by decide +kernel
theorem dX9_load_4 : decode cX9_load 4 = .ok (.ifCond .eq 23, 3) := by decide +kernel
theorem dX9_load_7 : decode cX9_load 7 = .ok (.aload_n 0, 1) := by decide +kernel
theorem dX9_load_8 : decode cX9_load 8 = .ok (.iload_n 2, 1) := by decide +kernel
theorem dX9_load_9 : decode cX9_load 9 = .ok (.invokevirtual 129, 3) := by decide +kernel
theorem dX9_load_12 : decode cX9_load 12 = .ok (.ifCond .eq 15, 3) := by decide +kernel
theorem dX9_load_15 : decode cX9_load 15 = .ok (.aload_n 0, 1) := by decide +kernel
theorem dX9_load_16 : decode cX9_load 16 = .ok (.getfield 10, 3) := by decide +kernel
theorem dX9_load_19 : decode cX9_load 19 = .ok (.iload_n 1, 1) := by decide +kernel
theorem dX9_load_20 : decode cX9_load 20 = .ok (.iload_n 2, 1) := by decide +kernel
theorem dX9_load_21 : decode cX9_load 21 = .ok (.invokevirtual 180, 3) := by decide +kernel
theorem dX9_load_24 : decode cX9_load 24 = .ok (.goto 4, 3) := by decide +kernel
theorem dX9_load_27 : decode cX9_load 27 = .ok (.iconst (-1), 1) := by decide +kernel
theorem dX9_load_28 : decode cX9_load 28 = .ok (.ireturn, 1) := by decide +kernel
theorem dX9_lawful_0 : decode cX9_lawful 0 = .ok (.aload_n 0, 1) := by decide +kernel
theorem dX9_lawful_1 : decode cX9_lawful 1 = .ok (.getfield 10, 3) := by decide +kernel
theorem dX9_lawful_4 : decode cX9_lawful 4 = .ok (.invokevirtual 183, 3) := by decide +kernel
theorem dX9_lawful_7 : decode cX9_lawful 7 = .ok (.ireturn, 1) := by decide +kernel
theorem dX9_pull_0 : decode cX9_pull 0 = .ok (.aload_n 0, 1) := by decide +kernel
theorem dX9_pull_1 : decode cX9_pull 1 = .ok (.iload_n 1, 1) := by decide +kernel
theorem dX9_pull_2 : decode cX9_pull 2 = .ok (.invokevirtual 129, 3) := by decide +kernel
theorem dX9_pull_5 : decode cX9_pull 5 = .ok (.ifCond .eq 14, 3) := by decide +kernel
theorem dX9_pull_8 : decode cX9_pull 8 = .ok (.aload_n 0, 1) := by decide +kernel
theorem dX9_pull_9 : decode cX9_pull 9 = .ok (.getfield 10, 3) := by decide +kernel
theorem dX9_pull_12 : decode cX9_pull 12 = .ok (.iload_n 1, 1) := by decide +kernel
theorem dX9_pull_13 : decode cX9_pull 13 = .ok (.invokevirtual 186, 3) := by decide +kernel
theorem dX9_pull_16 : decode cX9_pull 16 = .ok (.goto 5, 3) := by decide +kernel
theorem dX9_pull_19 : decode cX9_pull 19 = .ok (.ldc 189, 2) := by decide +kernel
theorem dX9_pull_21 : decode cX9_pull 21 = .ok (.ireturn, 1) := by decide +kernel
theorem dX9_uneven_0 : decode cX9_uneven 0 = .ok (.iload_n 1, 1) := by decide +kernel
theorem dX9_uneven_1 : decode cX9_uneven 1 = .ok (.lookupswitch 43 #[(0, 27), (1, 35)], 27) := by decide +kernel
theorem dX9_uneven_28 : decode cX9_uneven 28 = .ok (.aload_n 0, 1) := by decide +kernel
theorem dX9_uneven_29 : decode cX9_uneven 29 = .ok (.getfield 10, 3) := by decide +kernel
theorem dX9_uneven_32 : decode cX9_uneven 32 = .ok (.invokevirtual 190, 3) := by decide +kernel
theorem dX9_uneven_35 : decode cX9_uneven 35 = .ok (.ireturn, 1) := by decide +kernel
theorem dX9_uneven_36 : decode cX9_uneven 36 = .ok (.aload_n 0, 1) := by decide +kernel
theorem dX9_uneven_37 : decode cX9_uneven 37 = .ok (.getfield 10, 3) := by decide +kernel
theorem dX9_uneven_40 : decode cX9_uneven 40 = .ok (.invokevirtual 193, 3) := by decide +kernel
theorem dX9_uneven_43 : decode cX9_uneven 43 = .ok (.ireturn, 1) := by decide +kernel
theorem dX9_uneven_44 : decode cX9_uneven 44 = .ok (.iconst (-1), 1) := by decide +kernel
theorem dX9_uneven_45 : decode cX9_uneven 45 = .ok (.ireturn, 1) := by decide +kernel
theorem dX9_best_0 : decode cX9_best 0 = .ok (.iload_n 1, 1) := by decide +kernel
theorem dX9_best_1 : decode cX9_best 1 = .ok (.bipush (-2), 2) := by decide +kernel
theorem dX9_best_3 : decode cX9_best 3 = .ok (.if_icmp .eq 18, 3) := by decide +kernel
theorem dX9_best_6 : decode cX9_best 6 = .ok (.iload_n 1, 1) := by decide +kernel
theorem dX9_best_7 : decode cX9_best 7 = .ok (.iconst (-1), 1) := by decide +kernel
theorem dX9_best_8 : decode cX9_best 8 = .ok (.if_icmp .eq 13, 3) := by decide +kernel
theorem dX9_best_11 : decode cX9_best 11 = .ok (.aload_n 0, 1) := by decide +kernel
theorem dX9_best_12 : decode cX9_best 12 = .ok (.iload_n 1, 1) := by decide +kernel
theorem dX9_best_13 : decode cX9_best 13 = .ok (.invokevirtual 93, 3) := by decide +kernel
theorem dX9_best_16 : decode cX9_best 16 = .ok (.ifCond .ne 5, 3) := by decide +kernel
theorem dX9_best_19 : decode cX9_best 19 = .ok (.iconst (-1), 1) := by decide +kernel
theorem dX9_best_20 : decode cX9_best 20 = .ok (.ireturn, 1) := by decide +kernel
theorem dX9_best_21 : decode cX9_best 21 = .ok (.aload_n 0, 1) := by decide +kernel
theorem dX9_best_22 : decode cX9_best 22 = .ok (.getfield 34, 3) := by decide +kernel
theorem dX9_best_25 : decode cX9_best 25 = .ok (.invokevirtual 196, 3) := by decide +kernel
theorem dX9_best_28 : decode cX9_best 28 = .ok (.aload_n 0, 1) := by decide +kernel
theorem dX9_best_29 : decode cX9_best 29 = .ok (.getfield 34, 3) := by decide +kernel
theorem dX9_best_32 : decode cX9_best 32 = .ok (.getfield 199, 3) := by decide +kernel
theorem dX9_best_35 : decode cX9_best 35 = .ok (.ifCond .ne 6, 3) := by decide +kernel
theorem dX9_best_38 : decode cX9_best 38 = .ok (.bipush (-4), 2) := by decide +kernel
theorem dX9_best_40 : decode cX9_best 40 = .ok (.ireturn, 1) := by decide +kernel
theorem dX9_best_41 : decode cX9_best 41 = .ok (.iload_n 1, 1) := by decide +kernel
theorem dX9_best_42 : decode cX9_best 42 = .ok (.ifCond .ge 27, 3) := by decide +kernel
theorem dX9_best_45 : decode cX9_best 45 = .ok (.iload_n 1, 1) := by decide +kernel
theorem dX9_best_46 : decode cX9_best 46 = .ok (.bipush (-2), 2) := by decide +kernel
theorem dX9_best_48 : decode cX9_best 48 = .ok (.if_icmp .ne 13, 3) := by decide +kernel
theorem dX9_best_51 : decode cX9_best 51 = .ok (.aload_n 0, 1) := by decide +kernel
theorem dX9_best_52 : decode cX9_best 52 = .ok (.getfield 34, 3) := by decide +kernel
theorem dX9_best_55 : decode cX9_best 55 = .ok (.getfield 202, 3) := by decide +kernel
theorem dX9_best_58 : decode cX9_best 58 = .ok (.goto 10, 3) := by decide +kernel
theorem dX9_best_61 : decode cX9_best 61 = .ok (.aload_n 0, 1) := by decide +kernel
theorem dX9_best_62 : decode cX9_best 62 = .ok (.getfield 34, 3) := by decide +kernel
theorem dX9_best_65 : decode cX9_best 65 = .ok (.getfield 204, 3) := by decide +kernel
theorem dX9_best_68 : decode cX9_best 68 = .ok (.ireturn, 1) := by decide +kernel
theorem dX9_best_69 : decode cX9_best 69 = .ok (.aload_n 0, 1) := by decide +kernel
theorem dX9_best_70 : decode cX9_best 70 = .ok (.getfield 34, 3) := by decide +kernel
theorem dX9_best_73 : decode cX9_best 73 = .ok (.getfield 206, 3) := by decide +kernel
theorem dX9_best_76 : decode cX9_best 76 = .ok (.iload_n 1, 1) := by decide +kernel
theorem dX9_best_77 : decode cX9_best 77 = .ok (.iaload, 1) := by decide +kernel
theorem dX9_best_78 : decode cX9_best 78 = .ok (.ireturn, 1) := by decide +kernel
theorem dX9_pack_0 : decode cX9_pack 0 = .ok (.aload_n 0, 1) := by decide +kernel
theorem dX9_pack_1 : decode cX9_pack 1 = .ok (.getfield 34, 3) := by decide +kernel
theorem dX9_pack_4 : decode cX9_pack 4 = .ok (.invokevirtual 196, 3) := by decide +kernel
theorem dX9_pack_7 : decode cX9_pack 7 = .ok (.aload_n 0, 1) := by decide +kernel
theorem dX9_pack_8 : decode cX9_pack 8 = .ok (.getfield 34, 3) := by decide +kernel
theorem dX9_pack_11 : decode cX9_pack 11 = .ok (.getfield 199, 3) := by decide +kernel
theorem dX9_pack_14 : decode cX9_pack 14 = .ok (.ifCond .ne 6, 3) := by decide +kernel
theorem dX9_pack_17 : decode cX9_pack 17 = .ok (.bipush (-4), 2) := by decide +kernel
theorem dX9_pack_19 : decode cX9_pack 19 = .ok (.ireturn, 1) := by decide +kernel
theorem dX9_pack_20 : decode cX9_pack 20 = .ok (.aload_n 0, 1) := by decide +kernel
theorem dX9_pack_21 : decode cX9_pack 21 = .ok (.getfield 10, 3) := by decide +kernel
theorem dX9_pack_24 : decode cX9_pack 24 = .ok (.aload_n 0, 1) := by decide +kernel
theorem dX9_pack_25 : decode cX9_pack 25 = .ok (.getfield 34, 3) := by decide +kernel
theorem dX9_pack_28 : decode cX9_pack 28 = .ok (.getfield 206, 3) := by decide +kernel
theorem dX9_pack_31 : decode cX9_pack 31 = .ok (.invokevirtual 209, 3) := by decide +kernel
theorem dX9_pack_34 : decode cX9_pack 34 = .ok (.aload_n 0, 1) := by decide +kernel
theorem dX9_pack_35 : decode cX9_pack 35 = .ok (.getfield 34, 3) := by decide +kernel
theorem dX9_pack_38 : decode cX9_pack 38 = .ok (.getfield 202, 3) := by decide +kernel
theorem dX9_pack_41 : decode cX9_pack 41 = .ok (.ireturn, 1) := by decide +kernel
theorem dX9_evenest_0 : decode cX9_evenest 0 = .ok (.aload_n 0, 1) := by decide +kernel
theorem dX9_evenest_1 : decode cX9_evenest 1 = .ok (.iload_n 1, 1) := by decide +kernel
theorem dX9_evenest_2 : decode cX9_evenest 2 = .ok (.invokevirtual 129, 3) := by decide +kernel
theorem dX9_evenest_5 : decode cX9_evenest 5 = .ok (.ifCond .eq 16, 3) := by decide +kernel
theorem dX9_evenest_8 : decode cX9_evenest 8 = .ok (.iload_n 2, 1) := by decide +kernel
theorem dX9_evenest_9 : decode cX9_evenest 9 = .ok (.iconst (-1), 1) := by decide +kernel
theorem dX9_evenest_10 : decode cX9_evenest 10 = .ok (.if_icmp .eq 13, 3) := by decide +kernel
theorem dX9_evenest_13 : decode cX9_evenest 13 = .ok (.aload_n 0, 1) := by decide +kernel
theorem dX9_evenest_14 : decode cX9_evenest 14 = .ok (.iload_n 2, 1) := by decide +kernel
theorem dX9_evenest_15 : decode cX9_evenest 15 = .ok (.invokevirtual 93, 3) := by decide +kernel
theorem dX9_evenest_18 : decode cX9_evenest 18 = .ok (.ifCond .ne 5, 3) := by decide +kernel
theorem dX9_evenest_21 : decode cX9_evenest 21 = .ok (.iconst (-1), 1) := by decide +kernel
theorem dX9_evenest_22 : decode cX9_evenest 22 = .ok (.ireturn, 1) := by decide +kernel
theorem dX9_evenest_23 : decode cX9_evenest 23 = .ok (.aload_n 0, 1) := by decide +kernel
theorem dX9_evenest_24 : decode cX9_evenest 24 = .ok (.getfield 10, 3) := by decide +kernel
theorem dX9_evenest_27 : decode cX9_evenest 27 = .ok (.iload_n 1, 1) := by decide +kernel
theorem dX9_evenest_28 : decode cX9_evenest 28 = .ok (.invokevirtual 213, 3) := by decide +kernel
theorem dX9_evenest_31 : decode cX9_evenest 31 = .ok (.istore_n 3, 1) := by decide +kernel
theorem dX9_evenest_32 : decode cX9_evenest 32 = .ok (.iload_n 2, 1) := by decide +kernel
theorem dX9_evenest_33 : decode cX9_evenest 33 = .ok (.ifCond .ge 16, 3) := by decide +kernel
theorem dX9_evenest_36 : decode cX9_evenest 36 = .ok (.aload_n 0, 1) := by decide +kernel
theorem dX9_evenest_37 : decode cX9_evenest 37 = .ok (.getfield 10, 3) := by decide +kernel
theorem dX9_evenest_40 : decode cX9_evenest 40 = .ok (.iload_n 3, 1) := by decide +kernel
theorem dX9_evenest_41 : decode cX9_evenest 41 = .ok (.iload_n 1, 1) := by decide +kernel
theorem dX9_evenest_42 : decode cX9_evenest 42 = .ok (.invokevirtual 216, 3) := by decide +kernel
theorem dX9_evenest_45 : decode cX9_evenest 45 = .ok (.invokestatic 219, 3) := by decide +kernel
theorem dX9_evenest_48 : decode cX9_evenest 48 = .ok (.ireturn, 1) := by decide +kernel
theorem dX9_evenest_49 : decode cX9_evenest 49 = .ok (.aload_n 0, 1) := by decide +kernel
theorem dX9_evenest_50 : decode cX9_evenest 50 = .ok (.getfield 10, 3) := by decide +kernel
theorem dX9_evenest_53 : decode cX9_evenest 53 = .ok (.iload_n 3, 1) := by decide +kernel
theorem dX9_evenest_54 : decode cX9_evenest 54 = .ok (.iload_n 2, 1) := by decide +kernel
theorem dX9_evenest_55 : decode cX9_evenest 55 = .ok (.invokevirtual 224, 3) := by decide +kernel
theorem dX9_evenest_58 : decode cX9_evenest 58 = .ok (.ifCond .eq 7, 3) := by decide +kernel
theorem dX9_evenest_61 : decode cX9_evenest 61 = .ok (.iconst 1, 1) := by decide +kernel
theorem dX9_evenest_62 : decode cX9_evenest 62 = .ok (.goto 4, 3) := by decide +kernel
theorem dX9_evenest_65 : decode cX9_evenest 65 = .ok (.iconst 0, 1) := by decide +kernel
theorem dX9_evenest_66 : decode cX9_evenest 66 = .ok (.ireturn, 1) := by decide +kernel
theorem dX9_moved_0 : decode cX9_moved 0 = .ok (.aload_n 0, 1) := by decide +kernel
theorem dX9_moved_1 : decode cX9_moved 1 = .ok (.iload_n 1, 1) := by decide +kernel
theorem dX9_moved_2 : decode cX9_moved 2 = .ok (.invokevirtual 129, 3) := by decide +kernel
theorem dX9_moved_5 : decode cX9_moved 5 = .ok (.ifCond .eq 26, 3) := by decide +kernel
theorem dX9_moved_8 : decode cX9_moved 8 = .ok (.iload_n 2, 1) := by decide +kernel
theorem dX9_moved_9 : decode cX9_moved 9 = .ok (.iconst 0, 1) := by decide +kernel
theorem dX9_moved_10 : decode cX9_moved 10 = .ok (.ldc 228, 2) := by decide +kernel
theorem dX9_moved_12 : decode cX9_moved 12 = .ok (.invokestatic 81, 3) := by decide +kernel
theorem dX9_moved_15 : decode cX9_moved 15 = .ok (.ifCond .eq 16, 3) := by decide +kernel
theorem dX9_moved_18 : decode cX9_moved 18 = .ok (.iload_n 3, 1) := by decide +kernel
theorem dX9_moved_19 : decode cX9_moved 19 = .ok (.iconst (-1), 1) := by decide +kernel
theorem dX9_moved_20 : decode cX9_moved 20 = .ok (.if_icmp .eq 13, 3) := by decide +kernel
theorem dX9_moved_23 : decode cX9_moved 23 = .ok (.aload_n 0, 1) := by decide +kernel
theorem dX9_moved_24 : decode cX9_moved 24 = .ok (.iload_n 3, 1) := by decide +kernel
theorem dX9_moved_25 : decode cX9_moved 25 = .ok (.invokevirtual 93, 3) := by decide +kernel
theorem dX9_moved_28 : decode cX9_moved 28 = .ok (.ifCond .ne 5, 3) := by decide +kernel
theorem dX9_moved_31 : decode cX9_moved 31 = .ok (.iconst (-1), 1) := by decide +kernel
theorem dX9_moved_32 : decode cX9_moved 32 = .ok (.ireturn, 1) := by decide +kernel
theorem dX9_moved_33 : decode cX9_moved 33 = .ok (.aload_n 0, 1) := by decide +kernel
theorem dX9_moved_34 : decode cX9_moved 34 = .ok (.getfield 41, 3) := by decide +kernel
theorem dX9_moved_37 : decode cX9_moved 37 = .ok (.iload_n 1, 1) := by decide +kernel
theorem dX9_moved_38 : decode cX9_moved 38 = .ok (.iload_n 2, 1) := by decide +kernel
theorem dX9_moved_39 : decode cX9_moved 39 = .ok (.invokevirtual 229, 3) := by decide +kernel
theorem dX9_moved_42 : decode cX9_moved 42 = .ok (.aload_n 0, 1) := by decide +kernel
theorem dX9_moved_43 : decode cX9_moved 43 = .ok (.getfield 41, 3) := by decide +kernel
theorem dX9_moved_46 : decode cX9_moved 46 = .ok (.invokevirtual 233, 3) := by decide +kernel
theorem dX9_moved_49 : decode cX9_moved 49 = .ok (.aload_n 0, 1) := by decide +kernel
theorem dX9_moved_50 : decode cX9_moved 50 = .ok (.getfield 41, 3) := by decide +kernel
theorem dX9_moved_53 : decode cX9_moved 53 = .ok (.getfield 234, 3) := by decide +kernel
theorem dX9_moved_56 : decode cX9_moved 56 = .ok (.ifCond .ne 6, 3) := by decide +kernel
theorem dX9_moved_59 : decode cX9_moved 59 = .ok (.bipush (-4), 2) := by decide +kernel
theorem dX9_moved_61 : decode cX9_moved 61 = .ok (.ireturn, 1) := by decide +kernel
theorem dX9_moved_62 : decode cX9_moved 62 = .ok (.iload_n 3, 1) := by decide +kernel
theorem dX9_moved_63 : decode cX9_moved 63 = .ok (.ifCond .ge 13, 3) := by decide +kernel
theorem dX9_moved_66 : decode cX9_moved 66 = .ok (.aload_n 0, 1) := by decide +kernel
theorem dX9_moved_67 : decode cX9_moved 67 = .ok (.getfield 41, 3) := by decide +kernel
theorem dX9_moved_70 : decode cX9_moved 70 = .ok (.getfield 235, 3) := by decide +kernel
theorem dX9_moved_73 : decode cX9_moved 73 = .ok (.goto 12, 3) := by decide +kernel
theorem dX9_moved_76 : decode cX9_moved 76 = .ok (.aload_n 0, 1) := by decide +kernel
theorem dX9_moved_77 : decode cX9_moved 77 = .ok (.getfield 41, 3) := by decide +kernel
theorem dX9_moved_80 : decode cX9_moved 80 = .ok (.getfield 238, 3) := by decide +kernel
theorem dX9_moved_83 : decode cX9_moved 83 = .ok (.iload_n 3, 1) := by decide +kernel
theorem dX9_moved_84 : decode cX9_moved 84 = .ok (.iaload, 1) := by decide +kernel
theorem dX9_moved_85 : decode cX9_moved 85 = .ok (.ireturn, 1) := by decide +kernel
theorem dX9_hands_0 : decode cX9_hands 0 = .ok (.iload_n 1, 1) := by decide +kernel
theorem dX9_hands_1 : decode cX9_hands 1 = .ok (.invokestatic 119, 3) := by decide +kernel
theorem dX9_hands_4 : decode cX9_hands 4 = .ok (.ifCond .eq 12, 3) := by decide +kernel
theorem dX9_hands_7 : decode cX9_hands 7 = .ok (.iload_n 2, 1) := by decide +kernel
theorem dX9_hands_8 : decode cX9_hands 8 = .ok (.iconst 0, 1) := by decide +kernel
theorem dX9_hands_9 : decode cX9_hands 9 = .ok (.iconst 1, 1) := by decide +kernel
theorem dX9_hands_10 : decode cX9_hands 10 = .ok (.invokestatic 81, 3) := by decide +kernel
theorem dX9_hands_13 : decode cX9_hands 13 = .ok (.ifCond .ne 5, 3) := by decide +kernel
theorem dX9_hands_16 : decode cX9_hands 16 = .ok (.iconst (-1), 1) := by decide +kernel
theorem dX9_hands_17 : decode cX9_hands 17 = .ok (.ireturn, 1) := by decide +kernel
theorem dX9_hands_18 : decode cX9_hands 18 = .ok (.aload_n 0, 1) := by decide +kernel
theorem dX9_hands_19 : decode cX9_hands 19 = .ok (.getfield 10, 3) := by decide +kernel
theorem dX9_hands_22 : decode cX9_hands 22 = .ok (.getfield 144, 3) := by decide +kernel
theorem dX9_hands_25 : decode cX9_hands 25 = .ok (.iconst 0, 1) := by decide +kernel
theorem dX9_hands_26 : decode cX9_hands 26 = .ok (.iaload, 1) := by decide +kernel
theorem dX9_hands_27 : decode cX9_hands 27 = .ok (.istore_n 3, 1) := by decide +kernel
theorem dX9_hands_28 : decode cX9_hands 28 = .ok (.iload_n 3, 1) := by decide +kernel
theorem dX9_hands_29 : decode cX9_hands 29 = .ok (.aload_n 0, 1) := by decide +kernel
theorem dX9_hands_30 : decode cX9_hands 30 = .ok (.getfield 10, 3) := by decide +kernel
theorem dX9_hands_33 : decode cX9_hands 33 = .ok (.getfield 144, 3) := by decide +kernel
theorem dX9_hands_36 : decode cX9_hands 36 = .ok (.iconst 1, 1) := by decide +kernel
theorem dX9_hands_37 : decode cX9_hands 37 = .ok (.iaload, 1) := by decide +kernel
theorem dX9_hands_38 : decode cX9_hands 38 = .ok (.iadd, 1) := by decide +kernel
theorem dX9_hands_39 : decode cX9_hands 39 = .ok (.istore 4, 2) := by decide +kernel
theorem dX9_hands_41 : decode cX9_hands 41 = .ok (.iconst 0, 1) := by decide +kernel
theorem dX9_hands_42 : decode cX9_hands 42 = .ok (.istore 5, 2) := by decide +kernel
theorem dX9_hands_44 : decode cX9_hands 44 = .ok (.iconst 0, 1) := by decide +kernel
theorem dX9_hands_45 : decode cX9_hands 45 = .ok (.istore 6, 2) := by decide +kernel
theorem dX9_hands_47 : decode cX9_hands 47 = .ok (.iload 6, 2) := by decide +kernel
theorem dX9_hands_49 : decode cX9_hands 49 = .ok (.aload_n 0, 1) := by decide +kernel
theorem dX9_hands_50 : decode cX9_hands 50 = .ok (.getfield 10, 3) := by decide +kernel
theorem dX9_hands_53 : decode cX9_hands 53 = .ok (.getfield 122, 3) := by decide +kernel
theorem dX9_hands_56 : decode cX9_hands 56 = .ok (.if_icmp .ge 61, 3) := by decide +kernel
theorem dX9_hands_59 : decode cX9_hands 59 = .ok (.aload_n 0, 1) := by decide +kernel
theorem dX9_hands_60 : decode cX9_hands 60 = .ok (.getfield 10, 3) := by decide +kernel
theorem dX9_hands_63 : decode cX9_hands 63 = .ok (.iload_n 1, 1) := by decide +kernel
theorem dX9_hands_64 : decode cX9_hands 64 = .ok (.iload 6, 2) := by decide +kernel
theorem dX9_hands_66 : decode cX9_hands 66 = .ok (.invokevirtual 180, 3) := by decide +kernel
theorem dX9_hands_69 : decode cX9_hands 69 = .ok (.aload_n 0, 1) := by decide +kernel
theorem dX9_hands_70 : decode cX9_hands 70 = .ok (.getfield 10, 3) := by decide +kernel
theorem dX9_hands_73 : decode cX9_hands 73 = .ok (.iload 6, 2) := by decide +kernel
theorem dX9_hands_75 : decode cX9_hands 75 = .ok (.invokevirtual 239, 3) := by decide +kernel
theorem dX9_hands_78 : decode cX9_hands 78 = .ok (.imul, 1) := by decide +kernel
theorem dX9_hands_79 : decode cX9_hands 79 = .ok (.istore 7, 2) := by decide +kernel
theorem dX9_hands_81 : decode cX9_hands 81 = .ok (.iload 5, 2) := by decide +kernel
theorem dX9_hands_83 : decode cX9_hands 83 = .ok (.iload 7, 2) := by decide +kernel
theorem dX9_hands_85 : decode cX9_hands 85 = .ok (.aload_n 0, 1) := by decide +kernel
theorem dX9_hands_86 : decode cX9_hands 86 = .ok (.getfield 10, 3) := by decide +kernel
theorem dX9_hands_89 : decode cX9_hands 89 = .ok (.getfield 132, 3) := by decide +kernel
theorem dX9_hands_92 : decode cX9_hands 92 = .ok (.iload 6, 2) := by decide +kernel
theorem dX9_hands_94 : decode cX9_hands 94 = .ok (.iaload, 1) := by decide +kernel
theorem dX9_hands_95 : decode cX9_hands 95 = .ok (.imul, 1) := by decide +kernel
theorem dX9_hands_96 : decode cX9_hands 96 = .ok (.iadd, 1) := by decide +kernel
theorem dX9_hands_97 : decode cX9_hands 97 = .ok (.istore 5, 2) := by decide +kernel
theorem dX9_hands_99 : decode cX9_hands 99 = .ok (.aload_n 0, 1) := by decide +kernel
theorem dX9_hands_100 : decode cX9_hands 100 = .ok (.getfield 73, 3) := by decide +kernel
theorem dX9_hands_103 : decode cX9_hands 103 = .ok (.iload 6, 2) := by decide +kernel
theorem dX9_hands_105 : decode cX9_hands 105 = .ok (.iload 7, 2) := by decide +kernel
theorem dX9_hands_107 : decode cX9_hands 107 = .ok (.iload 4, 2) := by decide +kernel
theorem dX9_hands_109 : decode cX9_hands 109 = .ok (.imul, 1) := by decide +kernel
theorem dX9_hands_110 : decode cX9_hands 110 = .ok (.iastore, 1) := by decide +kernel
theorem dX9_hands_111 : decode cX9_hands 111 = .ok (.iinc 6 1, 3) := by decide +kernel
theorem dX9_hands_114 : decode cX9_hands 114 = .ok (.goto (-67), 3) := by decide +kernel
theorem dX9_hands_117 : decode cX9_hands 117 = .ok (.iload 5, 2) := by decide +kernel
theorem dX9_hands_119 : decode cX9_hands 119 = .ok (.ifCond .ne 12, 3) := by decide +kernel
theorem dX9_hands_122 : decode cX9_hands 122 = .ok (.iconst 0, 1) := by decide +kernel
theorem dX9_hands_123 : decode cX9_hands 123 = .ok (.iconst 1, 1) := by decide +kernel
theorem dX9_hands_124 : decode cX9_hands 124 = .ok (.iload_n 2, 1) := by decide +kernel
theorem dX9_hands_125 : decode cX9_hands 125 = .ok (.invokestatic 242, 3) := by decide +kernel
theorem dX9_hands_128 : decode cX9_hands 128 = .ok (.goto 12, 3) := by decide +kernel
theorem dX9_hands_131 : decode cX9_hands 131 = .ok (.aload_n 0, 1) := by decide +kernel
theorem dX9_hands_132 : decode cX9_hands 132 = .ok (.iload_n 3, 1) := by decide +kernel
theorem dX9_hands_133 : decode cX9_hands 133 = .ok (.iload 5, 2) := by decide +kernel
theorem dX9_hands_135 : decode cX9_hands 135 = .ok (.imul, 1) := by decide +kernel
theorem dX9_hands_136 : decode cX9_hands 136 = .ok (.iload_n 2, 1) := by decide +kernel
theorem dX9_hands_137 : decode cX9_hands 137 = .ok (.invokevirtual 245, 3) := by decide +kernel
theorem dX9_hands_140 : decode cX9_hands 140 = .ok (.ireturn, 1) := by decide +kernel
theorem dX9_buying_0 : decode cX9_buying 0 = .ok (.iload_n 1, 1) := by decide +kernel
theorem dX9_buying_1 : decode cX9_buying 1 = .ok (.iconst (-1), 1) := by decide +kernel
theorem dX9_buying_2 : decode cX9_buying 2 = .ok (.if_icmp .eq 13, 3) := by decide +kernel
theorem dX9_buying_5 : decode cX9_buying 5 = .ok (.aload_n 0, 1) := by decide +kernel
theorem dX9_buying_6 : decode cX9_buying 6 = .ok (.iload_n 1, 1) := by decide +kernel
theorem dX9_buying_7 : decode cX9_buying 7 = .ok (.invokevirtual 93, 3) := by decide +kernel
theorem dX9_buying_10 : decode cX9_buying 10 = .ok (.ifCond .ne 5, 3) := by decide +kernel
theorem dX9_buying_13 : decode cX9_buying 13 = .ok (.iconst (-1), 1) := by decide +kernel
theorem dX9_buying_14 : decode cX9_buying 14 = .ok (.ireturn, 1) := by decide +kernel
theorem dX9_buying_15 : decode cX9_buying 15 = .ok (.aload_n 0, 1) := by decide +kernel
theorem dX9_buying_16 : decode cX9_buying 16 = .ok (.getfield 55, 3) := by decide +kernel
theorem dX9_buying_19 : decode cX9_buying 19 = .ok (.invokevirtual 248, 3) := by decide +kernel
theorem dX9_buying_22 : decode cX9_buying 22 = .ok (.iload_n 1, 1) := by decide +kernel
theorem dX9_buying_23 : decode cX9_buying 23 = .ok (.ifCond .ge 13, 3) := by decide +kernel
theorem dX9_buying_26 : decode cX9_buying 26 = .ok (.aload_n 0, 1) := by decide +kernel
theorem dX9_buying_27 : decode cX9_buying 27 = .ok (.getfield 55, 3) := by decide +kernel
theorem dX9_buying_30 : decode cX9_buying 30 = .ok (.getfield 249, 3) := by decide +kernel
theorem dX9_buying_33 : decode cX9_buying 33 = .ok (.goto 12, 3) := by decide +kernel
theorem dX9_buying_36 : decode cX9_buying 36 = .ok (.aload_n 0, 1) := by decide +kernel
theorem dX9_buying_37 : decode cX9_buying 37 = .ok (.getfield 55, 3) := by decide +kernel
theorem dX9_buying_40 : decode cX9_buying 40 = .ok (.getfield 252, 3) := by decide +kernel
theorem dX9_buying_43 : decode cX9_buying 43 = .ok (.iload_n 1, 1) := by decide +kernel
theorem dX9_buying_44 : decode cX9_buying 44 = .ok (.iaload, 1) := by decide +kernel
theorem dX9_buying_45 : decode cX9_buying 45 = .ok (.ireturn, 1) := by decide +kernel
theorem dX9_paper_0 : decode cX9_paper 0 = .ok (.iload_n 1, 1) := by decide +kernel
theorem dX9_paper_1 : decode cX9_paper 1 = .ok (.invokestatic 119, 3) := by decide +kernel
theorem dX9_paper_4 : decode cX9_paper 4 = .ok (.ifCond .eq 12, 3) := by decide +kernel
theorem dX9_paper_7 : decode cX9_paper 7 = .ok (.iload_n 2, 1) := by decide +kernel
theorem dX9_paper_8 : decode cX9_paper 8 = .ok (.iconst 0, 1) := by decide +kernel
theorem dX9_paper_9 : decode cX9_paper 9 = .ok (.iconst 1, 1) := by decide +kernel
theorem dX9_paper_10 : decode cX9_paper 10 = .ok (.invokestatic 81, 3) := by decide +kernel
theorem dX9_paper_13 : decode cX9_paper 13 = .ok (.ifCond .ne 5, 3) := by decide +kernel
theorem dX9_paper_16 : decode cX9_paper 16 = .ok (.iconst (-1), 1) := by decide +kernel
theorem dX9_paper_17 : decode cX9_paper 17 = .ok (.ireturn, 1) := by decide +kernel
theorem dX9_paper_18 : decode cX9_paper 18 = .ok (.aload_n 0, 1) := by decide +kernel
theorem dX9_paper_19 : decode cX9_paper 19 = .ok (.getfield 10, 3) := by decide +kernel
theorem dX9_paper_22 : decode cX9_paper 22 = .ok (.getfield 141, 3) := by decide +kernel
theorem dX9_paper_25 : decode cX9_paper 25 = .ok (.iload_n 1, 1) := by decide +kernel
theorem dX9_paper_26 : decode cX9_paper 26 = .ok (.iaload, 1) := by decide +kernel
theorem dX9_paper_27 : decode cX9_paper 27 = .ok (.ifCond .ne 6, 3) := by decide +kernel
theorem dX9_paper_30 : decode cX9_paper 30 = .ok (.bipush (-4), 2) := by decide +kernel
theorem dX9_paper_32 : decode cX9_paper 32 = .ok (.ireturn, 1) := by decide +kernel
theorem dX9_paper_33 : decode cX9_paper 33 = .ok (.iconst 0, 1) := by decide +kernel
theorem dX9_paper_34 : decode cX9_paper 34 = .ok (.istore_n 3, 1) := by decide +kernel
theorem dX9_paper_35 : decode cX9_paper 35 = .ok (.iload_n 3, 1) := by decide +kernel
theorem dX9_paper_36 : decode cX9_paper 36 = .ok (.aload_n 0, 1) := by decide +kernel
theorem dX9_paper_37 : decode cX9_paper 37 = .ok (.getfield 10, 3) := by decide +kernel
theorem dX9_paper_40 : decode cX9_paper 40 = .ok (.getfield 122, 3) := by decide +kernel
theorem dX9_paper_43 : decode cX9_paper 43 = .ok (.if_icmp .ge 24, 3) := by decide +kernel
theorem dX9_paper_46 : decode cX9_paper 46 = .ok (.aload_n 0, 1) := by decide +kernel
theorem dX9_paper_47 : decode cX9_paper 47 = .ok (.getfield 73, 3) := by decide +kernel
theorem dX9_paper_50 : decode cX9_paper 50 = .ok (.iload_n 3, 1) := by decide +kernel
theorem dX9_paper_51 : decode cX9_paper 51 = .ok (.aload_n 0, 1) := by decide +kernel
theorem dX9_paper_52 : decode cX9_paper 52 = .ok (.getfield 10, 3) := by decide +kernel
theorem dX9_paper_55 : decode cX9_paper 55 = .ok (.iload_n 1, 1) := by decide +kernel
theorem dX9_paper_56 : decode cX9_paper 56 = .ok (.iload_n 3, 1) := by decide +kernel
theorem dX9_paper_57 : decode cX9_paper 57 = .ok (.invokevirtual 255, 3) := by decide +kernel
theorem dX9_paper_60 : decode cX9_paper 60 = .ok (.iastore, 1) := by decide +kernel
theorem dX9_paper_61 : decode cX9_paper 61 = .ok (.iinc 3 1, 3) := by decide +kernel
theorem dX9_paper_64 : decode cX9_paper 64 = .ok (.goto (-29), 3) := by decide +kernel
theorem dX9_paper_67 : decode cX9_paper 67 = .ok (.aload_n 0, 1) := by decide +kernel
theorem dX9_paper_68 : decode cX9_paper 68 = .ok (.aload_n 0, 1) := by decide +kernel
theorem dX9_paper_69 : decode cX9_paper 69 = .ok (.getfield 10, 3) := by decide +kernel
theorem dX9_paper_72 : decode cX9_paper 72 = .ok (.getfield 141, 3) := by decide +kernel
theorem dX9_paper_75 : decode cX9_paper 75 = .ok (.iload_n 1, 1) := by decide +kernel
theorem dX9_paper_76 : decode cX9_paper 76 = .ok (.iaload, 1) := by decide +kernel
theorem dX9_paper_77 : decode cX9_paper 77 = .ok (.iload_n 2, 1) := by decide +kernel
theorem dX9_paper_78 : decode cX9_paper 78 = .ok (.invokevirtual 245, 3) := by decide +kernel
theorem dX9_paper_81 : decode cX9_paper 81 = .ok (.ireturn, 1) := by decide +kernel
theorem dX9_pole_0 : decode cX9_pole 0 = .ok (.aload_n 0, 1) := by decide +kernel
theorem dX9_pole_1 : decode cX9_pole 1 = .ok (.iload_n 1, 1) := by decide +kernel
theorem dX9_pole_2 : decode cX9_pole 2 = .ok (.invokevirtual 93, 3) := by decide +kernel
theorem dX9_pole_5 : decode cX9_pole 5 = .ok (.ifCond .eq 37, 3) := by decide +kernel
theorem dX9_pole_8 : decode cX9_pole 8 = .ok (.aload_n 0, 1) := by decide +kernel
theorem dX9_pole_9 : decode cX9_pole 9 = .ok (.iload_n 2, 1) := by decide +kernel
theorem dX9_pole_10 : decode cX9_pole 10 = .ok (.invokevirtual 93, 3) := by decide +kernel
theorem dX9_pole_13 : decode cX9_pole 13 = .ok (.ifCond .eq 29, 3) := by decide +kernel
theorem dX9_pole_16 : decode cX9_pole 16 = .ok (.iload_n 1, 1) := by decide +kernel
theorem dX9_pole_17 : decode cX9_pole 17 = .ok (.iload_n 2, 1) := by decide +kernel
theorem dX9_pole_18 : decode cX9_pole 18 = .ok (.if_icmp .eq 24, 3) := by decide +kernel
theorem dX9_pole_21 : decode cX9_pole 21 = .ok (.iload_n 3, 1) := by decide +kernel
theorem dX9_pole_22 : decode cX9_pole 22 = .ok (.iconst 1, 1) := by decide +kernel
theorem dX9_pole_23 : decode cX9_pole 23 = .ok (.sipush 999, 3) := by decide +kernel
theorem dX9_pole_26 : decode cX9_pole 26 = .ok (.invokestatic 81, 3) := by decide +kernel
theorem dX9_pole_29 : decode cX9_pole 29 = .ok (.ifCond .eq 13, 3) := by decide +kernel
theorem dX9_pole_32 : decode cX9_pole 32 = .ok (.iload 4, 2) := by decide +kernel
theorem dX9_pole_34 : decode cX9_pole 34 = .ok (.iconst 0, 1) := by decide +kernel
theorem dX9_pole_35 : decode cX9_pole 35 = .ok (.iconst 1, 1) := by decide +kernel
theorem dX9_pole_36 : decode cX9_pole 36 = .ok (.invokestatic 81, 3) := by decide +kernel
theorem dX9_pole_39 : decode cX9_pole 39 = .ok (.ifCond .ne 5, 3) := by decide +kernel
theorem dX9_pole_42 : decode cX9_pole 42 = .ok (.iconst (-1), 1) := by decide +kernel
theorem dX9_pole_43 : decode cX9_pole 43 = .ok (.ireturn, 1) := by decide +kernel
theorem dX9_pole_44 : decode cX9_pole 44 = .ok (.aload_n 0, 1) := by decide +kernel
theorem dX9_pole_45 : decode cX9_pole 45 = .ok (.getfield 10, 3) := by decide +kernel
theorem dX9_pole_48 : decode cX9_pole 48 = .ok (.getfield 100, 3) := by decide +kernel
theorem dX9_pole_51 : decode cX9_pole 51 = .ok (.iload_n 1, 1) := by decide +kernel
theorem dX9_pole_52 : decode cX9_pole 52 = .ok (.iaload, 1) := by decide +kernel
theorem dX9_pole_53 : decode cX9_pole 53 = .ok (.aload_n 0, 1) := by decide +kernel
theorem dX9_pole_54 : decode cX9_pole 54 = .ok (.getfield 10, 3) := by decide +kernel
theorem dX9_pole_57 : decode cX9_pole 57 = .ok (.getfield 100, 3) := by decide +kernel
theorem dX9_pole_60 : decode cX9_pole 60 = .ok (.iload_n 2, 1) := by decide +kernel
theorem dX9_pole_61 : decode cX9_pole 61 = .ok (.iaload, 1) := by decide +kernel
theorem dX9_pole_62 : decode cX9_pole 62 = .ok (.iload_n 3, 1) := by decide +kernel
theorem dX9_pole_63 : decode cX9_pole 63 = .ok (.iload 4, 2) := by decide +kernel
theorem dX9_pole_65 : decode cX9_pole 65 = .ok (.invokestatic 258, 3) := by decide +kernel
theorem dX9_pole_68 : decode cX9_pole 68 = .ok (.ireturn, 1) := by decide +kernel
theorem dX9_bar_0 : decode cX9_bar 0 = .ok (.aload_n 0, 1) := by decide +kernel
theorem dX9_bar_1 : decode cX9_bar 1 = .ok (.iload_n 1, 1) := by decide +kernel
theorem dX9_bar_2 : decode cX9_bar 2 = .ok (.invokevirtual 262, 3) := by decide +kernel
theorem dX9_bar_5 : decode cX9_bar 5 = .ok (.ifCond .eq 16, 3) := by decide +kernel
theorem dX9_bar_8 : decode cX9_bar 8 = .ok (.aload_n 0, 1) := by decide +kernel
theorem dX9_bar_9 : decode cX9_bar 9 = .ok (.iload_n 2, 1) := by decide +kernel
theorem dX9_bar_10 : decode cX9_bar 10 = .ok (.invokevirtual 262, 3) := by decide +kernel
theorem dX9_bar_13 : decode cX9_bar 13 = .ok (.ifCond .eq 8, 3) := by decide +kernel
theorem dX9_bar_16 : decode cX9_bar 16 = .ok (.iload_n 1, 1) := by decide +kernel
theorem dX9_bar_17 : decode cX9_bar 17 = .ok (.iload_n 2, 1) := by decide +kernel
theorem dX9_bar_18 : decode cX9_bar 18 = .ok (.if_icmp .ne 5, 3) := by decide +kernel
theorem dX9_bar_21 : decode cX9_bar 21 = .ok (.iconst (-1), 1) := by decide +kernel
theorem dX9_bar_22 : decode cX9_bar 22 = .ok (.ireturn, 1) := by decide +kernel
theorem dX9_bar_23 : decode cX9_bar 23 = .ok (.aload_n 0, 1) := by decide +kernel
theorem dX9_bar_24 : decode cX9_bar 24 = .ok (.getfield 10, 3) := by decide +kernel
theorem dX9_bar_27 : decode cX9_bar 27 = .ok (.iload_n 1, 1) := by decide +kernel
theorem dX9_bar_28 : decode cX9_bar 28 = .ok (.invokevirtual 112, 3) := by decide +kernel
theorem dX9_bar_31 : decode cX9_bar 31 = .ok (.ifCond .ne 14, 3) := by decide +kernel
theorem dX9_bar_34 : decode cX9_bar 34 = .ok (.aload_n 0, 1) := by decide +kernel
theorem dX9_bar_35 : decode cX9_bar 35 = .ok (.getfield 10, 3) := by decide +kernel
theorem dX9_bar_38 : decode cX9_bar 38 = .ok (.iload_n 2, 1) := by decide +kernel
theorem dX9_bar_39 : decode cX9_bar 39 = .ok (.invokevirtual 112, 3) := by decide +kernel
theorem dX9_bar_42 : decode cX9_bar 42 = .ok (.ifCond .eq 6, 3) := by decide +kernel
theorem dX9_bar_45 : decode cX9_bar 45 = .ok (.bipush (-2), 2) := by decide +kernel
theorem dX9_bar_47 : decode cX9_bar 47 = .ok (.ireturn, 1) := by decide +kernel
theorem dX9_bar_48 : decode cX9_bar 48 = .ok (.aload_n 0, 1) := by decide +kernel
theorem dX9_bar_49 : decode cX9_bar 49 = .ok (.getfield 10, 3) := by decide +kernel
theorem dX9_bar_52 : decode cX9_bar 52 = .ok (.getfield 174, 3) := by decide +kernel
theorem dX9_bar_55 : decode cX9_bar 55 = .ok (.bipush 6, 2) := by decide +kernel
theorem dX9_bar_57 : decode cX9_bar 57 = .ok (.if_icmp .ge 15, 3) := by decide +kernel
theorem dX9_bar_60 : decode cX9_bar 60 = .ok (.aload_n 0, 1) := by decide +kernel
theorem dX9_bar_61 : decode cX9_bar 61 = .ok (.getfield 10, 3) := by decide +kernel
theorem dX9_bar_64 : decode cX9_bar 64 = .ok (.iload_n 1, 1) := by decide +kernel
theorem dX9_bar_65 : decode cX9_bar 65 = .ok (.iload_n 2, 1) := by decide +kernel
theorem dX9_bar_66 : decode cX9_bar 66 = .ok (.invokevirtual 265, 3) := by decide +kernel
theorem dX9_bar_69 : decode cX9_bar 69 = .ok (.goto 5, 3) := by decide +kernel
theorem dX9_bar_72 : decode cX9_bar 72 = .ok (.bipush (-3), 2) := by decide +kernel
theorem dX9_bar_74 : decode cX9_bar 74 = .ok (.ireturn, 1) := by decide +kernel
theorem dX9_hung_0 : decode cX9_hung 0 = .ok (.iload_n 1, 1) := by decide +kernel
theorem dX9_hung_1 : decode cX9_hung 1 = .ok (.iconst 0, 1) := by decide +kernel
theorem dX9_hung_2 : decode cX9_hung 2 = .ok (.aload_n 0, 1) := by decide +kernel
theorem dX9_hung_3 : decode cX9_hung 3 = .ok (.getfield 10, 3) := by decide +kernel
theorem dX9_hung_6 : decode cX9_hung 6 = .ok (.getfield 174, 3) := by decide +kernel
theorem dX9_hung_9 : decode cX9_hung 9 = .ok (.iconst 1, 1) := by decide +kernel
theorem dX9_hung_10 : decode cX9_hung 10 = .ok (.isub, 1) := by decide +kernel
theorem dX9_hung_11 : decode cX9_hung 11 = .ok (.invokestatic 81, 3) := by decide +kernel
theorem dX9_hung_14 : decode cX9_hung 14 = .ok (.ifCond .eq 12, 3) := by decide +kernel
theorem dX9_hung_17 : decode cX9_hung 17 = .ok (.iload_n 2, 1) := by decide +kernel
theorem dX9_hung_18 : decode cX9_hung 18 = .ok (.iconst 0, 1) := by decide +kernel
theorem dX9_hung_19 : decode cX9_hung 19 = .ok (.iconst 2, 1) := by decide +kernel
theorem dX9_hung_20 : decode cX9_hung 20 = .ok (.invokestatic 81, 3) := by decide +kernel
theorem dX9_hung_23 : decode cX9_hung 23 = .ok (.ifCond .ne 5, 3) := by decide +kernel
theorem dX9_hung_26 : decode cX9_hung 26 = .ok (.iconst (-1), 1) := by decide +kernel
theorem dX9_hung_27 : decode cX9_hung 27 = .ok (.ireturn, 1) := by decide +kernel
theorem dX9_hung_28 : decode cX9_hung 28 = .ok (.aload_n 0, 1) := by decide +kernel
theorem dX9_hung_29 : decode cX9_hung 29 = .ok (.getfield 10, 3) := by decide +kernel
theorem dX9_hung_32 : decode cX9_hung 32 = .ok (.aload_n 0, 1) := by decide +kernel
theorem dX9_hung_33 : decode cX9_hung 33 = .ok (.getfield 10, 3) := by decide +kernel
theorem dX9_hung_36 : decode cX9_hung 36 = .ok (.getfield 268, 3) := by decide +kernel
theorem dX9_hung_39 : decode cX9_hung 39 = .ok (.iload_n 1, 1) := by decide +kernel
theorem dX9_hung_40 : decode cX9_hung 40 = .ok (.iaload, 1) := by decide +kernel
theorem dX9_hung_41 : decode cX9_hung 41 = .ok (.invokevirtual 271, 3) := by decide +kernel
theorem dX9_hung_44 : decode cX9_hung 44 = .ok (.istore_n 3, 1) := by decide +kernel
theorem dX9_hung_45 : decode cX9_hung 45 = .ok (.aload_n 0, 1) := by decide +kernel
theorem dX9_hung_46 : decode cX9_hung 46 = .ok (.getfield 10, 3) := by decide +kernel
theorem dX9_hung_49 : decode cX9_hung 49 = .ok (.aload_n 0, 1) := by decide +kernel
theorem dX9_hung_50 : decode cX9_hung 50 = .ok (.getfield 10, 3) := by decide +kernel
theorem dX9_hung_53 : decode cX9_hung 53 = .ok (.getfield 274, 3) := by decide +kernel
theorem dX9_hung_56 : decode cX9_hung 56 = .ok (.iload_n 1, 1) := by decide +kernel
theorem dX9_hung_57 : decode cX9_hung 57 = .ok (.iaload, 1) := by decide +kernel
theorem dX9_hung_58 : decode cX9_hung 58 = .ok (.invokevirtual 271, 3) := by decide +kernel
theorem dX9_hung_61 : decode cX9_hung 61 = .ok (.istore 4, 2) := by decide +kernel
theorem dX9_hung_63 : decode cX9_hung 63 = .ok (.iload_n 2, 1) := by decide +kernel
theorem dX9_hung_64 : decode cX9_hung 64 = .ok (.iconst 2, 1) := by decide +kernel
theorem dX9_hung_65 : decode cX9_hung 65 = .ok (.if_icmp .ne 10, 3) := by decide +kernel
theorem dX9_hung_68 : decode cX9_hung 68 = .ok (.iload_n 3, 1) := by decide +kernel
theorem dX9_hung_69 : decode cX9_hung 69 = .ok (.iload 4, 2) := by decide +kernel
theorem dX9_hung_71 : decode cX9_hung 71 = .ok (.iadd, 1) := by decide +kernel
theorem dX9_hung_72 : decode cX9_hung 72 = .ok (.goto 12, 3) := by decide +kernel
theorem dX9_hung_75 : decode cX9_hung 75 = .ok (.iload_n 3, 1) := by decide +kernel
theorem dX9_hung_76 : decode cX9_hung 76 = .ok (.iload 4, 2) := by decide +kernel
theorem dX9_hung_78 : decode cX9_hung 78 = .ok (.bipush 60, 2) := by decide +kernel
theorem dX9_hung_80 : decode cX9_hung 80 = .ok (.iload_n 2, 1) := by decide +kernel
theorem dX9_hung_81 : decode cX9_hung 81 = .ok (.invokestatic 258, 3) := by decide +kernel
theorem dX9_hung_84 : decode cX9_hung 84 = .ok (.ireturn, 1) := by decide +kernel
theorem dX9_image_0 : decode cX9_image 0 = .ok (.aload_n 0, 1) := by decide +kernel
theorem dX9_image_1 : decode cX9_image 1 = .ok (.getfield 16, 3) := by decide +kernel
theorem dX9_image_4 : decode cX9_image 4 = .ok (.aload_n 0, 1) := by decide +kernel
theorem dX9_image_5 : decode cX9_image 5 = .ok (.getfield 10, 3) := by decide +kernel
theorem dX9_image_8 : decode cX9_image 8 = .ok (.invokevirtual 277, 3) := by decide +kernel
theorem dX9_image_11 : decode cX9_image 11 = .ok (.aload_n 0, 1) := by decide +kernel
theorem dX9_image_12 : decode cX9_image 12 = .ok (.iconst 1, 1) := by decide +kernel
theorem dX9_image_13 : decode cX9_image 13 = .ok (.putfield 77, 3) := by decide +kernel
theorem dX9_image_16 : decode cX9_image 16 = .ok (.iconst 1, 1) := by decide +kernel
theorem dX9_image_17 : decode cX9_image 17 = .ok (.ireturn, 1) := by decide +kernel
theorem dX9_restore_0 : decode cX9_restore 0 = .ok (.aload_n 0, 1) := by decide +kernel
theorem dX9_restore_1 : decode cX9_restore 1 = .ok (.getfield 77, 3) := by decide +kernel
theorem dX9_restore_4 : decode cX9_restore 4 = .ok (.ifCond .ne 6, 3) := by decide +kernel
theorem dX9_restore_7 : decode cX9_restore 7 = .ok (.bipush (-4), 2) := by decide +kernel
theorem dX9_restore_9 : decode cX9_restore 9 = .ok (.ireturn, 1) := by decide +kernel
theorem dX9_restore_10 : decode cX9_restore 10 = .ok (.aload_n 0, 1) := by decide +kernel
theorem dX9_restore_11 : decode cX9_restore 11 = .ok (.getfield 10, 3) := by decide +kernel
theorem dX9_restore_14 : decode cX9_restore 14 = .ok (.aload_n 0, 1) := by decide +kernel
theorem dX9_restore_15 : decode cX9_restore 15 = .ok (.getfield 16, 3) := by decide +kernel
theorem dX9_restore_18 : decode cX9_restore 18 = .ok (.invokevirtual 277, 3) := by decide +kernel
theorem dX9_restore_21 : decode cX9_restore 21 = .ok (.iconst 1, 1) := by decide +kernel
theorem dX9_restore_22 : decode cX9_restore 22 = .ok (.ireturn, 1) := by decide +kernel
theorem dX9_tray_0 : decode cX9_tray 0 = .ok (.iload 4, 2) := by decide +kernel
theorem dX9_tray_2 : decode cX9_tray 2 = .ok (.iconst 0, 1) := by decide +kernel
theorem dX9_tray_3 : decode cX9_tray 3 = .ok (.sipush 9999, 3) := by decide +kernel
theorem dX9_tray_6 : decode cX9_tray 6 = .ok (.invokestatic 81, 3) := by decide +kernel
theorem dX9_tray_9 : decode cX9_tray 9 = .ok (.ifCond .eq 13, 3) := by decide +kernel
theorem dX9_tray_12 : decode cX9_tray 12 = .ok (.iload 5, 2) := by decide +kernel
theorem dX9_tray_14 : decode cX9_tray 14 = .ok (.iconst 0, 1) := by decide +kernel
theorem dX9_tray_15 : decode cX9_tray 15 = .ok (.iconst 2, 1) := by decide +kernel
theorem dX9_tray_16 : decode cX9_tray 16 = .ok (.invokestatic 81, 3) := by decide +kernel
theorem dX9_tray_19 : decode cX9_tray 19 = .ok (.ifCond .ne 5, 3) := by decide +kernel
theorem dX9_tray_22 : decode cX9_tray 22 = .ok (.iconst (-1), 1) := by decide +kernel
theorem dX9_tray_23 : decode cX9_tray 23 = .ok (.ireturn, 1) := by decide +kernel
theorem dX9_tray_24 : decode cX9_tray 24 = .ok (.aload_n 0, 1) := by decide +kernel
theorem dX9_tray_25 : decode cX9_tray 25 = .ok (.iload_n 1, 1) := by decide +kernel
theorem dX9_tray_26 : decode cX9_tray 26 = .ok (.iload_n 2, 1) := by decide +kernel
theorem dX9_tray_27 : decode cX9_tray 27 = .ok (.iload_n 3, 1) := by decide +kernel
theorem dX9_tray_28 : decode cX9_tray 28 = .ok (.bipush 8, 2) := by decide +kernel
theorem dX9_tray_30 : decode cX9_tray 30 = .ok (.invokevirtual 280, 3) := by decide +kernel
theorem dX9_tray_33 : decode cX9_tray 33 = .ok (.istore 6, 2) := by decide +kernel
theorem dX9_tray_35 : decode cX9_tray 35 = .ok (.iload 6, 2) := by decide +kernel
theorem dX9_tray_37 : decode cX9_tray 37 = .ok (.ifCond .ge 6, 3) := by decide +kernel
theorem dX9_tray_40 : decode cX9_tray 40 = .ok (.iload 6, 2) := by decide +kernel
theorem dX9_tray_42 : decode cX9_tray 42 = .ok (.ireturn, 1) := by decide +kernel
theorem dX9_tray_43 : decode cX9_tray 43 = .ok (.aload_n 0, 1) := by decide +kernel
theorem dX9_tray_44 : decode cX9_tray 44 = .ok (.getfield 62, 3) := by decide +kernel
theorem dX9_tray_47 : decode cX9_tray 47 = .ok (.aload_n 0, 1) := by decide +kernel
theorem dX9_tray_48 : decode cX9_tray 48 = .ok (.getfield 69, 3) := by decide +kernel
theorem dX9_tray_51 : decode cX9_tray 51 = .ok (.iload_n 1, 1) := by decide +kernel
theorem dX9_tray_52 : decode cX9_tray 52 = .ok (.aaload, 1) := by decide +kernel
theorem dX9_tray_53 : decode cX9_tray 53 = .ok (.iload_n 3, 1) := by decide +kernel
theorem dX9_tray_54 : decode cX9_tray 54 = .ok (.invokevirtual 283, 3) := by decide +kernel
theorem dX9_tray_57 : decode cX9_tray 57 = .ok (.ifCond .ne 6, 3) := by decide +kernel
theorem dX9_tray_60 : decode cX9_tray 60 = .ok (.bipush (-2), 2) := by decide +kernel
theorem dX9_tray_62 : decode cX9_tray 62 = .ok (.ireturn, 1) := by decide +kernel
theorem dX9_tray_63 : decode cX9_tray 63 = .ok (.iload 5, 2) := by decide +kernel
theorem dX9_tray_65 : decode cX9_tray 65 = .ok (.lookupswitch 62 #[(0, 27), (1, 52)], 27) := by decide +kernel
theorem dX9_tray_92 : decode cX9_tray 92 = .ok (.aload_n 0, 1) := by decide +kernel
theorem dX9_tray_93 : decode cX9_tray 93 = .ok (.getfield 62, 3) := by decide +kernel
theorem dX9_tray_96 : decode cX9_tray 96 = .ok (.aload_n 0, 1) := by decide +kernel
theorem dX9_tray_97 : decode cX9_tray 97 = .ok (.getfield 62, 3) := by decide +kernel
theorem dX9_tray_100 : decode cX9_tray 100 = .ok (.getfield 287, 3) := by decide +kernel
theorem dX9_tray_103 : decode cX9_tray 103 = .ok (.iload 4, 2) := by decide +kernel
theorem dX9_tray_105 : decode cX9_tray 105 = .ok (.invokevirtual 290, 3) := by decide +kernel
theorem dX9_tray_108 : decode cX9_tray 108 = .ok (.ifCond .eq 7, 3) := by decide +kernel
theorem dX9_tray_111 : decode cX9_tray 111 = .ok (.iconst 1, 1) := by decide +kernel
theorem dX9_tray_112 : decode cX9_tray 112 = .ok (.goto 4, 3) := by decide +kernel
theorem dX9_tray_115 : decode cX9_tray 115 = .ok (.iconst 0, 1) := by decide +kernel
theorem dX9_tray_116 : decode cX9_tray 116 = .ok (.ireturn, 1) := by decide +kernel
theorem dX9_tray_117 : decode cX9_tray 117 = .ok (.aload_n 0, 1) := by decide +kernel
theorem dX9_tray_118 : decode cX9_tray 118 = .ok (.getfield 62, 3) := by decide +kernel
theorem dX9_tray_121 : decode cX9_tray 121 = .ok (.iload 4, 2) := by decide +kernel
theorem dX9_tray_123 : decode cX9_tray 123 = .ok (.invokevirtual 293, 3) := by decide +kernel
theorem dX9_tray_126 : decode cX9_tray 126 = .ok (.ireturn, 1) := by decide +kernel
theorem dX9_tray_127 : decode cX9_tray 127 = .ok (.aload_n 0, 1) := by decide +kernel
theorem dX9_tray_128 : decode cX9_tray 128 = .ok (.getfield 62, 3) := by decide +kernel
theorem dX9_tray_131 : decode cX9_tray 131 = .ok (.iload 4, 2) := by decide +kernel
theorem dX9_tray_133 : decode cX9_tray 133 = .ok (.invokevirtual 296, 3) := by decide +kernel
theorem dX9_tray_136 : decode cX9_tray 136 = .ok (.ireturn, 1) := by decide +kernel
theorem dX9_pulled_0 : decode cX9_pulled 0 = .ok (.iload 4, 2) := by decide +kernel
theorem dX9_pulled_2 : decode cX9_pulled 2 = .ok (.iconst 0, 1) := by decide +kernel
theorem dX9_pulled_3 : decode cX9_pulled 3 = .ok (.iconst 2, 1) := by decide +kernel
theorem dX9_pulled_4 : decode cX9_pulled 4 = .ok (.invokestatic 81, 3) := by decide +kernel
theorem dX9_pulled_7 : decode cX9_pulled 7 = .ok (.ifCond .ne 5, 3) := by decide +kernel
theorem dX9_pulled_10 : decode cX9_pulled 10 = .ok (.iconst (-1), 1) := by decide +kernel
theorem dX9_pulled_11 : decode cX9_pulled 11 = .ok (.ireturn, 1) := by decide +kernel
theorem dX9_pulled_12 : decode cX9_pulled 12 = .ok (.aload_n 0, 1) := by decide +kernel
theorem dX9_pulled_13 : decode cX9_pulled 13 = .ok (.iload_n 1, 1) := by decide +kernel
theorem dX9_pulled_14 : decode cX9_pulled 14 = .ok (.iload_n 2, 1) := by decide +kernel
theorem dX9_pulled_15 : decode cX9_pulled 15 = .ok (.iload_n 3, 1) := by decide +kernel
theorem dX9_pulled_16 : decode cX9_pulled 16 = .ok (.aload_n 0, 1) := by decide +kernel
theorem dX9_pulled_17 : decode cX9_pulled 17 = .ok (.getfield 10, 3) := by decide +kernel
theorem dX9_pulled_20 : decode cX9_pulled 20 = .ok (.getfield 122, 3) := by decide +kernel
theorem dX9_pulled_23 : decode cX9_pulled 23 = .ok (.invokevirtual 280, 3) := by decide +kernel
theorem dX9_pulled_26 : decode cX9_pulled 26 = .ok (.istore 5, 2) := by decide +kernel
theorem dX9_pulled_28 : decode cX9_pulled 28 = .ok (.iload 5, 2) := by decide +kernel
theorem dX9_pulled_30 : decode cX9_pulled 30 = .ok (.ifCond .ge 6, 3) := by decide +kernel
theorem dX9_pulled_33 : decode cX9_pulled 33 = .ok (.iload 5, 2) := by decide +kernel
theorem dX9_pulled_35 : decode cX9_pulled 35 = .ok (.ireturn, 1) := by decide +kernel
theorem dX9_pulled_36 : decode cX9_pulled 36 = .ok (.iconst 0, 1) := by decide +kernel
theorem dX9_pulled_37 : decode cX9_pulled 37 = .ok (.istore 6, 2) := by decide +kernel
theorem dX9_pulled_39 : decode cX9_pulled 39 = .ok (.iload 6, 2) := by decide +kernel
theorem dX9_pulled_41 : decode cX9_pulled 41 = .ok (.aload_n 0, 1) := by decide +kernel
theorem dX9_pulled_42 : decode cX9_pulled 42 = .ok (.getfield 10, 3) := by decide +kernel
theorem dX9_pulled_45 : decode cX9_pulled 45 = .ok (.getfield 122, 3) := by decide +kernel
theorem dX9_pulled_48 : decode cX9_pulled 48 = .ok (.if_icmp .ge 32, 3) := by decide +kernel
theorem dX9_pulled_51 : decode cX9_pulled 51 = .ok (.aload_n 0, 1) := by decide +kernel
theorem dX9_pulled_52 : decode cX9_pulled 52 = .ok (.getfield 48, 3) := by decide +kernel
theorem dX9_pulled_55 : decode cX9_pulled 55 = .ok (.iload 6, 2) := by decide +kernel
theorem dX9_pulled_57 : decode cX9_pulled 57 = .ok (.aload_n 0, 1) := by decide +kernel
theorem dX9_pulled_58 : decode cX9_pulled 58 = .ok (.getfield 69, 3) := by decide +kernel
theorem dX9_pulled_61 : decode cX9_pulled 61 = .ok (.iload_n 1, 1) := by decide +kernel
theorem dX9_pulled_62 : decode cX9_pulled 62 = .ok (.aaload, 1) := by decide +kernel
theorem dX9_pulled_63 : decode cX9_pulled 63 = .ok (.getfield 299, 3) := by decide +kernel
theorem dX9_pulled_66 : decode cX9_pulled 66 = .ok (.iload_n 3, 1) := by decide +kernel
theorem dX9_pulled_67 : decode cX9_pulled 67 = .ok (.iload 6, 2) := by decide +kernel
theorem dX9_pulled_69 : decode cX9_pulled 69 = .ok (.iadd, 1) := by decide +kernel
theorem dX9_pulled_70 : decode cX9_pulled 70 = .ok (.laload, 1) := by decide +kernel
theorem dX9_pulled_71 : decode cX9_pulled 71 = .ok (.invokevirtual 303, 3) := by decide +kernel
theorem dX9_pulled_74 : decode cX9_pulled 74 = .ok (.iinc 6 1, 3) := by decide +kernel
theorem dX9_pulled_77 : decode cX9_pulled 77 = .ok (.goto (-38), 3) := by decide +kernel
theorem dX9_pulled_80 : decode cX9_pulled 80 = .ok (.aload_n 0, 1) := by decide +kernel
theorem dX9_pulled_81 : decode cX9_pulled 81 = .ok (.getfield 48, 3) := by decide +kernel
theorem dX9_pulled_84 : decode cX9_pulled 84 = .ok (.invokevirtual 306, 3) := by decide +kernel
theorem dX9_pulled_87 : decode cX9_pulled 87 = .ok (.iload 4, 2) := by decide +kernel
theorem dX9_pulled_89 : decode cX9_pulled 89 = .ok (.ifCond .ne 11, 3) := by decide +kernel
theorem dX9_pulled_92 : decode cX9_pulled 92 = .ok (.aload_n 0, 1) := by decide +kernel
theorem dX9_pulled_93 : decode cX9_pulled 93 = .ok (.getfield 48, 3) := by decide +kernel
theorem dX9_pulled_96 : decode cX9_pulled 96 = .ok (.getfield 307, 3) := by decide +kernel
theorem dX9_pulled_99 : decode cX9_pulled 99 = .ok (.ireturn, 1) := by decide +kernel
theorem dX9_pulled_100 : decode cX9_pulled 100 = .ok (.aload_n 0, 1) := by decide +kernel
theorem dX9_pulled_101 : decode cX9_pulled 101 = .ok (.getfield 48, 3) := by decide +kernel
theorem dX9_pulled_104 : decode cX9_pulled 104 = .ok (.getfield 307, 3) := by decide +kernel
theorem dX9_pulled_107 : decode cX9_pulled 107 = .ok (.ifCond .ne 6, 3) := by decide +kernel
theorem dX9_pulled_110 : decode cX9_pulled 110 = .ok (.bipush (-4), 2) := by decide +kernel
theorem dX9_pulled_112 : decode cX9_pulled 112 = .ok (.ireturn, 1) := by decide +kernel
theorem dX9_pulled_113 : decode cX9_pulled 113 = .ok (.iload 4, 2) := by decide +kernel
theorem dX9_pulled_115 : decode cX9_pulled 115 = .ok (.iconst 1, 1) := by decide +kernel
theorem dX9_pulled_116 : decode cX9_pulled 116 = .ok (.if_icmp .ne 13, 3) := by decide +kernel
theorem dX9_pulled_119 : decode cX9_pulled 119 = .ok (.aload_n 0, 1) := by decide +kernel
theorem dX9_pulled_120 : decode cX9_pulled 120 = .ok (.getfield 48, 3) := by decide +kernel
theorem dX9_pulled_123 : decode cX9_pulled 123 = .ok (.invokevirtual 310, 3) := by decide +kernel
theorem dX9_pulled_126 : decode cX9_pulled 126 = .ok (.goto 10, 3) := by decide +kernel
theorem dX9_pulled_129 : decode cX9_pulled 129 = .ok (.aload_n 0, 1) := by decide +kernel
theorem dX9_pulled_130 : decode cX9_pulled 130 = .ok (.getfield 48, 3) := by decide +kernel
theorem dX9_pulled_133 : decode cX9_pulled 133 = .ok (.getfield 313, 3) := by decide +kernel
theorem dX9_pulled_136 : decode cX9_pulled 136 = .ok (.ireturn, 1) := by decide +kernel
theorem dX9_film_0 : decode cX9_film 0 = .ok (.aload_n 0, 1) := by decide +kernel
theorem dX9_film_1 : decode cX9_film 1 = .ok (.iload_n 1, 1) := by decide +kernel
theorem dX9_film_2 : decode cX9_film 2 = .ok (.iload_n 2, 1) := by decide +kernel
theorem dX9_film_3 : decode cX9_film 3 = .ok (.iload_n 3, 1) := by decide +kernel
theorem dX9_film_4 : decode cX9_film 4 = .ok (.aload_n 0, 1) := by decide +kernel
theorem dX9_film_5 : decode cX9_film 5 = .ok (.getfield 10, 3) := by decide +kernel
theorem dX9_film_8 : decode cX9_film 8 = .ok (.getfield 122, 3) := by decide +kernel
theorem dX9_film_11 : decode cX9_film 11 = .ok (.invokevirtual 280, 3) := by decide +kernel
theorem dX9_film_14 : decode cX9_film 14 = .ok (.istore 4, 2) := by decide +kernel
theorem dX9_film_16 : decode cX9_film 16 = .ok (.iload 4, 2) := by decide +kernel
theorem dX9_film_18 : decode cX9_film 18 = .ok (.ifCond .ge 6, 3) := by decide +kernel
theorem dX9_film_21 : decode cX9_film 21 = .ok (.iload 4, 2) := by decide +kernel
theorem dX9_film_23 : decode cX9_film 23 = .ok (.ireturn, 1) := by decide +kernel
theorem dX9_film_24 : decode cX9_film 24 = .ok (.iconst 0, 1) := by decide +kernel
theorem dX9_film_25 : decode cX9_film 25 = .ok (.istore 5, 2) := by decide +kernel
theorem dX9_film_27 : decode cX9_film 27 = .ok (.iload 5, 2) := by decide +kernel
theorem dX9_film_29 : decode cX9_film 29 = .ok (.aload_n 0, 1) := by decide +kernel
theorem dX9_film_30 : decode cX9_film 30 = .ok (.getfield 10, 3) := by decide +kernel
theorem dX9_film_33 : decode cX9_film 33 = .ok (.getfield 122, 3) := by decide +kernel
theorem dX9_film_36 : decode cX9_film 36 = .ok (.if_icmp .ge 32, 3) := by decide +kernel
theorem dX9_film_39 : decode cX9_film 39 = .ok (.aload_n 0, 1) := by decide +kernel
theorem dX9_film_40 : decode cX9_film 40 = .ok (.getfield 69, 3) := by decide +kernel
theorem dX9_film_43 : decode cX9_film 43 = .ok (.iload_n 1, 1) := by decide +kernel
theorem dX9_film_44 : decode cX9_film 44 = .ok (.aaload, 1) := by decide +kernel
theorem dX9_film_45 : decode cX9_film 45 = .ok (.iload_n 3, 1) := by decide +kernel
theorem dX9_film_46 : decode cX9_film 46 = .ok (.iload 5, 2) := by decide +kernel
theorem dX9_film_48 : decode cX9_film 48 = .ok (.iadd, 1) := by decide +kernel
theorem dX9_film_49 : decode cX9_film 49 = .ok (.aload_n 0, 1) := by decide +kernel
theorem dX9_film_50 : decode cX9_film 50 = .ok (.getfield 10, 3) := by decide +kernel
theorem dX9_film_53 : decode cX9_film 53 = .ok (.iload 5, 2) := by decide +kernel
theorem dX9_film_55 : decode cX9_film 55 = .ok (.invokevirtual 186, 3) := by decide +kernel
theorem dX9_film_58 : decode cX9_film 58 = .ok (.i2l, 1) := by decide +kernel
theorem dX9_film_59 : decode cX9_film 59 = .ok (.invokevirtual 316, 3) := by decide +kernel
theorem dX9_film_62 : decode cX9_film 62 = .ok (.iinc 5 1, 3) := by decide +kernel
theorem dX9_film_65 : decode cX9_film 65 = .ok (.goto (-38), 3) := by decide +kernel
theorem dX9_film_68 : decode cX9_film 68 = .ok (.aload_n 0, 1) := by decide +kernel
theorem dX9_film_69 : decode cX9_film 69 = .ok (.getfield 10, 3) := by decide +kernel
theorem dX9_film_72 : decode cX9_film 72 = .ok (.getfield 122, 3) := by decide +kernel
theorem dX9_film_75 : decode cX9_film 75 = .ok (.ireturn, 1) := by decide +kernel
theorem dX9_lay_0 : decode cX9_lay 0 = .ok (.aload_n 0, 1) := by decide +kernel
theorem dX9_lay_1 : decode cX9_lay 1 = .ok (.iload_n 1, 1) := by decide +kernel
theorem dX9_lay_2 : decode cX9_lay 2 = .ok (.iload_n 2, 1) := by decide +kernel
theorem dX9_lay_3 : decode cX9_lay 3 = .ok (.iload_n 3, 1) := by decide +kernel
theorem dX9_lay_4 : decode cX9_lay 4 = .ok (.aload_n 0, 1) := by decide +kernel
theorem dX9_lay_5 : decode cX9_lay 5 = .ok (.getfield 10, 3) := by decide +kernel
theorem dX9_lay_8 : decode cX9_lay 8 = .ok (.getfield 85, 3) := by decide +kernel
theorem dX9_lay_11 : decode cX9_lay 11 = .ok (.invokevirtual 280, 3) := by decide +kernel
theorem dX9_lay_14 : decode cX9_lay 14 = .ok (.istore 4, 2) := by decide +kernel
theorem dX9_lay_16 : decode cX9_lay 16 = .ok (.iload 4, 2) := by decide +kernel
theorem dX9_lay_18 : decode cX9_lay 18 = .ok (.ifCond .ge 6, 3) := by decide +kernel
theorem dX9_lay_21 : decode cX9_lay 21 = .ok (.iload 4, 2) := by decide +kernel
theorem dX9_lay_23 : decode cX9_lay 23 = .ok (.ireturn, 1) := by decide +kernel
theorem dX9_lay_24 : decode cX9_lay 24 = .ok (.iconst 0, 1) := by decide +kernel
theorem dX9_lay_25 : decode cX9_lay 25 = .ok (.istore 5, 2) := by decide +kernel
theorem dX9_lay_27 : decode cX9_lay 27 = .ok (.iload 5, 2) := by decide +kernel
theorem dX9_lay_29 : decode cX9_lay 29 = .ok (.aload_n 0, 1) := by decide +kernel
theorem dX9_lay_30 : decode cX9_lay 30 = .ok (.getfield 10, 3) := by decide +kernel
theorem dX9_lay_33 : decode cX9_lay 33 = .ok (.getfield 85, 3) := by decide +kernel
theorem dX9_lay_36 : decode cX9_lay 36 = .ok (.if_icmp .ge 44, 3) := by decide +kernel
theorem dX9_lay_39 : decode cX9_lay 39 = .ok (.aload_n 0, 1) := by decide +kernel
theorem dX9_lay_40 : decode cX9_lay 40 = .ok (.getfield 69, 3) := by decide +kernel
theorem dX9_lay_43 : decode cX9_lay 43 = .ok (.iload_n 1, 1) := by decide +kernel
theorem dX9_lay_44 : decode cX9_lay 44 = .ok (.aaload, 1) := by decide +kernel
theorem dX9_lay_45 : decode cX9_lay 45 = .ok (.getfield 299, 3) := by decide +kernel
theorem dX9_lay_48 : decode cX9_lay 48 = .ok (.iload_n 3, 1) := by decide +kernel
theorem dX9_lay_49 : decode cX9_lay 49 = .ok (.iload 5, 2) := by decide +kernel
theorem dX9_lay_51 : decode cX9_lay 51 = .ok (.iadd, 1) := by decide +kernel
theorem dX9_lay_52 : decode cX9_lay 52 = .ok (.laload, 1) := by decide +kernel
theorem dX9_lay_53 : decode cX9_lay 53 = .ok (.lstore 6, 2) := by decide +kernel
theorem dX9_lay_55 : decode cX9_lay 55 = .ok (.lload 6, 2) := by decide +kernel
theorem dX9_lay_57 : decode cX9_lay 57 = .ok (.lconst 0, 1) := by decide +kernel
theorem dX9_lay_58 : decode cX9_lay 58 = .ok (.lcmp, 1) := by decide +kernel
theorem dX9_lay_59 : decode cX9_lay 59 = .ok (.ifCond .lt 12, 3) := by decide +kernel
theorem dX9_lay_62 : decode cX9_lay 62 = .ok (.lload 6, 2) := by decide +kernel
theorem dX9_lay_64 : decode cX9_lay 64 = .ok (.ldc2_w 319, 3) := by decide +kernel
theorem dX9_lay_67 : decode cX9_lay 67 = .ok (.lcmp, 1) := by decide +kernel
theorem dX9_lay_68 : decode cX9_lay 68 = .ok (.ifCond .lt 6, 3) := by decide +kernel
theorem dX9_lay_71 : decode cX9_lay 71 = .ok (.bipush (-2), 2) := by decide +kernel
theorem dX9_lay_73 : decode cX9_lay 73 = .ok (.ireturn, 1) := by decide +kernel
theorem dX9_lay_74 : decode cX9_lay 74 = .ok (.iinc 5 1, 3) := by decide +kernel
theorem dX9_lay_77 : decode cX9_lay 77 = .ok (.goto (-50), 3) := by decide +kernel
theorem dX9_lay_80 : decode cX9_lay 80 = .ok (.iconst 0, 1) := by decide +kernel
theorem dX9_lay_81 : decode cX9_lay 81 = .ok (.istore 5, 2) := by decide +kernel
theorem dX9_lay_83 : decode cX9_lay 83 = .ok (.iload 5, 2) := by decide +kernel
theorem dX9_lay_85 : decode cX9_lay 85 = .ok (.aload_n 0, 1) := by decide +kernel
theorem dX9_lay_86 : decode cX9_lay 86 = .ok (.getfield 10, 3) := by decide +kernel
theorem dX9_lay_89 : decode cX9_lay 89 = .ok (.getfield 85, 3) := by decide +kernel
theorem dX9_lay_92 : decode cX9_lay 92 = .ok (.if_icmp .ge 41, 3) := by decide +kernel
theorem dX9_lay_95 : decode cX9_lay 95 = .ok (.aload_n 0, 1) := by decide +kernel
theorem dX9_lay_96 : decode cX9_lay 96 = .ok (.getfield 10, 3) := by decide +kernel
theorem dX9_lay_99 : decode cX9_lay 99 = .ok (.aload_n 0, 1) := by decide +kernel
theorem dX9_lay_100 : decode cX9_lay 100 = .ok (.getfield 10, 3) := by decide +kernel
theorem dX9_lay_103 : decode cX9_lay 103 = .ok (.getfield 109, 3) := by decide +kernel
theorem dX9_lay_106 : decode cX9_lay 106 = .ok (.iload 5, 2) := by decide +kernel
theorem dX9_lay_108 : decode cX9_lay 108 = .ok (.aload_n 0, 1) := by decide +kernel
theorem dX9_lay_109 : decode cX9_lay 109 = .ok (.getfield 69, 3) := by decide +kernel
theorem dX9_lay_112 : decode cX9_lay 112 = .ok (.iload_n 1, 1) := by decide +kernel
theorem dX9_lay_113 : decode cX9_lay 113 = .ok (.aaload, 1) := by decide +kernel
theorem dX9_lay_114 : decode cX9_lay 114 = .ok (.getfield 299, 3) := by decide +kernel
theorem dX9_lay_117 : decode cX9_lay 117 = .ok (.iload_n 3, 1) := by decide +kernel
theorem dX9_lay_118 : decode cX9_lay 118 = .ok (.iload 5, 2) := by decide +kernel
theorem dX9_lay_120 : decode cX9_lay 120 = .ok (.iadd, 1) := by decide +kernel
theorem dX9_lay_121 : decode cX9_lay 121 = .ok (.laload, 1) := by decide +kernel
theorem dX9_lay_122 : decode cX9_lay 122 = .ok (.l2i, 1) := by decide +kernel
theorem dX9_lay_123 : decode cX9_lay 123 = .ok (.invokevirtual 115, 3) := by decide +kernel
theorem dX9_lay_126 : decode cX9_lay 126 = .ok (.pop, 1) := by decide +kernel
theorem dX9_lay_127 : decode cX9_lay 127 = .ok (.iinc 5 1, 3) := by decide +kernel
theorem dX9_lay_130 : decode cX9_lay 130 = .ok (.goto (-47), 3) := by decide +kernel
theorem dX9_lay_133 : decode cX9_lay 133 = .ok (.aload_n 0, 1) := by decide +kernel
theorem dX9_lay_134 : decode cX9_lay 134 = .ok (.getfield 10, 3) := by decide +kernel
theorem dX9_lay_137 : decode cX9_lay 137 = .ok (.invokevirtual 183, 3) := by decide +kernel
theorem dX9_lay_140 : decode cX9_lay 140 = .ok (.ireturn, 1) := by decide +kernel
theorem dX9_sheet_0 : decode cX9_sheet 0 = .ok (.iload_n 1, 1) := by decide +kernel
theorem dX9_sheet_1 : decode cX9_sheet 1 = .ok (.invokestatic 321, 3) := by decide +kernel
theorem dX9_sheet_4 : decode cX9_sheet 4 = .ok (.ifCond .eq 18, 3) := by decide +kernel
theorem dX9_sheet_7 : decode cX9_sheet 7 = .ok (.iload_n 2, 1) := by decide +kernel
theorem dX9_sheet_8 : decode cX9_sheet 8 = .ok (.iconst 0, 1) := by decide +kernel
theorem dX9_sheet_9 : decode cX9_sheet 9 = .ok (.iconst 3, 1) := by decide +kernel
theorem dX9_sheet_10 : decode cX9_sheet 10 = .ok (.invokestatic 81, 3) := by decide +kernel
theorem dX9_sheet_13 : decode cX9_sheet 13 = .ok (.ifCond .eq 9, 3) := by decide +kernel
theorem dX9_sheet_16 : decode cX9_sheet 16 = .ok (.iload_n 3, 1) := by decide +kernel
theorem dX9_sheet_17 : decode cX9_sheet 17 = .ok (.bipush 16, 2) := by decide +kernel
theorem dX9_sheet_19 : decode cX9_sheet 19 = .ok (.if_icmp .le 5, 3) := by decide +kernel
theorem dX9_sheet_22 : decode cX9_sheet 22 = .ok (.iconst (-1), 1) := by decide +kernel
theorem dX9_sheet_23 : decode cX9_sheet 23 = .ok (.ireturn, 1) := by decide +kernel
theorem dX9_sheet_24 : decode cX9_sheet 24 = .ok (.iload_n 3, 1) := by decide +kernel
theorem dX9_sheet_25 : decode cX9_sheet 25 = .ok (.ifCond .ge 6, 3) := by decide +kernel
theorem dX9_sheet_28 : decode cX9_sheet 28 = .ok (.bipush (-14), 2) := by decide +kernel
theorem dX9_sheet_30 : decode cX9_sheet 30 = .ok (.ireturn, 1) := by decide +kernel
theorem dX9_sheet_31 : decode cX9_sheet 31 = .ok (.aload_n 0, 1) := by decide +kernel
theorem dX9_sheet_32 : decode cX9_sheet 32 = .ok (.getfield 69, 3) := by decide +kernel
theorem dX9_sheet_35 : decode cX9_sheet 35 = .ok (.iload_n 1, 1) := by decide +kernel
theorem dX9_sheet_36 : decode cX9_sheet 36 = .ok (.aaload, 1) := by decide +kernel
theorem dX9_sheet_37 : decode cX9_sheet 37 = .ok (.iload_n 2, 1) := by decide +kernel
theorem dX9_sheet_38 : decode cX9_sheet 38 = .ok (.iload_n 3, 1) := by decide +kernel
theorem dX9_sheet_39 : decode cX9_sheet 39 = .ok (.invokevirtual 324, 3) := by decide +kernel
theorem dX9_sheet_42 : decode cX9_sheet 42 = .ok (.iload_n 3, 1) := by decide +kernel
theorem dX9_sheet_43 : decode cX9_sheet 43 = .ok (.ireturn, 1) := by decide +kernel
theorem dX9_drop_0 : decode cX9_drop 0 = .ok (.iload_n 1, 1) := by decide +kernel
theorem dX9_drop_1 : decode cX9_drop 1 = .ok (.invokestatic 321, 3) := by decide +kernel
theorem dX9_drop_4 : decode cX9_drop 4 = .ok (.ifCond .ne 5, 3) := by decide +kernel
theorem dX9_drop_7 : decode cX9_drop 7 = .ok (.iconst (-1), 1) := by decide +kernel
theorem dX9_drop_8 : decode cX9_drop 8 = .ok (.ireturn, 1) := by decide +kernel
theorem dX9_drop_9 : decode cX9_drop 9 = .ok (.aload_n 0, 1) := by decide +kernel
theorem dX9_drop_10 : decode cX9_drop 10 = .ok (.getfield 69, 3) := by decide +kernel
theorem dX9_drop_13 : decode cX9_drop 13 = .ok (.iload_n 1, 1) := by decide +kernel
theorem dX9_drop_14 : decode cX9_drop 14 = .ok (.aaload, 1) := by decide +kernel
theorem dX9_drop_15 : decode cX9_drop 15 = .ok (.invokevirtual 327, 3) := by decide +kernel
theorem dX9_drop_18 : decode cX9_drop 18 = .ok (.ifCond .eq 6, 3) := by decide +kernel
theorem dX9_drop_21 : decode cX9_drop 21 = .ok (.bipush (-11), 2) := by decide +kernel
theorem dX9_drop_23 : decode cX9_drop 23 = .ok (.ireturn, 1) := by decide +kernel
theorem dX9_drop_24 : decode cX9_drop 24 = .ok (.aload_n 0, 1) := by decide +kernel
theorem dX9_drop_25 : decode cX9_drop 25 = .ok (.getfield 69, 3) := by decide +kernel
theorem dX9_drop_28 : decode cX9_drop 28 = .ok (.iload_n 1, 1) := by decide +kernel
theorem dX9_drop_29 : decode cX9_drop 29 = .ok (.aaload, 1) := by decide +kernel
theorem dX9_drop_30 : decode cX9_drop 30 = .ok (.getfield 331, 3) := by decide +kernel
theorem dX9_drop_33 : decode cX9_drop 33 = .ok (.istore_n 2, 1) := by decide +kernel
theorem dX9_drop_34 : decode cX9_drop 34 = .ok (.aload_n 0, 1) := by decide +kernel
theorem dX9_drop_35 : decode cX9_drop 35 = .ok (.getfield 69, 3) := by decide +kernel
theorem dX9_drop_38 : decode cX9_drop 38 = .ok (.iload_n 1, 1) := by decide +kernel
theorem dX9_drop_39 : decode cX9_drop 39 = .ok (.aaload, 1) := by decide +kernel
theorem dX9_drop_40 : decode cX9_drop 40 = .ok (.invokevirtual 334, 3) := by decide +kernel
theorem dX9_drop_43 : decode cX9_drop 43 = .ok (.iload_n 2, 1) := by decide +kernel
theorem dX9_drop_44 : decode cX9_drop 44 = .ok (.ireturn, 1) := by decide +kernel
theorem dX9_item_0 : decode cX9_item 0 = .ok (.aload_n 0, 1) := by decide +kernel
theorem dX9_item_1 : decode cX9_item 1 = .ok (.iload_n 1, 1) := by decide +kernel
theorem dX9_item_2 : decode cX9_item 2 = .ok (.iload_n 2, 1) := by decide +kernel
theorem dX9_item_3 : decode cX9_item 3 = .ok (.iload_n 3, 1) := by decide +kernel
theorem dX9_item_4 : decode cX9_item 4 = .ok (.iconst 1, 1) := by decide +kernel
theorem dX9_item_5 : decode cX9_item 5 = .ok (.invokevirtual 280, 3) := by decide +kernel
theorem dX9_item_8 : decode cX9_item 8 = .ok (.istore 6, 2) := by decide +kernel
theorem dX9_item_10 : decode cX9_item 10 = .ok (.iload 6, 2) := by decide +kernel
theorem dX9_item_12 : decode cX9_item 12 = .ok (.ifCond .ge 6, 3) := by decide +kernel
theorem dX9_item_15 : decode cX9_item 15 = .ok (.iload 6, 2) := by decide +kernel
theorem dX9_item_17 : decode cX9_item 17 = .ok (.ireturn, 1) := by decide +kernel
theorem dX9_item_18 : decode cX9_item 18 = .ok (.aload_n 0, 1) := by decide +kernel
theorem dX9_item_19 : decode cX9_item 19 = .ok (.getfield 69, 3) := by decide +kernel
theorem dX9_item_22 : decode cX9_item 22 = .ok (.iload_n 1, 1) := by decide +kernel
theorem dX9_item_23 : decode cX9_item 23 = .ok (.aaload, 1) := by decide +kernel
theorem dX9_item_24 : decode cX9_item 24 = .ok (.iload_n 3, 1) := by decide +kernel
theorem dX9_item_25 : decode cX9_item 25 = .ok (.lload 4, 2) := by decide +kernel
theorem dX9_item_27 : decode cX9_item 27 = .ok (.invokevirtual 316, 3) := by decide +kernel
theorem dX9_item_30 : decode cX9_item 30 = .ok (.iconst 1, 1) := by decide +kernel
theorem dX9_item_31 : decode cX9_item 31 = .ok (.ireturn, 1) := by decide +kernel
theorem dX9_copy_0 : decode cX9_copy 0 = .ok (.iload_n 1, 1) := by decide +kernel
theorem dX9_copy_1 : decode cX9_copy 1 = .ok (.invokestatic 321, 3) := by decide +kernel
theorem dX9_copy_4 : decode cX9_copy 4 = .ok (.ifCond .eq 10, 3) := by decide +kernel
theorem dX9_copy_7 : decode cX9_copy 7 = .ok (.iload_n 3, 1) := by decide +kernel
theorem dX9_copy_8 : decode cX9_copy 8 = .ok (.invokestatic 321, 3) := by decide +kernel
theorem dX9_copy_11 : decode cX9_copy 11 = .ok (.ifCond .ne 5, 3) := by decide +kernel
theorem dX9_copy_14 : decode cX9_copy 14 = .ok (.iconst (-1), 1) := by decide +kernel
theorem dX9_copy_15 : decode cX9_copy 15 = .ok (.ireturn, 1) := by decide +kernel
theorem dX9_copy_16 : decode cX9_copy 16 = .ok (.aload_n 0, 1) := by decide +kernel
theorem dX9_copy_17 : decode cX9_copy 17 = .ok (.getfield 69, 3) := by decide +kernel
theorem dX9_copy_20 : decode cX9_copy 20 = .ok (.iload_n 1, 1) := by decide +kernel
theorem dX9_copy_21 : decode cX9_copy 21 = .ok (.aaload, 1) := by decide +kernel
theorem dX9_copy_22 : decode cX9_copy 22 = .ok (.astore 6, 2) := by decide +kernel
theorem dX9_copy_24 : decode cX9_copy 24 = .ok (.aload_n 0, 1) := by decide +kernel
theorem dX9_copy_25 : decode cX9_copy 25 = .ok (.getfield 69, 3) := by decide +kernel
theorem dX9_copy_28 : decode cX9_copy 28 = .ok (.iload_n 3, 1) := by decide +kernel
theorem dX9_copy_29 : decode cX9_copy 29 = .ok (.aaload, 1) := by decide +kernel
theorem dX9_copy_30 : decode cX9_copy 30 = .ok (.astore 7, 2) := by decide +kernel
theorem dX9_copy_32 : decode cX9_copy 32 = .ok (.aload 6, 2) := by decide +kernel
theorem dX9_copy_34 : decode cX9_copy 34 = .ok (.invokevirtual 327, 3) := by decide +kernel
theorem dX9_copy_37 : decode cX9_copy 37 = .ok (.ifCond .ne 11, 3) := by decide +kernel
theorem dX9_copy_40 : decode cX9_copy 40 = .ok (.aload 7, 2) := by decide +kernel
theorem dX9_copy_42 : decode cX9_copy 42 = .ok (.invokevirtual 327, 3) := by decide +kernel
theorem dX9_copy_45 : decode cX9_copy 45 = .ok (.ifCond .eq 6, 3) := by decide +kernel
theorem dX9_copy_48 : decode cX9_copy 48 = .ok (.bipush (-11), 2) := by decide +kernel
theorem dX9_copy_50 : decode cX9_copy 50 = .ok (.ireturn, 1) := by decide +kernel
theorem dX9_copy_51 : decode cX9_copy 51 = .ok (.aload 6, 2) := by decide +kernel
theorem dX9_copy_53 : decode cX9_copy 53 = .ok (.getfield 337, 3) := by decide +kernel
theorem dX9_copy_56 : decode cX9_copy 56 = .ok (.aload 7, 2) := by decide +kernel
theorem dX9_copy_58 : decode cX9_copy 58 = .ok (.getfield 337, 3) := by decide +kernel
theorem dX9_copy_61 : decode cX9_copy 61 = .ok (.if_icmp .eq 6, 3) := by decide +kernel
theorem dX9_copy_64 : decode cX9_copy 64 = .ok (.bipush (-12), 2) := by decide +kernel
theorem dX9_copy_66 : decode cX9_copy 66 = .ok (.ireturn, 1) := by decide +kernel
theorem dX9_copy_67 : decode cX9_copy 67 = .ok (.aload 6, 2) := by decide +kernel
theorem dX9_copy_69 : decode cX9_copy 69 = .ok (.iload_n 2, 1) := by decide +kernel
theorem dX9_copy_70 : decode cX9_copy 70 = .ok (.iload 5, 2) := by decide +kernel
theorem dX9_copy_72 : decode cX9_copy 72 = .ok (.invokevirtual 340, 3) := by decide +kernel
theorem dX9_copy_75 : decode cX9_copy 75 = .ok (.ifCond .eq 15, 3) := by decide +kernel
theorem dX9_copy_78 : decode cX9_copy 78 = .ok (.aload 7, 2) := by decide +kernel
theorem dX9_copy_80 : decode cX9_copy 80 = .ok (.iload 4, 2) := by decide +kernel
theorem dX9_copy_82 : decode cX9_copy 82 = .ok (.iload 5, 2) := by decide +kernel
theorem dX9_copy_84 : decode cX9_copy 84 = .ok (.invokevirtual 340, 3) := by decide +kernel
theorem dX9_copy_87 : decode cX9_copy 87 = .ok (.ifCond .ne 6, 3) := by decide +kernel
theorem dX9_copy_90 : decode cX9_copy 90 = .ok (.bipush (-13), 2) := by decide +kernel
theorem dX9_copy_92 : decode cX9_copy 92 = .ok (.ireturn, 1) := by decide +kernel
theorem dX9_copy_93 : decode cX9_copy 93 = .ok (.aload 6, 2) := by decide +kernel
theorem dX9_copy_95 : decode cX9_copy 95 = .ok (.getfield 299, 3) := by decide +kernel
theorem dX9_copy_98 : decode cX9_copy 98 = .ok (.iload_n 2, 1) := by decide +kernel
theorem dX9_copy_99 : decode cX9_copy 99 = .ok (.aload 7, 2) := by decide +kernel
theorem dX9_copy_101 : decode cX9_copy 101 = .ok (.getfield 299, 3) := by decide +kernel
theorem dX9_copy_104 : decode cX9_copy 104 = .ok (.iload 4, 2) := by decide +kernel
theorem dX9_copy_106 : decode cX9_copy 106 = .ok (.iload 5, 2) := by decide +kernel
theorem dX9_copy_108 : decode cX9_copy 108 = .ok (.invokestatic 343, 3) := by decide +kernel
theorem dX9_copy_111 : decode cX9_copy 111 = .ok (.iload 5, 2) := by decide +kernel
theorem dX9_copy_113 : decode cX9_copy 113 = .ok (.ireturn, 1) := by decide +kernel
theorem dX9_within_0 : decode cX9_within 0 = .ok (.iload_n 0, 1) := by decide +kernel
theorem dX9_within_1 : decode cX9_within 1 = .ok (.iload_n 1, 1) := by decide +kernel
theorem dX9_within_2 : decode cX9_within 2 = .ok (.if_icmp .lt 12, 3) := by decide +kernel
theorem dX9_within_5 : decode cX9_within 5 = .ok (.iload_n 0, 1) := by decide +kernel
theorem dX9_within_6 : decode cX9_within 6 = .ok (.iload_n 2, 1) := by decide +kernel
theorem dX9_within_7 : decode cX9_within 7 = .ok (.if_icmp .gt 7, 3) := by decide +kernel
theorem dX9_within_10 : decode cX9_within 10 = .ok (.iconst 1, 1) := by decide +kernel
theorem dX9_within_11 : decode cX9_within 11 = .ok (.goto 4, 3) := by decide +kernel
theorem dX9_within_14 : decode cX9_within 14 = .ok (.iconst 0, 1) := by decide +kernel
theorem dX9_within_15 : decode cX9_within 15 = .ok (.ireturn, 1) := by decide +kernel
theorem dX9_isBag_0 : decode cX9_isBag 0 = .ok (.iload_n 0, 1) := by decide +kernel
theorem dX9_isBag_1 : decode cX9_isBag 1 = .ok (.iconst 0, 1) := by decide +kernel
theorem dX9_isBag_2 : decode cX9_isBag 2 = .ok (.iconst 2, 1) := by decide +kernel
theorem dX9_isBag_3 : decode cX9_isBag 3 = .ok (.invokestatic 81, 3) := by decide +kernel
theorem dX9_isBag_6 : decode cX9_isBag 6 = .ok (.ireturn, 1) := by decide +kernel
theorem dX9_isSheet_0 : decode cX9_isSheet 0 = .ok (.iload_n 0, 1) := by decide +kernel
theorem dX9_isSheet_1 : decode cX9_isSheet 1 = .ok (.iconst 0, 1) := by decide +kernel
theorem dX9_isSheet_2 : decode cX9_isSheet 2 = .ok (.iconst 3, 1) := by decide +kernel
theorem dX9_isSheet_3 : decode cX9_isSheet 3 = .ok (.invokestatic 81, 3) := by decide +kernel
theorem dX9_isSheet_6 : decode cX9_isSheet 6 = .ok (.ireturn, 1) := by decide +kernel
theorem dX9_isThing_0 : decode cX9_isThing 0 = .ok (.iload_n 1, 1) := by decide +kernel
theorem dX9_isThing_1 : decode cX9_isThing 1 = .ok (.iconst 0, 1) := by decide +kernel
theorem dX9_isThing_2 : decode cX9_isThing 2 = .ok (.aload_n 0, 1) := by decide +kernel
theorem dX9_isThing_3 : decode cX9_isThing 3 = .ok (.getfield 10, 3) := by decide +kernel
theorem dX9_isThing_6 : decode cX9_isThing 6 = .ok (.getfield 85, 3) := by decide +kernel
theorem dX9_isThing_9 : decode cX9_isThing 9 = .ok (.iconst 1, 1) := by decide +kernel
theorem dX9_isThing_10 : decode cX9_isThing 10 = .ok (.isub, 1) := by decide +kernel
theorem dX9_isThing_11 : decode cX9_isThing 11 = .ok (.invokestatic 81, 3) := by decide +kernel
theorem dX9_isThing_14 : decode cX9_isThing 14 = .ok (.ireturn, 1) := by decide +kernel
theorem dX9_isStretch_0 : decode cX9_isStretch 0 = .ok (.iload_n 1, 1) := by decide +kernel
theorem dX9_isStretch_1 : decode cX9_isStretch 1 = .ok (.iconst 0, 1) := by decide +kernel
theorem dX9_isStretch_2 : decode cX9_isStretch 2 = .ok (.aload_n 0, 1) := by decide +kernel
theorem dX9_isStretch_3 : decode cX9_isStretch 3 = .ok (.getfield 10, 3) := by decide +kernel
theorem dX9_isStretch_6 : decode cX9_isStretch 6 = .ok (.getfield 122, 3) := by decide +kernel
theorem dX9_isStretch_9 : decode cX9_isStretch 9 = .ok (.iconst 1, 1) := by decide +kernel
theorem dX9_isStretch_10 : decode cX9_isStretch 10 = .ok (.isub, 1) := by decide +kernel
theorem dX9_isStretch_11 : decode cX9_isStretch 11 = .ok (.invokestatic 81, 3) := by decide +kernel
theorem dX9_isStretch_14 : decode cX9_isStretch 14 = .ok (.ireturn, 1) := by decide +kernel
theorem dX9_isEnd_0 : decode cX9_isEnd 0 = .ok (.aload_n 0, 1) := by decide +kernel
theorem dX9_isEnd_1 : decode cX9_isEnd 1 = .ok (.iload_n 1, 1) := by decide +kernel
theorem dX9_isEnd_2 : decode cX9_isEnd 2 = .ok (.invokevirtual 93, 3) := by decide +kernel
theorem dX9_isEnd_5 : decode cX9_isEnd 5 = .ok (.ifCond .ne 24, 3) := by decide +kernel
theorem dX9_isEnd_8 : decode cX9_isEnd 8 = .ok (.iload_n 1, 1) := by decide +kernel
theorem dX9_isEnd_9 : decode cX9_isEnd 9 = .ok (.bipush 10, 2) := by decide +kernel
theorem dX9_isEnd_11 : decode cX9_isEnd 11 = .ok (.bipush 10, 2) := by decide +kernel
theorem dX9_isEnd_13 : decode cX9_isEnd 13 = .ok (.aload_n 0, 1) := by decide +kernel
theorem dX9_isEnd_14 : decode cX9_isEnd 14 = .ok (.getfield 10, 3) := by decide +kernel
theorem dX9_isEnd_17 : decode cX9_isEnd 17 = .ok (.getfield 174, 3) := by decide +kernel
theorem dX9_isEnd_20 : decode cX9_isEnd 20 = .ok (.iadd, 1) := by decide +kernel
theorem dX9_isEnd_21 : decode cX9_isEnd 21 = .ok (.iconst 1, 1) := by decide +kernel
theorem dX9_isEnd_22 : decode cX9_isEnd 22 = .ok (.isub, 1) := by decide +kernel
theorem dX9_isEnd_23 : decode cX9_isEnd 23 = .ok (.invokestatic 81, 3) := by decide +kernel
theorem dX9_isEnd_26 : decode cX9_isEnd 26 = .ok (.ifCond .eq 7, 3) := by decide +kernel
theorem dX9_isEnd_29 : decode cX9_isEnd 29 = .ok (.iconst 1, 1) := by decide +kernel
theorem dX9_isEnd_30 : decode cX9_isEnd 30 = .ok (.goto 4, 3) := by decide +kernel
theorem dX9_isEnd_33 : decode cX9_isEnd 33 = .ok (.iconst 0, 1) := by decide +kernel
theorem dX9_isEnd_34 : decode cX9_isEnd 34 = .ok (.ireturn, 1) := by decide +kernel
theorem dX9_refusalOf_0 : decode cX9_refusalOf 0 = .ok (.iload_n 1, 1) := by decide +kernel
theorem dX9_refusalOf_1 : decode cX9_refusalOf 1 = .ok (.invokestatic 321, 3) := by decide +kernel
theorem dX9_refusalOf_4 : decode cX9_refusalOf 4 = .ok (.ifCond .eq 12, 3) := by decide +kernel
theorem dX9_refusalOf_7 : decode cX9_refusalOf 7 = .ok (.iload_n 2, 1) := by decide +kernel
theorem dX9_refusalOf_8 : decode cX9_refusalOf 8 = .ok (.iconst 0, 1) := by decide +kernel
theorem dX9_refusalOf_9 : decode cX9_refusalOf 9 = .ok (.iconst 3, 1) := by decide +kernel
theorem dX9_refusalOf_10 : decode cX9_refusalOf 10 = .ok (.invokestatic 81, 3) := by decide +kernel
theorem dX9_refusalOf_13 : decode cX9_refusalOf 13 = .ok (.ifCond .ne 5, 3) := by decide +kernel
theorem dX9_refusalOf_16 : decode cX9_refusalOf 16 = .ok (.iconst (-1), 1) := by decide +kernel
theorem dX9_refusalOf_17 : decode cX9_refusalOf 17 = .ok (.ireturn, 1) := by decide +kernel
theorem dX9_refusalOf_18 : decode cX9_refusalOf 18 = .ok (.aload_n 0, 1) := by decide +kernel
theorem dX9_refusalOf_19 : decode cX9_refusalOf 19 = .ok (.getfield 69, 3) := by decide +kernel
theorem dX9_refusalOf_22 : decode cX9_refusalOf 22 = .ok (.iload_n 1, 1) := by decide +kernel
theorem dX9_refusalOf_23 : decode cX9_refusalOf 23 = .ok (.aaload, 1) := by decide +kernel
theorem dX9_refusalOf_24 : decode cX9_refusalOf 24 = .ok (.invokevirtual 327, 3) := by decide +kernel
theorem dX9_refusalOf_27 : decode cX9_refusalOf 27 = .ok (.ifCond .eq 6, 3) := by decide +kernel
theorem dX9_refusalOf_30 : decode cX9_refusalOf 30 = .ok (.bipush (-11), 2) := by decide +kernel
theorem dX9_refusalOf_32 : decode cX9_refusalOf 32 = .ok (.ireturn, 1) := by decide +kernel
theorem dX9_refusalOf_33 : decode cX9_refusalOf 33 = .ok (.aload_n 0, 1) := by decide +kernel
theorem dX9_refusalOf_34 : decode cX9_refusalOf 34 = .ok (.getfield 69, 3) := by decide +kernel
theorem dX9_refusalOf_37 : decode cX9_refusalOf 37 = .ok (.iload_n 1, 1) := by decide +kernel
theorem dX9_refusalOf_38 : decode cX9_refusalOf 38 = .ok (.aaload, 1) := by decide +kernel
theorem dX9_refusalOf_39 : decode cX9_refusalOf 39 = .ok (.getfield 337, 3) := by decide +kernel
theorem dX9_refusalOf_42 : decode cX9_refusalOf 42 = .ok (.iload_n 2, 1) := by decide +kernel
theorem dX9_refusalOf_43 : decode cX9_refusalOf 43 = .ok (.if_icmp .eq 6, 3) := by decide +kernel
theorem dX9_refusalOf_46 : decode cX9_refusalOf 46 = .ok (.bipush (-12), 2) := by decide +kernel
theorem dX9_refusalOf_48 : decode cX9_refusalOf 48 = .ok (.ireturn, 1) := by decide +kernel
theorem dX9_refusalOf_49 : decode cX9_refusalOf 49 = .ok (.aload_n 0, 1) := by decide +kernel
theorem dX9_refusalOf_50 : decode cX9_refusalOf 50 = .ok (.getfield 69, 3) := by decide +kernel
theorem dX9_refusalOf_53 : decode cX9_refusalOf 53 = .ok (.iload_n 1, 1) := by decide +kernel
theorem dX9_refusalOf_54 : decode cX9_refusalOf 54 = .ok (.aaload, 1) := by decide +kernel
theorem dX9_refusalOf_55 : decode cX9_refusalOf 55 = .ok (.iload_n 3, 1) := by decide +kernel
theorem dX9_refusalOf_56 : decode cX9_refusalOf 56 = .ok (.iload 4, 2) := by decide +kernel
theorem dX9_refusalOf_58 : decode cX9_refusalOf 58 = .ok (.invokevirtual 340, 3) := by decide +kernel
theorem dX9_refusalOf_61 : decode cX9_refusalOf 61 = .ok (.ifCond .eq 7, 3) := by decide +kernel
theorem dX9_refusalOf_64 : decode cX9_refusalOf 64 = .ok (.iconst 0, 1) := by decide +kernel
theorem dX9_refusalOf_65 : decode cX9_refusalOf 65 = .ok (.goto 5, 3) := by decide +kernel
theorem dX9_refusalOf_68 : decode cX9_refusalOf 68 = .ok (.bipush (-13), 2) := by decide +kernel
theorem dX9_refusalOf_70 : decode cX9_refusalOf 70 = .ok (.ireturn, 1) := by decide +kernel
theorem dX9_yardOf_0 : decode cX9_yardOf 0 = .ok (.iload_n 1, 1) := by decide +kernel
theorem dX9_yardOf_1 : decode cX9_yardOf 1 = .ok (.istore_n 3, 1) := by decide +kernel
theorem dX9_yardOf_2 : decode cX9_yardOf 2 = .ok (.iconst 0, 1) := by decide +kernel
theorem dX9_yardOf_3 : decode cX9_yardOf 3 = .ok (.istore 4, 2) := by decide +kernel
theorem dX9_yardOf_5 : decode cX9_yardOf 5 = .ok (.iconst 0, 1) := by decide +kernel
theorem dX9_yardOf_6 : decode cX9_yardOf 6 = .ok (.istore 5, 2) := by decide +kernel
theorem dX9_yardOf_8 : decode cX9_yardOf 8 = .ok (.iload 5, 2) := by decide +kernel
theorem dX9_yardOf_10 : decode cX9_yardOf 10 = .ok (.aload_n 0, 1) := by decide +kernel
theorem dX9_yardOf_11 : decode cX9_yardOf 11 = .ok (.getfield 10, 3) := by decide +kernel
theorem dX9_yardOf_14 : decode cX9_yardOf 14 = .ok (.getfield 122, 3) := by decide +kernel
theorem dX9_yardOf_17 : decode cX9_yardOf 17 = .ok (.if_icmp .ge 79, 3) := by decide +kernel
theorem dX9_yardOf_20 : decode cX9_yardOf 20 = .ok (.aload_n 0, 1) := by decide +kernel
theorem dX9_yardOf_21 : decode cX9_yardOf 21 = .ok (.getfield 73, 3) := by decide +kernel
theorem dX9_yardOf_24 : decode cX9_yardOf 24 = .ok (.iload 5, 2) := by decide +kernel
theorem dX9_yardOf_26 : decode cX9_yardOf 26 = .ok (.iaload, 1) := by decide +kernel
theorem dX9_yardOf_27 : decode cX9_yardOf 27 = .ok (.aload_n 0, 1) := by decide +kernel
theorem dX9_yardOf_28 : decode cX9_yardOf 28 = .ok (.getfield 10, 3) := by decide +kernel
theorem dX9_yardOf_31 : decode cX9_yardOf 31 = .ok (.getfield 132, 3) := by decide +kernel
theorem dX9_yardOf_34 : decode cX9_yardOf 34 = .ok (.iload 5, 2) := by decide +kernel
theorem dX9_yardOf_36 : decode cX9_yardOf 36 = .ok (.iaload, 1) := by decide +kernel
theorem dX9_yardOf_37 : decode cX9_yardOf 37 = .ok (.imul, 1) := by decide +kernel
theorem dX9_yardOf_38 : decode cX9_yardOf 38 = .ok (.istore 6, 2) := by decide +kernel
theorem dX9_yardOf_40 : decode cX9_yardOf 40 = .ok (.iload 6, 2) := by decide +kernel
theorem dX9_yardOf_42 : decode cX9_yardOf 42 = .ok (.iload_n 3, 1) := by decide +kernel
theorem dX9_yardOf_43 : decode cX9_yardOf 43 = .ok (.if_icmp .lt 27, 3) := by decide +kernel
theorem dX9_yardOf_46 : decode cX9_yardOf 46 = .ok (.iload 4, 2) := by decide +kernel
theorem dX9_yardOf_48 : decode cX9_yardOf 48 = .ok (.aload_n 0, 1) := by decide +kernel
theorem dX9_yardOf_49 : decode cX9_yardOf 49 = .ok (.getfield 73, 3) := by decide +kernel
theorem dX9_yardOf_52 : decode cX9_yardOf 52 = .ok (.iload 5, 2) := by decide +kernel
theorem dX9_yardOf_54 : decode cX9_yardOf 54 = .ok (.iaload, 1) := by decide +kernel
theorem dX9_yardOf_55 : decode cX9_yardOf 55 = .ok (.imul, 1) := by decide +kernel
theorem dX9_yardOf_56 : decode cX9_yardOf 56 = .ok (.iload_n 3, 1) := by decide +kernel
theorem dX9_yardOf_57 : decode cX9_yardOf 57 = .ok (.iadd, 1) := by decide +kernel
theorem dX9_yardOf_58 : decode cX9_yardOf 58 = .ok (.aload_n 0, 1) := by decide +kernel
theorem dX9_yardOf_59 : decode cX9_yardOf 59 = .ok (.getfield 73, 3) := by decide +kernel
theorem dX9_yardOf_62 : decode cX9_yardOf 62 = .ok (.iload 5, 2) := by decide +kernel
theorem dX9_yardOf_64 : decode cX9_yardOf 64 = .ok (.iaload, 1) := by decide +kernel
theorem dX9_yardOf_65 : decode cX9_yardOf 65 = .ok (.iload_n 2, 1) := by decide +kernel
theorem dX9_yardOf_66 : decode cX9_yardOf 66 = .ok (.invokestatic 242, 3) := by decide +kernel
theorem dX9_yardOf_69 : decode cX9_yardOf 69 = .ok (.ireturn, 1) := by decide +kernel
theorem dX9_yardOf_70 : decode cX9_yardOf 70 = .ok (.iload_n 3, 1) := by decide +kernel
theorem dX9_yardOf_71 : decode cX9_yardOf 71 = .ok (.iload 6, 2) := by decide +kernel
theorem dX9_yardOf_73 : decode cX9_yardOf 73 = .ok (.isub, 1) := by decide +kernel
theorem dX9_yardOf_74 : decode cX9_yardOf 74 = .ok (.istore_n 3, 1) := by decide +kernel
theorem dX9_yardOf_75 : decode cX9_yardOf 75 = .ok (.iload 4, 2) := by decide +kernel
theorem dX9_yardOf_77 : decode cX9_yardOf 77 = .ok (.aload_n 0, 1) := by decide +kernel
theorem dX9_yardOf_78 : decode cX9_yardOf 78 = .ok (.getfield 10, 3) := by decide +kernel
theorem dX9_yardOf_81 : decode cX9_yardOf 81 = .ok (.getfield 132, 3) := by decide +kernel
theorem dX9_yardOf_84 : decode cX9_yardOf 84 = .ok (.iload 5, 2) := by decide +kernel
theorem dX9_yardOf_86 : decode cX9_yardOf 86 = .ok (.iaload, 1) := by decide +kernel
theorem dX9_yardOf_87 : decode cX9_yardOf 87 = .ok (.iadd, 1) := by decide +kernel
theorem dX9_yardOf_88 : decode cX9_yardOf 88 = .ok (.istore 4, 2) := by decide +kernel
theorem dX9_yardOf_90 : decode cX9_yardOf 90 = .ok (.iinc 5 1, 3) := by decide +kernel
theorem dX9_yardOf_93 : decode cX9_yardOf 93 = .ok (.goto (-85), 3) := by decide +kernel
theorem dX9_yardOf_96 : decode cX9_yardOf 96 = .ok (.bipush (-4), 2) := by decide +kernel
theorem dX9_yardOf_98 : decode cX9_yardOf 98 = .ok (.ireturn, 1) := by decide +kernel
theorem dX9_levelAt_0 : decode cX9_levelAt 0 = .ok (.iload_n 1, 1) := by decide +kernel
theorem dX9_levelAt_1 : decode cX9_levelAt 1 = .ok (.iload_n 2, 1) := by decide +kernel
theorem dX9_levelAt_2 : decode cX9_levelAt 2 = .ok (.imul, 1) := by decide +kernel
theorem dX9_levelAt_3 : decode cX9_levelAt 3 = .ok (.iload_n 0, 1) := by decide +kernel
theorem dX9_levelAt_4 : decode cX9_levelAt 4 = .ok (.iload_n 1, 1) := by decide +kernel
theorem dX9_levelAt_5 : decode cX9_levelAt 5 = .ok (.iadd, 1) := by decide +kernel
theorem dX9_levelAt_6 : decode cX9_levelAt 6 = .ok (.iload_n 3, 1) := by decide +kernel
theorem dX9_levelAt_7 : decode cX9_levelAt 7 = .ok (.invokestatic 242, 3) := by decide +kernel
theorem dX9_levelAt_10 : decode cX9_levelAt 10 = .ok (.ireturn, 1) := by decide +kernel
theorem dX9_inLowestTerms_0 : decode cX9_inLowestTerms 0 = .ok (.iload_n 1, 1) := by decide +kernel
theorem dX9_inLowestTerms_1 : decode cX9_inLowestTerms 1 = .ok (.istore_n 3, 1) := by decide +kernel
theorem dX9_inLowestTerms_2 : decode cX9_inLowestTerms 2 = .ok (.iload_n 0, 1) := by decide +kernel
theorem dX9_inLowestTerms_3 : decode cX9_inLowestTerms 3 = .ok (.istore 4, 2) := by decide +kernel
theorem dX9_inLowestTerms_5 : decode cX9_inLowestTerms 5 = .ok (.iconst 0, 1) := by decide +kernel
theorem dX9_inLowestTerms_6 : decode cX9_inLowestTerms 6 = .ok (.istore 5, 2) := by decide +kernel
theorem dX9_inLowestTerms_8 : decode cX9_inLowestTerms 8 = .ok (.iload 5, 2) := by decide +kernel
theorem dX9_inLowestTerms_10 : decode cX9_inLowestTerms 10 = .ok (.bipush 100, 2) := by decide +kernel
theorem dX9_inLowestTerms_12 : decode cX9_inLowestTerms 12 = .ok (.if_icmp .ge 27, 3) := by decide +kernel
theorem dX9_inLowestTerms_15 : decode cX9_inLowestTerms 15 = .ok (.iload 4, 2) := by decide +kernel
theorem dX9_inLowestTerms_17 : decode cX9_inLowestTerms 17 = .ok (.ifCond .le 22, 3) := by decide +kernel
theorem dX9_inLowestTerms_20 : decode cX9_inLowestTerms 20 = .ok (.iload_n 3, 1) := by decide +kernel
theorem dX9_inLowestTerms_21 : decode cX9_inLowestTerms 21 = .ok (.iload 4, 2) := by decide +kernel
theorem dX9_inLowestTerms_23 : decode cX9_inLowestTerms 23 = .ok (.irem, 1) := by decide +kernel
theorem dX9_inLowestTerms_24 : decode cX9_inLowestTerms 24 = .ok (.istore 6, 2) := by decide +kernel
theorem dX9_inLowestTerms_26 : decode cX9_inLowestTerms 26 = .ok (.iload 4, 2) := by decide +kernel
theorem dX9_inLowestTerms_28 : decode cX9_inLowestTerms 28 = .ok (.istore_n 3, 1) := by decide +kernel
theorem dX9_inLowestTerms_29 : decode cX9_inLowestTerms 29 = .ok (.iload 6, 2) := by decide +kernel
theorem dX9_inLowestTerms_31 : decode cX9_inLowestTerms 31 = .ok (.istore 4, 2) := by decide +kernel
theorem dX9_inLowestTerms_33 : decode cX9_inLowestTerms 33 = .ok (.iinc 5 1, 3) := by decide +kernel
theorem dX9_inLowestTerms_36 : decode cX9_inLowestTerms 36 = .ok (.goto (-28), 3) := by decide +kernel
theorem dX9_inLowestTerms_39 : decode cX9_inLowestTerms 39 = .ok (.iload_n 3, 1) := by decide +kernel
theorem dX9_inLowestTerms_40 : decode cX9_inLowestTerms 40 = .ok (.iconst 1, 1) := by decide +kernel
theorem dX9_inLowestTerms_41 : decode cX9_inLowestTerms 41 = .ok (.if_icmp .ge 13, 3) := by decide +kernel
theorem dX9_inLowestTerms_44 : decode cX9_inLowestTerms 44 = .ok (.iload_n 2, 1) := by decide +kernel
theorem dX9_inLowestTerms_45 : decode cX9_inLowestTerms 45 = .ok (.ifCond .ne 7, 3) := by decide +kernel
theorem dX9_inLowestTerms_48 : decode cX9_inLowestTerms 48 = .ok (.iload_n 0, 1) := by decide +kernel
theorem dX9_inLowestTerms_49 : decode cX9_inLowestTerms 49 = .ok (.goto 4, 3) := by decide +kernel
theorem dX9_inLowestTerms_52 : decode cX9_inLowestTerms 52 = .ok (.iload_n 1, 1) := by decide +kernel
theorem dX9_inLowestTerms_53 : decode cX9_inLowestTerms 53 = .ok (.ireturn, 1) := by decide +kernel
theorem dX9_inLowestTerms_54 : decode cX9_inLowestTerms 54 = .ok (.iload_n 2, 1) := by decide +kernel
theorem dX9_inLowestTerms_55 : decode cX9_inLowestTerms 55 = .ok (.ifCond .ne 9, 3) := by decide +kernel
theorem dX9_inLowestTerms_58 : decode cX9_inLowestTerms 58 = .ok (.iload_n 0, 1) := by decide +kernel
theorem dX9_inLowestTerms_59 : decode cX9_inLowestTerms 59 = .ok (.iload_n 3, 1) := by decide +kernel
theorem dX9_inLowestTerms_60 : decode cX9_inLowestTerms 60 = .ok (.idiv, 1) := by decide +kernel
theorem dX9_inLowestTerms_61 : decode cX9_inLowestTerms 61 = .ok (.goto 6, 3) := by decide +kernel
theorem dX9_inLowestTerms_64 : decode cX9_inLowestTerms 64 = .ok (.iload_n 1, 1) := by decide +kernel
theorem dX9_inLowestTerms_65 : decode cX9_inLowestTerms 65 = .ok (.iload_n 3, 1) := by decide +kernel
theorem dX9_inLowestTerms_66 : decode cX9_inLowestTerms 66 = .ok (.idiv, 1) := by decide +kernel
theorem dX9_inLowestTerms_67 : decode cX9_inLowestTerms 67 = .ok (.ireturn, 1) := by decide +kernel
