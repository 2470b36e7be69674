theorem dX7_init_0 : decode cX7_init 0 = .ok (.aload_n 0, 1) := by decide +kernel
theorem dX7_init_1 : decode cX7_init 1 = .ok (.invokespecial 1, 3) := by decide +kernel
theorem dX7_init_4 : decode cX7_init 4 = .ok (.aload_n 0, 1) := by decide +kernel
theorem dX7_init_5 : decode cX7_init 5 = .ok (.bipush 60, 2) := by decide +kernel
theorem dX7_init_7 : decode cX7_init 7 = .ok (.newarray .int, 2) := by decide +kernel
theorem dX7_init_9 : decode cX7_init 9 = .ok (.putfield 7, 3) := by decide +kernel
theorem dX7_init_12 : decode cX7_init 12 = .ok (.aload_n 0, 1) := by decide +kernel
theorem dX7_init_13 : decode cX7_init 13 = .ok (.bipush 10, 2) := by decide +kernel
theorem dX7_init_15 : decode cX7_init 15 = .ok (.newarray .int, 2) := by decide +kernel
theorem dX7_init_17 : decode cX7_init 17 = .ok (.putfield 13, 3) := by decide +kernel
theorem dX7_init_20 : decode cX7_init 20 = .ok (.aload_n 0, 1) := by decide +kernel
theorem dX7_init_21 : decode cX7_init 21 = .ok (.bipush (-6), 2) := by decide +kernel
theorem dX7_init_23 : decode cX7_init 23 = .ok (.putfield 16, 3) := by decide +kernel
theorem dX7_init_26 : decode cX7_init 26 = .ok (.aload_n 0, 1) := by decide +kernel
theorem dX7_init_27 : decode cX7_init 27 = .ok (.bipush 96, 2) := by decide +kernel
theorem dX7_init_29 : decode cX7_init 29 = .ok (.newarray .int, 2) := by decide +kernel
theorem dX7_init_31 : decode cX7_init 31 = .ok (.putfield 20, 3) := by decide +kernel
theorem dX7_init_34 : decode cX7_init 34 = .ok (.aload_n 0, 1) := by decide +kernel
theorem dX7_init_35 : decode cX7_init 35 = .ok (.bipush 16, 2) := by decide +kernel
theorem dX7_init_37 : decode cX7_init 37 = .ok (.newarray .int, 2) := by decide +kernel
theorem dX7_init_39 : decode cX7_init 39 = .ok (.putfield 23, 3) := by decide +kernel
theorem dX7_init_42 : decode cX7_init 42 = .ok (.aload_n 0, 1) := by decide +kernel
theorem dX7_init_43 : decode cX7_init 43 = .ok (.bipush 16, 2) := by decide +kernel
theorem dX7_init_45 : decode cX7_init 45 = .ok (.newarray .int, 2) := by decide +kernel
theorem dX7_init_47 : decode cX7_init 47 = .ok (.putfield 26, 3) := by decide +kernel
theorem dX7_init_50 : decode cX7_init 50 = .ok (.aload_n 0, 1) := by decide +kernel
theorem dX7_init_51 : decode cX7_init 51 = .ok (.sipush 256, 3) := by decide +kernel
theorem dX7_init_54 : decode cX7_init 54 = .ok (.newarray .int, 2) := by decide +kernel
theorem dX7_init_56 : decode cX7_init 56 = .ok (.putfield 29, 3) := by decide +kernel
theorem dX7_init_59 : decode cX7_init 59 = .ok (.aload_n 0, 1) := by decide +kernel
theorem dX7_init_60 : decode cX7_init 60 = .ok (.bipush 122, 2) := by decide +kernel
theorem dX7_init_62 : decode cX7_init 62 = .ok (.newarray .int, 2) := by decide +kernel
theorem dX7_init_64 : decode cX7_init 64 = .ok (.putfield 32, 3) := by decide +kernel
theorem dX7_init_67 : decode cX7_init 67 = .ok (.aload_n 0, 1) := by decide +kernel
theorem dX7_init_68 : decode cX7_init 68 = .ok (.iconst 2, 1) := by decide +kernel
theorem dX7_init_69 : decode cX7_init 69 = .ok (.newarray .boolean, 2) := by decide +kernel
theorem dX7_init_71 : decode cX7_init 71 = .ok (.putfield 35, 3) := by decide +kernel
theorem dX7_init_74 : decode cX7_init 74 = .ok (.iconst 0, 1) := by decide +kernel
theorem dX7_init_75 : decode cX7_init 75 = .ok (.istore_n 1, 1) := by decide +kernel
theorem dX7_init_76 : decode cX7_init 76 = .ok (.iconst 0, 1) := by decide +kernel
theorem dX7_init_77 : decode cX7_init 77 = .ok (.istore_n 2, 1) := by decide +kernel
theorem dX7_init_78 : decode cX7_init 78 = .ok (.iload_n 2, 1) := by decide +kernel
theorem dX7_init_79 : decode cX7_init 79 = .ok (.sipush 256, 3) := by decide +kernel
theorem dX7_init_82 : decode cX7_init 82 = .ok (.if_icmp .ge 129, 3) := by decide +kernel
theorem dX7_init_85 : decode cX7_init 85 = .ok (.iload_n 2, 1) := by decide +kernel
theorem dX7_init_86 : decode cX7_init 86 = .ok (.bipush 64, 2) := by decide +kernel
theorem dX7_init_88 : decode cX7_init 88 = .ok (.idiv, 1) := by decide +kernel
theorem dX7_init_89 : decode cX7_init 89 = .ok (.istore_n 3, 1) := by decide +kernel
theorem dX7_init_90 : decode cX7_init 90 = .ok (.iload_n 2, 1) := by decide +kernel
theorem dX7_init_91 : decode cX7_init 91 = .ok (.bipush 16, 2) := by decide +kernel
theorem dX7_init_93 : decode cX7_init 93 = .ok (.idiv, 1) := by decide +kernel
theorem dX7_init_94 : decode cX7_init 94 = .ok (.iconst 4, 1) := by decide +kernel
theorem dX7_init_95 : decode cX7_init 95 = .ok (.irem, 1) := by decide +kernel
theorem dX7_init_96 : decode cX7_init 96 = .ok (.istore 4, 2) := by decide +kernel
theorem dX7_init_98 : decode cX7_init 98 = .ok (.iload_n 2, 1) := by decide +kernel
theorem dX7_init_99 : decode cX7_init 99 = .ok (.iconst 4, 1) := by decide +kernel
theorem dX7_init_100 : decode cX7_init 100 = .ok (.idiv, 1) := by decide +kernel
theorem dX7_init_101 : decode cX7_init 101 = .ok (.iconst 4, 1) := by decide +kernel
theorem dX7_init_102 : decode cX7_init 102 = .ok (.irem, 1) := by decide +kernel
theorem dX7_init_103 : decode cX7_init 103 = .ok (.istore 5, 2) := by decide +kernel
theorem dX7_init_105 : decode cX7_init 105 = .ok (.iload_n 2, 1) := by decide +kernel
theorem dX7_init_106 : decode cX7_init 106 = .ok (.iconst 4, 1) := by decide +kernel
theorem dX7_init_107 : decode cX7_init 107 = .ok (.irem, 1) := by decide +kernel
theorem dX7_init_108 : decode cX7_init 108 = .ok (.istore 6, 2) := by decide +kernel
theorem dX7_init_110 : decode cX7_init 110 = .ok (.iload_n 3, 1) := by decide +kernel
theorem dX7_init_111 : decode cX7_init 111 = .ok (.iload 4, 2) := by decide +kernel
theorem dX7_init_113 : decode cX7_init 113 = .ok (.if_icmp .eq 92, 3) := by decide +kernel
theorem dX7_init_116 : decode cX7_init 116 = .ok (.iload_n 3, 1) := by decide +kernel
theorem dX7_init_117 : decode cX7_init 117 = .ok (.iload 5, 2) := by decide +kernel
theorem dX7_init_119 : decode cX7_init 119 = .ok (.if_icmp .eq 86, 3) := by decide +kernel
theorem dX7_init_122 : decode cX7_init 122 = .ok (.iload_n 3, 1) := by decide +kernel
theorem dX7_init_123 : decode cX7_init 123 = .ok (.iload 6, 2) := by decide +kernel
theorem dX7_init_125 : decode cX7_init 125 = .ok (.if_icmp .eq 80, 3) := by decide +kernel
theorem dX7_init_128 : decode cX7_init 128 = .ok (.iload 4, 2) := by decide +kernel
theorem dX7_init_130 : decode cX7_init 130 = .ok (.iload 5, 2) := by decide +kernel
theorem dX7_init_132 : decode cX7_init 132 = .ok (.if_icmp .eq 73, 3) := by decide +kernel
theorem dX7_init_135 : decode cX7_init 135 = .ok (.iload 4, 2) := by decide +kernel
theorem dX7_init_137 : decode cX7_init 137 = .ok (.iload 6, 2) := by decide +kernel
theorem dX7_init_139 : decode cX7_init 139 = .ok (.if_icmp .eq 66, 3) := by decide +kernel
theorem dX7_init_142 : decode cX7_init 142 = .ok (.iload 5, 2) := by decide +kernel
theorem dX7_init_144 : decode cX7_init 144 = .ok (.iload 6, 2) := by decide +kernel
theorem dX7_init_146 : decode cX7_init 146 = .ok (.if_icmp .eq 59, 3) := by decide +kernel
theorem dX7_init_149 : decode cX7_init 149 = .ok (.aload_n 0, 1) := by decide +kernel
theorem dX7_init_150 : decode cX7_init 150 = .ok (.getfield 20, 3) := by decide +kernel
theorem dX7_init_153 : decode cX7_init 153 = .ok (.iconst 4, 1) := by decide +kernel
theorem dX7_init_154 : decode cX7_init 154 = .ok (.iload_n 1, 1) := by decide +kernel
theorem dX7_init_155 : decode cX7_init 155 = .ok (.imul, 1) := by decide +kernel
theorem dX7_init_156 : decode cX7_init 156 = .ok (.iload_n 3, 1) := by decide +kernel
theorem dX7_init_157 : decode cX7_init 157 = .ok (.iconst 1, 1) := by decide +kernel
theorem dX7_init_158 : decode cX7_init 158 = .ok (.iadd, 1) := by decide +kernel
theorem dX7_init_159 : decode cX7_init 159 = .ok (.iastore, 1) := by decide +kernel
theorem dX7_init_160 : decode cX7_init 160 = .ok (.aload_n 0, 1) := by decide +kernel
theorem dX7_init_161 : decode cX7_init 161 = .ok (.getfield 20, 3) := by decide +kernel
theorem dX7_init_164 : decode cX7_init 164 = .ok (.iconst 4, 1) := by decide +kernel
theorem dX7_init_165 : decode cX7_init 165 = .ok (.iload_n 1, 1) := by decide +kernel
theorem dX7_init_166 : decode cX7_init 166 = .ok (.imul, 1) := by decide +kernel
theorem dX7_init_167 : decode cX7_init 167 = .ok (.iconst 1, 1) := by decide +kernel
theorem dX7_init_168 : decode cX7_init 168 = .ok (.iadd, 1) := by decide +kernel
theorem dX7_init_169 : decode cX7_init 169 = .ok (.iload 4, 2) := by decide +kernel
theorem dX7_init_171 : decode cX7_init 171 = .ok (.iconst 1, 1) := by decide +kernel
theorem dX7_init_172 : decode cX7_init 172 = .ok (.iadd, 1) := by decide +kernel
theorem dX7_init_173 : decode cX7_init 173 = .ok (.iastore, 1) := by decide +kernel
theorem dX7_init_174 : decode cX7_init 174 = .ok (.aload_n 0, 1) := by decide +kernel
theorem dX7_init_175 : decode cX7_init 175 = .ok (.getfield 20, 3) := by decide +kernel
theorem dX7_init_178 : decode cX7_init 178 = .ok (.iconst 4, 1) := by decide +kernel
theorem dX7_init_179 : decode cX7_init 179 = .ok (.iload_n 1, 1) := by decide +kernel
theorem dX7_init_180 : decode cX7_init 180 = .ok (.imul, 1) := by decide +kernel
theorem dX7_init_181 : decode cX7_init 181 = .ok (.iconst 2, 1) := by decide +kernel
theorem dX7_init_182 : decode cX7_init 182 = .ok (.iadd, 1) := by decide +kernel
theorem dX7_init_183 : decode cX7_init 183 = .ok (.iload 5, 2) := by decide +kernel
theorem dX7_init_185 : decode cX7_init 185 = .ok (.iconst 1, 1) := by decide +kernel
theorem dX7_init_186 : decode cX7_init 186 = .ok (.iadd, 1) := by decide +kernel
theorem dX7_init_187 : decode cX7_init 187 = .ok (.iastore, 1) := by decide +kernel
theorem dX7_init_188 : decode cX7_init 188 = .ok (.aload_n 0, 1) := by decide +kernel
theorem dX7_init_189 : decode cX7_init 189 = .ok (.getfield 20, 3) := by decide +kernel
theorem dX7_init_192 : decode cX7_init 192 = .ok (.iconst 4, 1) := by decide +kernel
theorem dX7_init_193 : decode cX7_init 193 = .ok (.iload_n 1, 1) := by decide +kernel
theorem dX7_init_194 : decode cX7_init 194 = .ok (.imul, 1) := by decide +kernel
theorem dX7_init_195 : decode cX7_init 195 = .ok (.iconst 3, 1) := by decide +kernel
theorem dX7_init_196 : decode cX7_init 196 = .ok (.iadd, 1) := by decide +kernel
theorem dX7_init_197 : decode cX7_init 197 = .ok (.iload 6, 2) := by decide +kernel
theorem dX7_init_199 : decode cX7_init 199 = .ok (.iconst 1, 1) := by decide +kernel
theorem dX7_init_200 : decode cX7_init 200 = .ok (.iadd, 1) := by decide +kernel
theorem dX7_init_201 : decode cX7_init 201 = .ok (.iastore, 1) := by decide +kernel
theorem dX7_init_202 : decode cX7_init 202 = .ok (.iinc 1 1, 3) := by decide +kernel
theorem dX7_init_205 : decode cX7_init 205 = .ok (.iinc 2 1, 3) := by decide +kernel
theorem dX7_init_208 : decode cX7_init 208 = .ok (.goto (-130), 3) := by decide +kernel
theorem dX7_init_211 : decode cX7_init 211 = .ok (.return_, 1) := by decide +kernel
theorem dX7_in_0 : decode cX7_in 0 = .ok (.iload_n 0, 1) := by decide +kernel
theorem dX7_in_1 : decode cX7_in 1 = .ok (.iload_n 1, 1) := by decide +kernel
theorem dX7_in_2 : decode cX7_in 2 = .ok (.if_icmp .lt 12, 3) := by decide +kernel
theorem dX7_in_5 : decode cX7_in 5 = .ok (.iload_n 0, 1) := by decide +kernel
theorem dX7_in_6 : decode cX7_in 6 = .ok (.iload_n 2, 1) := by decide +kernel
theorem dX7_in_7 : decode cX7_in 7 = .ok (.if_icmp .gt 7, 3) := by decide +kernel
theorem dX7_in_10 : decode cX7_in 10 = .ok (.iconst 1, 1) := by decide +kernel
theorem dX7_in_11 : decode cX7_in 11 = .ok (.goto 4, 3) := by decide +kernel
theorem dX7_in_14 : decode cX7_in 14 = .ok (.iconst 0, 1) := by decide +kernel
theorem dX7_in_15 : decode cX7_in 15 = .ok (.ireturn, 1) := by decide +kernel
set_option maxRecDepth 20000 in
theorem ggX7_isItem_X7_in : GoodIn wsX7_isItem wsX7_in := goodIn_r _ [4] (by decide +kernel) (by decide +kernel)
set_option maxRecDepth 20000 in
theorem gX7_isItem_X7_in : GoodIn wsX7_isItem (va_wsS RX7 39 yX7_in wsX7_in) := goodIn_app (goodIn_of _ (by decide +kernel)) ggX7_isItem_X7_in
theorem dX7_isItem_0 : decode cX7_isItem 0 = .ok (.iload_n 0, 1) := by decide +kernel
theorem dX7_isItem_1 : decode cX7_isItem 1 = .ok (.iconst 0, 1) := by decide +kernel
theorem dX7_isItem_2 : decode cX7_isItem 2 = .ok (.bipush 15, 2) := by decide +kernel
theorem dX7_isItem_4 : decode cX7_isItem 4 = .ok (.invokestatic 39, 3) := by decide +kernel
theorem dX7_isItem_7 : decode cX7_isItem 7 = .ok (.ireturn, 1) := by decide +kernel
set_option maxRecDepth 20000 in
theorem ggX7_isPlace_X7_in : GoodIn wsX7_isPlace wsX7_in := goodIn_r _ [4] (by decide +kernel) (by decide +kernel)
set_option maxRecDepth 20000 in
theorem gX7_isPlace_X7_in : GoodIn wsX7_isPlace (va_wsS RX7 39 yX7_in wsX7_in) := goodIn_app (goodIn_of _ (by decide +kernel)) ggX7_isPlace_X7_in
theorem dX7_isPlace_0 : decode cX7_isPlace 0 = .ok (.iload_n 0, 1) := by decide +kernel
theorem dX7_isPlace_1 : decode cX7_isPlace 1 = .ok (.iconst 1, 1) := by decide +kernel
theorem dX7_isPlace_2 : decode cX7_isPlace 2 = .ok (.iconst 4, 1) := by decide +kernel
theorem dX7_isPlace_3 : decode cX7_isPlace 3 = .ok (.invokestatic 39, 3) := by decide +kernel
theorem dX7_isPlace_6 : decode cX7_isPlace 6 = .ok (.ireturn, 1) := by decide +kernel
theorem dX7_has_0 : decode cX7_has 0 = .ok (.iload_n 0, 1) := by decide +kernel
theorem dX7_has_1 : decode cX7_has 1 = .ok (.iload_n 1, 1) := by decide +kernel
theorem dX7_has_2 : decode cX7_has 2 = .ok (.ishr, 1) := by decide +kernel
theorem dX7_has_3 : decode cX7_has 3 = .ok (.iconst 1, 1) := by decide +kernel
theorem dX7_has_4 : decode cX7_has 4 = .ok (.iand, 1) := by decide +kernel
theorem dX7_has_5 : decode cX7_has 5 = .ok (.iconst 1, 1) := by decide +kernel
theorem dX7_has_6 : decode cX7_has 6 = .ok (.if_icmp .ne 7, 3) := by decide +kernel
theorem dX7_has_9 : decode cX7_has 9 = .ok (.iconst 1, 1) := by decide +kernel
theorem dX7_has_10 : decode cX7_has 10 = .ok (.goto 4, 3) := by decide +kernel
theorem dX7_has_13 : decode cX7_has 13 = .ok (.iconst 0, 1) := by decide +kernel
theorem dX7_has_14 : decode cX7_has 14 = .ok (.ireturn, 1) := by decide +kernel
set_option maxRecDepth 20000 in
theorem ggX7_isClue_X7_in : GoodIn wsX7_isClue wsX7_in := goodIn_r _ [5] (by decide +kernel) (by decide +kernel)
set_option maxRecDepth 20000 in
theorem gX7_isClue_X7_in : GoodIn wsX7_isClue (va_wsS RX7 39 yX7_in wsX7_in) := goodIn_app (goodIn_of _ (by decide +kernel)) ggX7_isClue_X7_in
theorem dX7_isClue_0 : decode cX7_isClue 0 = .ok (.iload_n 1, 1) := by decide +kernel
theorem dX7_isClue_1 : decode cX7_isClue 1 = .ok (.iconst 0, 1) := by decide +kernel
theorem dX7_isClue_2 : decode cX7_isClue 2 = .ok (.aload_n 0, 1) := by decide +kernel
theorem dX7_isClue_3 : decode cX7_isClue 3 = .ok (.getfield 43, 3) := by decide +kernel
theorem dX7_isClue_6 : decode cX7_isClue 6 = .ok (.iconst 1, 1) := by decide +kernel
theorem dX7_isClue_7 : decode cX7_isClue 7 = .ok (.isub, 1) := by decide +kernel
theorem dX7_isClue_8 : decode cX7_isClue 8 = .ok (.invokestatic 39, 3) := by decide +kernel
theorem dX7_isClue_11 : decode cX7_isClue 11 = .ok (.ireturn, 1) := by decide +kernel
theorem dX7_of_0 : decode cX7_of 0 = .ok (.aload_n 0, 1) := by decide +kernel
theorem dX7_of_1 : decode cX7_of 1 = .ok (.getfield 7, 3) := by decide +kernel
theorem dX7_of_4 : decode cX7_of 4 = .ok (.iconst 5, 1) := by decide +kernel
theorem dX7_of_5 : decode cX7_of 5 = .ok (.iload_n 1, 1) := by decide +kernel
theorem dX7_of_6 : decode cX7_of 6 = .ok (.imul, 1) := by decide +kernel
theorem dX7_of_7 : decode cX7_of 7 = .ok (.iload_n 2, 1) := by decide +kernel
theorem dX7_of_8 : decode cX7_of 8 = .ok (.iadd, 1) := by decide +kernel
theorem dX7_of_9 : decode cX7_of 9 = .ok (.iaload, 1) := by decide +kernel
theorem dX7_of_10 : decode cX7_of 10 = .ok (.ireturn, 1) := by decide +kernel
set_option maxRecDepth 20000 in
theorem ggX7_say_X7_in : GoodIn wsX7_say wsX7_in := goodIn_r _ [6] (by decide +kernel) (by decide +kernel)
set_option maxRecDepth 20000 in
theorem gX7_say_X7_in : GoodIn wsX7_say (va_wsS RX7 39 yX7_in wsX7_in) := goodIn_app (goodIn_of _ (by decide +kernel)) ggX7_say_X7_in
theorem dX7_say_0 : decode cX7_say 0 = .ok (.iload_n 1, 1) := by decide +kernel
theorem dX7_say_1 : decode cX7_say 1 = .ok (.bipush 33, 2) := by decide +kernel
theorem dX7_say_3 : decode cX7_say 3 = .ok (.bipush 126, 2) := by decide +kernel
theorem dX7_say_5 : decode cX7_say 5 = .ok (.invokestatic 39, 3) := by decide +kernel
theorem dX7_say_8 : decode cX7_say 8 = .ok (.ifCond .ne 6, 3) := by decide +kernel
theorem dX7_say_11 : decode cX7_say 11 = .ok (.bipush (-2), 2) := by decide +kernel
theorem dX7_say_13 : decode cX7_say 13 = .ok (.ireturn, 1) := by decide +kernel
theorem dX7_say_14 : decode cX7_say 14 = .ok (.aload_n 0, 1) := by decide +kernel
theorem dX7_say_15 : decode cX7_say 15 = .ok (.getfield 46, 3) := by decide +kernel
theorem dX7_say_18 : decode cX7_say 18 = .ok (.bipush 10, 2) := by decide +kernel
theorem dX7_say_20 : decode cX7_say 20 = .ok (.if_icmp .ne 6, 3) := by decide +kernel
theorem dX7_say_23 : decode cX7_say 23 = .ok (.bipush (-4), 2) := by decide +kernel
theorem dX7_say_25 : decode cX7_say 25 = .ok (.ireturn, 1) := by decide +kernel
theorem dX7_say_26 : decode cX7_say 26 = .ok (.aload_n 0, 1) := by decide +kernel
theorem dX7_say_27 : decode cX7_say 27 = .ok (.getfield 13, 3) := by decide +kernel
theorem dX7_say_30 : decode cX7_say 30 = .ok (.aload_n 0, 1) := by decide +kernel
theorem dX7_say_31 : decode cX7_say 31 = .ok (.getfield 46, 3) := by decide +kernel
theorem dX7_say_34 : decode cX7_say 34 = .ok (.iload_n 1, 1) := by decide +kernel
theorem dX7_say_35 : decode cX7_say 35 = .ok (.iastore, 1) := by decide +kernel
theorem dX7_say_36 : decode cX7_say 36 = .ok (.aload_n 0, 1) := by decide +kernel
theorem dX7_say_37 : decode cX7_say 37 = .ok (.dup, 1) := by decide +kernel
theorem dX7_say_38 : decode cX7_say 38 = .ok (.getfield 46, 3) := by decide +kernel
theorem dX7_say_41 : decode cX7_say 41 = .ok (.iconst 1, 1) := by decide +kernel
theorem dX7_say_42 : decode cX7_say 42 = .ok (.iadd, 1) := by decide +kernel
theorem dX7_say_43 : decode cX7_say 43 = .ok (.putfield 46, 3) := by decide +kernel
theorem dX7_say_46 : decode cX7_say 46 = .ok (.aload_n 0, 1) := by decide +kernel
theorem dX7_say_47 : decode cX7_say 47 = .ok (.getfield 46, 3) := by decide +kernel
theorem dX7_say_50 : decode cX7_say 50 = .ok (.ireturn, 1) := by decide +kernel
theorem dX7_wipe_0 : decode cX7_wipe 0 = .ok (.aload_n 0, 1) := by decide +kernel
theorem dX7_wipe_1 : decode cX7_wipe 1 = .ok (.getfield 46, 3) := by decide +kernel
theorem dX7_wipe_4 : decode cX7_wipe 4 = .ok (.istore_n 1, 1) := by decide +kernel
theorem dX7_wipe_5 : decode cX7_wipe 5 = .ok (.aload_n 0, 1) := by decide +kernel
theorem dX7_wipe_6 : decode cX7_wipe 6 = .ok (.iconst 0, 1) := by decide +kernel
theorem dX7_wipe_7 : decode cX7_wipe 7 = .ok (.putfield 46, 3) := by decide +kernel
theorem dX7_wipe_10 : decode cX7_wipe 10 = .ok (.iload_n 1, 1) := by decide +kernel
theorem dX7_wipe_11 : decode cX7_wipe 11 = .ok (.ireturn, 1) := by decide +kernel
theorem dX7_kindOf_0 : decode cX7_kindOf 0 = .ok (.iload_n 0, 1) := by decide +kernel
theorem dX7_kindOf_1 : decode cX7_kindOf 1 = .ok (.bipush 61, 2) := by decide +kernel
theorem dX7_kindOf_3 : decode cX7_kindOf 3 = .ok (.if_icmp .ne 7, 3) := by decide +kernel
theorem dX7_kindOf_6 : decode cX7_kindOf 6 = .ok (.iconst 0, 1) := by decide +kernel
theorem dX7_kindOf_7 : decode cX7_kindOf 7 = .ok (.goto 55, 3) := by decide +kernel
theorem dX7_kindOf_10 : decode cX7_kindOf 10 = .ok (.iload_n 0, 1) := by decide +kernel
theorem dX7_kindOf_11 : decode cX7_kindOf 11 = .ok (.bipush 33, 2) := by decide +kernel
theorem dX7_kindOf_13 : decode cX7_kindOf 13 = .ok (.if_icmp .ne 7, 3) := by decide +kernel
theorem dX7_kindOf_16 : decode cX7_kindOf 16 = .ok (.iconst 1, 1) := by decide +kernel
theorem dX7_kindOf_17 : decode cX7_kindOf 17 = .ok (.goto 45, 3) := by decide +kernel
theorem dX7_kindOf_20 : decode cX7_kindOf 20 = .ok (.iload_n 0, 1) := by decide +kernel
theorem dX7_kindOf_21 : decode cX7_kindOf 21 = .ok (.bipush 60, 2) := by decide +kernel
theorem dX7_kindOf_23 : decode cX7_kindOf 23 = .ok (.if_icmp .ne 7, 3) := by decide +kernel
theorem dX7_kindOf_26 : decode cX7_kindOf 26 = .ok (.iconst 2, 1) := by decide +kernel
theorem dX7_kindOf_27 : decode cX7_kindOf 27 = .ok (.goto 35, 3) := by decide +kernel
theorem dX7_kindOf_30 : decode cX7_kindOf 30 = .ok (.iload_n 0, 1) := by decide +kernel
theorem dX7_kindOf_31 : decode cX7_kindOf 31 = .ok (.bipush 43, 2) := by decide +kernel
theorem dX7_kindOf_33 : decode cX7_kindOf 33 = .ok (.if_icmp .ne 7, 3) := by decide +kernel
theorem dX7_kindOf_36 : decode cX7_kindOf 36 = .ok (.iconst 3, 1) := by decide +kernel
theorem dX7_kindOf_37 : decode cX7_kindOf 37 = .ok (.goto 25, 3) := by decide +kernel
theorem dX7_kindOf_40 : decode cX7_kindOf 40 = .ok (.iload_n 0, 1) := by decide +kernel
theorem dX7_kindOf_41 : decode cX7_kindOf 41 = .ok (.bipush 126, 2) := by decide +kernel
theorem dX7_kindOf_43 : decode cX7_kindOf 43 = .ok (.if_icmp .ne 7, 3) := by decide +kernel
theorem dX7_kindOf_46 : decode cX7_kindOf 46 = .ok (.iconst 4, 1) := by decide +kernel
theorem dX7_kindOf_47 : decode cX7_kindOf 47 = .ok (.goto 15, 3) := by decide +kernel
theorem dX7_kindOf_50 : decode cX7_kindOf 50 = .ok (.iload_n 0, 1) := by decide +kernel
theorem dX7_kindOf_51 : decode cX7_kindOf 51 = .ok (.bipush 64, 2) := by decide +kernel
theorem dX7_kindOf_53 : decode cX7_kindOf 53 = .ok (.if_icmp .ne 7, 3) := by decide +kernel
theorem dX7_kindOf_56 : decode cX7_kindOf 56 = .ok (.iconst 5, 1) := by decide +kernel
theorem dX7_kindOf_57 : decode cX7_kindOf 57 = .ok (.goto 5, 3) := by decide +kernel
theorem dX7_kindOf_60 : decode cX7_kindOf 60 = .ok (.bipush (-6), 2) := by decide +kernel
theorem dX7_kindOf_62 : decode cX7_kindOf 62 = .ok (.ireturn, 1) := by decide +kernel
set_option maxRecDepth 20000 in
theorem ggX7_canStand_X7_in : GoodIn wsX7_canStand wsX7_in := goodIn_r _ [5] (by decide +kernel) (by decide +kernel)
set_option maxRecDepth 20000 in
theorem gX7_canStand_X7_in : GoodIn wsX7_canStand (va_wsS RX7 39 yX7_in wsX7_in) := goodIn_app (goodIn_of _ (by decide +kernel)) ggX7_canStand_X7_in
set_option maxRecDepth 20000 in
theorem ggX7_canStand_X7_kindOf : GoodIn wsX7_canStand wsX7_kindOf := goodIn_r _ [8] (by decide +kernel) (by decide +kernel)
set_option maxRecDepth 20000 in
theorem gX7_canStand_X7_kindOf : GoodIn wsX7_canStand (va_wsS RX7 49 yX7_kindOf wsX7_kindOf) := goodIn_app (goodIn_of _ (by decide +kernel)) ggX7_canStand_X7_kindOf
theorem dX7_canStand_0 : decode cX7_canStand 0 = .ok (.aload_n 0, 1) := by decide +kernel
theorem dX7_canStand_1 : decode cX7_canStand 1 = .ok (.getfield 13, 3) := by decide +kernel
theorem dX7_canStand_4 : decode cX7_canStand 4 = .ok (.iload_n 1, 1) := by decide +kernel
theorem dX7_canStand_5 : decode cX7_canStand 5 = .ok (.iaload, 1) := by decide +kernel
theorem dX7_canStand_6 : decode cX7_canStand 6 = .ok (.istore_n 2, 1) := by decide +kernel
theorem dX7_canStand_7 : decode cX7_canStand 7 = .ok (.iload_n 2, 1) := by decide +kernel
theorem dX7_canStand_8 : decode cX7_canStand 8 = .ok (.bipush 97, 2) := by decide +kernel
theorem dX7_canStand_10 : decode cX7_canStand 10 = .ok (.bipush 100, 2) := by decide +kernel
theorem dX7_canStand_12 : decode cX7_canStand 12 = .ok (.invokestatic 39, 3) := by decide +kernel
theorem dX7_canStand_15 : decode cX7_canStand 15 = .ok (.istore_n 3, 1) := by decide +kernel
theorem dX7_canStand_16 : decode cX7_canStand 16 = .ok (.iload_n 2, 1) := by decide +kernel
theorem dX7_canStand_17 : decode cX7_canStand 17 = .ok (.bipush 49, 2) := by decide +kernel
theorem dX7_canStand_19 : decode cX7_canStand 19 = .ok (.bipush 52, 2) := by decide +kernel
theorem dX7_canStand_21 : decode cX7_canStand 21 = .ok (.invokestatic 39, 3) := by decide +kernel
theorem dX7_canStand_24 : decode cX7_canStand 24 = .ok (.istore 4, 2) := by decide +kernel
theorem dX7_canStand_26 : decode cX7_canStand 26 = .ok (.iload_n 1, 1) := by decide +kernel
theorem dX7_canStand_27 : decode cX7_canStand 27 = .ok (.tableswitch 131 0 7 #[45, 47, 50, 63, 81, 103, 126, 128], 45) := by decide +kernel
theorem dX7_canStand_72 : decode cX7_canStand 72 = .ok (.iload_n 3, 1) := by decide +kernel
theorem dX7_canStand_73 : decode cX7_canStand 73 = .ok (.ireturn, 1) := by decide +kernel
theorem dX7_canStand_74 : decode cX7_canStand 74 = .ok (.iload 4, 2) := by decide +kernel
theorem dX7_canStand_76 : decode cX7_canStand 76 = .ok (.ireturn, 1) := by decide +kernel
theorem dX7_canStand_77 : decode cX7_canStand 77 = .ok (.iload_n 2, 1) := by decide +kernel
theorem dX7_canStand_78 : decode cX7_canStand 78 = .ok (.invokestatic 49, 3) := by decide +kernel
theorem dX7_canStand_81 : decode cX7_canStand 81 = .ok (.ifCond .lt 7, 3) := by decide +kernel
theorem dX7_canStand_84 : decode cX7_canStand 84 = .ok (.iconst 1, 1) := by decide +kernel
theorem dX7_canStand_85 : decode cX7_canStand 85 = .ok (.goto 4, 3) := by decide +kernel
theorem dX7_canStand_88 : decode cX7_canStand 88 = .ok (.iconst 0, 1) := by decide +kernel
theorem dX7_canStand_89 : decode cX7_canStand 89 = .ok (.ireturn, 1) := by decide +kernel
theorem dX7_canStand_90 : decode cX7_canStand 90 = .ok (.aload_n 0, 1) := by decide +kernel
theorem dX7_canStand_91 : decode cX7_canStand 91 = .ok (.getfield 13, 3) := by decide +kernel
theorem dX7_canStand_94 : decode cX7_canStand 94 = .ok (.iconst 2, 1) := by decide +kernel
theorem dX7_canStand_95 : decode cX7_canStand 95 = .ok (.iaload, 1) := by decide +kernel
theorem dX7_canStand_96 : decode cX7_canStand 96 = .ok (.bipush 64, 2) := by decide +kernel
theorem dX7_canStand_98 : decode cX7_canStand 98 = .ok (.if_icmp .ne 8, 3) := by decide +kernel
theorem dX7_canStand_101 : decode cX7_canStand 101 = .ok (.iload 4, 2) := by decide +kernel
theorem dX7_canStand_103 : decode cX7_canStand 103 = .ok (.goto 4, 3) := by decide +kernel
theorem dX7_canStand_106 : decode cX7_canStand 106 = .ok (.iload_n 3, 1) := by decide +kernel
theorem dX7_canStand_107 : decode cX7_canStand 107 = .ok (.ireturn, 1) := by decide +kernel
theorem dX7_canStand_108 : decode cX7_canStand 108 = .ok (.aload_n 0, 1) := by decide +kernel
theorem dX7_canStand_109 : decode cX7_canStand 109 = .ok (.getfield 13, 3) := by decide +kernel
theorem dX7_canStand_112 : decode cX7_canStand 112 = .ok (.iconst 2, 1) := by decide +kernel
theorem dX7_canStand_113 : decode cX7_canStand 113 = .ok (.iaload, 1) := by decide +kernel
theorem dX7_canStand_114 : decode cX7_canStand 114 = .ok (.bipush 64, 2) := by decide +kernel
theorem dX7_canStand_116 : decode cX7_canStand 116 = .ok (.if_icmp .eq 12, 3) := by decide +kernel
theorem dX7_canStand_119 : decode cX7_canStand 119 = .ok (.iload 4, 2) := by decide +kernel
theorem dX7_canStand_121 : decode cX7_canStand 121 = .ok (.ifCond .eq 7, 3) := by decide +kernel
theorem dX7_canStand_124 : decode cX7_canStand 124 = .ok (.iconst 1, 1) := by decide +kernel
theorem dX7_canStand_125 : decode cX7_canStand 125 = .ok (.goto 4, 3) := by decide +kernel
theorem dX7_canStand_128 : decode cX7_canStand 128 = .ok (.iconst 0, 1) := by decide +kernel
theorem dX7_canStand_129 : decode cX7_canStand 129 = .ok (.ireturn, 1) := by decide +kernel
theorem dX7_canStand_130 : decode cX7_canStand 130 = .ok (.aload_n 0, 1) := by decide +kernel
theorem dX7_canStand_131 : decode cX7_canStand 131 = .ok (.getfield 13, 3) := by decide +kernel
theorem dX7_canStand_134 : decode cX7_canStand 134 = .ok (.iconst 2, 1) := by decide +kernel
theorem dX7_canStand_135 : decode cX7_canStand 135 = .ok (.iaload, 1) := by decide +kernel
theorem dX7_canStand_136 : decode cX7_canStand 136 = .ok (.bipush 61, 2) := by decide +kernel
theorem dX7_canStand_138 : decode cX7_canStand 138 = .ok (.if_icmp .ne 13, 3) := by decide +kernel
theorem dX7_canStand_141 : decode cX7_canStand 141 = .ok (.iload_n 2, 1) := by decide +kernel
theorem dX7_canStand_142 : decode cX7_canStand 142 = .ok (.bipush 124, 2) := by decide +kernel
theorem dX7_canStand_144 : decode cX7_canStand 144 = .ok (.if_icmp .ne 7, 3) := by decide +kernel
theorem dX7_canStand_147 : decode cX7_canStand 147 = .ok (.iconst 1, 1) := by decide +kernel
theorem dX7_canStand_148 : decode cX7_canStand 148 = .ok (.goto 4, 3) := by decide +kernel
theorem dX7_canStand_151 : decode cX7_canStand 151 = .ok (.iconst 0, 1) := by decide +kernel
theorem dX7_canStand_152 : decode cX7_canStand 152 = .ok (.ireturn, 1) := by decide +kernel
theorem dX7_canStand_153 : decode cX7_canStand 153 = .ok (.iload_n 3, 1) := by decide +kernel
theorem dX7_canStand_154 : decode cX7_canStand 154 = .ok (.ireturn, 1) := by decide +kernel
theorem dX7_canStand_155 : decode cX7_canStand 155 = .ok (.iload 4, 2) := by decide +kernel
theorem dX7_canStand_157 : decode cX7_canStand 157 = .ok (.ireturn, 1) := by decide +kernel
theorem dX7_canStand_158 : decode cX7_canStand 158 = .ok (.iconst 0, 1) := by decide +kernel
theorem dX7_canStand_159 : decode cX7_canStand 159 = .ok (.ireturn, 1) := by decide +kernel
set_option maxRecDepth 20000 in
theorem ggX7_faultNow_X7_canStand : GoodIn wsX7_faultNow wsX7_canStand := goodIn_r _ [7, 2, 8, 9, 6, 10, 11, 12, 13, 14, 15, 16, 17, 18, 19, 20, 21, 22, 23, 24, 25, 26, 27, 28] (by decide +kernel) (by decide +kernel)
set_option maxRecDepth 20000 in
theorem gX7_faultNow_X7_canStand : GoodIn wsX7_faultNow (wsV RX7 53 RX7 yX7_canStand wsX7_canStand) := goodIn_app (goodIn_of _ (by decide +kernel)) ggX7_faultNow_X7_canStand
theorem dX7_faultNow_0 : decode cX7_faultNow 0 = .ok (.iconst 0, 1) := by decide +kernel
theorem dX7_faultNow_1 : decode cX7_faultNow 1 = .ok (.istore_n 1, 1) := by decide +kernel
theorem dX7_faultNow_2 : decode cX7_faultNow 2 = .ok (.iload_n 1, 1) := by decide +kernel
theorem dX7_faultNow_3 : decode cX7_faultNow 3 = .ok (.aload_n 0, 1) := by decide +kernel
theorem dX7_faultNow_4 : decode cX7_faultNow 4 = .ok (.getfield 46, 3) := by decide +kernel
theorem dX7_faultNow_7 : decode cX7_faultNow 7 = .ok (.if_icmp .ge 19, 3) := by decide +kernel
theorem dX7_faultNow_10 : decode cX7_faultNow 10 = .ok (.aload_n 0, 1) := by decide +kernel
theorem dX7_faultNow_11 : decode cX7_faultNow 11 = .ok (.iload_n 1, 1) := by decide +kernel
theorem dX7_faultNow_12 : decode cX7_faultNow 12 = .ok (.invokevirtual 53, 3) := by decide +kernel
theorem dX7_faultNow_15 : decode cX7_faultNow 15 = .ok (.ifCond .ne 5, 3) := by decide +kernel
theorem dX7_faultNow_18 : decode cX7_faultNow 18 = .ok (.iload_n 1, 1) := by decide +kernel
theorem dX7_faultNow_19 : decode cX7_faultNow 19 = .ok (.ireturn, 1) := by decide +kernel
theorem dX7_faultNow_20 : decode cX7_faultNow 20 = .ok (.iinc 1 1, 3) := by decide +kernel
theorem dX7_faultNow_23 : decode cX7_faultNow 23 = .ok (.goto (-21), 3) := by decide +kernel
theorem dX7_faultNow_26 : decode cX7_faultNow 26 = .ok (.aload_n 0, 1) := by decide +kernel
theorem dX7_faultNow_27 : decode cX7_faultNow 27 = .ok (.getfield 46, 3) := by decide +kernel
theorem dX7_faultNow_30 : decode cX7_faultNow 30 = .ok (.bipush 8, 2) := by decide +kernel
theorem dX7_faultNow_32 : decode cX7_faultNow 32 = .ok (.if_icmp .eq 30, 3) := by decide +kernel
theorem dX7_faultNow_35 : decode cX7_faultNow 35 = .ok (.aload_n 0, 1) := by decide +kernel
theorem dX7_faultNow_36 : decode cX7_faultNow 36 = .ok (.getfield 46, 3) := by decide +kernel
theorem dX7_faultNow_39 : decode cX7_faultNow 39 = .ok (.iconst 5, 1) := by decide +kernel
theorem dX7_faultNow_40 : decode cX7_faultNow 40 = .ok (.if_icmp .eq 22, 3) := by decide +kernel
theorem dX7_faultNow_43 : decode cX7_faultNow 43 = .ok (.aload_n 0, 1) := by decide +kernel
theorem dX7_faultNow_44 : decode cX7_faultNow 44 = .ok (.getfield 46, 3) := by decide +kernel
theorem dX7_faultNow_47 : decode cX7_faultNow 47 = .ok (.iconst 4, 1) := by decide +kernel
theorem dX7_faultNow_48 : decode cX7_faultNow 48 = .ok (.if_icmp .ne 18, 3) := by decide +kernel
theorem dX7_faultNow_51 : decode cX7_faultNow 51 = .ok (.aload_n 0, 1) := by decide +kernel
theorem dX7_faultNow_52 : decode cX7_faultNow 52 = .ok (.getfield 13, 3) := by decide +kernel
theorem dX7_faultNow_55 : decode cX7_faultNow 55 = .ok (.iconst 2, 1) := by decide +kernel
theorem dX7_faultNow_56 : decode cX7_faultNow 56 = .ok (.iaload, 1) := by decide +kernel
theorem dX7_faultNow_57 : decode cX7_faultNow 57 = .ok (.bipush 64, 2) := by decide +kernel
theorem dX7_faultNow_59 : decode cX7_faultNow 59 = .ok (.if_icmp .ne 7, 3) := by decide +kernel
theorem dX7_faultNow_62 : decode cX7_faultNow 62 = .ok (.iconst 1, 1) := by decide +kernel
theorem dX7_faultNow_63 : decode cX7_faultNow 63 = .ok (.goto 4, 3) := by decide +kernel
theorem dX7_faultNow_66 : decode cX7_faultNow 66 = .ok (.iconst 0, 1) := by decide +kernel
theorem dX7_faultNow_67 : decode cX7_faultNow 67 = .ok (.istore_n 1, 1) := by decide +kernel
theorem dX7_faultNow_68 : decode cX7_faultNow 68 = .ok (.iload_n 1, 1) := by decide +kernel
theorem dX7_faultNow_69 : decode cX7_faultNow 69 = .ok (.ifCond .eq 8, 3) := by decide +kernel
theorem dX7_faultNow_72 : decode cX7_faultNow 72 = .ok (.bipush (-6), 2) := by decide +kernel
theorem dX7_faultNow_74 : decode cX7_faultNow 74 = .ok (.goto 7, 3) := by decide +kernel
theorem dX7_faultNow_77 : decode cX7_faultNow 77 = .ok (.aload_n 0, 1) := by decide +kernel
theorem dX7_faultNow_78 : decode cX7_faultNow 78 = .ok (.getfield 46, 3) := by decide +kernel
theorem dX7_faultNow_81 : decode cX7_faultNow 81 = .ok (.ireturn, 1) := by decide +kernel
set_option maxRecDepth 20000 in
theorem ggX7_fault_X7_faultNow : GoodIn wsX7_fault wsX7_faultNow := goodIn_r _ [5, 6, 7, 8, 9, 10, 4, 11, 12, 13, 14, 15, 16, 17, 18, 19, 20, 21, 22, 23, 24, 25, 26, 27, 28, 29, 30, 31, 32] (by decide +kernel) (by decide +kernel)
set_option maxRecDepth 20000 in
theorem gX7_fault_X7_faultNow : GoodIn wsX7_fault (wsV RX7 57 RX7 yX7_faultNow wsX7_faultNow) := goodIn_app (goodIn_of _ (by decide +kernel)) ggX7_fault_X7_faultNow
theorem dX7_fault_0 : decode cX7_fault 0 = .ok (.aload_n 0, 1) := by decide +kernel
theorem dX7_fault_1 : decode cX7_fault 1 = .ok (.invokevirtual 57, 3) := by decide +kernel
theorem dX7_fault_4 : decode cX7_fault 4 = .ok (.ireturn, 1) := by decide +kernel
theorem dX7_itemAt_0 : decode cX7_itemAt 0 = .ok (.iconst 4, 1) := by decide +kernel
theorem dX7_itemAt_1 : decode cX7_itemAt 1 = .ok (.aload_n 0, 1) := by decide +kernel
theorem dX7_itemAt_2 : decode cX7_itemAt 2 = .ok (.getfield 13, 3) := by decide +kernel
theorem dX7_itemAt_5 : decode cX7_itemAt 5 = .ok (.iload_n 1, 1) := by decide +kernel
theorem dX7_itemAt_6 : decode cX7_itemAt 6 = .ok (.iaload, 1) := by decide +kernel
theorem dX7_itemAt_7 : decode cX7_itemAt 7 = .ok (.bipush 97, 2) := by decide +kernel
theorem dX7_itemAt_9 : decode cX7_itemAt 9 = .ok (.isub, 1) := by decide +kernel
theorem dX7_itemAt_10 : decode cX7_itemAt 10 = .ok (.imul, 1) := by decide +kernel
theorem dX7_itemAt_11 : decode cX7_itemAt 11 = .ok (.aload_n 0, 1) := by decide +kernel
theorem dX7_itemAt_12 : decode cX7_itemAt 12 = .ok (.getfield 13, 3) := by decide +kernel
theorem dX7_itemAt_15 : decode cX7_itemAt 15 = .ok (.iload_n 1, 1) := by decide +kernel
theorem dX7_itemAt_16 : decode cX7_itemAt 16 = .ok (.iconst 1, 1) := by decide +kernel
theorem dX7_itemAt_17 : decode cX7_itemAt 17 = .ok (.iadd, 1) := by decide +kernel
theorem dX7_itemAt_18 : decode cX7_itemAt 18 = .ok (.iaload, 1) := by decide +kernel
theorem dX7_itemAt_19 : decode cX7_itemAt 19 = .ok (.iadd, 1) := by decide +kernel
theorem dX7_itemAt_20 : decode cX7_itemAt 20 = .ok (.bipush 49, 2) := by decide +kernel
theorem dX7_itemAt_22 : decode cX7_itemAt 22 = .ok (.isub, 1) := by decide +kernel
theorem dX7_itemAt_23 : decode cX7_itemAt 23 = .ok (.ireturn, 1) := by decide +kernel
set_option maxRecDepth 20000 in
theorem ggX7_clue_X7_faultNow : GoodIn wsX7_clue wsX7_faultNow := goodIn_r _ [10, 2, 3, 11, 12, 13, 9, 14, 15, 16, 17, 18, 19, 20, 25, 26, 27, 28, 29, 30, 31, 32, 33, 34, 35, 36, 37, 38, 39] (by decide +kernel) (by decide +kernel)
set_option maxRecDepth 20000 in
theorem gX7_clue_X7_faultNow : GoodIn wsX7_clue (wsV RX7 57 RX7 yX7_faultNow wsX7_faultNow) := goodIn_app (goodIn_of _ (by decide +kernel)) ggX7_clue_X7_faultNow
set_option maxRecDepth 20000 in
theorem ggX7_clue_X7_kindOf : GoodIn wsX7_clue wsX7_kindOf := goodIn_r _ [20] (by decide +kernel) (by decide +kernel)
set_option maxRecDepth 20000 in
theorem gX7_clue_X7_kindOf : GoodIn wsX7_clue (va_wsS RX7 49 yX7_kindOf wsX7_kindOf) := goodIn_app (goodIn_of _ (by decide +kernel)) ggX7_clue_X7_kindOf
set_option maxRecDepth 20000 in
theorem ggX7_clue_X7_itemAt : GoodIn wsX7_clue wsX7_itemAt := goodIn_r _ [24, 3, 25, 26, 27, 28, 29, 30, 31, 32, 33, 34, 35, 36, 37, 38, 39] (by decide +kernel) (by decide +kernel)
set_option maxRecDepth 20000 in
theorem gX7_clue_X7_itemAt : GoodIn wsX7_clue (wsV RX7 61 RX7 yX7_itemAt wsX7_itemAt) := goodIn_app (goodIn_of _ (by decide +kernel)) ggX7_clue_X7_itemAt
theorem dX7_clue_0 : decode cX7_clue 0 = .ok (.aload_n 0, 1) := by decide +kernel
theorem dX7_clue_1 : decode cX7_clue 1 = .ok (.invokevirtual 57, 3) := by decide +kernel
theorem dX7_clue_4 : decode cX7_clue 4 = .ok (.istore_n 1, 1) := by decide +kernel
theorem dX7_clue_5 : decode cX7_clue 5 = .ok (.iload_n 1, 1) := by decide +kernel
theorem dX7_clue_6 : decode cX7_clue 6 = .ok (.ifCond .lt 11, 3) := by decide +kernel
theorem dX7_clue_9 : decode cX7_clue 9 = .ok (.aload_n 0, 1) := by decide +kernel
theorem dX7_clue_10 : decode cX7_clue 10 = .ok (.iload_n 1, 1) := by decide +kernel
theorem dX7_clue_11 : decode cX7_clue 11 = .ok (.putfield 16, 3) := by decide +kernel
theorem dX7_clue_14 : decode cX7_clue 14 = .ok (.bipush (-7), 2) := by decide +kernel
theorem dX7_clue_16 : decode cX7_clue 16 = .ok (.ireturn, 1) := by decide +kernel
theorem dX7_clue_17 : decode cX7_clue 17 = .ok (.aload_n 0, 1) := by decide +kernel
theorem dX7_clue_18 : decode cX7_clue 18 = .ok (.getfield 46, 3) := by decide +kernel
theorem dX7_clue_21 : decode cX7_clue 21 = .ok (.bipush 8, 2) := by decide +kernel
theorem dX7_clue_23 : decode cX7_clue 23 = .ok (.if_icmp .ne 8, 3) := by decide +kernel
theorem dX7_clue_26 : decode cX7_clue 26 = .ok (.bipush 6, 2) := by decide +kernel
theorem dX7_clue_28 : decode cX7_clue 28 = .ok (.goto 12, 3) := by decide +kernel
theorem dX7_clue_31 : decode cX7_clue 31 = .ok (.aload_n 0, 1) := by decide +kernel
theorem dX7_clue_32 : decode cX7_clue 32 = .ok (.getfield 13, 3) := by decide +kernel
theorem dX7_clue_35 : decode cX7_clue 35 = .ok (.iconst 2, 1) := by decide +kernel
theorem dX7_clue_36 : decode cX7_clue 36 = .ok (.iaload, 1) := by decide +kernel
theorem dX7_clue_37 : decode cX7_clue 37 = .ok (.invokestatic 49, 3) := by decide +kernel
theorem dX7_clue_40 : decode cX7_clue 40 = .ok (.istore_n 2, 1) := by decide +kernel
theorem dX7_clue_41 : decode cX7_clue 41 = .ok (.aload_n 0, 1) := by decide +kernel
theorem dX7_clue_42 : decode cX7_clue 42 = .ok (.iconst 0, 1) := by decide +kernel
theorem dX7_clue_43 : decode cX7_clue 43 = .ok (.invokevirtual 61, 3) := by decide +kernel
theorem dX7_clue_46 : decode cX7_clue 46 = .ok (.istore_n 3, 1) := by decide +kernel
theorem dX7_clue_47 : decode cX7_clue 47 = .ok (.iload_n 2, 1) := by decide +kernel
theorem dX7_clue_48 : decode cX7_clue 48 = .ok (.iconst 5, 1) := by decide +kernel
theorem dX7_clue_49 : decode cX7_clue 49 = .ok (.if_icmp .ne 8, 3) := by decide +kernel
theorem dX7_clue_52 : decode cX7_clue 52 = .ok (.bipush (-6), 2) := by decide +kernel
theorem dX7_clue_54 : decode cX7_clue 54 = .ok (.goto 8, 3) := by decide +kernel
theorem dX7_clue_57 : decode cX7_clue 57 = .ok (.aload_n 0, 1) := by decide +kernel
theorem dX7_clue_58 : decode cX7_clue 58 = .ok (.iconst 3, 1) := by decide +kernel
theorem dX7_clue_59 : decode cX7_clue 59 = .ok (.invokevirtual 61, 3) := by decide +kernel
theorem dX7_clue_62 : decode cX7_clue 62 = .ok (.istore 4, 2) := by decide +kernel
theorem dX7_clue_64 : decode cX7_clue 64 = .ok (.iload_n 2, 1) := by decide +kernel
theorem dX7_clue_65 : decode cX7_clue 65 = .ok (.bipush 6, 2) := by decide +kernel
theorem dX7_clue_67 : decode cX7_clue 67 = .ok (.if_icmp .ne 12, 3) := by decide +kernel
theorem dX7_clue_70 : decode cX7_clue 70 = .ok (.aload_n 0, 1) := by decide +kernel
theorem dX7_clue_71 : decode cX7_clue 71 = .ok (.bipush 6, 2) := by decide +kernel
theorem dX7_clue_73 : decode cX7_clue 73 = .ok (.invokevirtual 61, 3) := by decide +kernel
theorem dX7_clue_76 : decode cX7_clue 76 = .ok (.goto 5, 3) := by decide +kernel
theorem dX7_clue_79 : decode cX7_clue 79 = .ok (.bipush (-6), 2) := by decide +kernel
theorem dX7_clue_81 : decode cX7_clue 81 = .ok (.istore 5, 2) := by decide +kernel
theorem dX7_clue_83 : decode cX7_clue 83 = .ok (.iload_n 3, 1) := by decide +kernel
theorem dX7_clue_84 : decode cX7_clue 84 = .ok (.iload 4, 2) := by decide +kernel
theorem dX7_clue_86 : decode cX7_clue 86 = .ok (.if_icmp .eq 21, 3) := by decide +kernel
theorem dX7_clue_89 : decode cX7_clue 89 = .ok (.iload_n 3, 1) := by decide +kernel
theorem dX7_clue_90 : decode cX7_clue 90 = .ok (.iload 5, 2) := by decide +kernel
theorem dX7_clue_92 : decode cX7_clue 92 = .ok (.if_icmp .eq 15, 3) := by decide +kernel
theorem dX7_clue_95 : decode cX7_clue 95 = .ok (.iload 4, 2) := by decide +kernel
theorem dX7_clue_97 : decode cX7_clue 97 = .ok (.ifCond .lt 13, 3) := by decide +kernel
theorem dX7_clue_100 : decode cX7_clue 100 = .ok (.iload 4, 2) := by decide +kernel
theorem dX7_clue_102 : decode cX7_clue 102 = .ok (.iload 5, 2) := by decide +kernel
theorem dX7_clue_104 : decode cX7_clue 104 = .ok (.if_icmp .ne 6, 3) := by decide +kernel
theorem dX7_clue_107 : decode cX7_clue 107 = .ok (.bipush (-5), 2) := by decide +kernel
theorem dX7_clue_109 : decode cX7_clue 109 = .ok (.ireturn, 1) := by decide +kernel
theorem dX7_clue_110 : decode cX7_clue 110 = .ok (.aload_n 0, 1) := by decide +kernel
theorem dX7_clue_111 : decode cX7_clue 111 = .ok (.getfield 43, 3) := by decide +kernel
theorem dX7_clue_114 : decode cX7_clue 114 = .ok (.bipush 12, 2) := by decide +kernel
theorem dX7_clue_116 : decode cX7_clue 116 = .ok (.if_icmp .ne 6, 3) := by decide +kernel
theorem dX7_clue_119 : decode cX7_clue 119 = .ok (.bipush (-4), 2) := by decide +kernel
theorem dX7_clue_121 : decode cX7_clue 121 = .ok (.ireturn, 1) := by decide +kernel
theorem dX7_clue_122 : decode cX7_clue 122 = .ok (.iconst 5, 1) := by decide +kernel
theorem dX7_clue_123 : decode cX7_clue 123 = .ok (.aload_n 0, 1) := by decide +kernel
theorem dX7_clue_124 : decode cX7_clue 124 = .ok (.getfield 43, 3) := by decide +kernel
theorem dX7_clue_127 : decode cX7_clue 127 = .ok (.imul, 1) := by decide +kernel
theorem dX7_clue_128 : decode cX7_clue 128 = .ok (.istore 6, 2) := by decide +kernel
theorem dX7_clue_130 : decode cX7_clue 130 = .ok (.aload_n 0, 1) := by decide +kernel
theorem dX7_clue_131 : decode cX7_clue 131 = .ok (.getfield 7, 3) := by decide +kernel
theorem dX7_clue_134 : decode cX7_clue 134 = .ok (.iload 6, 2) := by decide +kernel
theorem dX7_clue_136 : decode cX7_clue 136 = .ok (.iload_n 2, 1) := by decide +kernel
theorem dX7_clue_137 : decode cX7_clue 137 = .ok (.iastore, 1) := by decide +kernel
theorem dX7_clue_138 : decode cX7_clue 138 = .ok (.aload_n 0, 1) := by decide +kernel
theorem dX7_clue_139 : decode cX7_clue 139 = .ok (.getfield 7, 3) := by decide +kernel
theorem dX7_clue_142 : decode cX7_clue 142 = .ok (.iload 6, 2) := by decide +kernel
theorem dX7_clue_144 : decode cX7_clue 144 = .ok (.iconst 1, 1) := by decide +kernel
theorem dX7_clue_145 : decode cX7_clue 145 = .ok (.iadd, 1) := by decide +kernel
theorem dX7_clue_146 : decode cX7_clue 146 = .ok (.iload_n 3, 1) := by decide +kernel
theorem dX7_clue_147 : decode cX7_clue 147 = .ok (.iastore, 1) := by decide +kernel
theorem dX7_clue_148 : decode cX7_clue 148 = .ok (.aload_n 0, 1) := by decide +kernel
theorem dX7_clue_149 : decode cX7_clue 149 = .ok (.getfield 7, 3) := by decide +kernel
theorem dX7_clue_152 : decode cX7_clue 152 = .ok (.iload 6, 2) := by decide +kernel
theorem dX7_clue_154 : decode cX7_clue 154 = .ok (.iconst 2, 1) := by decide +kernel
theorem dX7_clue_155 : decode cX7_clue 155 = .ok (.iadd, 1) := by decide +kernel
theorem dX7_clue_156 : decode cX7_clue 156 = .ok (.iload 4, 2) := by decide +kernel
theorem dX7_clue_158 : decode cX7_clue 158 = .ok (.iastore, 1) := by decide +kernel
theorem dX7_clue_159 : decode cX7_clue 159 = .ok (.aload_n 0, 1) := by decide +kernel
theorem dX7_clue_160 : decode cX7_clue 160 = .ok (.getfield 7, 3) := by decide +kernel
theorem dX7_clue_163 : decode cX7_clue 163 = .ok (.iload 6, 2) := by decide +kernel
theorem dX7_clue_165 : decode cX7_clue 165 = .ok (.iconst 3, 1) := by decide +kernel
theorem dX7_clue_166 : decode cX7_clue 166 = .ok (.iadd, 1) := by decide +kernel
theorem dX7_clue_167 : decode cX7_clue 167 = .ok (.iload 5, 2) := by decide +kernel
theorem dX7_clue_169 : decode cX7_clue 169 = .ok (.iastore, 1) := by decide +kernel
theorem dX7_clue_170 : decode cX7_clue 170 = .ok (.aload_n 0, 1) := by decide +kernel
theorem dX7_clue_171 : decode cX7_clue 171 = .ok (.getfield 7, 3) := by decide +kernel
theorem dX7_clue_174 : decode cX7_clue 174 = .ok (.iload 6, 2) := by decide +kernel
theorem dX7_clue_176 : decode cX7_clue 176 = .ok (.iconst 4, 1) := by decide +kernel
theorem dX7_clue_177 : decode cX7_clue 177 = .ok (.iadd, 1) := by decide +kernel
theorem dX7_clue_178 : decode cX7_clue 178 = .ok (.iload_n 2, 1) := by decide +kernel
theorem dX7_clue_179 : decode cX7_clue 179 = .ok (.iconst 5, 1) := by decide +kernel
theorem dX7_clue_180 : decode cX7_clue 180 = .ok (.if_icmp .ne 15, 3) := by decide +kernel
theorem dX7_clue_183 : decode cX7_clue 183 = .ok (.aload_n 0, 1) := by decide +kernel
theorem dX7_clue_184 : decode cX7_clue 184 = .ok (.getfield 13, 3) := by decide +kernel
theorem dX7_clue_187 : decode cX7_clue 187 = .ok (.iconst 3, 1) := by decide +kernel
theorem dX7_clue_188 : decode cX7_clue 188 = .ok (.iaload, 1) := by decide +kernel
theorem dX7_clue_189 : decode cX7_clue 189 = .ok (.bipush 48, 2) := by decide +kernel
theorem dX7_clue_191 : decode cX7_clue 191 = .ok (.isub, 1) := by decide +kernel
theorem dX7_clue_192 : decode cX7_clue 192 = .ok (.goto 5, 3) := by decide +kernel
theorem dX7_clue_195 : decode cX7_clue 195 = .ok (.bipush (-6), 2) := by decide +kernel
theorem dX7_clue_197 : decode cX7_clue 197 = .ok (.iastore, 1) := by decide +kernel
theorem dX7_clue_198 : decode cX7_clue 198 = .ok (.aload_n 0, 1) := by decide +kernel
theorem dX7_clue_199 : decode cX7_clue 199 = .ok (.dup, 1) := by decide +kernel
theorem dX7_clue_200 : decode cX7_clue 200 = .ok (.getfield 43, 3) := by decide +kernel
theorem dX7_clue_203 : decode cX7_clue 203 = .ok (.iconst 1, 1) := by decide +kernel
theorem dX7_clue_204 : decode cX7_clue 204 = .ok (.iadd, 1) := by decide +kernel
theorem dX7_clue_205 : decode cX7_clue 205 = .ok (.putfield 43, 3) := by decide +kernel
theorem dX7_clue_208 : decode cX7_clue 208 = .ok (.aload_n 0, 1) := by decide +kernel
theorem dX7_clue_209 : decode cX7_clue 209 = .ok (.iconst 0, 1) := by decide +kernel
theorem dX7_clue_210 : decode cX7_clue 210 = .ok (.putfield 46, 3) := by decide +kernel
theorem dX7_clue_213 : decode cX7_clue 213 = .ok (.aload_n 0, 1) := by decide +kernel
theorem dX7_clue_214 : decode cX7_clue 214 = .ok (.getfield 43, 3) := by decide +kernel
theorem dX7_clue_217 : decode cX7_clue 217 = .ok (.iconst 1, 1) := by decide +kernel
theorem dX7_clue_218 : decode cX7_clue 218 = .ok (.isub, 1) := by decide +kernel
theorem dX7_clue_219 : decode cX7_clue 219 = .ok (.ireturn, 1) := by decide +kernel
theorem dX7_remove_0 : decode cX7_remove 0 = .ok (.aload_n 0, 1) := by decide +kernel
theorem dX7_remove_1 : decode cX7_remove 1 = .ok (.dup, 1) := by decide +kernel
theorem dX7_remove_2 : decode cX7_remove 2 = .ok (.getfield 43, 3) := by decide +kernel
theorem dX7_remove_5 : decode cX7_remove 5 = .ok (.iconst 1, 1) := by decide +kernel
theorem dX7_remove_6 : decode cX7_remove 6 = .ok (.isub, 1) := by decide +kernel
theorem dX7_remove_7 : decode cX7_remove 7 = .ok (.putfield 43, 3) := by decide +kernel
theorem dX7_remove_10 : decode cX7_remove 10 = .ok (.iconst 5, 1) := by decide +kernel
theorem dX7_remove_11 : decode cX7_remove 11 = .ok (.iload_n 1, 1) := by decide +kernel
theorem dX7_remove_12 : decode cX7_remove 12 = .ok (.imul, 1) := by decide +kernel
theorem dX7_remove_13 : decode cX7_remove 13 = .ok (.istore_n 2, 1) := by decide +kernel
theorem dX7_remove_14 : decode cX7_remove 14 = .ok (.iload_n 2, 1) := by decide +kernel
theorem dX7_remove_15 : decode cX7_remove 15 = .ok (.iconst 5, 1) := by decide +kernel
theorem dX7_remove_16 : decode cX7_remove 16 = .ok (.aload_n 0, 1) := by decide +kernel
theorem dX7_remove_17 : decode cX7_remove 17 = .ok (.getfield 43, 3) := by decide +kernel
theorem dX7_remove_20 : decode cX7_remove 20 = .ok (.imul, 1) := by decide +kernel
theorem dX7_remove_21 : decode cX7_remove 21 = .ok (.if_icmp .ge 23, 3) := by decide +kernel
theorem dX7_remove_24 : decode cX7_remove 24 = .ok (.aload_n 0, 1) := by decide +kernel
theorem dX7_remove_25 : decode cX7_remove 25 = .ok (.getfield 7, 3) := by decide +kernel
theorem dX7_remove_28 : decode cX7_remove 28 = .ok (.iload_n 2, 1) := by decide +kernel
theorem dX7_remove_29 : decode cX7_remove 29 = .ok (.aload_n 0, 1) := by decide +kernel
theorem dX7_remove_30 : decode cX7_remove 30 = .ok (.getfield 7, 3) := by decide +kernel
theorem dX7_remove_33 : decode cX7_remove 33 = .ok (.iload_n 2, 1) := by decide +kernel
theorem dX7_remove_34 : decode cX7_remove 34 = .ok (.iconst 5, 1) := by decide +kernel
theorem dX7_remove_35 : decode cX7_remove 35 = .ok (.iadd, 1) := by decide +kernel
theorem dX7_remove_36 : decode cX7_remove 36 = .ok (.iaload, 1) := by decide +kernel
theorem dX7_remove_37 : decode cX7_remove 37 = .ok (.iastore, 1) := by decide +kernel
theorem dX7_remove_38 : decode cX7_remove 38 = .ok (.iinc 2 1, 3) := by decide +kernel
theorem dX7_remove_41 : decode cX7_remove 41 = .ok (.goto (-27), 3) := by decide +kernel
theorem dX7_remove_44 : decode cX7_remove 44 = .ok (.return_, 1) := by decide +kernel
set_option maxRecDepth 20000 in
theorem ggX7_drop_X7_isClue : GoodIn wsX7_drop wsX7_isClue := goodIn_r _ [6, 1, 7, 8, 5, 9, 15, 16, 17, 18, 19, 20, 21, 22, 23, 24, 25, 26, 27, 28, 29] (by decide +kernel) (by decide +kernel)
set_option maxRecDepth 20000 in
theorem gX7_drop_X7_isClue : GoodIn wsX7_drop (wsV RX7 64 RX7 yX7_isClue wsX7_isClue) := goodIn_app (goodIn_of _ (by decide +kernel)) ggX7_drop_X7_isClue
set_option maxRecDepth 20000 in
theorem ggX7_drop_X7_remove : GoodIn wsX7_drop wsX7_remove := goodIn_r _ [13, 1, 14, 15, 16, 17, 18, 19, 20, 21, 22, 23, 24, 25, 26, 27, 28, 29] (by decide +kernel) (by decide +kernel)
set_option maxRecDepth 20000 in
theorem gX7_drop_X7_remove : GoodIn wsX7_drop (wsV RX7 67 RX7 yX7_remove wsX7_remove) := goodIn_app (goodIn_of _ (by decide +kernel)) ggX7_drop_X7_remove
theorem dX7_drop_0 : decode cX7_drop 0 = .ok (.aload_n 0, 1) := by decide +kernel
theorem dX7_drop_1 : decode cX7_drop 1 = .ok (.iload_n 1, 1) := by decide +kernel
theorem dX7_drop_2 : decode cX7_drop 2 = .ok (.invokevirtual 64, 3) := by decide +kernel
theorem dX7_drop_5 : decode cX7_drop 5 = .ok (.ifCond .ne 5, 3) := by decide +kernel
theorem dX7_drop_8 : decode cX7_drop 8 = .ok (.iconst (-1), 1) := by decide +kernel
theorem dX7_drop_9 : decode cX7_drop 9 = .ok (.ireturn, 1) := by decide +kernel
theorem dX7_drop_10 : decode cX7_drop 10 = .ok (.aload_n 0, 1) := by decide +kernel
theorem dX7_drop_11 : decode cX7_drop 11 = .ok (.iload_n 1, 1) := by decide +kernel
theorem dX7_drop_12 : decode cX7_drop 12 = .ok (.invokevirtual 67, 3) := by decide +kernel
theorem dX7_drop_15 : decode cX7_drop 15 = .ok (.aload_n 0, 1) := by decide +kernel
theorem dX7_drop_16 : decode cX7_drop 16 = .ok (.getfield 43, 3) := by decide +kernel
theorem dX7_drop_19 : decode cX7_drop 19 = .ok (.ireturn, 1) := by decide +kernel
set_option maxRecDepth 20000 in
theorem ggX7_told_X7_isClue : GoodIn wsX7_told wsX7_isClue := goodIn_r _ [5, 6, 7, 8, 4, 9, 15, 16, 17, 18, 19, 20, 21, 22, 23, 24, 25, 26, 27, 28, 29] (by decide +kernel) (by decide +kernel)
set_option maxRecDepth 20000 in
theorem gX7_told_X7_isClue : GoodIn wsX7_told (wsV RX7 64 RX7 yX7_isClue wsX7_isClue) := goodIn_app (goodIn_of _ (by decide +kernel)) ggX7_told_X7_isClue
set_option maxRecDepth 20000 in
theorem ggX7_told_X7_in : GoodIn wsX7_told wsX7_in := goodIn_r _ [9] (by decide +kernel) (by decide +kernel)
set_option maxRecDepth 20000 in
theorem gX7_told_X7_in : GoodIn wsX7_told (va_wsS RX7 39 yX7_in wsX7_in) := goodIn_app (goodIn_of _ (by decide +kernel)) ggX7_told_X7_in
set_option maxRecDepth 20000 in
theorem ggX7_told_X7_of : GoodIn wsX7_told wsX7_of := goodIn_r _ [13, 14, 15, 16, 17, 18, 19, 20, 21, 22, 23, 24, 25, 26, 27, 28, 29] (by decide +kernel) (by decide +kernel)
set_option maxRecDepth 20000 in
theorem gX7_told_X7_of : GoodIn wsX7_told (wsV RX7 71 RX7 yX7_of wsX7_of) := goodIn_app (goodIn_of _ (by decide +kernel)) ggX7_told_X7_of
theorem dX7_told_0 : decode cX7_told 0 = .ok (.aload_n 0, 1) := by decide +kernel
theorem dX7_told_1 : decode cX7_told 1 = .ok (.iload_n 1, 1) := by decide +kernel
theorem dX7_told_2 : decode cX7_told 2 = .ok (.invokevirtual 64, 3) := by decide +kernel
theorem dX7_told_5 : decode cX7_told 5 = .ok (.ifCond .ne 5, 3) := by decide +kernel
theorem dX7_told_8 : decode cX7_told 8 = .ok (.iconst (-1), 1) := by decide +kernel
theorem dX7_told_9 : decode cX7_told 9 = .ok (.ireturn, 1) := by decide +kernel
theorem dX7_told_10 : decode cX7_told 10 = .ok (.iload_n 2, 1) := by decide +kernel
theorem dX7_told_11 : decode cX7_told 11 = .ok (.iconst 0, 1) := by decide +kernel
theorem dX7_told_12 : decode cX7_told 12 = .ok (.iconst 4, 1) := by decide +kernel
theorem dX7_told_13 : decode cX7_told 13 = .ok (.invokestatic 39, 3) := by decide +kernel
theorem dX7_told_16 : decode cX7_told 16 = .ok (.ifCond .eq 12, 3) := by decide +kernel
theorem dX7_told_19 : decode cX7_told 19 = .ok (.aload_n 0, 1) := by decide +kernel
theorem dX7_told_20 : decode cX7_told 20 = .ok (.iload_n 1, 1) := by decide +kernel
theorem dX7_told_21 : decode cX7_told 21 = .ok (.iload_n 2, 1) := by decide +kernel
theorem dX7_told_22 : decode cX7_told 22 = .ok (.invokevirtual 71, 3) := by decide +kernel
theorem dX7_told_25 : decode cX7_told 25 = .ok (.goto 5, 3) := by decide +kernel
theorem dX7_told_28 : decode cX7_told 28 = .ok (.bipush (-2), 2) := by decide +kernel
theorem dX7_told_30 : decode cX7_told 30 = .ok (.ireturn, 1) := by decide +kernel
set_option maxRecDepth 20000 in
theorem ggX7_isMet_X7_of : GoodIn wsX7_isMet wsX7_of := goodIn_r _ [5, 6, 7, 8, 9, 10, 11, 12, 13, 14, 15, 16, 17, 18, 19, 20, 21] (by decide +kernel) (by decide +kernel)
set_option maxRecDepth 20000 in
theorem gX7_isMet_X7_of : GoodIn wsX7_isMet (wsV RX7 71 RX7 yX7_of wsX7_of) := goodIn_app (goodIn_of _ (by decide +kernel)) ggX7_isMet_X7_of
theorem dX7_isMet_0 : decode cX7_isMet 0 = .ok (.aload_n 0, 1) := by decide +kernel
theorem dX7_isMet_1 : decode cX7_isMet 1 = .ok (.iload_n 1, 1) := by decide +kernel
theorem dX7_isMet_2 : decode cX7_isMet 2 = .ok (.iconst 0, 1) := by decide +kernel
theorem dX7_isMet_3 : decode cX7_isMet 3 = .ok (.invokevirtual 71, 3) := by decide +kernel
theorem dX7_isMet_6 : decode cX7_isMet 6 = .ok (.tableswitch 120 0 5 #[38, 49, 60, 71, 84, 104], 38) := by decide +kernel
theorem dX7_isMet_44 : decode cX7_isMet 44 = .ok (.iload_n 2, 1) := by decide +kernel
theorem dX7_isMet_45 : decode cX7_isMet 45 = .ok (.iload_n 3, 1) := by decide +kernel
theorem dX7_isMet_46 : decode cX7_isMet 46 = .ok (.if_icmp .ne 7, 3) := by decide +kernel
theorem dX7_isMet_49 : decode cX7_isMet 49 = .ok (.iconst 1, 1) := by decide +kernel
theorem dX7_isMet_50 : decode cX7_isMet 50 = .ok (.goto 4, 3) := by decide +kernel
theorem dX7_isMet_53 : decode cX7_isMet 53 = .ok (.iconst 0, 1) := by decide +kernel
theorem dX7_isMet_54 : decode cX7_isMet 54 = .ok (.ireturn, 1) := by decide +kernel
theorem dX7_isMet_55 : decode cX7_isMet 55 = .ok (.iload_n 2, 1) := by decide +kernel
theorem dX7_isMet_56 : decode cX7_isMet 56 = .ok (.iload_n 3, 1) := by decide +kernel
theorem dX7_isMet_57 : decode cX7_isMet 57 = .ok (.if_icmp .eq 7, 3) := by decide +kernel
theorem dX7_isMet_60 : decode cX7_isMet 60 = .ok (.iconst 1, 1) := by decide +kernel
theorem dX7_isMet_61 : decode cX7_isMet 61 = .ok (.goto 4, 3) := by decide +kernel
theorem dX7_isMet_64 : decode cX7_isMet 64 = .ok (.iconst 0, 1) := by decide +kernel
theorem dX7_isMet_65 : decode cX7_isMet 65 = .ok (.ireturn, 1) := by decide +kernel
theorem dX7_isMet_66 : decode cX7_isMet 66 = .ok (.iload_n 2, 1) := by decide +kernel
theorem dX7_isMet_67 : decode cX7_isMet 67 = .ok (.iload_n 3, 1) := by decide +kernel
theorem dX7_isMet_68 : decode cX7_isMet 68 = .ok (.if_icmp .ge 7, 3) := by decide +kernel
theorem dX7_isMet_71 : decode cX7_isMet 71 = .ok (.iconst 1, 1) := by decide +kernel
theorem dX7_isMet_72 : decode cX7_isMet 72 = .ok (.goto 4, 3) := by decide +kernel
theorem dX7_isMet_75 : decode cX7_isMet 75 = .ok (.iconst 0, 1) := by decide +kernel
theorem dX7_isMet_76 : decode cX7_isMet 76 = .ok (.ireturn, 1) := by decide +kernel
theorem dX7_isMet_77 : decode cX7_isMet 77 = .ok (.iload_n 3, 1) := by decide +kernel
theorem dX7_isMet_78 : decode cX7_isMet 78 = .ok (.iload_n 2, 1) := by decide +kernel
theorem dX7_isMet_79 : decode cX7_isMet 79 = .ok (.iconst 1, 1) := by decide +kernel
theorem dX7_isMet_80 : decode cX7_isMet 80 = .ok (.iadd, 1) := by decide +kernel
theorem dX7_isMet_81 : decode cX7_isMet 81 = .ok (.if_icmp .ne 7, 3) := by decide +kernel
theorem dX7_isMet_84 : decode cX7_isMet 84 = .ok (.iconst 1, 1) := by decide +kernel
theorem dX7_isMet_85 : decode cX7_isMet 85 = .ok (.goto 4, 3) := by decide +kernel
theorem dX7_isMet_88 : decode cX7_isMet 88 = .ok (.iconst 0, 1) := by decide +kernel
theorem dX7_isMet_89 : decode cX7_isMet 89 = .ok (.ireturn, 1) := by decide +kernel
theorem dX7_isMet_90 : decode cX7_isMet 90 = .ok (.iload_n 3, 1) := by decide +kernel
theorem dX7_isMet_91 : decode cX7_isMet 91 = .ok (.iload_n 2, 1) := by decide +kernel
theorem dX7_isMet_92 : decode cX7_isMet 92 = .ok (.iconst 1, 1) := by decide +kernel
theorem dX7_isMet_93 : decode cX7_isMet 93 = .ok (.iadd, 1) := by decide +kernel
theorem dX7_isMet_94 : decode cX7_isMet 94 = .ok (.if_icmp .eq 10, 3) := by decide +kernel
theorem dX7_isMet_97 : decode cX7_isMet 97 = .ok (.iload_n 2, 1) := by decide +kernel
theorem dX7_isMet_98 : decode cX7_isMet 98 = .ok (.iload_n 3, 1) := by decide +kernel
theorem dX7_isMet_99 : decode cX7_isMet 99 = .ok (.iconst 1, 1) := by decide +kernel
theorem dX7_isMet_100 : decode cX7_isMet 100 = .ok (.iadd, 1) := by decide +kernel
theorem dX7_isMet_101 : decode cX7_isMet 101 = .ok (.if_icmp .ne 7, 3) := by decide +kernel
theorem dX7_isMet_104 : decode cX7_isMet 104 = .ok (.iconst 1, 1) := by decide +kernel
theorem dX7_isMet_105 : decode cX7_isMet 105 = .ok (.goto 4, 3) := by decide +kernel
theorem dX7_isMet_108 : decode cX7_isMet 108 = .ok (.iconst 0, 1) := by decide +kernel
theorem dX7_isMet_109 : decode cX7_isMet 109 = .ok (.ireturn, 1) := by decide +kernel
theorem dX7_isMet_110 : decode cX7_isMet 110 = .ok (.iload_n 2, 1) := by decide +kernel
theorem dX7_isMet_111 : decode cX7_isMet 111 = .ok (.aload_n 0, 1) := by decide +kernel
theorem dX7_isMet_112 : decode cX7_isMet 112 = .ok (.iload_n 1, 1) := by decide +kernel
theorem dX7_isMet_113 : decode cX7_isMet 113 = .ok (.iconst 4, 1) := by decide +kernel
theorem dX7_isMet_114 : decode cX7_isMet 114 = .ok (.invokevirtual 71, 3) := by decide +kernel
theorem dX7_isMet_117 : decode cX7_isMet 117 = .ok (.if_icmp .ne 7, 3) := by decide +kernel
theorem dX7_isMet_120 : decode cX7_isMet 120 = .ok (.iconst 1, 1) := by decide +kernel
theorem dX7_isMet_121 : decode cX7_isMet 121 = .ok (.goto 4, 3) := by decide +kernel
theorem dX7_isMet_124 : decode cX7_isMet 124 = .ok (.iconst 0, 1) := by decide +kernel
theorem dX7_isMet_125 : decode cX7_isMet 125 = .ok (.ireturn, 1) := by decide +kernel
theorem dX7_isMet_126 : decode cX7_isMet 126 = .ok (.iload_n 2, 1) := by decide +kernel
theorem dX7_isMet_127 : decode cX7_isMet 127 = .ok (.iload_n 3, 1) := by decide +kernel
theorem dX7_isMet_128 : decode cX7_isMet 128 = .ok (.if_icmp .eq 9, 3) := by decide +kernel
theorem dX7_isMet_131 : decode cX7_isMet 131 = .ok (.iload_n 2, 1) := by decide +kernel
theorem dX7_isMet_132 : decode cX7_isMet 132 = .ok (.iload 4, 2) := by decide +kernel
theorem dX7_isMet_134 : decode cX7_isMet 134 = .ok (.if_icmp .ne 7, 3) := by decide +kernel
theorem dX7_isMet_137 : decode cX7_isMet 137 = .ok (.iconst 1, 1) := by decide +kernel
theorem dX7_isMet_138 : decode cX7_isMet 138 = .ok (.goto 4, 3) := by decide +kernel
theorem dX7_isMet_141 : decode cX7_isMet 141 = .ok (.iconst 0, 1) := by decide +kernel
theorem dX7_isMet_142 : decode cX7_isMet 142 = .ok (.ireturn, 1) := by decide +kernel
theorem dX7_placeOf_0 : decode cX7_placeOf 0 = .ok (.iload_n 1, 1) := by decide +kernel
theorem dX7_placeOf_1 : decode cX7_placeOf 1 = .ok (.ifCond .ge 7, 3) := by decide +kernel
theorem dX7_placeOf_4 : decode cX7_placeOf 4 = .ok (.iconst 0, 1) := by decide +kernel
theorem dX7_placeOf_5 : decode cX7_placeOf 5 = .ok (.goto 9, 3) := by decide +kernel
theorem dX7_placeOf_8 : decode cX7_placeOf 8 = .ok (.aload_n 0, 1) := by decide +kernel
theorem dX7_placeOf_9 : decode cX7_placeOf 9 = .ok (.getfield 23, 3) := by decide +kernel
theorem dX7_placeOf_12 : decode cX7_placeOf 12 = .ok (.iload_n 1, 1) := by decide +kernel
theorem dX7_placeOf_13 : decode cX7_placeOf 13 = .ok (.iaload, 1) := by decide +kernel
theorem dX7_placeOf_14 : decode cX7_placeOf 14 = .ok (.ireturn, 1) := by decide +kernel
set_option maxRecDepth 20000 in
theorem ggX7_lastOf_X7_of : GoodIn wsX7_lastOf wsX7_of := goodIn_r _ [5, 6, 7, 8, 9, 10, 11, 12, 13, 14, 15, 16, 17, 18, 19, 20, 21] (by decide +kernel) (by decide +kernel)
set_option maxRecDepth 20000 in
theorem gX7_lastOf_X7_of : GoodIn wsX7_lastOf (wsV RX7 71 RX7 yX7_of wsX7_of) := goodIn_app (goodIn_of _ (by decide +kernel)) ggX7_lastOf_X7_of
theorem dX7_lastOf_0 : decode cX7_lastOf 0 = .ok (.aload_n 0, 1) := by decide +kernel
theorem dX7_lastOf_1 : decode cX7_lastOf 1 = .ok (.iload_n 1, 1) := by decide +kernel
theorem dX7_lastOf_2 : decode cX7_lastOf 2 = .ok (.iconst 1, 1) := by decide +kernel
theorem dX7_lastOf_3 : decode cX7_lastOf 3 = .ok (.invokevirtual 71, 3) := by decide +kernel
theorem dX7_lastOf_6 : decode cX7_lastOf 6 = .ok (.istore_n 2, 1) := by decide +kernel
theorem dX7_lastOf_7 : decode cX7_lastOf 7 = .ok (.aload_n 0, 1) := by decide +kernel
theorem dX7_lastOf_8 : decode cX7_lastOf 8 = .ok (.iload_n 1, 1) := by decide +kernel
theorem dX7_lastOf_9 : decode cX7_lastOf 9 = .ok (.iconst 2, 1) := by decide +kernel
theorem dX7_lastOf_10 : decode cX7_lastOf 10 = .ok (.invokevirtual 71, 3) := by decide +kernel
theorem dX7_lastOf_13 : decode cX7_lastOf 13 = .ok (.iload_n 2, 1) := by decide +kernel
theorem dX7_lastOf_14 : decode cX7_lastOf 14 = .ok (.if_icmp .le 12, 3) := by decide +kernel
theorem dX7_lastOf_17 : decode cX7_lastOf 17 = .ok (.aload_n 0, 1) := by decide +kernel
theorem dX7_lastOf_18 : decode cX7_lastOf 18 = .ok (.iload_n 1, 1) := by decide +kernel
theorem dX7_lastOf_19 : decode cX7_lastOf 19 = .ok (.iconst 2, 1) := by decide +kernel
theorem dX7_lastOf_20 : decode cX7_lastOf 20 = .ok (.invokevirtual 71, 3) := by decide +kernel
theorem dX7_lastOf_23 : decode cX7_lastOf 23 = .ok (.goto 4, 3) := by decide +kernel
theorem dX7_lastOf_26 : decode cX7_lastOf 26 = .ok (.iload_n 2, 1) := by decide +kernel
theorem dX7_lastOf_27 : decode cX7_lastOf 27 = .ok (.istore_n 2, 1) := by decide +kernel
theorem dX7_lastOf_28 : decode cX7_lastOf 28 = .ok (.aload_n 0, 1) := by decide +kernel
theorem dX7_lastOf_29 : decode cX7_lastOf 29 = .ok (.iload_n 1, 1) := by decide +kernel
theorem dX7_lastOf_30 : decode cX7_lastOf 30 = .ok (.iconst 3, 1) := by decide +kernel
theorem dX7_lastOf_31 : decode cX7_lastOf 31 = .ok (.invokevirtual 71, 3) := by decide +kernel
theorem dX7_lastOf_34 : decode cX7_lastOf 34 = .ok (.iload_n 2, 1) := by decide +kernel
theorem dX7_lastOf_35 : decode cX7_lastOf 35 = .ok (.if_icmp .le 12, 3) := by decide +kernel
theorem dX7_lastOf_38 : decode cX7_lastOf 38 = .ok (.aload_n 0, 1) := by decide +kernel
theorem dX7_lastOf_39 : decode cX7_lastOf 39 = .ok (.iload_n 1, 1) := by decide +kernel
theorem dX7_lastOf_40 : decode cX7_lastOf 40 = .ok (.iconst 3, 1) := by decide +kernel
theorem dX7_lastOf_41 : decode cX7_lastOf 41 = .ok (.invokevirtual 71, 3) := by decide +kernel
theorem dX7_lastOf_44 : decode cX7_lastOf 44 = .ok (.goto 4, 3) := by decide +kernel
theorem dX7_lastOf_47 : decode cX7_lastOf 47 = .ok (.iload_n 2, 1) := by decide +kernel
theorem dX7_lastOf_48 : decode cX7_lastOf 48 = .ok (.istore_n 2, 1) := by decide +kernel
theorem dX7_lastOf_49 : decode cX7_lastOf 49 = .ok (.iload_n 2, 1) := by decide +kernel
theorem dX7_lastOf_50 : decode cX7_lastOf 50 = .ok (.iconst 4, 1) := by decide +kernel
theorem dX7_lastOf_51 : decode cX7_lastOf 51 = .ok (.idiv, 1) := by decide +kernel
theorem dX7_lastOf_52 : decode cX7_lastOf 52 = .ok (.ireturn, 1) := by decide +kernel
set_option maxRecDepth 20000 in
theorem ggX7_lay_X7_has : GoodIn wsX7_lay wsX7_has := goodIn_r _ [7] (by decide +kernel) (by decide +kernel)
set_option maxRecDepth 20000 in
theorem gX7_lay_X7_has : GoodIn wsX7_lay (va_wsS RX7 75 yX7_has wsX7_has) := goodIn_app (goodIn_of _ (by decide +kernel)) ggX7_lay_X7_has
set_option maxRecDepth 20000 in
theorem ggX7_lay_X7_lastOf : GoodIn wsX7_lay wsX7_lastOf := goodIn_r _ [11, 12, 13, 14, 6, 15, 16, 25, 26, 27, 28, 29, 30, 31, 32, 33, 34, 35, 36, 37, 38, 39] (by decide +kernel) (by decide +kernel)
set_option maxRecDepth 20000 in
theorem gX7_lay_X7_lastOf : GoodIn wsX7_lay (wsV RX7 79 RX7 yX7_lastOf wsX7_lastOf) := goodIn_app (goodIn_of _ (by decide +kernel)) ggX7_lay_X7_lastOf
set_option maxRecDepth 20000 in
theorem ggX7_lay_X7_of : GoodIn wsX7_lay wsX7_of := goodIn_r _ [15, 16, 25, 26, 27, 28, 29, 30, 31, 32, 33, 34, 35, 36, 37, 38, 39] (by decide +kernel) (by decide +kernel)
set_option maxRecDepth 20000 in
theorem gX7_lay_X7_of : GoodIn wsX7_lay (wsV RX7 71 RX7 yX7_of wsX7_of) := goodIn_app (goodIn_of _ (by decide +kernel)) ggX7_lay_X7_of
set_option maxRecDepth 20000 in
theorem ggX7_lay_X7_placeOf : GoodIn wsX7_lay wsX7_placeOf := goodIn_r _ [20, 1, 25, 26, 27, 28, 29, 30, 31, 32, 33, 34, 35, 36, 37, 38, 39] (by decide +kernel) (by decide +kernel)
set_option maxRecDepth 20000 in
theorem gX7_lay_X7_placeOf : GoodIn wsX7_lay (wsV RX7 82 RX7 yX7_placeOf wsX7_placeOf) := goodIn_app (goodIn_of _ (by decide +kernel)) ggX7_lay_X7_placeOf
set_option maxRecDepth 20000 in
theorem ggX7_lay_X7_isMet : GoodIn wsX7_lay wsX7_isMet := goodIn_r _ [24, 12, 13, 14, 6, 15, 16, 25, 26, 27, 28, 29, 30, 31, 32, 33, 34, 35, 36, 37, 38, 39] (by decide +kernel) (by decide +kernel)
set_option maxRecDepth 20000 in
theorem gX7_lay_X7_isMet : GoodIn wsX7_lay (wsV RX7 85 RX7 yX7_isMet wsX7_isMet) := goodIn_app (goodIn_of _ (by decide +kernel)) ggX7_lay_X7_isMet
theorem dX7_lay_0 : decode cX7_lay 0 = .ok (.iconst 0, 1) := by decide +kernel
theorem dX7_lay_1 : decode cX7_lay 1 = .ok (.istore 4, 2) := by decide +kernel
theorem dX7_lay_3 : decode cX7_lay 3 = .ok (.iload 4, 2) := by decide +kernel
theorem dX7_lay_5 : decode cX7_lay 5 = .ok (.iconst 4, 1) := by decide +kernel
theorem dX7_lay_6 : decode cX7_lay 6 = .ok (.if_icmp .ge 31, 3) := by decide +kernel
theorem dX7_lay_9 : decode cX7_lay 9 = .ok (.aload_n 0, 1) := by decide +kernel
theorem dX7_lay_10 : decode cX7_lay 10 = .ok (.getfield 23, 3) := by decide +kernel
theorem dX7_lay_13 : decode cX7_lay 13 = .ok (.iconst 4, 1) := by decide +kernel
theorem dX7_lay_14 : decode cX7_lay 14 = .ok (.iload_n 1, 1) := by decide +kernel
theorem dX7_lay_15 : decode cX7_lay 15 = .ok (.imul, 1) := by decide +kernel
theorem dX7_lay_16 : decode cX7_lay 16 = .ok (.iload 4, 2) := by decide +kernel
theorem dX7_lay_18 : decode cX7_lay 18 = .ok (.iadd, 1) := by decide +kernel
theorem dX7_lay_19 : decode cX7_lay 19 = .ok (.aload_n 0, 1) := by decide +kernel
theorem dX7_lay_20 : decode cX7_lay 20 = .ok (.getfield 20, 3) := by decide +kernel
theorem dX7_lay_23 : decode cX7_lay 23 = .ok (.iconst 4, 1) := by decide +kernel
theorem dX7_lay_24 : decode cX7_lay 24 = .ok (.iload_n 2, 1) := by decide +kernel
theorem dX7_lay_25 : decode cX7_lay 25 = .ok (.imul, 1) := by decide +kernel
theorem dX7_lay_26 : decode cX7_lay 26 = .ok (.iload 4, 2) := by decide +kernel
theorem dX7_lay_28 : decode cX7_lay 28 = .ok (.iadd, 1) := by decide +kernel
theorem dX7_lay_29 : decode cX7_lay 29 = .ok (.iaload, 1) := by decide +kernel
theorem dX7_lay_30 : decode cX7_lay 30 = .ok (.iastore, 1) := by decide +kernel
theorem dX7_lay_31 : decode cX7_lay 31 = .ok (.iinc 4 1, 3) := by decide +kernel
theorem dX7_lay_34 : decode cX7_lay 34 = .ok (.goto (-31), 3) := by decide +kernel
theorem dX7_lay_37 : decode cX7_lay 37 = .ok (.iconst 1, 1) := by decide +kernel
theorem dX7_lay_38 : decode cX7_lay 38 = .ok (.istore 4, 2) := by decide +kernel
theorem dX7_lay_40 : decode cX7_lay 40 = .ok (.iconst 0, 1) := by decide +kernel
theorem dX7_lay_41 : decode cX7_lay 41 = .ok (.istore 5, 2) := by decide +kernel
theorem dX7_lay_43 : decode cX7_lay 43 = .ok (.iload 5, 2) := by decide +kernel
theorem dX7_lay_45 : decode cX7_lay 45 = .ok (.aload_n 0, 1) := by decide +kernel
theorem dX7_lay_46 : decode cX7_lay 46 = .ok (.getfield 43, 3) := by decide +kernel
theorem dX7_lay_49 : decode cX7_lay 49 = .ok (.if_icmp .ge 74, 3) := by decide +kernel
theorem dX7_lay_52 : decode cX7_lay 52 = .ok (.iload 4, 2) := by decide +kernel
theorem dX7_lay_54 : decode cX7_lay 54 = .ok (.ifCond .eq 69, 3) := by decide +kernel
theorem dX7_lay_57 : decode cX7_lay 57 = .ok (.iload_n 3, 1) := by decide +kernel
theorem dX7_lay_58 : decode cX7_lay 58 = .ok (.iload 5, 2) := by decide +kernel
theorem dX7_lay_60 : decode cX7_lay 60 = .ok (.invokestatic 75, 3) := by decide +kernel
theorem dX7_lay_63 : decode cX7_lay 63 = .ok (.ifCond .eq 54, 3) := by decide +kernel
theorem dX7_lay_66 : decode cX7_lay 66 = .ok (.aload_n 0, 1) := by decide +kernel
theorem dX7_lay_67 : decode cX7_lay 67 = .ok (.iload 5, 2) := by decide +kernel
theorem dX7_lay_69 : decode cX7_lay 69 = .ok (.invokevirtual 79, 3) := by decide +kernel
theorem dX7_lay_72 : decode cX7_lay 72 = .ok (.iload_n 1, 1) := by decide +kernel
theorem dX7_lay_73 : decode cX7_lay 73 = .ok (.if_icmp .ne 44, 3) := by decide +kernel
theorem dX7_lay_76 : decode cX7_lay 76 = .ok (.aload_n 0, 1) := by decide +kernel
theorem dX7_lay_77 : decode cX7_lay 77 = .ok (.iload 5, 2) := by decide +kernel
theorem dX7_lay_79 : decode cX7_lay 79 = .ok (.aload_n 0, 1) := by decide +kernel
theorem dX7_lay_80 : decode cX7_lay 80 = .ok (.aload_n 0, 1) := by decide +kernel
theorem dX7_lay_81 : decode cX7_lay 81 = .ok (.iload 5, 2) := by decide +kernel
theorem dX7_lay_83 : decode cX7_lay 83 = .ok (.iconst 1, 1) := by decide +kernel
theorem dX7_lay_84 : decode cX7_lay 84 = .ok (.invokevirtual 71, 3) := by decide +kernel
theorem dX7_lay_87 : decode cX7_lay 87 = .ok (.invokevirtual 82, 3) := by decide +kernel
theorem dX7_lay_90 : decode cX7_lay 90 = .ok (.aload_n 0, 1) := by decide +kernel
theorem dX7_lay_91 : decode cX7_lay 91 = .ok (.aload_n 0, 1) := by decide +kernel
theorem dX7_lay_92 : decode cX7_lay 92 = .ok (.iload 5, 2) := by decide +kernel
theorem dX7_lay_94 : decode cX7_lay 94 = .ok (.iconst 2, 1) := by decide +kernel
theorem dX7_lay_95 : decode cX7_lay 95 = .ok (.invokevirtual 71, 3) := by decide +kernel
theorem dX7_lay_98 : decode cX7_lay 98 = .ok (.invokevirtual 82, 3) := by decide +kernel
theorem dX7_lay_101 : decode cX7_lay 101 = .ok (.aload_n 0, 1) := by decide +kernel
theorem dX7_lay_102 : decode cX7_lay 102 = .ok (.aload_n 0, 1) := by decide +kernel
theorem dX7_lay_103 : decode cX7_lay 103 = .ok (.iload 5, 2) := by decide +kernel
theorem dX7_lay_105 : decode cX7_lay 105 = .ok (.iconst 3, 1) := by decide +kernel
theorem dX7_lay_106 : decode cX7_lay 106 = .ok (.invokevirtual 71, 3) := by decide +kernel
theorem dX7_lay_109 : decode cX7_lay 109 = .ok (.invokevirtual 82, 3) := by decide +kernel
theorem dX7_lay_112 : decode cX7_lay 112 = .ok (.invokevirtual 85, 3) := by decide +kernel
theorem dX7_lay_115 : decode cX7_lay 115 = .ok (.istore 4, 2) := by decide +kernel
theorem dX7_lay_117 : decode cX7_lay 117 = .ok (.iinc 5 1, 3) := by decide +kernel
theorem dX7_lay_120 : decode cX7_lay 120 = .ok (.goto (-77), 3) := by decide +kernel
theorem dX7_lay_123 : decode cX7_lay 123 = .ok (.iload 4, 2) := by decide +kernel
theorem dX7_lay_125 : decode cX7_lay 125 = .ok (.ireturn, 1) := by decide +kernel
set_option maxRecDepth 20000 in
theorem ggX7_counts_X7_placeOf : GoodIn wsX7_counts wsX7_placeOf := goodIn_r _ [9, 4, 10, 11, 12, 13, 14, 15, 16, 17, 18, 19, 20, 21, 22, 23, 24] (by decide +kernel) (by decide +kernel)
set_option maxRecDepth 20000 in
theorem gX7_counts_X7_placeOf : GoodIn wsX7_counts (wsV RX7 82 RX7 yX7_placeOf wsX7_placeOf) := goodIn_app (goodIn_of _ (by decide +kernel)) ggX7_counts_X7_placeOf
theorem dX7_counts_0 : decode cX7_counts 0 = .ok (.aload_n 0, 1) := by decide +kernel
theorem dX7_counts_1 : decode cX7_counts 1 = .ok (.getfield 89, 3) := by decide +kernel
theorem dX7_counts_4 : decode cX7_counts 4 = .ok (.tableswitch 98 1 3 #[28, 49, 71], 28) := by decide +kernel
theorem dX7_counts_32 : decode cX7_counts 32 = .ok (.iload_n 1, 1) := by decide +kernel
theorem dX7_counts_33 : decode cX7_counts 33 = .ok (.aload_n 0, 1) := by decide +kernel
theorem dX7_counts_34 : decode cX7_counts 34 = .ok (.getfield 92, 3) := by decide +kernel
theorem dX7_counts_37 : decode cX7_counts 37 = .ok (.if_icmp .ne 14, 3) := by decide +kernel
theorem dX7_counts_40 : decode cX7_counts 40 = .ok (.aload_n 0, 1) := by decide +kernel
theorem dX7_counts_41 : decode cX7_counts 41 = .ok (.aload_n 0, 1) := by decide +kernel
theorem dX7_counts_42 : decode cX7_counts 42 = .ok (.getfield 95, 3) := by decide +kernel
theorem dX7_counts_45 : decode cX7_counts 45 = .ok (.invokevirtual 82, 3) := by decide +kernel
theorem dX7_counts_48 : decode cX7_counts 48 = .ok (.goto 4, 3) := by decide +kernel
theorem dX7_counts_51 : decode cX7_counts 51 = .ok (.iconst 0, 1) := by decide +kernel
theorem dX7_counts_52 : decode cX7_counts 52 = .ok (.ireturn, 1) := by decide +kernel
theorem dX7_counts_53 : decode cX7_counts 53 = .ok (.aload_n 0, 1) := by decide +kernel
theorem dX7_counts_54 : decode cX7_counts 54 = .ok (.getfield 23, 3) := by decide +kernel
theorem dX7_counts_57 : decode cX7_counts 57 = .ok (.aload_n 0, 1) := by decide +kernel
theorem dX7_counts_58 : decode cX7_counts 58 = .ok (.getfield 92, 3) := by decide +kernel
theorem dX7_counts_61 : decode cX7_counts 61 = .ok (.iaload, 1) := by decide +kernel
theorem dX7_counts_62 : decode cX7_counts 62 = .ok (.aload_n 0, 1) := by decide +kernel
theorem dX7_counts_63 : decode cX7_counts 63 = .ok (.getfield 95, 3) := by decide +kernel
theorem dX7_counts_66 : decode cX7_counts 66 = .ok (.if_icmp .ne 7, 3) := by decide +kernel
theorem dX7_counts_69 : decode cX7_counts 69 = .ok (.iconst 1, 1) := by decide +kernel
theorem dX7_counts_70 : decode cX7_counts 70 = .ok (.goto 4, 3) := by decide +kernel
theorem dX7_counts_73 : decode cX7_counts 73 = .ok (.iconst 0, 1) := by decide +kernel
theorem dX7_counts_74 : decode cX7_counts 74 = .ok (.ireturn, 1) := by decide +kernel
theorem dX7_counts_75 : decode cX7_counts 75 = .ok (.aload_n 0, 1) := by decide +kernel
theorem dX7_counts_76 : decode cX7_counts 76 = .ok (.getfield 23, 3) := by decide +kernel
theorem dX7_counts_79 : decode cX7_counts 79 = .ok (.aload_n 0, 1) := by decide +kernel
theorem dX7_counts_80 : decode cX7_counts 80 = .ok (.getfield 92, 3) := by decide +kernel
theorem dX7_counts_83 : decode cX7_counts 83 = .ok (.iaload, 1) := by decide +kernel
theorem dX7_counts_84 : decode cX7_counts 84 = .ok (.aload_n 0, 1) := by decide +kernel
theorem dX7_counts_85 : decode cX7_counts 85 = .ok (.getfield 23, 3) := by decide +kernel
theorem dX7_counts_88 : decode cX7_counts 88 = .ok (.aload_n 0, 1) := by decide +kernel
theorem dX7_counts_89 : decode cX7_counts 89 = .ok (.getfield 95, 3) := by decide +kernel
theorem dX7_counts_92 : decode cX7_counts 92 = .ok (.iaload, 1) := by decide +kernel
theorem dX7_counts_93 : decode cX7_counts 93 = .ok (.if_icmp .ne 7, 3) := by decide +kernel
theorem dX7_counts_96 : decode cX7_counts 96 = .ok (.iconst 1, 1) := by decide +kernel
theorem dX7_counts_97 : decode cX7_counts 97 = .ok (.goto 4, 3) := by decide +kernel
theorem dX7_counts_100 : decode cX7_counts 100 = .ok (.iconst 0, 1) := by decide +kernel
theorem dX7_counts_101 : decode cX7_counts 101 = .ok (.ireturn, 1) := by decide +kernel
theorem dX7_counts_102 : decode cX7_counts 102 = .ok (.iconst 1, 1) := by decide +kernel
theorem dX7_counts_103 : decode cX7_counts 103 = .ok (.ireturn, 1) := by decide +kernel
set_option maxRecDepth 20000 in
theorem ggX7_sum_X7_lay : GoodIn wsX7_sum wsX7_lay := goodIn_r _ [8, 9, 10, 11, 12, 13, 7, 14, 15, 16, 17, 18, 19, 20, 21, 22, 23, 24, 25, 26, 27, 28, 29, 30, 31, 36, 37, 38, 39, 40, 41, 42, 43, 44, 45, 46, 47, 48, 49, 50] (by decide +kernel) (by decide +kernel)
set_option maxRecDepth 20000 in
theorem gX7_sum_X7_lay : GoodIn wsX7_sum (wsV RX7 98 RX7 yX7_lay wsX7_lay) := goodIn_app (goodIn_of _ (by decide +kernel)) ggX7_sum_X7_lay
set_option maxRecDepth 20000 in
theorem ggX7_sum_X7_counts : GoodIn wsX7_sum wsX7_counts := goodIn_r _ [35, 1, 2, 3, 9, 24, 25, 26, 7, 27, 36, 37, 38, 39, 40, 41, 42, 43, 44, 45, 46, 47, 48, 49, 50] (by decide +kernel) (by decide +kernel)
set_option maxRecDepth 20000 in
theorem gX7_sum_X7_counts : GoodIn wsX7_sum (wsV RX7 101 RX7 yX7_counts wsX7_counts) := goodIn_app (goodIn_of _ (by decide +kernel)) ggX7_sum_X7_counts
theorem dX7_sum_0 : decode cX7_sum 0 = .ok (.aload_n 0, 1) := by decide +kernel
theorem dX7_sum_1 : decode cX7_sum 1 = .ok (.iload_n 2, 1) := by decide +kernel
theorem dX7_sum_2 : decode cX7_sum 2 = .ok (.putfield 89, 3) := by decide +kernel
theorem dX7_sum_5 : decode cX7_sum 5 = .ok (.aload_n 0, 1) := by decide +kernel
theorem dX7_sum_6 : decode cX7_sum 6 = .ok (.iload_n 3, 1) := by decide +kernel
theorem dX7_sum_7 : decode cX7_sum 7 = .ok (.putfield 92, 3) := by decide +kernel
theorem dX7_sum_10 : decode cX7_sum 10 = .ok (.aload_n 0, 1) := by decide +kernel
theorem dX7_sum_11 : decode cX7_sum 11 = .ok (.iload 4, 2) := by decide +kernel
theorem dX7_sum_13 : decode cX7_sum 13 = .ok (.putfield 95, 3) := by decide +kernel
theorem dX7_sum_16 : decode cX7_sum 16 = .ok (.iconst 0, 1) := by decide +kernel
theorem dX7_sum_17 : decode cX7_sum 17 = .ok (.istore 5, 2) := by decide +kernel
theorem dX7_sum_19 : decode cX7_sum 19 = .ok (.iconst 0, 1) := by decide +kernel
theorem dX7_sum_20 : decode cX7_sum 20 = .ok (.istore 6, 2) := by decide +kernel
theorem dX7_sum_22 : decode cX7_sum 22 = .ok (.iconst 0, 1) := by decide +kernel
theorem dX7_sum_23 : decode cX7_sum 23 = .ok (.istore 7, 2) := by decide +kernel
theorem dX7_sum_25 : decode cX7_sum 25 = .ok (.iload 7, 2) := by decide +kernel
theorem dX7_sum_27 : decode cX7_sum 27 = .ok (.bipush 24, 2) := by decide +kernel
theorem dX7_sum_29 : decode cX7_sum 29 = .ok (.if_icmp .ge 115, 3) := by decide +kernel
theorem dX7_sum_32 : decode cX7_sum 32 = .ok (.aload_n 0, 1) := by decide +kernel
theorem dX7_sum_33 : decode cX7_sum 33 = .ok (.iconst 0, 1) := by decide +kernel
theorem dX7_sum_34 : decode cX7_sum 34 = .ok (.iload 7, 2) := by decide +kernel
theorem dX7_sum_36 : decode cX7_sum 36 = .ok (.iload_n 1, 1) := by decide +kernel
theorem dX7_sum_37 : decode cX7_sum 37 = .ok (.invokevirtual 98, 3) := by decide +kernel
theorem dX7_sum_40 : decode cX7_sum 40 = .ok (.ifCond .eq 98, 3) := by decide +kernel
theorem dX7_sum_43 : decode cX7_sum 43 = .ok (.iconst 0, 1) := by decide +kernel
theorem dX7_sum_44 : decode cX7_sum 44 = .ok (.istore 8, 2) := by decide +kernel
theorem dX7_sum_46 : decode cX7_sum 46 = .ok (.iload 8, 2) := by decide +kernel
theorem dX7_sum_48 : decode cX7_sum 48 = .ok (.bipush 24, 2) := by decide +kernel
theorem dX7_sum_50 : decode cX7_sum 50 = .ok (.if_icmp .ge 88, 3) := by decide +kernel
theorem dX7_sum_53 : decode cX7_sum 53 = .ok (.aload_n 0, 1) := by decide +kernel
theorem dX7_sum_54 : decode cX7_sum 54 = .ok (.iconst 1, 1) := by decide +kernel
theorem dX7_sum_55 : decode cX7_sum 55 = .ok (.iload 8, 2) := by decide +kernel
theorem dX7_sum_57 : decode cX7_sum 57 = .ok (.iload_n 1, 1) := by decide +kernel
theorem dX7_sum_58 : decode cX7_sum 58 = .ok (.invokevirtual 98, 3) := by decide +kernel
theorem dX7_sum_61 : decode cX7_sum 61 = .ok (.ifCond .eq 71, 3) := by decide +kernel
theorem dX7_sum_64 : decode cX7_sum 64 = .ok (.iconst 0, 1) := by decide +kernel
theorem dX7_sum_65 : decode cX7_sum 65 = .ok (.istore 9, 2) := by decide +kernel
theorem dX7_sum_67 : decode cX7_sum 67 = .ok (.iload 9, 2) := by decide +kernel
theorem dX7_sum_69 : decode cX7_sum 69 = .ok (.bipush 24, 2) := by decide +kernel
theorem dX7_sum_71 : decode cX7_sum 71 = .ok (.if_icmp .ge 61, 3) := by decide +kernel
theorem dX7_sum_74 : decode cX7_sum 74 = .ok (.aload_n 0, 1) := by decide +kernel
theorem dX7_sum_75 : decode cX7_sum 75 = .ok (.iconst 2, 1) := by decide +kernel
theorem dX7_sum_76 : decode cX7_sum 76 = .ok (.iload 9, 2) := by decide +kernel
theorem dX7_sum_78 : decode cX7_sum 78 = .ok (.iload_n 1, 1) := by decide +kernel
theorem dX7_sum_79 : decode cX7_sum 79 = .ok (.invokevirtual 98, 3) := by decide +kernel
theorem dX7_sum_82 : decode cX7_sum 82 = .ok (.ifCond .eq 44, 3) := by decide +kernel
theorem dX7_sum_85 : decode cX7_sum 85 = .ok (.iconst 0, 1) := by decide +kernel
theorem dX7_sum_86 : decode cX7_sum 86 = .ok (.istore 10, 2) := by decide +kernel
theorem dX7_sum_88 : decode cX7_sum 88 = .ok (.iload 10, 2) := by decide +kernel
theorem dX7_sum_90 : decode cX7_sum 90 = .ok (.bipush 24, 2) := by decide +kernel
theorem dX7_sum_92 : decode cX7_sum 92 = .ok (.if_icmp .ge 34, 3) := by decide +kernel
theorem dX7_sum_95 : decode cX7_sum 95 = .ok (.aload_n 0, 1) := by decide +kernel
theorem dX7_sum_96 : decode cX7_sum 96 = .ok (.iconst 3, 1) := by decide +kernel
theorem dX7_sum_97 : decode cX7_sum 97 = .ok (.iload 10, 2) := by decide +kernel
theorem dX7_sum_99 : decode cX7_sum 99 = .ok (.iload_n 1, 1) := by decide +kernel
theorem dX7_sum_100 : decode cX7_sum 100 = .ok (.invokevirtual 98, 3) := by decide +kernel
theorem dX7_sum_103 : decode cX7_sum 103 = .ok (.ifCond .eq 17, 3) := by decide +kernel
theorem dX7_sum_106 : decode cX7_sum 106 = .ok (.iload 6, 2) := by decide +kernel
theorem dX7_sum_108 : decode cX7_sum 108 = .ok (.aload_n 0, 1) := by decide +kernel
theorem dX7_sum_109 : decode cX7_sum 109 = .ok (.iload 5, 2) := by decide +kernel
theorem dX7_sum_111 : decode cX7_sum 111 = .ok (.invokevirtual 101, 3) := by decide +kernel
theorem dX7_sum_114 : decode cX7_sum 114 = .ok (.iadd, 1) := by decide +kernel
theorem dX7_sum_115 : decode cX7_sum 115 = .ok (.istore 6, 2) := by decide +kernel
theorem dX7_sum_117 : decode cX7_sum 117 = .ok (.iinc 5 1, 3) := by decide +kernel
theorem dX7_sum_120 : decode cX7_sum 120 = .ok (.iinc 10 1, 3) := by decide +kernel
theorem dX7_sum_123 : decode cX7_sum 123 = .ok (.goto (-35), 3) := by decide +kernel
theorem dX7_sum_126 : decode cX7_sum 126 = .ok (.iinc 9 1, 3) := by decide +kernel
theorem dX7_sum_129 : decode cX7_sum 129 = .ok (.goto (-62), 3) := by decide +kernel
theorem dX7_sum_132 : decode cX7_sum 132 = .ok (.iinc 8 1, 3) := by decide +kernel
theorem dX7_sum_135 : decode cX7_sum 135 = .ok (.goto (-89), 3) := by decide +kernel
theorem dX7_sum_138 : decode cX7_sum 138 = .ok (.iinc 7 1, 3) := by decide +kernel
theorem dX7_sum_141 : decode cX7_sum 141 = .ok (.goto (-116), 3) := by decide +kernel
theorem dX7_sum_144 : decode cX7_sum 144 = .ok (.iload 6, 2) := by decide +kernel
theorem dX7_sum_146 : decode cX7_sum 146 = .ok (.ireturn, 1) := by decide +kernel
theorem dX7_all_0 : decode cX7_all 0 = .ok (.iconst 1, 1) := by decide +kernel
theorem dX7_all_1 : decode cX7_all 1 = .ok (.aload_n 0, 1) := by decide +kernel
theorem dX7_all_2 : decode cX7_all 2 = .ok (.getfield 43, 3) := by decide +kernel
theorem dX7_all_5 : decode cX7_all 5 = .ok (.ishl, 1) := by decide +kernel
theorem dX7_all_6 : decode cX7_all 6 = .ok (.iconst 1, 1) := by decide +kernel
theorem dX7_all_7 : decode cX7_all 7 = .ok (.isub, 1) := by decide +kernel
theorem dX7_all_8 : decode cX7_all 8 = .ok (.ireturn, 1) := by decide +kernel
set_option maxRecDepth 20000 in
theorem ggX7_answers_X7_all : GoodIn wsX7_answers wsX7_all := goodIn_r _ [5, 6, 44, 45, 46, 47, 48, 49, 50, 51, 52, 53, 54, 55, 56, 57, 58] (by decide +kernel) (by decide +kernel)
set_option maxRecDepth 20000 in
theorem gX7_answers_X7_all : GoodIn wsX7_answers (wsV RX7 104 RX7 yX7_all wsX7_all) := goodIn_app (goodIn_of _ (by decide +kernel)) ggX7_answers_X7_all
set_option maxRecDepth 20000 in
theorem ggX7_answers_X7_sum : GoodIn wsX7_answers wsX7_sum := goodIn_r _ [10, 11, 12, 13, 14, 15, 16, 4, 17, 18, 19, 6, 20, 21, 22, 23, 24, 25, 26, 27, 28, 29, 30, 31, 32, 33, 34, 35, 36, 37, 38, 39, 40, 41, 42, 43, 44, 45, 46, 47, 48, 49, 50, 51, 52, 53, 54, 55, 56, 57, 58] (by decide +kernel) (by decide +kernel)
set_option maxRecDepth 20000 in
theorem gX7_answers_X7_sum : GoodIn wsX7_answers (wsV RX7 107 RX7 yX7_sum wsX7_sum) := goodIn_app (goodIn_of _ (by decide +kernel)) ggX7_answers_X7_sum
theorem dX7_answers_0 : decode cX7_answers 0 = .ok (.aload_n 0, 1) := by decide +kernel
theorem dX7_answers_1 : decode cX7_answers 1 = .ok (.aload_n 0, 1) := by decide +kernel
theorem dX7_answers_2 : decode cX7_answers 2 = .ok (.invokevirtual 104, 3) := by decide +kernel
theorem dX7_answers_5 : decode cX7_answers 5 = .ok (.iconst 0, 1) := by decide +kernel
theorem dX7_answers_6 : decode cX7_answers 6 = .ok (.iconst 0, 1) := by decide +kernel
theorem dX7_answers_7 : decode cX7_answers 7 = .ok (.iconst 0, 1) := by decide +kernel
theorem dX7_answers_8 : decode cX7_answers 8 = .ok (.invokevirtual 107, 3) := by decide +kernel
theorem dX7_answers_11 : decode cX7_answers 11 = .ok (.ireturn, 1) := by decide +kernel
set_option maxRecDepth 20000 in
theorem ggX7_answer_X7_isItem : GoodIn wsX7_answer wsX7_isItem := goodIn_r _ [4, 5, 6, 3, 7] (by decide +kernel) (by decide +kernel)
set_option maxRecDepth 20000 in
theorem gX7_answer_X7_isItem : GoodIn wsX7_answer (va_wsS RX7 111 yX7_isItem wsX7_isItem) := goodIn_app (goodIn_of _ (by decide +kernel)) ggX7_answer_X7_isItem
set_option maxRecDepth 20000 in
theorem ggX7_answer_X7_all : GoodIn wsX7_answer wsX7_all := goodIn_r _ [11, 12, 50, 51, 52, 53, 54, 55, 56, 57, 58, 59, 60, 61, 62, 63, 64] (by decide +kernel) (by decide +kernel)
set_option maxRecDepth 20000 in
theorem gX7_answer_X7_all : GoodIn wsX7_answer (wsV RX7 104 RX7 yX7_all wsX7_all) := goodIn_app (goodIn_of _ (by decide +kernel)) ggX7_answer_X7_all
set_option maxRecDepth 20000 in
theorem ggX7_answer_X7_sum : GoodIn wsX7_answer wsX7_sum := goodIn_r _ [16, 17, 18, 19, 20, 21, 22, 3, 23, 24, 25, 12, 26, 27, 28, 29, 30, 31, 32, 33, 34, 35, 36, 37, 38, 39, 40, 41, 42, 43, 44, 45, 46, 47, 48, 49, 50, 51, 52, 53, 54, 55, 56, 57, 58, 59, 60, 61, 62, 63, 64] (by decide +kernel) (by decide +kernel)
set_option maxRecDepth 20000 in
theorem gX7_answer_X7_sum : GoodIn wsX7_answer (wsV RX7 107 RX7 yX7_sum wsX7_sum) := goodIn_app (goodIn_of _ (by decide +kernel)) ggX7_answer_X7_sum
theorem dX7_answer_0 : decode cX7_answer 0 = .ok (.iload_n 1, 1) := by decide +kernel
theorem dX7_answer_1 : decode cX7_answer 1 = .ok (.ifCond .lt 10, 3) := by decide +kernel
theorem dX7_answer_4 : decode cX7_answer 4 = .ok (.iload_n 2, 1) := by decide +kernel
theorem dX7_answer_5 : decode cX7_answer 5 = .ok (.invokestatic 111, 3) := by decide +kernel
theorem dX7_answer_8 : decode cX7_answer 8 = .ok (.ifCond .ne 6, 3) := by decide +kernel
theorem dX7_answer_11 : decode cX7_answer 11 = .ok (.bipush (-2), 2) := by decide +kernel
theorem dX7_answer_13 : decode cX7_answer 13 = .ok (.ireturn, 1) := by decide +kernel
theorem dX7_answer_14 : decode cX7_answer 14 = .ok (.aload_n 0, 1) := by decide +kernel
theorem dX7_answer_15 : decode cX7_answer 15 = .ok (.aload_n 0, 1) := by decide +kernel
theorem dX7_answer_16 : decode cX7_answer 16 = .ok (.invokevirtual 104, 3) := by decide +kernel
theorem dX7_answer_19 : decode cX7_answer 19 = .ok (.iconst 1, 1) := by decide +kernel
theorem dX7_answer_20 : decode cX7_answer 20 = .ok (.iload_n 1, 1) := by decide +kernel
theorem dX7_answer_21 : decode cX7_answer 21 = .ok (.iload_n 2, 1) := by decide +kernel
theorem dX7_answer_22 : decode cX7_answer 22 = .ok (.invokevirtual 107, 3) := by decide +kernel
theorem dX7_answer_25 : decode cX7_answer 25 = .ok (.istore_n 3, 1) := by decide +kernel
theorem dX7_answer_26 : decode cX7_answer 26 = .ok (.iload_n 3, 1) := by decide +kernel
theorem dX7_answer_27 : decode cX7_answer 27 = .ok (.ifCond .ne 8, 3) := by decide +kernel
theorem dX7_answer_30 : decode cX7_answer 30 = .ok (.bipush (-6), 2) := by decide +kernel
theorem dX7_answer_32 : decode cX7_answer 32 = .ok (.goto 4, 3) := by decide +kernel
theorem dX7_answer_35 : decode cX7_answer 35 = .ok (.iload_n 3, 1) := by decide +kernel
theorem dX7_answer_36 : decode cX7_answer 36 = .ok (.ireturn, 1) := by decide +kernel
set_option maxRecDepth 20000 in
theorem ggX7_often_X7_isItem : GoodIn wsX7_often wsX7_isItem := goodIn_r _ [4, 5, 6, 3, 7] (by decide +kernel) (by decide +kernel)
set_option maxRecDepth 20000 in
theorem gX7_often_X7_isItem : GoodIn wsX7_often (va_wsS RX7 111 yX7_isItem wsX7_isItem) := goodIn_app (goodIn_of _ (by decide +kernel)) ggX7_often_X7_isItem
set_option maxRecDepth 20000 in
theorem ggX7_often_X7_isPlace : GoodIn wsX7_often wsX7_isPlace := goodIn_r _ [10, 5, 6, 3, 7] (by decide +kernel) (by decide +kernel)
set_option maxRecDepth 20000 in
theorem gX7_often_X7_isPlace : GoodIn wsX7_often (va_wsS RX7 114 yX7_isPlace wsX7_isPlace) := goodIn_app (goodIn_of _ (by decide +kernel)) ggX7_often_X7_isPlace
set_option maxRecDepth 20000 in
theorem ggX7_often_X7_all : GoodIn wsX7_often wsX7_all := goodIn_r _ [14, 15, 53, 54, 55, 56, 57, 58, 59, 60, 61, 62, 63, 64, 65, 66, 67] (by decide +kernel) (by decide +kernel)
set_option maxRecDepth 20000 in
theorem gX7_often_X7_all : GoodIn wsX7_often (wsV RX7 104 RX7 yX7_all wsX7_all) := goodIn_app (goodIn_of _ (by decide +kernel)) ggX7_often_X7_all
set_option maxRecDepth 20000 in
theorem ggX7_often_X7_sum : GoodIn wsX7_often wsX7_sum := goodIn_r _ [19, 20, 21, 22, 23, 24, 25, 3, 26, 27, 28, 15, 29, 30, 31, 32, 33, 34, 35, 36, 37, 38, 39, 40, 41, 42, 43, 44, 45, 46, 47, 48, 49, 50, 51, 52, 53, 54, 55, 56, 57, 58, 59, 60, 61, 62, 63, 64, 65, 66, 67] (by decide +kernel) (by decide +kernel)
set_option maxRecDepth 20000 in
theorem gX7_often_X7_sum : GoodIn wsX7_often (wsV RX7 107 RX7 yX7_sum wsX7_sum) := goodIn_app (goodIn_of _ (by decide +kernel)) ggX7_often_X7_sum
theorem dX7_often_0 : decode cX7_often 0 = .ok (.iload_n 1, 1) := by decide +kernel
theorem dX7_often_1 : decode cX7_often 1 = .ok (.invokestatic 111, 3) := by decide +kernel
theorem dX7_often_4 : decode cX7_often 4 = .ok (.ifCond .eq 24, 3) := by decide +kernel
theorem dX7_often_7 : decode cX7_often 7 = .ok (.iload_n 2, 1) := by decide +kernel
theorem dX7_often_8 : decode cX7_often 8 = .ok (.invokestatic 114, 3) := by decide +kernel
theorem dX7_often_11 : decode cX7_often 11 = .ok (.ifCond .eq 17, 3) := by decide +kernel
theorem dX7_often_14 : decode cX7_often 14 = .ok (.aload_n 0, 1) := by decide +kernel
theorem dX7_often_15 : decode cX7_often 15 = .ok (.aload_n 0, 1) := by decide +kernel
theorem dX7_often_16 : decode cX7_often 16 = .ok (.invokevirtual 104, 3) := by decide +kernel
theorem dX7_often_19 : decode cX7_often 19 = .ok (.iconst 2, 1) := by decide +kernel
theorem dX7_often_20 : decode cX7_often 20 = .ok (.iload_n 1, 1) := by decide +kernel
theorem dX7_often_21 : decode cX7_often 21 = .ok (.iload_n 2, 1) := by decide +kernel
theorem dX7_often_22 : decode cX7_often 22 = .ok (.invokevirtual 107, 3) := by decide +kernel
theorem dX7_often_25 : decode cX7_often 25 = .ok (.goto 5, 3) := by decide +kernel
theorem dX7_often_28 : decode cX7_often 28 = .ok (.bipush (-2), 2) := by decide +kernel
theorem dX7_often_30 : decode cX7_often 30 = .ok (.ireturn, 1) := by decide +kernel
set_option maxRecDepth 20000 in
theorem ggX7_together_X7_isItem : GoodIn wsX7_together wsX7_isItem := goodIn_r _ [4, 5, 6, 3, 7] (by decide +kernel) (by decide +kernel)
set_option maxRecDepth 20000 in
theorem gX7_together_X7_isItem : GoodIn wsX7_together (va_wsS RX7 111 yX7_isItem wsX7_isItem) := goodIn_app (goodIn_of _ (by decide +kernel)) ggX7_together_X7_isItem
set_option maxRecDepth 20000 in
theorem ggX7_together_X7_all : GoodIn wsX7_together wsX7_all := goodIn_r _ [11, 12, 50, 51, 52, 53, 54, 55, 56, 57, 58, 59, 60, 61, 62, 63, 64] (by decide +kernel) (by decide +kernel)
set_option maxRecDepth 20000 in
theorem gX7_together_X7_all : GoodIn wsX7_together (wsV RX7 104 RX7 yX7_all wsX7_all) := goodIn_app (goodIn_of _ (by decide +kernel)) ggX7_together_X7_all
set_option maxRecDepth 20000 in
theorem ggX7_together_X7_sum : GoodIn wsX7_together wsX7_sum := goodIn_r _ [16, 17, 18, 19, 20, 21, 22, 3, 23, 24, 25, 12, 26, 27, 28, 29, 30, 31, 32, 33, 34, 35, 36, 37, 38, 39, 40, 41, 42, 43, 44, 45, 46, 47, 48, 49, 50, 51, 52, 53, 54, 55, 56, 57, 58, 59, 60, 61, 62, 63, 64] (by decide +kernel) (by decide +kernel)
set_option maxRecDepth 20000 in
theorem gX7_together_X7_sum : GoodIn wsX7_together (wsV RX7 107 RX7 yX7_sum wsX7_sum) := goodIn_app (goodIn_of _ (by decide +kernel)) ggX7_together_X7_sum
theorem dX7_together_0 : decode cX7_together 0 = .ok (.iload_n 1, 1) := by decide +kernel
theorem dX7_together_1 : decode cX7_together 1 = .ok (.invokestatic 111, 3) := by decide +kernel
theorem dX7_together_4 : decode cX7_together 4 = .ok (.ifCond .eq 24, 3) := by decide +kernel
theorem dX7_together_7 : decode cX7_together 7 = .ok (.iload_n 2, 1) := by decide +kernel
theorem dX7_together_8 : decode cX7_together 8 = .ok (.invokestatic 111, 3) := by decide +kernel
theorem dX7_together_11 : decode cX7_together 11 = .ok (.ifCond .eq 17, 3) := by decide +kernel
theorem dX7_together_14 : decode cX7_together 14 = .ok (.aload_n 0, 1) := by decide +kernel
theorem dX7_together_15 : decode cX7_together 15 = .ok (.aload_n 0, 1) := by decide +kernel
theorem dX7_together_16 : decode cX7_together 16 = .ok (.invokevirtual 104, 3) := by decide +kernel
theorem dX7_together_19 : decode cX7_together 19 = .ok (.iconst 3, 1) := by decide +kernel
theorem dX7_together_20 : decode cX7_together 20 = .ok (.iload_n 1, 1) := by decide +kernel
theorem dX7_together_21 : decode cX7_together 21 = .ok (.iload_n 2, 1) := by decide +kernel
