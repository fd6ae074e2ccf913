theorem dX3_often_92 : decode cX3_often 92 = .ok (.isub, 1) := by decide +kernel
theorem dX3_often_93 : decode cX3_often 93 = .ok (.invokevirtual 203, 3) := by decide +kernel
theorem dX3_often_96 : decode cX3_often 96 = .ok (.ifCond .ne 23, 3) := by decide +kernel
theorem dX3_often_99 : decode cX3_often 99 = .ok (.aload_n 0, 1) := by decide +kernel
theorem dX3_often_100 : decode cX3_often 100 = .ok (.getfield 58, 3) := by decide +kernel
theorem dX3_often_103 : decode cX3_often 103 = .ok (.iload 5, 2) := by decide +kernel
theorem dX3_often_105 : decode cX3_often 105 = .ok (.dup2, 1) := by decide +kernel
theorem dX3_often_106 : decode cX3_often 106 = .ok (.iaload, 1) := by decide +kernel
theorem dX3_often_107 : decode cX3_often 107 = .ok (.aload_n 0, 1) := by decide +kernel
theorem dX3_often_108 : decode cX3_often 108 = .ok (.getfield 58, 3) := by decide +kernel
theorem dX3_often_111 : decode cX3_often 111 = .ok (.iload 5, 2) := by decide +kernel
theorem dX3_often_113 : decode cX3_often 113 = .ok (.bipush 22, 2) := by decide +kernel
theorem dX3_often_115 : decode cX3_often 115 = .ok (.isub, 1) := by decide +kernel
theorem dX3_often_116 : decode cX3_often 116 = .ok (.iaload, 1) := by decide +kernel
theorem dX3_often_117 : decode cX3_often 117 = .ok (.iadd, 1) := by decide +kernel
theorem dX3_often_118 : decode cX3_often 118 = .ok (.iastore, 1) := by decide +kernel
theorem dX3_often_119 : decode cX3_often 119 = .ok (.iload_n 3, 1) := by decide +kernel
theorem dX3_often_120 : decode cX3_often 120 = .ok (.ifCond .le 41, 3) := by decide +kernel
theorem dX3_often_123 : decode cX3_often 123 = .ok (.iload 4, 2) := by decide +kernel
theorem dX3_often_125 : decode cX3_often 125 = .ok (.iload_n 3, 1) := by decide +kernel
theorem dX3_often_126 : decode cX3_often 126 = .ok (.if_icmp .ge 35, 3) := by decide +kernel
theorem dX3_often_129 : decode cX3_often 129 = .ok (.aload_n 0, 1) := by decide +kernel
theorem dX3_often_130 : decode cX3_often 130 = .ok (.iload_n 3, 1) := by decide +kernel
theorem dX3_often_131 : decode cX3_often 131 = .ok (.iconst 1, 1) := by decide +kernel
theorem dX3_often_132 : decode cX3_often 132 = .ok (.isub, 1) := by decide +kernel
theorem dX3_often_133 : decode cX3_often 133 = .ok (.iload 4, 2) := by decide +kernel
theorem dX3_often_135 : decode cX3_often 135 = .ok (.invokevirtual 203, 3) := by decide +kernel
theorem dX3_often_138 : decode cX3_often 138 = .ok (.ifCond .ne 23, 3) := by decide +kernel
theorem dX3_often_141 : decode cX3_often 141 = .ok (.aload_n 0, 1) := by decide +kernel
theorem dX3_often_142 : decode cX3_often 142 = .ok (.getfield 58, 3) := by decide +kernel
theorem dX3_often_145 : decode cX3_often 145 = .ok (.iload 5, 2) := by decide +kernel
theorem dX3_often_147 : decode cX3_often 147 = .ok (.dup2, 1) := by decide +kernel
theorem dX3_often_148 : decode cX3_often 148 = .ok (.iaload, 1) := by decide +kernel
theorem dX3_often_149 : decode cX3_often 149 = .ok (.aload_n 0, 1) := by decide +kernel
theorem dX3_often_150 : decode cX3_often 150 = .ok (.getfield 58, 3) := by decide +kernel
theorem dX3_often_153 : decode cX3_often 153 = .ok (.iload 5, 2) := by decide +kernel
theorem dX3_often_155 : decode cX3_often 155 = .ok (.bipush 21, 2) := by decide +kernel
theorem dX3_often_157 : decode cX3_often 157 = .ok (.isub, 1) := by decide +kernel
theorem dX3_often_158 : decode cX3_often 158 = .ok (.iaload, 1) := by decide +kernel
theorem dX3_often_159 : decode cX3_often 159 = .ok (.iadd, 1) := by decide +kernel
theorem dX3_often_160 : decode cX3_often 160 = .ok (.iastore, 1) := by decide +kernel
theorem dX3_often_161 : decode cX3_often 161 = .ok (.iload_n 2, 1) := by decide +kernel
theorem dX3_often_162 : decode cX3_often 162 = .ok (.iload_n 3, 1) := by decide +kernel
theorem dX3_often_163 : decode cX3_often 163 = .ok (.iload_n 1, 1) := by decide +kernel
theorem dX3_often_164 : decode cX3_often 164 = .ok (.if_icmp .ne 23, 3) := by decide +kernel
theorem dX3_often_167 : decode cX3_often 167 = .ok (.aload_n 0, 1) := by decide +kernel
theorem dX3_often_168 : decode cX3_often 168 = .ok (.iload_n 3, 1) := by decide +kernel
theorem dX3_often_169 : decode cX3_often 169 = .ok (.iload 4, 2) := by decide +kernel
theorem dX3_often_171 : decode cX3_often 171 = .ok (.invokevirtual 203, 3) := by decide +kernel
theorem dX3_often_174 : decode cX3_often 174 = .ok (.ifCond .eq 13, 3) := by decide +kernel
theorem dX3_often_177 : decode cX3_often 177 = .ok (.aload_n 0, 1) := by decide +kernel
theorem dX3_often_178 : decode cX3_often 178 = .ok (.getfield 58, 3) := by decide +kernel
theorem dX3_often_181 : decode cX3_often 181 = .ok (.iload 5, 2) := by decide +kernel
theorem dX3_often_183 : decode cX3_often 183 = .ok (.iaload, 1) := by decide +kernel
theorem dX3_often_184 : decode cX3_often 184 = .ok (.goto 4, 3) := by decide +kernel
theorem dX3_often_187 : decode cX3_often 187 = .ok (.iconst 0, 1) := by decide +kernel
theorem dX3_often_188 : decode cX3_often 188 = .ok (.iadd, 1) := by decide +kernel
theorem dX3_often_189 : decode cX3_often 189 = .ok (.istore_n 2, 1) := by decide +kernel
theorem dX3_often_190 : decode cX3_often 190 = .ok (.iinc 4 1, 3) := by decide +kernel
theorem dX3_often_193 : decode cX3_often 193 = .ok (.goto (-148), 3) := by decide +kernel
theorem dX3_often_196 : decode cX3_often 196 = .ok (.iinc 3 1, 3) := by decide +kernel
theorem dX3_often_199 : decode cX3_often 199 = .ok (.goto (-162), 3) := by decide +kernel
theorem dX3_often_202 : decode cX3_often 202 = .ok (.iload_n 2, 1) := by decide +kernel
theorem dX3_often_203 : decode cX3_often 203 = .ok (.aload_n 0, 1) := by decide +kernel
theorem dX3_often_204 : decode cX3_often 204 = .ok (.getfield 141, 3) := by decide +kernel
theorem dX3_often_207 : decode cX3_often 207 = .ok (.iload_n 1, 1) := by decide +kernel
theorem dX3_often_208 : decode cX3_often 208 = .ok (.isub, 1) := by decide +kernel
theorem dX3_often_209 : decode cX3_often 209 = .ok (.ishl, 1) := by decide +kernel
theorem dX3_often_210 : decode cX3_often 210 = .ok (.ireturn, 1) := by decide +kernel
set_option maxRecDepth 20000 in
theorem ggX3_fixed_X3_isIn : GoodIn wsX3_fixed wsX3_isIn := goodIn_r _ [7] (by decide +kernel) (by decide +kernel)
set_option maxRecDepth 20000 in
theorem gX3_fixed_X3_isIn : GoodIn wsX3_fixed (va_wsS RX3 67 yX3_isIn wsX3_isIn) := goodIn_app (goodIn_of _ (by decide +kernel)) ggX3_fixed_X3_isIn
set_option maxRecDepth 20000 in
theorem ggX3_fixed_X3_isAny : GoodIn wsX3_fixed wsX3_isAny := goodIn_r _ [11, 12, 13, 14, 6, 15, 16, 17, 18, 19, 20, 21, 22, 23, 24, 25, 26, 27, 28, 29, 4, 5, 7, 30, 31, 32, 33, 34, 35, 36, 37, 38, 39, 40, 41, 42, 43, 44, 45, 46, 47, 48, 49, 50, 51, 52, 88, 89, 90, 91, 92, 93, 94, 95, 96, 97, 98, 99, 100, 101, 102, 103, 104, 105, 106, 107] (by decide +kernel) (by decide +kernel)
set_option maxRecDepth 20000 in
theorem gX3_fixed_X3_isAny : GoodIn wsX3_fixed (wsV RX3 155 RX3 yX3_isAny wsX3_isAny) := goodIn_app (goodIn_of _ (by decide +kernel)) ggX3_fixed_X3_isAny
set_option maxRecDepth 20000 in
theorem ggX3_fixed_X3_refuse : GoodIn wsX3_fixed wsX3_refuse := goodIn_r _ [56, 1, 88, 89, 90, 91, 92, 93, 94, 95, 96, 97, 98, 99, 100, 101, 102, 103, 104, 105, 106, 107] (by decide +kernel) (by decide +kernel)
set_option maxRecDepth 20000 in
theorem gX3_fixed_X3_refuse : GoodIn wsX3_fixed (wsV RX3 127 RX3 yX3_refuse wsX3_refuse) := goodIn_app (goodIn_of _ (by decide +kernel)) ggX3_fixed_X3_refuse
set_option maxRecDepth 20000 in
theorem ggX3_fixed_X3_laysTree : GoodIn wsX3_fixed wsX3_laysTree := goodIn_r _ [60, 2, 61, 3, 62, 63, 64, 65, 66, 67, 6, 68, 69, 16, 70, 17, 18, 19, 20, 21, 22, 23, 24, 25, 26, 27, 28, 29, 4, 5, 7, 30, 31, 32, 33, 34, 35, 36, 37, 38, 39, 40, 41, 42, 43, 44, 45, 46, 47, 48, 49, 50, 51, 52, 71, 72, 73, 74, 75, 76, 77, 78, 79, 80, 81, 82, 83, 84, 85, 86, 87, 88, 89, 90, 91, 92, 93, 94, 95, 96, 97, 98, 99, 100, 101, 102, 103, 104, 105, 106, 107] (by decide +kernel) (by decide +kernel)
set_option maxRecDepth 20000 in
theorem gX3_fixed_X3_laysTree : GoodIn wsX3_fixed (wsV RX3 199 RX3 yX3_laysTree wsX3_laysTree) := goodIn_app (goodIn_of _ (by decide +kernel)) ggX3_fixed_X3_laysTree
theorem dX3_fixed_0 : decode cX3_fixed 0 = .ok (.aload_n 0, 1) := by decide +kernel
theorem dX3_fixed_1 : decode cX3_fixed 1 = .ok (.iconst 0, 1) := by decide +kernel
theorem dX3_fixed_2 : decode cX3_fixed 2 = .ok (.putfield 61, 3) := by decide +kernel
theorem dX3_fixed_5 : decode cX3_fixed 5 = .ok (.iload_n 1, 1) := by decide +kernel
theorem dX3_fixed_6 : decode cX3_fixed 6 = .ok (.i2l, 1) := by decide +kernel
theorem dX3_fixed_7 : decode cX3_fixed 7 = .ok (.lconst 0, 1) := by decide +kernel
theorem dX3_fixed_8 : decode cX3_fixed 8 = .ok (.aload_n 0, 1) := by decide +kernel
theorem dX3_fixed_9 : decode cX3_fixed 9 = .ok (.getfield 141, 3) := by decide +kernel
theorem dX3_fixed_12 : decode cX3_fixed 12 = .ok (.i2l, 1) := by decide +kernel
theorem dX3_fixed_13 : decode cX3_fixed 13 = .ok (.invokestatic 67, 3) := by decide +kernel
theorem dX3_fixed_16 : decode cX3_fixed 16 = .ok (.ifCond .eq 10, 3) := by decide +kernel
theorem dX3_fixed_19 : decode cX3_fixed 19 = .ok (.aload_n 0, 1) := by decide +kernel
theorem dX3_fixed_20 : decode cX3_fixed 20 = .ok (.invokevirtual 155, 3) := by decide +kernel
theorem dX3_fixed_23 : decode cX3_fixed 23 = .ok (.ifCond .ne 9, 3) := by decide +kernel
theorem dX3_fixed_26 : decode cX3_fixed 26 = .ok (.aload_n 0, 1) := by decide +kernel
theorem dX3_fixed_27 : decode cX3_fixed 27 = .ok (.invokevirtual 127, 3) := by decide +kernel
theorem dX3_fixed_30 : decode cX3_fixed 30 = .ok (.i2l, 1) := by decide +kernel
theorem dX3_fixed_31 : decode cX3_fixed 31 = .ok (.lreturn, 1) := by decide +kernel
theorem dX3_fixed_32 : decode cX3_fixed 32 = .ok (.aload_n 0, 1) := by decide +kernel
theorem dX3_fixed_33 : decode cX3_fixed 33 = .ok (.iload_n 1, 1) := by decide +kernel
theorem dX3_fixed_34 : decode cX3_fixed 34 = .ok (.invokevirtual 199, 3) := by decide +kernel
theorem dX3_fixed_37 : decode cX3_fixed 37 = .ok (.aload_n 0, 1) := by decide +kernel
theorem dX3_fixed_38 : decode cX3_fixed 38 = .ok (.getfield 46, 3) := by decide +kernel
theorem dX3_fixed_41 : decode cX3_fixed 41 = .ok (.iconst 0, 1) := by decide +kernel
theorem dX3_fixed_42 : decode cX3_fixed 42 = .ok (.laload, 1) := by decide +kernel
theorem dX3_fixed_43 : decode cX3_fixed 43 = .ok (.lreturn, 1) := by decide +kernel
set_option maxRecDepth 20000 in
theorem ggX3_only_X3_isBond : GoodIn wsX3_only wsX3_isBond := goodIn_r _ [8, 9, 10, 11, 7, 12, 84, 85, 86, 87, 88, 89, 90, 91, 92, 93, 94, 95, 96, 97, 98, 99, 100, 101, 102, 103] (by decide +kernel) (by decide +kernel)
set_option maxRecDepth 20000 in
theorem gX3_only_X3_isBond : GoodIn wsX3_only (wsV RX3 87 RX3 yX3_isBond wsX3_isBond) := goodIn_app (goodIn_of _ (by decide +kernel)) ggX3_only_X3_isBond
set_option maxRecDepth 20000 in
theorem ggX3_only_X3_isEligible : GoodIn wsX3_only wsX3_isEligible := goodIn_r _ [16, 2, 17, 18, 19, 20, 21, 22, 7, 23, 24, 10, 11, 12, 25, 26, 27, 28, 29, 30, 31, 32, 33, 34, 35, 36, 37, 38, 39, 40, 41, 42, 43, 44, 45, 46, 47, 84, 85, 86, 87, 88, 89, 90, 91, 92, 93, 94, 95, 96, 97, 98, 99, 100, 101, 102, 103] (by decide +kernel) (by decide +kernel)
set_option maxRecDepth 20000 in
theorem gX3_only_X3_isEligible : GoodIn wsX3_only (wsV RX3 120 RX3 yX3_isEligible wsX3_isEligible) := goodIn_app (goodIn_of _ (by decide +kernel)) ggX3_only_X3_isEligible
set_option maxRecDepth 20000 in
theorem ggX3_only_X3_refuse : GoodIn wsX3_only wsX3_refuse := goodIn_r _ [51, 1, 84, 85, 86, 87, 88, 89, 90, 91, 92, 93, 94, 95, 96, 97, 98, 99, 100, 101, 102, 103] (by decide +kernel) (by decide +kernel)
set_option maxRecDepth 20000 in
theorem gX3_only_X3_refuse : GoodIn wsX3_only (wsV RX3 127 RX3 yX3_refuse wsX3_refuse) := goodIn_app (goodIn_of _ (by decide +kernel)) ggX3_only_X3_refuse
set_option maxRecDepth 20000 in
theorem ggX3_only_X3_laysTree : GoodIn wsX3_only wsX3_laysTree := goodIn_r _ [55, 56, 57, 3, 58, 59, 60, 61, 62, 63, 7, 64, 65, 9, 66, 13, 14, 15, 16, 2, 17, 18, 19, 20, 21, 22, 23, 24, 10, 11, 12, 25, 26, 27, 28, 29, 30, 31, 32, 33, 34, 35, 36, 37, 38, 39, 40, 41, 42, 43, 44, 45, 46, 47, 67, 68, 69, 70, 71, 72, 73, 74, 75, 76, 77, 78, 79, 80, 81, 82, 83, 84, 85, 86, 87, 88, 89, 90, 91, 92, 93, 94, 95, 96, 97, 98, 99, 100, 101, 102, 103] (by decide +kernel) (by decide +kernel)
set_option maxRecDepth 20000 in
theorem gX3_only_X3_laysTree : GoodIn wsX3_only (wsV RX3 199 RX3 yX3_laysTree wsX3_laysTree) := goodIn_app (goodIn_of _ (by decide +kernel)) ggX3_only_X3_laysTree
theorem dX3_only_0 : decode cX3_only 0 = .ok (.aload_n 0, 1) := by decide +kernel
theorem dX3_only_1 : decode cX3_only 1 = .ok (.iconst 0, 1) := by decide +kernel
theorem dX3_only_2 : decode cX3_only 2 = .ok (.putfield 61, 3) := by decide +kernel
theorem dX3_only_5 : decode cX3_only 5 = .ok (.aload_n 0, 1) := by decide +kernel
theorem dX3_only_6 : decode cX3_only 6 = .ok (.iload_n 1, 1) := by decide +kernel
theorem dX3_only_7 : decode cX3_only 7 = .ok (.invokevirtual 87, 3) := by decide +kernel
theorem dX3_only_10 : decode cX3_only 10 = .ok (.ifCond .eq 11, 3) := by decide +kernel
theorem dX3_only_13 : decode cX3_only 13 = .ok (.aload_n 0, 1) := by decide +kernel
theorem dX3_only_14 : decode cX3_only 14 = .ok (.iload_n 1, 1) := by decide +kernel
theorem dX3_only_15 : decode cX3_only 15 = .ok (.invokevirtual 120, 3) := by decide +kernel
theorem dX3_only_18 : decode cX3_only 18 = .ok (.ifCond .ne 9, 3) := by decide +kernel
theorem dX3_only_21 : decode cX3_only 21 = .ok (.aload_n 0, 1) := by decide +kernel
theorem dX3_only_22 : decode cX3_only 22 = .ok (.invokevirtual 127, 3) := by decide +kernel
theorem dX3_only_25 : decode cX3_only 25 = .ok (.i2l, 1) := by decide +kernel
theorem dX3_only_26 : decode cX3_only 26 = .ok (.lreturn, 1) := by decide +kernel
theorem dX3_only_27 : decode cX3_only 27 = .ok (.aload_n 0, 1) := by decide +kernel
theorem dX3_only_28 : decode cX3_only 28 = .ok (.iload_n 1, 1) := by decide +kernel
theorem dX3_only_29 : decode cX3_only 29 = .ok (.putfield 33, 3) := by decide +kernel
theorem dX3_only_32 : decode cX3_only 32 = .ok (.aload_n 0, 1) := by decide +kernel
theorem dX3_only_33 : decode cX3_only 33 = .ok (.iconst (-1), 1) := by decide +kernel
theorem dX3_only_34 : decode cX3_only 34 = .ok (.invokevirtual 199, 3) := by decide +kernel
theorem dX3_only_37 : decode cX3_only 37 = .ok (.aload_n 0, 1) := by decide +kernel
theorem dX3_only_38 : decode cX3_only 38 = .ok (.iconst (-1), 1) := by decide +kernel
theorem dX3_only_39 : decode cX3_only 39 = .ok (.putfield 33, 3) := by decide +kernel
theorem dX3_only_42 : decode cX3_only 42 = .ok (.aload_n 0, 1) := by decide +kernel
theorem dX3_only_43 : decode cX3_only 43 = .ok (.getfield 46, 3) := by decide +kernel
theorem dX3_only_46 : decode cX3_only 46 = .ok (.iconst 0, 1) := by decide +kernel
theorem dX3_only_47 : decode cX3_only 47 = .ok (.laload, 1) := by decide +kernel
theorem dX3_only_48 : decode cX3_only 48 = .ok (.lreturn, 1) := by decide +kernel
set_option maxRecDepth 20000 in
theorem ggX3_without_X3_isBond : GoodIn wsX3_without wsX3_isBond := goodIn_r _ [8, 9, 10, 11, 7, 12, 92, 93, 94, 95, 96, 97, 98, 99, 100, 101, 102, 103, 104, 105, 106, 107, 108, 109, 110, 111] (by decide +kernel) (by decide +kernel)
set_option maxRecDepth 20000 in
theorem gX3_without_X3_isBond : GoodIn wsX3_without (wsV RX3 87 RX3 yX3_isBond wsX3_isBond) := goodIn_app (goodIn_of _ (by decide +kernel)) ggX3_without_X3_isBond
set_option maxRecDepth 20000 in
theorem ggX3_without_X3_refuse : GoodIn wsX3_without wsX3_refuse := goodIn_r _ [16, 1, 92, 93, 94, 95, 96, 97, 98, 99, 100, 101, 102, 103, 104, 105, 106, 107, 108, 109, 110, 111] (by decide +kernel) (by decide +kernel)
set_option maxRecDepth 20000 in
theorem gX3_without_X3_refuse : GoodIn wsX3_without (wsV RX3 127 RX3 yX3_refuse wsX3_refuse) := goodIn_app (goodIn_of _ (by decide +kernel)) ggX3_without_X3_refuse
set_option maxRecDepth 20000 in
theorem ggX3_without_X3_isEligible : GoodIn wsX3_without wsX3_isEligible := goodIn_r _ [20, 21, 3, 22, 23, 24, 25, 26, 7, 27, 28, 10, 11, 12, 29, 30, 31, 32, 33, 34, 35, 36, 37, 38, 39, 40, 41, 42, 43, 44, 45, 46, 47, 48, 49, 50, 51, 92, 93, 94, 95, 96, 97, 98, 99, 100, 101, 102, 103, 104, 105, 106, 107, 108, 109, 110, 111] (by decide +kernel) (by decide +kernel)
set_option maxRecDepth 20000 in
theorem gX3_without_X3_isEligible : GoodIn wsX3_without (wsV RX3 120 RX3 yX3_isEligible wsX3_isEligible) := goodIn_app (goodIn_of _ (by decide +kernel)) ggX3_without_X3_isEligible
set_option maxRecDepth 20000 in
theorem ggX3_without_X3_laysTree : GoodIn wsX3_without wsX3_laysTree := goodIn_r _ [55, 56, 57, 2, 58, 59, 60, 61, 62, 63, 7, 64, 65, 9, 66, 17, 18, 19, 20, 21, 3, 22, 23, 24, 25, 26, 27, 28, 10, 11, 12, 29, 30, 31, 32, 33, 34, 35, 36, 37, 38, 39, 40, 41, 42, 43, 44, 45, 46, 47, 48, 49, 50, 51, 67, 68, 69, 70, 71, 72, 73, 74, 75, 76, 77, 78, 79, 80, 81, 82, 83, 92, 93, 94, 95, 96, 97, 98, 99, 100, 101, 102, 103, 104, 105, 106, 107, 108, 109, 110, 111] (by decide +kernel) (by decide +kernel)
set_option maxRecDepth 20000 in
theorem gX3_without_X3_laysTree : GoodIn wsX3_without (wsV RX3 199 RX3 yX3_laysTree wsX3_laysTree) := goodIn_app (goodIn_of _ (by decide +kernel)) ggX3_without_X3_laysTree
set_option maxRecDepth 20000 in
theorem ggX3_without_X3_isAny : GoodIn wsX3_without wsX3_isAny := goodIn_r _ [87, 88, 89, 90, 7, 91, 9, 17, 18, 19, 20, 21, 3, 22, 23, 24, 25, 26, 27, 28, 10, 11, 12, 29, 30, 31, 32, 33, 34, 35, 36, 37, 38, 39, 40, 41, 42, 43, 44, 45, 46, 47, 48, 49, 50, 51, 92, 93, 94, 95, 96, 97, 98, 99, 100, 101, 102, 103, 104, 105, 106, 107, 108, 109, 110, 111] (by decide +kernel) (by decide +kernel)
set_option maxRecDepth 20000 in
theorem gX3_without_X3_isAny : GoodIn wsX3_without (wsV RX3 155 RX3 yX3_isAny wsX3_isAny) := goodIn_app (goodIn_of _ (by decide +kernel)) ggX3_without_X3_isAny
theorem dX3_without_0 : decode cX3_without 0 = .ok (.aload_n 0, 1) := by decide +kernel
theorem dX3_without_1 : decode cX3_without 1 = .ok (.iconst 0, 1) := by decide +kernel
theorem dX3_without_2 : decode cX3_without 2 = .ok (.putfield 61, 3) := by decide +kernel
theorem dX3_without_5 : decode cX3_without 5 = .ok (.aload_n 0, 1) := by decide +kernel
theorem dX3_without_6 : decode cX3_without 6 = .ok (.iload_n 1, 1) := by decide +kernel
theorem dX3_without_7 : decode cX3_without 7 = .ok (.invokevirtual 87, 3) := by decide +kernel
theorem dX3_without_10 : decode cX3_without 10 = .ok (.ifCond .ne 9, 3) := by decide +kernel
theorem dX3_without_13 : decode cX3_without 13 = .ok (.aload_n 0, 1) := by decide +kernel
theorem dX3_without_14 : decode cX3_without 14 = .ok (.invokevirtual 127, 3) := by decide +kernel
theorem dX3_without_17 : decode cX3_without 17 = .ok (.i2l, 1) := by decide +kernel
theorem dX3_without_18 : decode cX3_without 18 = .ok (.lreturn, 1) := by decide +kernel
theorem dX3_without_19 : decode cX3_without 19 = .ok (.aload_n 0, 1) := by decide +kernel
theorem dX3_without_20 : decode cX3_without 20 = .ok (.iload_n 1, 1) := by decide +kernel
theorem dX3_without_21 : decode cX3_without 21 = .ok (.invokevirtual 120, 3) := by decide +kernel
theorem dX3_without_24 : decode cX3_without 24 = .ok (.ifCond .ne 5, 3) := by decide +kernel
theorem dX3_without_27 : decode cX3_without 27 = .ok (.lconst 0, 1) := by decide +kernel
theorem dX3_without_28 : decode cX3_without 28 = .ok (.lreturn, 1) := by decide +kernel
theorem dX3_without_29 : decode cX3_without 29 = .ok (.aload_n 0, 1) := by decide +kernel
theorem dX3_without_30 : decode cX3_without 30 = .ok (.iconst (-1), 1) := by decide +kernel
theorem dX3_without_31 : decode cX3_without 31 = .ok (.invokevirtual 199, 3) := by decide +kernel
theorem dX3_without_34 : decode cX3_without 34 = .ok (.aload_n 0, 1) := by decide +kernel
theorem dX3_without_35 : decode cX3_without 35 = .ok (.getfield 46, 3) := by decide +kernel
theorem dX3_without_38 : decode cX3_without 38 = .ok (.iconst 0, 1) := by decide +kernel
theorem dX3_without_39 : decode cX3_without 39 = .ok (.laload, 1) := by decide +kernel
theorem dX3_without_40 : decode cX3_without 40 = .ok (.lstore_n 2, 1) := by decide +kernel
theorem dX3_without_41 : decode cX3_without 41 = .ok (.aload_n 0, 1) := by decide +kernel
theorem dX3_without_42 : decode cX3_without 42 = .ok (.iload_n 1, 1) := by decide +kernel
theorem dX3_without_43 : decode cX3_without 43 = .ok (.putfield 36, 3) := by decide +kernel
theorem dX3_without_46 : decode cX3_without 46 = .ok (.aload_n 0, 1) := by decide +kernel
theorem dX3_without_47 : decode cX3_without 47 = .ok (.invokevirtual 155, 3) := by decide +kernel
theorem dX3_without_50 : decode cX3_without 50 = .ok (.istore 4, 2) := by decide +kernel
theorem dX3_without_52 : decode cX3_without 52 = .ok (.iload 4, 2) := by decide +kernel
theorem dX3_without_54 : decode cX3_without 54 = .ok (.ifCond .eq 8, 3) := by decide +kernel
theorem dX3_without_57 : decode cX3_without 57 = .ok (.aload_n 0, 1) := by decide +kernel
theorem dX3_without_58 : decode cX3_without 58 = .ok (.iconst (-1), 1) := by decide +kernel
theorem dX3_without_59 : decode cX3_without 59 = .ok (.invokevirtual 199, 3) := by decide +kernel
theorem dX3_without_62 : decode cX3_without 62 = .ok (.aload_n 0, 1) := by decide +kernel
theorem dX3_without_63 : decode cX3_without 63 = .ok (.iconst (-1), 1) := by decide +kernel
theorem dX3_without_64 : decode cX3_without 64 = .ok (.putfield 36, 3) := by decide +kernel
theorem dX3_without_67 : decode cX3_without 67 = .ok (.iload 4, 2) := by decide +kernel
theorem dX3_without_69 : decode cX3_without 69 = .ok (.ifCond .eq 14, 3) := by decide +kernel
theorem dX3_without_72 : decode cX3_without 72 = .ok (.lload_n 2, 1) := by decide +kernel
theorem dX3_without_73 : decode cX3_without 73 = .ok (.aload_n 0, 1) := by decide +kernel
theorem dX3_without_74 : decode cX3_without 74 = .ok (.getfield 46, 3) := by decide +kernel
theorem dX3_without_77 : decode cX3_without 77 = .ok (.iconst 0, 1) := by decide +kernel
theorem dX3_without_78 : decode cX3_without 78 = .ok (.laload, 1) := by decide +kernel
theorem dX3_without_79 : decode cX3_without 79 = .ok (.lsub, 1) := by decide +kernel
theorem dX3_without_80 : decode cX3_without 80 = .ok (.goto 8, 3) := by decide +kernel
theorem dX3_without_83 : decode cX3_without 83 = .ok (.aload_n 0, 1) := by decide +kernel
theorem dX3_without_84 : decode cX3_without 84 = .ok (.invokevirtual 127, 3) := by decide +kernel
theorem dX3_without_87 : decode cX3_without 87 = .ok (.i2l, 1) := by decide +kernel
theorem dX3_without_88 : decode cX3_without 88 = .ok (.lreturn, 1) := by decide +kernel
set_option maxRecDepth 20000 in
theorem ggX3_isFair_X3_laysTree : GoodIn wsX3_isFair wsX3_laysTree := goodIn_r _ [7, 8, 9, 2, 10, 11, 12, 13, 14, 15, 6, 16, 17, 18, 1, 19, 20, 21, 22, 23, 24, 25, 26, 27, 28, 29, 30, 31, 32, 33, 34, 35, 36, 37, 38, 39, 40, 41, 42, 43, 44, 45, 46, 47, 48, 49, 50, 51, 52, 53, 54, 55, 56, 57, 58, 59, 60, 61, 62, 63, 64, 65, 66, 67, 68, 69, 70, 71, 72, 73, 74, 75, 76, 77, 78, 79, 80, 81, 82, 83, 84, 85, 86, 87, 88, 89, 90, 91, 92, 93, 94] (by decide +kernel) (by decide +kernel)
set_option maxRecDepth 20000 in
theorem gX3_isFair_X3_laysTree : GoodIn wsX3_isFair (wsV RX3 199 RX3 yX3_laysTree wsX3_laysTree) := goodIn_app (goodIn_of _ (by decide +kernel)) ggX3_isFair_X3_laysTree
theorem dX3_isFair_0 : decode cX3_isFair 0 = .ok (.aload_n 0, 1) := by decide +kernel
theorem dX3_isFair_1 : decode cX3_isFair 1 = .ok (.getfield 30, 3) := by decide +kernel
theorem dX3_isFair_4 : decode cX3_isFair 4 = .ok (.istore_n 2, 1) := by decide +kernel
theorem dX3_isFair_5 : decode cX3_isFair 5 = .ok (.aload_n 0, 1) := by decide +kernel
theorem dX3_isFair_6 : decode cX3_isFair 6 = .ok (.iload_n 1, 1) := by decide +kernel
theorem dX3_isFair_7 : decode cX3_isFair 7 = .ok (.putfield 30, 3) := by decide +kernel
theorem dX3_isFair_10 : decode cX3_isFair 10 = .ok (.aload_n 0, 1) := by decide +kernel
theorem dX3_isFair_11 : decode cX3_isFair 11 = .ok (.iconst (-1), 1) := by decide +kernel
theorem dX3_isFair_12 : decode cX3_isFair 12 = .ok (.invokevirtual 199, 3) := by decide +kernel
theorem dX3_isFair_15 : decode cX3_isFair 15 = .ok (.aload_n 0, 1) := by decide +kernel
theorem dX3_isFair_16 : decode cX3_isFair 16 = .ok (.iload_n 2, 1) := by decide +kernel
theorem dX3_isFair_17 : decode cX3_isFair 17 = .ok (.putfield 30, 3) := by decide +kernel
theorem dX3_isFair_20 : decode cX3_isFair 20 = .ok (.aload_n 0, 1) := by decide +kernel
theorem dX3_isFair_21 : decode cX3_isFair 21 = .ok (.getfield 46, 3) := by decide +kernel
theorem dX3_isFair_24 : decode cX3_isFair 24 = .ok (.iconst 0, 1) := by decide +kernel
theorem dX3_isFair_25 : decode cX3_isFair 25 = .ok (.laload, 1) := by decide +kernel
theorem dX3_isFair_26 : decode cX3_isFair 26 = .ok (.lconst 0, 1) := by decide +kernel
theorem dX3_isFair_27 : decode cX3_isFair 27 = .ok (.lcmp, 1) := by decide +kernel
theorem dX3_isFair_28 : decode cX3_isFair 28 = .ok (.ifCond .lt 7, 3) := by decide +kernel
theorem dX3_isFair_31 : decode cX3_isFair 31 = .ok (.iconst 1, 1) := by decide +kernel
theorem dX3_isFair_32 : decode cX3_isFair 32 = .ok (.goto 4, 3) := by decide +kernel
theorem dX3_isFair_35 : decode cX3_isFair 35 = .ok (.iconst 0, 1) := by decide +kernel
theorem dX3_isFair_36 : decode cX3_isFair 36 = .ok (.ireturn, 1) := by decide +kernel
set_option maxRecDepth 20000 in
theorem ggX3_fair_X3_isAny : GoodIn wsX3_fair wsX3_isAny := goodIn_r _ [7, 8, 9, 10, 6, 11, 12, 13, 14, 15, 16, 17, 18, 19, 20, 21, 22, 23, 24, 25, 26, 27, 28, 29, 30, 31, 32, 33, 34, 35, 36, 37, 38, 39, 40, 41, 42, 43, 44, 45, 46, 47, 48, 49, 50, 51, 89, 90, 91, 92, 93, 94, 95, 96, 97, 98, 99, 100, 101, 102, 103, 104, 105, 106, 107, 108] (by decide +kernel) (by decide +kernel)
set_option maxRecDepth 20000 in
theorem gX3_fair_X3_isAny : GoodIn wsX3_fair (wsV RX3 155 RX3 yX3_isAny wsX3_isAny) := goodIn_app (goodIn_of _ (by decide +kernel)) ggX3_fair_X3_isAny
set_option maxRecDepth 20000 in
theorem ggX3_fair_X3_isFair : GoodIn wsX3_fair wsX3_isFair := goodIn_r _ [55, 56, 57, 58, 59, 60, 6, 61, 62, 63, 64, 65, 66, 67, 68, 69, 70, 71, 12, 13, 14, 15, 16, 17, 18, 19, 20, 21, 22, 23, 24, 25, 26, 27, 28, 29, 30, 31, 32, 33, 34, 35, 36, 37, 38, 39, 40, 41, 42, 43, 44, 45, 46, 47, 48, 49, 50, 51, 72, 73, 74, 75, 76, 77, 78, 79, 80, 81, 82, 83, 84, 85, 86, 87, 88, 89, 90, 91, 92, 93, 94, 95, 96, 97, 98, 99, 100, 101, 102, 103, 104, 105, 106, 107, 108] (by decide +kernel) (by decide +kernel)
set_option maxRecDepth 20000 in
theorem gX3_fair_X3_isFair : GoodIn wsX3_fair (wsV RX3 207 RX3 yX3_isFair wsX3_isFair) := goodIn_app (goodIn_of _ (by decide +kernel)) ggX3_fair_X3_isFair
theorem dX3_fair_0 : decode cX3_fair 0 = .ok (.aload_n 0, 1) := by decide +kernel
theorem dX3_fair_1 : decode cX3_fair 1 = .ok (.iconst 0, 1) := by decide +kernel
theorem dX3_fair_2 : decode cX3_fair 2 = .ok (.putfield 61, 3) := by decide +kernel
theorem dX3_fair_5 : decode cX3_fair 5 = .ok (.aload_n 0, 1) := by decide +kernel
theorem dX3_fair_6 : decode cX3_fair 6 = .ok (.invokevirtual 155, 3) := by decide +kernel
theorem dX3_fair_9 : decode cX3_fair 9 = .ok (.ifCond .eq 12, 3) := by decide +kernel
theorem dX3_fair_12 : decode cX3_fair 12 = .ok (.aload_n 0, 1) := by decide +kernel
theorem dX3_fair_13 : decode cX3_fair 13 = .ok (.ldc 206, 2) := by decide +kernel
theorem dX3_fair_15 : decode cX3_fair 15 = .ok (.invokevirtual 207, 3) := by decide +kernel
theorem dX3_fair_18 : decode cX3_fair 18 = .ok (.ifCond .ne 5, 3) := by decide +kernel
theorem dX3_fair_21 : decode cX3_fair 21 = .ok (.iconst (-1), 1) := by decide +kernel
theorem dX3_fair_22 : decode cX3_fair 22 = .ok (.ireturn, 1) := by decide +kernel
theorem dX3_fair_23 : decode cX3_fair 23 = .ok (.iconst 0, 1) := by decide +kernel
theorem dX3_fair_24 : decode cX3_fair 24 = .ok (.istore_n 1, 1) := by decide +kernel
theorem dX3_fair_25 : decode cX3_fair 25 = .ok (.ldc 206, 2) := by decide +kernel
theorem dX3_fair_27 : decode cX3_fair 27 = .ok (.istore_n 2, 1) := by decide +kernel
theorem dX3_fair_28 : decode cX3_fair 28 = .ok (.iload_n 1, 1) := by decide +kernel
theorem dX3_fair_29 : decode cX3_fair 29 = .ok (.iload_n 2, 1) := by decide +kernel
theorem dX3_fair_30 : decode cX3_fair 30 = .ok (.if_icmp .ge 29, 3) := by decide +kernel
theorem dX3_fair_33 : decode cX3_fair 33 = .ok (.iload_n 1, 1) := by decide +kernel
theorem dX3_fair_34 : decode cX3_fair 34 = .ok (.iload_n 2, 1) := by decide +kernel
theorem dX3_fair_35 : decode cX3_fair 35 = .ok (.iadd, 1) := by decide +kernel
theorem dX3_fair_36 : decode cX3_fair 36 = .ok (.iconst 2, 1) := by decide +kernel
theorem dX3_fair_37 : decode cX3_fair 37 = .ok (.idiv, 1) := by decide +kernel
theorem dX3_fair_38 : decode cX3_fair 38 = .ok (.istore_n 3, 1) := by decide +kernel
theorem dX3_fair_39 : decode cX3_fair 39 = .ok (.aload_n 0, 1) := by decide +kernel
theorem dX3_fair_40 : decode cX3_fair 40 = .ok (.iload_n 3, 1) := by decide +kernel
theorem dX3_fair_41 : decode cX3_fair 41 = .ok (.invokevirtual 207, 3) := by decide +kernel
theorem dX3_fair_44 : decode cX3_fair 44 = .ok (.ifCond .eq 8, 3) := by decide +kernel
theorem dX3_fair_47 : decode cX3_fair 47 = .ok (.iload_n 3, 1) := by decide +kernel
theorem dX3_fair_48 : decode cX3_fair 48 = .ok (.istore_n 2, 1) := by decide +kernel
theorem dX3_fair_49 : decode cX3_fair 49 = .ok (.goto 7, 3) := by decide +kernel
theorem dX3_fair_52 : decode cX3_fair 52 = .ok (.iload_n 3, 1) := by decide +kernel
theorem dX3_fair_53 : decode cX3_fair 53 = .ok (.iconst 1, 1) := by decide +kernel
theorem dX3_fair_54 : decode cX3_fair 54 = .ok (.iadd, 1) := by decide +kernel
theorem dX3_fair_55 : decode cX3_fair 55 = .ok (.istore_n 1, 1) := by decide +kernel
theorem dX3_fair_56 : decode cX3_fair 56 = .ok (.goto (-28), 3) := by decide +kernel
theorem dX3_fair_59 : decode cX3_fair 59 = .ok (.iload_n 1, 1) := by decide +kernel
theorem dX3_fair_60 : decode cX3_fair 60 = .ok (.ireturn, 1) := by decide +kernel
theorem dJ9_floorDiv_f86c9_0 : decode cJ9_floorDiv_f86c9 0 = .ok (.lload_n 0, 1) := by decide +kernel
theorem dJ9_floorDiv_f86c9_1 : decode cJ9_floorDiv_f86c9 1 = .ok (.lload_n 2, 1) := by decide +kernel
theorem dJ9_floorDiv_f86c9_2 : decode cJ9_floorDiv_f86c9 2 = .ok (.ldiv, 1) := by decide +kernel
theorem dJ9_floorDiv_f86c9_3 : decode cJ9_floorDiv_f86c9 3 = .ok (.lstore 4, 2) := by decide +kernel
theorem dJ9_floorDiv_f86c9_5 : decode cJ9_floorDiv_f86c9 5 = .ok (.lload_n 0, 1) := by decide +kernel
theorem dJ9_floorDiv_f86c9_6 : decode cJ9_floorDiv_f86c9 6 = .ok (.lload_n 2, 1) := by decide +kernel
theorem dJ9_floorDiv_f86c9_7 : decode cJ9_floorDiv_f86c9 7 = .ok (.lxor, 1) := by decide +kernel
theorem dJ9_floorDiv_f86c9_8 : decode cJ9_floorDiv_f86c9 8 = .ok (.lconst 0, 1) := by decide +kernel
theorem dJ9_floorDiv_f86c9_9 : decode cJ9_floorDiv_f86c9 9 = .ok (.lcmp, 1) := by decide +kernel
theorem dJ9_floorDiv_f86c9_10 : decode cJ9_floorDiv_f86c9 10 = .ok (.ifCond .ge 17, 3) := by decide +kernel
theorem dJ9_floorDiv_f86c9_13 : decode cJ9_floorDiv_f86c9 13 = .ok (.lload 4, 2) := by decide +kernel
theorem dJ9_floorDiv_f86c9_15 : decode cJ9_floorDiv_f86c9 15 = .ok (.lload_n 2, 1) := by decide +kernel
theorem dJ9_floorDiv_f86c9_16 : decode cJ9_floorDiv_f86c9 16 = .ok (.lmul, 1) := by decide +kernel
theorem dJ9_floorDiv_f86c9_17 : decode cJ9_floorDiv_f86c9 17 = .ok (.lload_n 0, 1) := by decide +kernel
theorem dJ9_floorDiv_f86c9_18 : decode cJ9_floorDiv_f86c9 18 = .ok (.lcmp, 1) := by decide +kernel
theorem dJ9_floorDiv_f86c9_19 : decode cJ9_floorDiv_f86c9 19 = .ok (.ifCond .eq 8, 3) := by decide +kernel
theorem dJ9_floorDiv_f86c9_22 : decode cJ9_floorDiv_f86c9 22 = .ok (.lload 4, 2) := by decide +kernel
theorem dJ9_floorDiv_f86c9_24 : decode cJ9_floorDiv_f86c9 24 = .ok (.lconst 1, 1) := by decide +kernel
theorem dJ9_floorDiv_f86c9_25 : decode cJ9_floorDiv_f86c9 25 = .ok (.lsub, 1) := by decide +kernel
theorem dJ9_floorDiv_f86c9_26 : decode cJ9_floorDiv_f86c9 26 = .ok (.lreturn, 1) := by decide +kernel
theorem dJ9_floorDiv_f86c9_27 : decode cJ9_floorDiv_f86c9 27 = .ok (.lload 4, 2) := by decide +kernel
theorem dJ9_floorDiv_f86c9_29 : decode cJ9_floorDiv_f86c9 29 = .ok (.lreturn, 1) := by decide +kernel
theorem dJ9_max_7cf53_0 : decode cJ9_max_7cf53 0 = .ok (.iload_n 0, 1) := by decide +kernel
theorem dJ9_max_7cf53_1 : decode cJ9_max_7cf53 1 = .ok (.iload_n 1, 1) := by decide +kernel
theorem dJ9_max_7cf53_2 : decode cJ9_max_7cf53 2 = .ok (.if_icmp .lt 7, 3) := by decide +kernel
theorem dJ9_max_7cf53_5 : decode cJ9_max_7cf53 5 = .ok (.iload_n 0, 1) := by decide +kernel
theorem dJ9_max_7cf53_6 : decode cJ9_max_7cf53 6 = .ok (.goto 4, 3) := by decide +kernel
theorem dJ9_max_7cf53_9 : decode cJ9_max_7cf53 9 = .ok (.iload_n 1, 1) := by decide +kernel
theorem dJ9_max_7cf53_10 : decode cJ9_max_7cf53 10 = .ok (.ireturn, 1) := by decide +kernel
theorem dJ9_min_7cf53_0 : decode cJ9_min_7cf53 0 = .ok (.iload_n 0, 1) := by decide +kernel
theorem dJ9_min_7cf53_1 : decode cJ9_min_7cf53 1 = .ok (.iload_n 1, 1) := by decide +kernel
theorem dJ9_min_7cf53_2 : decode cJ9_min_7cf53 2 = .ok (.if_icmp .gt 7, 3) := by decide +kernel
theorem dJ9_min_7cf53_5 : decode cJ9_min_7cf53 5 = .ok (.iload_n 0, 1) := by decide +kernel
theorem dJ9_min_7cf53_6 : decode cJ9_min_7cf53 6 = .ok (.goto 4, 3) := by decide +kernel
theorem dJ9_min_7cf53_9 : decode cJ9_min_7cf53 9 = .ok (.iload_n 1, 1) := by decide +kernel
theorem dJ9_min_7cf53_10 : decode cJ9_min_7cf53 10 = .ok (.ireturn, 1) := by decide +kernel
theorem dJ7_fill_53178_0 : decode cJ7_fill_53178 0 = .ok (.iconst 0, 1) := by decide +kernel
theorem dJ7_fill_53178_1 : decode cJ7_fill_53178 1 = .ok (.istore_n 2, 1) := by decide +kernel
theorem dJ7_fill_53178_2 : decode cJ7_fill_53178 2 = .ok (.aload_n 0, 1) := by decide +kernel
theorem dJ7_fill_53178_3 : decode cJ7_fill_53178 3 = .ok (.arraylength, 1) := by decide +kernel
theorem dJ7_fill_53178_4 : decode cJ7_fill_53178 4 = .ok (.istore_n 3, 1) := by decide +kernel
theorem dJ7_fill_53178_5 : decode cJ7_fill_53178 5 = .ok (.iload_n 2, 1) := by decide +kernel
theorem dJ7_fill_53178_6 : decode cJ7_fill_53178 6 = .ok (.iload_n 3, 1) := by decide +kernel
theorem dJ7_fill_53178_7 : decode cJ7_fill_53178 7 = .ok (.if_icmp .ge 13, 3) := by decide +kernel
theorem dJ7_fill_53178_10 : decode cJ7_fill_53178 10 = .ok (.aload_n 0, 1) := by decide +kernel
theorem dJ7_fill_53178_11 : decode cJ7_fill_53178 11 = .ok (.iload_n 2, 1) := by decide +kernel
theorem dJ7_fill_53178_12 : decode cJ7_fill_53178 12 = .ok (.iload_n 1, 1) := by decide +kernel
theorem dJ7_fill_53178_13 : decode cJ7_fill_53178 13 = .ok (.iastore, 1) := by decide +kernel
theorem dJ7_fill_53178_14 : decode cJ7_fill_53178 14 = .ok (.iinc 2 1, 3) := by decide +kernel
theorem dJ7_fill_53178_17 : decode cJ7_fill_53178 17 = .ok (.goto (-12), 3) := by decide +kernel
theorem dJ7_fill_53178_20 : decode cJ7_fill_53178 20 = .ok (.return_, 1) := by decide +kernel
set_option maxRecDepth 20000 in
theorem ggL_of_X2_of : GoodIn wsL_of wsX2_of := goodIn_ca (goodIn_r _ [6, 7, 8, 9, 10, 11, 12, 13, 14, 15, 16, 17, 18, 19, 20, 5, 21, 22, 23, 24, 25, 26, 27, 28, 29, 30, 31, 32, 33, 34, 35, 36, 37, 38, 39, 40, 41, 42, 43, 44, 45, 46, 47, 48, 49, 50] (by decide +kernel) (by decide +kernel)) (goodIn_sub (fun _ h => List.mem_cons_of_mem _ (List.mem_append_right _ h)) (by decide +kernel))
set_option maxRecDepth 20000 in
theorem gL_of_X2_of : GoodIn wsL_of (wsV RL 7 RX2 yX2_of wsX2_of) := goodIn_app (goodIn_of _ (by decide +kernel)) ggL_of_X2_of
theorem dL_of_0 : decode cL_of 0 = .ok (.aload_n 3, 1) := by decide +kernel
theorem dL_of_1 : decode cL_of 1 = .ok (.iconst 0, 1) := by decide +kernel
theorem dL_of_2 : decode cL_of 2 = .ok (.aload_n 0, 1) := by decide +kernel
theorem dL_of_3 : decode cL_of 3 = .ok (.iload_n 1, 1) := by decide +kernel
theorem dL_of_4 : decode cL_of 4 = .ok (.iload_n 2, 1) := by decide +kernel
theorem dL_of_5 : decode cL_of 5 = .ok (.invokevirtual 7, 3) := by decide +kernel
theorem dL_of_8 : decode cL_of 8 = .ok (.i2l, 1) := by decide +kernel
theorem dL_of_9 : decode cL_of 9 = .ok (.lastore, 1) := by decide +kernel
theorem dL_of_10 : decode cL_of 10 = .ok (.goto 7, 3) := by decide +kernel
theorem dL_of_13 : decode cL_of 13 = .ok (.astore 4, 2) := by decide +kernel
theorem dL_of_15 : decode cL_of 15 = .ok (.iconst 1, 1) := by decide +kernel
theorem dL_of_16 : decode cL_of 16 = .ok (.ireturn, 1) := by decide +kernel
theorem dL_of_17 : decode cL_of 17 = .ok (.iconst 0, 1) := by decide +kernel
theorem dL_of_18 : decode cL_of 18 = .ok (.ireturn, 1) := by decide +kernel
set_option maxRecDepth 20000 in
theorem ggL_gap_X2_gap : GoodIn wsL_gap wsX2_gap := goodIn_ca (goodIn_r _ [6, 7, 8, 9, 10, 11, 12, 5, 13, 14, 15, 16, 17, 18, 19, 20, 21, 22, 23, 24, 25, 26, 27, 28, 29, 30, 31, 32, 33, 34, 35, 36, 37, 38, 39, 40, 41, 42, 43, 44, 45, 46, 47, 48, 49, 50, 51, 52, 53, 54, 55, 56, 57, 58, 59, 60, 61, 62, 63, 64, 65, 66, 67, 68, 69, 70, 71, 72, 73, 74, 75, 76, 77, 78, 79, 80, 81, 82, 83, 84, 85, 86, 87, 88, 89, 90, 91, 92, 93, 94, 95, 96, 97, 98, 99, 100, 101] (by decide +kernel) (by decide +kernel)) (goodIn_sub (fun _ h => List.mem_cons_of_mem _ (List.mem_append_right _ h)) (by decide +kernel))
set_option maxRecDepth 20000 in
theorem gL_gap_X2_gap : GoodIn wsL_gap (wsV RL 15 RX2 yX2_gap wsX2_gap) := goodIn_app (goodIn_of _ (by decide +kernel)) ggL_gap_X2_gap
theorem dL_gap_0 : decode cL_gap 0 = .ok (.aload_n 3, 1) := by decide +kernel
theorem dL_gap_1 : decode cL_gap 1 = .ok (.iconst 0, 1) := by decide +kernel
theorem dL_gap_2 : decode cL_gap 2 = .ok (.aload_n 0, 1) := by decide +kernel
theorem dL_gap_3 : decode cL_gap 3 = .ok (.iload_n 1, 1) := by decide +kernel
theorem dL_gap_4 : decode cL_gap 4 = .ok (.iload_n 2, 1) := by decide +kernel
theorem dL_gap_5 : decode cL_gap 5 = .ok (.invokevirtual 15, 3) := by decide +kernel
theorem dL_gap_8 : decode cL_gap 8 = .ok (.lastore, 1) := by decide +kernel
theorem dL_gap_9 : decode cL_gap 9 = .ok (.goto 7, 3) := by decide +kernel
theorem dL_gap_12 : decode cL_gap 12 = .ok (.astore 4, 2) := by decide +kernel
theorem dL_gap_14 : decode cL_gap 14 = .ok (.iconst 1, 1) := by decide +kernel
theorem dL_gap_15 : decode cL_gap 15 = .ok (.ireturn, 1) := by decide +kernel
theorem dL_gap_16 : decode cL_gap 16 = .ok (.iconst 0, 1) := by decide +kernel
theorem dL_gap_17 : decode cL_gap 17 = .ok (.ireturn, 1) := by decide +kernel
set_option maxRecDepth 20000 in
theorem ggL_cost_X2_cost : GoodIn wsL_cost wsX2_cost := goodIn_ca (goodIn_r _ [6, 7, 8, 9, 10, 11, 12, 13, 5, 14, 15, 16, 17, 18, 19, 20, 21, 22, 23, 24, 25, 26, 27, 28, 29, 30, 31, 32, 33, 34, 35, 36, 37, 38, 39, 40, 41, 42, 43, 44, 45, 46, 47, 48, 49, 50, 51, 52, 53, 54, 55, 56, 57, 58, 59, 60, 61, 62, 63, 64, 65, 66, 67, 68, 69, 70, 71, 72, 73, 74, 75, 76, 77, 78, 79, 80, 81, 82, 83, 84, 85, 86, 87, 88, 89, 90, 91, 92, 93, 94, 95, 96, 97, 98, 99, 100] (by decide +kernel) (by decide +kernel)) (goodIn_sub (fun _ h => List.mem_cons_of_mem _ (List.mem_append_right _ h)) (by decide +kernel))
set_option maxRecDepth 20000 in
theorem gL_cost_X2_cost : GoodIn wsL_cost (wsV RL 19 RX2 yX2_cost wsX2_cost) := goodIn_app (goodIn_of _ (by decide +kernel)) ggL_cost_X2_cost
theorem dL_cost_0 : decode cL_cost 0 = .ok (.aload 4, 2) := by decide +kernel
theorem dL_cost_2 : decode cL_cost 2 = .ok (.iconst 0, 1) := by decide +kernel
theorem dL_cost_3 : decode cL_cost 3 = .ok (.aload_n 0, 1) := by decide +kernel
theorem dL_cost_4 : decode cL_cost 4 = .ok (.iload_n 1, 1) := by decide +kernel
theorem dL_cost_5 : decode cL_cost 5 = .ok (.iload_n 2, 1) := by decide +kernel
theorem dL_cost_6 : decode cL_cost 6 = .ok (.iload_n 3, 1) := by decide +kernel
theorem dL_cost_7 : decode cL_cost 7 = .ok (.invokevirtual 19, 3) := by decide +kernel
theorem dL_cost_10 : decode cL_cost 10 = .ok (.lastore, 1) := by decide +kernel
theorem dL_cost_11 : decode cL_cost 11 = .ok (.goto 7, 3) := by decide +kernel
theorem dL_cost_14 : decode cL_cost 14 = .ok (.astore 5, 2) := by decide +kernel
theorem dL_cost_16 : decode cL_cost 16 = .ok (.iconst 1, 1) := by decide +kernel
theorem dL_cost_17 : decode cL_cost 17 = .ok (.ireturn, 1) := by decide +kernel
theorem dL_cost_18 : decode cL_cost 18 = .ok (.iconst 0, 1) := by decide +kernel
theorem dL_cost_19 : decode cL_cost 19 = .ok (.ireturn, 1) := by decide +kernel
set_option maxRecDepth 20000 in
theorem ggL_value_X2_value : GoodIn wsL_value wsX2_value := goodIn_ca (goodIn_r _ [6, 7, 8, 9, 10, 11, 12, 13, 5, 14, 15, 16, 17, 18, 19, 20, 21, 22, 23, 24, 25, 26, 27, 28, 29, 30, 31, 32, 33, 34, 35, 36, 37, 38, 39, 40, 41, 42, 43, 44, 45, 46, 47, 48, 49, 50, 51, 52, 53, 54, 55, 56, 57, 58, 59, 60, 61, 62, 63, 64, 65, 66, 67, 68, 69, 70, 71, 72, 73, 74, 75, 76, 77, 78, 79, 80, 81, 82, 83, 84, 85, 86, 87, 88, 89, 90, 91, 92, 93, 94, 95, 96, 97, 98, 99, 100, 101, 102, 103, 104, 105, 106, 107, 108, 109, 110, 111, 112, 113, 114, 115, 116, 117, 118, 119, 120, 121, 122, 123, 124, 125, 126, 127, 128, 129, 130, 131, 132, 133, 134, 135, 136, 137, 138, 139, 140, 141, 142, 143, 144, 145, 146, 147, 148, 149, 150] (by decide +kernel) (by decide +kernel)) (goodIn_sub (fun _ h => List.mem_cons_of_mem _ (List.mem_append_right _ h)) (by decide +kernel))
set_option maxRecDepth 20000 in
theorem gL_value_X2_value : GoodIn wsL_value (wsV RL 23 RX2 yX2_value wsX2_value) := goodIn_app (goodIn_of _ (by decide +kernel)) ggL_value_X2_value
theorem dL_value_0 : decode cL_value 0 = .ok (.aload_n 3, 1) := by decide +kernel
theorem dL_value_1 : decode cL_value 1 = .ok (.iconst 0, 1) := by decide +kernel
theorem dL_value_2 : decode cL_value 2 = .ok (.aload_n 0, 1) := by decide +kernel
theorem dL_value_3 : decode cL_value 3 = .ok (.iload_n 1, 1) := by decide +kernel
theorem dL_value_4 : decode cL_value 4 = .ok (.iload_n 2, 1) := by decide +kernel
theorem dL_value_5 : decode cL_value 5 = .ok (.invokevirtual 23, 3) := by decide +kernel
theorem dL_value_8 : decode cL_value 8 = .ok (.lastore, 1) := by decide +kernel
theorem dL_value_9 : decode cL_value 9 = .ok (.goto 7, 3) := by decide +kernel
theorem dL_value_12 : decode cL_value 12 = .ok (.astore 4, 2) := by decide +kernel
theorem dL_value_14 : decode cL_value 14 = .ok (.iconst 1, 1) := by decide +kernel
theorem dL_value_15 : decode cL_value 15 = .ok (.ireturn, 1) := by decide +kernel
theorem dL_value_16 : decode cL_value 16 = .ok (.iconst 0, 1) := by decide +kernel
theorem dL_value_17 : decode cL_value 17 = .ok (.ireturn, 1) := by decide +kernel
set_option maxRecDepth 20000 in
theorem ggL_fixed_X2_fixed : GoodIn wsL_fixed wsX2_fixed := goodIn_ca (goodIn_r _ [6, 7, 8, 9, 10, 11, 12, 13, 14, 15, 5, 16, 17, 18, 19, 20, 21, 22, 23, 24, 25, 26, 27, 28, 29, 30, 31, 32, 33, 34, 35, 36, 37, 38, 39, 40, 41, 42, 43, 44, 45, 46, 47, 48, 49, 50, 51, 52, 53, 54, 55, 56, 57, 58, 59, 60, 61, 62, 63, 64, 65, 66, 67, 68, 69, 70, 71, 72, 73, 74, 75, 76, 77, 78, 79, 80, 81, 82, 83, 84, 85, 86, 87, 88, 89, 90, 91, 92, 93, 94, 95, 96, 97, 98, 99, 100, 101, 102, 103, 104, 105, 106, 107, 108, 109, 110, 111, 112, 113, 114, 115, 116, 117, 118, 119, 120, 121, 122, 123, 124, 125, 126, 127, 128, 129, 130, 131, 132, 133, 134, 135, 136, 137, 138, 139, 140] (by decide +kernel) (by decide +kernel)) (goodIn_sub (fun _ h => List.mem_cons_of_mem _ (List.mem_append_right _ h)) (by decide +kernel))
set_option maxRecDepth 20000 in
theorem gL_fixed_X2_fixed : GoodIn wsL_fixed (wsV RL 26 RX2 yX2_fixed wsX2_fixed) := goodIn_app (goodIn_of _ (by decide +kernel)) ggL_fixed_X2_fixed
theorem dL_fixed_0 : decode cL_fixed 0 = .ok (.aload_n 2, 1) := by decide +kernel
theorem dL_fixed_1 : decode cL_fixed 1 = .ok (.iconst 0, 1) := by decide +kernel
theorem dL_fixed_2 : decode cL_fixed 2 = .ok (.aload_n 0, 1) := by decide +kernel
theorem dL_fixed_3 : decode cL_fixed 3 = .ok (.iload_n 1, 1) := by decide +kernel
theorem dL_fixed_4 : decode cL_fixed 4 = .ok (.invokevirtual 26, 3) := by decide +kernel
theorem dL_fixed_7 : decode cL_fixed 7 = .ok (.lastore, 1) := by decide +kernel
theorem dL_fixed_8 : decode cL_fixed 8 = .ok (.goto 6, 3) := by decide +kernel
theorem dL_fixed_11 : decode cL_fixed 11 = .ok (.astore_n 3, 1) := by decide +kernel
theorem dL_fixed_12 : decode cL_fixed 12 = .ok (.iconst 1, 1) := by decide +kernel
theorem dL_fixed_13 : decode cL_fixed 13 = .ok (.ireturn, 1) := by decide +kernel
theorem dL_fixed_14 : decode cL_fixed 14 = .ok (.iconst 0, 1) := by decide +kernel
theorem dL_fixed_15 : decode cL_fixed 15 = .ok (.ireturn, 1) := by decide +kernel
set_option maxRecDepth 20000 in
theorem ggL_only_X2_only : GoodIn wsL_only wsX2_only := goodIn_ca (goodIn_r _ [6, 7, 8, 9, 10, 11, 5, 12, 13, 14, 15, 16, 17, 18, 19, 20, 21, 22, 23, 24, 25, 26, 27, 28, 29, 30, 31, 32, 33, 34, 35, 36, 37, 38, 39, 40, 41, 42, 43, 44, 45, 46, 47, 48, 49, 50, 51, 52, 53, 54, 55, 56, 57, 58, 59, 60, 61, 62, 63, 64, 65, 66, 67, 68, 69, 70, 71, 72, 73, 74, 75, 76, 77, 78, 79, 80, 81, 82, 83, 84, 85, 86, 87, 88, 89, 90, 91, 92, 93, 94, 95, 96, 97, 98, 99, 100, 101, 102, 103, 104, 105, 106, 107, 108, 109, 110, 111, 112, 113, 114, 115, 116, 117, 118, 119, 120, 121, 122, 123, 124, 125, 126, 127, 128, 129, 130, 131, 132, 133, 134, 135, 136, 137, 138, 139, 140, 141] (by decide +kernel) (by decide +kernel)) (goodIn_sub (fun _ h => List.mem_cons_of_mem _ (List.mem_append_right _ h)) (by decide +kernel))
set_option maxRecDepth 20000 in
theorem gL_only_X2_only : GoodIn wsL_only (wsV RL 30 RX2 yX2_only wsX2_only) := goodIn_app (goodIn_of _ (by decide +kernel)) ggL_only_X2_only
theorem dL_only_0 : decode cL_only 0 = .ok (.aload_n 2, 1) := by decide +kernel
theorem dL_only_1 : decode cL_only 1 = .ok (.iconst 0, 1) := by decide +kernel
theorem dL_only_2 : decode cL_only 2 = .ok (.aload_n 0, 1) := by decide +kernel
theorem dL_only_3 : decode cL_only 3 = .ok (.iload_n 1, 1) := by decide +kernel
theorem dL_only_4 : decode cL_only 4 = .ok (.invokevirtual 30, 3) := by decide +kernel
theorem dL_only_7 : decode cL_only 7 = .ok (.lastore, 1) := by decide +kernel
theorem dL_only_8 : decode cL_only 8 = .ok (.goto 6, 3) := by decide +kernel
theorem dL_only_11 : decode cL_only 11 = .ok (.astore_n 3, 1) := by decide +kernel
theorem dL_only_12 : decode cL_only 12 = .ok (.iconst 1, 1) := by decide +kernel
theorem dL_only_13 : decode cL_only 13 = .ok (.ireturn, 1) := by decide +kernel
theorem dL_only_14 : decode cL_only 14 = .ok (.iconst 0, 1) := by decide +kernel
theorem dL_only_15 : decode cL_only 15 = .ok (.ireturn, 1) := by decide +kernel
set_option maxRecDepth 20000 in
theorem ggL_without_X2_without : GoodIn wsL_without wsX2_without := goodIn_ca (goodIn_r _ [6, 7, 8, 9, 10, 11, 5, 12, 13, 14, 15, 16, 17, 18, 19, 20, 21, 22, 23, 24, 25, 26, 27, 28, 29, 30, 31, 32, 33, 34, 35, 36, 37, 38, 39, 40, 41, 42, 43, 44, 45, 46, 47, 48, 49, 50, 51, 52, 53, 54, 55, 56, 57, 58, 59, 60, 61, 62, 63, 64, 65, 66, 67, 68, 69, 70, 71, 72, 73, 74, 75, 76, 77, 78, 79, 80, 81, 82, 83, 84, 85, 86, 87, 88, 89, 90, 91, 92, 93, 94, 95, 96, 97, 98, 99, 100, 101, 102, 103, 104, 105, 106, 107, 108, 109, 110, 111, 112, 113, 114, 115, 116, 117, 118, 119, 120, 121, 122, 123, 124, 125, 126, 127, 128, 129, 130, 131, 132, 133, 134, 135, 136, 137, 138, 139, 140, 141, 142, 143, 144, 145] (by decide +kernel) (by decide +kernel)) (goodIn_sub (fun _ h => List.mem_cons_of_mem _ (List.mem_append_right _ h)) (by decide +kernel))
set_option maxRecDepth 20000 in
theorem gL_without_X2_without : GoodIn wsL_without (wsV RL 33 RX2 yX2_without wsX2_without) := goodIn_app (goodIn_of _ (by decide +kernel)) ggL_without_X2_without
theorem dL_without_0 : decode cL_without 0 = .ok (.aload_n 2, 1) := by decide +kernel
theorem dL_without_1 : decode cL_without 1 = .ok (.iconst 0, 1) := by decide +kernel
theorem dL_without_2 : decode cL_without 2 = .ok (.aload_n 0, 1) := by decide +kernel
theorem dL_without_3 : decode cL_without 3 = .ok (.iload_n 1, 1) := by decide +kernel
theorem dL_without_4 : decode cL_without 4 = .ok (.invokevirtual 33, 3) := by decide +kernel
theorem dL_without_7 : decode cL_without 7 = .ok (.lastore, 1) := by decide +kernel
theorem dL_without_8 : decode cL_without 8 = .ok (.goto 6, 3) := by decide +kernel
theorem dL_without_11 : decode cL_without 11 = .ok (.astore_n 3, 1) := by decide +kernel
theorem dL_without_12 : decode cL_without 12 = .ok (.iconst 1, 1) := by decide +kernel
theorem dL_without_13 : decode cL_without 13 = .ok (.ireturn, 1) := by decide +kernel
theorem dL_without_14 : decode cL_without 14 = .ok (.iconst 0, 1) := by decide +kernel
theorem dL_without_15 : decode cL_without 15 = .ok (.ireturn, 1) := by decide +kernel
