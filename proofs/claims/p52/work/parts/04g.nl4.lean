set_option maxRecDepth 20000 in
theorem ggL_prints_X10_pamphlets : GoodIn wsL_prints wsX10_pamphlets := goodIn_r _ [5, 6, 234, 235, 236, 237, 238, 239, 240, 241, 242, 243, 244] (by decide +kernel) (by decide +kernel)
set_option maxRecDepth 20000 in
theorem gL_prints_X10_pamphlets : GoodIn wsL_prints (wsV RL 79 RX10 yX10_pamphlets wsX10_pamphlets) := goodIn_app (goodIn_of _ (by decide +kernel)) ggL_prints_X10_pamphlets
set_option maxRecDepth 20000 in
theorem ggL_prints_L_low : GoodIn wsL_prints wsL_low := goodIn_r _ [10, 11] (by decide +kernel) (by decide +kernel)
set_option maxRecDepth 20000 in
theorem gL_prints_L_low : GoodIn wsL_prints (va_wsS RL 166 yL_low wsL_low) := goodIn_app (goodIn_of _ (by decide +kernel)) ggL_prints_L_low
set_option maxRecDepth 20000 in
theorem ggL_prints_X10_clearText : GoodIn wsL_prints wsX10_clearText := goodIn_r _ [15, 16, 234, 235, 236, 237, 238, 239, 240, 245, 246] (by decide +kernel) (by decide +kernel)
set_option maxRecDepth 20000 in
theorem gL_prints_X10_clearText : GoodIn wsL_prints (wsV RL 180 RX10 yX10_clearText wsX10_clearText) := goodIn_app (goodIn_of _ (by decide +kernel)) ggL_prints_X10_clearText
set_option maxRecDepth 20000 in
theorem ggL_prints_X10_append : GoodIn wsL_prints wsX10_append := goodIn_ca (goodIn_ca (goodIn_r _ [20, 21, 22, 23, 24, 16, 25, 26, 27, 28, 29, 30, 31, 32, 33, 34, 35, 36, 37, 234, 235, 236, 237, 238, 239, 240, 245, 246, 247] (by decide +kernel) (by decide +kernel)) (goodIn_sub (fun _ h => List.mem_cons_of_mem _ (List.mem_append_left _ (List.mem_append_left _ (List.mem_append_right _ h)))) (by decide +kernel))) (goodIn_sub (fun _ h => List.mem_cons_of_mem _ (List.mem_append_left _ (List.mem_append_right _ h))) (by decide +kernel))
set_option maxRecDepth 20000 in
theorem gL_prints_X10_append : GoodIn wsL_prints (wsV RL 169 RX10 yX10_append wsX10_append) := goodIn_app (goodIn_of _ (by decide +kernel)) ggL_prints_X10_append
set_option maxRecDepth 20000 in
theorem ggL_prints_L_typeQuotation : GoodIn wsL_prints wsL_typeQuotation := goodIn_ca (goodIn_ca (goodIn_ca (goodIn_r _ [40, 7, 8, 9, 10, 11, 17, 18, 19, 4, 20, 21, 22, 23, 24, 16, 25, 26, 27, 28, 29, 30, 31, 32, 33, 34, 35, 36, 37, 41, 42, 43, 1, 2, 3, 5, 6, 44, 45, 46, 47, 48, 49, 50, 51, 52, 53, 54, 55, 56, 57, 58, 59, 60, 61, 62, 63, 64, 65, 66, 67, 68, 69, 70, 71, 72, 73, 74, 75, 76, 77, 78, 79, 80, 81, 82, 83, 84, 85, 86, 234, 235, 236, 237, 238, 239, 240, 245, 246, 247, 241, 242, 243, 244, 248, 249, 250, 251, 252, 253, 254, 255] (by decide +kernel) (by decide +kernel)) (goodIn_sub (fun _ h => List.mem_cons_of_mem _ (List.mem_append_left _ (List.mem_append_left _ (List.mem_append_right _ h)))) (by decide +kernel))) (goodIn_sub (fun _ h => List.mem_cons_of_mem _ (List.mem_append_left _ (List.mem_append_right _ h))) (by decide +kernel))) (goodIn_sub (fun _ h => List.mem_cons_of_mem _ (List.mem_append_right _ h)) (by decide +kernel))
set_option maxRecDepth 20000 in
theorem gL_prints_L_typeQuotation : GoodIn wsL_prints (va_wsS RL 183 yL_typeQuotation wsL_typeQuotation) := goodIn_app (goodIn_of _ (by decide +kernel)) ggL_prints_L_typeQuotation
set_option maxRecDepth 20000 in
theorem ggL_prints_X10_dayOf : GoodIn wsL_prints wsX10_dayOf := goodIn_ca (goodIn_r _ [90, 6, 51, 52, 53, 4, 54, 55, 56, 57, 58, 59, 60, 61, 62, 63, 64, 65, 66, 67, 68, 234, 235, 236, 237, 238, 239, 240, 248, 249, 250, 251, 252, 253, 254, 255, 241, 242, 243, 244] (by decide +kernel) (by decide +kernel)) (goodIn_sub (fun _ h => List.mem_cons_of_mem _ (List.mem_append_right _ h)) (by decide +kernel))
set_option maxRecDepth 20000 in
theorem gL_prints_X10_dayOf : GoodIn wsL_prints (wsV RL 57 RX10 yX10_dayOf wsX10_dayOf) := goodIn_app (goodIn_of _ (by decide +kernel)) ggL_prints_X10_dayOf
set_option maxRecDepth 20000 in
theorem ggL_prints_X10_day : GoodIn wsL_prints wsX10_day := goodIn_r _ [94, 6, 234, 235, 236, 237, 238, 239, 240, 241, 242, 243, 244] (by decide +kernel) (by decide +kernel)
set_option maxRecDepth 20000 in
theorem gL_prints_X10_day : GoodIn wsL_prints (wsV RL 104 RX10 yX10_day wsX10_day) := goodIn_app (goodIn_of _ (by decide +kernel)) ggL_prints_X10_day
set_option maxRecDepth 20000 in
theorem ggL_prints_L_typeWord : GoodIn wsL_prints wsL_typeWord := goodIn_ca (goodIn_ca (goodIn_r _ [46, 7, 8, 9, 10, 11, 17, 18, 19, 4, 20, 21, 22, 23, 24, 16, 25, 26, 27, 28, 29, 30, 31, 32, 33, 34, 35, 36, 37, 234, 235, 236, 237, 238, 239, 240, 245, 246, 247] (by decide +kernel) (by decide +kernel)) (goodIn_sub (fun _ h => List.mem_cons_of_mem _ (List.mem_append_left _ (List.mem_append_left _ (List.mem_append_right _ h)))) (by decide +kernel))) (goodIn_sub (fun _ h => List.mem_cons_of_mem _ (List.mem_append_left _ (List.mem_append_right _ h))) (by decide +kernel))
set_option maxRecDepth 20000 in
theorem gL_prints_L_typeWord : GoodIn wsL_prints (va_wsS RL 172 yL_typeWord wsL_typeWord) := goodIn_app (goodIn_of _ (by decide +kernel)) ggL_prints_L_typeWord
set_option maxRecDepth 20000 in
theorem ggL_prints_X10_errorPosition : GoodIn wsL_prints wsX10_errorPosition := goodIn_r _ [98, 99, 16, 100, 101, 102, 103, 104, 105, 106, 107, 108, 109, 110, 111, 112, 113, 114, 115, 116, 117, 35, 118, 37, 119, 120, 121, 122, 123, 124, 125, 126, 127, 128, 129, 130, 131, 132, 133, 4, 134, 135, 136, 137, 138, 139, 140, 33, 34, 36, 141, 142, 143, 144, 145, 81, 82, 83, 146, 147, 148, 149, 150, 151, 152, 153, 154, 155, 156, 157, 158, 159, 160, 161, 234, 235, 236, 237, 238, 239, 240, 256, 257, 258, 259, 260, 245, 246, 248, 249, 250, 251, 252, 253, 254, 255, 247] (by decide +kernel) (by decide +kernel)
set_option maxRecDepth 20000 in
theorem gL_prints_X10_errorPosition : GoodIn wsL_prints (wsV RL 141 RX10 yX10_errorPosition wsX10_errorPosition) := goodIn_app (goodIn_of _ (by decide +kernel)) ggL_prints_X10_errorPosition
set_option maxRecDepth 20000 in
theorem ggL_prints_X10_whyNotPrinted : GoodIn wsL_prints wsX10_whyNotPrinted := goodIn_r _ [165, 6, 99, 16, 100, 101, 102, 103, 104, 105, 106, 107, 108, 109, 110, 111, 112, 113, 114, 115, 116, 117, 35, 118, 37, 119, 120, 121, 122, 123, 124, 125, 126, 127, 128, 129, 130, 131, 132, 133, 4, 134, 135, 136, 137, 138, 139, 140, 33, 34, 36, 141, 142, 143, 144, 145, 81, 82, 83, 146, 147, 148, 149, 150, 151, 152, 153, 154, 155, 156, 157, 158, 159, 160, 161, 166, 167, 168, 169, 170, 171, 172, 60, 173, 174, 175, 58, 59, 61, 62, 176, 177, 178, 179, 180, 181, 64, 65, 66, 67, 68, 234, 235, 236, 237, 238, 239, 240, 241, 242, 243, 244, 256, 257, 258, 259, 260, 245, 246, 248, 249, 250, 251, 252, 253, 254, 255, 247] (by decide +kernel) (by decide +kernel)
set_option maxRecDepth 20000 in
theorem gL_prints_X10_whyNotPrinted : GoodIn wsL_prints (wsV RL 154 RX10 yX10_whyNotPrinted wsX10_whyNotPrinted) := goodIn_app (goodIn_of _ (by decide +kernel)) ggL_prints_X10_whyNotPrinted
set_option maxRecDepth 20000 in
theorem ggL_prints_L_tryPrint : GoodIn wsL_prints wsL_tryPrint := goodIn_ca (goodIn_ca (goodIn_r _ [184, 185, 186, 187, 188, 189, 4, 190, 21, 22, 23, 24, 191, 6, 99, 16, 192, 193, 194, 195, 163, 164, 165, 100, 101, 102, 103, 104, 105, 106, 107, 108, 109, 110, 111, 112, 113, 114, 115, 116, 117, 35, 118, 37, 119, 120, 121, 122, 123, 124, 125, 126, 127, 128, 129, 130, 131, 132, 133, 134, 135, 136, 137, 138, 139, 140, 33, 34, 36, 141, 142, 143, 144, 145, 81, 82, 83, 146, 147, 148, 149, 150, 151, 152, 153, 154, 155, 156, 157, 158, 159, 160, 161, 166, 167, 168, 169, 170, 171, 172, 60, 173, 174, 175, 58, 59, 61, 62, 176, 177, 178, 179, 180, 181, 64, 65, 66, 67, 68, 196, 197, 198, 199, 200, 201, 202, 203, 204, 205, 206, 207, 208, 209, 210, 211, 212, 213, 214, 215, 216, 217, 218, 219, 220, 221, 222, 223, 224, 225, 226, 227, 228, 229, 234, 235, 236, 237, 238, 239, 240, 256, 257, 258, 259, 260, 245, 246, 241, 242, 243, 244, 248, 249, 250, 251, 252, 253, 254, 255, 247, 261, 262, 263, 264, 265] (by decide +kernel) (by decide +kernel)) (goodIn_sub (fun _ h => List.mem_cons_of_mem _ (List.mem_append_left _ (List.mem_append_left _ (List.mem_append_right _ h)))) (by decide +kernel))) (goodIn_sub (fun _ h => List.mem_cons_of_mem _ (List.mem_append_left _ (List.mem_append_right _ h))) (by decide +kernel))
set_option maxRecDepth 20000 in
theorem gL_prints_L_tryPrint : GoodIn wsL_prints (va_wsS RL 187 yL_tryPrint wsL_tryPrint) := goodIn_app (goodIn_of _ (by decide +kernel)) ggL_prints_L_tryPrint
set_option maxRecDepth 20000 in
theorem ggL_prints_X10_authorOf : GoodIn wsL_prints wsX10_authorOf := goodIn_ca (goodIn_r _ [233, 6, 51, 52, 53, 4, 54, 55, 56, 57, 58, 59, 60, 61, 62, 63, 64, 65, 66, 67, 68, 234, 235, 236, 237, 238, 239, 240, 248, 249, 250, 251, 252, 253, 254, 255, 241, 242, 243, 244] (by decide +kernel) (by decide +kernel)) (goodIn_sub (fun _ h => List.mem_cons_of_mem _ (List.mem_append_right _ h)) (by decide +kernel))
set_option maxRecDepth 20000 in
theorem gL_prints_X10_authorOf : GoodIn wsL_prints (wsV RL 159 RX10 yX10_authorOf wsX10_authorOf) := goodIn_app (goodIn_of _ (by decide +kernel)) ggL_prints_X10_authorOf
theorem dL_prints_0 : decode cL_prints 0 = .ok (.aload_n 0, 1) := by decide +kernel
theorem dL_prints_1 : decode cL_prints 1 = .ok (.invokevirtual 79, 3) := by decide +kernel
theorem dL_prints_4 : decode cL_prints 4 = .ok (.istore_n 3, 1) := by decide +kernel
theorem dL_prints_5 : decode cL_prints 5 = .ok (.iload_n 3, 1) := by decide +kernel
theorem dL_prints_6 : decode cL_prints 6 = .ok (.bipush 20, 2) := by decide +kernel
theorem dL_prints_8 : decode cL_prints 8 = .ok (.if_icmp .ne 7, 3) := by decide +kernel
theorem dL_prints_11 : decode cL_prints 11 = .ok (.iconst 1, 1) := by decide +kernel
theorem dL_prints_12 : decode cL_prints 12 = .ok (.goto 4, 3) := by decide +kernel
theorem dL_prints_15 : decode cL_prints 15 = .ok (.iconst 0, 1) := by decide +kernel
theorem dL_prints_16 : decode cL_prints 16 = .ok (.istore 4, 2) := by decide +kernel
theorem dL_prints_18 : decode cL_prints 18 = .ok (.iconst 1, 1) := by decide +kernel
theorem dL_prints_19 : decode cL_prints 19 = .ok (.iload_n 1, 1) := by decide +kernel
theorem dL_prints_20 : decode cL_prints 20 = .ok (.iconst 4, 1) := by decide +kernel
theorem dL_prints_21 : decode cL_prints 21 = .ok (.invokestatic 166, 3) := by decide +kernel
theorem dL_prints_24 : decode cL_prints 24 = .ok (.iadd, 1) := by decide +kernel
theorem dL_prints_25 : decode cL_prints 25 = .ok (.istore 5, 2) := by decide +kernel
theorem dL_prints_27 : decode cL_prints 27 = .ok (.aload_n 0, 1) := by decide +kernel
theorem dL_prints_28 : decode cL_prints 28 = .ok (.invokevirtual 180, 3) := by decide +kernel
theorem dL_prints_31 : decode cL_prints 31 = .ok (.istore 6, 2) := by decide +kernel
theorem dL_prints_33 : decode cL_prints 33 = .ok (.iconst 0, 1) := by decide +kernel
theorem dL_prints_34 : decode cL_prints 34 = .ok (.istore 7, 2) := by decide +kernel
theorem dL_prints_36 : decode cL_prints 36 = .ok (.iload 7, 2) := by decide +kernel
theorem dL_prints_38 : decode cL_prints 38 = .ok (.iload 5, 2) := by decide +kernel
theorem dL_prints_40 : decode cL_prints 40 = .ok (.if_icmp .ge 173, 3) := by decide +kernel
theorem dL_prints_43 : decode cL_prints 43 = .ok (.iload_n 1, 1) := by decide +kernel
theorem dL_prints_44 : decode cL_prints 44 = .ok (.iconst 3, 1) := by decide +kernel
theorem dL_prints_45 : decode cL_prints 45 = .ok (.iload 7, 2) := by decide +kernel
theorem dL_prints_47 : decode cL_prints 47 = .ok (.imul, 1) := by decide +kernel
theorem dL_prints_48 : decode cL_prints 48 = .ok (.ishr, 1) := by decide +kernel
theorem dL_prints_49 : decode cL_prints 49 = .ok (.iload_n 2, 1) := by decide +kernel
theorem dL_prints_50 : decode cL_prints 50 = .ok (.iconst 2, 1) := by decide +kernel
theorem dL_prints_51 : decode cL_prints 51 = .ok (.iload 7, 2) := by decide +kernel
theorem dL_prints_53 : decode cL_prints 53 = .ok (.imul, 1) := by decide +kernel
theorem dL_prints_54 : decode cL_prints 54 = .ok (.ishr, 1) := by decide +kernel
theorem dL_prints_55 : decode cL_prints 55 = .ok (.ixor, 1) := by decide +kernel
theorem dL_prints_56 : decode cL_prints 56 = .ok (.istore 8, 2) := by decide +kernel
theorem dL_prints_58 : decode cL_prints 58 = .ok (.iload 8, 2) := by decide +kernel
theorem dL_prints_60 : decode cL_prints 60 = .ok (.iconst 3, 1) := by decide +kernel
theorem dL_prints_61 : decode cL_prints 61 = .ok (.ishr, 1) := by decide +kernel
theorem dL_prints_62 : decode cL_prints 62 = .ok (.iload 8, 2) := by decide +kernel
theorem dL_prints_64 : decode cL_prints 64 = .ok (.iconst 5, 1) := by decide +kernel
theorem dL_prints_65 : decode cL_prints 65 = .ok (.ishr, 1) := by decide +kernel
theorem dL_prints_66 : decode cL_prints 66 = .ok (.bipush 9, 2) := by decide +kernel
theorem dL_prints_68 : decode cL_prints 68 = .ok (.invokestatic 166, 3) := by decide +kernel
theorem dL_prints_71 : decode cL_prints 71 = .ok (.ifCond .eq 7, 3) := by decide +kernel
theorem dL_prints_74 : decode cL_prints 74 = .ok (.iload_n 3, 1) := by decide +kernel
theorem dL_prints_75 : decode cL_prints 75 = .ok (.ifCond .ne 8, 3) := by decide +kernel
theorem dL_prints_78 : decode cL_prints 78 = .ok (.bipush 20, 2) := by decide +kernel
theorem dL_prints_80 : decode cL_prints 80 = .ok (.goto 4, 3) := by decide +kernel
theorem dL_prints_83 : decode cL_prints 83 = .ok (.iload_n 3, 1) := by decide +kernel
theorem dL_prints_84 : decode cL_prints 84 = .ok (.invokestatic 166, 3) := by decide +kernel
theorem dL_prints_87 : decode cL_prints 87 = .ok (.istore 9, 2) := by decide +kernel
theorem dL_prints_89 : decode cL_prints 89 = .ok (.iload 7, 2) := by decide +kernel
theorem dL_prints_91 : decode cL_prints 91 = .ok (.ifCond .le 12, 3) := by decide +kernel
theorem dL_prints_94 : decode cL_prints 94 = .ok (.aload_n 0, 1) := by decide +kernel
theorem dL_prints_95 : decode cL_prints 95 = .ok (.bipush 32, 2) := by decide +kernel
theorem dL_prints_97 : decode cL_prints 97 = .ok (.invokevirtual 169, 3) := by decide +kernel
theorem dL_prints_100 : decode cL_prints 100 = .ok (.goto 5, 3) := by decide +kernel
theorem dL_prints_103 : decode cL_prints 103 = .ok (.iload 6, 2) := by decide +kernel
theorem dL_prints_105 : decode cL_prints 105 = .ok (.istore 6, 2) := by decide +kernel
theorem dL_prints_107 : decode cL_prints 107 = .ok (.iload 8, 2) := by decide +kernel
theorem dL_prints_109 : decode cL_prints 109 = .ok (.iconst 5, 1) := by decide +kernel
theorem dL_prints_110 : decode cL_prints 110 = .ok (.invokestatic 166, 3) := by decide +kernel
theorem dL_prints_113 : decode cL_prints 113 = .ok (.iconst 2, 1) := by decide +kernel
theorem dL_prints_114 : decode cL_prints 114 = .ok (.if_icmp .ge 85, 3) := by decide +kernel
theorem dL_prints_117 : decode cL_prints 117 = .ok (.iload_n 3, 1) := by decide +kernel
theorem dL_prints_118 : decode cL_prints 118 = .ok (.ifCond .gt 12, 3) := by decide +kernel
theorem dL_prints_121 : decode cL_prints 121 = .ok (.iload 8, 2) := by decide +kernel
theorem dL_prints_123 : decode cL_prints 123 = .ok (.iconst 5, 1) := by decide +kernel
theorem dL_prints_124 : decode cL_prints 124 = .ok (.invokestatic 166, 3) := by decide +kernel
theorem dL_prints_127 : decode cL_prints 127 = .ok (.ifCond .ne 72, 3) := by decide +kernel
theorem dL_prints_130 : decode cL_prints 130 = .ok (.aload_n 0, 1) := by decide +kernel
theorem dL_prints_131 : decode cL_prints 131 = .ok (.iload 9, 2) := by decide +kernel
theorem dL_prints_133 : decode cL_prints 133 = .ok (.iload 8, 2) := by decide +kernel
theorem dL_prints_135 : decode cL_prints 135 = .ok (.invokestatic 183, 3) := by decide +kernel
theorem dL_prints_138 : decode cL_prints 138 = .ok (.istore 6, 2) := by decide +kernel
theorem dL_prints_140 : decode cL_prints 140 = .ok (.iload 9, 2) := by decide +kernel
theorem dL_prints_142 : decode cL_prints 142 = .ok (.iload_n 3, 1) := by decide +kernel
theorem dL_prints_143 : decode cL_prints 143 = .ok (.if_icmp .lt 7, 3) := by decide +kernel
theorem dL_prints_146 : decode cL_prints 146 = .ok (.iconst 3, 1) := by decide +kernel
theorem dL_prints_147 : decode cL_prints 147 = .ok (.goto 21, 3) := by decide +kernel
theorem dL_prints_150 : decode cL_prints 150 = .ok (.aload_n 0, 1) := by decide +kernel
theorem dL_prints_151 : decode cL_prints 151 = .ok (.iload 9, 2) := by decide +kernel
theorem dL_prints_153 : decode cL_prints 153 = .ok (.invokevirtual 57, 3) := by decide +kernel
theorem dL_prints_156 : decode cL_prints 156 = .ok (.aload_n 0, 1) := by decide +kernel
theorem dL_prints_157 : decode cL_prints 157 = .ok (.invokevirtual 104, 3) := by decide +kernel
theorem dL_prints_160 : decode cL_prints 160 = .ok (.if_icmp .ne 7, 3) := by decide +kernel
theorem dL_prints_163 : decode cL_prints 163 = .ok (.iconst 4, 1) := by decide +kernel
theorem dL_prints_164 : decode cL_prints 164 = .ok (.goto 4, 3) := by decide +kernel
theorem dL_prints_167 : decode cL_prints 167 = .ok (.iconst 0, 1) := by decide +kernel
theorem dL_prints_168 : decode cL_prints 168 = .ok (.istore 10, 2) := by decide +kernel
theorem dL_prints_170 : decode cL_prints 170 = .ok (.iload 4, 2) := by decide +kernel
theorem dL_prints_172 : decode cL_prints 172 = .ok (.iconst 1, 1) := by decide +kernel
theorem dL_prints_173 : decode cL_prints 173 = .ok (.if_icmp .eq 14, 3) := by decide +kernel
theorem dL_prints_176 : decode cL_prints 176 = .ok (.iload 4, 2) := by decide +kernel
theorem dL_prints_178 : decode cL_prints 178 = .ok (.iconst 3, 1) := by decide +kernel
theorem dL_prints_179 : decode cL_prints 179 = .ok (.if_icmp .eq 8, 3) := by decide +kernel
theorem dL_prints_182 : decode cL_prints 182 = .ok (.iload 10, 2) := by decide +kernel
theorem dL_prints_184 : decode cL_prints 184 = .ok (.ifCond .ne 8, 3) := by decide +kernel
theorem dL_prints_187 : decode cL_prints 187 = .ok (.iload 4, 2) := by decide +kernel
theorem dL_prints_189 : decode cL_prints 189 = .ok (.goto 5, 3) := by decide +kernel
theorem dL_prints_192 : decode cL_prints 192 = .ok (.iload 10, 2) := by decide +kernel
theorem dL_prints_194 : decode cL_prints 194 = .ok (.istore 4, 2) := by decide +kernel
theorem dL_prints_196 : decode cL_prints 196 = .ok (.goto 11, 3) := by decide +kernel
theorem dL_prints_199 : decode cL_prints 199 = .ok (.aload_n 0, 1) := by decide +kernel
theorem dL_prints_200 : decode cL_prints 200 = .ok (.iload 8, 2) := by decide +kernel
theorem dL_prints_202 : decode cL_prints 202 = .ok (.invokestatic 172, 3) := by decide +kernel
theorem dL_prints_205 : decode cL_prints 205 = .ok (.istore 6, 2) := by decide +kernel
theorem dL_prints_207 : decode cL_prints 207 = .ok (.iinc 7 1, 3) := by decide +kernel
theorem dL_prints_210 : decode cL_prints 210 = .ok (.goto (-174), 3) := by decide +kernel
theorem dL_prints_213 : decode cL_prints 213 = .ok (.iload_n 2, 1) := by decide +kernel
theorem dL_prints_214 : decode cL_prints 214 = .ok (.bipush 8, 2) := by decide +kernel
theorem dL_prints_216 : decode cL_prints 216 = .ok (.invokestatic 166, 3) := by decide +kernel
theorem dL_prints_219 : decode cL_prints 219 = .ok (.istore 7, 2) := by decide +kernel
theorem dL_prints_221 : decode cL_prints 221 = .ok (.aload_n 0, 1) := by decide +kernel
theorem dL_prints_222 : decode cL_prints 222 = .ok (.invokevirtual 141, 3) := by decide +kernel
theorem dL_prints_225 : decode cL_prints 225 = .ok (.iload 6, 2) := by decide +kernel
theorem dL_prints_227 : decode cL_prints 227 = .ok (.if_icmp .ne 16, 3) := by decide +kernel
theorem dL_prints_230 : decode cL_prints 230 = .ok (.aload_n 0, 1) := by decide +kernel
theorem dL_prints_231 : decode cL_prints 231 = .ok (.invokevirtual 154, 3) := by decide +kernel
theorem dL_prints_234 : decode cL_prints 234 = .ok (.iload 4, 2) := by decide +kernel
theorem dL_prints_236 : decode cL_prints 236 = .ok (.if_icmp .ne 7, 3) := by decide +kernel
theorem dL_prints_239 : decode cL_prints 239 = .ok (.iconst 1, 1) := by decide +kernel
theorem dL_prints_240 : decode cL_prints 240 = .ok (.goto 4, 3) := by decide +kernel
theorem dL_prints_243 : decode cL_prints 243 = .ok (.iconst 0, 1) := by decide +kernel
theorem dL_prints_244 : decode cL_prints 244 = .ok (.istore 8, 2) := by decide +kernel
theorem dL_prints_246 : decode cL_prints 246 = .ok (.aload_n 0, 1) := by decide +kernel
theorem dL_prints_247 : decode cL_prints 247 = .ok (.iload 7, 2) := by decide +kernel
theorem dL_prints_249 : decode cL_prints 249 = .ok (.invokestatic 187, 3) := by decide +kernel
theorem dL_prints_252 : decode cL_prints 252 = .ok (.istore 9, 2) := by decide +kernel
theorem dL_prints_254 : decode cL_prints 254 = .ok (.iload 8, 2) := by decide +kernel
theorem dL_prints_256 : decode cL_prints 256 = .ok (.ifCond .eq 75, 3) := by decide +kernel
theorem dL_prints_259 : decode cL_prints 259 = .ok (.iload 4, 2) := by decide +kernel
theorem dL_prints_261 : decode cL_prints 261 = .ok (.ifCond .le 31, 3) := by decide +kernel
theorem dL_prints_264 : decode cL_prints 264 = .ok (.iload 9, 2) := by decide +kernel
theorem dL_prints_266 : decode cL_prints 266 = .ok (.sipush (-7002), 3) := by decide +kernel
theorem dL_prints_269 : decode cL_prints 269 = .ok (.if_icmp .ne 62, 3) := by decide +kernel
theorem dL_prints_272 : decode cL_prints 272 = .ok (.aload_n 0, 1) := by decide +kernel
theorem dL_prints_273 : decode cL_prints 273 = .ok (.invokevirtual 79, 3) := by decide +kernel
theorem dL_prints_276 : decode cL_prints 276 = .ok (.iload_n 3, 1) := by decide +kernel
theorem dL_prints_277 : decode cL_prints 277 = .ok (.if_icmp .ne 54, 3) := by decide +kernel
theorem dL_prints_280 : decode cL_prints 280 = .ok (.aload_n 0, 1) := by decide +kernel
theorem dL_prints_281 : decode cL_prints 281 = .ok (.invokevirtual 180, 3) := by decide +kernel
theorem dL_prints_284 : decode cL_prints 284 = .ok (.iload 6, 2) := by decide +kernel
theorem dL_prints_286 : decode cL_prints 286 = .ok (.if_icmp .ne 45, 3) := by decide +kernel
theorem dL_prints_289 : decode cL_prints 289 = .ok (.goto 38, 3) := by decide +kernel
theorem dL_prints_292 : decode cL_prints 292 = .ok (.iload 9, 2) := by decide +kernel
theorem dL_prints_294 : decode cL_prints 294 = .ok (.iload_n 3, 1) := by decide +kernel
theorem dL_prints_295 : decode cL_prints 295 = .ok (.if_icmp .ne 36, 3) := by decide +kernel
theorem dL_prints_298 : decode cL_prints 298 = .ok (.aload_n 0, 1) := by decide +kernel
theorem dL_prints_299 : decode cL_prints 299 = .ok (.iload_n 3, 1) := by decide +kernel
theorem dL_prints_300 : decode cL_prints 300 = .ok (.invokevirtual 159, 3) := by decide +kernel
theorem dL_prints_303 : decode cL_prints 303 = .ok (.iload 7, 2) := by decide +kernel
theorem dL_prints_305 : decode cL_prints 305 = .ok (.if_icmp .ne 26, 3) := by decide +kernel
theorem dL_prints_308 : decode cL_prints 308 = .ok (.aload_n 0, 1) := by decide +kernel
theorem dL_prints_309 : decode cL_prints 309 = .ok (.iload_n 3, 1) := by decide +kernel
theorem dL_prints_310 : decode cL_prints 310 = .ok (.invokevirtual 57, 3) := by decide +kernel
theorem dL_prints_313 : decode cL_prints 313 = .ok (.aload_n 0, 1) := by decide +kernel
theorem dL_prints_314 : decode cL_prints 314 = .ok (.invokevirtual 104, 3) := by decide +kernel
theorem dL_prints_317 : decode cL_prints 317 = .ok (.if_icmp .ne 14, 3) := by decide +kernel
theorem dL_prints_320 : decode cL_prints 320 = .ok (.aload_n 0, 1) := by decide +kernel
theorem dL_prints_321 : decode cL_prints 321 = .ok (.invokevirtual 180, 3) := by decide +kernel
theorem dL_prints_324 : decode cL_prints 324 = .ok (.ifCond .ne 7, 3) := by decide +kernel
theorem dL_prints_327 : decode cL_prints 327 = .ok (.iconst 1, 1) := by decide +kernel
theorem dL_prints_328 : decode cL_prints 328 = .ok (.goto 4, 3) := by decide +kernel
theorem dL_prints_331 : decode cL_prints 331 = .ok (.iconst 0, 1) := by decide +kernel
theorem dL_prints_332 : decode cL_prints 332 = .ok (.ireturn, 1) := by decide +kernel
set_option maxRecDepth 20000 in
theorem ggL_mends_X10_quotationsOf : GoodIn wsL_mends wsX10_quotationsOf := goodIn_ca (goodIn_r _ [5, 6, 7, 8, 9, 4, 10, 11, 12, 13, 14, 15, 16, 17, 18, 19, 20, 21, 22, 23, 24, 213, 214, 215, 216, 217, 218, 219, 220, 221, 222, 223, 224, 225, 226, 227, 228, 229, 230, 231] (by decide +kernel) (by decide +kernel)) (goodIn_sub (fun _ h => List.mem_cons_of_mem _ (List.mem_append_left _ (List.mem_append_right _ h))) (by decide +kernel))
set_option maxRecDepth 20000 in
theorem gL_mends_X10_quotationsOf : GoodIn wsL_mends (wsV RL 82 RX10 yX10_quotationsOf wsX10_quotationsOf) := goodIn_app (goodIn_of _ (by decide +kernel)) ggL_mends_X10_quotationsOf
set_option maxRecDepth 20000 in
theorem ggL_mends_L_tryMend : GoodIn wsL_mends wsL_tryMend := goodIn_ca (goodIn_ca (goodIn_r _ [28, 29, 30, 31, 32, 33, 4, 34, 35, 36, 37, 6, 38, 39, 40, 41, 42, 11, 12, 7, 8, 9, 10, 13, 14, 15, 16, 17, 18, 19, 20, 21, 22, 23, 24, 43, 44, 45, 46, 47, 48, 49, 50, 51, 52, 53, 54, 55, 56, 57, 58, 59, 60, 61, 62, 63, 64, 65, 66, 67, 68, 69, 70, 71, 72, 73, 74, 75, 76, 77, 78, 79, 80, 81, 82, 83, 84, 85, 86, 87, 88, 89, 90, 91, 92, 93, 94, 95, 96, 97, 98, 99, 100, 101, 102, 103, 104, 105, 106, 107, 108, 109, 110, 111, 112, 113, 114, 115, 116, 117, 118, 119, 120, 121, 122, 123, 124, 125, 126, 127, 128, 129, 130, 131, 132, 133, 134, 135, 136, 137, 138, 139, 140, 141, 142, 143, 144, 145, 146, 147, 148, 213, 214, 215, 216, 217, 218, 219, 220, 221, 222, 223, 224, 225, 226, 227, 228, 229, 230, 231, 232, 233, 234, 235, 236, 237, 238, 239, 240, 241, 242, 243, 244] (by decide +kernel) (by decide +kernel)) (goodIn_sub (fun _ h => List.mem_cons_of_mem _ (List.mem_append_right _ h)) (by decide +kernel))) (goodIn_sub (fun _ h => List.mem_cons_of_mem _ (List.mem_append_left _ (List.mem_append_right _ h))) (by decide +kernel))
set_option maxRecDepth 20000 in
theorem gL_mends_L_tryMend : GoodIn wsL_mends (va_wsS RL 190 yL_tryMend wsL_tryMend) := goodIn_app (goodIn_of _ (by decide +kernel)) ggL_mends_L_tryMend
set_option maxRecDepth 20000 in
theorem ggL_mends_L_low : GoodIn wsL_mends wsL_low := goodIn_r _ [151, 152] (by decide +kernel) (by decide +kernel)
set_option maxRecDepth 20000 in
theorem gL_mends_L_low : GoodIn wsL_mends (va_wsS RL 166 yL_low wsL_low) := goodIn_app (goodIn_of _ (by decide +kernel)) ggL_mends_L_low
set_option maxRecDepth 20000 in
theorem ggL_mends_X10_changesByTable : GoodIn wsL_mends wsX10_changesByTable := goodIn_ca (goodIn_r _ [156, 37, 6, 39, 40, 41, 4, 42, 11, 12, 7, 8, 9, 10, 13, 14, 15, 16, 17, 18, 19, 20, 21, 22, 23, 24, 43, 44, 45, 46, 47, 48, 49, 50, 51, 52, 53, 54, 55, 56, 57, 58, 59, 60, 61, 62, 63, 64, 65, 66, 67, 68, 69, 70, 71, 72, 73, 74, 75, 76, 77, 78, 79, 80, 81, 82, 83, 84, 85, 213, 214, 215, 216, 217, 218, 219, 220, 221, 222, 223, 224, 225, 226, 227, 228, 229, 230, 231, 232, 233, 234, 235, 236, 237, 238, 239] (by decide +kernel) (by decide +kernel)) (goodIn_sub (fun _ h => List.mem_cons_of_mem _ (List.mem_append_left _ (List.mem_append_right _ h))) (by decide +kernel))
set_option maxRecDepth 20000 in
theorem gL_mends_X10_changesByTable : GoodIn wsL_mends (wsV RL 39 RX10 yX10_changesByTable wsX10_changesByTable) := goodIn_app (goodIn_of _ (by decide +kernel)) ggL_mends_X10_changesByTable
set_option maxRecDepth 20000 in
theorem ggL_mends_X10_wordsOf : GoodIn wsL_mends wsX10_wordsOf := goodIn_ca (goodIn_r _ [160, 6, 7, 8, 9, 4, 10, 11, 12, 13, 14, 15, 16, 17, 18, 19, 20, 21, 22, 23, 24, 213, 214, 215, 216, 217, 218, 219, 220, 221, 222, 223, 224, 225, 226, 227, 228, 229, 230, 231] (by decide +kernel) (by decide +kernel)) (goodIn_sub (fun _ h => List.mem_cons_of_mem _ (List.mem_append_left _ (List.mem_append_right _ h))) (by decide +kernel))
set_option maxRecDepth 20000 in
theorem gL_mends_X10_wordsOf : GoodIn wsL_mends (wsV RL 60 RX10 yX10_wordsOf wsX10_wordsOf) := goodIn_app (goodIn_of _ (by decide +kernel)) ggL_mends_X10_wordsOf
set_option maxRecDepth 20000 in
theorem ggL_mends_X10_lengthOf : GoodIn wsL_mends wsX10_lengthOf := goodIn_ca (goodIn_r _ [164, 6, 39, 40, 41, 4, 42, 11, 12, 7, 8, 9, 10, 13, 14, 15, 16, 17, 18, 19, 20, 21, 22, 23, 24, 165, 51, 52, 53, 54, 55, 213, 214, 215, 216, 217, 218, 219, 220, 221, 222, 223, 224, 225, 226, 227, 228, 229, 230, 231, 239] (by decide +kernel) (by decide +kernel)) (goodIn_sub (fun _ h => List.mem_cons_of_mem _ (List.mem_append_left _ (List.mem_append_right _ h))) (by decide +kernel))
set_option maxRecDepth 20000 in
theorem gL_mends_X10_lengthOf : GoodIn wsL_mends (wsV RL 36 RX10 yX10_lengthOf wsX10_lengthOf) := goodIn_app (goodIn_of _ (by decide +kernel)) ggL_mends_X10_lengthOf
set_option maxRecDepth 20000 in
theorem ggL_mends_X10_passageLength : GoodIn wsL_mends wsX10_passageLength := goodIn_ca (goodIn_r _ [169, 37, 6, 39, 40, 41, 4, 42, 11, 12, 7, 8, 9, 10, 13, 14, 15, 16, 17, 18, 19, 20, 21, 22, 23, 24, 43, 44, 45, 46, 47, 48, 49, 50, 51, 52, 53, 54, 55, 56, 57, 58, 59, 60, 61, 62, 63, 64, 65, 66, 67, 68, 69, 70, 71, 72, 73, 74, 75, 76, 77, 78, 79, 80, 81, 82, 83, 84, 85, 213, 214, 215, 216, 217, 218, 219, 232, 233, 234, 235, 236, 237, 238, 220, 221, 222, 223, 224, 225, 226, 227, 228, 229, 230, 231, 239] (by decide +kernel) (by decide +kernel)) (goodIn_sub (fun _ h => List.mem_cons_of_mem _ (List.mem_append_left _ (List.mem_append_right _ h))) (by decide +kernel))
set_option maxRecDepth 20000 in
theorem gL_mends_X10_passageLength : GoodIn wsL_mends (wsV RL 45 RX10 yX10_passageLength wsX10_passageLength) := goodIn_app (goodIn_of _ (by decide +kernel)) ggL_mends_X10_passageLength
set_option maxRecDepth 20000 in
theorem ggL_mends_L_tale : GoodIn wsL_mends wsL_tale := goodIn_ca (goodIn_r _ [172, 173, 174, 175, 176, 4, 177, 6, 178, 179, 180, 181, 182, 183, 184, 185, 7, 8, 9, 10, 11, 12, 13, 14, 15, 16, 17, 18, 19, 20, 21, 22, 23, 24, 186, 187, 188, 189, 157, 158, 159, 160, 190, 191, 192, 193, 194, 195, 196, 197, 198, 199, 200, 201, 68, 69, 53, 70, 55, 202, 203, 204, 1, 2, 3, 5, 205, 206, 207, 208, 39, 40, 41, 42, 165, 51, 52, 54, 209, 210, 211, 212, 161, 162, 163, 164, 213, 214, 215, 216, 217, 218, 219, 228, 229, 230, 231, 220, 221, 222, 223, 224, 225, 226, 227, 239] (by decide +kernel) (by decide +kernel)) (goodIn_sub (fun _ h => List.mem_cons_of_mem _ (List.mem_append_left _ (List.mem_append_right _ h))) (by decide +kernel))
set_option maxRecDepth 20000 in
theorem gL_mends_L_tale : GoodIn wsL_mends (va_wsS RL 193 yL_tale wsL_tale) := goodIn_app (goodIn_of _ (by decide +kernel)) ggL_mends_L_tale
theorem dL_mends_0 : decode cL_mends 0 = .ok (.aload_n 0, 1) := by decide +kernel
theorem dL_mends_1 : decode cL_mends 1 = .ok (.iload_n 1, 1) := by decide +kernel
theorem dL_mends_2 : decode cL_mends 2 = .ok (.invokevirtual 82, 3) := by decide +kernel
theorem dL_mends_5 : decode cL_mends 5 = .ok (.istore_n 3, 1) := by decide +kernel
theorem dL_mends_6 : decode cL_mends 6 = .ok (.iload_n 3, 1) := by decide +kernel
theorem dL_mends_7 : decode cL_mends 7 = .ok (.ifCond .ne 21, 3) := by decide +kernel
theorem dL_mends_10 : decode cL_mends 10 = .ok (.aload_n 0, 1) := by decide +kernel
theorem dL_mends_11 : decode cL_mends 11 = .ok (.iload_n 1, 1) := by decide +kernel
theorem dL_mends_12 : decode cL_mends 12 = .ok (.iconst 0, 1) := by decide +kernel
theorem dL_mends_13 : decode cL_mends 13 = .ok (.invokestatic 190, 3) := by decide +kernel
theorem dL_mends_16 : decode cL_mends 16 = .ok (.sipush (-7003), 3) := by decide +kernel
theorem dL_mends_19 : decode cL_mends 19 = .ok (.if_icmp .ne 7, 3) := by decide +kernel
theorem dL_mends_22 : decode cL_mends 22 = .ok (.iconst 1, 1) := by decide +kernel
theorem dL_mends_23 : decode cL_mends 23 = .ok (.goto 4, 3) := by decide +kernel
theorem dL_mends_26 : decode cL_mends 26 = .ok (.iconst 0, 1) := by decide +kernel
theorem dL_mends_27 : decode cL_mends 27 = .ok (.ireturn, 1) := by decide +kernel
theorem dL_mends_28 : decode cL_mends 28 = .ok (.iload_n 2, 1) := by decide +kernel
theorem dL_mends_29 : decode cL_mends 29 = .ok (.iload_n 3, 1) := by decide +kernel
theorem dL_mends_30 : decode cL_mends 30 = .ok (.invokestatic 166, 3) := by decide +kernel
theorem dL_mends_33 : decode cL_mends 33 = .ok (.istore 4, 2) := by decide +kernel
theorem dL_mends_35 : decode cL_mends 35 = .ok (.aload_n 0, 1) := by decide +kernel
theorem dL_mends_36 : decode cL_mends 36 = .ok (.iload_n 1, 1) := by decide +kernel
theorem dL_mends_37 : decode cL_mends 37 = .ok (.iload 4, 2) := by decide +kernel
theorem dL_mends_39 : decode cL_mends 39 = .ok (.invokevirtual 39, 3) := by decide +kernel
theorem dL_mends_42 : decode cL_mends 42 = .ok (.istore 5, 2) := by decide +kernel
theorem dL_mends_44 : decode cL_mends 44 = .ok (.aload_n 0, 1) := by decide +kernel
theorem dL_mends_45 : decode cL_mends 45 = .ok (.iload_n 1, 1) := by decide +kernel
theorem dL_mends_46 : decode cL_mends 46 = .ok (.invokevirtual 60, 3) := by decide +kernel
theorem dL_mends_49 : decode cL_mends 49 = .ok (.aload_n 0, 1) := by decide +kernel
theorem dL_mends_50 : decode cL_mends 50 = .ok (.iload_n 1, 1) := by decide +kernel
theorem dL_mends_51 : decode cL_mends 51 = .ok (.iload 4, 2) := by decide +kernel
theorem dL_mends_53 : decode cL_mends 53 = .ok (.invokevirtual 36, 3) := by decide +kernel
theorem dL_mends_56 : decode cL_mends 56 = .ok (.isub, 1) := by decide +kernel
theorem dL_mends_57 : decode cL_mends 57 = .ok (.aload_n 0, 1) := by decide +kernel
theorem dL_mends_58 : decode cL_mends 58 = .ok (.iload_n 1, 1) := by decide +kernel
theorem dL_mends_59 : decode cL_mends 59 = .ok (.iload 4, 2) := by decide +kernel
theorem dL_mends_61 : decode cL_mends 61 = .ok (.invokevirtual 45, 3) := by decide +kernel
theorem dL_mends_64 : decode cL_mends 64 = .ok (.iadd, 1) := by decide +kernel
theorem dL_mends_65 : decode cL_mends 65 = .ok (.istore 6, 2) := by decide +kernel
theorem dL_mends_67 : decode cL_mends 67 = .ok (.aload_n 0, 1) := by decide +kernel
theorem dL_mends_68 : decode cL_mends 68 = .ok (.invokestatic 193, 3) := by decide +kernel
theorem dL_mends_71 : decode cL_mends 71 = .ok (.lstore 7, 2) := by decide +kernel
theorem dL_mends_73 : decode cL_mends 73 = .ok (.aload_n 0, 1) := by decide +kernel
theorem dL_mends_74 : decode cL_mends 74 = .ok (.iload_n 1, 1) := by decide +kernel
theorem dL_mends_75 : decode cL_mends 75 = .ok (.iload 4, 2) := by decide +kernel
theorem dL_mends_77 : decode cL_mends 77 = .ok (.invokestatic 190, 3) := by decide +kernel
theorem dL_mends_80 : decode cL_mends 80 = .ok (.istore 9, 2) := by decide +kernel
theorem dL_mends_82 : decode cL_mends 82 = .ok (.iload 5, 2) := by decide +kernel
theorem dL_mends_84 : decode cL_mends 84 = .ok (.ifCond .eq 10, 3) := by decide +kernel
theorem dL_mends_87 : decode cL_mends 87 = .ok (.iload 6, 2) := by decide +kernel
theorem dL_mends_89 : decode cL_mends 89 = .ok (.bipush 60, 2) := by decide +kernel
theorem dL_mends_91 : decode cL_mends 91 = .ok (.if_icmp .le 27, 3) := by decide +kernel
theorem dL_mends_94 : decode cL_mends 94 = .ok (.iload 9, 2) := by decide +kernel
theorem dL_mends_96 : decode cL_mends 96 = .ok (.sipush (-7002), 3) := by decide +kernel
theorem dL_mends_99 : decode cL_mends 99 = .ok (.if_icmp .ne 17, 3) := by decide +kernel
theorem dL_mends_102 : decode cL_mends 102 = .ok (.aload_n 0, 1) := by decide +kernel
theorem dL_mends_103 : decode cL_mends 103 = .ok (.invokestatic 193, 3) := by decide +kernel
theorem dL_mends_106 : decode cL_mends 106 = .ok (.lload 7, 2) := by decide +kernel
theorem dL_mends_108 : decode cL_mends 108 = .ok (.lcmp, 1) := by decide +kernel
theorem dL_mends_109 : decode cL_mends 109 = .ok (.ifCond .ne 7, 3) := by decide +kernel
theorem dL_mends_112 : decode cL_mends 112 = .ok (.iconst 1, 1) := by decide +kernel
theorem dL_mends_113 : decode cL_mends 113 = .ok (.goto 4, 3) := by decide +kernel
theorem dL_mends_116 : decode cL_mends 116 = .ok (.iconst 0, 1) := by decide +kernel
theorem dL_mends_117 : decode cL_mends 117 = .ok (.ireturn, 1) := by decide +kernel
theorem dL_mends_118 : decode cL_mends 118 = .ok (.iload 9, 2) := by decide +kernel
theorem dL_mends_120 : decode cL_mends 120 = .ok (.iload 5, 2) := by decide +kernel
theorem dL_mends_122 : decode cL_mends 122 = .ok (.if_icmp .ne 27, 3) := by decide +kernel
theorem dL_mends_125 : decode cL_mends 125 = .ok (.aload_n 0, 1) := by decide +kernel
theorem dL_mends_126 : decode cL_mends 126 = .ok (.iload_n 1, 1) := by decide +kernel
theorem dL_mends_127 : decode cL_mends 127 = .ok (.iload 4, 2) := by decide +kernel
theorem dL_mends_129 : decode cL_mends 129 = .ok (.invokevirtual 39, 3) := by decide +kernel
theorem dL_mends_132 : decode cL_mends 132 = .ok (.ifCond .ne 17, 3) := by decide +kernel
theorem dL_mends_135 : decode cL_mends 135 = .ok (.aload_n 0, 1) := by decide +kernel
theorem dL_mends_136 : decode cL_mends 136 = .ok (.iload_n 1, 1) := by decide +kernel
theorem dL_mends_137 : decode cL_mends 137 = .ok (.invokevirtual 60, 3) := by decide +kernel
theorem dL_mends_140 : decode cL_mends 140 = .ok (.iload 6, 2) := by decide +kernel
theorem dL_mends_142 : decode cL_mends 142 = .ok (.if_icmp .ne 7, 3) := by decide +kernel
theorem dL_mends_145 : decode cL_mends 145 = .ok (.iconst 1, 1) := by decide +kernel
theorem dL_mends_146 : decode cL_mends 146 = .ok (.goto 4, 3) := by decide +kernel
theorem dL_mends_149 : decode cL_mends 149 = .ok (.iconst 0, 1) := by decide +kernel
theorem dL_mends_150 : decode cL_mends 150 = .ok (.ireturn, 1) := by decide +kernel
set_option maxRecDepth 20000 in
theorem ggL_mendsAll_X10_pamphlets : GoodIn wsL_mendsAll wsX10_pamphlets := goodIn_r _ [5, 6, 157, 158, 159, 160, 161, 162, 163, 164, 165, 166, 167] (by decide +kernel) (by decide +kernel)
set_option maxRecDepth 20000 in
theorem gL_mendsAll_X10_pamphlets : GoodIn wsL_mendsAll (wsV RL 79 RX10 yX10_pamphlets wsX10_pamphlets) := goodIn_app (goodIn_of _ (by decide +kernel)) ggL_mendsAll_X10_pamphlets
set_option maxRecDepth 20000 in
theorem ggL_mendsAll_X10_wordsOf : GoodIn wsL_mendsAll wsX10_wordsOf := goodIn_ca (goodIn_r _ [10, 6, 11, 12, 13, 4, 14, 15, 16, 17, 18, 19, 20, 21, 22, 23, 24, 25, 26, 27, 28, 157, 158, 159, 160, 161, 162, 163, 168, 169, 170, 171, 172, 173, 174, 175, 164, 165, 166, 167] (by decide +kernel) (by decide +kernel)) (goodIn_sub (fun _ h => List.mem_cons_of_mem _ (List.mem_append_right _ h)) (by decide +kernel))
set_option maxRecDepth 20000 in
theorem gL_mendsAll_X10_wordsOf : GoodIn wsL_mendsAll (wsV RL 60 RX10 yX10_wordsOf wsX10_wordsOf) := goodIn_app (goodIn_of _ (by decide +kernel)) ggL_mendsAll_X10_wordsOf
set_option maxRecDepth 20000 in
theorem ggL_mendsAll_X10_mendAll : GoodIn wsL_mendsAll wsX10_mendAll := goodIn_r _ [32, 33, 6, 34, 35, 36, 37, 38, 39, 40, 41, 42, 43, 44, 45, 46, 47, 48, 49, 20, 50, 22, 51, 52, 24, 25, 26, 27, 28, 53, 54, 55, 56, 57, 58, 59, 60, 61, 62, 63, 64, 65, 66, 67, 68, 69, 70, 71, 72, 73, 74, 75, 76, 77, 78, 79, 80, 81, 82, 83, 84, 85, 86, 87, 88, 89, 90, 91, 92, 93, 94, 95, 96, 97, 98, 99, 100, 101, 102, 103, 104, 105, 106, 107, 108, 109, 110, 111, 112, 113, 114, 115, 116, 117, 118, 119, 120, 121, 122, 123, 124, 125, 126, 127, 128, 129, 130, 131, 132, 133, 134, 135, 136, 137, 138, 139, 140, 141, 142, 143, 144, 157, 158, 159, 160, 161, 162, 163, 164, 165, 166, 167, 176, 177, 178, 179, 180, 168, 169, 170, 171, 172, 173, 174, 175, 181, 182, 183, 184, 185, 186, 187, 188] (by decide +kernel) (by decide +kernel)
set_option maxRecDepth 20000 in
theorem gL_mendsAll_X10_mendAll : GoodIn wsL_mendsAll (wsV RL 197 RX10 yX10_mendAll wsX10_mendAll) := goodIn_app (goodIn_of _ (by decide +kernel)) ggL_mendsAll_X10_mendAll
set_option maxRecDepth 20000 in
theorem ggL_mendsAll_X10_blameByAuthors : GoodIn wsL_mendsAll wsX10_blameByAuthors := goodIn_r _ [148, 34, 6, 149, 150, 151, 79, 152, 81, 24, 25, 20, 26, 27, 28, 153, 154, 155, 156, 87, 88, 89, 69, 90, 71, 82, 83, 84, 85, 86, 91, 92, 93, 94, 95, 96, 97, 98, 99, 100, 101, 102, 103, 104, 105, 106, 107, 108, 109, 110, 111, 112, 113, 114, 115, 116, 117, 118, 119, 120, 157, 158, 159, 160, 161, 162, 163, 164, 165, 166, 167, 168, 169, 170, 171, 172, 173, 174, 175, 181, 182, 183, 184, 185, 186, 187, 188] (by decide +kernel) (by decide +kernel)
set_option maxRecDepth 20000 in
theorem gL_mendsAll_X10_blameByAuthors : GoodIn wsL_mendsAll (wsV RL 122 RX10 yX10_blameByAuthors wsX10_blameByAuthors) := goodIn_app (goodIn_of _ (by decide +kernel)) ggL_mendsAll_X10_blameByAuthors
theorem dL_mendsAll_0 : decode cL_mendsAll 0 = .ok (.iconst 1, 1) := by decide +kernel
theorem dL_mendsAll_1 : decode cL_mendsAll 1 = .ok (.istore_n 1, 1) := by decide +kernel
theorem dL_mendsAll_2 : decode cL_mendsAll 2 = .ok (.iconst 0, 1) := by decide +kernel
theorem dL_mendsAll_3 : decode cL_mendsAll 3 = .ok (.istore_n 2, 1) := by decide +kernel
theorem dL_mendsAll_4 : decode cL_mendsAll 4 = .ok (.iload_n 2, 1) := by decide +kernel
theorem dL_mendsAll_5 : decode cL_mendsAll 5 = .ok (.aload_n 0, 1) := by decide +kernel
theorem dL_mendsAll_6 : decode cL_mendsAll 6 = .ok (.invokevirtual 79, 3) := by decide +kernel
theorem dL_mendsAll_9 : decode cL_mendsAll 9 = .ok (.if_icmp .ge 29, 3) := by decide +kernel
theorem dL_mendsAll_12 : decode cL_mendsAll 12 = .ok (.iload_n 1, 1) := by decide +kernel
theorem dL_mendsAll_13 : decode cL_mendsAll 13 = .ok (.ifCond .eq 17, 3) := by decide +kernel
theorem dL_mendsAll_16 : decode cL_mendsAll 16 = .ok (.aload_n 0, 1) := by decide +kernel
theorem dL_mendsAll_17 : decode cL_mendsAll 17 = .ok (.iload_n 2, 1) := by decide +kernel
theorem dL_mendsAll_18 : decode cL_mendsAll 18 = .ok (.invokevirtual 60, 3) := by decide +kernel
theorem dL_mendsAll_21 : decode cL_mendsAll 21 = .ok (.bipush 30, 2) := by decide +kernel
theorem dL_mendsAll_23 : decode cL_mendsAll 23 = .ok (.if_icmp .ge 7, 3) := by decide +kernel
theorem dL_mendsAll_26 : decode cL_mendsAll 26 = .ok (.iconst 1, 1) := by decide +kernel
theorem dL_mendsAll_27 : decode cL_mendsAll 27 = .ok (.goto 4, 3) := by decide +kernel
theorem dL_mendsAll_30 : decode cL_mendsAll 30 = .ok (.iconst 0, 1) := by decide +kernel
theorem dL_mendsAll_31 : decode cL_mendsAll 31 = .ok (.istore_n 1, 1) := by decide +kernel
theorem dL_mendsAll_32 : decode cL_mendsAll 32 = .ok (.iinc 2 1, 3) := by decide +kernel
theorem dL_mendsAll_35 : decode cL_mendsAll 35 = .ok (.goto (-31), 3) := by decide +kernel
theorem dL_mendsAll_38 : decode cL_mendsAll 38 = .ok (.aload_n 0, 1) := by decide +kernel
theorem dL_mendsAll_39 : decode cL_mendsAll 39 = .ok (.invokevirtual 197, 3) := by decide +kernel
theorem dL_mendsAll_42 : decode cL_mendsAll 42 = .ok (.istore_n 2, 1) := by decide +kernel
theorem dL_mendsAll_43 : decode cL_mendsAll 43 = .ok (.iload_n 2, 1) := by decide +kernel
theorem dL_mendsAll_44 : decode cL_mendsAll 44 = .ok (.ifCond .lt 38, 3) := by decide +kernel
theorem dL_mendsAll_47 : decode cL_mendsAll 47 = .ok (.iload_n 1, 1) := by decide +kernel
theorem dL_mendsAll_48 : decode cL_mendsAll 48 = .ok (.ifCond .eq 16, 3) := by decide +kernel
theorem dL_mendsAll_51 : decode cL_mendsAll 51 = .ok (.aload_n 0, 1) := by decide +kernel
theorem dL_mendsAll_52 : decode cL_mendsAll 52 = .ok (.invokevirtual 122, 3) := by decide +kernel
theorem dL_mendsAll_55 : decode cL_mendsAll 55 = .ok (.ifCond .eq 9, 3) := by decide +kernel
theorem dL_mendsAll_58 : decode cL_mendsAll 58 = .ok (.iload_n 2, 1) := by decide +kernel
theorem dL_mendsAll_59 : decode cL_mendsAll 59 = .ok (.bipush 9, 2) := by decide +kernel
theorem dL_mendsAll_61 : decode cL_mendsAll 61 = .ok (.if_icmp .le 21, 3) := by decide +kernel
theorem dL_mendsAll_64 : decode cL_mendsAll 64 = .ok (.aload_n 0, 1) := by decide +kernel
theorem dL_mendsAll_65 : decode cL_mendsAll 65 = .ok (.invokevirtual 122, 3) := by decide +kernel
theorem dL_mendsAll_68 : decode cL_mendsAll 68 = .ok (.ifCond .gt 10, 3) := by decide +kernel
theorem dL_mendsAll_71 : decode cL_mendsAll 71 = .ok (.aload_n 0, 1) := by decide +kernel
theorem dL_mendsAll_72 : decode cL_mendsAll 72 = .ok (.invokevirtual 197, 3) := by decide +kernel
theorem dL_mendsAll_75 : decode cL_mendsAll 75 = .ok (.ifCond .ne 7, 3) := by decide +kernel
theorem dL_mendsAll_78 : decode cL_mendsAll 78 = .ok (.iconst 1, 1) := by decide +kernel
theorem dL_mendsAll_79 : decode cL_mendsAll 79 = .ok (.goto 4, 3) := by decide +kernel
theorem dL_mendsAll_82 : decode cL_mendsAll 82 = .ok (.iconst 0, 1) := by decide +kernel
theorem dL_mendsAll_83 : decode cL_mendsAll 83 = .ok (.ireturn, 1) := by decide +kernel
set_option maxRecDepth 20000 in
theorem ggL_returns_L_tale : GoodIn wsL_returns wsL_tale := goodIn_ca (goodIn_r _ [4, 5, 6, 7, 8, 9, 10, 11, 12, 13, 14, 15, 16, 17, 18, 19, 20, 21, 22, 23, 24, 25, 26, 27, 28, 29, 30, 31, 32, 33, 34, 35, 36, 37, 38, 39, 40, 41, 42, 43, 44, 45, 46, 47, 48, 49, 50, 51, 52, 53, 54, 55, 56, 57, 58, 59, 60, 61, 62, 63, 64, 65, 66, 67, 68, 69, 70, 71, 72, 73, 74, 75, 76, 77, 78, 79, 80, 81, 82, 83, 84, 85, 86, 87, 88, 89, 227, 228, 229, 230, 231, 232, 233, 234, 235, 236, 237, 238, 239, 240, 241, 242, 243, 244, 245, 246] (by decide +kernel) (by decide +kernel)) (goodIn_sub (fun _ h => List.mem_cons_of_mem _ (List.mem_append_left _ (List.mem_append_left _ (List.mem_append_right _ h)))) (by decide +kernel))
set_option maxRecDepth 20000 in
theorem gL_returns_L_tale : GoodIn wsL_returns (va_wsS RL 193 yL_tale wsL_tale) := goodIn_app (goodIn_of _ (by decide +kernel)) ggL_returns_L_tale
set_option maxRecDepth 20000 in
theorem ggL_returns_X10_takeSnapshot : GoodIn wsL_returns wsX10_takeSnapshot := goodIn_r _ [93, 94, 11, 95, 96, 97, 29, 98, 31, 99, 100, 33, 34, 35, 36, 37, 101, 102, 103, 104, 105, 106, 107, 108, 109, 110, 111, 112, 113, 114, 115, 116, 60, 117, 62, 118, 119, 120, 121, 227, 228, 229, 230, 231, 232, 233, 247, 248, 249, 250, 251, 234, 235, 236, 237, 238, 239, 240, 241, 242, 243, 244, 245, 246] (by decide +kernel) (by decide +kernel)
set_option maxRecDepth 20000 in
theorem gL_returns_X10_takeSnapshot : GoodIn wsL_returns (wsV RL 200 RX10 yX10_takeSnapshot wsX10_takeSnapshot) := goodIn_app (goodIn_of _ (by decide +kernel)) ggL_returns_X10_takeSnapshot
set_option maxRecDepth 20000 in
theorem ggL_returns_X10_savedStates : GoodIn wsL_returns wsX10_savedStates := goodIn_r _ [125, 94, 227, 228, 229, 230, 231, 232, 233, 247, 248, 249, 250, 251] (by decide +kernel) (by decide +kernel)
set_option maxRecDepth 20000 in
theorem gL_returns_X10_savedStates : GoodIn wsL_returns (wsV RL 203 RX10 yX10_savedStates wsX10_savedStates) := goodIn_app (goodIn_of _ (by decide +kernel)) ggL_returns_X10_savedStates
set_option maxRecDepth 20000 in
theorem ggL_returns_X10_day : GoodIn wsL_returns wsX10_day := goodIn_r _ [10, 11, 227, 228, 229, 230, 231, 232, 233, 234, 235, 236, 237] (by decide +kernel) (by decide +kernel)
set_option maxRecDepth 20000 in
theorem gL_returns_X10_day : GoodIn wsL_returns (wsV RL 104 RX10 yX10_day wsX10_day) := goodIn_app (goodIn_of _ (by decide +kernel)) ggL_returns_X10_day
set_option maxRecDepth 20000 in
theorem ggL_returns_X10_pamphlets : GoodIn wsL_returns wsX10_pamphlets := goodIn_r _ [15, 11, 227, 228, 229, 230, 231, 232, 233, 234, 235, 236, 237] (by decide +kernel) (by decide +kernel)
set_option maxRecDepth 20000 in
theorem gL_returns_X10_pamphlets : GoodIn wsL_returns (wsV RL 79 RX10 yX10_pamphlets wsX10_pamphlets) := goodIn_app (goodIn_of _ (by decide +kernel)) ggL_returns_X10_pamphlets
set_option maxRecDepth 20000 in
theorem ggL_returns_X10_pass : GoodIn wsL_returns wsX10_pass := goodIn_ca (goodIn_r _ [129, 130, 131, 94, 11, 132, 133, 134, 135, 136, 137, 138, 139, 140, 141, 142, 143, 144, 96, 97, 29, 98, 31, 99, 100, 33, 34, 35, 36, 37, 101, 102, 103, 104, 105, 106, 107, 108, 109, 110, 111, 112, 113, 114, 115, 116, 60, 117, 62, 118, 119, 120, 121, 227, 228, 229, 230, 231, 232, 233, 234, 235, 236, 237, 247, 248, 249, 250, 251, 238, 239, 240, 241, 242, 243, 244, 245, 246] (by decide +kernel) (by decide +kernel)) (goodIn_sub (fun _ h => List.mem_cons_of_mem _ (List.mem_append_left _ (List.mem_append_right _ h))) (by decide +kernel))
set_option maxRecDepth 20000 in
theorem gL_returns_X10_pass : GoodIn wsL_returns (wsV RL 206 RX10 yX10_pass wsX10_pass) := goodIn_app (goodIn_of _ (by decide +kernel)) ggL_returns_X10_pass
set_option maxRecDepth 20000 in
theorem ggL_returns_X10_mendAll : GoodIn wsL_returns wsX10_mendAll := goodIn_r _ [148, 94, 11, 149, 132, 133, 134, 135, 136, 137, 138, 139, 140, 141, 142, 143, 144, 96, 97, 29, 98, 31, 99, 100, 33, 34, 35, 36, 37, 101, 102, 103, 104, 105, 106, 107, 108, 109, 110, 111, 112, 113, 114, 115, 116, 60, 117, 62, 118, 119, 120, 121, 150, 151, 152, 153, 154, 155, 156, 157, 158, 159, 160, 161, 79, 80, 81, 162, 163, 164, 165, 166, 167, 168, 169, 170, 171, 172, 173, 58, 59, 61, 174, 175, 176, 177, 178, 179, 180, 181, 182, 183, 184, 185, 186, 187, 188, 189, 190, 191, 192, 193, 194, 195, 196, 197, 198, 199, 200, 201, 202, 203, 204, 205, 206, 207, 208, 209, 210, 211, 212, 227, 228, 229, 230, 231, 232, 233, 234, 235, 236, 237, 247, 248, 249, 250, 251, 238, 239, 240, 241, 242, 243, 244, 245, 246, 252, 253, 254, 255, 256, 257, 258] (by decide +kernel) (by decide +kernel)
set_option maxRecDepth 20000 in
theorem gL_returns_X10_mendAll : GoodIn wsL_returns (wsV RL 197 RX10 yX10_mendAll wsX10_mendAll) := goodIn_app (goodIn_of _ (by decide +kernel)) ggL_returns_X10_mendAll
set_option maxRecDepth 20000 in
theorem ggL_returns_X10_restoreSnapshot : GoodIn wsL_returns wsX10_restoreSnapshot := goodIn_ca (goodIn_r _ [216, 217, 218, 94, 11, 132, 133, 134, 135, 136, 137, 138, 139, 140, 141, 142, 143, 144, 96, 97, 29, 98, 31, 99, 100, 33, 34, 35, 36, 37, 101, 102, 103, 104, 105, 106, 107, 108, 109, 110, 111, 112, 113, 114, 115, 116, 60, 117, 62, 118, 119, 120, 121, 95, 227, 228, 229, 230, 231, 232, 233, 247, 248, 249, 250, 251, 234, 235, 236, 237, 238, 239, 240, 241, 242, 243, 244, 245, 246] (by decide +kernel) (by decide +kernel)) (goodIn_sub (fun _ h => List.mem_cons_of_mem _ (List.mem_append_right _ h)) (by decide +kernel))
set_option maxRecDepth 20000 in
theorem gL_returns_X10_restoreSnapshot : GoodIn wsL_returns (wsV RL 209 RX10 yX10_restoreSnapshot wsX10_restoreSnapshot) := goodIn_app (goodIn_of _ (by decide +kernel)) ggL_returns_X10_restoreSnapshot
set_option maxRecDepth 20000 in
theorem ggL_returns_X10_undo : GoodIn wsL_returns wsX10_undo := goodIn_ca (goodIn_r _ [222, 217, 218, 94, 11, 223, 224, 225, 135, 226, 137, 139, 140, 141, 142, 138, 143, 144, 96, 97, 29, 98, 31, 99, 100, 33, 34, 35, 36, 37, 101, 102, 103, 104, 105, 106, 107, 108, 109, 110, 111, 112, 113, 114, 115, 116, 60, 117, 62, 118, 119, 120, 121, 227, 228, 229, 230, 231, 232, 233, 247, 248, 249, 250, 251, 234, 235, 236, 237, 238, 239, 240, 241, 242, 243, 244, 245, 246] (by decide +kernel) (by decide +kernel)) (goodIn_sub (fun _ h => List.mem_cons_of_mem _ (List.mem_append_right _ h)) (by decide +kernel))
set_option maxRecDepth 20000 in
theorem gL_returns_X10_undo : GoodIn wsL_returns (wsV RL 212 RX10 yX10_undo wsX10_undo) := goodIn_app (goodIn_of _ (by decide +kernel)) ggL_returns_X10_undo
theorem dL_returns_0 : decode cL_returns 0 = .ok (.aload_n 0, 1) := by decide +kernel
theorem dL_returns_1 : decode cL_returns 1 = .ok (.invokestatic 193, 3) := by decide +kernel
theorem dL_returns_4 : decode cL_returns 4 = .ok (.lstore_n 1, 1) := by decide +kernel
theorem dL_returns_5 : decode cL_returns 5 = .ok (.aload_n 0, 1) := by decide +kernel
theorem dL_returns_6 : decode cL_returns 6 = .ok (.invokevirtual 200, 3) := by decide +kernel
theorem dL_returns_9 : decode cL_returns 9 = .ok (.istore_n 3, 1) := by decide +kernel
theorem dL_returns_10 : decode cL_returns 10 = .ok (.aload_n 0, 1) := by decide +kernel
theorem dL_returns_11 : decode cL_returns 11 = .ok (.invokevirtual 203, 3) := by decide +kernel
theorem dL_returns_14 : decode cL_returns 14 = .ok (.istore 4, 2) := by decide +kernel
theorem dL_returns_16 : decode cL_returns 16 = .ok (.aload_n 0, 1) := by decide +kernel
theorem dL_returns_17 : decode cL_returns 17 = .ok (.invokevirtual 104, 3) := by decide +kernel
theorem dL_returns_20 : decode cL_returns 20 = .ok (.istore 5, 2) := by decide +kernel
theorem dL_returns_22 : decode cL_returns 22 = .ok (.iload_n 3, 1) := by decide +kernel
theorem dL_returns_23 : decode cL_returns 23 = .ok (.aload_n 0, 1) := by decide +kernel
theorem dL_returns_24 : decode cL_returns 24 = .ok (.invokevirtual 79, 3) := by decide +kernel
theorem dL_returns_27 : decode cL_returns 27 = .ok (.if_icmp .ne 49, 3) := by decide +kernel
theorem dL_returns_30 : decode cL_returns 30 = .ok (.aload_n 0, 1) := by decide +kernel
theorem dL_returns_31 : decode cL_returns 31 = .ok (.iconst 3, 1) := by decide +kernel
theorem dL_returns_32 : decode cL_returns 32 = .ok (.invokevirtual 206, 3) := by decide +kernel
theorem dL_returns_35 : decode cL_returns 35 = .ok (.iload 5, 2) := by decide +kernel
theorem dL_returns_37 : decode cL_returns 37 = .ok (.iconst 3, 1) := by decide +kernel
theorem dL_returns_38 : decode cL_returns 38 = .ok (.iadd, 1) := by decide +kernel
theorem dL_returns_39 : decode cL_returns 39 = .ok (.if_icmp .ne 37, 3) := by decide +kernel
theorem dL_returns_42 : decode cL_returns 42 = .ok (.aload_n 0, 1) := by decide +kernel
theorem dL_returns_43 : decode cL_returns 43 = .ok (.invokevirtual 197, 3) := by decide +kernel
theorem dL_returns_46 : decode cL_returns 46 = .ok (.ifCond .lt 30, 3) := by decide +kernel
theorem dL_returns_49 : decode cL_returns 49 = .ok (.aload_n 0, 1) := by decide +kernel
theorem dL_returns_50 : decode cL_returns 50 = .ok (.invokevirtual 203, 3) := by decide +kernel
theorem dL_returns_53 : decode cL_returns 53 = .ok (.iload 4, 2) := by decide +kernel
theorem dL_returns_55 : decode cL_returns 55 = .ok (.iconst 2, 1) := by decide +kernel
theorem dL_returns_56 : decode cL_returns 56 = .ok (.iadd, 1) := by decide +kernel
theorem dL_returns_57 : decode cL_returns 57 = .ok (.iconst 5, 1) := by decide +kernel
theorem dL_returns_58 : decode cL_returns 58 = .ok (.if_icmp .le 7, 3) := by decide +kernel
theorem dL_returns_61 : decode cL_returns 61 = .ok (.iconst 5, 1) := by decide +kernel
theorem dL_returns_62 : decode cL_returns 62 = .ok (.goto 7, 3) := by decide +kernel
theorem dL_returns_65 : decode cL_returns 65 = .ok (.iload 4, 2) := by decide +kernel
theorem dL_returns_67 : decode cL_returns 67 = .ok (.iconst 2, 1) := by decide +kernel
theorem dL_returns_68 : decode cL_returns 68 = .ok (.iadd, 1) := by decide +kernel
theorem dL_returns_69 : decode cL_returns 69 = .ok (.if_icmp .ne 7, 3) := by decide +kernel
theorem dL_returns_72 : decode cL_returns 72 = .ok (.iconst 1, 1) := by decide +kernel
theorem dL_returns_73 : decode cL_returns 73 = .ok (.goto 4, 3) := by decide +kernel
theorem dL_returns_76 : decode cL_returns 76 = .ok (.iconst 0, 1) := by decide +kernel
theorem dL_returns_77 : decode cL_returns 77 = .ok (.istore 6, 2) := by decide +kernel
theorem dL_returns_79 : decode cL_returns 79 = .ok (.iload 6, 2) := by decide +kernel
theorem dL_returns_81 : decode cL_returns 81 = .ok (.ifCond .eq 56, 3) := by decide +kernel
theorem dL_returns_84 : decode cL_returns 84 = .ok (.aload_n 0, 1) := by decide +kernel
theorem dL_returns_85 : decode cL_returns 85 = .ok (.invokevirtual 209, 3) := by decide +kernel
theorem dL_returns_88 : decode cL_returns 88 = .ok (.iload_n 3, 1) := by decide +kernel
theorem dL_returns_89 : decode cL_returns 89 = .ok (.if_icmp .ne 48, 3) := by decide +kernel
theorem dL_returns_92 : decode cL_returns 92 = .ok (.aload_n 0, 1) := by decide +kernel
theorem dL_returns_93 : decode cL_returns 93 = .ok (.invokestatic 193, 3) := by decide +kernel
theorem dL_returns_96 : decode cL_returns 96 = .ok (.lload_n 1, 1) := by decide +kernel
theorem dL_returns_97 : decode cL_returns 97 = .ok (.lcmp, 1) := by decide +kernel
theorem dL_returns_98 : decode cL_returns 98 = .ok (.ifCond .ne 39, 3) := by decide +kernel
theorem dL_returns_101 : decode cL_returns 101 = .ok (.aload_n 0, 1) := by decide +kernel
theorem dL_returns_102 : decode cL_returns 102 = .ok (.invokevirtual 212, 3) := by decide +kernel
theorem dL_returns_105 : decode cL_returns 105 = .ok (.ifCond .lt 32, 3) := by decide +kernel
theorem dL_returns_108 : decode cL_returns 108 = .ok (.aload_n 0, 1) := by decide +kernel
theorem dL_returns_109 : decode cL_returns 109 = .ok (.invokevirtual 104, 3) := by decide +kernel
theorem dL_returns_112 : decode cL_returns 112 = .ok (.iload 5, 2) := by decide +kernel
theorem dL_returns_114 : decode cL_returns 114 = .ok (.iconst 3, 1) := by decide +kernel
theorem dL_returns_115 : decode cL_returns 115 = .ok (.iadd, 1) := by decide +kernel
theorem dL_returns_116 : decode cL_returns 116 = .ok (.if_icmp .ne 21, 3) := by decide +kernel
theorem dL_returns_119 : decode cL_returns 119 = .ok (.aload_n 0, 1) := by decide +kernel
theorem dL_returns_120 : decode cL_returns 120 = .ok (.invokevirtual 212, 3) := by decide +kernel
theorem dL_returns_123 : decode cL_returns 123 = .ok (.ifCond .lt 14, 3) := by decide +kernel
theorem dL_returns_126 : decode cL_returns 126 = .ok (.aload_n 0, 1) := by decide +kernel
theorem dL_returns_127 : decode cL_returns 127 = .ok (.invokevirtual 212, 3) := by decide +kernel
theorem dL_returns_130 : decode cL_returns 130 = .ok (.ifCond .lt 7, 3) := by decide +kernel
theorem dL_returns_133 : decode cL_returns 133 = .ok (.iconst 1, 1) := by decide +kernel
theorem dL_returns_134 : decode cL_returns 134 = .ok (.goto 4, 3) := by decide +kernel
theorem dL_returns_137 : decode cL_returns 137 = .ok (.iconst 0, 1) := by decide +kernel
theorem dL_returns_138 : decode cL_returns 138 = .ok (.istore 6, 2) := by decide +kernel
theorem dL_returns_140 : decode cL_returns 140 = .ok (.iload 6, 2) := by decide +kernel
theorem dL_returns_142 : decode cL_returns 142 = .ok (.ifCond .eq 16, 3) := by decide +kernel
theorem dL_returns_145 : decode cL_returns 145 = .ok (.aload_n 0, 1) := by decide +kernel
theorem dL_returns_146 : decode cL_returns 146 = .ok (.invokestatic 193, 3) := by decide +kernel
theorem dL_returns_149 : decode cL_returns 149 = .ok (.lload_n 1, 1) := by decide +kernel
theorem dL_returns_150 : decode cL_returns 150 = .ok (.lcmp, 1) := by decide +kernel
theorem dL_returns_151 : decode cL_returns 151 = .ok (.ifCond .ne 7, 3) := by decide +kernel
theorem dL_returns_154 : decode cL_returns 154 = .ok (.iconst 1, 1) := by decide +kernel
theorem dL_returns_155 : decode cL_returns 155 = .ok (.goto 4, 3) := by decide +kernel
theorem dL_returns_158 : decode cL_returns 158 = .ok (.iconst 0, 1) := by decide +kernel
theorem dL_returns_159 : decode cL_returns 159 = .ok (.ireturn, 1) := by decide +kernel
set_option maxRecDepth 20000 in
theorem ggL_act_L_low : GoodIn wsL_act wsL_low := goodIn_r _ [4, 5] (by decide +kernel) (by decide +kernel)
set_option maxRecDepth 20000 in
theorem gL_act_L_low : GoodIn wsL_act (va_wsS RL 166 yL_low wsL_low) := goodIn_app (goodIn_of _ (by decide +kernel)) ggL_act_L_low
set_option maxRecDepth 20000 in
theorem ggL_act_L_prints : GoodIn wsL_act wsL_prints := goodIn_ca (goodIn_ca (goodIn_ca (goodIn_r _ [8, 9, 10, 11, 12, 13, 14, 1, 2, 3, 4, 5, 15, 16, 17, 18, 19, 20, 21, 22, 23, 24, 25, 26, 27, 28, 29, 30, 31, 32, 33, 34, 35, 36, 37, 38, 39, 40, 41, 42, 43, 44, 45, 46, 47, 48, 49, 50, 51, 52, 53, 54, 55, 56, 57, 58, 59, 60, 61, 62, 63, 64, 65, 66, 67, 68, 69, 70, 71, 72, 73, 74, 75, 76, 77, 78, 79, 80, 81, 82, 83, 84, 85, 86, 87, 88, 89, 90, 91, 92, 93, 94, 95, 96, 97, 98, 99, 100, 101, 102, 103, 104, 105, 106, 107, 108, 109, 110, 111, 112, 113, 114, 115, 116, 117, 118, 119, 120, 121, 122, 123, 124, 125, 126, 127, 128, 129, 130, 131, 132, 133, 134, 135, 136, 137, 138, 139, 140, 141, 142, 143, 144, 145, 146, 147, 148, 149, 150, 151, 152, 153, 154, 155, 156, 157, 158, 159, 160, 161, 162, 163, 164, 165, 166, 167, 168, 169, 170, 171, 172, 173, 174, 175, 176, 177, 178, 179, 180, 181, 182, 183, 184, 185, 186, 187, 188, 189, 190, 191, 192, 193, 194, 195, 196, 197, 198, 199, 200, 201, 202, 203, 204, 205, 206, 207, 208, 209, 210, 211, 212, 213, 214, 215, 216, 217, 218, 219, 220, 221, 222, 223, 224, 225, 226, 227, 228, 229, 230, 231, 232, 233, 234, 235, 236, 398, 399, 400, 401, 402, 403, 404, 405, 406, 407, 408, 409, 410, 411, 412, 413, 414, 415, 416, 417, 418, 419, 420, 421, 422, 423, 424, 425, 426, 427, 428, 429] (by decide +kernel) (by decide +kernel)) (goodIn_sub (fun _ h => List.mem_cons_of_mem _ (List.mem_append_left _ (List.mem_append_left _ (List.mem_append_right _ h)))) (by decide +kernel))) (goodIn_sub (fun _ h => List.mem_cons_of_mem _ (List.mem_append_left _ (List.mem_append_right _ h))) (by decide +kernel))) (goodIn_sub (fun _ h => List.mem_cons_of_mem _ (List.mem_append_right _ h)) (by decide +kernel))
set_option maxRecDepth 20000 in
theorem gL_act_L_prints : GoodIn wsL_act (va_wsS RL 215 yL_prints wsL_prints) := goodIn_app (goodIn_of _ (by decide +kernel)) ggL_act_L_prints
set_option maxRecDepth 20000 in
theorem ggL_act_X10_day : GoodIn wsL_act wsX10_day := goodIn_r _ [97, 14, 398, 399, 400, 401, 402, 403, 404, 405, 406, 407, 408] (by decide +kernel) (by decide +kernel)
set_option maxRecDepth 20000 in
theorem gL_act_X10_day : GoodIn wsL_act (wsV RL 104 RX10 yX10_day wsX10_day) := goodIn_app (goodIn_of _ (by decide +kernel)) ggL_act_X10_day
set_option maxRecDepth 20000 in
theorem ggL_act_X10_pass : GoodIn wsL_act wsX10_pass := goodIn_ca (goodIn_r _ [240, 24, 25, 194, 14, 199, 200, 201, 202, 203, 204, 205, 206, 207, 208, 209, 210, 211, 212, 213, 63, 214, 65, 183, 184, 67, 68, 69, 70, 71, 215, 216, 217, 114, 218, 219, 220, 116, 117, 142, 158, 159, 160, 221, 222, 223, 38, 224, 40, 225, 226, 227, 228, 398, 399, 400, 401, 402, 403, 404, 405, 406, 407, 408, 425, 426, 427, 428, 429, 412, 413, 414, 415, 416, 417, 418, 419, 411] (by decide +kernel) (by decide +kernel)) (goodIn_sub (fun _ h => List.mem_cons_of_mem _ (List.mem_append_left _ (List.mem_append_left _ (List.mem_append_right _ h)))) (by decide +kernel))
set_option maxRecDepth 20000 in
theorem gL_act_X10_pass : GoodIn wsL_act (wsV RL 206 RX10 yX10_pass wsX10_pass) := goodIn_app (goodIn_of _ (by decide +kernel)) ggL_act_X10_pass
set_option maxRecDepth 20000 in
theorem ggL_act_X10_pamphlets : GoodIn wsL_act wsX10_pamphlets := goodIn_r _ [13, 14, 398, 399, 400, 401, 402, 403, 404, 405, 406, 407, 408] (by decide +kernel) (by decide +kernel)
set_option maxRecDepth 20000 in
theorem gL_act_X10_pamphlets : GoodIn wsL_act (wsV RL 79 RX10 yX10_pamphlets wsX10_pamphlets) := goodIn_app (goodIn_of _ (by decide +kernel)) ggL_act_X10_pamphlets
set_option maxRecDepth 20000 in
theorem ggL_act_L_mends : GoodIn wsL_act wsL_mends := goodIn_ca (goodIn_ca (goodIn_r _ [243, 244, 245, 246, 12, 247, 14, 54, 55, 56, 57, 58, 59, 60, 61, 62, 63, 64, 65, 66, 67, 68, 69, 70, 71, 248, 249, 3, 250, 251, 189, 252, 253, 254, 255, 26, 27, 256, 194, 257, 258, 259, 260, 261, 262, 263, 264, 265, 266, 267, 268, 119, 120, 38, 121, 40, 269, 270, 271, 272, 273, 274, 275, 276, 36, 37, 39, 277, 84, 85, 86, 278, 279, 280, 281, 282, 283, 284, 285, 286, 287, 288, 289, 290, 291, 292, 293, 294, 295, 296, 297, 298, 299, 114, 300, 160, 301, 199, 200, 201, 202, 203, 204, 205, 206, 207, 208, 209, 210, 211, 212, 213, 214, 183, 184, 215, 216, 217, 218, 219, 220, 116, 117, 142, 158, 159, 221, 222, 223, 224, 225, 226, 227, 228, 302, 303, 304, 305, 306, 307, 308, 309, 310, 311, 312, 313, 314, 315, 143, 1, 2, 4, 5, 316, 317, 318, 319, 50, 51, 52, 53, 320, 321, 322, 323, 324, 325, 326, 327, 328, 329, 330, 331, 332, 94, 95, 96, 97, 9, 10, 11, 13, 233, 234, 235, 236, 90, 91, 92, 93, 72, 73, 74, 75, 76, 77, 78, 79, 80, 81, 82, 83, 87, 88, 89, 333, 334, 335, 336, 337, 338, 339, 340, 398, 399, 400, 401, 402, 403, 404, 412, 413, 414, 415, 416, 417, 418, 419, 405, 406, 407, 408, 430, 431, 432, 433, 434, 435, 436, 411, 425, 426, 427, 428, 429] (by decide +kernel) (by decide +kernel)) (goodIn_sub (fun _ h => List.mem_cons_of_mem _ (List.mem_append_right _ h)) (by decide +kernel))) (goodIn_sub (fun _ h => List.mem_cons_of_mem _ (List.mem_append_left _ (List.mem_append_right _ h))) (by decide +kernel))
set_option maxRecDepth 20000 in
theorem gL_act_L_mends : GoodIn wsL_act (va_wsS RL 218 yL_mends wsL_mends) := goodIn_app (goodIn_of _ (by decide +kernel)) ggL_act_L_mends
set_option maxRecDepth 20000 in
theorem ggL_act_L_mendsAll : GoodIn wsL_act wsL_mendsAll := goodIn_ca (goodIn_r _ [343, 9, 10, 11, 12, 13, 14, 50, 51, 52, 53, 54, 55, 56, 57, 58, 59, 60, 61, 62, 63, 64, 65, 66, 67, 68, 69, 70, 71, 344, 345, 346, 347, 194, 256, 199, 200, 201, 202, 203, 204, 205, 206, 207, 208, 209, 210, 211, 212, 213, 214, 183, 184, 215, 216, 217, 114, 218, 219, 220, 116, 117, 142, 158, 159, 160, 221, 222, 223, 38, 224, 40, 225, 226, 227, 228, 348, 349, 350, 264, 351, 267, 352, 262, 263, 265, 266, 268, 119, 120, 121, 269, 270, 271, 272, 273, 274, 275, 276, 36, 37, 39, 277, 84, 85, 86, 278, 279, 280, 281, 282, 283, 284, 285, 286, 287, 288, 289, 290, 291, 292, 353, 294, 295, 296, 297, 298, 299, 300, 301, 354, 303, 304, 305, 306, 307, 308, 309, 310, 311, 312, 313, 314, 315, 143, 355, 356, 357, 358, 359, 360, 361, 362, 363, 364, 365, 366, 398, 399, 400, 401, 402, 403, 404, 405, 406, 407, 408, 412, 413, 414, 415, 416, 417, 418, 419, 425, 426, 427, 428, 429, 411, 430, 431, 432, 433, 434, 435, 436] (by decide +kernel) (by decide +kernel)) (goodIn_sub (fun _ h => List.mem_cons_of_mem _ (List.mem_append_right _ h)) (by decide +kernel))
set_option maxRecDepth 20000 in
theorem gL_act_L_mendsAll : GoodIn wsL_act (va_wsS RL 221 yL_mendsAll wsL_mendsAll) := goodIn_app (goodIn_of _ (by decide +kernel)) ggL_act_L_mendsAll
set_option maxRecDepth 20000 in
theorem ggL_act_L_returns : GoodIn wsL_act wsL_returns := goodIn_ca (goodIn_ca (goodIn_ca (goodIn_r _ [369, 329, 330, 3, 331, 332, 94, 95, 96, 12, 97, 14, 9, 10, 11, 13, 233, 234, 235, 236, 54, 55, 56, 57, 58, 59, 60, 61, 62, 63, 64, 65, 66, 67, 68, 69, 70, 71, 90, 91, 92, 93, 50, 51, 52, 53, 72, 73, 74, 75, 76, 77, 78, 79, 80, 81, 82, 83, 84, 85, 38, 86, 40, 87, 88, 89, 244, 245, 246, 247, 333, 334, 335, 336, 257, 258, 259, 260, 324, 119, 120, 121, 337, 338, 339, 340, 320, 321, 322, 323, 370, 371, 372, 373, 194, 374, 212, 213, 214, 183, 184, 215, 216, 217, 114, 218, 219, 220, 116, 117, 142, 158, 159, 160, 221, 222, 223, 224, 225, 226, 227, 228, 375, 376, 377, 378, 237, 238, 239, 240, 24, 25, 199, 200, 201, 202, 203, 204, 205, 206, 207, 208, 209, 210, 211, 344, 345, 346, 347, 256, 348, 349, 350, 264, 351, 267, 352, 262, 263, 265, 266, 268, 269, 270, 271, 272, 273, 274, 275, 276, 36, 37, 39, 277, 278, 279, 280, 281, 282, 283, 284, 285, 286, 287, 288, 289, 290, 291, 292, 353, 294, 295, 296, 297, 298, 299, 300, 301, 354, 303, 304, 305, 306, 307, 308, 309, 310, 311, 312, 313, 314, 315, 143, 379, 380, 381, 382, 26, 27, 383, 384, 385, 386, 387, 388, 389, 390, 398, 399, 400, 401, 402, 403, 404, 405, 406, 407, 408, 412, 413, 414, 415, 416, 417, 418, 419, 411, 425, 426, 427, 428, 429, 430, 431, 432, 433, 434, 435, 436] (by decide +kernel) (by decide +kernel)) (goodIn_sub (fun _ h => List.mem_cons_of_mem _ (List.mem_append_right _ h)) (by decide +kernel))) (goodIn_sub (fun _ h => List.mem_cons_of_mem _ (List.mem_append_left _ (List.mem_append_left _ (List.mem_append_right _ h)))) (by decide +kernel))) (goodIn_sub (fun _ h => List.mem_cons_of_mem _ (List.mem_append_left _ (List.mem_append_right _ h))) (by decide +kernel))
set_option maxRecDepth 20000 in
theorem gL_act_L_returns : GoodIn wsL_act (va_wsS RL 224 yL_returns wsL_returns) := goodIn_app (goodIn_of _ (by decide +kernel)) ggL_act_L_returns
set_option maxRecDepth 20000 in
theorem ggL_act_X10_dayOf : GoodIn wsL_act wsX10_dayOf := goodIn_ca (goodIn_r _ [93, 14, 54, 55, 56, 12, 57, 58, 59, 60, 61, 62, 63, 64, 65, 66, 67, 68, 69, 70, 71, 398, 399, 400, 401, 402, 403, 404, 412, 413, 414, 415, 416, 417, 418, 419, 405, 406, 407, 408] (by decide +kernel) (by decide +kernel)) (goodIn_sub (fun _ h => List.mem_cons_of_mem _ (List.mem_append_right _ h)) (by decide +kernel))
set_option maxRecDepth 20000 in
theorem gL_act_X10_dayOf : GoodIn wsL_act (wsV RL 57 RX10 yX10_dayOf wsX10_dayOf) := goodIn_app (goodIn_of _ (by decide +kernel)) ggL_act_X10_dayOf
set_option maxRecDepth 20000 in
theorem ggL_act_L_tryWithdraw : GoodIn wsL_act wsL_tryWithdraw := goodIn_ca (goodIn_r _ [393, 189, 394, 395, 396, 12, 397, 26, 27, 14, 194, 66, 67, 68, 63, 69, 70, 71, 199, 200, 201, 202, 203, 204, 205, 206, 207, 208, 209, 210, 211, 212, 213, 214, 65, 183, 184, 215, 216, 217, 114, 218, 219, 220, 116, 117, 142, 158, 159, 160, 221, 222, 223, 38, 224, 40, 225, 226, 227, 228, 398, 399, 400, 401, 402, 403, 404, 405, 406, 407, 408, 412, 413, 414, 415, 416, 417, 418, 419, 425, 426, 427, 428, 429, 411] (by decide +kernel) (by decide +kernel)) (goodIn_sub (fun _ h => List.mem_cons_of_mem _ (List.mem_append_left _ (List.mem_append_right _ h))) (by decide +kernel))
set_option maxRecDepth 20000 in
theorem gL_act_L_tryWithdraw : GoodIn wsL_act (va_wsS RL 227 yL_tryWithdraw wsL_tryWithdraw) := goodIn_app (goodIn_of _ (by decide +kernel)) ggL_act_L_tryWithdraw
theorem dL_act_0 : decode cL_act 0 = .ok (.iload_n 1, 1) := by decide +kernel
theorem dL_act_1 : decode cL_act 1 = .ok (.bipush 16, 2) := by decide +kernel
theorem dL_act_3 : decode cL_act 3 = .ok (.invokestatic 166, 3) := by decide +kernel
theorem dL_act_6 : decode cL_act 6 = .ok (.istore 4, 2) := by decide +kernel
theorem dL_act_8 : decode cL_act 8 = .ok (.iload 4, 2) := by decide +kernel
theorem dL_act_10 : decode cL_act 10 = .ok (.bipush 7, 2) := by decide +kernel
theorem dL_act_12 : decode cL_act 12 = .ok (.if_icmp .ge 10, 3) := by decide +kernel
theorem dL_act_15 : decode cL_act 15 = .ok (.aload_n 0, 1) := by decide +kernel
theorem dL_act_16 : decode cL_act 16 = .ok (.iload_n 2, 1) := by decide +kernel
theorem dL_act_17 : decode cL_act 17 = .ok (.iload_n 3, 1) := by decide +kernel
theorem dL_act_18 : decode cL_act 18 = .ok (.invokestatic 215, 3) := by decide +kernel
theorem dL_act_21 : decode cL_act 21 = .ok (.ireturn, 1) := by decide +kernel
theorem dL_act_22 : decode cL_act 22 = .ok (.iload 4, 2) := by decide +kernel
theorem dL_act_24 : decode cL_act 24 = .ok (.bipush 10, 2) := by decide +kernel
theorem dL_act_26 : decode cL_act 26 = .ok (.if_icmp .ge 66, 3) := by decide +kernel
theorem dL_act_29 : decode cL_act 29 = .ok (.aload_n 0, 1) := by decide +kernel
theorem dL_act_30 : decode cL_act 30 = .ok (.invokevirtual 104, 3) := by decide +kernel
theorem dL_act_33 : decode cL_act 33 = .ok (.istore 5, 2) := by decide +kernel
theorem dL_act_35 : decode cL_act 35 = .ok (.iconst 1, 1) := by decide +kernel
theorem dL_act_36 : decode cL_act 36 = .ok (.iload_n 2, 1) := by decide +kernel
theorem dL_act_37 : decode cL_act 37 = .ok (.iload_n 2, 1) := by decide +kernel
theorem dL_act_38 : decode cL_act 38 = .ok (.bipush 7, 2) := by decide +kernel
theorem dL_act_40 : decode cL_act 40 = .ok (.ishr, 1) := by decide +kernel
theorem dL_act_41 : decode cL_act 41 = .ok (.iconst 5, 1) := by decide +kernel
theorem dL_act_42 : decode cL_act 42 = .ok (.invokestatic 166, 3) := by decide +kernel
theorem dL_act_45 : decode cL_act 45 = .ok (.ifCond .ne 8, 3) := by decide +kernel
theorem dL_act_48 : decode cL_act 48 = .ok (.bipush 100, 2) := by decide +kernel
theorem dL_act_50 : decode cL_act 50 = .ok (.goto 4, 3) := by decide +kernel
theorem dL_act_53 : decode cL_act 53 = .ok (.iconst 3, 1) := by decide +kernel
theorem dL_act_54 : decode cL_act 54 = .ok (.invokestatic 166, 3) := by decide +kernel
theorem dL_act_57 : decode cL_act 57 = .ok (.iadd, 1) := by decide +kernel
theorem dL_act_58 : decode cL_act 58 = .ok (.istore 6, 2) := by decide +kernel
theorem dL_act_60 : decode cL_act 60 = .ok (.aload_n 0, 1) := by decide +kernel
theorem dL_act_61 : decode cL_act 61 = .ok (.iload 6, 2) := by decide +kernel
theorem dL_act_63 : decode cL_act 63 = .ok (.invokevirtual 206, 3) := by decide +kernel
theorem dL_act_66 : decode cL_act 66 = .ok (.iload 5, 2) := by decide +kernel
theorem dL_act_68 : decode cL_act 68 = .ok (.iload 6, 2) := by decide +kernel
theorem dL_act_70 : decode cL_act 70 = .ok (.iadd, 1) := by decide +kernel
theorem dL_act_71 : decode cL_act 71 = .ok (.if_icmp .ne 19, 3) := by decide +kernel
theorem dL_act_74 : decode cL_act 74 = .ok (.aload_n 0, 1) := by decide +kernel
theorem dL_act_75 : decode cL_act 75 = .ok (.invokevirtual 104, 3) := by decide +kernel
theorem dL_act_78 : decode cL_act 78 = .ok (.iload 5, 2) := by decide +kernel
theorem dL_act_80 : decode cL_act 80 = .ok (.iload 6, 2) := by decide +kernel
theorem dL_act_82 : decode cL_act 82 = .ok (.iadd, 1) := by decide +kernel
theorem dL_act_83 : decode cL_act 83 = .ok (.if_icmp .ne 7, 3) := by decide +kernel
theorem dL_act_86 : decode cL_act 86 = .ok (.iconst 1, 1) := by decide +kernel
theorem dL_act_87 : decode cL_act 87 = .ok (.goto 4, 3) := by decide +kernel
theorem dL_act_90 : decode cL_act 90 = .ok (.iconst 0, 1) := by decide +kernel
theorem dL_act_91 : decode cL_act 91 = .ok (.ireturn, 1) := by decide +kernel
theorem dL_act_92 : decode cL_act 92 = .ok (.iload 4, 2) := by decide +kernel
theorem dL_act_94 : decode cL_act 94 = .ok (.bipush 13, 2) := by decide +kernel
theorem dL_act_96 : decode cL_act 96 = .ok (.if_icmp .ge 43, 3) := by decide +kernel
theorem dL_act_99 : decode cL_act 99 = .ok (.aload_n 0, 1) := by decide +kernel
theorem dL_act_100 : decode cL_act 100 = .ok (.invokevirtual 79, 3) := by decide +kernel
theorem dL_act_103 : decode cL_act 103 = .ok (.ifCond .eq 30, 3) := by decide +kernel
theorem dL_act_106 : decode cL_act 106 = .ok (.aload_n 0, 1) := by decide +kernel
theorem dL_act_107 : decode cL_act 107 = .ok (.aload_n 0, 1) := by decide +kernel
theorem dL_act_108 : decode cL_act 108 = .ok (.invokevirtual 79, 3) := by decide +kernel
theorem dL_act_111 : decode cL_act 111 = .ok (.iconst 1, 1) := by decide +kernel
theorem dL_act_112 : decode cL_act 112 = .ok (.isub, 1) := by decide +kernel
theorem dL_act_113 : decode cL_act 113 = .ok (.iload_n 2, 1) := by decide +kernel
theorem dL_act_114 : decode cL_act 114 = .ok (.aload_n 0, 1) := by decide +kernel
theorem dL_act_115 : decode cL_act 115 = .ok (.invokevirtual 79, 3) := by decide +kernel
theorem dL_act_118 : decode cL_act 118 = .ok (.invokestatic 166, 3) := by decide +kernel
theorem dL_act_121 : decode cL_act 121 = .ok (.iconst 2, 1) := by decide +kernel
theorem dL_act_122 : decode cL_act 122 = .ok (.idiv, 1) := by decide +kernel
theorem dL_act_123 : decode cL_act 123 = .ok (.isub, 1) := by decide +kernel
theorem dL_act_124 : decode cL_act 124 = .ok (.iload_n 2, 1) := by decide +kernel
theorem dL_act_125 : decode cL_act 125 = .ok (.iconst 4, 1) := by decide +kernel
theorem dL_act_126 : decode cL_act 126 = .ok (.ishr, 1) := by decide +kernel
theorem dL_act_127 : decode cL_act 127 = .ok (.invokestatic 218, 3) := by decide +kernel
theorem dL_act_130 : decode cL_act 130 = .ok (.ifCond .eq 7, 3) := by decide +kernel
theorem dL_act_133 : decode cL_act 133 = .ok (.iconst 1, 1) := by decide +kernel
theorem dL_act_134 : decode cL_act 134 = .ok (.goto 4, 3) := by decide +kernel
theorem dL_act_137 : decode cL_act 137 = .ok (.iconst 0, 1) := by decide +kernel
theorem dL_act_138 : decode cL_act 138 = .ok (.ireturn, 1) := by decide +kernel
theorem dL_act_139 : decode cL_act 139 = .ok (.iload 4, 2) := by decide +kernel
theorem dL_act_141 : decode cL_act 141 = .ok (.bipush 13, 2) := by decide +kernel
theorem dL_act_143 : decode cL_act 143 = .ok (.if_icmp .ne 24, 3) := by decide +kernel
theorem dL_act_146 : decode cL_act 146 = .ok (.iload_n 2, 1) := by decide +kernel
theorem dL_act_147 : decode cL_act 147 = .ok (.iconst 4, 1) := by decide +kernel
theorem dL_act_148 : decode cL_act 148 = .ok (.invokestatic 166, 3) := by decide +kernel
theorem dL_act_151 : decode cL_act 151 = .ok (.ifCond .gt 10, 3) := by decide +kernel
theorem dL_act_154 : decode cL_act 154 = .ok (.aload_n 0, 1) := by decide +kernel
theorem dL_act_155 : decode cL_act 155 = .ok (.invokestatic 221, 3) := by decide +kernel
theorem dL_act_158 : decode cL_act 158 = .ok (.ifCond .eq 7, 3) := by decide +kernel
theorem dL_act_161 : decode cL_act 161 = .ok (.iconst 1, 1) := by decide +kernel
theorem dL_act_162 : decode cL_act 162 = .ok (.goto 4, 3) := by decide +kernel
theorem dL_act_165 : decode cL_act 165 = .ok (.iconst 0, 1) := by decide +kernel
theorem dL_act_166 : decode cL_act 166 = .ok (.ireturn, 1) := by decide +kernel
theorem dL_act_167 : decode cL_act 167 = .ok (.iload 4, 2) := by decide +kernel
theorem dL_act_169 : decode cL_act 169 = .ok (.bipush 14, 2) := by decide +kernel
theorem dL_act_171 : decode cL_act 171 = .ok (.if_icmp .ne 8, 3) := by decide +kernel
theorem dL_act_174 : decode cL_act 174 = .ok (.aload_n 0, 1) := by decide +kernel
theorem dL_act_175 : decode cL_act 175 = .ok (.invokestatic 224, 3) := by decide +kernel
theorem dL_act_178 : decode cL_act 178 = .ok (.ireturn, 1) := by decide +kernel
theorem dL_act_179 : decode cL_act 179 = .ok (.aload_n 0, 1) := by decide +kernel
theorem dL_act_180 : decode cL_act 180 = .ok (.invokevirtual 79, 3) := by decide +kernel
theorem dL_act_183 : decode cL_act 183 = .ok (.istore 5, 2) := by decide +kernel
theorem dL_act_185 : decode cL_act 185 = .ok (.iload 5, 2) := by decide +kernel
theorem dL_act_187 : decode cL_act 187 = .ok (.ifCond .le 22, 3) := by decide +kernel
theorem dL_act_190 : decode cL_act 190 = .ok (.aload_n 0, 1) := by decide +kernel
theorem dL_act_191 : decode cL_act 191 = .ok (.iload 5, 2) := by decide +kernel
theorem dL_act_193 : decode cL_act 193 = .ok (.iconst 1, 1) := by decide +kernel
theorem dL_act_194 : decode cL_act 194 = .ok (.isub, 1) := by decide +kernel
theorem dL_act_195 : decode cL_act 195 = .ok (.invokevirtual 57, 3) := by decide +kernel
theorem dL_act_198 : decode cL_act 198 = .ok (.aload_n 0, 1) := by decide +kernel
theorem dL_act_199 : decode cL_act 199 = .ok (.invokevirtual 104, 3) := by decide +kernel
theorem dL_act_202 : decode cL_act 202 = .ok (.if_icmp .ne 7, 3) := by decide +kernel
theorem dL_act_205 : decode cL_act 205 = .ok (.iconst 1, 1) := by decide +kernel
theorem dL_act_206 : decode cL_act 206 = .ok (.goto 4, 3) := by decide +kernel
theorem dL_act_209 : decode cL_act 209 = .ok (.iconst 0, 1) := by decide +kernel
theorem dL_act_210 : decode cL_act 210 = .ok (.istore 6, 2) := by decide +kernel
theorem dL_act_212 : decode cL_act 212 = .ok (.aload_n 0, 1) := by decide +kernel
theorem dL_act_213 : decode cL_act 213 = .ok (.invokestatic 227, 3) := by decide +kernel
theorem dL_act_216 : decode cL_act 216 = .ok (.istore 7, 2) := by decide +kernel
theorem dL_act_218 : decode cL_act 218 = .ok (.iload 6, 2) := by decide +kernel
theorem dL_act_220 : decode cL_act 220 = .ok (.ifCond .eq 29, 3) := by decide +kernel
theorem dL_act_223 : decode cL_act 223 = .ok (.iload 7, 2) := by decide +kernel
theorem dL_act_225 : decode cL_act 225 = .ok (.iload 5, 2) := by decide +kernel
theorem dL_act_227 : decode cL_act 227 = .ok (.iconst 1, 1) := by decide +kernel
theorem dL_act_228 : decode cL_act 228 = .ok (.isub, 1) := by decide +kernel
theorem dL_act_229 : decode cL_act 229 = .ok (.if_icmp .ne 16, 3) := by decide +kernel
theorem dL_act_232 : decode cL_act 232 = .ok (.aload_n 0, 1) := by decide +kernel
theorem dL_act_233 : decode cL_act 233 = .ok (.invokevirtual 79, 3) := by decide +kernel
theorem dL_act_236 : decode cL_act 236 = .ok (.iload 7, 2) := by decide +kernel
theorem dL_act_238 : decode cL_act 238 = .ok (.if_icmp .ne 7, 3) := by decide +kernel
theorem dL_act_241 : decode cL_act 241 = .ok (.iconst 1, 1) := by decide +kernel
theorem dL_act_242 : decode cL_act 242 = .ok (.goto 20, 3) := by decide +kernel
theorem dL_act_245 : decode cL_act 245 = .ok (.iconst 0, 1) := by decide +kernel
theorem dL_act_246 : decode cL_act 246 = .ok (.goto 16, 3) := by decide +kernel
theorem dL_act_249 : decode cL_act 249 = .ok (.iload 7, 2) := by decide +kernel
theorem dL_act_251 : decode cL_act 251 = .ok (.sipush (-7002), 3) := by decide +kernel
theorem dL_act_254 : decode cL_act 254 = .ok (.if_icmp .ne 7, 3) := by decide +kernel
theorem dL_act_257 : decode cL_act 257 = .ok (.iconst 1, 1) := by decide +kernel
theorem dL_act_258 : decode cL_act 258 = .ok (.goto 4, 3) := by decide +kernel
theorem dL_act_261 : decode cL_act 261 = .ok (.iconst 0, 1) := by decide +kernel
theorem dL_act_262 : decode cL_act 262 = .ok (.ireturn, 1) := by decide +kernel
