set_option maxRecDepth 20000 in
theorem ggL_law_X10_init : GoodIn wsL_law wsX10_init := goodIn_r _ [9, 10, 11, 12, 13, 14, 15, 16, 17, 18, 19, 20, 21, 22, 23, 24, 25, 26, 27, 28, 29, 30, 31, 32, 33, 34, 35, 36, 37, 38, 39, 40, 41, 42, 43, 44, 45, 46, 47, 48, 49, 50, 51, 52, 53, 54, 55, 56, 57, 58, 59, 60, 61, 62, 63, 64, 65, 66, 67, 6, 68, 69, 70, 71, 72, 73, 74, 75, 76, 77, 78, 79, 80, 81, 82, 83, 84, 85, 86, 87, 88, 89, 90, 91, 92, 93, 94, 95, 96, 97, 98, 99, 100, 101, 102, 103, 104, 105, 106, 107, 108, 109, 110, 111, 112, 113, 1189, 1190, 1191, 1192, 1158, 1159, 1160, 1161, 1162, 1163, 1164, 1193, 1194, 1195, 1196, 1197, 1198, 1199, 1200, 1201, 1202, 1203, 1204, 1205, 1206, 1207, 1208, 1209, 1210, 1211, 1212, 1213, 1214, 1215, 1216, 1217, 1218, 1219, 1220, 1221, 1222, 1223, 1224] (by decide +kernel) (by decide +kernel)
set_option maxRecDepth 20000 in
theorem gL_law_X10_init : GoodIn wsL_law (wsX10_init) := ggL_law_X10_init
set_option maxRecDepth 20000 in
theorem ggL_law_X11_init : GoodIn wsL_law wsX11_init := goodIn_r _ [116, 117, 11, 12, 118, 119, 6, 120, 121, 122, 123, 124, 125, 126, 127, 128, 1165, 1166, 1167, 1168, 1169, 1170, 1171, 1172, 1173, 1174, 1175, 1176, 1177, 1178, 1179, 1180, 1181, 1182, 1183, 1184, 1185, 1186, 1187, 1188] (by decide +kernel) (by decide +kernel)
set_option maxRecDepth 20000 in
theorem gL_law_X11_init : GoodIn wsL_law (wsX11_init) := ggL_law_X11_init
set_option maxRecDepth 20000 in
theorem ggL_law_L_print : GoodIn wsL_law wsL_print := goodIn_ca (goodIn_ca (goodIn_r _ [132, 133, 134, 135, 136, 137, 2, 138, 139, 140, 141, 142, 20, 16, 28, 24, 143, 144, 145, 146, 147, 148, 149, 150, 151, 152, 27, 153, 87, 154, 155, 156, 157, 158, 48, 159, 160, 161, 162, 163, 164, 55, 165, 68, 166, 167, 168, 169, 170, 171, 172, 173, 174, 175, 176, 177, 178, 179, 180, 181, 182, 183, 184, 185, 56, 186, 187, 188, 189, 190, 191, 192, 193, 194, 195, 196, 197, 198, 199, 200, 201, 202, 203, 204, 205, 206, 57, 58, 59, 207, 208, 209, 210, 211, 212, 213, 214, 215, 216, 217, 15, 218, 219, 220, 221, 222, 223, 224, 225, 226, 227, 228, 229, 230, 231, 232, 233, 46, 49, 234, 235, 236, 19, 237, 238, 239, 240, 241, 242, 243, 74, 244, 245, 246, 247, 248, 249, 250, 251, 252, 253, 254, 255, 256, 257, 258, 259, 260, 261, 262, 263, 264, 265, 1158, 1159, 1160, 1161, 1162, 1163, 1164, 1200, 1201, 1202, 1203, 1204, 1198, 1199, 1189, 1190, 1191, 1192, 1212, 1213, 1214, 1215, 1216, 1217, 1218, 1219, 1220, 1193, 1194, 1195, 1196, 1197] (by decide +kernel) (by decide +kernel)) (goodIn_sub (fun _ h => List.mem_append_left _ (List.mem_append_left _ (List.mem_append_right _ h))) (by decide +kernel))) (goodIn_sub (fun _ h => List.mem_append_left _ (List.mem_append_right _ h)) (by decide +kernel))
set_option maxRecDepth 20000 in
theorem gL_law_L_print : GoodIn wsL_law (va_wsS RL 136 yL_print wsL_print) := goodIn_app (goodIn_of _ (by decide +kernel)) ggL_law_L_print
set_option maxRecDepth 20000 in
theorem ggL_law_X11_print : GoodIn wsL_law wsX11_print := goodIn_r _ [269, 119, 270, 271, 272, 273, 274, 5, 275, 276, 277, 278, 279, 280, 281, 282, 283, 284, 285, 286, 287, 288, 289, 290, 291, 292, 293, 294, 295, 296, 123, 297, 298, 299, 300, 301, 302, 303, 304, 120, 305, 306, 307, 308, 309, 310, 311, 312, 313, 314, 315, 316, 317, 318, 319, 320, 321, 322, 323, 324, 325, 326, 327, 328, 329, 121, 122, 330, 331, 332, 333, 1165, 1166, 1167, 1168, 1169, 1170, 1171, 1172, 1173, 1174, 1175, 1176, 1177, 1178, 1179, 1180, 1181, 1182, 1183, 1184, 1185, 1186, 1187, 1188] (by decide +kernel) (by decide +kernel)
set_option maxRecDepth 20000 in
theorem gL_law_X11_print : GoodIn wsL_law (wsV RL 141 RX11 yX11_print wsX11_print) := goodIn_app (goodIn_of _ (by decide +kernel)) ggL_law_X11_print
set_option maxRecDepth 20000 in
theorem ggL_law_X11_thrown : GoodIn wsL_law wsX11_thrown := goodIn_r _ [337, 324, 1165, 1166, 1167, 1168, 1169, 1170, 1171, 1172, 1173, 1174, 1175, 1176, 1177, 1178, 1179, 1180, 1181, 1182, 1183, 1184, 1185, 1186, 1187, 1188] (by decide +kernel) (by decide +kernel)
set_option maxRecDepth 20000 in
theorem gL_law_X11_thrown : GoodIn wsL_law (wsV RL 142 RX11 yX11_thrown wsX11_thrown) := goodIn_app (goodIn_of _ (by decide +kernel)) ggL_law_X11_thrown
set_option maxRecDepth 20000 in
theorem ggL_law_L_pass : GoodIn wsL_law wsL_pass := goodIn_ca (goodIn_r _ [340, 133, 341, 342, 343, 2, 344, 139, 140, 20, 16, 234, 235, 236, 19, 237, 238, 239, 240, 241, 242, 243, 74, 244, 245, 246, 15, 247, 224, 229, 230, 231, 232, 233, 46, 49, 248, 249, 250, 48, 251, 252, 253, 160, 161, 56, 57, 58, 59, 254, 255, 256, 55, 257, 68, 258, 259, 260, 261, 1158, 1159, 1160, 1161, 1162, 1163, 1164, 1189, 1190, 1191, 1192, 1193, 1194, 1195, 1196, 1197, 1212, 1213, 1214, 1215, 1216, 1217, 1218, 1219, 1220] (by decide +kernel) (by decide +kernel)) (goodIn_sub (fun _ h => List.mem_append_left _ (List.mem_append_left _ (List.mem_append_right _ h))) (by decide +kernel))
set_option maxRecDepth 20000 in
theorem gL_law_L_pass : GoodIn wsL_law (va_wsS RL 145 yL_pass wsL_pass) := goodIn_app (goodIn_of _ (by decide +kernel)) ggL_law_L_pass
set_option maxRecDepth 20000 in
theorem ggL_law_X11_pass : GoodIn wsL_law wsX11_pass := goodIn_r _ [348, 119, 276, 277, 5, 278, 320, 321, 322, 323, 324, 325, 326, 327, 328, 329, 121, 122, 330, 331, 332, 333, 120, 1165, 1166, 1167, 1168, 1169, 1170, 1171, 1172, 1173, 1174, 1175, 1176, 1177, 1178, 1179, 1180, 1181, 1182, 1183, 1184, 1185, 1186, 1187, 1188] (by decide +kernel) (by decide +kernel)
set_option maxRecDepth 20000 in
theorem gL_law_X11_pass : GoodIn wsL_law (wsV RL 147 RX11 yX11_pass wsX11_pass) := goodIn_app (goodIn_of _ (by decide +kernel)) ggL_law_X11_pass
set_option maxRecDepth 20000 in
theorem ggL_law_L_mend : GoodIn wsL_law wsL_mend := goodIn_ca (goodIn_ca (goodIn_r _ [351, 352, 134, 353, 354, 355, 2, 356, 141, 142, 32, 16, 20, 357, 358, 359, 360, 361, 362, 363, 364, 365, 366, 367, 221, 222, 15, 223, 224, 368, 231, 232, 233, 46, 49, 369, 370, 371, 31, 372, 94, 373, 374, 163, 164, 55, 165, 68, 375, 376, 377, 93, 378, 99, 379, 380, 187, 188, 189, 381, 195, 196, 197, 382, 383, 384, 385, 386, 387, 66, 388, 389, 390, 391, 392, 393, 394, 395, 396, 397, 398, 399, 400, 401, 402, 48, 403, 59, 404, 234, 235, 236, 19, 237, 238, 239, 240, 241, 242, 243, 74, 244, 245, 246, 247, 229, 230, 248, 249, 250, 251, 252, 253, 160, 161, 56, 57, 58, 254, 255, 256, 257, 258, 259, 260, 261, 405, 406, 407, 408, 409, 410, 411, 412, 413, 414, 415, 416, 417, 418, 186, 1158, 1159, 1160, 1161, 1162, 1163, 1164, 1212, 1213, 1214, 1215, 1216, 1217, 1218, 1219, 1189, 1190, 1191, 1192, 1205, 1206, 1207, 1221, 1222, 1223, 1224, 1220, 1193, 1194, 1195, 1196, 1197] (by decide +kernel) (by decide +kernel)) (goodIn_sub (fun _ h => List.mem_append_left _ (List.mem_append_right _ h)) (by decide +kernel))) (goodIn_sub (fun _ h => List.mem_append_right _ h) (by decide +kernel))
set_option maxRecDepth 20000 in
theorem gL_law_L_mend : GoodIn wsL_law (va_wsS RL 148 yL_mend wsL_mend) := goodIn_app (goodIn_of _ (by decide +kernel)) ggL_law_L_mend
set_option maxRecDepth 20000 in
theorem ggL_law_X11_mend : GoodIn wsL_law wsX11_mend := goodIn_r _ [422, 423, 424, 425, 5, 426, 312, 313, 314, 315, 119, 276, 277, 278, 316, 317, 318, 319, 427, 428, 429, 430, 431, 432, 433, 434, 435, 436, 437, 438, 439, 440, 124, 441, 442, 443, 444, 445, 446, 447, 448, 449, 450, 451, 452, 453, 120, 454, 455, 456, 457, 458, 459, 460, 461, 320, 321, 322, 323, 324, 325, 326, 327, 328, 329, 121, 122, 330, 331, 332, 333, 462, 463, 464, 465, 1165, 1166, 1167, 1168, 1169, 1170, 1171, 1172, 1173, 1174, 1175, 1176, 1177, 1178, 1179, 1180, 1181, 1182, 1183, 1184, 1185, 1186, 1187, 1188] (by decide +kernel) (by decide +kernel)
set_option maxRecDepth 20000 in
theorem gL_law_X11_mend : GoodIn wsL_law (wsV RL 151 RX11 yX11_mend wsX11_mend) := goodIn_app (goodIn_of _ (by decide +kernel)) ggL_law_X11_mend
set_option maxRecDepth 20000 in
theorem ggL_law_X10_mendAll : GoodIn wsL_law wsX10_mendAll := goodIn_r _ [469, 20, 16, 32, 234, 235, 236, 19, 237, 238, 239, 240, 241, 242, 243, 74, 244, 245, 246, 15, 247, 224, 229, 230, 231, 232, 233, 46, 49, 248, 249, 250, 48, 251, 252, 253, 160, 161, 56, 57, 58, 59, 254, 255, 256, 55, 257, 68, 258, 259, 260, 261, 470, 471, 472, 31, 473, 373, 474, 370, 371, 372, 94, 374, 163, 164, 165, 375, 376, 377, 93, 378, 99, 379, 380, 187, 188, 189, 381, 195, 196, 197, 382, 383, 384, 385, 386, 387, 66, 388, 389, 390, 391, 392, 393, 394, 395, 475, 397, 398, 399, 400, 401, 402, 403, 404, 476, 406, 407, 408, 409, 410, 411, 412, 413, 414, 415, 416, 417, 418, 186, 1158, 1159, 1160, 1161, 1162, 1163, 1164, 1189, 1190, 1191, 1192, 1193, 1194, 1195, 1196, 1197, 1212, 1213, 1214, 1215, 1216, 1217, 1218, 1219, 1220, 1205, 1206, 1207, 1221, 1222, 1223, 1224] (by decide +kernel) (by decide +kernel)
set_option maxRecDepth 20000 in
theorem gL_law_X10_mendAll : GoodIn wsL_law (wsV RL 152 RX10 yX10_mendAll wsX10_mendAll) := goodIn_app (goodIn_of _ (by decide +kernel)) ggL_law_X10_mendAll
set_option maxRecDepth 20000 in
theorem ggL_law_X11_mendAll : GoodIn wsL_law wsX11_mendAll := goodIn_r _ [480, 324, 119, 325, 326, 327, 5, 328, 329, 121, 122, 330, 331, 332, 333, 120, 316, 317, 318, 319, 427, 428, 429, 430, 431, 432, 433, 434, 435, 436, 437, 438, 439, 440, 124, 441, 442, 443, 444, 445, 446, 447, 448, 449, 450, 451, 452, 453, 454, 455, 456, 457, 458, 459, 460, 461, 462, 463, 464, 465, 1165, 1166, 1167, 1168, 1169, 1170, 1171, 1172, 1173, 1174, 1175, 1176, 1177, 1178, 1179, 1180, 1181, 1182, 1183, 1184, 1185, 1186, 1187, 1188] (by decide +kernel) (by decide +kernel)
set_option maxRecDepth 20000 in
theorem gL_law_X11_mendAll : GoodIn wsL_law (wsV RL 155 RX11 yX11_mendAll wsX11_mendAll) := goodIn_app (goodIn_of _ (by decide +kernel)) ggL_law_X11_mendAll
set_option maxRecDepth 20000 in
theorem ggL_law_L_withdraw : GoodIn wsL_law wsL_withdraw := goodIn_ca (goodIn_r _ [483, 134, 484, 485, 486, 2, 487, 141, 142, 16, 20, 368, 231, 232, 15, 233, 46, 49, 234, 235, 236, 19, 237, 238, 239, 240, 241, 242, 243, 74, 244, 245, 246, 247, 224, 229, 230, 248, 249, 250, 48, 251, 252, 253, 160, 161, 56, 57, 58, 59, 254, 255, 256, 55, 257, 68, 258, 259, 260, 261, 1158, 1159, 1160, 1161, 1162, 1163, 1164, 1189, 1190, 1191, 1192, 1212, 1213, 1214, 1215, 1216, 1217, 1218, 1219, 1193, 1194, 1195, 1196, 1197, 1220] (by decide +kernel) (by decide +kernel)) (goodIn_sub (fun _ h => List.mem_append_left _ (List.mem_append_right _ h)) (by decide +kernel))
set_option maxRecDepth 20000 in
theorem gL_law_L_withdraw : GoodIn wsL_law (va_wsS RL 156 yL_withdraw wsL_withdraw) := goodIn_app (goodIn_of _ (by decide +kernel)) ggL_law_L_withdraw
set_option maxRecDepth 20000 in
theorem ggL_law_X11_withdraw : GoodIn wsL_law wsX11_withdraw := goodIn_r _ [491, 119, 316, 317, 318, 5, 319, 320, 321, 322, 323, 324, 325, 326, 327, 328, 329, 121, 122, 330, 331, 332, 333, 120, 1165, 1166, 1167, 1168, 1169, 1170, 1171, 1172, 1173, 1174, 1175, 1176, 1177, 1178, 1179, 1180, 1181, 1182, 1183, 1184, 1185, 1186, 1187, 1188] (by decide +kernel) (by decide +kernel)
set_option maxRecDepth 20000 in
theorem gL_law_X11_withdraw : GoodIn wsL_law (wsV RL 159 RX11 yX11_withdraw wsX11_withdraw) := goodIn_app (goodIn_of _ (by decide +kernel)) ggL_law_X11_withdraw
set_option maxRecDepth 20000 in
theorem ggL_law_X10_day : GoodIn wsL_law wsX10_day := goodIn_r _ [495, 16, 1158, 1159, 1160, 1161, 1162, 1163, 1164, 1189, 1190, 1191, 1192] (by decide +kernel) (by decide +kernel)
set_option maxRecDepth 20000 in
theorem gL_law_X10_day : GoodIn wsL_law (wsV RL 160 RX10 yX10_day wsX10_day) := goodIn_app (goodIn_of _ (by decide +kernel)) ggL_law_X10_day
set_option maxRecDepth 20000 in
theorem ggL_law_X11_day : GoodIn wsL_law wsX11_day := goodIn_r _ [499, 119, 500, 501, 502, 5, 503, 324, 1165, 1166, 1167, 1168, 1169, 1170, 1171, 1172, 1173, 1174, 1175, 1176, 1177, 1178, 1179, 1180, 1181, 1182, 1183, 1184, 1185, 1186, 1187, 1188] (by decide +kernel) (by decide +kernel)
set_option maxRecDepth 20000 in
theorem gL_law_X11_day : GoodIn wsL_law (wsV RL 163 RX11 yX11_day wsX11_day) := goodIn_app (goodIn_of _ (by decide +kernel)) ggL_law_X11_day
set_option maxRecDepth 20000 in
theorem ggL_law_X10_pamphlets : GoodIn wsL_law wsX10_pamphlets := goodIn_r _ [507, 16, 1158, 1159, 1160, 1161, 1162, 1163, 1164, 1189, 1190, 1191, 1192] (by decide +kernel) (by decide +kernel)
set_option maxRecDepth 20000 in
theorem gL_law_X10_pamphlets : GoodIn wsL_law (wsV RL 164 RX10 yX10_pamphlets wsX10_pamphlets) := goodIn_app (goodIn_of _ (by decide +kernel)) ggL_law_X10_pamphlets
set_option maxRecDepth 20000 in
theorem ggL_law_X11_pamphlets : GoodIn wsL_law wsX11_pamphlets := goodIn_r _ [511, 119, 500, 501, 502, 5, 503, 324, 1165, 1166, 1167, 1168, 1169, 1170, 1171, 1172, 1173, 1174, 1175, 1176, 1177, 1178, 1179, 1180, 1181, 1182, 1183, 1184, 1185, 1186, 1187, 1188] (by decide +kernel) (by decide +kernel)
set_option maxRecDepth 20000 in
theorem gL_law_X11_pamphlets : GoodIn wsL_law (wsV RL 167 RX11 yX11_pamphlets wsX11_pamphlets) := goodIn_app (goodIn_of _ (by decide +kernel)) ggL_law_X11_pamphlets
set_option maxRecDepth 20000 in
theorem ggL_law_L_authorOf : GoodIn wsL_law wsL_authorOf := goodIn_ca (goodIn_r _ [514, 352, 515, 516, 517, 2, 518, 16, 363, 364, 365, 366, 361, 362, 367, 221, 222, 15, 223, 224, 368, 231, 232, 233, 46, 49, 1158, 1159, 1160, 1161, 1162, 1163, 1164, 1212, 1213, 1214, 1215, 1216, 1217, 1218, 1219, 1189, 1190, 1191, 1192] (by decide +kernel) (by decide +kernel)) (goodIn_sub (fun _ h => List.mem_append_right _ h) (by decide +kernel))
set_option maxRecDepth 20000 in
theorem gL_law_L_authorOf : GoodIn wsL_law (va_wsS RL 168 yL_authorOf wsL_authorOf) := goodIn_app (goodIn_of _ (by decide +kernel)) ggL_law_L_authorOf
set_option maxRecDepth 20000 in
theorem ggL_law_X11_authorOf : GoodIn wsL_law wsX11_authorOf := goodIn_r _ [522, 523, 524, 525, 5, 526, 312, 313, 314, 315, 119, 276, 277, 278, 320, 321, 322, 323, 324, 316, 317, 318, 319, 1165, 1166, 1167, 1168, 1169, 1170, 1171, 1172, 1173, 1174, 1175, 1176, 1177, 1178, 1179, 1180, 1181, 1182, 1183, 1184, 1185, 1186, 1187, 1188] (by decide +kernel) (by decide +kernel)
set_option maxRecDepth 20000 in
theorem gL_law_X11_authorOf : GoodIn wsL_law (wsV RL 170 RX11 yX11_authorOf wsX11_authorOf) := goodIn_app (goodIn_of _ (by decide +kernel)) ggL_law_X11_authorOf
set_option maxRecDepth 20000 in
theorem ggL_law_L_dayOf : GoodIn wsL_law wsL_dayOf := goodIn_ca (goodIn_r _ [529, 352, 530, 531, 532, 2, 533, 16, 363, 364, 365, 366, 361, 362, 367, 221, 222, 15, 223, 224, 368, 231, 232, 233, 46, 49, 1158, 1159, 1160, 1161, 1162, 1163, 1164, 1212, 1213, 1214, 1215, 1216, 1217, 1218, 1219, 1189, 1190, 1191, 1192] (by decide +kernel) (by decide +kernel)) (goodIn_sub (fun _ h => List.mem_append_right _ h) (by decide +kernel))
set_option maxRecDepth 20000 in
theorem gL_law_L_dayOf : GoodIn wsL_law (va_wsS RL 171 yL_dayOf wsL_dayOf) := goodIn_app (goodIn_of _ (by decide +kernel)) ggL_law_L_dayOf
set_option maxRecDepth 20000 in
theorem ggL_law_X11_dayOf : GoodIn wsL_law wsX11_dayOf := goodIn_r _ [537, 523, 524, 525, 5, 526, 312, 313, 314, 315, 119, 276, 277, 278, 320, 321, 322, 323, 324, 316, 317, 318, 319, 1165, 1166, 1167, 1168, 1169, 1170, 1171, 1172, 1173, 1174, 1175, 1176, 1177, 1178, 1179, 1180, 1181, 1182, 1183, 1184, 1185, 1186, 1187, 1188] (by decide +kernel) (by decide +kernel)
set_option maxRecDepth 20000 in
theorem gL_law_X11_dayOf : GoodIn wsL_law (wsV RL 173 RX11 yX11_dayOf wsX11_dayOf) := goodIn_app (goodIn_of _ (by decide +kernel)) ggL_law_X11_dayOf
set_option maxRecDepth 20000 in
theorem ggL_law_L_wordsOf : GoodIn wsL_law wsL_wordsOf := goodIn_ca (goodIn_r _ [540, 352, 541, 542, 543, 2, 544, 16, 363, 364, 365, 366, 361, 362, 367, 221, 222, 15, 223, 224, 368, 231, 232, 233, 46, 49, 1158, 1159, 1160, 1161, 1162, 1163, 1164, 1212, 1213, 1214, 1215, 1216, 1217, 1218, 1219, 1189, 1190, 1191, 1192] (by decide +kernel) (by decide +kernel)) (goodIn_sub (fun _ h => List.mem_append_right _ h) (by decide +kernel))
set_option maxRecDepth 20000 in
theorem gL_law_L_wordsOf : GoodIn wsL_law (va_wsS RL 174 yL_wordsOf wsL_wordsOf) := goodIn_app (goodIn_of _ (by decide +kernel)) ggL_law_L_wordsOf
set_option maxRecDepth 20000 in
theorem ggL_law_X11_wordsOf : GoodIn wsL_law wsX11_wordsOf := goodIn_r _ [548, 523, 524, 525, 5, 526, 312, 313, 314, 315, 119, 276, 277, 278, 320, 321, 322, 323, 324, 316, 317, 318, 319, 1165, 1166, 1167, 1168, 1169, 1170, 1171, 1172, 1173, 1174, 1175, 1176, 1177, 1178, 1179, 1180, 1181, 1182, 1183, 1184, 1185, 1186, 1187, 1188] (by decide +kernel) (by decide +kernel)
set_option maxRecDepth 20000 in
theorem gL_law_X11_wordsOf : GoodIn wsL_law (wsV RL 176 RX11 yX11_wordsOf wsX11_wordsOf) := goodIn_app (goodIn_of _ (by decide +kernel)) ggL_law_X11_wordsOf
set_option maxRecDepth 20000 in
theorem ggL_law_L_pagesOf : GoodIn wsL_law wsL_pagesOf := goodIn_ca (goodIn_r _ [551, 352, 552, 553, 554, 2, 555, 16, 363, 364, 365, 366, 361, 362, 367, 221, 222, 15, 223, 224, 368, 231, 232, 233, 46, 49, 556, 557, 558, 48, 559, 160, 1158, 1159, 1160, 1161, 1162, 1163, 1164, 1189, 1190, 1191, 1192, 1212, 1213, 1214, 1215, 1216, 1217, 1218, 1219] (by decide +kernel) (by decide +kernel)) (goodIn_sub (fun _ h => List.mem_append_right _ h) (by decide +kernel))
set_option maxRecDepth 20000 in
theorem gL_law_L_pagesOf : GoodIn wsL_law (va_wsS RL 177 yL_pagesOf wsL_pagesOf) := goodIn_app (goodIn_of _ (by decide +kernel)) ggL_law_L_pagesOf
set_option maxRecDepth 20000 in
theorem ggL_law_X11_pagesOf : GoodIn wsL_law wsX11_pagesOf := goodIn_r _ [563, 312, 313, 314, 5, 315, 119, 276, 277, 278, 320, 321, 322, 323, 324, 316, 317, 318, 319, 1165, 1166, 1167, 1168, 1169, 1170, 1171, 1172, 1173, 1174, 1175, 1176, 1177, 1178, 1179, 1180, 1181, 1182, 1183, 1184, 1185, 1186, 1187, 1188] (by decide +kernel) (by decide +kernel)
set_option maxRecDepth 20000 in
theorem gL_law_X11_pagesOf : GoodIn wsL_law (wsV RL 179 RX11 yX11_pagesOf wsX11_pagesOf) := goodIn_app (goodIn_of _ (by decide +kernel)) ggL_law_X11_pagesOf
set_option maxRecDepth 20000 in
theorem ggL_law_L_wordsOn : GoodIn wsL_law wsL_wordsOn := goodIn_ca (goodIn_r _ [566, 352, 567, 568, 569, 2, 570, 361, 362, 16, 571, 387, 66, 388, 363, 364, 365, 366, 367, 221, 222, 15, 223, 224, 368, 231, 232, 233, 46, 49, 556, 557, 558, 48, 559, 160, 1158, 1159, 1160, 1161, 1162, 1163, 1164, 1212, 1213, 1214, 1215, 1216, 1217, 1218, 1219, 1189, 1190, 1191, 1192] (by decide +kernel) (by decide +kernel)) (goodIn_sub (fun _ h => List.mem_append_right _ h) (by decide +kernel))
set_option maxRecDepth 20000 in
theorem gL_law_L_wordsOn : GoodIn wsL_law (va_wsS RL 180 yL_wordsOn wsL_wordsOn) := goodIn_app (goodIn_of _ (by decide +kernel)) ggL_law_L_wordsOn
set_option maxRecDepth 20000 in
theorem ggL_law_X11_wordsOn : GoodIn wsL_law wsX11_wordsOn := goodIn_r _ [575, 312, 313, 314, 5, 315, 119, 276, 277, 278, 316, 317, 318, 319, 320, 321, 322, 323, 324, 1165, 1166, 1167, 1168, 1169, 1170, 1171, 1172, 1173, 1174, 1175, 1176, 1177, 1178, 1179, 1180, 1181, 1182, 1183, 1184, 1185, 1186, 1187, 1188] (by decide +kernel) (by decide +kernel)
set_option maxRecDepth 20000 in
theorem gL_law_X11_wordsOn : GoodIn wsL_law (wsV RL 182 RX11 yX11_wordsOn wsX11_wordsOn) := goodIn_app (goodIn_of _ (by decide +kernel)) ggL_law_X11_wordsOn
set_option maxRecDepth 20000 in
theorem ggL_law_L_letterOf : GoodIn wsL_law wsL_letterOf := goodIn_ca (goodIn_r _ [578, 352, 579, 580, 581, 2, 582, 16, 583, 584, 585, 586, 361, 362, 363, 364, 365, 366, 367, 221, 222, 15, 223, 224, 368, 231, 232, 233, 46, 49, 587, 588, 589, 590, 195, 196, 55, 197, 68, 591, 592, 593, 1158, 1159, 1160, 1161, 1162, 1163, 1164, 1212, 1213, 1214, 1215, 1216, 1217, 1218, 1219, 1189, 1190, 1191, 1192, 1220] (by decide +kernel) (by decide +kernel)) (goodIn_sub (fun _ h => List.mem_append_right _ h) (by decide +kernel))
set_option maxRecDepth 20000 in
theorem gL_law_L_letterOf : GoodIn wsL_law (va_wsS RL 183 yL_letterOf wsL_letterOf) := goodIn_app (goodIn_of _ (by decide +kernel)) ggL_law_L_letterOf
set_option maxRecDepth 20000 in
theorem ggL_law_X11_letterOf : GoodIn wsL_law wsX11_letterOf := goodIn_r _ [597, 598, 599, 600, 5, 601, 312, 313, 314, 315, 119, 276, 277, 278, 316, 317, 318, 319, 320, 321, 322, 323, 324, 450, 451, 452, 453, 120, 602, 603, 604, 605, 1165, 1166, 1167, 1168, 1169, 1170, 1171, 1172, 1173, 1174, 1175, 1176, 1177, 1178, 1179, 1180, 1181, 1182, 1183, 1184, 1185, 1186, 1187, 1188] (by decide +kernel) (by decide +kernel)
set_option maxRecDepth 20000 in
theorem gL_law_X11_letterOf : GoodIn wsL_law (wsV RL 186 RX11 yX11_letterOf wsX11_letterOf) := goodIn_app (goodIn_of _ (by decide +kernel)) ggL_law_X11_letterOf
set_option maxRecDepth 20000 in
theorem ggL_law_L_isSameWord : GoodIn wsL_law wsL_isSameWord := goodIn_ca (goodIn_r _ [608, 352, 609, 610, 611, 2, 612, 16, 583, 584, 585, 586, 361, 362, 363, 364, 365, 366, 367, 221, 222, 15, 223, 224, 368, 231, 232, 233, 46, 49, 590, 195, 196, 55, 197, 68, 1158, 1159, 1160, 1161, 1162, 1163, 1164, 1212, 1213, 1214, 1215, 1216, 1217, 1218, 1219, 1189, 1190, 1191, 1192, 1220] (by decide +kernel) (by decide +kernel)) (goodIn_sub (fun _ h => List.mem_append_right _ h) (by decide +kernel))
set_option maxRecDepth 20000 in
theorem gL_law_L_isSameWord : GoodIn wsL_law (va_wsS RL 187 yL_isSameWord wsL_isSameWord) := goodIn_app (goodIn_of _ (by decide +kernel)) ggL_law_L_isSameWord
set_option maxRecDepth 20000 in
theorem ggL_law_X11_isSameWord : GoodIn wsL_law wsX11_isSameWord := goodIn_r _ [616, 598, 599, 600, 5, 601, 312, 313, 314, 315, 119, 276, 277, 278, 316, 317, 318, 319, 320, 321, 322, 323, 324, 450, 451, 452, 453, 120, 1165, 1166, 1167, 1168, 1169, 1170, 1171, 1172, 1173, 1174, 1175, 1176, 1177, 1178, 1179, 1180, 1181, 1182, 1183, 1184, 1185, 1186, 1187, 1188] (by decide +kernel) (by decide +kernel)
set_option maxRecDepth 20000 in
theorem gL_law_X11_isSameWord : GoodIn wsL_law (wsV RL 190 RX11 yX11_isSameWord wsX11_isSameWord) := goodIn_app (goodIn_of _ (by decide +kernel)) ggL_law_X11_isSameWord
set_option maxRecDepth 20000 in
theorem ggL_law_X10_whyNotPrinted : GoodIn wsL_law wsX10_whyNotPrinted := goodIn_r _ [149, 16, 28, 24, 150, 151, 152, 27, 153, 87, 154, 155, 156, 157, 158, 48, 159, 160, 161, 162, 163, 164, 55, 165, 68, 166, 167, 168, 169, 170, 171, 172, 173, 174, 175, 176, 177, 178, 179, 180, 2, 181, 182, 183, 184, 185, 56, 186, 187, 188, 189, 190, 191, 192, 193, 194, 195, 196, 197, 198, 199, 200, 201, 202, 203, 204, 205, 206, 57, 58, 59, 207, 208, 209, 210, 211, 212, 213, 214, 215, 216, 217, 15, 218, 219, 220, 221, 222, 223, 224, 225, 226, 227, 228, 229, 230, 231, 232, 233, 46, 49, 1158, 1159, 1160, 1161, 1162, 1163, 1164, 1189, 1190, 1191, 1192, 1200, 1201, 1202, 1203, 1204, 1198, 1199, 1212, 1213, 1214, 1215, 1216, 1217, 1218, 1219, 1220] (by decide +kernel) (by decide +kernel)
set_option maxRecDepth 20000 in
theorem gL_law_X10_whyNotPrinted : GoodIn wsL_law (wsV RL 191 RX10 yX10_whyNotPrinted wsX10_whyNotPrinted) := goodIn_app (goodIn_of _ (by decide +kernel)) ggL_law_X10_whyNotPrinted
set_option maxRecDepth 20000 in
theorem ggL_law_X11_whyNotPrinted : GoodIn wsL_law wsX11_whyNotPrinted := goodIn_r _ [621, 279, 280, 281, 5, 282, 119, 283, 284, 285, 286, 287, 288, 270, 271, 272, 289, 290, 291, 292, 293, 294, 295, 296, 123, 297, 298, 299, 300, 301, 302, 303, 304, 120, 276, 277, 278, 305, 306, 307, 308, 309, 310, 311, 312, 313, 314, 315, 316, 317, 318, 319, 500, 501, 502, 503, 324, 1165, 1166, 1167, 1168, 1169, 1170, 1171, 1172, 1173, 1174, 1175, 1176, 1177, 1178, 1179, 1180, 1181, 1182, 1183, 1184, 1185, 1186, 1187, 1188] (by decide +kernel) (by decide +kernel)
set_option maxRecDepth 20000 in
theorem gL_law_X11_whyNotPrinted : GoodIn wsL_law (wsV RL 194 RX11 yX11_whyNotPrinted wsX11_whyNotPrinted) := goodIn_app (goodIn_of _ (by decide +kernel)) ggL_law_X11_whyNotPrinted
set_option maxRecDepth 20000 in
theorem ggL_law_L_quotationsOf : GoodIn wsL_law wsL_quotationsOf := goodIn_ca (goodIn_r _ [624, 352, 625, 626, 627, 2, 628, 16, 363, 364, 365, 366, 361, 362, 367, 221, 222, 15, 223, 224, 368, 231, 232, 233, 46, 49, 1158, 1159, 1160, 1161, 1162, 1163, 1164, 1212, 1213, 1214, 1215, 1216, 1217, 1218, 1219, 1189, 1190, 1191, 1192] (by decide +kernel) (by decide +kernel)) (goodIn_sub (fun _ h => List.mem_append_right _ h) (by decide +kernel))
set_option maxRecDepth 20000 in
theorem gL_law_L_quotationsOf : GoodIn wsL_law (va_wsS RL 195 yL_quotationsOf wsL_quotationsOf) := goodIn_app (goodIn_of _ (by decide +kernel)) ggL_law_L_quotationsOf
set_option maxRecDepth 20000 in
theorem ggL_law_X11_quotationsOf : GoodIn wsL_law wsX11_quotationsOf := goodIn_r _ [632, 523, 524, 525, 5, 526, 312, 313, 314, 315, 119, 276, 277, 278, 320, 321, 322, 323, 324, 316, 317, 318, 319, 1165, 1166, 1167, 1168, 1169, 1170, 1171, 1172, 1173, 1174, 1175, 1176, 1177, 1178, 1179, 1180, 1181, 1182, 1183, 1184, 1185, 1186, 1187, 1188] (by decide +kernel) (by decide +kernel)
set_option maxRecDepth 20000 in
theorem gL_law_X11_quotationsOf : GoodIn wsL_law (wsV RL 197 RX11 yX11_quotationsOf wsX11_quotationsOf) := goodIn_app (goodIn_of _ (by decide +kernel)) ggL_law_X11_quotationsOf
set_option maxRecDepth 20000 in
theorem ggL_law_L_sourceOf : GoodIn wsL_law wsL_sourceOf := goodIn_ca (goodIn_r _ [635, 352, 636, 637, 638, 2, 639, 16, 357, 358, 359, 360, 361, 362, 363, 364, 365, 366, 367, 221, 222, 15, 223, 224, 368, 231, 232, 233, 46, 49, 640, 163, 164, 55, 165, 68, 1158, 1159, 1160, 1161, 1162, 1163, 1164, 1212, 1213, 1214, 1215, 1216, 1217, 1218, 1219, 1189, 1190, 1191, 1192, 1220] (by decide +kernel) (by decide +kernel)) (goodIn_sub (fun _ h => List.mem_append_right _ h) (by decide +kernel))
set_option maxRecDepth 20000 in
theorem gL_law_L_sourceOf : GoodIn wsL_law (va_wsS RL 198 yL_sourceOf wsL_sourceOf) := goodIn_app (goodIn_of _ (by decide +kernel)) ggL_law_L_sourceOf
set_option maxRecDepth 20000 in
theorem ggL_law_X11_sourceOf : GoodIn wsL_law wsX11_sourceOf := goodIn_r _ [644, 645, 646, 647, 5, 648, 423, 424, 425, 426, 312, 313, 314, 315, 119, 276, 277, 278, 316, 317, 318, 319, 320, 321, 322, 323, 324, 433, 434, 435, 436, 1165, 1166, 1167, 1168, 1169, 1170, 1171, 1172, 1173, 1174, 1175, 1176, 1177, 1178, 1179, 1180, 1181, 1182, 1183, 1184, 1185, 1186, 1187, 1188] (by decide +kernel) (by decide +kernel)
set_option maxRecDepth 20000 in
theorem gL_law_X11_sourceOf : GoodIn wsL_law (wsV RL 200 RX11 yX11_sourceOf wsX11_sourceOf) := goodIn_app (goodIn_of _ (by decide +kernel)) ggL_law_X11_sourceOf
set_option maxRecDepth 20000 in
theorem ggL_law_L_beginOf : GoodIn wsL_law wsL_beginOf := goodIn_ca (goodIn_r _ [651, 352, 652, 653, 654, 2, 655, 16, 357, 358, 359, 360, 361, 362, 363, 364, 365, 366, 367, 221, 222, 15, 223, 224, 368, 231, 232, 233, 46, 49, 640, 163, 164, 55, 165, 68, 1158, 1159, 1160, 1161, 1162, 1163, 1164, 1212, 1213, 1214, 1215, 1216, 1217, 1218, 1219, 1189, 1190, 1191, 1192, 1220] (by decide +kernel) (by decide +kernel)) (goodIn_sub (fun _ h => List.mem_append_right _ h) (by decide +kernel))
set_option maxRecDepth 20000 in
theorem gL_law_L_beginOf : GoodIn wsL_law (va_wsS RL 201 yL_beginOf wsL_beginOf) := goodIn_app (goodIn_of _ (by decide +kernel)) ggL_law_L_beginOf
set_option maxRecDepth 20000 in
theorem ggL_law_X11_beginOf : GoodIn wsL_law wsX11_beginOf := goodIn_r _ [659, 645, 646, 647, 5, 648, 423, 424, 425, 426, 312, 313, 314, 315, 119, 276, 277, 278, 316, 317, 318, 319, 320, 321, 322, 323, 324, 458, 459, 460, 461, 1165, 1166, 1167, 1168, 1169, 1170, 1171, 1172, 1173, 1174, 1175, 1176, 1177, 1178, 1179, 1180, 1181, 1182, 1183, 1184, 1185, 1186, 1187, 1188] (by decide +kernel) (by decide +kernel)
set_option maxRecDepth 20000 in
theorem gL_law_X11_beginOf : GoodIn wsL_law (wsV RL 203 RX11 yX11_beginOf wsX11_beginOf) := goodIn_app (goodIn_of _ (by decide +kernel)) ggL_law_X11_beginOf
set_option maxRecDepth 20000 in
theorem ggL_law_L_lengthOf : GoodIn wsL_law wsL_lengthOf := goodIn_ca (goodIn_r _ [662, 352, 663, 664, 665, 2, 666, 16, 357, 358, 359, 360, 361, 362, 363, 364, 365, 366, 367, 221, 222, 15, 223, 224, 368, 231, 232, 233, 46, 49, 640, 163, 164, 55, 165, 68, 1158, 1159, 1160, 1161, 1162, 1163, 1164, 1212, 1213, 1214, 1215, 1216, 1217, 1218, 1219, 1189, 1190, 1191, 1192, 1220] (by decide +kernel) (by decide +kernel)) (goodIn_sub (fun _ h => List.mem_append_right _ h) (by decide +kernel))
set_option maxRecDepth 20000 in
theorem gL_law_L_lengthOf : GoodIn wsL_law (va_wsS RL 204 yL_lengthOf wsL_lengthOf) := goodIn_app (goodIn_of _ (by decide +kernel)) ggL_law_L_lengthOf
set_option maxRecDepth 20000 in
theorem ggL_law_X11_lengthOf : GoodIn wsL_law wsX11_lengthOf := goodIn_r _ [670, 645, 646, 647, 5, 648, 423, 424, 425, 426, 312, 313, 314, 315, 119, 276, 277, 278, 316, 317, 318, 319, 320, 321, 322, 323, 324, 442, 443, 444, 445, 1165, 1166, 1167, 1168, 1169, 1170, 1171, 1172, 1173, 1174, 1175, 1176, 1177, 1178, 1179, 1180, 1181, 1182, 1183, 1184, 1185, 1186, 1187, 1188] (by decide +kernel) (by decide +kernel)
set_option maxRecDepth 20000 in
theorem gL_law_X11_lengthOf : GoodIn wsL_law (wsV RL 206 RX11 yX11_lengthOf wsX11_lengthOf) := goodIn_app (goodIn_of _ (by decide +kernel)) ggL_law_X11_lengthOf
set_option maxRecDepth 20000 in
theorem ggL_law_L_changesByTable : GoodIn wsL_law wsL_changesByTable := goodIn_ca (goodIn_r _ [673, 352, 674, 675, 676, 2, 677, 32, 16, 357, 358, 359, 360, 361, 362, 363, 364, 365, 366, 367, 221, 222, 15, 223, 224, 368, 231, 232, 233, 46, 49, 369, 370, 371, 31, 372, 94, 373, 374, 163, 164, 55, 165, 68, 375, 376, 377, 93, 378, 99, 379, 380, 187, 188, 189, 381, 195, 196, 197, 382, 383, 384, 385, 386, 387, 66, 388, 389, 390, 391, 392, 393, 394, 395, 1158, 1159, 1160, 1161, 1162, 1163, 1164, 1212, 1213, 1214, 1215, 1216, 1217, 1218, 1219, 1189, 1190, 1191, 1192, 1205, 1206, 1207, 1221, 1222, 1223, 1224, 1220] (by decide +kernel) (by decide +kernel)) (goodIn_sub (fun _ h => List.mem_append_right _ h) (by decide +kernel))
set_option maxRecDepth 20000 in
theorem gL_law_L_changesByTable : GoodIn wsL_law (va_wsS RL 207 yL_changesByTable wsL_changesByTable) := goodIn_app (goodIn_of _ (by decide +kernel)) ggL_law_L_changesByTable
set_option maxRecDepth 20000 in
theorem ggL_law_X11_changesByTable : GoodIn wsL_law wsX11_changesByTable := goodIn_r _ [681, 645, 646, 647, 5, 648, 423, 424, 425, 426, 312, 313, 314, 315, 119, 276, 277, 278, 316, 317, 318, 319, 320, 321, 322, 323, 324, 682, 683, 684, 685, 124, 442, 443, 444, 445, 433, 434, 435, 436, 446, 447, 448, 449, 450, 451, 452, 453, 120, 454, 455, 456, 457, 458, 459, 460, 461, 1165, 1166, 1167, 1168, 1169, 1170, 1171, 1172, 1173, 1174, 1175, 1176, 1177, 1178, 1179, 1180, 1181, 1182, 1183, 1184, 1185, 1186, 1187, 1188] (by decide +kernel) (by decide +kernel)
set_option maxRecDepth 20000 in
theorem gL_law_X11_changesByTable : GoodIn wsL_law (wsV RL 209 RX11 yX11_changesByTable wsX11_changesByTable) := goodIn_app (goodIn_of _ (by decide +kernel)) ggL_law_X11_changesByTable
set_option maxRecDepth 20000 in
theorem ggL_law_L_changesByPassages : GoodIn wsL_law wsL_changesByPassages := goodIn_ca (goodIn_r _ [688, 352, 689, 690, 691, 2, 692, 32, 16, 357, 358, 359, 360, 361, 362, 363, 364, 365, 366, 367, 221, 222, 15, 223, 224, 368, 231, 232, 233, 46, 49, 693, 694, 695, 31, 696, 94, 373, 374, 163, 164, 55, 165, 68, 697, 698, 699, 93, 700, 386, 387, 66, 388, 379, 701, 702, 703, 704, 99, 380, 187, 188, 189, 381, 195, 196, 197, 382, 383, 384, 385, 1158, 1159, 1160, 1161, 1162, 1163, 1164, 1212, 1213, 1214, 1215, 1216, 1217, 1218, 1219, 1189, 1190, 1191, 1192, 1205, 1206, 1207, 1220, 1221, 1222, 1223, 1224] (by decide +kernel) (by decide +kernel)) (goodIn_sub (fun _ h => List.mem_append_right _ h) (by decide +kernel))
set_option maxRecDepth 20000 in
theorem gL_law_L_changesByPassages : GoodIn wsL_law (va_wsS RL 210 yL_changesByPassages wsL_changesByPassages) := goodIn_app (goodIn_of _ (by decide +kernel)) ggL_law_L_changesByPassages
set_option maxRecDepth 20000 in
theorem ggL_law_X11_changesByPassages : GoodIn wsL_law wsX11_changesByPassages := goodIn_r _ [708, 645, 646, 647, 5, 648, 423, 424, 425, 426, 312, 313, 314, 315, 119, 276, 277, 278, 316, 317, 318, 319, 320, 321, 322, 323, 324, 709, 710, 711, 712, 431, 433, 434, 435, 436, 437, 438, 439, 440, 124, 441, 432, 442, 443, 444, 445, 446, 447, 448, 449, 450, 451, 452, 453, 120, 454, 455, 456, 457, 458, 459, 460, 461, 1165, 1166, 1167, 1168, 1169, 1170, 1171, 1172, 1173, 1174, 1175, 1176, 1177, 1178, 1179, 1180, 1181, 1182, 1183, 1184, 1185, 1186, 1187, 1188] (by decide +kernel) (by decide +kernel)
set_option maxRecDepth 20000 in
theorem gL_law_X11_changesByPassages : GoodIn wsL_law (wsV RL 212 RX11 yX11_changesByPassages wsX11_changesByPassages) := goodIn_app (goodIn_of _ (by decide +kernel)) ggL_law_X11_changesByPassages
set_option maxRecDepth 20000 in
theorem ggL_law_L_passageOf : GoodIn wsL_law wsL_passageOf := goodIn_ca (goodIn_r _ [715, 352, 716, 717, 718, 2, 719, 32, 16, 357, 358, 359, 360, 361, 362, 363, 364, 365, 366, 367, 221, 222, 15, 223, 224, 368, 231, 232, 233, 46, 49, 369, 370, 371, 31, 372, 94, 373, 374, 163, 164, 55, 165, 68, 375, 376, 377, 93, 378, 99, 379, 380, 187, 188, 189, 381, 195, 196, 197, 382, 383, 384, 385, 386, 387, 66, 388, 389, 390, 391, 392, 393, 394, 395, 1158, 1159, 1160, 1161, 1162, 1163, 1164, 1205, 1206, 1207, 1221, 1222, 1223, 1224, 1212, 1213, 1214, 1215, 1216, 1217, 1218, 1219, 1189, 1190, 1191, 1192, 1220] (by decide +kernel) (by decide +kernel)) (goodIn_sub (fun _ h => List.mem_append_right _ h) (by decide +kernel))
set_option maxRecDepth 20000 in
theorem gL_law_L_passageOf : GoodIn wsL_law (va_wsS RL 213 yL_passageOf wsL_passageOf) := goodIn_app (goodIn_of _ (by decide +kernel)) ggL_law_L_passageOf
set_option maxRecDepth 20000 in
theorem ggL_law_X11_passageOf : GoodIn wsL_law wsX11_passageOf := goodIn_r _ [723, 441, 645, 646, 647, 5, 648, 423, 424, 425, 426, 312, 313, 314, 315, 119, 276, 277, 278, 316, 317, 318, 319, 320, 321, 322, 323, 324, 433, 434, 435, 436, 437, 438, 439, 440, 431, 124, 432, 442, 443, 444, 445, 446, 447, 448, 449, 450, 451, 452, 453, 120, 454, 455, 456, 457, 458, 459, 460, 461, 1165, 1166, 1167, 1168, 1169, 1170, 1171, 1172, 1173, 1174, 1175, 1176, 1177, 1178, 1179, 1180, 1181, 1182, 1183, 1184, 1185, 1186, 1187, 1188] (by decide +kernel) (by decide +kernel)
set_option maxRecDepth 20000 in
theorem gL_law_X11_passageOf : GoodIn wsL_law (wsV RL 215 RX11 yX11_passageOf wsX11_passageOf) := goodIn_app (goodIn_of _ (by decide +kernel)) ggL_law_X11_passageOf
set_option maxRecDepth 20000 in
theorem ggL_law_L_passageLength : GoodIn wsL_law wsL_passageLength := goodIn_ca (goodIn_r _ [726, 352, 727, 728, 729, 2, 730, 32, 16, 357, 358, 359, 360, 361, 362, 363, 364, 365, 366, 367, 221, 222, 15, 223, 224, 368, 231, 232, 233, 46, 49, 369, 370, 371, 31, 372, 94, 373, 374, 163, 164, 55, 165, 68, 375, 376, 377, 93, 378, 99, 379, 380, 187, 188, 189, 381, 195, 196, 197, 382, 383, 384, 385, 386, 387, 66, 388, 389, 390, 391, 392, 393, 394, 395, 1158, 1159, 1160, 1161, 1162, 1163, 1164, 1205, 1206, 1207, 1221, 1222, 1223, 1224, 1212, 1213, 1214, 1215, 1216, 1217, 1218, 1219, 1189, 1190, 1191, 1192, 1220] (by decide +kernel) (by decide +kernel)) (goodIn_sub (fun _ h => List.mem_append_right _ h) (by decide +kernel))
set_option maxRecDepth 20000 in
theorem gL_law_L_passageLength : GoodIn wsL_law (va_wsS RL 216 yL_passageLength wsL_passageLength) := goodIn_app (goodIn_of _ (by decide +kernel)) ggL_law_L_passageLength
set_option maxRecDepth 20000 in
theorem ggL_law_X11_passageLength : GoodIn wsL_law wsX11_passageLength := goodIn_r _ [734, 432, 645, 646, 647, 5, 648, 423, 424, 425, 426, 312, 313, 314, 315, 119, 276, 277, 278, 316, 317, 318, 319, 320, 321, 322, 323, 324, 433, 434, 435, 436, 437, 438, 439, 440, 431, 124, 441, 442, 443, 444, 445, 446, 447, 448, 449, 450, 451, 452, 453, 120, 454, 455, 456, 457, 458, 459, 460, 461, 1165, 1166, 1167, 1168, 1169, 1170, 1171, 1172, 1173, 1174, 1175, 1176, 1177, 1178, 1179, 1180, 1181, 1182, 1183, 1184, 1185, 1186, 1187, 1188] (by decide +kernel) (by decide +kernel)
set_option maxRecDepth 20000 in
theorem gL_law_X11_passageLength : GoodIn wsL_law (wsV RL 218 RX11 yX11_passageLength wsX11_passageLength) := goodIn_app (goodIn_of _ (by decide +kernel)) ggL_law_X11_passageLength
set_option maxRecDepth 20000 in
theorem ggL_law_L_pageOf : GoodIn wsL_law wsL_pageOf := goodIn_ca (goodIn_r _ [737, 352, 738, 739, 740, 2, 741, 32, 16, 357, 358, 359, 360, 361, 362, 363, 364, 365, 366, 367, 221, 222, 15, 223, 224, 368, 231, 232, 233, 46, 49, 369, 370, 371, 31, 372, 94, 373, 374, 163, 164, 55, 165, 68, 375, 376, 377, 93, 378, 99, 379, 380, 187, 188, 189, 381, 195, 196, 197, 382, 383, 384, 385, 386, 387, 66, 388, 389, 390, 391, 392, 393, 394, 395, 1158, 1159, 1160, 1161, 1162, 1163, 1164, 1205, 1206, 1207, 1221, 1222, 1223, 1224, 1212, 1213, 1214, 1215, 1216, 1217, 1218, 1219, 1189, 1190, 1191, 1192, 1220] (by decide +kernel) (by decide +kernel)) (goodIn_sub (fun _ h => List.mem_append_right _ h) (by decide +kernel))
set_option maxRecDepth 20000 in
theorem gL_law_L_pageOf : GoodIn wsL_law (va_wsS RL 219 yL_pageOf wsL_pageOf) := goodIn_app (goodIn_of _ (by decide +kernel)) ggL_law_L_pageOf
set_option maxRecDepth 20000 in
theorem ggL_law_X11_pageOf : GoodIn wsL_law wsX11_pageOf := goodIn_r _ [745, 441, 645, 646, 647, 5, 648, 423, 424, 425, 426, 312, 313, 314, 315, 119, 276, 277, 278, 316, 317, 318, 319, 320, 321, 322, 323, 324, 433, 434, 435, 436, 437, 438, 439, 440, 431, 124, 432, 442, 443, 444, 445, 446, 447, 448, 449, 450, 451, 452, 453, 120, 454, 455, 456, 457, 458, 459, 460, 461, 1165, 1166, 1167, 1168, 1169, 1170, 1171, 1172, 1173, 1174, 1175, 1176, 1177, 1178, 1179, 1180, 1181, 1182, 1183, 1184, 1185, 1186, 1187, 1188] (by decide +kernel) (by decide +kernel)
set_option maxRecDepth 20000 in
theorem gL_law_X11_pageOf : GoodIn wsL_law (wsV RL 221 RX11 yX11_pageOf wsX11_pageOf) := goodIn_app (goodIn_of _ (by decide +kernel)) ggL_law_X11_pageOf
set_option maxRecDepth 20000 in
theorem ggL_law_L_comesFrom : GoodIn wsL_law wsL_comesFrom := goodIn_ca (goodIn_r _ [748, 352, 749, 750, 751, 2, 752, 32, 16, 357, 358, 359, 360, 361, 362, 363, 364, 365, 366, 367, 221, 222, 15, 223, 224, 368, 231, 232, 233, 46, 49, 753, 754, 755, 31, 756, 94, 474, 370, 371, 372, 373, 374, 163, 164, 55, 165, 68, 375, 376, 377, 93, 378, 99, 379, 380, 187, 188, 189, 381, 195, 196, 197, 382, 383, 384, 385, 386, 387, 66, 388, 389, 390, 391, 392, 393, 394, 395, 757, 758, 759, 48, 760, 161, 761, 762, 763, 764, 58, 59, 404, 1158, 1159, 1160, 1161, 1162, 1163, 1164, 1212, 1213, 1214, 1215, 1216, 1217, 1218, 1219, 1189, 1190, 1191, 1192, 1205, 1206, 1207, 1221, 1222, 1223, 1224, 1220] (by decide +kernel) (by decide +kernel)) (goodIn_sub (fun _ h => List.mem_append_right _ h) (by decide +kernel))
set_option maxRecDepth 20000 in
theorem gL_law_L_comesFrom : GoodIn wsL_law (va_wsS RL 222 yL_comesFrom wsL_comesFrom) := goodIn_app (goodIn_of _ (by decide +kernel)) ggL_law_L_comesFrom
set_option maxRecDepth 20000 in
theorem ggL_law_X11_comesFrom : GoodIn wsL_law wsX11_comesFrom := goodIn_r _ [768, 645, 646, 647, 5, 648, 423, 424, 425, 426, 312, 313, 314, 315, 119, 276, 277, 278, 316, 317, 318, 319, 320, 321, 322, 323, 324, 769, 770, 771, 772, 441, 432, 433, 434, 435, 436, 437, 438, 439, 440, 431, 124, 442, 443, 444, 445, 446, 447, 448, 449, 450, 451, 452, 453, 120, 454, 455, 456, 457, 458, 459, 460, 461, 1165, 1166, 1167, 1168, 1169, 1170, 1171, 1172, 1173, 1174, 1175, 1176, 1177, 1178, 1179, 1180, 1181, 1182, 1183, 1184, 1185, 1186, 1187, 1188] (by decide +kernel) (by decide +kernel)
set_option maxRecDepth 20000 in
theorem gL_law_X11_comesFrom : GoodIn wsL_law (wsV RL 224 RX11 yX11_comesFrom wsX11_comesFrom) := goodIn_app (goodIn_of _ (by decide +kernel)) ggL_law_X11_comesFrom
set_option maxRecDepth 20000 in
theorem ggL_law_L_originOf : GoodIn wsL_law wsL_originOf := goodIn_ca (goodIn_r _ [775, 352, 776, 777, 778, 2, 779, 32, 16, 357, 358, 359, 360, 361, 362, 363, 364, 365, 366, 367, 221, 222, 15, 223, 224, 368, 231, 232, 233, 46, 49, 780, 781, 782, 31, 783, 784, 785, 373, 374, 163, 164, 55, 165, 68, 786, 754, 755, 756, 94, 474, 370, 371, 372, 375, 376, 377, 93, 378, 99, 379, 380, 187, 188, 189, 381, 195, 196, 197, 382, 383, 384, 385, 386, 387, 66, 388, 389, 390, 391, 392, 393, 394, 395, 757, 758, 759, 48, 760, 161, 761, 762, 763, 764, 58, 59, 404, 1158, 1159, 1160, 1161, 1162, 1163, 1164, 1205, 1206, 1207, 1212, 1213, 1214, 1215, 1216, 1217, 1218, 1219, 1189, 1190, 1191, 1192, 1220, 1221, 1222, 1223, 1224] (by decide +kernel) (by decide +kernel)) (goodIn_sub (fun _ h => List.mem_append_right _ h) (by decide +kernel))
set_option maxRecDepth 20000 in
theorem gL_law_L_originOf : GoodIn wsL_law (va_wsS RL 225 yL_originOf wsL_originOf) := goodIn_app (goodIn_of _ (by decide +kernel)) ggL_law_L_originOf
set_option maxRecDepth 20000 in
theorem ggL_law_X11_originOf : GoodIn wsL_law wsX11_originOf := goodIn_r _ [790, 791, 645, 646, 647, 5, 648, 423, 424, 425, 426, 312, 313, 314, 315, 119, 276, 277, 278, 316, 317, 318, 319, 320, 321, 322, 323, 324, 792, 793, 794, 795, 796, 769, 770, 771, 772, 441, 432, 433, 434, 435, 436, 437, 438, 439, 440, 431, 124, 442, 443, 444, 445, 446, 447, 448, 449, 450, 451, 452, 453, 120, 454, 455, 456, 457, 458, 459, 460, 461, 1165, 1166, 1167, 1168, 1169, 1170, 1171, 1172, 1173, 1174, 1175, 1176, 1177, 1178, 1179, 1180, 1181, 1182, 1183, 1184, 1185, 1186, 1187, 1188] (by decide +kernel) (by decide +kernel)
set_option maxRecDepth 20000 in
theorem gL_law_X11_originOf : GoodIn wsL_law (wsV RL 227 RX11 yX11_originOf wsX11_originOf) := goodIn_app (goodIn_of _ (by decide +kernel)) ggL_law_X11_originOf
set_option maxRecDepth 20000 in
theorem ggL_law_L_traceOf : GoodIn wsL_law wsL_traceOf := goodIn_ca (goodIn_r _ [799, 352, 800, 801, 802, 2, 803, 32, 16, 357, 358, 359, 360, 361, 362, 363, 364, 365, 366, 367, 221, 222, 15, 223, 224, 368, 231, 232, 233, 46, 49, 780, 781, 782, 31, 783, 784, 785, 373, 374, 163, 164, 55, 165, 68, 786, 754, 755, 756, 94, 474, 370, 371, 372, 375, 376, 377, 93, 378, 99, 379, 380, 187, 188, 189, 381, 195, 196, 197, 382, 383, 384, 385, 386, 387, 66, 388, 389, 390, 391, 392, 393, 394, 395, 757, 758, 759, 48, 760, 161, 761, 762, 763, 764, 58, 59, 404, 1158, 1159, 1160, 1161, 1162, 1163, 1164, 1205, 1206, 1207, 1212, 1213, 1214, 1215, 1216, 1217, 1218, 1219, 1189, 1190, 1191, 1192, 1220, 1221, 1222, 1223, 1224] (by decide +kernel) (by decide +kernel)) (goodIn_sub (fun _ h => List.mem_append_right _ h) (by decide +kernel))
set_option maxRecDepth 20000 in
theorem gL_law_L_traceOf : GoodIn wsL_law (va_wsS RL 228 yL_traceOf wsL_traceOf) := goodIn_app (goodIn_of _ (by decide +kernel)) ggL_law_L_traceOf
set_option maxRecDepth 20000 in
theorem ggL_law_X11_traceOf : GoodIn wsL_law wsX11_traceOf := goodIn_r _ [807, 796, 645, 646, 647, 5, 648, 423, 424, 425, 426, 312, 313, 314, 315, 119, 276, 277, 278, 316, 317, 318, 319, 320, 321, 322, 323, 324, 792, 793, 794, 795, 791, 769, 770, 771, 772, 441, 432, 433, 434, 435, 436, 437, 438, 439, 440, 431, 124, 442, 443, 444, 445, 446, 447, 448, 449, 450, 451, 452, 453, 120, 454, 455, 456, 457, 458, 459, 460, 461, 1165, 1166, 1167, 1168, 1169, 1170, 1171, 1172, 1173, 1174, 1175, 1176, 1177, 1178, 1179, 1180, 1181, 1182, 1183, 1184, 1185, 1186, 1187, 1188] (by decide +kernel) (by decide +kernel)
set_option maxRecDepth 20000 in
theorem gL_law_X11_traceOf : GoodIn wsL_law (wsV RL 230 RX11 yX11_traceOf wsX11_traceOf) := goodIn_app (goodIn_of _ (by decide +kernel)) ggL_law_X11_traceOf
set_option maxRecDepth 20000 in
theorem ggL_law_L_changesAtOrigin : GoodIn wsL_law wsL_changesAtOrigin := goodIn_ca (goodIn_r _ [810, 352, 811, 812, 813, 2, 814, 32, 16, 357, 358, 359, 360, 361, 362, 363, 364, 365, 366, 367, 221, 222, 15, 223, 224, 368, 231, 232, 233, 46, 49, 780, 781, 782, 31, 783, 784, 785, 373, 374, 163, 164, 55, 165, 68, 786, 754, 755, 756, 94, 474, 370, 371, 372, 375, 376, 377, 93, 378, 99, 379, 380, 187, 188, 189, 381, 195, 196, 197, 382, 383, 384, 385, 386, 387, 66, 388, 389, 390, 391, 392, 393, 394, 395, 757, 758, 759, 48, 760, 161, 761, 762, 763, 764, 58, 59, 404, 815, 816, 817, 818, 1158, 1159, 1160, 1161, 1162, 1163, 1164, 1212, 1213, 1214, 1215, 1216, 1217, 1218, 1219, 1189, 1190, 1191, 1192, 1205, 1206, 1207, 1220, 1221, 1222, 1223, 1224] (by decide +kernel) (by decide +kernel)) (goodIn_sub (fun _ h => List.mem_append_right _ h) (by decide +kernel))
set_option maxRecDepth 20000 in
theorem gL_law_L_changesAtOrigin : GoodIn wsL_law (va_wsS RL 231 yL_changesAtOrigin wsL_changesAtOrigin) := goodIn_app (goodIn_of _ (by decide +kernel)) ggL_law_L_changesAtOrigin
set_option maxRecDepth 20000 in
theorem ggL_law_X11_changesAtOrigin : GoodIn wsL_law wsX11_changesAtOrigin := goodIn_r _ [822, 791, 431, 645, 646, 647, 5, 648, 423, 424, 425, 426, 312, 313, 314, 315, 119, 276, 277, 278, 316, 317, 318, 319, 320, 321, 322, 323, 324, 792, 793, 794, 795, 796, 769, 770, 771, 772, 441, 432, 433, 434, 435, 436, 437, 438, 439, 440, 124, 442, 443, 444, 445, 446, 447, 448, 449, 450, 451, 452, 453, 120, 454, 455, 456, 457, 458, 459, 460, 461, 1165, 1166, 1167, 1168, 1169, 1170, 1171, 1172, 1173, 1174, 1175, 1176, 1177, 1178, 1179, 1180, 1181, 1182, 1183, 1184, 1185, 1186, 1187, 1188] (by decide +kernel) (by decide +kernel)
set_option maxRecDepth 20000 in
theorem gL_law_X11_changesAtOrigin : GoodIn wsL_law (wsV RL 233 RX11 yX11_changesAtOrigin wsX11_changesAtOrigin) := goodIn_app (goodIn_of _ (by decide +kernel)) ggL_law_X11_changesAtOrigin
set_option maxRecDepth 20000 in
theorem ggL_law_L_quotedAgain : GoodIn wsL_law wsL_quotedAgain := goodIn_ca (goodIn_r _ [825, 352, 826, 827, 828, 2, 829, 32, 16, 357, 358, 359, 360, 361, 362, 363, 364, 365, 366, 367, 221, 222, 15, 223, 224, 368, 231, 232, 233, 46, 49, 830, 831, 832, 31, 833, 94, 373, 374, 163, 164, 55, 165, 68, 474, 370, 371, 372, 375, 376, 377, 93, 378, 99, 379, 380, 187, 188, 189, 381, 195, 196, 197, 382, 383, 384, 385, 386, 387, 66, 388, 389, 390, 391, 392, 393, 394, 395, 834, 762, 763, 48, 764, 58, 59, 404, 1158, 1159, 1160, 1161, 1162, 1163, 1164, 1212, 1213, 1214, 1215, 1216, 1217, 1218, 1219, 1189, 1190, 1191, 1192, 1205, 1206, 1207, 1221, 1222, 1223, 1224, 1220] (by decide +kernel) (by decide +kernel)) (goodIn_sub (fun _ h => List.mem_append_right _ h) (by decide +kernel))
set_option maxRecDepth 20000 in
theorem gL_law_L_quotedAgain : GoodIn wsL_law (va_wsS RL 234 yL_quotedAgain wsL_quotedAgain) := goodIn_app (goodIn_of _ (by decide +kernel)) ggL_law_L_quotedAgain
set_option maxRecDepth 20000 in
theorem ggL_law_X11_quotedAgain : GoodIn wsL_law wsX11_quotedAgain := goodIn_r _ [838, 119, 645, 646, 647, 5, 648, 423, 424, 425, 426, 312, 313, 314, 315, 276, 277, 278, 316, 317, 318, 319, 320, 321, 322, 323, 324, 433, 434, 435, 436, 769, 770, 771, 772, 441, 432, 437, 438, 439, 440, 431, 124, 442, 443, 444, 445, 446, 447, 448, 449, 450, 451, 452, 453, 120, 454, 455, 456, 457, 458, 459, 460, 461, 1165, 1166, 1167, 1168, 1169, 1170, 1171, 1172, 1173, 1174, 1175, 1176, 1177, 1178, 1179, 1180, 1181, 1182, 1183, 1184, 1185, 1186, 1187, 1188] (by decide +kernel) (by decide +kernel)
set_option maxRecDepth 20000 in
theorem gL_law_X11_quotedAgain : GoodIn wsL_law (wsV RL 236 RX11 yX11_quotedAgain wsX11_quotedAgain) := goodIn_app (goodIn_of _ (by decide +kernel)) ggL_law_X11_quotedAgain
set_option maxRecDepth 20000 in
theorem ggL_law_L_blameOf : GoodIn wsL_law wsL_blameOf := goodIn_ca (goodIn_r _ [841, 352, 842, 843, 844, 2, 845, 32, 16, 846, 847, 848, 361, 362, 143, 144, 145, 849, 850, 851, 31, 852, 373, 231, 232, 15, 233, 46, 49, 853, 854, 855, 856, 374, 163, 164, 55, 165, 68, 474, 370, 371, 372, 94, 375, 376, 377, 93, 378, 99, 379, 380, 187, 188, 189, 381, 195, 196, 197, 382, 383, 384, 385, 386, 387, 66, 388, 389, 390, 391, 392, 393, 394, 395, 1158, 1159, 1160, 1161, 1162, 1163, 1164, 1189, 1190, 1191, 1192, 1212, 1213, 1214, 1215, 1216, 1217, 1218, 1219, 1220, 1205, 1206, 1207, 1221, 1222, 1223, 1224] (by decide +kernel) (by decide +kernel)) (goodIn_sub (fun _ h => List.mem_append_right _ h) (by decide +kernel))
set_option maxRecDepth 20000 in
theorem gL_law_L_blameOf : GoodIn wsL_law (va_wsS RL 237 yL_blameOf wsL_blameOf) := goodIn_app (goodIn_of _ (by decide +kernel)) ggL_law_L_blameOf
set_option maxRecDepth 20000 in
theorem ggL_law_X11_blameOf : GoodIn wsL_law wsX11_blameOf := goodIn_r _ [860, 273, 274, 5, 275, 276, 277, 278, 320, 321, 322, 323, 324, 861, 862, 863, 864, 119, 316, 317, 318, 319, 433, 434, 435, 436, 709, 710, 711, 712, 431, 437, 438, 439, 440, 124, 441, 432, 442, 443, 444, 445, 446, 447, 448, 449, 450, 451, 452, 453, 120, 454, 455, 456, 457, 458, 459, 460, 461, 1165, 1166, 1167, 1168, 1169, 1170, 1171, 1172, 1173, 1174, 1175, 1176, 1177, 1178, 1179, 1180, 1181, 1182, 1183, 1184, 1185, 1186, 1187, 1188] (by decide +kernel) (by decide +kernel)
set_option maxRecDepth 20000 in
theorem gL_law_X11_blameOf : GoodIn wsL_law (wsV RL 239 RX11 yX11_blameOf wsX11_blameOf) := goodIn_app (goodIn_of _ (by decide +kernel)) ggL_law_X11_blameOf
set_option maxRecDepth 20000 in
theorem ggL_law_L_wrongs : GoodIn wsL_law wsL_wrongs := goodIn_ca (goodIn_r _ [867, 352, 868, 869, 870, 2, 871, 32, 16, 846, 847, 848, 361, 362, 143, 144, 145, 849, 850, 851, 31, 852, 373, 231, 232, 15, 233, 46, 49, 853, 854, 855, 856, 374, 163, 164, 55, 165, 68, 474, 370, 371, 372, 94, 375, 376, 377, 93, 378, 99, 379, 380, 187, 188, 189, 381, 195, 196, 197, 382, 383, 384, 385, 386, 387, 66, 388, 389, 390, 391, 392, 393, 394, 395, 1158, 1159, 1160, 1161, 1162, 1163, 1164, 1189, 1190, 1191, 1192, 1212, 1213, 1214, 1215, 1216, 1217, 1218, 1219, 1220, 1205, 1206, 1207, 1221, 1222, 1223, 1224] (by decide +kernel) (by decide +kernel)) (goodIn_sub (fun _ h => List.mem_append_right _ h) (by decide +kernel))
set_option maxRecDepth 20000 in
theorem gL_law_L_wrongs : GoodIn wsL_law (va_wsS RL 240 yL_wrongs wsL_wrongs) := goodIn_app (goodIn_of _ (by decide +kernel)) ggL_law_L_wrongs
set_option maxRecDepth 20000 in
theorem ggL_law_X11_wrongs : GoodIn wsL_law wsX11_wrongs := goodIn_r _ [875, 273, 274, 5, 275, 276, 277, 278, 320, 321, 322, 323, 324, 861, 862, 863, 864, 119, 316, 317, 318, 319, 433, 434, 435, 436, 709, 710, 711, 712, 431, 437, 438, 439, 440, 124, 441, 432, 442, 443, 444, 445, 446, 447, 448, 449, 450, 451, 452, 453, 120, 454, 455, 456, 457, 458, 459, 460, 461, 1165, 1166, 1167, 1168, 1169, 1170, 1171, 1172, 1173, 1174, 1175, 1176, 1177, 1178, 1179, 1180, 1181, 1182, 1183, 1184, 1185, 1186, 1187, 1188] (by decide +kernel) (by decide +kernel)
set_option maxRecDepth 20000 in
theorem gL_law_X11_wrongs : GoodIn wsL_law (wsV RL 242 RX11 yX11_wrongs wsX11_wrongs) := goodIn_app (goodIn_of _ (by decide +kernel)) ggL_law_X11_wrongs
set_option maxRecDepth 20000 in
theorem ggL_law_X10_blameByAuthors : GoodIn wsL_law wsX10_blameByAuthors := goodIn_r _ [879, 32, 16, 849, 850, 851, 31, 852, 373, 231, 232, 15, 233, 46, 49, 853, 854, 855, 856, 374, 163, 164, 55, 165, 68, 474, 370, 371, 372, 94, 375, 376, 377, 93, 378, 99, 379, 380, 187, 188, 189, 381, 195, 196, 197, 382, 383, 384, 385, 386, 387, 66, 388, 389, 390, 391, 392, 393, 394, 395, 1158, 1159, 1160, 1161, 1162, 1163, 1164, 1189, 1190, 1191, 1192, 1212, 1213, 1214, 1215, 1216, 1217, 1218, 1219, 1220, 1205, 1206, 1207, 1221, 1222, 1223, 1224] (by decide +kernel) (by decide +kernel)
set_option maxRecDepth 20000 in
theorem gL_law_X10_blameByAuthors : GoodIn wsL_law (wsV RL 243 RX10 yX10_blameByAuthors wsX10_blameByAuthors) := goodIn_app (goodIn_of _ (by decide +kernel)) ggL_law_X10_blameByAuthors
set_option maxRecDepth 20000 in
theorem ggL_law_X11_blameByAuthors : GoodIn wsL_law wsX11_blameByAuthors := goodIn_r _ [883, 861, 862, 863, 5, 864, 119, 316, 317, 318, 319, 433, 434, 435, 436, 709, 710, 711, 712, 431, 437, 438, 439, 440, 124, 441, 432, 442, 443, 444, 445, 446, 447, 448, 449, 450, 451, 452, 453, 120, 454, 455, 456, 457, 458, 459, 460, 461, 500, 501, 502, 503, 324, 1165, 1166, 1167, 1168, 1169, 1170, 1171, 1172, 1173, 1174, 1175, 1176, 1177, 1178, 1179, 1180, 1181, 1182, 1183, 1184, 1185, 1186, 1187, 1188] (by decide +kernel) (by decide +kernel)
set_option maxRecDepth 20000 in
theorem gL_law_X11_blameByAuthors : GoodIn wsL_law (wsV RL 246 RX11 yX11_blameByAuthors wsX11_blameByAuthors) := goodIn_app (goodIn_of _ (by decide +kernel)) ggL_law_X11_blameByAuthors
set_option maxRecDepth 20000 in
theorem ggL_law_X10_blameBySources : GoodIn wsL_law wsX10_blameBySources := goodIn_r _ [887, 16, 32, 888, 889, 890, 31, 891, 373, 231, 232, 15, 233, 46, 49, 374, 163, 164, 55, 165, 68, 474, 370, 371, 372, 94, 375, 376, 377, 93, 378, 99, 379, 380, 187, 188, 189, 381, 195, 196, 197, 382, 383, 384, 385, 386, 387, 66, 388, 389, 390, 391, 392, 393, 394, 395, 1158, 1159, 1160, 1161, 1162, 1163, 1164, 1189, 1190, 1191, 1192, 1212, 1213, 1214, 1215, 1216, 1217, 1218, 1219, 1220, 1205, 1206, 1207, 1221, 1222, 1223, 1224] (by decide +kernel) (by decide +kernel)
set_option maxRecDepth 20000 in
theorem gL_law_X10_blameBySources : GoodIn wsL_law (wsV RL 247 RX10 yX10_blameBySources wsX10_blameBySources) := goodIn_app (goodIn_of _ (by decide +kernel)) ggL_law_X10_blameBySources
set_option maxRecDepth 20000 in
theorem ggL_law_X11_blameBySources : GoodIn wsL_law wsX11_blameBySources := goodIn_r _ [895, 119, 896, 897, 898, 5, 899, 316, 317, 318, 319, 433, 434, 435, 436, 682, 683, 684, 685, 124, 442, 443, 444, 445, 446, 447, 448, 449, 450, 451, 452, 453, 120, 454, 455, 456, 457, 458, 459, 460, 461, 500, 501, 502, 503, 324, 1165, 1166, 1167, 1168, 1169, 1170, 1171, 1172, 1173, 1174, 1175, 1176, 1177, 1178, 1179, 1180, 1181, 1182, 1183, 1184, 1185, 1186, 1187, 1188] (by decide +kernel) (by decide +kernel)
set_option maxRecDepth 20000 in
theorem gL_law_X11_blameBySources : GoodIn wsL_law (wsV RL 250 RX11 yX11_blameBySources wsX11_blameBySources) := goodIn_app (goodIn_of _ (by decide +kernel)) ggL_law_X11_blameBySources
set_option maxRecDepth 20000 in
theorem ggL_law_X10_faithfulShare : GoodIn wsL_law wsX10_faithfulShare := goodIn_r _ [903, 16, 32, 368, 231, 232, 15, 233, 46, 49, 904, 905, 906, 31, 907, 373, 474, 370, 371, 372, 94, 374, 163, 164, 55, 165, 68, 375, 376, 377, 93, 378, 99, 379, 380, 187, 188, 189, 381, 195, 196, 197, 382, 383, 384, 385, 386, 387, 66, 388, 389, 390, 391, 392, 393, 394, 395, 1158, 1159, 1160, 1161, 1162, 1163, 1164, 1189, 1190, 1191, 1192, 1212, 1213, 1214, 1215, 1216, 1217, 1218, 1219, 1205, 1206, 1207, 1221, 1222, 1223, 1224, 1220] (by decide +kernel) (by decide +kernel)
set_option maxRecDepth 20000 in
theorem gL_law_X10_faithfulShare : GoodIn wsL_law (wsV RL 251 RX10 yX10_faithfulShare wsX10_faithfulShare) := goodIn_app (goodIn_of _ (by decide +kernel)) ggL_law_X10_faithfulShare
set_option maxRecDepth 20000 in
theorem ggL_law_X11_faithfulShare : GoodIn wsL_law wsX11_faithfulShare := goodIn_r _ [911, 324, 119, 316, 317, 318, 5, 319, 682, 683, 684, 685, 124, 442, 443, 444, 445, 433, 434, 435, 436, 446, 447, 448, 449, 450, 451, 452, 453, 120, 454, 455, 456, 457, 458, 459, 460, 461, 1165, 1166, 1167, 1168, 1169, 1170, 1171, 1172, 1173, 1174, 1175, 1176, 1177, 1178, 1179, 1180, 1181, 1182, 1183, 1184, 1185, 1186, 1187, 1188] (by decide +kernel) (by decide +kernel)
set_option maxRecDepth 20000 in
theorem gL_law_X11_faithfulShare : GoodIn wsL_law (wsV RL 255 RX11 yX11_faithfulShare wsX11_faithfulShare) := goodIn_app (goodIn_of _ (by decide +kernel)) ggL_law_X11_faithfulShare
set_option maxRecDepth 20000 in
theorem ggL_law_L_answers : GoodIn wsL_law wsL_answers := goodIn_ca (goodIn_r _ [914, 352, 915, 916, 917, 2, 918, 16, 363, 364, 365, 366, 361, 362, 367, 221, 222, 15, 223, 224, 368, 231, 232, 233, 46, 49, 919, 920, 921, 48, 922, 161, 57, 404, 163, 164, 55, 165, 68, 1158, 1159, 1160, 1161, 1162, 1163, 1164, 1189, 1190, 1191, 1192, 1212, 1213, 1214, 1215, 1216, 1217, 1218, 1219, 1220] (by decide +kernel) (by decide +kernel)) (goodIn_sub (fun _ h => List.mem_append_right _ h) (by decide +kernel))
set_option maxRecDepth 20000 in
theorem gL_law_L_answers : GoodIn wsL_law (va_wsS RL 256 yL_answers wsL_answers) := goodIn_app (goodIn_of _ (by decide +kernel)) ggL_law_L_answers
set_option maxRecDepth 20000 in
theorem ggL_law_X11_answers : GoodIn wsL_law wsX11_answers := goodIn_r _ [926, 312, 313, 314, 5, 315, 119, 276, 277, 278, 320, 321, 322, 323, 324, 927, 928, 929, 930, 316, 317, 318, 319, 433, 434, 435, 436, 1165, 1166, 1167, 1168, 1169, 1170, 1171, 1172, 1173, 1174, 1175, 1176, 1177, 1178, 1179, 1180, 1181, 1182, 1183, 1184, 1185, 1186, 1187, 1188] (by decide +kernel) (by decide +kernel)
set_option maxRecDepth 20000 in
theorem gL_law_X11_answers : GoodIn wsL_law (wsV RL 258 RX11 yX11_answers wsX11_answers) := goodIn_app (goodIn_of _ (by decide +kernel)) ggL_law_X11_answers
set_option maxRecDepth 20000 in
theorem ggL_law_L_ladderOf : GoodIn wsL_law wsL_ladderOf := goodIn_ca (goodIn_r _ [933, 352, 934, 935, 936, 2, 937, 36, 16, 363, 364, 365, 366, 361, 362, 367, 221, 222, 15, 223, 224, 938, 939, 940, 35, 941, 105, 942, 65, 66, 67, 943, 231, 232, 233, 46, 49, 944, 920, 921, 48, 922, 161, 57, 404, 163, 164, 55, 165, 68, 945, 946, 187, 188, 189, 1158, 1159, 1160, 1161, 1162, 1163, 1164, 1189, 1190, 1191, 1192, 1208, 1212, 1213, 1214, 1215, 1216, 1217, 1218, 1219, 1220] (by decide +kernel) (by decide +kernel)) (goodIn_sub (fun _ h => List.mem_append_right _ h) (by decide +kernel))
set_option maxRecDepth 20000 in
theorem gL_law_L_ladderOf : GoodIn wsL_law (va_wsS RL 259 yL_ladderOf wsL_ladderOf) := goodIn_app (goodIn_of _ (by decide +kernel)) ggL_law_L_ladderOf
set_option maxRecDepth 20000 in
theorem ggL_law_X11_ladderOf : GoodIn wsL_law wsX11_ladderOf := goodIn_r _ [950, 125, 951, 952, 953, 5, 954, 119, 126, 316, 317, 318, 319, 927, 928, 929, 930, 433, 434, 435, 436, 312, 313, 314, 315, 276, 277, 278, 320, 321, 322, 323, 324, 1165, 1166, 1167, 1168, 1169, 1170, 1171, 1172, 1173, 1174, 1175, 1176, 1177, 1178, 1179, 1180, 1181, 1182, 1183, 1184, 1185, 1186, 1187, 1188] (by decide +kernel) (by decide +kernel)
set_option maxRecDepth 20000 in
theorem gL_law_X11_ladderOf : GoodIn wsL_law (wsV RL 261 RX11 yX11_ladderOf wsX11_ladderOf) := goodIn_app (goodIn_of _ (by decide +kernel)) ggL_law_X11_ladderOf
set_option maxRecDepth 20000 in
theorem ggL_law_L_laddersOf : GoodIn wsL_law wsL_laddersOf := goodIn_ca (goodIn_r _ [957, 352, 958, 959, 960, 2, 961, 36, 16, 363, 364, 365, 366, 361, 362, 367, 221, 222, 15, 223, 224, 962, 963, 964, 35, 965, 105, 943, 231, 232, 233, 46, 49, 944, 920, 921, 48, 922, 161, 57, 404, 163, 164, 55, 165, 68, 945, 946, 187, 188, 189, 1158, 1159, 1160, 1161, 1162, 1163, 1164, 1189, 1190, 1191, 1192, 1208, 1212, 1213, 1214, 1215, 1216, 1217, 1218, 1219, 1220] (by decide +kernel) (by decide +kernel)) (goodIn_sub (fun _ h => List.mem_append_right _ h) (by decide +kernel))
set_option maxRecDepth 20000 in
theorem gL_law_L_laddersOf : GoodIn wsL_law (va_wsS RL 262 yL_laddersOf wsL_laddersOf) := goodIn_app (goodIn_of _ (by decide +kernel)) ggL_law_L_laddersOf
set_option maxRecDepth 20000 in
theorem ggL_law_X11_laddersOf : GoodIn wsL_law wsX11_laddersOf := goodIn_r _ [969, 126, 951, 952, 953, 5, 954, 119, 125, 316, 317, 318, 319, 927, 928, 929, 930, 433, 434, 435, 436, 312, 313, 314, 315, 276, 277, 278, 320, 321, 322, 323, 324, 1165, 1166, 1167, 1168, 1169, 1170, 1171, 1172, 1173, 1174, 1175, 1176, 1177, 1178, 1179, 1180, 1181, 1182, 1183, 1184, 1185, 1186, 1187, 1188] (by decide +kernel) (by decide +kernel)
set_option maxRecDepth 20000 in
theorem gL_law_X11_laddersOf : GoodIn wsL_law (wsV RL 264 RX11 yX11_laddersOf wsX11_laddersOf) := goodIn_app (goodIn_of _ (by decide +kernel)) ggL_law_X11_laddersOf
set_option maxRecDepth 20000 in
theorem ggL_law_L_readingOf : GoodIn wsL_law wsL_readingOf := goodIn_ca (goodIn_r _ [972, 352, 973, 974, 975, 2, 976, 36, 16, 363, 364, 365, 366, 361, 362, 367, 221, 222, 15, 223, 224, 977, 978, 979, 35, 980, 105, 946, 187, 188, 55, 189, 68, 945, 163, 164, 165, 943, 231, 232, 233, 46, 49, 981, 982, 983, 984, 1158, 1159, 1160, 1161, 1162, 1163, 1164, 1189, 1190, 1191, 1192, 1208, 1220, 1212, 1213, 1214, 1215, 1216, 1217, 1218, 1219] (by decide +kernel) (by decide +kernel)) (goodIn_sub (fun _ h => List.mem_append_right _ h) (by decide +kernel))
set_option maxRecDepth 20000 in
theorem gL_law_L_readingOf : GoodIn wsL_law (va_wsS RL 265 yL_readingOf wsL_readingOf) := goodIn_app (goodIn_of _ (by decide +kernel)) ggL_law_L_readingOf
set_option maxRecDepth 20000 in
theorem ggL_law_X11_readingOf : GoodIn wsL_law wsX11_readingOf := goodIn_r _ [988, 312, 313, 314, 5, 315, 119, 276, 277, 278, 320, 321, 322, 323, 324, 989, 990, 991, 992, 316, 317, 318, 319, 433, 434, 435, 436, 993, 994, 995, 1165, 1166, 1167, 1168, 1169, 1170, 1171, 1172, 1173, 1174, 1175, 1176, 1177, 1178, 1179, 1180, 1181, 1182, 1183, 1184, 1185, 1186, 1187, 1188] (by decide +kernel) (by decide +kernel)
set_option maxRecDepth 20000 in
theorem gL_law_X11_readingOf : GoodIn wsL_law (wsV RL 267 RX11 yX11_readingOf wsX11_readingOf) := goodIn_app (goodIn_of _ (by decide +kernel)) ggL_law_X11_readingOf
set_option maxRecDepth 20000 in
theorem ggL_law_L_readAt : GoodIn wsL_law wsL_readAt := goodIn_ca (goodIn_r _ [998, 352, 999, 1000, 1001, 2, 1002, 36, 16, 363, 364, 365, 366, 361, 362, 367, 221, 222, 15, 223, 224, 977, 978, 979, 35, 980, 105, 946, 187, 188, 55, 189, 68, 945, 163, 164, 165, 943, 231, 232, 233, 46, 49, 981, 982, 983, 984, 1003, 1004, 1005, 1006, 1007, 1008, 1009, 1158, 1159, 1160, 1161, 1162, 1163, 1164, 1189, 1190, 1191, 1192, 1208, 1220, 1212, 1213, 1214, 1215, 1216, 1217, 1218, 1219] (by decide +kernel) (by decide +kernel)) (goodIn_sub (fun _ h => List.mem_append_right _ h) (by decide +kernel))
set_option maxRecDepth 20000 in
theorem gL_law_L_readAt : GoodIn wsL_law (va_wsS RL 268 yL_readAt wsL_readAt) := goodIn_app (goodIn_of _ (by decide +kernel)) ggL_law_L_readAt
set_option maxRecDepth 20000 in
theorem ggL_law_X11_readAt : GoodIn wsL_law wsX11_readAt := goodIn_r _ [1013, 312, 313, 314, 5, 315, 119, 276, 277, 278, 989, 990, 991, 992, 316, 317, 318, 319, 433, 434, 435, 436, 993, 994, 995, 320, 321, 322, 323, 324, 1165, 1166, 1167, 1168, 1169, 1170, 1171, 1172, 1173, 1174, 1175, 1176, 1177, 1178, 1179, 1180, 1181, 1182, 1183, 1184, 1185, 1186, 1187, 1188] (by decide +kernel) (by decide +kernel)
set_option maxRecDepth 20000 in
theorem gL_law_X11_readAt : GoodIn wsL_law (wsV RL 270 RX11 yX11_readAt wsX11_readAt) := goodIn_app (goodIn_of _ (by decide +kernel)) ggL_law_X11_readAt
set_option maxRecDepth 20000 in
theorem ggL_law_X10_glossary : GoodIn wsL_law wsX10_glossary := goodIn_r _ [1017, 40, 16, 1018, 1019, 1020, 39, 1021, 1022, 1023, 231, 232, 15, 233, 46, 49, 1024, 195, 196, 55, 197, 68, 1025, 1026, 1027, 1028, 111, 112, 1029, 187, 188, 189, 1030, 163, 164, 165, 1031, 1032, 1033, 1034, 1035, 1036, 1037, 1038, 1158, 1159, 1160, 1161, 1162, 1163, 1164, 1209, 1210, 1211, 1189, 1190, 1191, 1192, 1212, 1213, 1214, 1215, 1216, 1217, 1218, 1219, 1220] (by decide +kernel) (by decide +kernel)
set_option maxRecDepth 20000 in
theorem gL_law_X10_glossary : GoodIn wsL_law (wsV RL 271 RX10 yX10_glossary wsX10_glossary) := goodIn_app (goodIn_of _ (by decide +kernel)) ggL_law_X10_glossary
set_option maxRecDepth 20000 in
theorem ggL_law_X11_glossary : GoodIn wsL_law wsX11_glossary := goodIn_r _ [1042, 1043, 1044, 1045, 1046, 5, 1047, 119, 127, 128, 316, 317, 318, 319, 450, 451, 452, 453, 120, 1048, 1049, 1050, 1051, 1052, 1053, 1054, 500, 501, 502, 503, 324, 1165, 1166, 1167, 1168, 1169, 1170, 1171, 1172, 1173, 1174, 1175, 1176, 1177, 1178, 1179, 1180, 1181, 1182, 1183, 1184, 1185, 1186, 1187, 1188] (by decide +kernel) (by decide +kernel)
set_option maxRecDepth 20000 in
theorem gL_law_X11_glossary : GoodIn wsL_law (wsV RL 274 RX11 yX11_glossary wsX11_glossary) := goodIn_app (goodIn_of _ (by decide +kernel)) ggL_law_X11_glossary
set_option maxRecDepth 20000 in
theorem ggL_law_L_timesOf : GoodIn wsL_law wsL_timesOf := goodIn_ca (goodIn_r _ [1057, 352, 1058, 1059, 1060, 2, 1061, 40, 16, 1018, 1019, 1020, 39, 1021, 1022, 1023, 231, 232, 15, 233, 46, 49, 1024, 195, 196, 55, 197, 68, 1025, 1026, 1027, 1028, 111, 112, 1029, 187, 188, 189, 1030, 163, 164, 165, 1031, 1032, 1033, 1034, 1035, 1036, 1037, 1038, 1003, 1004, 1005, 361, 362, 640, 1158, 1159, 1160, 1161, 1162, 1163, 1164, 1209, 1210, 1211, 1189, 1190, 1191, 1192, 1212, 1213, 1214, 1215, 1216, 1217, 1218, 1219, 1220] (by decide +kernel) (by decide +kernel)) (goodIn_sub (fun _ h => List.mem_append_right _ h) (by decide +kernel))
set_option maxRecDepth 20000 in
theorem gL_law_L_timesOf : GoodIn wsL_law (va_wsS RL 275 yL_timesOf wsL_timesOf) := goodIn_app (goodIn_of _ (by decide +kernel)) ggL_law_L_timesOf
set_option maxRecDepth 20000 in
theorem ggL_law_X11_timesOf : GoodIn wsL_law wsX11_timesOf := goodIn_r _ [1065, 1043, 128, 1044, 1045, 1046, 5, 1047, 119, 127, 316, 317, 318, 319, 450, 451, 452, 453, 120, 1048, 1049, 1050, 1051, 1052, 1053, 1054, 276, 277, 278, 320, 321, 322, 323, 324, 1165, 1166, 1167, 1168, 1169, 1170, 1171, 1172, 1173, 1174, 1175, 1176, 1177, 1178, 1179, 1180, 1181, 1182, 1183, 1184, 1185, 1186, 1187, 1188] (by decide +kernel) (by decide +kernel)
set_option maxRecDepth 20000 in
theorem gL_law_X11_timesOf : GoodIn wsL_law (wsV RL 277 RX11 yX11_timesOf wsX11_timesOf) := goodIn_app (goodIn_of _ (by decide +kernel)) ggL_law_X11_timesOf
set_option maxRecDepth 20000 in
theorem ggL_law_L_glossaryLetter : GoodIn wsL_law wsL_glossaryLetter := goodIn_ca (goodIn_r _ [1068, 352, 1069, 1070, 1071, 2, 1072, 40, 16, 1018, 1019, 1020, 39, 1021, 1022, 1023, 231, 232, 15, 233, 46, 49, 1024, 195, 196, 55, 197, 68, 1025, 1026, 1027, 1028, 111, 112, 1029, 187, 188, 189, 1030, 163, 164, 165, 1031, 1032, 1033, 1034, 1035, 1036, 1037, 1038, 1003, 1004, 1005, 361, 362, 587, 588, 589, 590, 591, 592, 593, 1158, 1159, 1160, 1161, 1162, 1163, 1164, 1209, 1210, 1211, 1189, 1190, 1191, 1192, 1212, 1213, 1214, 1215, 1216, 1217, 1218, 1219, 1220] (by decide +kernel) (by decide +kernel)) (goodIn_sub (fun _ h => List.mem_append_right _ h) (by decide +kernel))
set_option maxRecDepth 20000 in
theorem gL_law_L_glossaryLetter : GoodIn wsL_law (va_wsS RL 278 yL_glossaryLetter wsL_glossaryLetter) := goodIn_app (goodIn_of _ (by decide +kernel)) ggL_law_L_glossaryLetter
set_option maxRecDepth 20000 in
theorem ggL_law_X11_glossaryLetter : GoodIn wsL_law wsX11_glossaryLetter := goodIn_r _ [1076, 1043, 127, 1044, 1045, 1046, 5, 1047, 119, 128, 316, 317, 318, 319, 450, 451, 452, 453, 120, 1048, 1049, 1050, 1051, 1052, 1053, 1054, 276, 277, 278, 320, 321, 322, 323, 324, 602, 603, 604, 605, 1165, 1166, 1167, 1168, 1169, 1170, 1171, 1172, 1173, 1174, 1175, 1176, 1177, 1178, 1179, 1180, 1181, 1182, 1183, 1184, 1185, 1186, 1187, 1188] (by decide +kernel) (by decide +kernel)
set_option maxRecDepth 20000 in
theorem gL_law_X11_glossaryLetter : GoodIn wsL_law (wsV RL 280 RX11 yX11_glossaryLetter wsX11_glossaryLetter) := goodIn_app (goodIn_of _ (by decide +kernel)) ggL_law_X11_glossaryLetter
set_option maxRecDepth 20000 in
theorem ggL_law_L_append : GoodIn wsL_law wsL_append := goodIn_ca (goodIn_ca (goodIn_r _ [1079, 133, 134, 1080, 1081, 1082, 2, 1083, 139, 140, 141, 142, 24, 1084, 1085, 1086, 23, 1087, 81, 1088, 1089, 187, 188, 55, 189, 68, 1158, 1159, 1160, 1161, 1162, 1163, 1164, 1198, 1199, 1220] (by decide +kernel) (by decide +kernel)) (goodIn_sub (fun _ h => List.mem_append_left _ (List.mem_append_left _ (List.mem_append_right _ h))) (by decide +kernel))) (goodIn_sub (fun _ h => List.mem_append_left _ (List.mem_append_right _ h)) (by decide +kernel))
set_option maxRecDepth 20000 in
theorem gL_law_L_append : GoodIn wsL_law (va_wsS RL 281 yL_append wsL_append) := goodIn_app (goodIn_of _ (by decide +kernel)) ggL_law_L_append
set_option maxRecDepth 20000 in
theorem ggL_law_X11_append : GoodIn wsL_law wsX11_append := goodIn_r _ [1093, 272, 123, 276, 277, 5, 278, 320, 321, 322, 323, 324, 1165, 1166, 1167, 1168, 1169, 1170, 1171, 1172, 1173, 1174, 1175, 1176, 1177, 1178, 1179, 1180, 1181, 1182, 1183, 1184, 1185, 1186, 1187, 1188] (by decide +kernel) (by decide +kernel)
set_option maxRecDepth 20000 in
theorem gL_law_X11_append : GoodIn wsL_law (wsV RL 283 RX11 yX11_append wsX11_append) := goodIn_app (goodIn_of _ (by decide +kernel)) ggL_law_X11_append
set_option maxRecDepth 20000 in
theorem ggL_law_X10_clearText : GoodIn wsL_law wsX10_clearText := goodIn_r _ [1097, 24, 1158, 1159, 1160, 1161, 1162, 1163, 1164, 1198, 1199] (by decide +kernel) (by decide +kernel)
set_option maxRecDepth 20000 in
theorem gL_law_X10_clearText : GoodIn wsL_law (wsV RL 284 RX10 yX10_clearText wsX10_clearText) := goodIn_app (goodIn_of _ (by decide +kernel)) ggL_law_X10_clearText
set_option maxRecDepth 20000 in
theorem ggL_law_X11_clearText : GoodIn wsL_law wsX11_clearText := goodIn_r _ [1101, 272, 500, 501, 502, 5, 503, 324, 1165, 1166, 1167, 1168, 1169, 1170, 1171, 1172, 1173, 1174, 1175, 1176, 1177, 1178, 1179, 1180, 1181, 1182, 1183, 1184, 1185, 1186, 1187, 1188] (by decide +kernel) (by decide +kernel)
set_option maxRecDepth 20000 in
theorem gL_law_X11_clearText : GoodIn wsL_law (wsV RL 287 RX11 yX11_clearText wsX11_clearText) := goodIn_app (goodIn_of _ (by decide +kernel)) ggL_law_X11_clearText
set_option maxRecDepth 20000 in
theorem ggL_law_X10_errorPosition : GoodIn wsL_law wsX10_errorPosition := goodIn_r _ [1105, 28, 24, 150, 151, 152, 27, 153, 87, 154, 155, 156, 157, 158, 48, 159, 160, 161, 162, 163, 164, 55, 165, 68, 166, 167, 168, 169, 170, 171, 172, 173, 174, 175, 176, 177, 178, 179, 180, 2, 181, 182, 183, 184, 185, 56, 186, 187, 188, 189, 190, 191, 192, 193, 194, 195, 196, 197, 198, 199, 200, 201, 202, 203, 204, 205, 206, 57, 58, 59, 207, 208, 209, 210, 1158, 1159, 1160, 1161, 1162, 1163, 1164, 1200, 1201, 1202, 1203, 1204, 1198, 1199, 1212, 1213, 1214, 1215, 1216, 1217, 1218, 1219, 1220] (by decide +kernel) (by decide +kernel)
set_option maxRecDepth 20000 in
theorem gL_law_X10_errorPosition : GoodIn wsL_law (wsV RL 288 RX10 yX10_errorPosition wsX10_errorPosition) := goodIn_app (goodIn_of _ (by decide +kernel)) ggL_law_X10_errorPosition
set_option maxRecDepth 20000 in
theorem ggL_law_X11_errorPosition : GoodIn wsL_law wsX11_errorPosition := goodIn_r _ [1109, 288, 284, 285, 286, 5, 287, 283, 270, 271, 272, 289, 290, 291, 292, 293, 294, 295, 296, 123, 297, 298, 299, 300, 119, 301, 302, 303, 304, 120, 276, 277, 278, 305, 306, 307, 308, 309, 310, 311, 312, 313, 314, 315, 316, 317, 318, 319, 500, 501, 502, 503, 324, 1165, 1166, 1167, 1168, 1169, 1170, 1171, 1172, 1173, 1174, 1175, 1176, 1177, 1178, 1179, 1180, 1181, 1182, 1183, 1184, 1185, 1186, 1187, 1188] (by decide +kernel) (by decide +kernel)
set_option maxRecDepth 20000 in
theorem gL_law_X11_errorPosition : GoodIn wsL_law (wsV RL 291 RX11 yX11_errorPosition wsX11_errorPosition) := goodIn_app (goodIn_of _ (by decide +kernel)) ggL_law_X11_errorPosition
set_option maxRecDepth 20000 in
theorem ggL_law_L_undo : GoodIn wsL_law wsL_undo := goodIn_ca (goodIn_r _ [1112, 134, 1113, 1114, 1115, 2, 1116, 141, 142, 20, 16, 1117, 1118, 1119, 19, 1120, 238, 240, 241, 242, 243, 239, 74, 244, 245, 246, 15, 247, 224, 229, 230, 231, 232, 233, 46, 49, 248, 249, 250, 48, 251, 252, 253, 160, 161, 56, 57, 58, 59, 254, 255, 256, 55, 257, 68, 258, 259, 260, 261, 1158, 1159, 1160, 1161, 1162, 1163, 1164, 1193, 1194, 1195, 1196, 1197, 1189, 1190, 1191, 1192, 1212, 1213, 1214, 1215, 1216, 1217, 1218, 1219, 1220] (by decide +kernel) (by decide +kernel)) (goodIn_sub (fun _ h => List.mem_append_left _ (List.mem_append_right _ h)) (by decide +kernel))
set_option maxRecDepth 20000 in
theorem gL_law_L_undo : GoodIn wsL_law (va_wsS RL 292 yL_undo wsL_undo) := goodIn_app (goodIn_of _ (by decide +kernel)) ggL_law_L_undo
set_option maxRecDepth 20000 in
theorem ggL_law_X11_undo : GoodIn wsL_law wsX11_undo := goodIn_r _ [1124, 329, 320, 321, 322, 5, 323, 324, 1125, 1126, 1127, 1128, 119, 121, 120, 122, 1165, 1166, 1167, 1168, 1169, 1170, 1171, 1172, 1173, 1174, 1175, 1176, 1177, 1178, 1179, 1180, 1181, 1182, 1183, 1184, 1185, 1186, 1187, 1188] (by decide +kernel) (by decide +kernel)
set_option maxRecDepth 20000 in
theorem gL_law_X11_undo : GoodIn wsL_law (wsV RL 294 RX11 yX11_undo wsX11_undo) := goodIn_app (goodIn_of _ (by decide +kernel)) ggL_law_X11_undo
set_option maxRecDepth 20000 in
theorem ggL_law_X10_savedStates : GoodIn wsL_law wsX10_savedStates := goodIn_r _ [1132, 20, 1158, 1159, 1160, 1161, 1162, 1163, 1164, 1193, 1194, 1195, 1196, 1197] (by decide +kernel) (by decide +kernel)
set_option maxRecDepth 20000 in
theorem gL_law_X10_savedStates : GoodIn wsL_law (wsV RL 295 RX10 yX10_savedStates wsX10_savedStates) := goodIn_app (goodIn_of _ (by decide +kernel)) ggL_law_X10_savedStates
set_option maxRecDepth 20000 in
theorem ggL_law_X11_savedStates : GoodIn wsL_law wsX11_savedStates := goodIn_r _ [1136, 329, 500, 501, 502, 5, 503, 324, 1165, 1166, 1167, 1168, 1169, 1170, 1171, 1172, 1173, 1174, 1175, 1176, 1177, 1178, 1179, 1180, 1181, 1182, 1183, 1184, 1185, 1186, 1187, 1188] (by decide +kernel) (by decide +kernel)
set_option maxRecDepth 20000 in
theorem gL_law_X11_savedStates : GoodIn wsL_law (wsV RL 298 RX11 yX11_savedStates wsX11_savedStates) := goodIn_app (goodIn_of _ (by decide +kernel)) ggL_law_X11_savedStates
set_option maxRecDepth 20000 in
theorem ggL_law_X10_takeSnapshot : GoodIn wsL_law wsX10_takeSnapshot := goodIn_r _ [1140, 20, 16, 1141, 245, 246, 15, 247, 224, 229, 230, 231, 232, 233, 46, 49, 248, 249, 250, 48, 251, 252, 253, 160, 161, 56, 57, 58, 59, 254, 255, 256, 55, 257, 68, 258, 259, 260, 261, 1158, 1159, 1160, 1161, 1162, 1163, 1164, 1193, 1194, 1195, 1196, 1197, 1189, 1190, 1191, 1192, 1212, 1213, 1214, 1215, 1216, 1217, 1218, 1219, 1220] (by decide +kernel) (by decide +kernel)
set_option maxRecDepth 20000 in
theorem gL_law_X10_takeSnapshot : GoodIn wsL_law (wsV RL 299 RX10 yX10_takeSnapshot wsX10_takeSnapshot) := goodIn_app (goodIn_of _ (by decide +kernel)) ggL_law_X10_takeSnapshot
set_option maxRecDepth 20000 in
theorem ggL_law_X11_takeSnapshot : GoodIn wsL_law wsX11_takeSnapshot := goodIn_r _ [1145, 324, 1146, 119, 330, 331, 332, 5, 333, 121, 122, 120, 1165, 1166, 1167, 1168, 1169, 1170, 1171, 1172, 1173, 1174, 1175, 1176, 1177, 1178, 1179, 1180, 1181, 1182, 1183, 1184, 1185, 1186, 1187, 1188] (by decide +kernel) (by decide +kernel)
set_option maxRecDepth 20000 in
theorem gL_law_X11_takeSnapshot : GoodIn wsL_law (wsV RL 302 RX11 yX11_takeSnapshot wsX11_takeSnapshot) := goodIn_app (goodIn_of _ (by decide +kernel)) ggL_law_X11_takeSnapshot
set_option maxRecDepth 20000 in
theorem ggL_law_L_restoreSnapshot : GoodIn wsL_law wsL_restoreSnapshot := goodIn_ca (goodIn_r _ [1149, 134, 1150, 1151, 1152, 2, 1153, 141, 142, 20, 16, 234, 235, 236, 19, 237, 238, 239, 240, 241, 242, 243, 74, 244, 245, 246, 15, 247, 224, 229, 230, 231, 232, 233, 46, 49, 248, 249, 250, 48, 251, 252, 253, 160, 161, 56, 57, 58, 59, 254, 255, 256, 55, 257, 68, 258, 259, 260, 261, 1141, 1158, 1159, 1160, 1161, 1162, 1163, 1164, 1193, 1194, 1195, 1196, 1197, 1189, 1190, 1191, 1192, 1212, 1213, 1214, 1215, 1216, 1217, 1218, 1219, 1220] (by decide +kernel) (by decide +kernel)) (goodIn_sub (fun _ h => List.mem_append_left _ (List.mem_append_right _ h)) (by decide +kernel))
set_option maxRecDepth 20000 in
theorem gL_law_L_restoreSnapshot : GoodIn wsL_law (va_wsS RL 303 yL_restoreSnapshot wsL_restoreSnapshot) := goodIn_app (goodIn_of _ (by decide +kernel)) ggL_law_L_restoreSnapshot
set_option maxRecDepth 20000 in
theorem ggL_law_X11_restoreSnapshot : GoodIn wsL_law wsX11_restoreSnapshot := goodIn_r _ [1157, 1146, 119, 320, 321, 322, 5, 323, 324, 325, 326, 327, 328, 329, 121, 122, 330, 331, 332, 333, 120, 1125, 1126, 1127, 1128, 1165, 1166, 1167, 1168, 1169, 1170, 1171, 1172, 1173, 1174, 1175, 1176, 1177, 1178, 1179, 1180, 1181, 1182, 1183, 1184, 1185, 1186, 1187, 1188] (by decide +kernel) (by decide +kernel)
set_option maxRecDepth 20000 in
theorem gL_law_X11_restoreSnapshot : GoodIn wsL_law (wsV RL 305 RX11 yX11_restoreSnapshot wsX11_restoreSnapshot) := goodIn_app (goodIn_of _ (by decide +kernel)) ggL_law_X11_restoreSnapshot
