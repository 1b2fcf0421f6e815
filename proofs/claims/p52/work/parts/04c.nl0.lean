theorem wl_app {P : Cond → Prop} {a b : List Cond} (h1 : ∀ w ∈ a, P w) (h2 : ∀ w ∈ b, P w) : ∀ w ∈ a ++ b, P w := fun w h => (List.mem_append.mp h).elim (h1 w) (h2 w)
set_option maxRecDepth 100000 in
theorem wl_r1 : ∀ w ∈ wsL_law0_r1, w ∈ lw_tbl := fun w h => (goodIn_p wsL_law0_r1 [43, 46] rfl (by decide +kernel) w h).1
set_option maxRecDepth 100000 in
theorem wl_r2 : ∀ w ∈ wsL_law0_r2, w ∈ lw_tbl := fun w h => (goodIn_p wsL_law0_r2 [51, 58] rfl (by decide +kernel) w h).1
set_option maxRecDepth 100000 in
theorem wl_r3 : ∀ w ∈ wsL_law0_r3, w ∈ lw_tbl := fun w h => (goodIn_p wsL_law0_r3 [64, 68, 148] rfl (by decide +kernel) w h).1
set_option maxRecDepth 100000 in
theorem wl_r4 : ∀ w ∈ wsL_law0_r4, w ∈ lw_tbl := fun w h => (goodIn_p wsL_law0_r4 [175, 193, 219, 225] rfl (by decide +kernel) w h).1
set_option maxRecDepth 100000 in
theorem wl_r5 : ∀ w ∈ wsL_law0_r5, w ∈ lw_tbl := fun w h => (goodIn_p wsL_law0_r5 [264, 276, 366, 370] rfl (by decide +kernel) w h).1
set_option maxRecDepth 100000 in
theorem wl_r6 : ∀ w ∈ wsL_law0_r6, w ∈ lw_tbl := fun w h => (goodIn_p wsL_law0_r6 [374, 378, 350, 383, 387] rfl (by decide +kernel) w h).1
set_option maxRecDepth 100000 in
theorem wl_r7 : ∀ w ∈ wsL_law0_r7, w ∈ lw_tbl := fun w h => (goodIn_p wsL_law0_r7 [391, 394, 398, 346, 403, 338] rfl (by decide +kernel) w h).1
set_option maxRecDepth 100000 in
theorem wl_r8 : ∀ w ∈ wsL_law0_r8, w ∈ lw_tbl := fun w h => (goodIn_p wsL_law0_r8 [409, 413, 417, 420, 322, 424] rfl (by decide +kernel) w h).1
set_option maxRecDepth 100000 in
theorem wl_r9 : ∀ w ∈ wsL_law0_r9, w ∈ lw_tbl := fun w h => (goodIn_p wsL_law0_r9 [428, 432, 334, 505, 509] rfl (by decide +kernel) w h).1
set_option maxRecDepth 100000 in
theorem wl_r10 : ∀ w ∈ wsL_law0_r10, w ∈ lw_tbl := fun w h => (goodIn_p wsL_law0_r10 [513, 517, 521, 525, 529, 535] rfl (by decide +kernel) w h).1
set_option maxRecDepth 100000 in
theorem wl_r11 : ∀ w ∈ wsL_law0_r11, w ∈ lw_tbl := fun w h => (goodIn_p wsL_law0_r11 [539, 544, 552, 556, 560] rfl (by decide +kernel) w h).1
set_option maxRecDepth 100000 in
theorem wl_r12 : ∀ w ∈ wsL_law0_r12, w ∈ lw_tbl := fun w h => (goodIn_p wsL_law0_r12 [565, 569, 573, 577, 580, 585] rfl (by decide +kernel) w h).1
set_option maxRecDepth 100000 in
theorem wl_r13 : ∀ w ∈ wsL_law0_r13, w ∈ lw_tbl := fun w h => (goodIn_p wsL_law0_r13 [589, 318, 592, 596, 600, 606] rfl (by decide +kernel) w h).1
set_option maxRecDepth 100000 in
theorem wl_r14 : ∀ w ∈ wsL_law0_r14, w ∈ lw_tbl := fun w h => (goodIn_p wsL_law0_r14 [613, 618, 622, 626] rfl (by decide +kernel) w h).1
set_option maxRecDepth 100000 in
theorem wl_r15 : ∀ w ∈ wsL_law0_r15, w ∈ lw_tbl := fun w h => (goodIn_p wsL_law0_r15 [631, 635, 639, 643, 647, 651] rfl (by decide +kernel) w h).1
set_option maxRecDepth 100000 in
theorem wl_r16 : ∀ w ∈ wsL_law0_r16, w ∈ lw_tbl := fun w h => (goodIn_p wsL_law0_r16 [655, 659, 663, 667, 671] rfl (by decide +kernel) w h).1
set_option maxRecDepth 100000 in
theorem wl_r17 : ∀ w ∈ wsL_law0_r17, w ∈ lw_tbl := fun w h => (goodIn_p wsL_law0_r17 [676, 680, 684, 688, 692, 696] rfl (by decide +kernel) w h).1
set_option maxRecDepth 100000 in
theorem wl_r18 : ∀ w ∈ wsL_law0_r18, w ∈ lw_tbl := fun w h => (goodIn_p wsL_law0_r18 [700, 706, 710, 714, 718, 721] rfl (by decide +kernel) w h).1
set_option maxRecDepth 100000 in
theorem wl_r19 : ∀ w ∈ wsL_law0_r19, w ∈ lw_tbl := fun w h => (goodIn_p wsL_law0_r19 [724, 729, 733, 737, 741, 745] rfl (by decide +kernel) w h).1
set_option maxRecDepth 100000 in
theorem wl_r20 : ∀ w ∈ wsL_law0_r20, w ∈ lw_tbl := fun w h => (goodIn_p wsL_law0_r20 [749, 753, 757, 760, 326, 330] rfl (by decide +kernel) w h).1
set_option maxRecDepth 100000 in
theorem wl_r21 : ∀ w ∈ wsL_law0_r21, w ∈ lw_tbl := fun w h => (goodIn_p wsL_law0_r21 [342, 354, 358, 764, 768] rfl (by decide +kernel) w h).1
set_option maxRecDepth 100000 in
theorem wl_r22 : ∀ w ∈ wsL_law0_r22, w ∈ lw_tbl := fun w h => (goodIn_p wsL_law0_r22 [771, 775, 779, 783, 787, 793] rfl (by decide +kernel) w h).1
set_option maxRecDepth 100000 in
theorem wl_r23 : ∀ w ∈ wsL_law0_r23, w ∈ lw_tbl := fun w h => (goodIn_p wsL_law0_r23 [361, 926, 929, 933, 937, 941] rfl (by decide +kernel) w h).1
set_option maxRecDepth 100000 in
theorem wl_r24 : ∀ w ∈ wsL_law0_r24, w ∈ lw_tbl := fun w h => (goodIn_p wsL_law0_r24 [947, 951, 954, 957, 865] rfl (by decide +kernel) w h).1
set_option maxRecDepth 100000 in
theorem wl_r25 : ∀ w ∈ wsL_law0_r25, w ∈ lw_tbl := fun w h => (goodIn_p wsL_law0_r25 [966, 805, 809, 813] rfl (by decide +kernel) w h).1
set_option maxRecDepth 100000 in
theorem wl_r26 : ∀ w ∈ wsL_law0_r26, w ∈ lw_tbl := fun w h => (goodIn_p wsL_law0_r26 [817, 821, 973, 861, 878] rfl (by decide +kernel) w h).1
set_option maxRecDepth 100000 in
theorem wl_r27 : ∀ w ∈ wsL_law0_r27, w ∈ lw_tbl := fun w h => (goodIn_p wsL_law0_r27 [976, 984, 832, 836, 840] rfl (by decide +kernel) w h).1
set_option maxRecDepth 100000 in
theorem wl_r28 : ∀ w ∈ wsL_law0_r28, w ∈ lw_tbl := fun w h => (goodIn_p wsL_law0_r28 [844, 849, 856, 797, 801, 828] rfl (by decide +kernel) w h).1
set_option maxRecDepth 100000 in
theorem wl_r29 : ∀ w ∈ wsL_law0_r29, w ∈ lw_tbl := fun w h => (goodIn_p wsL_law0_r29 [853, 869, 874, 898, 918] rfl (by decide +kernel) w h).1
set_option maxRecDepth 100000 in
theorem wl_r30 : ∀ w ∈ wsL_law0_r30, w ∈ lw_tbl := fun w h => (goodIn_p wsL_law0_r30 [923, 995] rfl (by decide +kernel) w h).1
theorem wl_u10 : ∀ w ∈ wsX100, w ∈ lw_tbl := by decide +kernel
theorem wl_u9 : ∀ w ∈ wsX90, w ∈ lw_tbl := by decide +kernel
theorem wl_u2 : ∀ w ∈ wsX20, w ∈ lw_tbl := by decide +kernel
theorem wl_u0 : ∀ w ∈ wsX00, w ∈ lw_tbl := by decide +kernel
theorem wl_u6 : ∀ w ∈ wsX60, w ∈ lw_tbl := by decide +kernel
theorem wl_u5 : ∀ w ∈ wsX50, w ∈ lw_tbl := by decide +kernel
theorem wl_u3 : ∀ w ∈ wsX30, w ∈ lw_tbl := by decide +kernel
theorem wl_u1 : ∀ w ∈ wsX10, w ∈ lw_tbl := by decide +kernel
theorem wl_u4 : ∀ w ∈ wsX40, w ∈ lw_tbl := by decide +kernel
theorem wl_u7 : ∀ w ∈ wsX70, w ∈ lw_tbl := by decide +kernel
theorem wl_u8 : ∀ w ∈ wsX80, w ∈ lw_tbl := by decide +kernel
