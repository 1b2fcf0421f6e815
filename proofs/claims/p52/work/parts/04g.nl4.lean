def ch_prints : List (List Cond) := [wsL_prints_r1, wsL_prints_r2, wsL_prints_r3, wsL_prints_r4, wsL_prints_r5, wsL_prints_r6, wsL_prints_r7, wsL_prints_r8, wsL_prints_r9, wsL_prints_r10, wsX100, wsX90, wsX00, wsX70, wsX40, wsX60, wsX20]
theorem chm_prints_0 : ∀ w ∈ wsL_prints_r1, w ∈ wsL_prints := fun w h => List.mem_cons_of_mem _ (List.mem_append_left _ (List.mem_append_left _ (List.mem_append_left _ (List.mem_append_left _ (List.mem_append_left _ (List.mem_append_left _ (List.mem_append_left _ (List.mem_append_left _ (List.mem_append_left _ (List.mem_append_left _ (List.mem_append_left _ h)))))))))))
theorem chm_prints_1 : ∀ w ∈ wsL_prints_r2, w ∈ wsL_prints := fun w h => List.mem_cons_of_mem _ (List.mem_append_left _ (List.mem_append_left _ (List.mem_append_left _ (List.mem_append_left _ (List.mem_append_left _ (List.mem_append_left _ (List.mem_append_left _ (List.mem_append_left _ (List.mem_append_left _ (List.mem_append_left _ (List.mem_append_right _ (List.mem_append_left _ h))))))))))))
theorem chm_prints_2 : ∀ w ∈ wsL_prints_r3, w ∈ wsL_prints := fun w h => List.mem_cons_of_mem _ (List.mem_append_left _ (List.mem_append_left _ (List.mem_append_left _ (List.mem_append_left _ (List.mem_append_left _ (List.mem_append_left _ (List.mem_append_left _ (List.mem_append_left _ (List.mem_append_left _ (List.mem_append_left _ (List.mem_append_right _ (List.mem_append_right _ (List.mem_append_left _ h)))))))))))))
theorem chm_prints_3 : ∀ w ∈ wsL_prints_r4, w ∈ wsL_prints := fun w h => List.mem_cons_of_mem _ (List.mem_append_left _ (List.mem_append_left _ (List.mem_append_left _ (List.mem_append_left _ (List.mem_append_left _ (List.mem_append_left _ (List.mem_append_left _ (List.mem_append_left _ (List.mem_append_left _ (List.mem_append_left _ (List.mem_append_right _ (List.mem_append_right _ (List.mem_append_right _ (List.mem_append_left _ h))))))))))))))
theorem chm_prints_4 : ∀ w ∈ wsL_prints_r5, w ∈ wsL_prints := fun w h => List.mem_cons_of_mem _ (List.mem_append_left _ (List.mem_append_left _ (List.mem_append_left _ (List.mem_append_left _ (List.mem_append_left _ (List.mem_append_left _ (List.mem_append_left _ (List.mem_append_left _ (List.mem_append_left _ (List.mem_append_left _ (List.mem_append_right _ (List.mem_append_right _ (List.mem_append_right _ (List.mem_append_right _ (List.mem_append_left _ h)))))))))))))))
theorem chm_prints_5 : ∀ w ∈ wsL_prints_r6, w ∈ wsL_prints := fun w h => List.mem_cons_of_mem _ (List.mem_append_left _ (List.mem_append_left _ (List.mem_append_left _ (List.mem_append_left _ (List.mem_append_left _ (List.mem_append_left _ (List.mem_append_left _ (List.mem_append_left _ (List.mem_append_left _ (List.mem_append_left _ (List.mem_append_right _ (List.mem_append_right _ (List.mem_append_right _ (List.mem_append_right _ (List.mem_append_right _ (List.mem_append_left _ h))))))))))))))))
theorem chm_prints_6 : ∀ w ∈ wsL_prints_r7, w ∈ wsL_prints := fun w h => List.mem_cons_of_mem _ (List.mem_append_left _ (List.mem_append_left _ (List.mem_append_left _ (List.mem_append_left _ (List.mem_append_left _ (List.mem_append_left _ (List.mem_append_left _ (List.mem_append_left _ (List.mem_append_left _ (List.mem_append_left _ (List.mem_append_right _ (List.mem_append_right _ (List.mem_append_right _ (List.mem_append_right _ (List.mem_append_right _ (List.mem_append_right _ (List.mem_append_left _ h)))))))))))))))))
theorem chm_prints_7 : ∀ w ∈ wsL_prints_r8, w ∈ wsL_prints := fun w h => List.mem_cons_of_mem _ (List.mem_append_left _ (List.mem_append_left _ (List.mem_append_left _ (List.mem_append_left _ (List.mem_append_left _ (List.mem_append_left _ (List.mem_append_left _ (List.mem_append_left _ (List.mem_append_left _ (List.mem_append_left _ (List.mem_append_right _ (List.mem_append_right _ (List.mem_append_right _ (List.mem_append_right _ (List.mem_append_right _ (List.mem_append_right _ (List.mem_append_right _ (List.mem_append_left _ h))))))))))))))))))
theorem chm_prints_8 : ∀ w ∈ wsL_prints_r9, w ∈ wsL_prints := fun w h => List.mem_cons_of_mem _ (List.mem_append_left _ (List.mem_append_left _ (List.mem_append_left _ (List.mem_append_left _ (List.mem_append_left _ (List.mem_append_left _ (List.mem_append_left _ (List.mem_append_left _ (List.mem_append_left _ (List.mem_append_left _ (List.mem_append_right _ (List.mem_append_right _ (List.mem_append_right _ (List.mem_append_right _ (List.mem_append_right _ (List.mem_append_right _ (List.mem_append_right _ (List.mem_append_right _ (List.mem_append_left _ h)))))))))))))))))))
theorem chm_prints_9 : ∀ w ∈ wsL_prints_r10, w ∈ wsL_prints := fun w h => List.mem_cons_of_mem _ (List.mem_append_left _ (List.mem_append_left _ (List.mem_append_left _ (List.mem_append_left _ (List.mem_append_left _ (List.mem_append_left _ (List.mem_append_left _ (List.mem_append_left _ (List.mem_append_left _ (List.mem_append_left _ (List.mem_append_right _ (List.mem_append_right _ (List.mem_append_right _ (List.mem_append_right _ (List.mem_append_right _ (List.mem_append_right _ (List.mem_append_right _ (List.mem_append_right _ (List.mem_append_right _ h)))))))))))))))))))
theorem chm_prints_10 : ∀ w ∈ wsX100, w ∈ wsL_prints := fun w h => List.mem_cons_of_mem _ (List.mem_append_left _ (List.mem_append_left _ (List.mem_append_left _ (List.mem_append_left _ (List.mem_append_left _ (List.mem_append_left _ (List.mem_append_left _ (List.mem_append_left _ (List.mem_append_left _ (List.mem_append_right _ h))))))))))
theorem chm_prints_11 : ∀ w ∈ wsX90, w ∈ wsL_prints := fun w h => List.mem_cons_of_mem _ (List.mem_append_left _ (List.mem_append_left _ (List.mem_append_left _ (List.mem_append_left _ (List.mem_append_left _ (List.mem_append_left _ (List.mem_append_left _ (List.mem_append_left _ (List.mem_append_right _ h)))))))))
theorem chm_prints_12 : ∀ w ∈ wsX00, w ∈ wsL_prints := fun w h => List.mem_cons_of_mem _ (List.mem_append_left _ (List.mem_append_left _ (List.mem_append_left _ (List.mem_append_left _ (List.mem_append_left _ (List.mem_append_left _ (List.mem_append_left _ (List.mem_append_right _ h))))))))
theorem chm_prints_13 : ∀ w ∈ wsX70, w ∈ wsL_prints := fun w h => List.mem_cons_of_mem _ (List.mem_append_left _ (List.mem_append_left _ (List.mem_append_left _ (List.mem_append_left _ (List.mem_append_left _ (List.mem_append_left _ (List.mem_append_right _ h)))))))
theorem chm_prints_14 : ∀ w ∈ wsX40, w ∈ wsL_prints := fun w h => List.mem_cons_of_mem _ (List.mem_append_left _ (List.mem_append_left _ (List.mem_append_left _ (List.mem_append_left _ (List.mem_append_left _ (List.mem_append_right _ h))))))
theorem chm_prints_15 : ∀ w ∈ wsX60, w ∈ wsL_prints := fun w h => List.mem_cons_of_mem _ (List.mem_append_left _ (List.mem_append_left _ (List.mem_append_left _ (List.mem_append_left _ (List.mem_append_right _ h)))))
theorem chm_prints_16 : ∀ w ∈ wsX20, w ∈ wsL_prints := fun w h => List.mem_cons_of_mem _ (List.mem_append_left _ (List.mem_append_left _ (List.mem_append_left _ (List.mem_append_right _ h))))
theorem chi_prints : ∀ c ∈ ch_prints, ∀ w ∈ c, w ∈ wsL_prints := (List.forall_mem_cons.mpr ⟨chm_prints_0, (List.forall_mem_cons.mpr ⟨chm_prints_1, (List.forall_mem_cons.mpr ⟨chm_prints_2, (List.forall_mem_cons.mpr ⟨chm_prints_3, (List.forall_mem_cons.mpr ⟨chm_prints_4, (List.forall_mem_cons.mpr ⟨chm_prints_5, (List.forall_mem_cons.mpr ⟨chm_prints_6, (List.forall_mem_cons.mpr ⟨chm_prints_7, (List.forall_mem_cons.mpr ⟨chm_prints_8, (List.forall_mem_cons.mpr ⟨chm_prints_9, (List.forall_mem_cons.mpr ⟨chm_prints_10, (List.forall_mem_cons.mpr ⟨chm_prints_11, (List.forall_mem_cons.mpr ⟨chm_prints_12, (List.forall_mem_cons.mpr ⟨chm_prints_13, (List.forall_mem_cons.mpr ⟨chm_prints_14, (List.forall_mem_cons.mpr ⟨chm_prints_15, (List.forall_mem_cons.mpr ⟨chm_prints_16, (fun _ h => absurd h List.not_mem_nil)⟩)⟩)⟩)⟩)⟩)⟩)⟩)⟩)⟩)⟩)⟩)⟩)⟩)⟩)⟩)⟩)⟩)
set_option maxRecDepth 100000 in
theorem chg_prints : wsL_prints.all goodWord = true := by decide +kernel
set_option maxRecDepth 100000 in
theorem ggL_prints_X10_pamphlets : GoodIn wsL_prints wsX10_pamphlets := goodIn_ch ch_prints chi_prints chg_prints [(0, 4), (0, 5), (10, 0), (10, 1), (10, 2), (10, 3), (10, 4), (10, 5), (10, 6), (11, 0), (11, 1), (11, 2), (11, 3)] rfl
set_option maxRecDepth 100000 in
theorem gL_prints_X10_pamphlets : GoodIn wsL_prints (wsV RL 79 RX10 yX10_pamphlets wsX10_pamphlets) := goodIn_app (goodIn_ch ch_prints chi_prints chg_prints [(0, 0), (0, 1), (0, 2), (0, 3)] rfl) ggL_prints_X10_pamphlets
set_option maxRecDepth 100000 in
theorem ggL_prints_L_low : GoodIn wsL_prints wsL_low := goodIn_ch ch_prints chi_prints chg_prints [(0, 9), (0, 10)] rfl
set_option maxRecDepth 100000 in
theorem gL_prints_L_low : GoodIn wsL_prints (va_wsS RL 166 yL_low wsL_low) := goodIn_app (goodIn_ch ch_prints chi_prints chg_prints [(0, 6), (0, 7), (0, 8)] rfl) ggL_prints_L_low
set_option maxRecDepth 100000 in
theorem ggL_prints_X10_clearText : GoodIn wsL_prints wsX10_clearText := goodIn_ch ch_prints chi_prints chg_prints [(0, 14), (0, 15), (10, 0), (10, 1), (10, 2), (10, 3), (10, 4), (10, 5), (10, 6), (12, 0), (12, 1)] rfl
set_option maxRecDepth 100000 in
theorem gL_prints_X10_clearText : GoodIn wsL_prints (wsV RL 180 RX10 yX10_clearText wsX10_clearText) := goodIn_app (goodIn_ch ch_prints chi_prints chg_prints [(0, 11), (0, 12), (0, 13), (0, 3)] rfl) ggL_prints_X10_clearText
set_option maxRecDepth 100000 in
theorem ggL_prints_X10_append : GoodIn wsL_prints wsX10_append := goodIn_ca (goodIn_ca (goodIn_ch ch_prints chi_prints chg_prints [(0, 19), (0, 20), (0, 21), (0, 22), (0, 23), (0, 15), (1, 0), (1, 1), (1, 2), (1, 3), (1, 4), (1, 5), (1, 6), (1, 7), (1, 8), (1, 9), (1, 10), (1, 11), (1, 12), (10, 0), (10, 1), (10, 2), (10, 3), (10, 4), (10, 5), (10, 6), (12, 0), (12, 1), (13, 0)] rfl) (goodIn_sub (fun _ h => List.mem_cons_of_mem _ (List.mem_append_left _ (List.mem_append_left _ (List.mem_append_right _ h)))) (by decide +kernel))) (goodIn_sub (fun _ h => List.mem_cons_of_mem _ (List.mem_append_left _ (List.mem_append_right _ h))) (by decide +kernel))
set_option maxRecDepth 100000 in
theorem gL_prints_X10_append : GoodIn wsL_prints (wsV RL 169 RX10 yX10_append wsX10_append) := goodIn_app (goodIn_ch ch_prints chi_prints chg_prints [(0, 16), (0, 17), (0, 18), (0, 3)] rfl) ggL_prints_X10_append
set_option maxRecDepth 100000 in
theorem ggL_prints_L_typeQuotation : GoodIn wsL_prints wsL_typeQuotation := goodIn_ca (goodIn_ca (goodIn_ca (goodIn_ch ch_prints chi_prints chg_prints [(1, 15), (0, 6), (0, 7), (0, 8), (0, 9), (0, 10), (0, 16), (0, 17), (0, 18), (0, 3), (0, 19), (0, 20), (0, 21), (0, 22), (0, 23), (0, 15), (1, 0), (1, 1), (1, 2), (1, 3), (1, 4), (1, 5), (1, 6), (1, 7), (1, 8), (1, 9), (1, 10), (1, 11), (1, 12), (1, 16), (1, 17), (1, 18), (0, 0), (0, 1), (0, 2), (0, 4), (0, 5), (1, 19), (1, 20), (1, 21), (1, 22), (1, 23), (2, 0), (2, 1), (2, 2), (2, 3), (2, 4), (2, 5), (2, 6), (2, 7), (2, 8), (2, 9), (2, 10), (2, 11), (2, 12), (2, 13), (2, 14), (2, 15), (2, 16), (2, 17), (2, 18), (2, 19), (2, 20), (2, 21), (2, 22), (2, 23), (3, 0), (3, 1), (3, 2), (3, 3), (3, 4), (3, 5), (3, 6), (3, 7), (3, 8), (3, 9), (3, 10), (3, 11), (3, 12), (3, 13), (10, 0), (10, 1), (10, 2), (10, 3), (10, 4), (10, 5), (10, 6), (12, 0), (12, 1), (13, 0), (11, 0), (11, 1), (11, 2), (11, 3), (14, 0), (14, 1), (14, 2), (14, 3), (14, 4), (14, 5), (14, 6), (14, 7)] rfl) (goodIn_sub (fun _ h => List.mem_cons_of_mem _ (List.mem_append_left _ (List.mem_append_left _ (List.mem_append_right _ h)))) (by decide +kernel))) (goodIn_sub (fun _ h => List.mem_cons_of_mem _ (List.mem_append_left _ (List.mem_append_right _ h))) (by decide +kernel))) (goodIn_sub (fun _ h => List.mem_cons_of_mem _ (List.mem_append_right _ h)) (by decide +kernel))
set_option maxRecDepth 100000 in
theorem gL_prints_L_typeQuotation : GoodIn wsL_prints (va_wsS RL 183 yL_typeQuotation wsL_typeQuotation) := goodIn_app (goodIn_ch ch_prints chi_prints chg_prints [(1, 13), (1, 14), (0, 8)] rfl) ggL_prints_L_typeQuotation
set_option maxRecDepth 100000 in
theorem ggL_prints_X10_dayOf : GoodIn wsL_prints wsX10_dayOf := goodIn_ca (goodIn_ch ch_prints chi_prints chg_prints [(3, 17), (0, 5), (2, 2), (2, 3), (2, 4), (0, 3), (2, 5), (2, 6), (2, 7), (2, 8), (2, 9), (2, 10), (2, 11), (2, 12), (2, 13), (2, 14), (2, 15), (2, 16), (2, 17), (2, 18), (2, 19), (10, 0), (10, 1), (10, 2), (10, 3), (10, 4), (10, 5), (10, 6), (14, 0), (14, 1), (14, 2), (14, 3), (14, 4), (14, 5), (14, 6), (14, 7), (11, 0), (11, 1), (11, 2), (11, 3)] rfl) (goodIn_sub (fun _ h => List.mem_cons_of_mem _ (List.mem_append_right _ h)) (by decide +kernel))
set_option maxRecDepth 100000 in
theorem gL_prints_X10_dayOf : GoodIn wsL_prints (wsV RL 57 RX10 yX10_dayOf wsX10_dayOf) := goodIn_app (goodIn_ch ch_prints chi_prints chg_prints [(3, 14), (3, 15), (3, 16), (0, 3)] rfl) ggL_prints_X10_dayOf
set_option maxRecDepth 100000 in
theorem ggL_prints_X10_day : GoodIn wsL_prints wsX10_day := goodIn_ch ch_prints chi_prints chg_prints [(3, 21), (0, 5), (10, 0), (10, 1), (10, 2), (10, 3), (10, 4), (10, 5), (10, 6), (11, 0), (11, 1), (11, 2), (11, 3)] rfl
set_option maxRecDepth 100000 in
theorem gL_prints_X10_day : GoodIn wsL_prints (wsV RL 104 RX10 yX10_day wsX10_day) := goodIn_app (goodIn_ch ch_prints chi_prints chg_prints [(3, 18), (3, 19), (3, 20), (0, 3)] rfl) ggL_prints_X10_day
set_option maxRecDepth 100000 in
theorem ggL_prints_L_typeWord : GoodIn wsL_prints wsL_typeWord := goodIn_ca (goodIn_ca (goodIn_ch ch_prints chi_prints chg_prints [(1, 21), (0, 6), (0, 7), (0, 8), (0, 9), (0, 10), (0, 16), (0, 17), (0, 18), (0, 3), (0, 19), (0, 20), (0, 21), (0, 22), (0, 23), (0, 15), (1, 0), (1, 1), (1, 2), (1, 3), (1, 4), (1, 5), (1, 6), (1, 7), (1, 8), (1, 9), (1, 10), (1, 11), (1, 12), (10, 0), (10, 1), (10, 2), (10, 3), (10, 4), (10, 5), (10, 6), (12, 0), (12, 1), (13, 0)] rfl) (goodIn_sub (fun _ h => List.mem_cons_of_mem _ (List.mem_append_left _ (List.mem_append_left _ (List.mem_append_right _ h)))) (by decide +kernel))) (goodIn_sub (fun _ h => List.mem_cons_of_mem _ (List.mem_append_left _ (List.mem_append_right _ h))) (by decide +kernel))
set_option maxRecDepth 100000 in
theorem gL_prints_L_typeWord : GoodIn wsL_prints (va_wsS RL 172 yL_typeWord wsL_typeWord) := goodIn_app (goodIn_ch ch_prints chi_prints chg_prints [(1, 19), (1, 20), (0, 8)] rfl) ggL_prints_L_typeWord
set_option maxRecDepth 100000 in
theorem ggL_prints_X10_errorPosition : GoodIn wsL_prints wsX10_errorPosition := goodIn_ch ch_prints chi_prints chg_prints [(4, 1), (4, 2), (0, 15), (4, 3), (4, 4), (4, 5), (4, 6), (4, 7), (4, 8), (4, 9), (4, 10), (4, 11), (4, 12), (4, 13), (4, 14), (4, 15), (4, 16), (4, 17), (4, 18), (4, 19), (4, 20), (1, 10), (4, 21), (1, 12), (4, 22), (4, 23), (5, 0), (5, 1), (5, 2), (5, 3), (5, 4), (5, 5), (5, 6), (5, 7), (5, 8), (5, 9), (5, 10), (5, 11), (5, 12), (0, 3), (5, 13), (5, 14), (5, 15), (5, 16), (5, 17), (5, 18), (5, 19), (1, 8), (1, 9), (1, 11), (5, 20), (5, 21), (5, 22), (5, 23), (6, 0), (3, 8), (3, 9), (3, 10), (6, 1), (6, 2), (6, 3), (6, 4), (6, 5), (6, 6), (6, 7), (6, 8), (6, 9), (6, 10), (6, 11), (6, 12), (6, 13), (6, 14), (6, 15), (6, 16), (10, 0), (10, 1), (10, 2), (10, 3), (10, 4), (10, 5), (10, 6), (15, 0), (15, 1), (15, 2), (15, 3), (15, 4), (12, 0), (12, 1), (14, 0), (14, 1), (14, 2), (14, 3), (14, 4), (14, 5), (14, 6), (14, 7), (13, 0)] rfl
set_option maxRecDepth 100000 in
theorem gL_prints_X10_errorPosition : GoodIn wsL_prints (wsV RL 141 RX10 yX10_errorPosition wsX10_errorPosition) := goodIn_app (goodIn_ch ch_prints chi_prints chg_prints [(3, 22), (3, 23), (4, 0), (0, 3)] rfl) ggL_prints_X10_errorPosition
set_option maxRecDepth 100000 in
theorem ggL_prints_X10_whyNotPrinted : GoodIn wsL_prints wsX10_whyNotPrinted := goodIn_ch ch_prints chi_prints chg_prints [(6, 20), (0, 5), (4, 2), (0, 15), (4, 3), (4, 4), (4, 5), (4, 6), (4, 7), (4, 8), (4, 9), (4, 10), (4, 11), (4, 12), (4, 13), (4, 14), (4, 15), (4, 16), (4, 17), (4, 18), (4, 19), (4, 20), (1, 10), (4, 21), (1, 12), (4, 22), (4, 23), (5, 0), (5, 1), (5, 2), (5, 3), (5, 4), (5, 5), (5, 6), (5, 7), (5, 8), (5, 9), (5, 10), (5, 11), (5, 12), (0, 3), (5, 13), (5, 14), (5, 15), (5, 16), (5, 17), (5, 18), (5, 19), (1, 8), (1, 9), (1, 11), (5, 20), (5, 21), (5, 22), (5, 23), (6, 0), (3, 8), (3, 9), (3, 10), (6, 1), (6, 2), (6, 3), (6, 4), (6, 5), (6, 6), (6, 7), (6, 8), (6, 9), (6, 10), (6, 11), (6, 12), (6, 13), (6, 14), (6, 15), (6, 16), (6, 21), (6, 22), (6, 23), (7, 0), (7, 1), (7, 2), (7, 3), (2, 11), (7, 4), (7, 5), (7, 6), (2, 9), (2, 10), (2, 12), (2, 13), (7, 7), (7, 8), (7, 9), (7, 10), (7, 11), (7, 12), (2, 15), (2, 16), (2, 17), (2, 18), (2, 19), (10, 0), (10, 1), (10, 2), (10, 3), (10, 4), (10, 5), (10, 6), (11, 0), (11, 1), (11, 2), (11, 3), (15, 0), (15, 1), (15, 2), (15, 3), (15, 4), (12, 0), (12, 1), (14, 0), (14, 1), (14, 2), (14, 3), (14, 4), (14, 5), (14, 6), (14, 7), (13, 0)] rfl
set_option maxRecDepth 100000 in
theorem gL_prints_X10_whyNotPrinted : GoodIn wsL_prints (wsV RL 154 RX10 yX10_whyNotPrinted wsX10_whyNotPrinted) := goodIn_app (goodIn_ch ch_prints chi_prints chg_prints [(6, 17), (6, 18), (6, 19), (0, 3)] rfl) ggL_prints_X10_whyNotPrinted
set_option maxRecDepth 100000 in
theorem ggL_prints_L_tryPrint : GoodIn wsL_prints wsL_tryPrint := goodIn_ca (goodIn_ca (goodIn_ch ch_prints chi_prints chg_prints [(7, 15), (7, 16), (7, 17), (7, 18), (7, 19), (7, 20), (0, 3), (7, 21), (0, 20), (0, 21), (0, 22), (0, 23), (7, 22), (0, 5), (4, 2), (0, 15), (7, 23), (8, 0), (8, 1), (8, 2), (6, 18), (6, 19), (6, 20), (4, 3), (4, 4), (4, 5), (4, 6), (4, 7), (4, 8), (4, 9), (4, 10), (4, 11), (4, 12), (4, 13), (4, 14), (4, 15), (4, 16), (4, 17), (4, 18), (4, 19), (4, 20), (1, 10), (4, 21), (1, 12), (4, 22), (4, 23), (5, 0), (5, 1), (5, 2), (5, 3), (5, 4), (5, 5), (5, 6), (5, 7), (5, 8), (5, 9), (5, 10), (5, 11), (5, 12), (5, 13), (5, 14), (5, 15), (5, 16), (5, 17), (5, 18), (5, 19), (1, 8), (1, 9), (1, 11), (5, 20), (5, 21), (5, 22), (5, 23), (6, 0), (3, 8), (3, 9), (3, 10), (6, 1), (6, 2), (6, 3), (6, 4), (6, 5), (6, 6), (6, 7), (6, 8), (6, 9), (6, 10), (6, 11), (6, 12), (6, 13), (6, 14), (6, 15), (6, 16), (6, 21), (6, 22), (6, 23), (7, 0), (7, 1), (7, 2), (7, 3), (2, 11), (7, 4), (7, 5), (7, 6), (2, 9), (2, 10), (2, 12), (2, 13), (7, 7), (7, 8), (7, 9), (7, 10), (7, 11), (7, 12), (2, 15), (2, 16), (2, 17), (2, 18), (2, 19), (8, 3), (8, 4), (8, 5), (8, 6), (8, 7), (8, 8), (8, 9), (8, 10), (8, 11), (8, 12), (8, 13), (8, 14), (8, 15), (8, 16), (8, 17), (8, 18), (8, 19), (8, 20), (8, 21), (8, 22), (8, 23), (9, 0), (9, 1), (9, 2), (9, 3), (9, 4), (9, 5), (9, 6), (9, 7), (9, 8), (9, 9), (9, 10), (9, 11), (9, 12), (10, 0), (10, 1), (10, 2), (10, 3), (10, 4), (10, 5), (10, 6), (15, 0), (15, 1), (15, 2), (15, 3), (15, 4), (12, 0), (12, 1), (11, 0), (11, 1), (11, 2), (11, 3), (14, 0), (14, 1), (14, 2), (14, 3), (14, 4), (14, 5), (14, 6), (14, 7), (13, 0), (16, 0), (16, 1), (16, 2), (16, 3), (16, 4)] rfl) (goodIn_sub (fun _ h => List.mem_cons_of_mem _ (List.mem_append_left _ (List.mem_append_left _ (List.mem_append_right _ h)))) (by decide +kernel))) (goodIn_sub (fun _ h => List.mem_cons_of_mem _ (List.mem_append_left _ (List.mem_append_right _ h))) (by decide +kernel))
set_option maxRecDepth 100000 in
theorem gL_prints_L_tryPrint : GoodIn wsL_prints (va_wsS RL 187 yL_tryPrint wsL_tryPrint) := goodIn_app (goodIn_ch ch_prints chi_prints chg_prints [(7, 13), (7, 14), (0, 8)] rfl) ggL_prints_L_tryPrint
set_option maxRecDepth 100000 in
theorem ggL_prints_X10_authorOf : GoodIn wsL_prints wsX10_authorOf := goodIn_ca (goodIn_ch ch_prints chi_prints chg_prints [(9, 16), (0, 5), (2, 2), (2, 3), (2, 4), (0, 3), (2, 5), (2, 6), (2, 7), (2, 8), (2, 9), (2, 10), (2, 11), (2, 12), (2, 13), (2, 14), (2, 15), (2, 16), (2, 17), (2, 18), (2, 19), (10, 0), (10, 1), (10, 2), (10, 3), (10, 4), (10, 5), (10, 6), (14, 0), (14, 1), (14, 2), (14, 3), (14, 4), (14, 5), (14, 6), (14, 7), (11, 0), (11, 1), (11, 2), (11, 3)] rfl) (goodIn_sub (fun _ h => List.mem_cons_of_mem _ (List.mem_append_right _ h)) (by decide +kernel))
set_option maxRecDepth 100000 in
theorem gL_prints_X10_authorOf : GoodIn wsL_prints (wsV RL 159 RX10 yX10_authorOf wsX10_authorOf) := goodIn_app (goodIn_ch ch_prints chi_prints chg_prints [(9, 13), (9, 14), (9, 15), (0, 3)] rfl) ggL_prints_X10_authorOf
theorem dL_prints_0 : decode cL_prints 0 = .ok (.aload_n 0, 1) := by decide +kernel
theorem dL_prints_1 : decode cL_prints 1 = .ok (.invokevirtual 79, 3) := by decide +kernel
theorem dL_prints_4 : decode cL_prints 4 = .ok (.istore_n 3, 1) := by decide +kernel
theorem dL_prints_5 : decode cL_prints 5 = .ok (.iload_n 3, 1) := by decide +kernel
theorem dL_prints_6 : decode cL_prints 6 = .ok (.bipush 20, 2) := by decide +kernel
theorem dL_prints_8 : decode cL_prints 8 = .ok (.if_icmp .ne 7, 3) := by decide +kernel
theorem dL_prints_11 : decode cL_prints 11 = .ok (.iconst 1, 1) := by decide +kernel
theorem dL_prints_12 : decode cL_prints 12 = .ok (.goto 4, 3) := by decide +kernel
theorem dL_prints_15 : decode cL_prints 15 = .ok (.iconst 0, 1) := by decide +kernel
theorem dL_prints_16 : decode cL_prints 16 = .ok (.istore 4, 2) := by decide +kernel
theorem dL_prints_18 : decode cL_prints 18 = .ok (.iconst 1, 1) := by decide +kernel
theorem dL_prints_19 : decode cL_prints 19 = .ok (.iload_n 1, 1) := by decide +kernel
theorem dL_prints_20 : decode cL_prints 20 = .ok (.iconst 4, 1) := by decide +kernel
theorem dL_prints_21 : decode cL_prints 21 = .ok (.invokestatic 166, 3) := by decide +kernel
theorem dL_prints_24 : decode cL_prints 24 = .ok (.iadd, 1) := by decide +kernel
theorem dL_prints_25 : decode cL_prints 25 = .ok (.istore 5, 2) := by decide +kernel
theorem dL_prints_27 : decode cL_prints 27 = .ok (.aload_n 0, 1) := by decide +kernel
theorem dL_prints_28 : decode cL_prints 28 = .ok (.invokevirtual 180, 3) := by decide +kernel
theorem dL_prints_31 : decode cL_prints 31 = .ok (.istore 6, 2) := by decide +kernel
theorem dL_prints_33 : decode cL_prints 33 = .ok (.iconst 0, 1) := by decide +kernel
theorem dL_prints_34 : decode cL_prints 34 = .ok (.istore 7, 2) := by decide +kernel
theorem dL_prints_36 : decode cL_prints 36 = .ok (.iload 7, 2) := by decide +kernel
theorem dL_prints_38 : decode cL_prints 38 = .ok (.iload 5, 2) := by decide +kernel
theorem dL_prints_40 : decode cL_prints 40 = .ok (.if_icmp .ge 173, 3) := by decide +kernel
theorem dL_prints_43 : decode cL_prints 43 = .ok (.iload_n 1, 1) := by decide +kernel
theorem dL_prints_44 : decode cL_prints 44 = .ok (.iconst 3, 1) := by decide +kernel
theorem dL_prints_45 : decode cL_prints 45 = .ok (.iload 7, 2) := by decide +kernel
theorem dL_prints_47 : decode cL_prints 47 = .ok (.imul, 1) := by decide +kernel
theorem dL_prints_48 : decode cL_prints 48 = .ok (.ishr, 1) := by decide +kernel
theorem dL_prints_49 : decode cL_prints 49 = .ok (.iload_n 2, 1) := by decide +kernel
theorem dL_prints_50 : decode cL_prints 50 = .ok (.iconst 2, 1) := by decide +kernel
theorem dL_prints_51 : decode cL_prints 51 = .ok (.iload 7, 2) := by decide +kernel
theorem dL_prints_53 : decode cL_prints 53 = .ok (.imul, 1) := by decide +kernel
theorem dL_prints_54 : decode cL_prints 54 = .ok (.ishr, 1) := by decide +kernel
theorem dL_prints_55 : decode cL_prints 55 = .ok (.ixor, 1) := by decide +kernel
theorem dL_prints_56 : decode cL_prints 56 = .ok (.istore 8, 2) := by decide +kernel
theorem dL_prints_58 : decode cL_prints 58 = .ok (.iload 8, 2) := by decide +kernel
theorem dL_prints_60 : decode cL_prints 60 = .ok (.iconst 3, 1) := by decide +kernel
theorem dL_prints_61 : decode cL_prints 61 = .ok (.ishr, 1) := by decide +kernel
theorem dL_prints_62 : decode cL_prints 62 = .ok (.iload 8, 2) := by decide +kernel
theorem dL_prints_64 : decode cL_prints 64 = .ok (.iconst 5, 1) := by decide +kernel
theorem dL_prints_65 : decode cL_prints 65 = .ok (.ishr, 1) := by decide +kernel
theorem dL_prints_66 : decode cL_prints 66 = .ok (.bipush 9, 2) := by decide +kernel
theorem dL_prints_68 : decode cL_prints 68 = .ok (.invokestatic 166, 3) := by decide +kernel
theorem dL_prints_71 : decode cL_prints 71 = .ok (.ifCond .eq 7, 3) := by decide +kernel
theorem dL_prints_74 : decode cL_prints 74 = .ok (.iload_n 3, 1) := by decide +kernel
theorem dL_prints_75 : decode cL_prints 75 = .ok (.ifCond .ne 8, 3) := by decide +kernel
theorem dL_prints_78 : decode cL_prints 78 = .ok (.bipush 20, 2) := by decide +kernel
theorem dL_prints_80 : decode cL_prints 80 = .ok (.goto 4, 3) := by decide +kernel
theorem dL_prints_83 : decode cL_prints 83 = .ok (.iload_n 3, 1) := by decide +kernel
theorem dL_prints_84 : decode cL_prints 84 = .ok (.invokestatic 166, 3) := by decide +kernel
theorem dL_prints_87 : decode cL_prints 87 = .ok (.istore 9, 2) := by decide +kernel
theorem dL_prints_89 : decode cL_prints 89 = .ok (.iload 7, 2) := by decide +kernel
theorem dL_prints_91 : decode cL_prints 91 = .ok (.ifCond .le 12, 3) := by decide +kernel
theorem dL_prints_94 : decode cL_prints 94 = .ok (.aload_n 0, 1) := by decide +kernel
theorem dL_prints_95 : decode cL_prints 95 = .ok (.bipush 32, 2) := by decide +kernel
theorem dL_prints_97 : decode cL_prints 97 = .ok (.invokevirtual 169, 3) := by decide +kernel
theorem dL_prints_100 : decode cL_prints 100 = .ok (.goto 5, 3) := by decide +kernel
theorem dL_prints_103 : decode cL_prints 103 = .ok (.iload 6, 2) := by decide +kernel
theorem dL_prints_105 : decode cL_prints 105 = .ok (.istore 6, 2) := by decide +kernel
theorem dL_prints_107 : decode cL_prints 107 = .ok (.iload 8, 2) := by decide +kernel
theorem dL_prints_109 : decode cL_prints 109 = .ok (.iconst 5, 1) := by decide +kernel
theorem dL_prints_110 : decode cL_prints 110 = .ok (.invokestatic 166, 3) := by decide +kernel
theorem dL_prints_113 : decode cL_prints 113 = .ok (.iconst 2, 1) := by decide +kernel
theorem dL_prints_114 : decode cL_prints 114 = .ok (.if_icmp .ge 85, 3) := by decide +kernel
theorem dL_prints_117 : decode cL_prints 117 = .ok (.iload_n 3, 1) := by decide +kernel
theorem dL_prints_118 : decode cL_prints 118 = .ok (.ifCond .gt 12, 3) := by decide +kernel
theorem dL_prints_121 : decode cL_prints 121 = .ok (.iload 8, 2) := by decide +kernel
theorem dL_prints_123 : decode cL_prints 123 = .ok (.iconst 5, 1) := by decide +kernel
theorem dL_prints_124 : decode cL_prints 124 = .ok (.invokestatic 166, 3) := by decide +kernel
theorem dL_prints_127 : decode cL_prints 127 = .ok (.ifCond .ne 72, 3) := by decide +kernel
theorem dL_prints_130 : decode cL_prints 130 = .ok (.aload_n 0, 1) := by decide +kernel
theorem dL_prints_131 : decode cL_prints 131 = .ok (.iload 9, 2) := by decide +kernel
theorem dL_prints_133 : decode cL_prints 133 = .ok (.iload 8, 2) := by decide +kernel
theorem dL_prints_135 : decode cL_prints 135 = .ok (.invokestatic 183, 3) := by decide +kernel
theorem dL_prints_138 : decode cL_prints 138 = .ok (.istore 6, 2) := by decide +kernel
theorem dL_prints_140 : decode cL_prints 140 = .ok (.iload 9, 2) := by decide +kernel
theorem dL_prints_142 : decode cL_prints 142 = .ok (.iload_n 3, 1) := by decide +kernel
theorem dL_prints_143 : decode cL_prints 143 = .ok (.if_icmp .lt 7, 3) := by decide +kernel
theorem dL_prints_146 : decode cL_prints 146 = .ok (.iconst 3, 1) := by decide +kernel
theorem dL_prints_147 : decode cL_prints 147 = .ok (.goto 21, 3) := by decide +kernel
theorem dL_prints_150 : decode cL_prints 150 = .ok (.aload_n 0, 1) := by decide +kernel
theorem dL_prints_151 : decode cL_prints 151 = .ok (.iload 9, 2) := by decide +kernel
theorem dL_prints_153 : decode cL_prints 153 = .ok (.invokevirtual 57, 3) := by decide +kernel
theorem dL_prints_156 : decode cL_prints 156 = .ok (.aload_n 0, 1) := by decide +kernel
theorem dL_prints_157 : decode cL_prints 157 = .ok (.invokevirtual 104, 3) := by decide +kernel
theorem dL_prints_160 : decode cL_prints 160 = .ok (.if_icmp .ne 7, 3) := by decide +kernel
theorem dL_prints_163 : decode cL_prints 163 = .ok (.iconst 4, 1) := by decide +kernel
theorem dL_prints_164 : decode cL_prints 164 = .ok (.goto 4, 3) := by decide +kernel
theorem dL_prints_167 : decode cL_prints 167 = .ok (.iconst 0, 1) := by decide +kernel
theorem dL_prints_168 : decode cL_prints 168 = .ok (.istore 10, 2) := by decide +kernel
theorem dL_prints_170 : decode cL_prints 170 = .ok (.iload 4, 2) := by decide +kernel
theorem dL_prints_172 : decode cL_prints 172 = .ok (.iconst 1, 1) := by decide +kernel
theorem dL_prints_173 : decode cL_prints 173 = .ok (.if_icmp .eq 14, 3) := by decide +kernel
theorem dL_prints_176 : decode cL_prints 176 = .ok (.iload 4, 2) := by decide +kernel
theorem dL_prints_178 : decode cL_prints 178 = .ok (.iconst 3, 1) := by decide +kernel
theorem dL_prints_179 : decode cL_prints 179 = .ok (.if_icmp .eq 8, 3) := by decide +kernel
theorem dL_prints_182 : decode cL_prints 182 = .ok (.iload 10, 2) := by decide +kernel
theorem dL_prints_184 : decode cL_prints 184 = .ok (.ifCond .ne 8, 3) := by decide +kernel
theorem dL_prints_187 : decode cL_prints 187 = .ok (.iload 4, 2) := by decide +kernel
theorem dL_prints_189 : decode cL_prints 189 = .ok (.goto 5, 3) := by decide +kernel
theorem dL_prints_192 : decode cL_prints 192 = .ok (.iload 10, 2) := by decide +kernel
theorem dL_prints_194 : decode cL_prints 194 = .ok (.istore 4, 2) := by decide +kernel
theorem dL_prints_196 : decode cL_prints 196 = .ok (.goto 11, 3) := by decide +kernel
theorem dL_prints_199 : decode cL_prints 199 = .ok (.aload_n 0, 1) := by decide +kernel
theorem dL_prints_200 : decode cL_prints 200 = .ok (.iload 8, 2) := by decide +kernel
theorem dL_prints_202 : decode cL_prints 202 = .ok (.invokestatic 172, 3) := by decide +kernel
theorem dL_prints_205 : decode cL_prints 205 = .ok (.istore 6, 2) := by decide +kernel
theorem dL_prints_207 : decode cL_prints 207 = .ok (.iinc 7 1, 3) := by decide +kernel
theorem dL_prints_210 : decode cL_prints 210 = .ok (.goto (-174), 3) := by decide +kernel
theorem dL_prints_213 : decode cL_prints 213 = .ok (.iload_n 2, 1) := by decide +kernel
theorem dL_prints_214 : decode cL_prints 214 = .ok (.bipush 8, 2) := by decide +kernel
theorem dL_prints_216 : decode cL_prints 216 = .ok (.invokestatic 166, 3) := by decide +kernel
theorem dL_prints_219 : decode cL_prints 219 = .ok (.istore 7, 2) := by decide +kernel
theorem dL_prints_221 : decode cL_prints 221 = .ok (.aload_n 0, 1) := by decide +kernel
theorem dL_prints_222 : decode cL_prints 222 = .ok (.invokevirtual 141, 3) := by decide +kernel
theorem dL_prints_225 : decode cL_prints 225 = .ok (.iload 6, 2) := by decide +kernel
theorem dL_prints_227 : decode cL_prints 227 = .ok (.if_icmp .ne 16, 3) := by decide +kernel
theorem dL_prints_230 : decode cL_prints 230 = .ok (.aload_n 0, 1) := by decide +kernel
theorem dL_prints_231 : decode cL_prints 231 = .ok (.invokevirtual 154, 3) := by decide +kernel
theorem dL_prints_234 : decode cL_prints 234 = .ok (.iload 4, 2) := by decide +kernel
theorem dL_prints_236 : decode cL_prints 236 = .ok (.if_icmp .ne 7, 3) := by decide +kernel
theorem dL_prints_239 : decode cL_prints 239 = .ok (.iconst 1, 1) := by decide +kernel
theorem dL_prints_240 : decode cL_prints 240 = .ok (.goto 4, 3) := by decide +kernel
theorem dL_prints_243 : decode cL_prints 243 = .ok (.iconst 0, 1) := by decide +kernel
theorem dL_prints_244 : decode cL_prints 244 = .ok (.istore 8, 2) := by decide +kernel
theorem dL_prints_246 : decode cL_prints 246 = .ok (.aload_n 0, 1) := by decide +kernel
theorem dL_prints_247 : decode cL_prints 247 = .ok (.iload 7, 2) := by decide +kernel
theorem dL_prints_249 : decode cL_prints 249 = .ok (.invokestatic 187, 3) := by decide +kernel
theorem dL_prints_252 : decode cL_prints 252 = .ok (.istore 9, 2) := by decide +kernel
theorem dL_prints_254 : decode cL_prints 254 = .ok (.iload 8, 2) := by decide +kernel
theorem dL_prints_256 : decode cL_prints 256 = .ok (.ifCond .eq 75, 3) := by decide +kernel
theorem dL_prints_259 : decode cL_prints 259 = .ok (.iload 4, 2) := by decide +kernel
theorem dL_prints_261 : decode cL_prints 261 = .ok (.ifCond .le 31, 3) := by decide +kernel
theorem dL_prints_264 : decode cL_prints 264 = .ok (.iload 9, 2) := by decide +kernel
theorem dL_prints_266 : decode cL_prints 266 = .ok (.sipush (-7002), 3) := by decide +kernel
theorem dL_prints_269 : decode cL_prints 269 = .ok (.if_icmp .ne 62, 3) := by decide +kernel
theorem dL_prints_272 : decode cL_prints 272 = .ok (.aload_n 0, 1) := by decide +kernel
theorem dL_prints_273 : decode cL_prints 273 = .ok (.invokevirtual 79, 3) := by decide +kernel
theorem dL_prints_276 : decode cL_prints 276 = .ok (.iload_n 3, 1) := by decide +kernel
theorem dL_prints_277 : decode cL_prints 277 = .ok (.if_icmp .ne 54, 3) := by decide +kernel
theorem dL_prints_280 : decode cL_prints 280 = .ok (.aload_n 0, 1) := by decide +kernel
theorem dL_prints_281 : decode cL_prints 281 = .ok (.invokevirtual 180, 3) := by decide +kernel
theorem dL_prints_284 : decode cL_prints 284 = .ok (.iload 6, 2) := by decide +kernel
theorem dL_prints_286 : decode cL_prints 286 = .ok (.if_icmp .ne 45, 3) := by decide +kernel
theorem dL_prints_289 : decode cL_prints 289 = .ok (.goto 38, 3) := by decide +kernel
theorem dL_prints_292 : decode cL_prints 292 = .ok (.iload 9, 2) := by decide +kernel
theorem dL_prints_294 : decode cL_prints 294 = .ok (.iload_n 3, 1) := by decide +kernel
theorem dL_prints_295 : decode cL_prints 295 = .ok (.if_icmp .ne 36, 3) := by decide +kernel
theorem dL_prints_298 : decode cL_prints 298 = .ok (.aload_n 0, 1) := by decide +kernel
theorem dL_prints_299 : decode cL_prints 299 = .ok (.iload_n 3, 1) := by decide +kernel
theorem dL_prints_300 : decode cL_prints 300 = .ok (.invokevirtual 159, 3) := by decide +kernel
theorem dL_prints_303 : decode cL_prints 303 = .ok (.iload 7, 2) := by decide +kernel
theorem dL_prints_305 : decode cL_prints 305 = .ok (.if_icmp .ne 26, 3) := by decide +kernel
theorem dL_prints_308 : decode cL_prints 308 = .ok (.aload_n 0, 1) := by decide +kernel
theorem dL_prints_309 : decode cL_prints 309 = .ok (.iload_n 3, 1) := by decide +kernel
theorem dL_prints_310 : decode cL_prints 310 = .ok (.invokevirtual 57, 3) := by decide +kernel
theorem dL_prints_313 : decode cL_prints 313 = .ok (.aload_n 0, 1) := by decide +kernel
theorem dL_prints_314 : decode cL_prints 314 = .ok (.invokevirtual 104, 3) := by decide +kernel
theorem dL_prints_317 : decode cL_prints 317 = .ok (.if_icmp .ne 14, 3) := by decide +kernel
theorem dL_prints_320 : decode cL_prints 320 = .ok (.aload_n 0, 1) := by decide +kernel
theorem dL_prints_321 : decode cL_prints 321 = .ok (.invokevirtual 180, 3) := by decide +kernel
theorem dL_prints_324 : decode cL_prints 324 = .ok (.ifCond .ne 7, 3) := by decide +kernel
theorem dL_prints_327 : decode cL_prints 327 = .ok (.iconst 1, 1) := by decide +kernel
theorem dL_prints_328 : decode cL_prints 328 = .ok (.goto 4, 3) := by decide +kernel
theorem dL_prints_331 : decode cL_prints 331 = .ok (.iconst 0, 1) := by decide +kernel
theorem dL_prints_332 : decode cL_prints 332 = .ok (.ireturn, 1) := by decide +kernel
def ch_mends : List (List Cond) := [wsL_mends_r1, wsL_mends_r2, wsL_mends_r3, wsL_mends_r4, wsL_mends_r5, wsL_mends_r6, wsL_mends_r7, wsL_mends_r8, wsL_mends_r9, wsX100, wsX40, wsX90, wsX50, wsX80, wsX70, wsX20]
theorem chm_mends_0 : ∀ w ∈ wsL_mends_r1, w ∈ wsL_mends := fun w h => List.mem_cons_of_mem _ (List.mem_append_left _ (List.mem_append_left _ (List.mem_append_left _ (List.mem_append_left _ (List.mem_append_left _ (List.mem_append_left _ (List.mem_append_left _ (List.mem_append_left _ (List.mem_append_left _ (List.mem_append_left _ h))))))))))
theorem chm_mends_1 : ∀ w ∈ wsL_mends_r2, w ∈ wsL_mends := fun w h => List.mem_cons_of_mem _ (List.mem_append_left _ (List.mem_append_left _ (List.mem_append_left _ (List.mem_append_left _ (List.mem_append_left _ (List.mem_append_left _ (List.mem_append_left _ (List.mem_append_left _ (List.mem_append_left _ (List.mem_append_right _ (List.mem_append_left _ h)))))))))))
theorem chm_mends_2 : ∀ w ∈ wsL_mends_r3, w ∈ wsL_mends := fun w h => List.mem_cons_of_mem _ (List.mem_append_left _ (List.mem_append_left _ (List.mem_append_left _ (List.mem_append_left _ (List.mem_append_left _ (List.mem_append_left _ (List.mem_append_left _ (List.mem_append_left _ (List.mem_append_left _ (List.mem_append_right _ (List.mem_append_right _ (List.mem_append_left _ h))))))))))))
theorem chm_mends_3 : ∀ w ∈ wsL_mends_r4, w ∈ wsL_mends := fun w h => List.mem_cons_of_mem _ (List.mem_append_left _ (List.mem_append_left _ (List.mem_append_left _ (List.mem_append_left _ (List.mem_append_left _ (List.mem_append_left _ (List.mem_append_left _ (List.mem_append_left _ (List.mem_append_left _ (List.mem_append_right _ (List.mem_append_right _ (List.mem_append_right _ (List.mem_append_left _ h)))))))))))))
theorem chm_mends_4 : ∀ w ∈ wsL_mends_r5, w ∈ wsL_mends := fun w h => List.mem_cons_of_mem _ (List.mem_append_left _ (List.mem_append_left _ (List.mem_append_left _ (List.mem_append_left _ (List.mem_append_left _ (List.mem_append_left _ (List.mem_append_left _ (List.mem_append_left _ (List.mem_append_left _ (List.mem_append_right _ (List.mem_append_right _ (List.mem_append_right _ (List.mem_append_right _ (List.mem_append_left _ h))))))))))))))
theorem chm_mends_5 : ∀ w ∈ wsL_mends_r6, w ∈ wsL_mends := fun w h => List.mem_cons_of_mem _ (List.mem_append_left _ (List.mem_append_left _ (List.mem_append_left _ (List.mem_append_left _ (List.mem_append_left _ (List.mem_append_left _ (List.mem_append_left _ (List.mem_append_left _ (List.mem_append_left _ (List.mem_append_right _ (List.mem_append_right _ (List.mem_append_right _ (List.mem_append_right _ (List.mem_append_right _ (List.mem_append_left _ h)))))))))))))))
theorem chm_mends_6 : ∀ w ∈ wsL_mends_r7, w ∈ wsL_mends := fun w h => List.mem_cons_of_mem _ (List.mem_append_left _ (List.mem_append_left _ (List.mem_append_left _ (List.mem_append_left _ (List.mem_append_left _ (List.mem_append_left _ (List.mem_append_left _ (List.mem_append_left _ (List.mem_append_left _ (List.mem_append_right _ (List.mem_append_right _ (List.mem_append_right _ (List.mem_append_right _ (List.mem_append_right _ (List.mem_append_right _ (List.mem_append_left _ h))))))))))))))))
theorem chm_mends_7 : ∀ w ∈ wsL_mends_r8, w ∈ wsL_mends := fun w h => List.mem_cons_of_mem _ (List.mem_append_left _ (List.mem_append_left _ (List.mem_append_left _ (List.mem_append_left _ (List.mem_append_left _ (List.mem_append_left _ (List.mem_append_left _ (List.mem_append_left _ (List.mem_append_left _ (List.mem_append_right _ (List.mem_append_right _ (List.mem_append_right _ (List.mem_append_right _ (List.mem_append_right _ (List.mem_append_right _ (List.mem_append_right _ (List.mem_append_left _ h)))))))))))))))))
theorem chm_mends_8 : ∀ w ∈ wsL_mends_r9, w ∈ wsL_mends := fun w h => List.mem_cons_of_mem _ (List.mem_append_left _ (List.mem_append_left _ (List.mem_append_left _ (List.mem_append_left _ (List.mem_append_left _ (List.mem_append_left _ (List.mem_append_left _ (List.mem_append_left _ (List.mem_append_left _ (List.mem_append_right _ (List.mem_append_right _ (List.mem_append_right _ (List.mem_append_right _ (List.mem_append_right _ (List.mem_append_right _ (List.mem_append_right _ (List.mem_append_right _ h)))))))))))))))))
theorem chm_mends_9 : ∀ w ∈ wsX100, w ∈ wsL_mends := fun w h => List.mem_cons_of_mem _ (List.mem_append_left _ (List.mem_append_left _ (List.mem_append_left _ (List.mem_append_left _ (List.mem_append_left _ (List.mem_append_left _ (List.mem_append_left _ (List.mem_append_left _ (List.mem_append_right _ h)))))))))
theorem chm_mends_10 : ∀ w ∈ wsX40, w ∈ wsL_mends := fun w h => List.mem_cons_of_mem _ (List.mem_append_left _ (List.mem_append_left _ (List.mem_append_left _ (List.mem_append_left _ (List.mem_append_left _ (List.mem_append_left _ (List.mem_append_left _ (List.mem_append_right _ h))))))))
theorem chm_mends_11 : ∀ w ∈ wsX90, w ∈ wsL_mends := fun w h => List.mem_cons_of_mem _ (List.mem_append_left _ (List.mem_append_left _ (List.mem_append_left _ (List.mem_append_left _ (List.mem_append_left _ (List.mem_append_left _ (List.mem_append_right _ h)))))))
theorem chm_mends_12 : ∀ w ∈ wsX50, w ∈ wsL_mends := fun w h => List.mem_cons_of_mem _ (List.mem_append_left _ (List.mem_append_left _ (List.mem_append_left _ (List.mem_append_left _ (List.mem_append_left _ (List.mem_append_right _ h))))))
theorem chm_mends_13 : ∀ w ∈ wsX80, w ∈ wsL_mends := fun w h => List.mem_cons_of_mem _ (List.mem_append_left _ (List.mem_append_left _ (List.mem_append_left _ (List.mem_append_left _ (List.mem_append_right _ h)))))
theorem chm_mends_14 : ∀ w ∈ wsX70, w ∈ wsL_mends := fun w h => List.mem_cons_of_mem _ (List.mem_append_left _ (List.mem_append_left _ (List.mem_append_left _ (List.mem_append_right _ h))))
theorem chm_mends_15 : ∀ w ∈ wsX20, w ∈ wsL_mends := fun w h => List.mem_cons_of_mem _ (List.mem_append_left _ (List.mem_append_left _ (List.mem_append_right _ h)))
theorem chi_mends : ∀ c ∈ ch_mends, ∀ w ∈ c, w ∈ wsL_mends := (List.forall_mem_cons.mpr ⟨chm_mends_0, (List.forall_mem_cons.mpr ⟨chm_mends_1, (List.forall_mem_cons.mpr ⟨chm_mends_2, (List.forall_mem_cons.mpr ⟨chm_mends_3, (List.forall_mem_cons.mpr ⟨chm_mends_4, (List.forall_mem_cons.mpr ⟨chm_mends_5, (List.forall_mem_cons.mpr ⟨chm_mends_6, (List.forall_mem_cons.mpr ⟨chm_mends_7, (List.forall_mem_cons.mpr ⟨chm_mends_8, (List.forall_mem_cons.mpr ⟨chm_mends_9, (List.forall_mem_cons.mpr ⟨chm_mends_10, (List.forall_mem_cons.mpr ⟨chm_mends_11, (List.forall_mem_cons.mpr ⟨chm_mends_12, (List.forall_mem_cons.mpr ⟨chm_mends_13, (List.forall_mem_cons.mpr ⟨chm_mends_14, (List.forall_mem_cons.mpr ⟨chm_mends_15, (fun _ h => absurd h List.not_mem_nil)⟩)⟩)⟩)⟩)⟩)⟩)⟩)⟩)⟩)⟩)⟩)⟩)⟩)⟩)⟩)⟩)
set_option maxRecDepth 100000 in
theorem chg_mends : wsL_mends.all goodWord = true := by decide +kernel
set_option maxRecDepth 100000 in
theorem ggL_mends_X10_quotationsOf : GoodIn wsL_mends wsX10_quotationsOf := goodIn_ca (goodIn_ch ch_mends chi_mends chg_mends [(0, 4), (0, 5), (0, 6), (0, 7), (0, 8), (0, 3), (0, 9), (0, 10), (0, 11), (0, 12), (0, 13), (0, 14), (0, 15), (0, 16), (0, 17), (0, 18), (0, 19), (0, 20), (0, 21), (0, 22), (0, 23), (9, 0), (9, 1), (9, 2), (9, 3), (9, 4), (9, 5), (9, 6), (10, 0), (10, 1), (10, 2), (10, 3), (10, 4), (10, 5), (10, 6), (10, 7), (11, 0), (11, 1), (11, 2), (11, 3)] rfl) (goodIn_sub (fun _ h => List.mem_cons_of_mem _ (List.mem_append_left _ (List.mem_append_right _ h))) (by decide +kernel))
set_option maxRecDepth 100000 in
theorem gL_mends_X10_quotationsOf : GoodIn wsL_mends (wsV RL 82 RX10 yX10_quotationsOf wsX10_quotationsOf) := goodIn_app (goodIn_ch ch_mends chi_mends chg_mends [(0, 0), (0, 1), (0, 2), (0, 3)] rfl) ggL_mends_X10_quotationsOf
set_option maxRecDepth 100000 in
theorem ggL_mends_L_tryMend : GoodIn wsL_mends wsL_tryMend := goodIn_ca (goodIn_ca (goodIn_ch ch_mends chi_mends chg_mends [(1, 3), (1, 4), (1, 5), (1, 6), (1, 7), (1, 8), (0, 3), (1, 9), (1, 10), (1, 11), (1, 12), (0, 5), (1, 13), (1, 14), (1, 15), (1, 16), (1, 17), (0, 10), (0, 11), (0, 6), (0, 7), (0, 8), (0, 9), (0, 12), (0, 13), (0, 14), (0, 15), (0, 16), (0, 17), (0, 18), (0, 19), (0, 20), (0, 21), (0, 22), (0, 23), (1, 18), (1, 19), (1, 20), (1, 21), (1, 22), (1, 23), (2, 0), (2, 1), (2, 2), (2, 3), (2, 4), (2, 5), (2, 6), (2, 7), (2, 8), (2, 9), (2, 10), (2, 11), (2, 12), (2, 13), (2, 14), (2, 15), (2, 16), (2, 17), (2, 18), (2, 19), (2, 20), (2, 21), (2, 22), (2, 23), (3, 0), (3, 1), (3, 2), (3, 3), (3, 4), (3, 5), (3, 6), (3, 7), (3, 8), (3, 9), (3, 10), (3, 11), (3, 12), (3, 13), (3, 14), (3, 15), (3, 16), (3, 17), (3, 18), (3, 19), (3, 20), (3, 21), (3, 22), (3, 23), (4, 0), (4, 1), (4, 2), (4, 3), (4, 4), (4, 5), (4, 6), (4, 7), (4, 8), (4, 9), (4, 10), (4, 11), (4, 12), (4, 13), (4, 14), (4, 15), (4, 16), (4, 17), (4, 18), (4, 19), (4, 20), (4, 21), (4, 22), (4, 23), (5, 0), (5, 1), (5, 2), (5, 3), (5, 4), (5, 5), (5, 6), (5, 7), (5, 8), (5, 9), (5, 10), (5, 11), (5, 12), (5, 13), (5, 14), (5, 15), (5, 16), (5, 17), (5, 18), (5, 19), (5, 20), (5, 21), (5, 22), (5, 23), (6, 0), (6, 1), (6, 2), (6, 3), (9, 0), (9, 1), (9, 2), (9, 3), (9, 4), (9, 5), (9, 6), (10, 0), (10, 1), (10, 2), (10, 3), (10, 4), (10, 5), (10, 6), (10, 7), (11, 0), (11, 1), (11, 2), (11, 3), (12, 0), (12, 1), (12, 2), (13, 0), (13, 1), (13, 2), (13, 3), (14, 0), (15, 0), (15, 1), (15, 2), (15, 3), (15, 4)] rfl) (goodIn_sub (fun _ h => List.mem_cons_of_mem _ (List.mem_append_right _ h)) (by decide +kernel))) (goodIn_sub (fun _ h => List.mem_cons_of_mem _ (List.mem_append_left _ (List.mem_append_right _ h))) (by decide +kernel))
set_option maxRecDepth 100000 in
theorem gL_mends_L_tryMend : GoodIn wsL_mends (va_wsS RL 190 yL_tryMend wsL_tryMend) := goodIn_app (goodIn_ch ch_mends chi_mends chg_mends [(1, 0), (1, 1), (1, 2)] rfl) ggL_mends_L_tryMend
set_option maxRecDepth 100000 in
theorem ggL_mends_L_low : GoodIn wsL_mends wsL_low := goodIn_ch ch_mends chi_mends chg_mends [(6, 6), (6, 7)] rfl
set_option maxRecDepth 100000 in
theorem gL_mends_L_low : GoodIn wsL_mends (va_wsS RL 166 yL_low wsL_low) := goodIn_app (goodIn_ch ch_mends chi_mends chg_mends [(6, 4), (6, 5), (1, 2)] rfl) ggL_mends_L_low
set_option maxRecDepth 100000 in
theorem ggL_mends_X10_changesByTable : GoodIn wsL_mends wsX10_changesByTable := goodIn_ca (goodIn_ch ch_mends chi_mends chg_mends [(6, 11), (1, 12), (0, 5), (1, 14), (1, 15), (1, 16), (0, 3), (1, 17), (0, 10), (0, 11), (0, 6), (0, 7), (0, 8), (0, 9), (0, 12), (0, 13), (0, 14), (0, 15), (0, 16), (0, 17), (0, 18), (0, 19), (0, 20), (0, 21), (0, 22), (0, 23), (1, 18), (1, 19), (1, 20), (1, 21), (1, 22), (1, 23), (2, 0), (2, 1), (2, 2), (2, 3), (2, 4), (2, 5), (2, 6), (2, 7), (2, 8), (2, 9), (2, 10), (2, 11), (2, 12), (2, 13), (2, 14), (2, 15), (2, 16), (2, 17), (2, 18), (2, 19), (2, 20), (2, 21), (2, 22), (2, 23), (3, 0), (3, 1), (3, 2), (3, 3), (3, 4), (3, 5), (3, 6), (3, 7), (3, 8), (3, 9), (3, 10), (3, 11), (3, 12), (9, 0), (9, 1), (9, 2), (9, 3), (9, 4), (9, 5), (9, 6), (10, 0), (10, 1), (10, 2), (10, 3), (10, 4), (10, 5), (10, 6), (10, 7), (11, 0), (11, 1), (11, 2), (11, 3), (12, 0), (12, 1), (12, 2), (13, 0), (13, 1), (13, 2), (13, 3), (14, 0)] rfl) (goodIn_sub (fun _ h => List.mem_cons_of_mem _ (List.mem_append_left _ (List.mem_append_right _ h))) (by decide +kernel))
set_option maxRecDepth 100000 in
theorem gL_mends_X10_changesByTable : GoodIn wsL_mends (wsV RL 39 RX10 yX10_changesByTable wsX10_changesByTable) := goodIn_app (goodIn_ch ch_mends chi_mends chg_mends [(6, 8), (6, 9), (6, 10), (0, 3)] rfl) ggL_mends_X10_changesByTable
set_option maxRecDepth 100000 in
theorem ggL_mends_X10_wordsOf : GoodIn wsL_mends wsX10_wordsOf := goodIn_ca (goodIn_ch ch_mends chi_mends chg_mends [(6, 15), (0, 5), (0, 6), (0, 7), (0, 8), (0, 3), (0, 9), (0, 10), (0, 11), (0, 12), (0, 13), (0, 14), (0, 15), (0, 16), (0, 17), (0, 18), (0, 19), (0, 20), (0, 21), (0, 22), (0, 23), (9, 0), (9, 1), (9, 2), (9, 3), (9, 4), (9, 5), (9, 6), (10, 0), (10, 1), (10, 2), (10, 3), (10, 4), (10, 5), (10, 6), (10, 7), (11, 0), (11, 1), (11, 2), (11, 3)] rfl) (goodIn_sub (fun _ h => List.mem_cons_of_mem _ (List.mem_append_left _ (List.mem_append_right _ h))) (by decide +kernel))
set_option maxRecDepth 100000 in
theorem gL_mends_X10_wordsOf : GoodIn wsL_mends (wsV RL 60 RX10 yX10_wordsOf wsX10_wordsOf) := goodIn_app (goodIn_ch ch_mends chi_mends chg_mends [(6, 12), (6, 13), (6, 14), (0, 3)] rfl) ggL_mends_X10_wordsOf
set_option maxRecDepth 100000 in
theorem ggL_mends_X10_lengthOf : GoodIn wsL_mends wsX10_lengthOf := goodIn_ca (goodIn_ch ch_mends chi_mends chg_mends [(6, 19), (0, 5), (1, 14), (1, 15), (1, 16), (0, 3), (1, 17), (0, 10), (0, 11), (0, 6), (0, 7), (0, 8), (0, 9), (0, 12), (0, 13), (0, 14), (0, 15), (0, 16), (0, 17), (0, 18), (0, 19), (0, 20), (0, 21), (0, 22), (0, 23), (6, 20), (2, 2), (2, 3), (2, 4), (2, 5), (2, 6), (9, 0), (9, 1), (9, 2), (9, 3), (9, 4), (9, 5), (9, 6), (10, 0), (10, 1), (10, 2), (10, 3), (10, 4), (10, 5), (10, 6), (10, 7), (11, 0), (11, 1), (11, 2), (11, 3), (14, 0)] rfl) (goodIn_sub (fun _ h => List.mem_cons_of_mem _ (List.mem_append_left _ (List.mem_append_right _ h))) (by decide +kernel))
set_option maxRecDepth 100000 in
theorem gL_mends_X10_lengthOf : GoodIn wsL_mends (wsV RL 36 RX10 yX10_lengthOf wsX10_lengthOf) := goodIn_app (goodIn_ch ch_mends chi_mends chg_mends [(6, 16), (6, 17), (6, 18), (0, 3)] rfl) ggL_mends_X10_lengthOf
set_option maxRecDepth 100000 in
theorem ggL_mends_X10_passageLength : GoodIn wsL_mends wsX10_passageLength := goodIn_ca (goodIn_ch ch_mends chi_mends chg_mends [(7, 0), (1, 12), (0, 5), (1, 14), (1, 15), (1, 16), (0, 3), (1, 17), (0, 10), (0, 11), (0, 6), (0, 7), (0, 8), (0, 9), (0, 12), (0, 13), (0, 14), (0, 15), (0, 16), (0, 17), (0, 18), (0, 19), (0, 20), (0, 21), (0, 22), (0, 23), (1, 18), (1, 19), (1, 20), (1, 21), (1, 22), (1, 23), (2, 0), (2, 1), (2, 2), (2, 3), (2, 4), (2, 5), (2, 6), (2, 7), (2, 8), (2, 9), (2, 10), (2, 11), (2, 12), (2, 13), (2, 14), (2, 15), (2, 16), (2, 17), (2, 18), (2, 19), (2, 20), (2, 21), (2, 22), (2, 23), (3, 0), (3, 1), (3, 2), (3, 3), (3, 4), (3, 5), (3, 6), (3, 7), (3, 8), (3, 9), (3, 10), (3, 11), (3, 12), (9, 0), (9, 1), (9, 2), (9, 3), (9, 4), (9, 5), (9, 6), (12, 0), (12, 1), (12, 2), (13, 0), (13, 1), (13, 2), (13, 3), (10, 0), (10, 1), (10, 2), (10, 3), (10, 4), (10, 5), (10, 6), (10, 7), (11, 0), (11, 1), (11, 2), (11, 3), (14, 0)] rfl) (goodIn_sub (fun _ h => List.mem_cons_of_mem _ (List.mem_append_left _ (List.mem_append_right _ h))) (by decide +kernel))
set_option maxRecDepth 100000 in
theorem gL_mends_X10_passageLength : GoodIn wsL_mends (wsV RL 45 RX10 yX10_passageLength wsX10_passageLength) := goodIn_app (goodIn_ch ch_mends chi_mends chg_mends [(6, 21), (6, 22), (6, 23), (0, 3)] rfl) ggL_mends_X10_passageLength
set_option maxRecDepth 100000 in
theorem ggL_mends_L_tale : GoodIn wsL_mends wsL_tale := goodIn_ca (goodIn_ch ch_mends chi_mends chg_mends [(7, 3), (7, 4), (7, 5), (7, 6), (7, 7), (0, 3), (7, 8), (0, 5), (7, 9), (7, 10), (7, 11), (7, 12), (7, 13), (7, 14), (7, 15), (7, 16), (0, 6), (0, 7), (0, 8), (0, 9), (0, 10), (0, 11), (0, 12), (0, 13), (0, 14), (0, 15), (0, 16), (0, 17), (0, 18), (0, 19), (0, 20), (0, 21), (0, 22), (0, 23), (7, 17), (7, 18), (7, 19), (7, 20), (6, 12), (6, 13), (6, 14), (6, 15), (7, 21), (7, 22), (7, 23), (8, 0), (8, 1), (8, 2), (8, 3), (8, 4), (8, 5), (8, 6), (8, 7), (8, 8), (2, 19), (2, 20), (2, 4), (2, 21), (2, 6), (8, 9), (8, 10), (8, 11), (0, 0), (0, 1), (0, 2), (0, 4), (8, 12), (8, 13), (8, 14), (8, 15), (1, 14), (1, 15), (1, 16), (1, 17), (6, 20), (2, 2), (2, 3), (2, 5), (8, 16), (8, 17), (8, 18), (8, 19), (6, 16), (6, 17), (6, 18), (6, 19), (9, 0), (9, 1), (9, 2), (9, 3), (9, 4), (9, 5), (9, 6), (11, 0), (11, 1), (11, 2), (11, 3), (10, 0), (10, 1), (10, 2), (10, 3), (10, 4), (10, 5), (10, 6), (10, 7), (14, 0)] rfl) (goodIn_sub (fun _ h => List.mem_cons_of_mem _ (List.mem_append_left _ (List.mem_append_right _ h))) (by decide +kernel))
set_option maxRecDepth 100000 in
theorem gL_mends_L_tale : GoodIn wsL_mends (va_wsS RL 193 yL_tale wsL_tale) := goodIn_app (goodIn_ch ch_mends chi_mends chg_mends [(7, 1), (7, 2), (1, 2)] rfl) ggL_mends_L_tale
theorem dL_mends_0 : decode cL_mends 0 = .ok (.aload_n 0, 1) := by decide +kernel
theorem dL_mends_1 : decode cL_mends 1 = .ok (.iload_n 1, 1) := by decide +kernel
theorem dL_mends_2 : decode cL_mends 2 = .ok (.invokevirtual 82, 3) := by decide +kernel
theorem dL_mends_5 : decode cL_mends 5 = .ok (.istore_n 3, 1) := by decide +kernel
theorem dL_mends_6 : decode cL_mends 6 = .ok (.iload_n 3, 1) := by decide +kernel
theorem dL_mends_7 : decode cL_mends 7 = .ok (.ifCond .ne 21, 3) := by decide +kernel
theorem dL_mends_10 : decode cL_mends 10 = .ok (.aload_n 0, 1) := by decide +kernel
theorem dL_mends_11 : decode cL_mends 11 = .ok (.iload_n 1, 1) := by decide +kernel
theorem dL_mends_12 : decode cL_mends 12 = .ok (.iconst 0, 1) := by decide +kernel
theorem dL_mends_13 : decode cL_mends 13 = .ok (.invokestatic 190, 3) := by decide +kernel
theorem dL_mends_16 : decode cL_mends 16 = .ok (.sipush (-7003), 3) := by decide +kernel
theorem dL_mends_19 : decode cL_mends 19 = .ok (.if_icmp .ne 7, 3) := by decide +kernel
theorem dL_mends_22 : decode cL_mends 22 = .ok (.iconst 1, 1) := by decide +kernel
theorem dL_mends_23 : decode cL_mends 23 = .ok (.goto 4, 3) := by decide +kernel
theorem dL_mends_26 : decode cL_mends 26 = .ok (.iconst 0, 1) := by decide +kernel
theorem dL_mends_27 : decode cL_mends 27 = .ok (.ireturn, 1) := by decide +kernel
theorem dL_mends_28 : decode cL_mends 28 = .ok (.iload_n 2, 1) := by decide +kernel
theorem dL_mends_29 : decode cL_mends 29 = .ok (.iload_n 3, 1) := by decide +kernel
theorem dL_mends_30 : decode cL_mends 30 = .ok (.invokestatic 166, 3) := by decide +kernel
theorem dL_mends_33 : decode cL_mends 33 = .ok (.istore 4, 2) := by decide +kernel
theorem dL_mends_35 : decode cL_mends 35 = .ok (.aload_n 0, 1) := by decide +kernel
theorem dL_mends_36 : decode cL_mends 36 = .ok (.iload_n 1, 1) := by decide +kernel
theorem dL_mends_37 : decode cL_mends 37 = .ok (.iload 4, 2) := by decide +kernel
theorem dL_mends_39 : decode cL_mends 39 = .ok (.invokevirtual 39, 3) := by decide +kernel
theorem dL_mends_42 : decode cL_mends 42 = .ok (.istore 5, 2) := by decide +kernel
theorem dL_mends_44 : decode cL_mends 44 = .ok (.aload_n 0, 1) := by decide +kernel
theorem dL_mends_45 : decode cL_mends 45 = .ok (.iload_n 1, 1) := by decide +kernel
theorem dL_mends_46 : decode cL_mends 46 = .ok (.invokevirtual 60, 3) := by decide +kernel
theorem dL_mends_49 : decode cL_mends 49 = .ok (.aload_n 0, 1) := by decide +kernel
theorem dL_mends_50 : decode cL_mends 50 = .ok (.iload_n 1, 1) := by decide +kernel
theorem dL_mends_51 : decode cL_mends 51 = .ok (.iload 4, 2) := by decide +kernel
theorem dL_mends_53 : decode cL_mends 53 = .ok (.invokevirtual 36, 3) := by decide +kernel
theorem dL_mends_56 : decode cL_mends 56 = .ok (.isub, 1) := by decide +kernel
theorem dL_mends_57 : decode cL_mends 57 = .ok (.aload_n 0, 1) := by decide +kernel
theorem dL_mends_58 : decode cL_mends 58 = .ok (.iload_n 1, 1) := by decide +kernel
theorem dL_mends_59 : decode cL_mends 59 = .ok (.iload 4, 2) := by decide +kernel
theorem dL_mends_61 : decode cL_mends 61 = .ok (.invokevirtual 45, 3) := by decide +kernel
theorem dL_mends_64 : decode cL_mends 64 = .ok (.iadd, 1) := by decide +kernel
theorem dL_mends_65 : decode cL_mends 65 = .ok (.istore 6, 2) := by decide +kernel
theorem dL_mends_67 : decode cL_mends 67 = .ok (.aload_n 0, 1) := by decide +kernel
theorem dL_mends_68 : decode cL_mends 68 = .ok (.invokestatic 193, 3) := by decide +kernel
theorem dL_mends_71 : decode cL_mends 71 = .ok (.lstore 7, 2) := by decide +kernel
theorem dL_mends_73 : decode cL_mends 73 = .ok (.aload_n 0, 1) := by decide +kernel
theorem dL_mends_74 : decode cL_mends 74 = .ok (.iload_n 1, 1) := by decide +kernel
theorem dL_mends_75 : decode cL_mends 75 = .ok (.iload 4, 2) := by decide +kernel
theorem dL_mends_77 : decode cL_mends 77 = .ok (.invokestatic 190, 3) := by decide +kernel
theorem dL_mends_80 : decode cL_mends 80 = .ok (.istore 9, 2) := by decide +kernel
theorem dL_mends_82 : decode cL_mends 82 = .ok (.iload 5, 2) := by decide +kernel
theorem dL_mends_84 : decode cL_mends 84 = .ok (.ifCond .eq 10, 3) := by decide +kernel
theorem dL_mends_87 : decode cL_mends 87 = .ok (.iload 6, 2) := by decide +kernel
theorem dL_mends_89 : decode cL_mends 89 = .ok (.bipush 60, 2) := by decide +kernel
theorem dL_mends_91 : decode cL_mends 91 = .ok (.if_icmp .le 27, 3) := by decide +kernel
theorem dL_mends_94 : decode cL_mends 94 = .ok (.iload 9, 2) := by decide +kernel
theorem dL_mends_96 : decode cL_mends 96 = .ok (.sipush (-7002), 3) := by decide +kernel
theorem dL_mends_99 : decode cL_mends 99 = .ok (.if_icmp .ne 17, 3) := by decide +kernel
theorem dL_mends_102 : decode cL_mends 102 = .ok (.aload_n 0, 1) := by decide +kernel
theorem dL_mends_103 : decode cL_mends 103 = .ok (.invokestatic 193, 3) := by decide +kernel
theorem dL_mends_106 : decode cL_mends 106 = .ok (.lload 7, 2) := by decide +kernel
theorem dL_mends_108 : decode cL_mends 108 = .ok (.lcmp, 1) := by decide +kernel
theorem dL_mends_109 : decode cL_mends 109 = .ok (.ifCond .ne 7, 3) := by decide +kernel
theorem dL_mends_112 : decode cL_mends 112 = .ok (.iconst 1, 1) := by decide +kernel
theorem dL_mends_113 : decode cL_mends 113 = .ok (.goto 4, 3) := by decide +kernel
theorem dL_mends_116 : decode cL_mends 116 = .ok (.iconst 0, 1) := by decide +kernel
theorem dL_mends_117 : decode cL_mends 117 = .ok (.ireturn, 1) := by decide +kernel
theorem dL_mends_118 : decode cL_mends 118 = .ok (.iload 9, 2) := by decide +kernel
theorem dL_mends_120 : decode cL_mends 120 = .ok (.iload 5, 2) := by decide +kernel
theorem dL_mends_122 : decode cL_mends 122 = .ok (.if_icmp .ne 27, 3) := by decide +kernel
theorem dL_mends_125 : decode cL_mends 125 = .ok (.aload_n 0, 1) := by decide +kernel
theorem dL_mends_126 : decode cL_mends 126 = .ok (.iload_n 1, 1) := by decide +kernel
theorem dL_mends_127 : decode cL_mends 127 = .ok (.iload 4, 2) := by decide +kernel
theorem dL_mends_129 : decode cL_mends 129 = .ok (.invokevirtual 39, 3) := by decide +kernel
theorem dL_mends_132 : decode cL_mends 132 = .ok (.ifCond .ne 17, 3) := by decide +kernel
theorem dL_mends_135 : decode cL_mends 135 = .ok (.aload_n 0, 1) := by decide +kernel
theorem dL_mends_136 : decode cL_mends 136 = .ok (.iload_n 1, 1) := by decide +kernel
theorem dL_mends_137 : decode cL_mends 137 = .ok (.invokevirtual 60, 3) := by decide +kernel
theorem dL_mends_140 : decode cL_mends 140 = .ok (.iload 6, 2) := by decide +kernel
theorem dL_mends_142 : decode cL_mends 142 = .ok (.if_icmp .ne 7, 3) := by decide +kernel
theorem dL_mends_145 : decode cL_mends 145 = .ok (.iconst 1, 1) := by decide +kernel
theorem dL_mends_146 : decode cL_mends 146 = .ok (.goto 4, 3) := by decide +kernel
theorem dL_mends_149 : decode cL_mends 149 = .ok (.iconst 0, 1) := by decide +kernel
theorem dL_mends_150 : decode cL_mends 150 = .ok (.ireturn, 1) := by decide +kernel
def ch_returns : List (List Cond) := [wsL_returns_r1, wsL_returns_r2, wsL_returns_r3, wsL_returns_r4, wsL_returns_r5, wsL_returns_r6, wsL_returns_r7, wsL_returns_r8, wsL_returns_r9, wsL_returns_r10, wsX100, wsX90, wsX40, wsX70, wsX20, wsX50, wsX80]
theorem chm_returns_0 : ∀ w ∈ wsL_returns_r1, w ∈ wsL_returns := fun w h => List.mem_cons_of_mem _ (List.mem_append_left _ (List.mem_append_left _ (List.mem_append_left _ (List.mem_append_left _ (List.mem_append_left _ (List.mem_append_left _ (List.mem_append_left _ (List.mem_append_left _ (List.mem_append_left _ (List.mem_append_left _ (List.mem_append_left _ h)))))))))))
theorem chm_returns_1 : ∀ w ∈ wsL_returns_r2, w ∈ wsL_returns := fun w h => List.mem_cons_of_mem _ (List.mem_append_left _ (List.mem_append_left _ (List.mem_append_left _ (List.mem_append_left _ (List.mem_append_left _ (List.mem_append_left _ (List.mem_append_left _ (List.mem_append_left _ (List.mem_append_left _ (List.mem_append_left _ (List.mem_append_right _ (List.mem_append_left _ h))))))))))))
theorem chm_returns_2 : ∀ w ∈ wsL_returns_r3, w ∈ wsL_returns := fun w h => List.mem_cons_of_mem _ (List.mem_append_left _ (List.mem_append_left _ (List.mem_append_left _ (List.mem_append_left _ (List.mem_append_left _ (List.mem_append_left _ (List.mem_append_left _ (List.mem_append_left _ (List.mem_append_left _ (List.mem_append_left _ (List.mem_append_right _ (List.mem_append_right _ (List.mem_append_left _ h)))))))))))))
theorem chm_returns_3 : ∀ w ∈ wsL_returns_r4, w ∈ wsL_returns := fun w h => List.mem_cons_of_mem _ (List.mem_append_left _ (List.mem_append_left _ (List.mem_append_left _ (List.mem_append_left _ (List.mem_append_left _ (List.mem_append_left _ (List.mem_append_left _ (List.mem_append_left _ (List.mem_append_left _ (List.mem_append_left _ (List.mem_append_right _ (List.mem_append_right _ (List.mem_append_right _ (List.mem_append_left _ h))))))))))))))
theorem chm_returns_4 : ∀ w ∈ wsL_returns_r5, w ∈ wsL_returns := fun w h => List.mem_cons_of_mem _ (List.mem_append_left _ (List.mem_append_left _ (List.mem_append_left _ (List.mem_append_left _ (List.mem_append_left _ (List.mem_append_left _ (List.mem_append_left _ (List.mem_append_left _ (List.mem_append_left _ (List.mem_append_left _ (List.mem_append_right _ (List.mem_append_right _ (List.mem_append_right _ (List.mem_append_right _ (List.mem_append_left _ h)))))))))))))))
theorem chm_returns_5 : ∀ w ∈ wsL_returns_r6, w ∈ wsL_returns := fun w h => List.mem_cons_of_mem _ (List.mem_append_left _ (List.mem_append_left _ (List.mem_append_left _ (List.mem_append_left _ (List.mem_append_left _ (List.mem_append_left _ (List.mem_append_left _ (List.mem_append_left _ (List.mem_append_left _ (List.mem_append_left _ (List.mem_append_right _ (List.mem_append_right _ (List.mem_append_right _ (List.mem_append_right _ (List.mem_append_right _ (List.mem_append_left _ h))))))))))))))))
theorem chm_returns_6 : ∀ w ∈ wsL_returns_r7, w ∈ wsL_returns := fun w h => List.mem_cons_of_mem _ (List.mem_append_left _ (List.mem_append_left _ (List.mem_append_left _ (List.mem_append_left _ (List.mem_append_left _ (List.mem_append_left _ (List.mem_append_left _ (List.mem_append_left _ (List.mem_append_left _ (List.mem_append_left _ (List.mem_append_right _ (List.mem_append_right _ (List.mem_append_right _ (List.mem_append_right _ (List.mem_append_right _ (List.mem_append_right _ (List.mem_append_left _ h)))))))))))))))))
theorem chm_returns_7 : ∀ w ∈ wsL_returns_r8, w ∈ wsL_returns := fun w h => List.mem_cons_of_mem _ (List.mem_append_left _ (List.mem_append_left _ (List.mem_append_left _ (List.mem_append_left _ (List.mem_append_left _ (List.mem_append_left _ (List.mem_append_left _ (List.mem_append_left _ (List.mem_append_left _ (List.mem_append_left _ (List.mem_append_right _ (List.mem_append_right _ (List.mem_append_right _ (List.mem_append_right _ (List.mem_append_right _ (List.mem_append_right _ (List.mem_append_right _ (List.mem_append_left _ h))))))))))))))))))
theorem chm_returns_8 : ∀ w ∈ wsL_returns_r9, w ∈ wsL_returns := fun w h => List.mem_cons_of_mem _ (List.mem_append_left _ (List.mem_append_left _ (List.mem_append_left _ (List.mem_append_left _ (List.mem_append_left _ (List.mem_append_left _ (List.mem_append_left _ (List.mem_append_left _ (List.mem_append_left _ (List.mem_append_left _ (List.mem_append_right _ (List.mem_append_right _ (List.mem_append_right _ (List.mem_append_right _ (List.mem_append_right _ (List.mem_append_right _ (List.mem_append_right _ (List.mem_append_right _ (List.mem_append_left _ h)))))))))))))))))))
theorem chm_returns_9 : ∀ w ∈ wsL_returns_r10, w ∈ wsL_returns := fun w h => List.mem_cons_of_mem _ (List.mem_append_left _ (List.mem_append_left _ (List.mem_append_left _ (List.mem_append_left _ (List.mem_append_left _ (List.mem_append_left _ (List.mem_append_left _ (List.mem_append_left _ (List.mem_append_left _ (List.mem_append_left _ (List.mem_append_right _ (List.mem_append_right _ (List.mem_append_right _ (List.mem_append_right _ (List.mem_append_right _ (List.mem_append_right _ (List.mem_append_right _ (List.mem_append_right _ (List.mem_append_right _ h)))))))))))))))))))
theorem chm_returns_10 : ∀ w ∈ wsX100, w ∈ wsL_returns := fun w h => List.mem_cons_of_mem _ (List.mem_append_left _ (List.mem_append_left _ (List.mem_append_left _ (List.mem_append_left _ (List.mem_append_left _ (List.mem_append_left _ (List.mem_append_left _ (List.mem_append_left _ (List.mem_append_left _ (List.mem_append_right _ h))))))))))
theorem chm_returns_11 : ∀ w ∈ wsX90, w ∈ wsL_returns := fun w h => List.mem_cons_of_mem _ (List.mem_append_left _ (List.mem_append_left _ (List.mem_append_left _ (List.mem_append_left _ (List.mem_append_left _ (List.mem_append_left _ (List.mem_append_left _ (List.mem_append_left _ (List.mem_append_right _ h)))))))))
theorem chm_returns_12 : ∀ w ∈ wsX40, w ∈ wsL_returns := fun w h => List.mem_cons_of_mem _ (List.mem_append_left _ (List.mem_append_left _ (List.mem_append_left _ (List.mem_append_left _ (List.mem_append_left _ (List.mem_append_left _ (List.mem_append_left _ (List.mem_append_right _ h))))))))
theorem chm_returns_13 : ∀ w ∈ wsX70, w ∈ wsL_returns := fun w h => List.mem_cons_of_mem _ (List.mem_append_left _ (List.mem_append_left _ (List.mem_append_left _ (List.mem_append_left _ (List.mem_append_left _ (List.mem_append_left _ (List.mem_append_right _ h)))))))
theorem chm_returns_14 : ∀ w ∈ wsX20, w ∈ wsL_returns := fun w h => List.mem_cons_of_mem _ (List.mem_append_left _ (List.mem_append_left _ (List.mem_append_left _ (List.mem_append_left _ (List.mem_append_left _ (List.mem_append_right _ h))))))
theorem chm_returns_15 : ∀ w ∈ wsX50, w ∈ wsL_returns := fun w h => List.mem_cons_of_mem _ (List.mem_append_left _ (List.mem_append_left _ (List.mem_append_left _ (List.mem_append_left _ (List.mem_append_right _ h)))))
theorem chm_returns_16 : ∀ w ∈ wsX80, w ∈ wsL_returns := fun w h => List.mem_cons_of_mem _ (List.mem_append_left _ (List.mem_append_left _ (List.mem_append_left _ (List.mem_append_right _ h))))
theorem chi_returns : ∀ c ∈ ch_returns, ∀ w ∈ c, w ∈ wsL_returns := (List.forall_mem_cons.mpr ⟨chm_returns_0, (List.forall_mem_cons.mpr ⟨chm_returns_1, (List.forall_mem_cons.mpr ⟨chm_returns_2, (List.forall_mem_cons.mpr ⟨chm_returns_3, (List.forall_mem_cons.mpr ⟨chm_returns_4, (List.forall_mem_cons.mpr ⟨chm_returns_5, (List.forall_mem_cons.mpr ⟨chm_returns_6, (List.forall_mem_cons.mpr ⟨chm_returns_7, (List.forall_mem_cons.mpr ⟨chm_returns_8, (List.forall_mem_cons.mpr ⟨chm_returns_9, (List.forall_mem_cons.mpr ⟨chm_returns_10, (List.forall_mem_cons.mpr ⟨chm_returns_11, (List.forall_mem_cons.mpr ⟨chm_returns_12, (List.forall_mem_cons.mpr ⟨chm_returns_13, (List.forall_mem_cons.mpr ⟨chm_returns_14, (List.forall_mem_cons.mpr ⟨chm_returns_15, (List.forall_mem_cons.mpr ⟨chm_returns_16, (fun _ h => absurd h List.not_mem_nil)⟩)⟩)⟩)⟩)⟩)⟩)⟩)⟩)⟩)⟩)⟩)⟩)⟩)⟩)⟩)⟩)⟩)
set_option maxRecDepth 100000 in
theorem chg_returns : wsL_returns.all goodWord = true := by decide +kernel
set_option maxRecDepth 100000 in
theorem ggL_returns_L_tale : GoodIn wsL_returns wsL_tale := goodIn_ca (goodIn_ch ch_returns chi_returns chg_returns [(0, 3), (0, 4), (0, 5), (0, 6), (0, 7), (0, 8), (0, 9), (0, 10), (0, 11), (0, 12), (0, 13), (0, 14), (0, 15), (0, 16), (0, 17), (0, 18), (0, 19), (0, 20), (0, 21), (0, 22), (0, 23), (1, 0), (1, 1), (1, 2), (1, 3), (1, 4), (1, 5), (1, 6), (1, 7), (1, 8), (1, 9), (1, 10), (1, 11), (1, 12), (1, 13), (1, 14), (1, 15), (1, 16), (1, 17), (1, 18), (1, 19), (1, 20), (1, 21), (1, 22), (1, 23), (2, 0), (2, 1), (2, 2), (2, 3), (2, 4), (2, 5), (2, 6), (2, 7), (2, 8), (2, 9), (2, 10), (2, 11), (2, 12), (2, 13), (2, 14), (2, 15), (2, 16), (2, 17), (2, 18), (2, 19), (2, 20), (2, 21), (2, 22), (2, 23), (3, 0), (3, 1), (3, 2), (3, 3), (3, 4), (3, 5), (3, 6), (3, 7), (3, 8), (3, 9), (3, 10), (3, 11), (3, 12), (3, 13), (3, 14), (3, 15), (3, 16), (10, 0), (10, 1), (10, 2), (10, 3), (10, 4), (10, 5), (10, 6), (11, 0), (11, 1), (11, 2), (11, 3), (12, 0), (12, 1), (12, 2), (12, 3), (12, 4), (12, 5), (12, 6), (12, 7), (13, 0)] rfl) (goodIn_sub (fun _ h => List.mem_cons_of_mem _ (List.mem_append_left _ (List.mem_append_left _ (List.mem_append_right _ h)))) (by decide +kernel))
set_option maxRecDepth 100000 in
theorem gL_returns_L_tale : GoodIn wsL_returns (va_wsS RL 193 yL_tale wsL_tale) := goodIn_app (goodIn_ch ch_returns chi_returns chg_returns [(0, 0), (0, 1), (0, 2)] rfl) ggL_returns_L_tale
set_option maxRecDepth 100000 in
theorem ggL_returns_X10_takeSnapshot : GoodIn wsL_returns wsX10_takeSnapshot := goodIn_ch ch_returns chi_returns chg_returns [(3, 20), (3, 21), (0, 10), (3, 22), (3, 23), (4, 0), (1, 4), (4, 1), (1, 6), (4, 2), (4, 3), (1, 8), (1, 9), (1, 10), (1, 11), (1, 12), (4, 4), (4, 5), (4, 6), (4, 7), (4, 8), (4, 9), (4, 10), (4, 11), (4, 12), (4, 13), (4, 14), (4, 15), (4, 16), (4, 17), (4, 18), (4, 19), (2, 11), (4, 20), (2, 13), (4, 21), (4, 22), (4, 23), (5, 0), (10, 0), (10, 1), (10, 2), (10, 3), (10, 4), (10, 5), (10, 6), (14, 0), (14, 1), (14, 2), (14, 3), (14, 4), (11, 0), (11, 1), (11, 2), (11, 3), (12, 0), (12, 1), (12, 2), (12, 3), (12, 4), (12, 5), (12, 6), (12, 7), (13, 0)] rfl
set_option maxRecDepth 100000 in
theorem gL_returns_X10_takeSnapshot : GoodIn wsL_returns (wsV RL 200 RX10 yX10_takeSnapshot wsX10_takeSnapshot) := goodIn_app (goodIn_ch ch_returns chi_returns chg_returns [(3, 17), (3, 18), (3, 19), (0, 8)] rfl) ggL_returns_X10_takeSnapshot
set_option maxRecDepth 100000 in
theorem ggL_returns_X10_savedStates : GoodIn wsL_returns wsX10_savedStates := goodIn_ch ch_returns chi_returns chg_returns [(5, 4), (3, 21), (10, 0), (10, 1), (10, 2), (10, 3), (10, 4), (10, 5), (10, 6), (14, 0), (14, 1), (14, 2), (14, 3), (14, 4)] rfl
set_option maxRecDepth 100000 in
theorem gL_returns_X10_savedStates : GoodIn wsL_returns (wsV RL 203 RX10 yX10_savedStates wsX10_savedStates) := goodIn_app (goodIn_ch ch_returns chi_returns chg_returns [(5, 1), (5, 2), (5, 3), (0, 8)] rfl) ggL_returns_X10_savedStates
set_option maxRecDepth 100000 in
theorem ggL_returns_X10_day : GoodIn wsL_returns wsX10_day := goodIn_ch ch_returns chi_returns chg_returns [(0, 9), (0, 10), (10, 0), (10, 1), (10, 2), (10, 3), (10, 4), (10, 5), (10, 6), (11, 0), (11, 1), (11, 2), (11, 3)] rfl
set_option maxRecDepth 100000 in
theorem gL_returns_X10_day : GoodIn wsL_returns (wsV RL 104 RX10 yX10_day wsX10_day) := goodIn_app (goodIn_ch ch_returns chi_returns chg_returns [(0, 5), (0, 6), (0, 7), (0, 8)] rfl) ggL_returns_X10_day
set_option maxRecDepth 100000 in
theorem ggL_returns_X10_pamphlets : GoodIn wsL_returns wsX10_pamphlets := goodIn_ch ch_returns chi_returns chg_returns [(0, 14), (0, 10), (10, 0), (10, 1), (10, 2), (10, 3), (10, 4), (10, 5), (10, 6), (11, 0), (11, 1), (11, 2), (11, 3)] rfl
set_option maxRecDepth 100000 in
theorem gL_returns_X10_pamphlets : GoodIn wsL_returns (wsV RL 79 RX10 yX10_pamphlets wsX10_pamphlets) := goodIn_app (goodIn_ch ch_returns chi_returns chg_returns [(0, 11), (0, 12), (0, 13), (0, 8)] rfl) ggL_returns_X10_pamphlets
set_option maxRecDepth 100000 in
theorem ggL_returns_X10_pass : GoodIn wsL_returns wsX10_pass := goodIn_ca (goodIn_ch ch_returns chi_returns chg_returns [(5, 8), (5, 9), (5, 10), (3, 21), (0, 10), (5, 11), (5, 12), (5, 13), (5, 14), (5, 15), (5, 16), (5, 17), (5, 18), (5, 19), (5, 20), (5, 21), (5, 22), (5, 23), (3, 23), (4, 0), (1, 4), (4, 1), (1, 6), (4, 2), (4, 3), (1, 8), (1, 9), (1, 10), (1, 11), (1, 12), (4, 4), (4, 5), (4, 6), (4, 7), (4, 8), (4, 9), (4, 10), (4, 11), (4, 12), (4, 13), (4, 14), (4, 15), (4, 16), (4, 17), (4, 18), (4, 19), (2, 11), (4, 20), (2, 13), (4, 21), (4, 22), (4, 23), (5, 0), (10, 0), (10, 1), (10, 2), (10, 3), (10, 4), (10, 5), (10, 6), (11, 0), (11, 1), (11, 2), (11, 3), (14, 0), (14, 1), (14, 2), (14, 3), (14, 4), (12, 0), (12, 1), (12, 2), (12, 3), (12, 4), (12, 5), (12, 6), (12, 7), (13, 0)] rfl) (goodIn_sub (fun _ h => List.mem_cons_of_mem _ (List.mem_append_left _ (List.mem_append_right _ h))) (by decide +kernel))
set_option maxRecDepth 100000 in
theorem gL_returns_X10_pass : GoodIn wsL_returns (wsV RL 206 RX10 yX10_pass wsX10_pass) := goodIn_app (goodIn_ch ch_returns chi_returns chg_returns [(5, 5), (5, 6), (5, 7), (0, 8)] rfl) ggL_returns_X10_pass
set_option maxRecDepth 100000 in
theorem ggL_returns_X10_mendAll : GoodIn wsL_returns wsX10_mendAll := goodIn_ch ch_returns chi_returns chg_returns [(6, 3), (3, 21), (0, 10), (6, 4), (5, 11), (5, 12), (5, 13), (5, 14), (5, 15), (5, 16), (5, 17), (5, 18), (5, 19), (5, 20), (5, 21), (5, 22), (5, 23), (3, 23), (4, 0), (1, 4), (4, 1), (1, 6), (4, 2), (4, 3), (1, 8), (1, 9), (1, 10), (1, 11), (1, 12), (4, 4), (4, 5), (4, 6), (4, 7), (4, 8), (4, 9), (4, 10), (4, 11), (4, 12), (4, 13), (4, 14), (4, 15), (4, 16), (4, 17), (4, 18), (4, 19), (2, 11), (4, 20), (2, 13), (4, 21), (4, 22), (4, 23), (5, 0), (6, 5), (6, 6), (6, 7), (6, 8), (6, 9), (6, 10), (6, 11), (6, 12), (6, 13), (6, 14), (6, 15), (6, 16), (3, 6), (3, 7), (3, 8), (6, 17), (6, 18), (6, 19), (6, 20), (6, 21), (6, 22), (6, 23), (7, 0), (7, 1), (7, 2), (7, 3), (7, 4), (2, 9), (2, 10), (2, 12), (7, 5), (7, 6), (7, 7), (7, 8), (7, 9), (7, 10), (7, 11), (7, 12), (7, 13), (7, 14), (7, 15), (7, 16), (7, 17), (7, 18), (7, 19), (7, 20), (7, 21), (7, 22), (7, 23), (8, 0), (8, 1), (8, 2), (8, 3), (8, 4), (8, 5), (8, 6), (8, 7), (8, 8), (8, 9), (8, 10), (8, 11), (8, 12), (8, 13), (8, 14), (8, 15), (8, 16), (8, 17), (8, 18), (8, 19), (10, 0), (10, 1), (10, 2), (10, 3), (10, 4), (10, 5), (10, 6), (11, 0), (11, 1), (11, 2), (11, 3), (14, 0), (14, 1), (14, 2), (14, 3), (14, 4), (12, 0), (12, 1), (12, 2), (12, 3), (12, 4), (12, 5), (12, 6), (12, 7), (13, 0), (15, 0), (15, 1), (15, 2), (16, 0), (16, 1), (16, 2), (16, 3)] rfl
set_option maxRecDepth 100000 in
theorem gL_returns_X10_mendAll : GoodIn wsL_returns (wsV RL 197 RX10 yX10_mendAll wsX10_mendAll) := goodIn_app (goodIn_ch ch_returns chi_returns chg_returns [(6, 0), (6, 1), (6, 2), (0, 8)] rfl) ggL_returns_X10_mendAll
set_option maxRecDepth 100000 in
theorem ggL_returns_X10_restoreSnapshot : GoodIn wsL_returns wsX10_restoreSnapshot := goodIn_ca (goodIn_ch ch_returns chi_returns chg_returns [(8, 23), (9, 0), (9, 1), (3, 21), (0, 10), (5, 11), (5, 12), (5, 13), (5, 14), (5, 15), (5, 16), (5, 17), (5, 18), (5, 19), (5, 20), (5, 21), (5, 22), (5, 23), (3, 23), (4, 0), (1, 4), (4, 1), (1, 6), (4, 2), (4, 3), (1, 8), (1, 9), (1, 10), (1, 11), (1, 12), (4, 4), (4, 5), (4, 6), (4, 7), (4, 8), (4, 9), (4, 10), (4, 11), (4, 12), (4, 13), (4, 14), (4, 15), (4, 16), (4, 17), (4, 18), (4, 19), (2, 11), (4, 20), (2, 13), (4, 21), (4, 22), (4, 23), (5, 0), (3, 22), (10, 0), (10, 1), (10, 2), (10, 3), (10, 4), (10, 5), (10, 6), (14, 0), (14, 1), (14, 2), (14, 3), (14, 4), (11, 0), (11, 1), (11, 2), (11, 3), (12, 0), (12, 1), (12, 2), (12, 3), (12, 4), (12, 5), (12, 6), (12, 7), (13, 0)] rfl) (goodIn_sub (fun _ h => List.mem_cons_of_mem _ (List.mem_append_right _ h)) (by decide +kernel))
set_option maxRecDepth 100000 in
theorem gL_returns_X10_restoreSnapshot : GoodIn wsL_returns (wsV RL 209 RX10 yX10_restoreSnapshot wsX10_restoreSnapshot) := goodIn_app (goodIn_ch ch_returns chi_returns chg_returns [(8, 20), (8, 21), (8, 22), (0, 8)] rfl) ggL_returns_X10_restoreSnapshot
set_option maxRecDepth 100000 in
theorem ggL_returns_X10_undo : GoodIn wsL_returns wsX10_undo := goodIn_ca (goodIn_ch ch_returns chi_returns chg_returns [(9, 5), (9, 0), (9, 1), (3, 21), (0, 10), (9, 6), (9, 7), (9, 8), (5, 14), (9, 9), (5, 16), (5, 18), (5, 19), (5, 20), (5, 21), (5, 17), (5, 22), (5, 23), (3, 23), (4, 0), (1, 4), (4, 1), (1, 6), (4, 2), (4, 3), (1, 8), (1, 9), (1, 10), (1, 11), (1, 12), (4, 4), (4, 5), (4, 6), (4, 7), (4, 8), (4, 9), (4, 10), (4, 11), (4, 12), (4, 13), (4, 14), (4, 15), (4, 16), (4, 17), (4, 18), (4, 19), (2, 11), (4, 20), (2, 13), (4, 21), (4, 22), (4, 23), (5, 0), (10, 0), (10, 1), (10, 2), (10, 3), (10, 4), (10, 5), (10, 6), (14, 0), (14, 1), (14, 2), (14, 3), (14, 4), (11, 0), (11, 1), (11, 2), (11, 3), (12, 0), (12, 1), (12, 2), (12, 3), (12, 4), (12, 5), (12, 6), (12, 7), (13, 0)] rfl) (goodIn_sub (fun _ h => List.mem_cons_of_mem _ (List.mem_append_right _ h)) (by decide +kernel))
set_option maxRecDepth 100000 in
theorem gL_returns_X10_undo : GoodIn wsL_returns (wsV RL 212 RX10 yX10_undo wsX10_undo) := goodIn_app (goodIn_ch ch_returns chi_returns chg_returns [(9, 2), (9, 3), (9, 4), (0, 8)] rfl) ggL_returns_X10_undo
theorem dL_returns_0 : decode cL_returns 0 = .ok (.aload_n 0, 1) := by decide +kernel
theorem dL_returns_1 : decode cL_returns 1 = .ok (.invokestatic 193, 3) := by decide +kernel
theorem dL_returns_4 : decode cL_returns 4 = .ok (.lstore_n 1, 1) := by decide +kernel
theorem dL_returns_5 : decode cL_returns 5 = .ok (.aload_n 0, 1) := by decide +kernel
theorem dL_returns_6 : decode cL_returns 6 = .ok (.invokevirtual 200, 3) := by decide +kernel
theorem dL_returns_9 : decode cL_returns 9 = .ok (.istore_n 3, 1) := by decide +kernel
theorem dL_returns_10 : decode cL_returns 10 = .ok (.aload_n 0, 1) := by decide +kernel
theorem dL_returns_11 : decode cL_returns 11 = .ok (.invokevirtual 203, 3) := by decide +kernel
theorem dL_returns_14 : decode cL_returns 14 = .ok (.istore 4, 2) := by decide +kernel
theorem dL_returns_16 : decode cL_returns 16 = .ok (.aload_n 0, 1) := by decide +kernel
theorem dL_returns_17 : decode cL_returns 17 = .ok (.invokevirtual 104, 3) := by decide +kernel
theorem dL_returns_20 : decode cL_returns 20 = .ok (.istore 5, 2) := by decide +kernel
theorem dL_returns_22 : decode cL_returns 22 = .ok (.iload_n 3, 1) := by decide +kernel
theorem dL_returns_23 : decode cL_returns 23 = .ok (.aload_n 0, 1) := by decide +kernel
theorem dL_returns_24 : decode cL_returns 24 = .ok (.invokevirtual 79, 3) := by decide +kernel
theorem dL_returns_27 : decode cL_returns 27 = .ok (.if_icmp .ne 49, 3) := by decide +kernel
theorem dL_returns_30 : decode cL_returns 30 = .ok (.aload_n 0, 1) := by decide +kernel
theorem dL_returns_31 : decode cL_returns 31 = .ok (.iconst 3, 1) := by decide +kernel
theorem dL_returns_32 : decode cL_returns 32 = .ok (.invokevirtual 206, 3) := by decide +kernel
theorem dL_returns_35 : decode cL_returns 35 = .ok (.iload 5, 2) := by decide +kernel
theorem dL_returns_37 : decode cL_returns 37 = .ok (.iconst 3, 1) := by decide +kernel
theorem dL_returns_38 : decode cL_returns 38 = .ok (.iadd, 1) := by decide +kernel
theorem dL_returns_39 : decode cL_returns 39 = .ok (.if_icmp .ne 37, 3) := by decide +kernel
theorem dL_returns_42 : decode cL_returns 42 = .ok (.aload_n 0, 1) := by decide +kernel
theorem dL_returns_43 : decode cL_returns 43 = .ok (.invokevirtual 197, 3) := by decide +kernel
theorem dL_returns_46 : decode cL_returns 46 = .ok (.ifCond .lt 30, 3) := by decide +kernel
theorem dL_returns_49 : decode cL_returns 49 = .ok (.aload_n 0, 1) := by decide +kernel
theorem dL_returns_50 : decode cL_returns 50 = .ok (.invokevirtual 203, 3) := by decide +kernel
theorem dL_returns_53 : decode cL_returns 53 = .ok (.iload 4, 2) := by decide +kernel
theorem dL_returns_55 : decode cL_returns 55 = .ok (.iconst 2, 1) := by decide +kernel
theorem dL_returns_56 : decode cL_returns 56 = .ok (.iadd, 1) := by decide +kernel
theorem dL_returns_57 : decode cL_returns 57 = .ok (.iconst 5, 1) := by decide +kernel
theorem dL_returns_58 : decode cL_returns 58 = .ok (.if_icmp .le 7, 3) := by decide +kernel
theorem dL_returns_61 : decode cL_returns 61 = .ok (.iconst 5, 1) := by decide +kernel
theorem dL_returns_62 : decode cL_returns 62 = .ok (.goto 7, 3) := by decide +kernel
theorem dL_returns_65 : decode cL_returns 65 = .ok (.iload 4, 2) := by decide +kernel
theorem dL_returns_67 : decode cL_returns 67 = .ok (.iconst 2, 1) := by decide +kernel
theorem dL_returns_68 : decode cL_returns 68 = .ok (.iadd, 1) := by decide +kernel
theorem dL_returns_69 : decode cL_returns 69 = .ok (.if_icmp .ne 7, 3) := by decide +kernel
theorem dL_returns_72 : decode cL_returns 72 = .ok (.iconst 1, 1) := by decide +kernel
theorem dL_returns_73 : decode cL_returns 73 = .ok (.goto 4, 3) := by decide +kernel
theorem dL_returns_76 : decode cL_returns 76 = .ok (.iconst 0, 1) := by decide +kernel
theorem dL_returns_77 : decode cL_returns 77 = .ok (.istore 6, 2) := by decide +kernel
theorem dL_returns_79 : decode cL_returns 79 = .ok (.iload 6, 2) := by decide +kernel
theorem dL_returns_81 : decode cL_returns 81 = .ok (.ifCond .eq 56, 3) := by decide +kernel
theorem dL_returns_84 : decode cL_returns 84 = .ok (.aload_n 0, 1) := by decide +kernel
theorem dL_returns_85 : decode cL_returns 85 = .ok (.invokevirtual 209, 3) := by decide +kernel
theorem dL_returns_88 : decode cL_returns 88 = .ok (.iload_n 3, 1) := by decide +kernel
theorem dL_returns_89 : decode cL_returns 89 = .ok (.if_icmp .ne 48, 3) := by decide +kernel
theorem dL_returns_92 : decode cL_returns 92 = .ok (.aload_n 0, 1) := by decide +kernel
theorem dL_returns_93 : decode cL_returns 93 = .ok (.invokestatic 193, 3) := by decide +kernel
theorem dL_returns_96 : decode cL_returns 96 = .ok (.lload_n 1, 1) := by decide +kernel
theorem dL_returns_97 : decode cL_returns 97 = .ok (.lcmp, 1) := by decide +kernel
theorem dL_returns_98 : decode cL_returns 98 = .ok (.ifCond .ne 39, 3) := by decide +kernel
theorem dL_returns_101 : decode cL_returns 101 = .ok (.aload_n 0, 1) := by decide +kernel
theorem dL_returns_102 : decode cL_returns 102 = .ok (.invokevirtual 212, 3) := by decide +kernel
theorem dL_returns_105 : decode cL_returns 105 = .ok (.ifCond .lt 32, 3) := by decide +kernel
theorem dL_returns_108 : decode cL_returns 108 = .ok (.aload_n 0, 1) := by decide +kernel
theorem dL_returns_109 : decode cL_returns 109 = .ok (.invokevirtual 104, 3) := by decide +kernel
theorem dL_returns_112 : decode cL_returns 112 = .ok (.iload 5, 2) := by decide +kernel
theorem dL_returns_114 : decode cL_returns 114 = .ok (.iconst 3, 1) := by decide +kernel
theorem dL_returns_115 : decode cL_returns 115 = .ok (.iadd, 1) := by decide +kernel
theorem dL_returns_116 : decode cL_returns 116 = .ok (.if_icmp .ne 21, 3) := by decide +kernel
theorem dL_returns_119 : decode cL_returns 119 = .ok (.aload_n 0, 1) := by decide +kernel
theorem dL_returns_120 : decode cL_returns 120 = .ok (.invokevirtual 212, 3) := by decide +kernel
theorem dL_returns_123 : decode cL_returns 123 = .ok (.ifCond .lt 14, 3) := by decide +kernel
theorem dL_returns_126 : decode cL_returns 126 = .ok (.aload_n 0, 1) := by decide +kernel
theorem dL_returns_127 : decode cL_returns 127 = .ok (.invokevirtual 212, 3) := by decide +kernel
theorem dL_returns_130 : decode cL_returns 130 = .ok (.ifCond .lt 7, 3) := by decide +kernel
theorem dL_returns_133 : decode cL_returns 133 = .ok (.iconst 1, 1) := by decide +kernel
theorem dL_returns_134 : decode cL_returns 134 = .ok (.goto 4, 3) := by decide +kernel
theorem dL_returns_137 : decode cL_returns 137 = .ok (.iconst 0, 1) := by decide +kernel
theorem dL_returns_138 : decode cL_returns 138 = .ok (.istore 6, 2) := by decide +kernel
theorem dL_returns_140 : decode cL_returns 140 = .ok (.iload 6, 2) := by decide +kernel
theorem dL_returns_142 : decode cL_returns 142 = .ok (.ifCond .eq 16, 3) := by decide +kernel
theorem dL_returns_145 : decode cL_returns 145 = .ok (.aload_n 0, 1) := by decide +kernel
theorem dL_returns_146 : decode cL_returns 146 = .ok (.invokestatic 193, 3) := by decide +kernel
theorem dL_returns_149 : decode cL_returns 149 = .ok (.lload_n 1, 1) := by decide +kernel
theorem dL_returns_150 : decode cL_returns 150 = .ok (.lcmp, 1) := by decide +kernel
theorem dL_returns_151 : decode cL_returns 151 = .ok (.ifCond .ne 7, 3) := by decide +kernel
theorem dL_returns_154 : decode cL_returns 154 = .ok (.iconst 1, 1) := by decide +kernel
theorem dL_returns_155 : decode cL_returns 155 = .ok (.goto 4, 3) := by decide +kernel
theorem dL_returns_158 : decode cL_returns 158 = .ok (.iconst 0, 1) := by decide +kernel
theorem dL_returns_159 : decode cL_returns 159 = .ok (.ireturn, 1) := by decide +kernel
